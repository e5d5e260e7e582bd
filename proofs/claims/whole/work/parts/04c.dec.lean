theorem dX10_treads_79 : decode cX10_treads 79 = .ok (.aload_n 0, 1) := by decide +kernel
theorem dX10_treads_80 : decode cX10_treads 80 = .ok (.getfield 9, 3) := by decide +kernel
theorem dX10_treads_83 : decode cX10_treads 83 = .ok (.bipush 7, 2) := by decide +kernel
theorem dX10_treads_85 : decode cX10_treads 85 = .ok (.iconst 2, 1) := by decide +kernel
theorem dX10_treads_86 : decode cX10_treads 86 = .ok (.aload_n 0, 1) := by decide +kernel
theorem dX10_treads_87 : decode cX10_treads 87 = .ok (.getfield 9, 3) := by decide +kernel
theorem dX10_treads_90 : decode cX10_treads 90 = .ok (.iconst 3, 1) := by decide +kernel
theorem dX10_treads_91 : decode cX10_treads 91 = .ok (.iaload, 1) := by decide +kernel
theorem dX10_treads_92 : decode cX10_treads 92 = .ok (.imul, 1) := by decide +kernel
theorem dX10_treads_93 : decode cX10_treads 93 = .ok (.iadd, 1) := by decide +kernel
theorem dX10_treads_94 : decode cX10_treads 94 = .ok (.iconst 1, 1) := by decide +kernel
theorem dX10_treads_95 : decode cX10_treads 95 = .ok (.iadd, 1) := by decide +kernel
theorem dX10_treads_96 : decode cX10_treads 96 = .ok (.iload_n 2, 1) := by decide +kernel
theorem dX10_treads_97 : decode cX10_treads 97 = .ok (.iastore, 1) := by decide +kernel
theorem dX10_treads_98 : decode cX10_treads 98 = .ok (.aload_n 0, 1) := by decide +kernel
theorem dX10_treads_99 : decode cX10_treads 99 = .ok (.getfield 9, 3) := by decide +kernel
theorem dX10_treads_102 : decode cX10_treads 102 = .ok (.iconst 3, 1) := by decide +kernel
theorem dX10_treads_103 : decode cX10_treads 103 = .ok (.dup2, 1) := by decide +kernel
theorem dX10_treads_104 : decode cX10_treads 104 = .ok (.iaload, 1) := by decide +kernel
theorem dX10_treads_105 : decode cX10_treads 105 = .ok (.dup_x2, 1) := by decide +kernel
theorem dX10_treads_106 : decode cX10_treads 106 = .ok (.iconst 1, 1) := by decide +kernel
theorem dX10_treads_107 : decode cX10_treads 107 = .ok (.iadd, 1) := by decide +kernel
theorem dX10_treads_108 : decode cX10_treads 108 = .ok (.iastore, 1) := by decide +kernel
theorem dX10_treads_109 : decode cX10_treads 109 = .ok (.ireturn, 1) := by decide +kernel
theorem dX10_tread_0 : decode cX10_tread 0 = .ok (.aload_n 0, 1) := by decide +kernel
theorem dX10_tread_1 : decode cX10_tread 1 = .ok (.invokevirtual 146, 3) := by decide +kernel
theorem dX10_tread_4 : decode cX10_tread 4 = .ok (.aload_n 0, 1) := by decide +kernel
theorem dX10_tread_5 : decode cX10_tread 5 = .ok (.aload_n 0, 1) := by decide +kernel
theorem dX10_tread_6 : decode cX10_tread 6 = .ok (.iload_n 1, 1) := by decide +kernel
theorem dX10_tread_7 : decode cX10_tread 7 = .ok (.iload_n 2, 1) := by decide +kernel
theorem dX10_tread_8 : decode cX10_tread 8 = .ok (.invokevirtual 162, 3) := by decide +kernel
theorem dX10_tread_11 : decode cX10_tread 11 = .ok (.invokevirtual 153, 3) := by decide +kernel
theorem dX10_tread_14 : decode cX10_tread 14 = .ok (.ireturn, 1) := by decide +kernel
theorem dX10_grows_0 : decode cX10_grows 0 = .ok (.aload_n 0, 1) := by decide +kernel
theorem dX10_grows_1 : decode cX10_grows 1 = .ok (.iload_n 1, 1) := by decide +kernel
theorem dX10_grows_2 : decode cX10_grows 2 = .ok (.iload_n 2, 1) := by decide +kernel
theorem dX10_grows_3 : decode cX10_grows 3 = .ok (.invokevirtual 156, 3) := by decide +kernel
theorem dX10_grows_6 : decode cX10_grows 6 = .ok (.ifCond .ge 5, 3) := by decide +kernel
theorem dX10_grows_9 : decode cX10_grows 9 = .ok (.iconst (-1), 1) := by decide +kernel
theorem dX10_grows_10 : decode cX10_grows 10 = .ok (.ireturn, 1) := by decide +kernel
theorem dX10_grows_11 : decode cX10_grows 11 = .ok (.aload_n 0, 1) := by decide +kernel
theorem dX10_grows_12 : decode cX10_grows 12 = .ok (.iload_n 1, 1) := by decide +kernel
theorem dX10_grows_13 : decode cX10_grows 13 = .ok (.iload_n 2, 1) := by decide +kernel
theorem dX10_grows_14 : decode cX10_grows 14 = .ok (.invokevirtual 159, 3) := by decide +kernel
theorem dX10_grows_17 : decode cX10_grows 17 = .ok (.istore_n 3, 1) := by decide +kernel
theorem dX10_grows_18 : decode cX10_grows 18 = .ok (.iload_n 3, 1) := by decide +kernel
theorem dX10_grows_19 : decode cX10_grows 19 = .ok (.ifCond .ge 11, 3) := by decide +kernel
theorem dX10_grows_22 : decode cX10_grows 22 = .ok (.aload_n 0, 1) := by decide +kernel
theorem dX10_grows_23 : decode cX10_grows 23 = .ok (.bipush 6, 2) := by decide +kernel
theorem dX10_grows_25 : decode cX10_grows 25 = .ok (.iload_n 1, 1) := by decide +kernel
theorem dX10_grows_26 : decode cX10_grows 26 = .ok (.invokevirtual 140, 3) := by decide +kernel
theorem dX10_grows_29 : decode cX10_grows 29 = .ok (.ireturn, 1) := by decide +kernel
theorem dX10_grows_30 : decode cX10_grows 30 = .ok (.aload_n 0, 1) := by decide +kernel
theorem dX10_grows_31 : decode cX10_grows 31 = .ok (.invokevirtual 143, 3) := by decide +kernel
theorem dX10_grows_34 : decode cX10_grows 34 = .ok (.aload_n 0, 1) := by decide +kernel
theorem dX10_grows_35 : decode cX10_grows 35 = .ok (.getfield 9, 3) := by decide +kernel
theorem dX10_grows_38 : decode cX10_grows 38 = .ok (.iconst 3, 1) := by decide +kernel
theorem dX10_grows_39 : decode cX10_grows 39 = .ok (.dup2, 1) := by decide +kernel
theorem dX10_grows_40 : decode cX10_grows 40 = .ok (.iaload, 1) := by decide +kernel
theorem dX10_grows_41 : decode cX10_grows 41 = .ok (.iconst 1, 1) := by decide +kernel
theorem dX10_grows_42 : decode cX10_grows 42 = .ok (.isub, 1) := by decide +kernel
theorem dX10_grows_43 : decode cX10_grows 43 = .ok (.iastore, 1) := by decide +kernel
theorem dX10_grows_44 : decode cX10_grows 44 = .ok (.bipush 7, 2) := by decide +kernel
theorem dX10_grows_46 : decode cX10_grows 46 = .ok (.iconst 2, 1) := by decide +kernel
theorem dX10_grows_47 : decode cX10_grows 47 = .ok (.iload_n 3, 1) := by decide +kernel
theorem dX10_grows_48 : decode cX10_grows 48 = .ok (.imul, 1) := by decide +kernel
theorem dX10_grows_49 : decode cX10_grows 49 = .ok (.iadd, 1) := by decide +kernel
theorem dX10_grows_50 : decode cX10_grows 50 = .ok (.istore 4, 2) := by decide +kernel
theorem dX10_grows_52 : decode cX10_grows 52 = .ok (.iload 4, 2) := by decide +kernel
theorem dX10_grows_54 : decode cX10_grows 54 = .ok (.bipush 7, 2) := by decide +kernel
theorem dX10_grows_56 : decode cX10_grows 56 = .ok (.iconst 2, 1) := by decide +kernel
theorem dX10_grows_57 : decode cX10_grows 57 = .ok (.aload_n 0, 1) := by decide +kernel
theorem dX10_grows_58 : decode cX10_grows 58 = .ok (.getfield 9, 3) := by decide +kernel
theorem dX10_grows_61 : decode cX10_grows 61 = .ok (.iconst 3, 1) := by decide +kernel
theorem dX10_grows_62 : decode cX10_grows 62 = .ok (.iaload, 1) := by decide +kernel
theorem dX10_grows_63 : decode cX10_grows 63 = .ok (.imul, 1) := by decide +kernel
theorem dX10_grows_64 : decode cX10_grows 64 = .ok (.iadd, 1) := by decide +kernel
theorem dX10_grows_65 : decode cX10_grows 65 = .ok (.if_icmp .ge 25, 3) := by decide +kernel
theorem dX10_grows_68 : decode cX10_grows 68 = .ok (.aload_n 0, 1) := by decide +kernel
theorem dX10_grows_69 : decode cX10_grows 69 = .ok (.getfield 9, 3) := by decide +kernel
theorem dX10_grows_72 : decode cX10_grows 72 = .ok (.iload 4, 2) := by decide +kernel
theorem dX10_grows_74 : decode cX10_grows 74 = .ok (.aload_n 0, 1) := by decide +kernel
theorem dX10_grows_75 : decode cX10_grows 75 = .ok (.getfield 9, 3) := by decide +kernel
theorem dX10_grows_78 : decode cX10_grows 78 = .ok (.iload 4, 2) := by decide +kernel
theorem dX10_grows_80 : decode cX10_grows 80 = .ok (.iconst 2, 1) := by decide +kernel
theorem dX10_grows_81 : decode cX10_grows 81 = .ok (.iadd, 1) := by decide +kernel
theorem dX10_grows_82 : decode cX10_grows 82 = .ok (.iaload, 1) := by decide +kernel
theorem dX10_grows_83 : decode cX10_grows 83 = .ok (.iastore, 1) := by decide +kernel
theorem dX10_grows_84 : decode cX10_grows 84 = .ok (.iinc 4 1, 3) := by decide +kernel
theorem dX10_grows_87 : decode cX10_grows 87 = .ok (.goto (-35), 3) := by decide +kernel
theorem dX10_grows_90 : decode cX10_grows 90 = .ok (.aload_n 0, 1) := by decide +kernel
theorem dX10_grows_91 : decode cX10_grows 91 = .ok (.getfield 9, 3) := by decide +kernel
theorem dX10_grows_94 : decode cX10_grows 94 = .ok (.iconst 3, 1) := by decide +kernel
theorem dX10_grows_95 : decode cX10_grows 95 = .ok (.iaload, 1) := by decide +kernel
theorem dX10_grows_96 : decode cX10_grows 96 = .ok (.ireturn, 1) := by decide +kernel
theorem dX10_grow_0 : decode cX10_grow 0 = .ok (.aload_n 0, 1) := by decide +kernel
theorem dX10_grow_1 : decode cX10_grow 1 = .ok (.invokevirtual 146, 3) := by decide +kernel
theorem dX10_grow_4 : decode cX10_grow 4 = .ok (.aload_n 0, 1) := by decide +kernel
theorem dX10_grow_5 : decode cX10_grow 5 = .ok (.aload_n 0, 1) := by decide +kernel
theorem dX10_grow_6 : decode cX10_grow 6 = .ok (.iload_n 1, 1) := by decide +kernel
theorem dX10_grow_7 : decode cX10_grow 7 = .ok (.iload_n 2, 1) := by decide +kernel
theorem dX10_grow_8 : decode cX10_grow 8 = .ok (.invokevirtual 165, 3) := by decide +kernel
theorem dX10_grow_11 : decode cX10_grow 11 = .ok (.invokevirtual 153, 3) := by decide +kernel
theorem dX10_grow_14 : decode cX10_grow 14 = .ok (.ireturn, 1) := by decide +kernel
theorem dX10_traps_0 : decode cX10_traps 0 = .ok (.aload_n 0, 1) := by decide +kernel
theorem dX10_traps_1 : decode cX10_traps 1 = .ok (.iload_n 1, 1) := by decide +kernel
theorem dX10_traps_2 : decode cX10_traps 2 = .ok (.invokevirtual 81, 3) := by decide +kernel
theorem dX10_traps_5 : decode cX10_traps 5 = .ok (.ifCond .ne 10, 3) := by decide +kernel
theorem dX10_traps_8 : decode cX10_traps 8 = .ok (.aload_n 0, 1) := by decide +kernel
theorem dX10_traps_9 : decode cX10_traps 9 = .ok (.iconst 3, 1) := by decide +kernel
theorem dX10_traps_10 : decode cX10_traps 10 = .ok (.iload_n 1, 1) := by decide +kernel
theorem dX10_traps_11 : decode cX10_traps 11 = .ok (.invokevirtual 140, 3) := by decide +kernel
theorem dX10_traps_14 : decode cX10_traps 14 = .ok (.ireturn, 1) := by decide +kernel
theorem dX10_traps_15 : decode cX10_traps 15 = .ok (.aload_n 0, 1) := by decide +kernel
theorem dX10_traps_16 : decode cX10_traps 16 = .ok (.iload_n 1, 1) := by decide +kernel
theorem dX10_traps_17 : decode cX10_traps 17 = .ok (.invokevirtual 97, 3) := by decide +kernel
theorem dX10_traps_20 : decode cX10_traps 20 = .ok (.iload_n 2, 1) := by decide +kernel
theorem dX10_traps_21 : decode cX10_traps 21 = .ok (.if_icmp .ne 10, 3) := by decide +kernel
theorem dX10_traps_24 : decode cX10_traps 24 = .ok (.aload_n 0, 1) := by decide +kernel
theorem dX10_traps_25 : decode cX10_traps 25 = .ok (.iconst 5, 1) := by decide +kernel
theorem dX10_traps_26 : decode cX10_traps 26 = .ok (.iconst 0, 1) := by decide +kernel
theorem dX10_traps_27 : decode cX10_traps 27 = .ok (.invokevirtual 140, 3) := by decide +kernel
theorem dX10_traps_30 : decode cX10_traps 30 = .ok (.ireturn, 1) := by decide +kernel
theorem dX10_traps_31 : decode cX10_traps 31 = .ok (.aload_n 0, 1) := by decide +kernel
theorem dX10_traps_32 : decode cX10_traps 32 = .ok (.invokevirtual 143, 3) := by decide +kernel
theorem dX10_traps_35 : decode cX10_traps 35 = .ok (.aload_n 0, 1) := by decide +kernel
theorem dX10_traps_36 : decode cX10_traps 36 = .ok (.getfield 9, 3) := by decide +kernel
theorem dX10_traps_39 : decode cX10_traps 39 = .ok (.iconst 1, 1) := by decide +kernel
theorem dX10_traps_40 : decode cX10_traps 40 = .ok (.dup2, 1) := by decide +kernel
theorem dX10_traps_41 : decode cX10_traps 41 = .ok (.iaload, 1) := by decide +kernel
theorem dX10_traps_42 : decode cX10_traps 42 = .ok (.iconst 1, 1) := by decide +kernel
theorem dX10_traps_43 : decode cX10_traps 43 = .ok (.iload_n 1, 1) := by decide +kernel
theorem dX10_traps_44 : decode cX10_traps 44 = .ok (.ishl, 1) := by decide +kernel
theorem dX10_traps_45 : decode cX10_traps 45 = .ok (.ixor, 1) := by decide +kernel
theorem dX10_traps_46 : decode cX10_traps 46 = .ok (.iastore, 1) := by decide +kernel
theorem dX10_traps_47 : decode cX10_traps 47 = .ok (.aload_n 0, 1) := by decide +kernel
theorem dX10_traps_48 : decode cX10_traps 48 = .ok (.getfield 9, 3) := by decide +kernel
theorem dX10_traps_51 : decode cX10_traps 51 = .ok (.iconst 1, 1) := by decide +kernel
theorem dX10_traps_52 : decode cX10_traps 52 = .ok (.iaload, 1) := by decide +kernel
theorem dX10_traps_53 : decode cX10_traps 53 = .ok (.invokestatic 168, 3) := by decide +kernel
theorem dX10_traps_56 : decode cX10_traps 56 = .ok (.ireturn, 1) := by decide +kernel
theorem dX10_trap_0 : decode cX10_trap 0 = .ok (.aload_n 0, 1) := by decide +kernel
theorem dX10_trap_1 : decode cX10_trap 1 = .ok (.invokevirtual 146, 3) := by decide +kernel
theorem dX10_trap_4 : decode cX10_trap 4 = .ok (.aload_n 0, 1) := by decide +kernel
theorem dX10_trap_5 : decode cX10_trap 5 = .ok (.aload_n 0, 1) := by decide +kernel
theorem dX10_trap_6 : decode cX10_trap 6 = .ok (.iload_n 1, 1) := by decide +kernel
theorem dX10_trap_7 : decode cX10_trap 7 = .ok (.iload_n 2, 1) := by decide +kernel
theorem dX10_trap_8 : decode cX10_trap 8 = .ok (.invokevirtual 173, 3) := by decide +kernel
theorem dX10_trap_11 : decode cX10_trap 11 = .ok (.invokevirtual 153, 3) := by decide +kernel
theorem dX10_trap_14 : decode cX10_trap 14 = .ok (.ireturn, 1) := by decide +kernel
theorem dX10_flocks_0 : decode cX10_flocks 0 = .ok (.iload_n 1, 1) := by decide +kernel
theorem dX10_flocks_1 : decode cX10_flocks 1 = .ok (.iconst 1, 1) := by decide +kernel
theorem dX10_flocks_2 : decode cX10_flocks 2 = .ok (.iconst 2, 1) := by decide +kernel
theorem dX10_flocks_3 : decode cX10_flocks 3 = .ok (.invokestatic 77, 3) := by decide +kernel
theorem dX10_flocks_6 : decode cX10_flocks 6 = .ok (.ifCond .ne 10, 3) := by decide +kernel
theorem dX10_flocks_9 : decode cX10_flocks 9 = .ok (.aload_n 0, 1) := by decide +kernel
theorem dX10_flocks_10 : decode cX10_flocks 10 = .ok (.iconst 1, 1) := by decide +kernel
theorem dX10_flocks_11 : decode cX10_flocks 11 = .ok (.iconst 0, 1) := by decide +kernel
theorem dX10_flocks_12 : decode cX10_flocks 12 = .ok (.invokevirtual 140, 3) := by decide +kernel
theorem dX10_flocks_15 : decode cX10_flocks 15 = .ok (.ireturn, 1) := by decide +kernel
theorem dX10_flocks_16 : decode cX10_flocks 16 = .ok (.aload_n 0, 1) := by decide +kernel
theorem dX10_flocks_17 : decode cX10_flocks 17 = .ok (.getfield 9, 3) := by decide +kernel
theorem dX10_flocks_20 : decode cX10_flocks 20 = .ok (.iconst 2, 1) := by decide +kernel
theorem dX10_flocks_21 : decode cX10_flocks 21 = .ok (.iaload, 1) := by decide +kernel
theorem dX10_flocks_22 : decode cX10_flocks 22 = .ok (.iload_n 1, 1) := by decide +kernel
theorem dX10_flocks_23 : decode cX10_flocks 23 = .ok (.if_icmp .ne 10, 3) := by decide +kernel
theorem dX10_flocks_26 : decode cX10_flocks 26 = .ok (.aload_n 0, 1) := by decide +kernel
theorem dX10_flocks_27 : decode cX10_flocks 27 = .ok (.iconst 5, 1) := by decide +kernel
theorem dX10_flocks_28 : decode cX10_flocks 28 = .ok (.iconst 0, 1) := by decide +kernel
theorem dX10_flocks_29 : decode cX10_flocks 29 = .ok (.invokevirtual 140, 3) := by decide +kernel
theorem dX10_flocks_32 : decode cX10_flocks 32 = .ok (.ireturn, 1) := by decide +kernel
theorem dX10_flocks_33 : decode cX10_flocks 33 = .ok (.aload_n 0, 1) := by decide +kernel
theorem dX10_flocks_34 : decode cX10_flocks 34 = .ok (.invokevirtual 143, 3) := by decide +kernel
theorem dX10_flocks_37 : decode cX10_flocks 37 = .ok (.aload_n 0, 1) := by decide +kernel
theorem dX10_flocks_38 : decode cX10_flocks 38 = .ok (.getfield 9, 3) := by decide +kernel
theorem dX10_flocks_41 : decode cX10_flocks 41 = .ok (.iconst 2, 1) := by decide +kernel
theorem dX10_flocks_42 : decode cX10_flocks 42 = .ok (.iload_n 1, 1) := by decide +kernel
theorem dX10_flocks_43 : decode cX10_flocks 43 = .ok (.iastore, 1) := by decide +kernel
theorem dX10_flocks_44 : decode cX10_flocks 44 = .ok (.iconst 3, 1) := by decide +kernel
theorem dX10_flocks_45 : decode cX10_flocks 45 = .ok (.iload_n 1, 1) := by decide +kernel
theorem dX10_flocks_46 : decode cX10_flocks 46 = .ok (.isub, 1) := by decide +kernel
theorem dX10_flocks_47 : decode cX10_flocks 47 = .ok (.ireturn, 1) := by decide +kernel
theorem dX10_flock_0 : decode cX10_flock 0 = .ok (.aload_n 0, 1) := by decide +kernel
theorem dX10_flock_1 : decode cX10_flock 1 = .ok (.invokevirtual 146, 3) := by decide +kernel
theorem dX10_flock_4 : decode cX10_flock 4 = .ok (.aload_n 0, 1) := by decide +kernel
theorem dX10_flock_5 : decode cX10_flock 5 = .ok (.aload_n 0, 1) := by decide +kernel
theorem dX10_flock_6 : decode cX10_flock 6 = .ok (.iload_n 1, 1) := by decide +kernel
theorem dX10_flock_7 : decode cX10_flock 7 = .ok (.invokevirtual 177, 3) := by decide +kernel
theorem dX10_flock_10 : decode cX10_flock 10 = .ok (.invokevirtual 153, 3) := by decide +kernel
theorem dX10_flock_13 : decode cX10_flock 13 = .ok (.ireturn, 1) := by decide +kernel
theorem dX10_begins_0 : decode cX10_begins 0 = .ok (.aload_n 0, 1) := by decide +kernel
theorem dX10_begins_1 : decode cX10_begins 1 = .ok (.iload_n 1, 1) := by decide +kernel
theorem dX10_begins_2 : decode cX10_begins 2 = .ok (.invokevirtual 123, 3) := by decide +kernel
theorem dX10_begins_5 : decode cX10_begins 5 = .ok (.ifCond .ne 11, 3) := by decide +kernel
theorem dX10_begins_8 : decode cX10_begins 8 = .ok (.aload_n 0, 1) := by decide +kernel
theorem dX10_begins_9 : decode cX10_begins 9 = .ok (.bipush 7, 2) := by decide +kernel
theorem dX10_begins_11 : decode cX10_begins 11 = .ok (.iload_n 1, 1) := by decide +kernel
theorem dX10_begins_12 : decode cX10_begins 12 = .ok (.invokevirtual 140, 3) := by decide +kernel
theorem dX10_begins_15 : decode cX10_begins 15 = .ok (.ireturn, 1) := by decide +kernel
theorem dX10_begins_16 : decode cX10_begins 16 = .ok (.aload_n 0, 1) := by decide +kernel
theorem dX10_begins_17 : decode cX10_begins 17 = .ok (.invokevirtual 134, 3) := by decide +kernel
theorem dX10_begins_20 : decode cX10_begins 20 = .ok (.aload_n 0, 1) := by decide +kernel
theorem dX10_begins_21 : decode cX10_begins 21 = .ok (.getfield 9, 3) := by decide +kernel
theorem dX10_begins_24 : decode cX10_begins 24 = .ok (.iconst 4, 1) := by decide +kernel
theorem dX10_begins_25 : decode cX10_begins 25 = .ok (.iload_n 1, 1) := by decide +kernel
theorem dX10_begins_26 : decode cX10_begins 26 = .ok (.iconst 1, 1) := by decide +kernel
theorem dX10_begins_27 : decode cX10_begins 27 = .ok (.iadd, 1) := by decide +kernel
theorem dX10_begins_28 : decode cX10_begins 28 = .ok (.iastore, 1) := by decide +kernel
theorem dX10_begins_29 : decode cX10_begins 29 = .ok (.aload_n 0, 1) := by decide +kernel
theorem dX10_begins_30 : decode cX10_begins 30 = .ok (.getfield 9, 3) := by decide +kernel
theorem dX10_begins_33 : decode cX10_begins 33 = .ok (.iconst 5, 1) := by decide +kernel
theorem dX10_begins_34 : decode cX10_begins 34 = .ok (.iconst 0, 1) := by decide +kernel
theorem dX10_begins_35 : decode cX10_begins 35 = .ok (.iastore, 1) := by decide +kernel
theorem dX10_begins_36 : decode cX10_begins 36 = .ok (.aload_n 0, 1) := by decide +kernel
theorem dX10_begins_37 : decode cX10_begins 37 = .ok (.getfield 9, 3) := by decide +kernel
theorem dX10_begins_40 : decode cX10_begins 40 = .ok (.bipush 6, 2) := by decide +kernel
theorem dX10_begins_42 : decode cX10_begins 42 = .ok (.dup2, 1) := by decide +kernel
theorem dX10_begins_43 : decode cX10_begins 43 = .ok (.iaload, 1) := by decide +kernel
theorem dX10_begins_44 : decode cX10_begins 44 = .ok (.iconst 1, 1) := by decide +kernel
theorem dX10_begins_45 : decode cX10_begins 45 = .ok (.iadd, 1) := by decide +kernel
theorem dX10_begins_46 : decode cX10_begins 46 = .ok (.iastore, 1) := by decide +kernel
theorem dX10_begins_47 : decode cX10_begins 47 = .ok (.aload_n 0, 1) := by decide +kernel
theorem dX10_begins_48 : decode cX10_begins 48 = .ok (.iload_n 1, 1) := by decide +kernel
theorem dX10_begins_49 : decode cX10_begins 49 = .ok (.invokevirtual 126, 3) := by decide +kernel
theorem dX10_begins_52 : decode cX10_begins 52 = .ok (.aload_n 0, 1) := by decide +kernel
theorem dX10_begins_53 : decode cX10_begins 53 = .ok (.getfield 103, 3) := by decide +kernel
theorem dX10_begins_56 : decode cX10_begins 56 = .ok (.ireturn, 1) := by decide +kernel
theorem dX10_begin_0 : decode cX10_begin 0 = .ok (.aload_n 0, 1) := by decide +kernel
theorem dX10_begin_1 : decode cX10_begin 1 = .ok (.invokevirtual 146, 3) := by decide +kernel
theorem dX10_begin_4 : decode cX10_begin 4 = .ok (.aload_n 0, 1) := by decide +kernel
theorem dX10_begin_5 : decode cX10_begin 5 = .ok (.aload_n 0, 1) := by decide +kernel
theorem dX10_begin_6 : decode cX10_begin 6 = .ok (.iload_n 1, 1) := by decide +kernel
theorem dX10_begin_7 : decode cX10_begin 7 = .ok (.invokevirtual 180, 3) := by decide +kernel
theorem dX10_begin_10 : decode cX10_begin 10 = .ok (.invokevirtual 153, 3) := by decide +kernel
theorem dX10_begin_13 : decode cX10_begin 13 = .ok (.ireturn, 1) := by decide +kernel
theorem dX10_makes_0 : decode cX10_makes 0 = .ok (.aload_n 0, 1) := by decide +kernel
theorem dX10_makes_1 : decode cX10_makes 1 = .ok (.getfield 9, 3) := by decide +kernel
theorem dX10_makes_4 : decode cX10_makes 4 = .ok (.iconst 4, 1) := by decide +kernel
theorem dX10_makes_5 : decode cX10_makes 5 = .ok (.iaload, 1) := by decide +kernel
theorem dX10_makes_6 : decode cX10_makes 6 = .ok (.iconst 1, 1) := by decide +kernel
theorem dX10_makes_7 : decode cX10_makes 7 = .ok (.isub, 1) := by decide +kernel
theorem dX10_makes_8 : decode cX10_makes 8 = .ok (.istore_n 3, 1) := by decide +kernel
theorem dX10_makes_9 : decode cX10_makes 9 = .ok (.aload_n 0, 1) := by decide +kernel
theorem dX10_makes_10 : decode cX10_makes 10 = .ok (.getfield 9, 3) := by decide +kernel
theorem dX10_makes_13 : decode cX10_makes 13 = .ok (.bipush 39, 2) := by decide +kernel
theorem dX10_makes_15 : decode cX10_makes 15 = .ok (.aload_n 0, 1) := by decide +kernel
theorem dX10_makes_16 : decode cX10_makes 16 = .ok (.getfield 9, 3) := by decide +kernel
theorem dX10_makes_19 : decode cX10_makes 19 = .ok (.iconst 5, 1) := by decide +kernel
theorem dX10_makes_20 : decode cX10_makes 20 = .ok (.iaload, 1) := by decide +kernel
theorem dX10_makes_21 : decode cX10_makes 21 = .ok (.iadd, 1) := by decide +kernel
theorem dX10_makes_22 : decode cX10_makes 22 = .ok (.iload_n 3, 1) := by decide +kernel
theorem dX10_makes_23 : decode cX10_makes 23 = .ok (.iastore, 1) := by decide +kernel
theorem dX10_makes_24 : decode cX10_makes 24 = .ok (.aload_n 0, 1) := by decide +kernel
theorem dX10_makes_25 : decode cX10_makes 25 = .ok (.getfield 9, 3) := by decide +kernel
theorem dX10_makes_28 : decode cX10_makes 28 = .ok (.bipush 79, 2) := by decide +kernel
theorem dX10_makes_30 : decode cX10_makes 30 = .ok (.aload_n 0, 1) := by decide +kernel
theorem dX10_makes_31 : decode cX10_makes 31 = .ok (.getfield 9, 3) := by decide +kernel
theorem dX10_makes_34 : decode cX10_makes 34 = .ok (.iconst 5, 1) := by decide +kernel
theorem dX10_makes_35 : decode cX10_makes 35 = .ok (.iaload, 1) := by decide +kernel
theorem dX10_makes_36 : decode cX10_makes 36 = .ok (.iadd, 1) := by decide +kernel
theorem dX10_makes_37 : decode cX10_makes 37 = .ok (.bipush 8, 2) := by decide +kernel
theorem dX10_makes_39 : decode cX10_makes 39 = .ok (.iload_n 1, 1) := by decide +kernel
theorem dX10_makes_40 : decode cX10_makes 40 = .ok (.imul, 1) := by decide +kernel
theorem dX10_makes_41 : decode cX10_makes 41 = .ok (.iload_n 2, 1) := by decide +kernel
theorem dX10_makes_42 : decode cX10_makes 42 = .ok (.iadd, 1) := by decide +kernel
theorem dX10_makes_43 : decode cX10_makes 43 = .ok (.iastore, 1) := by decide +kernel
theorem dX10_makes_44 : decode cX10_makes 44 = .ok (.aload_n 0, 1) := by decide +kernel
theorem dX10_makes_45 : decode cX10_makes 45 = .ok (.getfield 9, 3) := by decide +kernel
theorem dX10_makes_48 : decode cX10_makes 48 = .ok (.iconst 5, 1) := by decide +kernel
theorem dX10_makes_49 : decode cX10_makes 49 = .ok (.dup2, 1) := by decide +kernel
theorem dX10_makes_50 : decode cX10_makes 50 = .ok (.iaload, 1) := by decide +kernel
theorem dX10_makes_51 : decode cX10_makes 51 = .ok (.iconst 1, 1) := by decide +kernel
theorem dX10_makes_52 : decode cX10_makes 52 = .ok (.iadd, 1) := by decide +kernel
theorem dX10_makes_53 : decode cX10_makes 53 = .ok (.iastore, 1) := by decide +kernel
theorem dX10_makes_54 : decode cX10_makes 54 = .ok (.aload_n 0, 1) := by decide +kernel
theorem dX10_makes_55 : decode cX10_makes 55 = .ok (.getfield 9, 3) := by decide +kernel
theorem dX10_makes_58 : decode cX10_makes 58 = .ok (.iconst 4, 1) := by decide +kernel
theorem dX10_makes_59 : decode cX10_makes 59 = .ok (.iload_n 3, 1) := by decide +kernel
theorem dX10_makes_60 : decode cX10_makes 60 = .ok (.iload_n 1, 1) := by decide +kernel
theorem dX10_makes_61 : decode cX10_makes 61 = .ok (.iload_n 2, 1) := by decide +kernel
theorem dX10_makes_62 : decode cX10_makes 62 = .ok (.invokestatic 130, 3) := by decide +kernel
theorem dX10_makes_65 : decode cX10_makes 65 = .ok (.iconst 1, 1) := by decide +kernel
theorem dX10_makes_66 : decode cX10_makes 66 = .ok (.iadd, 1) := by decide +kernel
theorem dX10_makes_67 : decode cX10_makes 67 = .ok (.iastore, 1) := by decide +kernel
theorem dX10_makes_68 : decode cX10_makes 68 = .ok (.return_, 1) := by decide +kernel
theorem dX10_goes_0 : decode cX10_goes 0 = .ok (.aload_n 0, 1) := by decide +kernel
theorem dX10_goes_1 : decode cX10_goes 1 = .ok (.getfield 9, 3) := by decide +kernel
theorem dX10_goes_4 : decode cX10_goes 4 = .ok (.iconst 4, 1) := by decide +kernel
theorem dX10_goes_5 : decode cX10_goes 5 = .ok (.iaload, 1) := by decide +kernel
theorem dX10_goes_6 : decode cX10_goes 6 = .ok (.ifCond .ne 11, 3) := by decide +kernel
theorem dX10_goes_9 : decode cX10_goes 9 = .ok (.aload_n 0, 1) := by decide +kernel
theorem dX10_goes_10 : decode cX10_goes 10 = .ok (.bipush 8, 2) := by decide +kernel
theorem dX10_goes_12 : decode cX10_goes 12 = .ok (.iconst 0, 1) := by decide +kernel
theorem dX10_goes_13 : decode cX10_goes 13 = .ok (.invokevirtual 140, 3) := by decide +kernel
theorem dX10_goes_16 : decode cX10_goes 16 = .ok (.ireturn, 1) := by decide +kernel
theorem dX10_goes_17 : decode cX10_goes 17 = .ok (.aload_n 0, 1) := by decide +kernel
theorem dX10_goes_18 : decode cX10_goes 18 = .ok (.invokevirtual 134, 3) := by decide +kernel
theorem dX10_goes_21 : decode cX10_goes 21 = .ok (.aload_n 0, 1) := by decide +kernel
theorem dX10_goes_22 : decode cX10_goes 22 = .ok (.aload_n 0, 1) := by decide +kernel
theorem dX10_goes_23 : decode cX10_goes 23 = .ok (.getfield 9, 3) := by decide +kernel
theorem dX10_goes_26 : decode cX10_goes 26 = .ok (.iconst 4, 1) := by decide +kernel
theorem dX10_goes_27 : decode cX10_goes 27 = .ok (.iaload, 1) := by decide +kernel
theorem dX10_goes_28 : decode cX10_goes 28 = .ok (.iconst 1, 1) := by decide +kernel
theorem dX10_goes_29 : decode cX10_goes 29 = .ok (.isub, 1) := by decide +kernel
theorem dX10_goes_30 : decode cX10_goes 30 = .ok (.invokevirtual 126, 3) := by decide +kernel
theorem dX10_goes_33 : decode cX10_goes 33 = .ok (.aload_n 0, 1) := by decide +kernel
theorem dX10_goes_34 : decode cX10_goes 34 = .ok (.getfield 103, 3) := by decide +kernel
theorem dX10_goes_37 : decode cX10_goes 37 = .ok (.ifCond .ne 16, 3) := by decide +kernel
theorem dX10_goes_40 : decode cX10_goes 40 = .ok (.aload_n 0, 1) := by decide +kernel
theorem dX10_goes_41 : decode cX10_goes 41 = .ok (.bipush 9, 2) := by decide +kernel
theorem dX10_goes_43 : decode cX10_goes 43 = .ok (.aload_n 0, 1) := by decide +kernel
theorem dX10_goes_44 : decode cX10_goes 44 = .ok (.getfield 9, 3) := by decide +kernel
theorem dX10_goes_47 : decode cX10_goes 47 = .ok (.iconst 5, 1) := by decide +kernel
theorem dX10_goes_48 : decode cX10_goes 48 = .ok (.iaload, 1) := by decide +kernel
theorem dX10_goes_49 : decode cX10_goes 49 = .ok (.invokevirtual 140, 3) := by decide +kernel
theorem dX10_goes_52 : decode cX10_goes 52 = .ok (.ireturn, 1) := by decide +kernel
theorem dX10_goes_53 : decode cX10_goes 53 = .ok (.iconst 0, 1) := by decide +kernel
theorem dX10_goes_54 : decode cX10_goes 54 = .ok (.istore_n 3, 1) := by decide +kernel
theorem dX10_goes_55 : decode cX10_goes 55 = .ok (.iconst 0, 1) := by decide +kernel
theorem dX10_goes_56 : decode cX10_goes 56 = .ok (.istore 4, 2) := by decide +kernel
theorem dX10_goes_58 : decode cX10_goes 58 = .ok (.iload 4, 2) := by decide +kernel
theorem dX10_goes_60 : decode cX10_goes 60 = .ok (.aload_n 0, 1) := by decide +kernel
theorem dX10_goes_61 : decode cX10_goes 61 = .ok (.getfield 103, 3) := by decide +kernel
theorem dX10_goes_64 : decode cX10_goes 64 = .ok (.if_icmp .ge 39, 3) := by decide +kernel
theorem dX10_goes_67 : decode cX10_goes 67 = .ok (.iload_n 3, 1) := by decide +kernel
theorem dX10_goes_68 : decode cX10_goes 68 = .ok (.aload_n 0, 1) := by decide +kernel
theorem dX10_goes_69 : decode cX10_goes 69 = .ok (.getfield 48, 3) := by decide +kernel
theorem dX10_goes_72 : decode cX10_goes 72 = .ok (.iload 4, 2) := by decide +kernel
theorem dX10_goes_74 : decode cX10_goes 74 = .ok (.iaload, 1) := by decide +kernel
theorem dX10_goes_75 : decode cX10_goes 75 = .ok (.iload_n 1, 1) := by decide +kernel
theorem dX10_goes_76 : decode cX10_goes 76 = .ok (.if_icmp .ne 18, 3) := by decide +kernel
theorem dX10_goes_79 : decode cX10_goes 79 = .ok (.aload_n 0, 1) := by decide +kernel
theorem dX10_goes_80 : decode cX10_goes 80 = .ok (.getfield 51, 3) := by decide +kernel
theorem dX10_goes_83 : decode cX10_goes 83 = .ok (.iload 4, 2) := by decide +kernel
theorem dX10_goes_85 : decode cX10_goes 85 = .ok (.iaload, 1) := by decide +kernel
theorem dX10_goes_86 : decode cX10_goes 86 = .ok (.iload_n 2, 1) := by decide +kernel
theorem dX10_goes_87 : decode cX10_goes 87 = .ok (.if_icmp .ne 7, 3) := by decide +kernel
theorem dX10_goes_90 : decode cX10_goes 90 = .ok (.iconst 1, 1) := by decide +kernel
theorem dX10_goes_91 : decode cX10_goes 91 = .ok (.goto 4, 3) := by decide +kernel
theorem dX10_goes_94 : decode cX10_goes 94 = .ok (.iconst 0, 1) := by decide +kernel
theorem dX10_goes_95 : decode cX10_goes 95 = .ok (.ior, 1) := by decide +kernel
theorem dX10_goes_96 : decode cX10_goes 96 = .ok (.istore_n 3, 1) := by decide +kernel
theorem dX10_goes_97 : decode cX10_goes 97 = .ok (.iinc 4 1, 3) := by decide +kernel
theorem dX10_goes_100 : decode cX10_goes 100 = .ok (.goto (-42), 3) := by decide +kernel
theorem dX10_goes_103 : decode cX10_goes 103 = .ok (.iload_n 3, 1) := by decide +kernel
theorem dX10_goes_104 : decode cX10_goes 104 = .ok (.ifCond .ne 14, 3) := by decide +kernel
theorem dX10_goes_107 : decode cX10_goes 107 = .ok (.aload_n 0, 1) := by decide +kernel
theorem dX10_goes_108 : decode cX10_goes 108 = .ok (.bipush 10, 2) := by decide +kernel
theorem dX10_goes_110 : decode cX10_goes 110 = .ok (.aload_n 0, 1) := by decide +kernel
theorem dX10_goes_111 : decode cX10_goes 111 = .ok (.getfield 103, 3) := by decide +kernel
theorem dX10_goes_114 : decode cX10_goes 114 = .ok (.invokevirtual 140, 3) := by decide +kernel
theorem dX10_goes_117 : decode cX10_goes 117 = .ok (.ireturn, 1) := by decide +kernel
theorem dX10_goes_118 : decode cX10_goes 118 = .ok (.aload_n 0, 1) := by decide +kernel
theorem dX10_goes_119 : decode cX10_goes 119 = .ok (.getfield 9, 3) := by decide +kernel
theorem dX10_goes_122 : decode cX10_goes 122 = .ok (.iconst 5, 1) := by decide +kernel
theorem dX10_goes_123 : decode cX10_goes 123 = .ok (.iaload, 1) := by decide +kernel
theorem dX10_goes_124 : decode cX10_goes 124 = .ok (.bipush 40, 2) := by decide +kernel
theorem dX10_goes_126 : decode cX10_goes 126 = .ok (.if_icmp .ne 11, 3) := by decide +kernel
theorem dX10_goes_129 : decode cX10_goes 129 = .ok (.aload_n 0, 1) := by decide +kernel
theorem dX10_goes_130 : decode cX10_goes 130 = .ok (.iconst 2, 1) := by decide +kernel
theorem dX10_goes_131 : decode cX10_goes 131 = .ok (.bipush 40, 2) := by decide +kernel
theorem dX10_goes_133 : decode cX10_goes 133 = .ok (.invokevirtual 140, 3) := by decide +kernel
theorem dX10_goes_136 : decode cX10_goes 136 = .ok (.ireturn, 1) := by decide +kernel
theorem dX10_goes_137 : decode cX10_goes 137 = .ok (.aload_n 0, 1) := by decide +kernel
theorem dX10_goes_138 : decode cX10_goes 138 = .ok (.iload_n 1, 1) := by decide +kernel
theorem dX10_goes_139 : decode cX10_goes 139 = .ok (.iload_n 2, 1) := by decide +kernel
theorem dX10_goes_140 : decode cX10_goes 140 = .ok (.invokevirtual 183, 3) := by decide +kernel
theorem dX10_goes_143 : decode cX10_goes 143 = .ok (.aload_n 0, 1) := by decide +kernel
theorem dX10_goes_144 : decode cX10_goes 144 = .ok (.aload_n 0, 1) := by decide +kernel
theorem dX10_goes_145 : decode cX10_goes 145 = .ok (.getfield 9, 3) := by decide +kernel
theorem dX10_goes_148 : decode cX10_goes 148 = .ok (.iconst 4, 1) := by decide +kernel
theorem dX10_goes_149 : decode cX10_goes 149 = .ok (.iaload, 1) := by decide +kernel
theorem dX10_goes_150 : decode cX10_goes 150 = .ok (.iconst 1, 1) := by decide +kernel
theorem dX10_goes_151 : decode cX10_goes 151 = .ok (.isub, 1) := by decide +kernel
theorem dX10_goes_152 : decode cX10_goes 152 = .ok (.invokevirtual 126, 3) := by decide +kernel
theorem dX10_goes_155 : decode cX10_goes 155 = .ok (.aload_n 0, 1) := by decide +kernel
theorem dX10_goes_156 : decode cX10_goes 156 = .ok (.getfield 103, 3) := by decide +kernel
theorem dX10_goes_159 : decode cX10_goes 159 = .ok (.ireturn, 1) := by decide +kernel
theorem dX10_move_0 : decode cX10_move 0 = .ok (.aload_n 0, 1) := by decide +kernel
theorem dX10_move_1 : decode cX10_move 1 = .ok (.invokevirtual 146, 3) := by decide +kernel
theorem dX10_move_4 : decode cX10_move 4 = .ok (.aload_n 0, 1) := by decide +kernel
theorem dX10_move_5 : decode cX10_move 5 = .ok (.aload_n 0, 1) := by decide +kernel
theorem dX10_move_6 : decode cX10_move 6 = .ok (.iload_n 1, 1) := by decide +kernel
theorem dX10_move_7 : decode cX10_move 7 = .ok (.iload_n 2, 1) := by decide +kernel
theorem dX10_move_8 : decode cX10_move 8 = .ok (.invokevirtual 186, 3) := by decide +kernel
theorem dX10_move_11 : decode cX10_move 11 = .ok (.invokevirtual 153, 3) := by decide +kernel
theorem dX10_move_14 : decode cX10_move 14 = .ok (.ireturn, 1) := by decide +kernel
theorem dX10_plays_0 : decode cX10_plays 0 = .ok (.iload_n 1, 1) := by decide +kernel
theorem dX10_plays_1 : decode cX10_plays 1 = .ok (.iconst 1, 1) := by decide +kernel
theorem dX10_plays_2 : decode cX10_plays 2 = .ok (.bipush 40, 2) := by decide +kernel
theorem dX10_plays_4 : decode cX10_plays 4 = .ok (.invokestatic 77, 3) := by decide +kernel
theorem dX10_plays_7 : decode cX10_plays 7 = .ok (.ifCond .ne 10, 3) := by decide +kernel
theorem dX10_plays_10 : decode cX10_plays 10 = .ok (.aload_n 0, 1) := by decide +kernel
theorem dX10_plays_11 : decode cX10_plays 11 = .ok (.iconst 1, 1) := by decide +kernel
theorem dX10_plays_12 : decode cX10_plays 12 = .ok (.iconst 0, 1) := by decide +kernel
theorem dX10_plays_13 : decode cX10_plays 13 = .ok (.invokevirtual 140, 3) := by decide +kernel
theorem dX10_plays_16 : decode cX10_plays 16 = .ok (.ireturn, 1) := by decide +kernel
theorem dX10_plays_17 : decode cX10_plays 17 = .ok (.aload_n 0, 1) := by decide +kernel
theorem dX10_plays_18 : decode cX10_plays 18 = .ok (.getfield 9, 3) := by decide +kernel
theorem dX10_plays_21 : decode cX10_plays 21 = .ok (.iconst 4, 1) := by decide +kernel
theorem dX10_plays_22 : decode cX10_plays 22 = .ok (.iaload, 1) := by decide +kernel
theorem dX10_plays_23 : decode cX10_plays 23 = .ok (.ifCond .ne 11, 3) := by decide +kernel
theorem dX10_plays_26 : decode cX10_plays 26 = .ok (.aload_n 0, 1) := by decide +kernel
theorem dX10_plays_27 : decode cX10_plays 27 = .ok (.bipush 8, 2) := by decide +kernel
theorem dX10_plays_29 : decode cX10_plays 29 = .ok (.iconst 0, 1) := by decide +kernel
theorem dX10_plays_30 : decode cX10_plays 30 = .ok (.invokevirtual 140, 3) := by decide +kernel
theorem dX10_plays_33 : decode cX10_plays 33 = .ok (.ireturn, 1) := by decide +kernel
theorem dX10_plays_34 : decode cX10_plays 34 = .ok (.aload_n 0, 1) := by decide +kernel
theorem dX10_plays_35 : decode cX10_plays 35 = .ok (.invokevirtual 134, 3) := by decide +kernel
theorem dX10_plays_38 : decode cX10_plays 38 = .ok (.aload_n 0, 1) := by decide +kernel
theorem dX10_plays_39 : decode cX10_plays 39 = .ok (.invokevirtual 137, 3) := by decide +kernel
theorem dX10_plays_42 : decode cX10_plays 42 = .ok (.aload_n 0, 1) := by decide +kernel
theorem dX10_plays_43 : decode cX10_plays 43 = .ok (.aload_n 0, 1) := by decide +kernel
theorem dX10_plays_44 : decode cX10_plays 44 = .ok (.getfield 9, 3) := by decide +kernel
theorem dX10_plays_47 : decode cX10_plays 47 = .ok (.iconst 4, 1) := by decide +kernel
theorem dX10_plays_48 : decode cX10_plays 48 = .ok (.iaload, 1) := by decide +kernel
theorem dX10_plays_49 : decode cX10_plays 49 = .ok (.iconst 1, 1) := by decide +kernel
theorem dX10_plays_50 : decode cX10_plays 50 = .ok (.isub, 1) := by decide +kernel
theorem dX10_plays_51 : decode cX10_plays 51 = .ok (.invokevirtual 189, 3) := by decide +kernel
theorem dX10_plays_54 : decode cX10_plays 54 = .ok (.istore_n 2, 1) := by decide +kernel
theorem dX10_plays_55 : decode cX10_plays 55 = .ok (.iload_n 2, 1) := by decide +kernel
theorem dX10_plays_56 : decode cX10_plays 56 = .ok (.ifCond .ge 16, 3) := by decide +kernel
theorem dX10_plays_59 : decode cX10_plays 59 = .ok (.aload_n 0, 1) := by decide +kernel
theorem dX10_plays_60 : decode cX10_plays 60 = .ok (.bipush 9, 2) := by decide +kernel
theorem dX10_plays_62 : decode cX10_plays 62 = .ok (.aload_n 0, 1) := by decide +kernel
theorem dX10_plays_63 : decode cX10_plays 63 = .ok (.getfield 9, 3) := by decide +kernel
theorem dX10_plays_66 : decode cX10_plays 66 = .ok (.iconst 5, 1) := by decide +kernel
theorem dX10_plays_67 : decode cX10_plays 67 = .ok (.iaload, 1) := by decide +kernel
theorem dX10_plays_68 : decode cX10_plays 68 = .ok (.invokevirtual 140, 3) := by decide +kernel
theorem dX10_plays_71 : decode cX10_plays 71 = .ok (.ireturn, 1) := by decide +kernel
theorem dX10_plays_72 : decode cX10_plays 72 = .ok (.aload_n 0, 1) := by decide +kernel
theorem dX10_plays_73 : decode cX10_plays 73 = .ok (.getfield 9, 3) := by decide +kernel
theorem dX10_plays_76 : decode cX10_plays 76 = .ok (.iconst 5, 1) := by decide +kernel
theorem dX10_plays_77 : decode cX10_plays 77 = .ok (.iaload, 1) := by decide +kernel
theorem dX10_plays_78 : decode cX10_plays 78 = .ok (.bipush 40, 2) := by decide +kernel
theorem dX10_plays_80 : decode cX10_plays 80 = .ok (.if_icmp .ne 11, 3) := by decide +kernel
theorem dX10_plays_83 : decode cX10_plays 83 = .ok (.aload_n 0, 1) := by decide +kernel
theorem dX10_plays_84 : decode cX10_plays 84 = .ok (.iconst 2, 1) := by decide +kernel
theorem dX10_plays_85 : decode cX10_plays 85 = .ok (.bipush 40, 2) := by decide +kernel
theorem dX10_plays_87 : decode cX10_plays 87 = .ok (.invokevirtual 140, 3) := by decide +kernel
theorem dX10_plays_90 : decode cX10_plays 90 = .ok (.ireturn, 1) := by decide +kernel
theorem dX10_plays_91 : decode cX10_plays 91 = .ok (.iconst 0, 1) := by decide +kernel
theorem dX10_plays_92 : decode cX10_plays 92 = .ok (.istore_n 3, 1) := by decide +kernel
theorem dX10_plays_93 : decode cX10_plays 93 = .ok (.iload_n 2, 1) := by decide +kernel
theorem dX10_plays_94 : decode cX10_plays 94 = .ok (.ifCond .lt 54, 3) := by decide +kernel
theorem dX10_plays_97 : decode cX10_plays 97 = .ok (.iload_n 3, 1) := by decide +kernel
theorem dX10_plays_98 : decode cX10_plays 98 = .ok (.iload_n 1, 1) := by decide +kernel
theorem dX10_plays_99 : decode cX10_plays 99 = .ok (.if_icmp .ge 49, 3) := by decide +kernel
theorem dX10_plays_102 : decode cX10_plays 102 = .ok (.aload_n 0, 1) := by decide +kernel
theorem dX10_plays_103 : decode cX10_plays 103 = .ok (.getfield 9, 3) := by decide +kernel
theorem dX10_plays_106 : decode cX10_plays 106 = .ok (.iconst 5, 1) := by decide +kernel
theorem dX10_plays_107 : decode cX10_plays 107 = .ok (.iaload, 1) := by decide +kernel
theorem dX10_plays_108 : decode cX10_plays 108 = .ok (.bipush 40, 2) := by decide +kernel
theorem dX10_plays_110 : decode cX10_plays 110 = .ok (.if_icmp .ge 38, 3) := by decide +kernel
theorem dX10_plays_113 : decode cX10_plays 113 = .ok (.aload_n 0, 1) := by decide +kernel
theorem dX10_plays_114 : decode cX10_plays 114 = .ok (.aload_n 0, 1) := by decide +kernel
theorem dX10_plays_115 : decode cX10_plays 115 = .ok (.getfield 48, 3) := by decide +kernel
theorem dX10_plays_118 : decode cX10_plays 118 = .ok (.iload_n 2, 1) := by decide +kernel
theorem dX10_plays_119 : decode cX10_plays 119 = .ok (.iaload, 1) := by decide +kernel
theorem dX10_plays_120 : decode cX10_plays 120 = .ok (.aload_n 0, 1) := by decide +kernel
theorem dX10_plays_121 : decode cX10_plays 121 = .ok (.getfield 51, 3) := by decide +kernel
theorem dX10_plays_124 : decode cX10_plays 124 = .ok (.iload_n 2, 1) := by decide +kernel
theorem dX10_plays_125 : decode cX10_plays 125 = .ok (.iaload, 1) := by decide +kernel
theorem dX10_plays_126 : decode cX10_plays 126 = .ok (.invokevirtual 183, 3) := by decide +kernel
theorem dX10_plays_129 : decode cX10_plays 129 = .ok (.iinc 3 1, 3) := by decide +kernel
theorem dX10_plays_132 : decode cX10_plays 132 = .ok (.aload_n 0, 1) := by decide +kernel
theorem dX10_plays_133 : decode cX10_plays 133 = .ok (.aload_n 0, 1) := by decide +kernel
theorem dX10_plays_134 : decode cX10_plays 134 = .ok (.getfield 9, 3) := by decide +kernel
theorem dX10_plays_137 : decode cX10_plays 137 = .ok (.iconst 4, 1) := by decide +kernel
theorem dX10_plays_138 : decode cX10_plays 138 = .ok (.iaload, 1) := by decide +kernel
theorem dX10_plays_139 : decode cX10_plays 139 = .ok (.iconst 1, 1) := by decide +kernel
theorem dX10_plays_140 : decode cX10_plays 140 = .ok (.isub, 1) := by decide +kernel
theorem dX10_plays_141 : decode cX10_plays 141 = .ok (.invokevirtual 189, 3) := by decide +kernel
theorem dX10_plays_144 : decode cX10_plays 144 = .ok (.istore_n 2, 1) := by decide +kernel
theorem dX10_plays_145 : decode cX10_plays 145 = .ok (.goto (-52), 3) := by decide +kernel
theorem dX10_plays_148 : decode cX10_plays 148 = .ok (.iload_n 3, 1) := by decide +kernel
theorem dX10_plays_149 : decode cX10_plays 149 = .ok (.ireturn, 1) := by decide +kernel
theorem dX10_play_0 : decode cX10_play 0 = .ok (.aload_n 0, 1) := by decide +kernel
theorem dX10_play_1 : decode cX10_play 1 = .ok (.invokevirtual 146, 3) := by decide +kernel
theorem dX10_play_4 : decode cX10_play 4 = .ok (.aload_n 0, 1) := by decide +kernel
theorem dX10_play_5 : decode cX10_play 5 = .ok (.aload_n 0, 1) := by decide +kernel
theorem dX10_play_6 : decode cX10_play 6 = .ok (.iload_n 1, 1) := by decide +kernel
theorem dX10_play_7 : decode cX10_play 7 = .ok (.invokevirtual 192, 3) := by decide +kernel
theorem dX10_play_10 : decode cX10_play 10 = .ok (.invokevirtual 153, 3) := by decide +kernel
theorem dX10_play_13 : decode cX10_play 13 = .ok (.ireturn, 1) := by decide +kernel
theorem dX10_takesBack_0 : decode cX10_takesBack 0 = .ok (.aload_n 0, 1) := by decide +kernel
theorem dX10_takesBack_1 : decode cX10_takesBack 1 = .ok (.getfield 9, 3) := by decide +kernel
theorem dX10_takesBack_4 : decode cX10_takesBack 4 = .ok (.iconst 4, 1) := by decide +kernel
theorem dX10_takesBack_5 : decode cX10_takesBack 5 = .ok (.iaload, 1) := by decide +kernel
theorem dX10_takesBack_6 : decode cX10_takesBack 6 = .ok (.ifCond .ne 11, 3) := by decide +kernel
theorem dX10_takesBack_9 : decode cX10_takesBack 9 = .ok (.aload_n 0, 1) := by decide +kernel
theorem dX10_takesBack_10 : decode cX10_takesBack 10 = .ok (.bipush 8, 2) := by decide +kernel
theorem dX10_takesBack_12 : decode cX10_takesBack 12 = .ok (.iconst 0, 1) := by decide +kernel
theorem dX10_takesBack_13 : decode cX10_takesBack 13 = .ok (.invokevirtual 140, 3) := by decide +kernel
theorem dX10_takesBack_16 : decode cX10_takesBack 16 = .ok (.ireturn, 1) := by decide +kernel
theorem dX10_takesBack_17 : decode cX10_takesBack 17 = .ok (.aload_n 0, 1) := by decide +kernel
theorem dX10_takesBack_18 : decode cX10_takesBack 18 = .ok (.getfield 9, 3) := by decide +kernel
theorem dX10_takesBack_21 : decode cX10_takesBack 21 = .ok (.iconst 5, 1) := by decide +kernel
theorem dX10_takesBack_22 : decode cX10_takesBack 22 = .ok (.iaload, 1) := by decide +kernel
theorem dX10_takesBack_23 : decode cX10_takesBack 23 = .ok (.ifCond .ne 11, 3) := by decide +kernel
theorem dX10_takesBack_26 : decode cX10_takesBack 26 = .ok (.aload_n 0, 1) := by decide +kernel
theorem dX10_takesBack_27 : decode cX10_takesBack 27 = .ok (.bipush 11, 2) := by decide +kernel
theorem dX10_takesBack_29 : decode cX10_takesBack 29 = .ok (.iconst 0, 1) := by decide +kernel
theorem dX10_takesBack_30 : decode cX10_takesBack 30 = .ok (.invokevirtual 140, 3) := by decide +kernel
theorem dX10_takesBack_33 : decode cX10_takesBack 33 = .ok (.ireturn, 1) := by decide +kernel
theorem dX10_takesBack_34 : decode cX10_takesBack 34 = .ok (.aload_n 0, 1) := by decide +kernel
theorem dX10_takesBack_35 : decode cX10_takesBack 35 = .ok (.getfield 9, 3) := by decide +kernel
theorem dX10_takesBack_38 : decode cX10_takesBack 38 = .ok (.iconst 5, 1) := by decide +kernel
theorem dX10_takesBack_39 : decode cX10_takesBack 39 = .ok (.dup2, 1) := by decide +kernel
theorem dX10_takesBack_40 : decode cX10_takesBack 40 = .ok (.iaload, 1) := by decide +kernel
theorem dX10_takesBack_41 : decode cX10_takesBack 41 = .ok (.iconst 1, 1) := by decide +kernel
theorem dX10_takesBack_42 : decode cX10_takesBack 42 = .ok (.isub, 1) := by decide +kernel
theorem dX10_takesBack_43 : decode cX10_takesBack 43 = .ok (.iastore, 1) := by decide +kernel
theorem dX10_takesBack_44 : decode cX10_takesBack 44 = .ok (.aload_n 0, 1) := by decide +kernel
theorem dX10_takesBack_45 : decode cX10_takesBack 45 = .ok (.getfield 9, 3) := by decide +kernel
theorem dX10_takesBack_48 : decode cX10_takesBack 48 = .ok (.iconst 4, 1) := by decide +kernel
theorem dX10_takesBack_49 : decode cX10_takesBack 49 = .ok (.aload_n 0, 1) := by decide +kernel
theorem dX10_takesBack_50 : decode cX10_takesBack 50 = .ok (.getfield 9, 3) := by decide +kernel
theorem dX10_takesBack_53 : decode cX10_takesBack 53 = .ok (.bipush 39, 2) := by decide +kernel
theorem dX10_takesBack_55 : decode cX10_takesBack 55 = .ok (.aload_n 0, 1) := by decide +kernel
theorem dX10_takesBack_56 : decode cX10_takesBack 56 = .ok (.getfield 9, 3) := by decide +kernel
theorem dX10_takesBack_59 : decode cX10_takesBack 59 = .ok (.iconst 5, 1) := by decide +kernel
theorem dX10_takesBack_60 : decode cX10_takesBack 60 = .ok (.iaload, 1) := by decide +kernel
theorem dX10_takesBack_61 : decode cX10_takesBack 61 = .ok (.iadd, 1) := by decide +kernel
theorem dX10_takesBack_62 : decode cX10_takesBack 62 = .ok (.iaload, 1) := by decide +kernel
theorem dX10_takesBack_63 : decode cX10_takesBack 63 = .ok (.iconst 1, 1) := by decide +kernel
theorem dX10_takesBack_64 : decode cX10_takesBack 64 = .ok (.iadd, 1) := by decide +kernel
theorem dX10_takesBack_65 : decode cX10_takesBack 65 = .ok (.iastore, 1) := by decide +kernel
theorem dX10_takesBack_66 : decode cX10_takesBack 66 = .ok (.aload_n 0, 1) := by decide +kernel
theorem dX10_takesBack_67 : decode cX10_takesBack 67 = .ok (.getfield 9, 3) := by decide +kernel
theorem dX10_takesBack_70 : decode cX10_takesBack 70 = .ok (.iconst 5, 1) := by decide +kernel
theorem dX10_takesBack_71 : decode cX10_takesBack 71 = .ok (.iaload, 1) := by decide +kernel
theorem dX10_takesBack_72 : decode cX10_takesBack 72 = .ok (.ireturn, 1) := by decide +kernel
theorem dX10_back_0 : decode cX10_back 0 = .ok (.aload_n 0, 1) := by decide +kernel
theorem dX10_back_1 : decode cX10_back 1 = .ok (.invokevirtual 146, 3) := by decide +kernel
theorem dX10_back_4 : decode cX10_back 4 = .ok (.aload_n 0, 1) := by decide +kernel
theorem dX10_back_5 : decode cX10_back 5 = .ok (.aload_n 0, 1) := by decide +kernel
theorem dX10_back_6 : decode cX10_back 6 = .ok (.invokevirtual 195, 3) := by decide +kernel
theorem dX10_back_9 : decode cX10_back 9 = .ok (.invokevirtual 153, 3) := by decide +kernel
theorem dX10_back_12 : decode cX10_back 12 = .ok (.ireturn, 1) := by decide +kernel
theorem dX10_position_0 : decode cX10_position 0 = .ok (.aload_n 0, 1) := by decide +kernel
theorem dX10_position_1 : decode cX10_position 1 = .ok (.aload_n 0, 1) := by decide +kernel
theorem dX10_position_2 : decode cX10_position 2 = .ok (.iload_n 1, 1) := by decide +kernel
theorem dX10_position_3 : decode cX10_position 3 = .ok (.iload_n 2, 1) := by decide +kernel
theorem dX10_position_4 : decode cX10_position 4 = .ok (.iload_n 3, 1) := by decide +kernel
theorem dX10_position_5 : decode cX10_position 5 = .ok (.invokevirtual 94, 3) := by decide +kernel
theorem dX10_position_8 : decode cX10_position 8 = .ok (.ifCond .eq 7, 3) := by decide +kernel
theorem dX10_position_11 : decode cX10_position 11 = .ok (.iconst 0, 1) := by decide +kernel
theorem dX10_position_12 : decode cX10_position 12 = .ok (.goto 4, 3) := by decide +kernel
theorem dX10_position_15 : decode cX10_position 15 = .ok (.iconst 1, 1) := by decide +kernel
theorem dX10_position_16 : decode cX10_position 16 = .ok (.putfield 54, 3) := by decide +kernel
theorem dX10_position_19 : decode cX10_position 19 = .ok (.aload_n 0, 1) := by decide +kernel
theorem dX10_position_20 : decode cX10_position 20 = .ok (.getfield 54, 3) := by decide +kernel
theorem dX10_position_23 : decode cX10_position 23 = .ok (.ifCond .ne 14, 3) := by decide +kernel
theorem dX10_position_26 : decode cX10_position 26 = .ok (.iload_n 1, 1) := by decide +kernel
theorem dX10_position_27 : decode cX10_position 27 = .ok (.iload_n 2, 1) := by decide +kernel
theorem dX10_position_28 : decode cX10_position 28 = .ok (.iload_n 3, 1) := by decide +kernel
theorem dX10_position_29 : decode cX10_position 29 = .ok (.iload 4, 2) := by decide +kernel
theorem dX10_position_31 : decode cX10_position 31 = .ok (.invokestatic 110, 3) := by decide +kernel
theorem dX10_position_34 : decode cX10_position 34 = .ok (.goto 4, 3) := by decide +kernel
theorem dX10_position_37 : decode cX10_position 37 = .ok (.iconst 0, 1) := by decide +kernel
theorem dX10_position_38 : decode cX10_position 38 = .ok (.ireturn, 1) := by decide +kernel
theorem dX10_positionOf_0 : decode cX10_positionOf 0 = .ok (.aload_n 0, 1) := by decide +kernel
theorem dX10_positionOf_1 : decode cX10_positionOf 1 = .ok (.invokevirtual 198, 3) := by decide +kernel
theorem dX10_positionOf_4 : decode cX10_positionOf 4 = .ok (.iload_n 2, 1) := by decide +kernel
theorem dX10_positionOf_5 : decode cX10_positionOf 5 = .ok (.iconst 0, 1) := by decide +kernel
theorem dX10_positionOf_6 : decode cX10_positionOf 6 = .ok (.bipush 6, 2) := by decide +kernel
theorem dX10_positionOf_8 : decode cX10_positionOf 8 = .ok (.invokestatic 77, 3) := by decide +kernel
theorem dX10_positionOf_11 : decode cX10_positionOf 11 = .ok (.ifCond .ne 9, 3) := by decide +kernel
theorem dX10_positionOf_14 : decode cX10_positionOf 14 = .ok (.aload_n 0, 1) := by decide +kernel
theorem dX10_positionOf_15 : decode cX10_positionOf 15 = .ok (.iconst 1, 1) := by decide +kernel
theorem dX10_positionOf_16 : decode cX10_positionOf 16 = .ok (.invokevirtual 61, 3) := by decide +kernel
theorem dX10_positionOf_19 : decode cX10_positionOf 19 = .ok (.ireturn, 1) := by decide +kernel
theorem dX10_positionOf_20 : decode cX10_positionOf 20 = .ok (.aload_n 0, 1) := by decide +kernel
theorem dX10_positionOf_21 : decode cX10_positionOf 21 = .ok (.iload_n 1, 1) := by decide +kernel
theorem dX10_positionOf_22 : decode cX10_positionOf 22 = .ok (.invokevirtual 123, 3) := by decide +kernel
theorem dX10_positionOf_25 : decode cX10_positionOf 25 = .ok (.ifCond .ne 9, 3) := by decide +kernel
theorem dX10_positionOf_28 : decode cX10_positionOf 28 = .ok (.aload_n 0, 1) := by decide +kernel
theorem dX10_positionOf_29 : decode cX10_positionOf 29 = .ok (.iconst 2, 1) := by decide +kernel
theorem dX10_positionOf_30 : decode cX10_positionOf 30 = .ok (.invokevirtual 61, 3) := by decide +kernel
theorem dX10_positionOf_33 : decode cX10_positionOf 33 = .ok (.ireturn, 1) := by decide +kernel
theorem dX10_positionOf_34 : decode cX10_positionOf 34 = .ok (.iload_n 2, 1) := by decide +kernel
theorem dX10_positionOf_35 : decode cX10_positionOf 35 = .ok (.tableswitch 82 0 5 #[37, 42, 47, 52, 65, 75], 37) := by decide +kernel
theorem dX10_positionOf_72 : decode cX10_positionOf 72 = .ok (.iload_n 1, 1) := by decide +kernel
theorem dX10_positionOf_73 : decode cX10_positionOf 73 = .ok (.invokestatic 85, 3) := by decide +kernel
theorem dX10_positionOf_76 : decode cX10_positionOf 76 = .ok (.ireturn, 1) := by decide +kernel
theorem dX10_positionOf_77 : decode cX10_positionOf 77 = .ok (.iload_n 1, 1) := by decide +kernel
theorem dX10_positionOf_78 : decode cX10_positionOf 78 = .ok (.invokestatic 88, 3) := by decide +kernel
theorem dX10_positionOf_81 : decode cX10_positionOf 81 = .ok (.ireturn, 1) := by decide +kernel
theorem dX10_positionOf_82 : decode cX10_positionOf 82 = .ok (.iload_n 1, 1) := by decide +kernel
theorem dX10_positionOf_83 : decode cX10_positionOf 83 = .ok (.invokestatic 91, 3) := by decide +kernel
theorem dX10_positionOf_86 : decode cX10_positionOf 86 = .ok (.ireturn, 1) := by decide +kernel
theorem dX10_positionOf_87 : decode cX10_positionOf 87 = .ok (.iload_n 1, 1) := by decide +kernel
theorem dX10_positionOf_88 : decode cX10_positionOf 88 = .ok (.invokestatic 100, 3) := by decide +kernel
theorem dX10_positionOf_91 : decode cX10_positionOf 91 = .ok (.ifCond .eq 7, 3) := by decide +kernel
theorem dX10_positionOf_94 : decode cX10_positionOf 94 = .ok (.iconst 1, 1) := by decide +kernel
theorem dX10_positionOf_95 : decode cX10_positionOf 95 = .ok (.goto 4, 3) := by decide +kernel
theorem dX10_positionOf_98 : decode cX10_positionOf 98 = .ok (.iconst 0, 1) := by decide +kernel
theorem dX10_positionOf_99 : decode cX10_positionOf 99 = .ok (.ireturn, 1) := by decide +kernel
theorem dX10_positionOf_100 : decode cX10_positionOf 100 = .ok (.aload_n 0, 1) := by decide +kernel
theorem dX10_positionOf_101 : decode cX10_positionOf 101 = .ok (.iload_n 1, 1) := by decide +kernel
theorem dX10_positionOf_102 : decode cX10_positionOf 102 = .ok (.invokevirtual 126, 3) := by decide +kernel
theorem dX10_positionOf_105 : decode cX10_positionOf 105 = .ok (.aload_n 0, 1) := by decide +kernel
theorem dX10_positionOf_106 : decode cX10_positionOf 106 = .ok (.getfield 103, 3) := by decide +kernel
theorem dX10_positionOf_109 : decode cX10_positionOf 109 = .ok (.ireturn, 1) := by decide +kernel
theorem dX10_positionOf_110 : decode cX10_positionOf 110 = .ok (.aload_n 0, 1) := by decide +kernel
theorem dX10_positionOf_111 : decode cX10_positionOf 111 = .ok (.getfield 39, 3) := by decide +kernel
theorem dX10_positionOf_114 : decode cX10_positionOf 114 = .ok (.iload_n 1, 1) := by decide +kernel
theorem dX10_positionOf_115 : decode cX10_positionOf 115 = .ok (.iaload, 1) := by decide +kernel
theorem dX10_positionOf_116 : decode cX10_positionOf 116 = .ok (.ireturn, 1) := by decide +kernel
theorem dX10_positionOf_117 : decode cX10_positionOf 117 = .ok (.aload_n 0, 1) := by decide +kernel
theorem dX10_positionOf_118 : decode cX10_positionOf 118 = .ok (.getfield 42, 3) := by decide +kernel
theorem dX10_positionOf_121 : decode cX10_positionOf 121 = .ok (.iload_n 1, 1) := by decide +kernel
theorem dX10_positionOf_122 : decode cX10_positionOf 122 = .ok (.iaload, 1) := by decide +kernel
theorem dX10_positionOf_123 : decode cX10_positionOf 123 = .ok (.ireturn, 1) := by decide +kernel
theorem dX10_outcomeAgain_0 : decode cX10_outcomeAgain 0 = .ok (.aload_n 0, 1) := by decide +kernel
theorem dX10_outcomeAgain_1 : decode cX10_outcomeAgain 1 = .ok (.invokevirtual 198, 3) := by decide +kernel
theorem dX10_outcomeAgain_4 : decode cX10_outcomeAgain 4 = .ok (.aload_n 0, 1) := by decide +kernel
theorem dX10_outcomeAgain_5 : decode cX10_outcomeAgain 5 = .ok (.iload_n 1, 1) := by decide +kernel
theorem dX10_outcomeAgain_6 : decode cX10_outcomeAgain 6 = .ok (.invokevirtual 123, 3) := by decide +kernel
theorem dX10_outcomeAgain_9 : decode cX10_outcomeAgain 9 = .ok (.ifCond .eq 12, 3) := by decide +kernel
theorem dX10_outcomeAgain_12 : decode cX10_outcomeAgain 12 = .ok (.aload_n 0, 1) := by decide +kernel
theorem dX10_outcomeAgain_13 : decode cX10_outcomeAgain 13 = .ok (.getfield 39, 3) := by decide +kernel
theorem dX10_outcomeAgain_16 : decode cX10_outcomeAgain 16 = .ok (.iload_n 1, 1) := by decide +kernel
theorem dX10_outcomeAgain_17 : decode cX10_outcomeAgain 17 = .ok (.iaload, 1) := by decide +kernel
theorem dX10_outcomeAgain_18 : decode cX10_outcomeAgain 18 = .ok (.goto 8, 3) := by decide +kernel
theorem dX10_outcomeAgain_21 : decode cX10_outcomeAgain 21 = .ok (.aload_n 0, 1) := by decide +kernel
theorem dX10_outcomeAgain_22 : decode cX10_outcomeAgain 22 = .ok (.iconst 1, 1) := by decide +kernel
theorem dX10_outcomeAgain_23 : decode cX10_outcomeAgain 23 = .ok (.invokevirtual 61, 3) := by decide +kernel
theorem dX10_outcomeAgain_26 : decode cX10_outcomeAgain 26 = .ok (.ireturn, 1) := by decide +kernel
theorem dX10_moveOf_0 : decode cX10_moveOf 0 = .ok (.aload_n 0, 1) := by decide +kernel
theorem dX10_moveOf_1 : decode cX10_moveOf 1 = .ok (.invokevirtual 198, 3) := by decide +kernel
theorem dX10_moveOf_4 : decode cX10_moveOf 4 = .ok (.aload_n 0, 1) := by decide +kernel
theorem dX10_moveOf_5 : decode cX10_moveOf 5 = .ok (.iload_n 1, 1) := by decide +kernel
theorem dX10_moveOf_6 : decode cX10_moveOf 6 = .ok (.invokevirtual 123, 3) := by decide +kernel
theorem dX10_moveOf_9 : decode cX10_moveOf 9 = .ok (.ifCond .ne 9, 3) := by decide +kernel
theorem dX10_moveOf_12 : decode cX10_moveOf 12 = .ok (.aload_n 0, 1) := by decide +kernel
theorem dX10_moveOf_13 : decode cX10_moveOf 13 = .ok (.iconst 1, 1) := by decide +kernel
theorem dX10_moveOf_14 : decode cX10_moveOf 14 = .ok (.invokevirtual 61, 3) := by decide +kernel
theorem dX10_moveOf_17 : decode cX10_moveOf 17 = .ok (.ireturn, 1) := by decide +kernel
theorem dX10_moveOf_18 : decode cX10_moveOf 18 = .ok (.aload_n 0, 1) := by decide +kernel
theorem dX10_moveOf_19 : decode cX10_moveOf 19 = .ok (.iload_n 1, 1) := by decide +kernel
theorem dX10_moveOf_20 : decode cX10_moveOf 20 = .ok (.invokevirtual 126, 3) := by decide +kernel
theorem dX10_moveOf_23 : decode cX10_moveOf 23 = .ok (.iload_n 2, 1) := by decide +kernel
theorem dX10_moveOf_24 : decode cX10_moveOf 24 = .ok (.iconst 0, 1) := by decide +kernel
theorem dX10_moveOf_25 : decode cX10_moveOf 25 = .ok (.aload_n 0, 1) := by decide +kernel
theorem dX10_moveOf_26 : decode cX10_moveOf 26 = .ok (.getfield 103, 3) := by decide +kernel
theorem dX10_moveOf_29 : decode cX10_moveOf 29 = .ok (.iconst 1, 1) := by decide +kernel
theorem dX10_moveOf_30 : decode cX10_moveOf 30 = .ok (.isub, 1) := by decide +kernel
theorem dX10_moveOf_31 : decode cX10_moveOf 31 = .ok (.invokestatic 77, 3) := by decide +kernel
theorem dX10_moveOf_34 : decode cX10_moveOf 34 = .ok (.ifCond .ne 9, 3) := by decide +kernel
theorem dX10_moveOf_37 : decode cX10_moveOf 37 = .ok (.aload_n 0, 1) := by decide +kernel
theorem dX10_moveOf_38 : decode cX10_moveOf 38 = .ok (.iconst 1, 1) := by decide +kernel
theorem dX10_moveOf_39 : decode cX10_moveOf 39 = .ok (.invokevirtual 61, 3) := by decide +kernel
theorem dX10_moveOf_42 : decode cX10_moveOf 42 = .ok (.ireturn, 1) := by decide +kernel
theorem dX10_moveOf_43 : decode cX10_moveOf 43 = .ok (.iload_n 3, 1) := by decide +kernel
theorem dX10_moveOf_44 : decode cX10_moveOf 44 = .ok (.ifCond .eq 12, 3) := by decide +kernel
theorem dX10_moveOf_47 : decode cX10_moveOf 47 = .ok (.aload_n 0, 1) := by decide +kernel
theorem dX10_moveOf_48 : decode cX10_moveOf 48 = .ok (.getfield 51, 3) := by decide +kernel
theorem dX10_moveOf_51 : decode cX10_moveOf 51 = .ok (.iload_n 2, 1) := by decide +kernel
theorem dX10_moveOf_52 : decode cX10_moveOf 52 = .ok (.iaload, 1) := by decide +kernel
theorem dX10_moveOf_53 : decode cX10_moveOf 53 = .ok (.goto 9, 3) := by decide +kernel
theorem dX10_moveOf_56 : decode cX10_moveOf 56 = .ok (.aload_n 0, 1) := by decide +kernel
theorem dX10_moveOf_57 : decode cX10_moveOf 57 = .ok (.getfield 48, 3) := by decide +kernel
theorem dX10_moveOf_60 : decode cX10_moveOf 60 = .ok (.iload_n 2, 1) := by decide +kernel
theorem dX10_moveOf_61 : decode cX10_moveOf 61 = .ok (.iaload, 1) := by decide +kernel
theorem dX10_moveOf_62 : decode cX10_moveOf 62 = .ok (.ireturn, 1) := by decide +kernel
theorem dX10_best_0 : decode cX10_best 0 = .ok (.aload_n 0, 1) := by decide +kernel
theorem dX10_best_1 : decode cX10_best 1 = .ok (.invokevirtual 198, 3) := by decide +kernel
theorem dX10_best_4 : decode cX10_best 4 = .ok (.aload_n 0, 1) := by decide +kernel
theorem dX10_best_5 : decode cX10_best 5 = .ok (.iload_n 1, 1) := by decide +kernel
theorem dX10_best_6 : decode cX10_best 6 = .ok (.invokevirtual 123, 3) := by decide +kernel
theorem dX10_best_9 : decode cX10_best 9 = .ok (.ifCond .ne 9, 3) := by decide +kernel
theorem dX10_best_12 : decode cX10_best 12 = .ok (.aload_n 0, 1) := by decide +kernel
theorem dX10_best_13 : decode cX10_best 13 = .ok (.iconst 1, 1) := by decide +kernel
theorem dX10_best_14 : decode cX10_best 14 = .ok (.invokevirtual 61, 3) := by decide +kernel
theorem dX10_best_17 : decode cX10_best 17 = .ok (.ireturn, 1) := by decide +kernel
theorem dX10_best_18 : decode cX10_best 18 = .ok (.aload_n 0, 1) := by decide +kernel
theorem dX10_best_19 : decode cX10_best 19 = .ok (.iload_n 1, 1) := by decide +kernel
theorem dX10_best_20 : decode cX10_best 20 = .ok (.invokevirtual 189, 3) := by decide +kernel
theorem dX10_best_23 : decode cX10_best 23 = .ok (.istore_n 2, 1) := by decide +kernel
theorem dX10_best_24 : decode cX10_best 24 = .ok (.iload_n 2, 1) := by decide +kernel
theorem dX10_best_25 : decode cX10_best 25 = .ok (.ifCond .ge 11, 3) := by decide +kernel
theorem dX10_best_28 : decode cX10_best 28 = .ok (.aload_n 0, 1) := by decide +kernel
theorem dX10_best_29 : decode cX10_best 29 = .ok (.iconst 1, 1) := by decide +kernel
theorem dX10_best_30 : decode cX10_best 30 = .ok (.invokevirtual 61, 3) := by decide +kernel
theorem dX10_best_33 : decode cX10_best 33 = .ok (.goto 19, 3) := by decide +kernel
theorem dX10_best_36 : decode cX10_best 36 = .ok (.bipush 8, 2) := by decide +kernel
theorem dX10_best_38 : decode cX10_best 38 = .ok (.aload_n 0, 1) := by decide +kernel
theorem dX10_best_39 : decode cX10_best 39 = .ok (.getfield 48, 3) := by decide +kernel
theorem dX10_best_42 : decode cX10_best 42 = .ok (.iload_n 2, 1) := by decide +kernel
theorem dX10_best_43 : decode cX10_best 43 = .ok (.iaload, 1) := by decide +kernel
theorem dX10_best_44 : decode cX10_best 44 = .ok (.imul, 1) := by decide +kernel
theorem dX10_best_45 : decode cX10_best 45 = .ok (.aload_n 0, 1) := by decide +kernel
theorem dX10_best_46 : decode cX10_best 46 = .ok (.getfield 51, 3) := by decide +kernel
theorem dX10_best_49 : decode cX10_best 49 = .ok (.iload_n 2, 1) := by decide +kernel
theorem dX10_best_50 : decode cX10_best 50 = .ok (.iaload, 1) := by decide +kernel
theorem dX10_best_51 : decode cX10_best 51 = .ok (.iadd, 1) := by decide +kernel
theorem dX10_best_52 : decode cX10_best 52 = .ok (.ireturn, 1) := by decide +kernel
theorem dX10_after_0 : decode cX10_after 0 = .ok (.aload_n 0, 1) := by decide +kernel
theorem dX10_after_1 : decode cX10_after 1 = .ok (.invokevirtual 198, 3) := by decide +kernel
theorem dX10_after_4 : decode cX10_after 4 = .ok (.aload_n 0, 1) := by decide +kernel
theorem dX10_after_5 : decode cX10_after 5 = .ok (.iload_n 1, 1) := by decide +kernel
theorem dX10_after_6 : decode cX10_after 6 = .ok (.invokevirtual 123, 3) := by decide +kernel
theorem dX10_after_9 : decode cX10_after 9 = .ok (.ifCond .ne 9, 3) := by decide +kernel
theorem dX10_after_12 : decode cX10_after 12 = .ok (.aload_n 0, 1) := by decide +kernel
theorem dX10_after_13 : decode cX10_after 13 = .ok (.iconst 1, 1) := by decide +kernel
theorem dX10_after_14 : decode cX10_after 14 = .ok (.invokevirtual 61, 3) := by decide +kernel
theorem dX10_after_17 : decode cX10_after 17 = .ok (.ireturn, 1) := by decide +kernel
theorem dX10_after_18 : decode cX10_after 18 = .ok (.aload_n 0, 1) := by decide +kernel
theorem dX10_after_19 : decode cX10_after 19 = .ok (.iload_n 1, 1) := by decide +kernel
theorem dX10_after_20 : decode cX10_after 20 = .ok (.invokevirtual 126, 3) := by decide +kernel
theorem dX10_after_23 : decode cX10_after 23 = .ok (.iconst 0, 1) := by decide +kernel
theorem dX10_after_24 : decode cX10_after 24 = .ok (.istore 4, 2) := by decide +kernel
theorem dX10_after_26 : decode cX10_after 26 = .ok (.iload 4, 2) := by decide +kernel
theorem dX10_after_28 : decode cX10_after 28 = .ok (.aload_n 0, 1) := by decide +kernel
theorem dX10_after_29 : decode cX10_after 29 = .ok (.getfield 103, 3) := by decide +kernel
theorem dX10_after_32 : decode cX10_after 32 = .ok (.if_icmp .ge 38, 3) := by decide +kernel
theorem dX10_after_35 : decode cX10_after 35 = .ok (.aload_n 0, 1) := by decide +kernel
theorem dX10_after_36 : decode cX10_after 36 = .ok (.getfield 48, 3) := by decide +kernel
theorem dX10_after_39 : decode cX10_after 39 = .ok (.iload 4, 2) := by decide +kernel
theorem dX10_after_41 : decode cX10_after 41 = .ok (.iaload, 1) := by decide +kernel
theorem dX10_after_42 : decode cX10_after 42 = .ok (.iload_n 2, 1) := by decide +kernel
theorem dX10_after_43 : decode cX10_after 43 = .ok (.if_icmp .ne 21, 3) := by decide +kernel
theorem dX10_after_46 : decode cX10_after 46 = .ok (.aload_n 0, 1) := by decide +kernel
theorem dX10_after_47 : decode cX10_after 47 = .ok (.getfield 51, 3) := by decide +kernel
theorem dX10_after_50 : decode cX10_after 50 = .ok (.iload 4, 2) := by decide +kernel
theorem dX10_after_52 : decode cX10_after 52 = .ok (.iaload, 1) := by decide +kernel
theorem dX10_after_53 : decode cX10_after 53 = .ok (.iload_n 3, 1) := by decide +kernel
theorem dX10_after_54 : decode cX10_after 54 = .ok (.if_icmp .ne 10, 3) := by decide +kernel
theorem dX10_after_57 : decode cX10_after 57 = .ok (.iload_n 1, 1) := by decide +kernel
theorem dX10_after_58 : decode cX10_after 58 = .ok (.iload_n 2, 1) := by decide +kernel
theorem dX10_after_59 : decode cX10_after 59 = .ok (.iload_n 3, 1) := by decide +kernel
theorem dX10_after_60 : decode cX10_after 60 = .ok (.invokestatic 130, 3) := by decide +kernel
theorem dX10_after_63 : decode cX10_after 63 = .ok (.ireturn, 1) := by decide +kernel
theorem dX10_after_64 : decode cX10_after 64 = .ok (.iinc 4 1, 3) := by decide +kernel
theorem dX10_after_67 : decode cX10_after 67 = .ok (.goto (-41), 3) := by decide +kernel
theorem dX10_after_70 : decode cX10_after 70 = .ok (.aload_n 0, 1) := by decide +kernel
theorem dX10_after_71 : decode cX10_after 71 = .ok (.iconst 1, 1) := by decide +kernel
theorem dX10_after_72 : decode cX10_after 72 = .ok (.invokevirtual 61, 3) := by decide +kernel
theorem dX10_after_75 : decode cX10_after 75 = .ok (.ireturn, 1) := by decide +kernel
theorem dX10_ends_0 : decode cX10_ends 0 = .ok (.aload_n 0, 1) := by decide +kernel
theorem dX10_ends_1 : decode cX10_ends 1 = .ok (.invokevirtual 198, 3) := by decide +kernel
theorem dX10_ends_4 : decode cX10_ends 4 = .ok (.aload_n 0, 1) := by decide +kernel
theorem dX10_ends_5 : decode cX10_ends 5 = .ok (.iload_n 1, 1) := by decide +kernel
theorem dX10_ends_6 : decode cX10_ends 6 = .ok (.invokevirtual 123, 3) := by decide +kernel
theorem dX10_ends_9 : decode cX10_ends 9 = .ok (.ifCond .eq 12, 3) := by decide +kernel
theorem dX10_ends_12 : decode cX10_ends 12 = .ok (.aload_n 0, 1) := by decide +kernel
theorem dX10_ends_13 : decode cX10_ends 13 = .ok (.getfield 39, 3) := by decide +kernel
theorem dX10_ends_16 : decode cX10_ends 16 = .ok (.iload_n 1, 1) := by decide +kernel
theorem dX10_ends_17 : decode cX10_ends 17 = .ok (.iaload, 1) := by decide +kernel
theorem dX10_ends_18 : decode cX10_ends 18 = .ok (.ifCond .ne 9, 3) := by decide +kernel
theorem dX10_ends_21 : decode cX10_ends 21 = .ok (.aload_n 0, 1) := by decide +kernel
theorem dX10_ends_22 : decode cX10_ends 22 = .ok (.iconst 1, 1) := by decide +kernel
theorem dX10_ends_23 : decode cX10_ends 23 = .ok (.invokevirtual 61, 3) := by decide +kernel
theorem dX10_ends_26 : decode cX10_ends 26 = .ok (.ireturn, 1) := by decide +kernel
theorem dX10_ends_27 : decode cX10_ends 27 = .ok (.iload_n 1, 1) := by decide +kernel
theorem dX10_ends_28 : decode cX10_ends 28 = .ok (.istore_n 2, 1) := by decide +kernel
theorem dX10_ends_29 : decode cX10_ends 29 = .ok (.aload_n 0, 1) := by decide +kernel
theorem dX10_ends_30 : decode cX10_ends 30 = .ok (.iload_n 2, 1) := by decide +kernel
theorem dX10_ends_31 : decode cX10_ends 31 = .ok (.invokevirtual 189, 3) := by decide +kernel
theorem dX10_ends_34 : decode cX10_ends 34 = .ok (.istore_n 3, 1) := by decide +kernel
theorem dX10_ends_35 : decode cX10_ends 35 = .ok (.iload_n 3, 1) := by decide +kernel
theorem dX10_ends_36 : decode cX10_ends 36 = .ok (.ifCond .lt 29, 3) := by decide +kernel
theorem dX10_ends_39 : decode cX10_ends 39 = .ok (.iload_n 2, 1) := by decide +kernel
theorem dX10_ends_40 : decode cX10_ends 40 = .ok (.aload_n 0, 1) := by decide +kernel
theorem dX10_ends_41 : decode cX10_ends 41 = .ok (.getfield 48, 3) := by decide +kernel
theorem dX10_ends_44 : decode cX10_ends 44 = .ok (.iload_n 3, 1) := by decide +kernel
theorem dX10_ends_45 : decode cX10_ends 45 = .ok (.iaload, 1) := by decide +kernel
theorem dX10_ends_46 : decode cX10_ends 46 = .ok (.aload_n 0, 1) := by decide +kernel
theorem dX10_ends_47 : decode cX10_ends 47 = .ok (.getfield 51, 3) := by decide +kernel
theorem dX10_ends_50 : decode cX10_ends 50 = .ok (.iload_n 3, 1) := by decide +kernel
theorem dX10_ends_51 : decode cX10_ends 51 = .ok (.iaload, 1) := by decide +kernel
theorem dX10_ends_52 : decode cX10_ends 52 = .ok (.invokestatic 130, 3) := by decide +kernel
theorem dX10_ends_55 : decode cX10_ends 55 = .ok (.istore_n 2, 1) := by decide +kernel
theorem dX10_ends_56 : decode cX10_ends 56 = .ok (.aload_n 0, 1) := by decide +kernel
theorem dX10_ends_57 : decode cX10_ends 57 = .ok (.iload_n 2, 1) := by decide +kernel
theorem dX10_ends_58 : decode cX10_ends 58 = .ok (.invokevirtual 189, 3) := by decide +kernel
theorem dX10_ends_61 : decode cX10_ends 61 = .ok (.istore_n 3, 1) := by decide +kernel
theorem dX10_ends_62 : decode cX10_ends 62 = .ok (.goto (-27), 3) := by decide +kernel
theorem dX10_ends_65 : decode cX10_ends 65 = .ok (.iload_n 2, 1) := by decide +kernel
theorem dX10_ends_66 : decode cX10_ends 66 = .ok (.ireturn, 1) := by decide +kernel
theorem dX10_count_0 : decode cX10_count 0 = .ok (.aload_n 0, 1) := by decide +kernel
theorem dX10_count_1 : decode cX10_count 1 = .ok (.invokevirtual 198, 3) := by decide +kernel
theorem dX10_count_4 : decode cX10_count 4 = .ok (.iload_n 1, 1) := by decide +kernel
theorem dX10_count_5 : decode cX10_count 5 = .ok (.iconst 0, 1) := by decide +kernel
theorem dX10_count_6 : decode cX10_count 6 = .ok (.iconst 2, 1) := by decide +kernel
theorem dX10_count_7 : decode cX10_count 7 = .ok (.invokestatic 77, 3) := by decide +kernel
theorem dX10_count_10 : decode cX10_count 10 = .ok (.ifCond .ne 9, 3) := by decide +kernel
theorem dX10_count_13 : decode cX10_count 13 = .ok (.aload_n 0, 1) := by decide +kernel
theorem dX10_count_14 : decode cX10_count 14 = .ok (.iconst 1, 1) := by decide +kernel
theorem dX10_count_15 : decode cX10_count 15 = .ok (.invokevirtual 61, 3) := by decide +kernel
theorem dX10_count_18 : decode cX10_count 18 = .ok (.ireturn, 1) := by decide +kernel
theorem dX10_count_19 : decode cX10_count 19 = .ok (.iconst 0, 1) := by decide +kernel
theorem dX10_count_20 : decode cX10_count 20 = .ok (.istore_n 3, 1) := by decide +kernel
theorem dX10_count_21 : decode cX10_count 21 = .ok (.iconst 0, 1) := by decide +kernel
theorem dX10_count_22 : decode cX10_count 22 = .ok (.istore 4, 2) := by decide +kernel
theorem dX10_count_24 : decode cX10_count 24 = .ok (.iload 4, 2) := by decide +kernel
theorem dX10_count_26 : decode cX10_count 26 = .ok (.sipush 1296, 3) := by decide +kernel
theorem dX10_count_29 : decode cX10_count 29 = .ok (.if_icmp .ge 41, 3) := by decide +kernel
theorem dX10_count_32 : decode cX10_count 32 = .ok (.aload_n 0, 1) := by decide +kernel
theorem dX10_count_33 : decode cX10_count 33 = .ok (.iload 4, 2) := by decide +kernel
theorem dX10_count_35 : decode cX10_count 35 = .ok (.invokevirtual 123, 3) := by decide +kernel
theorem dX10_count_38 : decode cX10_count 38 = .ok (.ifCond .eq 26, 3) := by decide +kernel
theorem dX10_count_41 : decode cX10_count 41 = .ok (.iload 4, 2) := by decide +kernel
theorem dX10_count_43 : decode cX10_count 43 = .ok (.invokestatic 100, 3) := by decide +kernel
theorem dX10_count_46 : decode cX10_count 46 = .ok (.iload_n 2, 1) := by decide +kernel
theorem dX10_count_47 : decode cX10_count 47 = .ok (.if_icmp .ne 17, 3) := by decide +kernel
theorem dX10_count_50 : decode cX10_count 50 = .ok (.aload_n 0, 1) := by decide +kernel
theorem dX10_count_51 : decode cX10_count 51 = .ok (.getfield 39, 3) := by decide +kernel
theorem dX10_count_54 : decode cX10_count 54 = .ok (.iload 4, 2) := by decide +kernel
theorem dX10_count_56 : decode cX10_count 56 = .ok (.iaload, 1) := by decide +kernel
theorem dX10_count_57 : decode cX10_count 57 = .ok (.iload_n 1, 1) := by decide +kernel
theorem dX10_count_58 : decode cX10_count 58 = .ok (.if_icmp .ne 6, 3) := by decide +kernel
theorem dX10_count_61 : decode cX10_count 61 = .ok (.iinc 3 1, 3) := by decide +kernel
theorem dX10_count_64 : decode cX10_count 64 = .ok (.iinc 4 1, 3) := by decide +kernel
theorem dX10_count_67 : decode cX10_count 67 = .ok (.goto (-43), 3) := by decide +kernel
theorem dX10_count_70 : decode cX10_count 70 = .ok (.iload_n 3, 1) := by decide +kernel
theorem dX10_count_71 : decode cX10_count 71 = .ok (.ireturn, 1) := by decide +kernel
theorem dX10_longest_0 : decode cX10_longest 0 = .ok (.aload_n 0, 1) := by decide +kernel
theorem dX10_longest_1 : decode cX10_longest 1 = .ok (.invokevirtual 198, 3) := by decide +kernel
theorem dX10_longest_4 : decode cX10_longest 4 = .ok (.iconst (-1), 1) := by decide +kernel
theorem dX10_longest_5 : decode cX10_longest 5 = .ok (.istore_n 2, 1) := by decide +kernel
theorem dX10_longest_6 : decode cX10_longest 6 = .ok (.iconst 0, 1) := by decide +kernel
theorem dX10_longest_7 : decode cX10_longest 7 = .ok (.istore_n 3, 1) := by decide +kernel
theorem dX10_longest_8 : decode cX10_longest 8 = .ok (.iload_n 3, 1) := by decide +kernel
theorem dX10_longest_9 : decode cX10_longest 9 = .ok (.sipush 1296, 3) := by decide +kernel
theorem dX10_longest_12 : decode cX10_longest 12 = .ok (.if_icmp .ge 48, 3) := by decide +kernel
theorem dX10_longest_15 : decode cX10_longest 15 = .ok (.aload_n 0, 1) := by decide +kernel
theorem dX10_longest_16 : decode cX10_longest 16 = .ok (.getfield 39, 3) := by decide +kernel
theorem dX10_longest_19 : decode cX10_longest 19 = .ok (.iload_n 3, 1) := by decide +kernel
theorem dX10_longest_20 : decode cX10_longest 20 = .ok (.iaload, 1) := by decide +kernel
theorem dX10_longest_21 : decode cX10_longest 21 = .ok (.iconst 1, 1) := by decide +kernel
theorem dX10_longest_22 : decode cX10_longest 22 = .ok (.if_icmp .ne 32, 3) := by decide +kernel
theorem dX10_longest_25 : decode cX10_longest 25 = .ok (.iload_n 3, 1) := by decide +kernel
theorem dX10_longest_26 : decode cX10_longest 26 = .ok (.invokestatic 100, 3) := by decide +kernel
theorem dX10_longest_29 : decode cX10_longest 29 = .ok (.iload_n 1, 1) := by decide +kernel
theorem dX10_longest_30 : decode cX10_longest 30 = .ok (.if_icmp .ne 24, 3) := by decide +kernel
theorem dX10_longest_33 : decode cX10_longest 33 = .ok (.iload_n 2, 1) := by decide +kernel
theorem dX10_longest_34 : decode cX10_longest 34 = .ok (.ifCond .lt 18, 3) := by decide +kernel
theorem dX10_longest_37 : decode cX10_longest 37 = .ok (.aload_n 0, 1) := by decide +kernel
theorem dX10_longest_38 : decode cX10_longest 38 = .ok (.getfield 42, 3) := by decide +kernel
theorem dX10_longest_41 : decode cX10_longest 41 = .ok (.iload_n 3, 1) := by decide +kernel
theorem dX10_longest_42 : decode cX10_longest 42 = .ok (.iaload, 1) := by decide +kernel
theorem dX10_longest_43 : decode cX10_longest 43 = .ok (.aload_n 0, 1) := by decide +kernel
theorem dX10_longest_44 : decode cX10_longest 44 = .ok (.getfield 42, 3) := by decide +kernel
theorem dX10_longest_47 : decode cX10_longest 47 = .ok (.iload_n 2, 1) := by decide +kernel
theorem dX10_longest_48 : decode cX10_longest 48 = .ok (.iaload, 1) := by decide +kernel
theorem dX10_longest_49 : decode cX10_longest 49 = .ok (.if_icmp .le 5, 3) := by decide +kernel
theorem dX10_longest_52 : decode cX10_longest 52 = .ok (.iload_n 3, 1) := by decide +kernel
theorem dX10_longest_53 : decode cX10_longest 53 = .ok (.istore_n 2, 1) := by decide +kernel
theorem dX10_longest_54 : decode cX10_longest 54 = .ok (.iinc 3 1, 3) := by decide +kernel
theorem dX10_longest_57 : decode cX10_longest 57 = .ok (.goto (-49), 3) := by decide +kernel
theorem dX10_longest_60 : decode cX10_longest 60 = .ok (.iload_n 2, 1) := by decide +kernel
theorem dX10_longest_61 : decode cX10_longest 61 = .ok (.ifCond .ge 11, 3) := by decide +kernel
theorem dX10_longest_64 : decode cX10_longest 64 = .ok (.aload_n 0, 1) := by decide +kernel
theorem dX10_longest_65 : decode cX10_longest 65 = .ok (.iconst 1, 1) := by decide +kernel
theorem dX10_longest_66 : decode cX10_longest 66 = .ok (.invokevirtual 61, 3) := by decide +kernel
theorem dX10_longest_69 : decode cX10_longest 69 = .ok (.goto 4, 3) := by decide +kernel
theorem dX10_longest_72 : decode cX10_longest 72 = .ok (.iload_n 2, 1) := by decide +kernel
theorem dX10_longest_73 : decode cX10_longest 73 = .ok (.ireturn, 1) := by decide +kernel
theorem dX10_wonIn_0 : decode cX10_wonIn 0 = .ok (.aload_n 0, 1) := by decide +kernel
theorem dX10_wonIn_1 : decode cX10_wonIn 1 = .ok (.invokevirtual 198, 3) := by decide +kernel
theorem dX10_wonIn_4 : decode cX10_wonIn 4 = .ok (.iload_n 1, 1) := by decide +kernel
theorem dX10_wonIn_5 : decode cX10_wonIn 5 = .ok (.ifCond .ge 9, 3) := by decide +kernel
theorem dX10_wonIn_8 : decode cX10_wonIn 8 = .ok (.aload_n 0, 1) := by decide +kernel
theorem dX10_wonIn_9 : decode cX10_wonIn 9 = .ok (.iconst 1, 1) := by decide +kernel
theorem dX10_wonIn_10 : decode cX10_wonIn 10 = .ok (.invokevirtual 61, 3) := by decide +kernel
theorem dX10_wonIn_13 : decode cX10_wonIn 13 = .ok (.ireturn, 1) := by decide +kernel
theorem dX10_wonIn_14 : decode cX10_wonIn 14 = .ok (.iconst 0, 1) := by decide +kernel
theorem dX10_wonIn_15 : decode cX10_wonIn 15 = .ok (.istore_n 2, 1) := by decide +kernel
theorem dX10_wonIn_16 : decode cX10_wonIn 16 = .ok (.iconst 0, 1) := by decide +kernel
theorem dX10_wonIn_17 : decode cX10_wonIn 17 = .ok (.istore_n 3, 1) := by decide +kernel
theorem dX10_wonIn_18 : decode cX10_wonIn 18 = .ok (.iload_n 3, 1) := by decide +kernel
theorem dX10_wonIn_19 : decode cX10_wonIn 19 = .ok (.sipush 1296, 3) := by decide +kernel
theorem dX10_wonIn_22 : decode cX10_wonIn 22 = .ok (.if_icmp .ge 31, 3) := by decide +kernel
theorem dX10_wonIn_25 : decode cX10_wonIn 25 = .ok (.aload_n 0, 1) := by decide +kernel
theorem dX10_wonIn_26 : decode cX10_wonIn 26 = .ok (.getfield 39, 3) := by decide +kernel
theorem dX10_wonIn_29 : decode cX10_wonIn 29 = .ok (.iload_n 3, 1) := by decide +kernel
theorem dX10_wonIn_30 : decode cX10_wonIn 30 = .ok (.iaload, 1) := by decide +kernel
theorem dX10_wonIn_31 : decode cX10_wonIn 31 = .ok (.ifCond .eq 16, 3) := by decide +kernel
theorem dX10_wonIn_34 : decode cX10_wonIn 34 = .ok (.aload_n 0, 1) := by decide +kernel
theorem dX10_wonIn_35 : decode cX10_wonIn 35 = .ok (.getfield 42, 3) := by decide +kernel
theorem dX10_wonIn_38 : decode cX10_wonIn 38 = .ok (.iload_n 3, 1) := by decide +kernel
theorem dX10_wonIn_39 : decode cX10_wonIn 39 = .ok (.iaload, 1) := by decide +kernel
theorem dX10_wonIn_40 : decode cX10_wonIn 40 = .ok (.iload_n 1, 1) := by decide +kernel
theorem dX10_wonIn_41 : decode cX10_wonIn 41 = .ok (.if_icmp .ne 6, 3) := by decide +kernel
theorem dX10_wonIn_44 : decode cX10_wonIn 44 = .ok (.iinc 2 1, 3) := by decide +kernel
theorem dX10_wonIn_47 : decode cX10_wonIn 47 = .ok (.iinc 3 1, 3) := by decide +kernel
theorem dX10_wonIn_50 : decode cX10_wonIn 50 = .ok (.goto (-32), 3) := by decide +kernel
theorem dX10_wonIn_53 : decode cX10_wonIn 53 = .ok (.iload_n 2, 1) := by decide +kernel
theorem dX10_wonIn_54 : decode cX10_wonIn 54 = .ok (.ireturn, 1) := by decide +kernel
theorem dX10_wouldChange_0 : decode cX10_wouldChange 0 = .ok (.aload_n 0, 1) := by decide +kernel
theorem dX10_wouldChange_1 : decode cX10_wouldChange 1 = .ok (.invokevirtual 198, 3) := by decide +kernel
theorem dX10_wouldChange_4 : decode cX10_wouldChange 4 = .ok (.aload_n 0, 1) := by decide +kernel
theorem dX10_wouldChange_5 : decode cX10_wouldChange 5 = .ok (.iload_n 1, 1) := by decide +kernel
theorem dX10_wouldChange_6 : decode cX10_wouldChange 6 = .ok (.invokevirtual 81, 3) := by decide +kernel
theorem dX10_wouldChange_9 : decode cX10_wouldChange 9 = .ok (.ifCond .eq 11, 3) := by decide +kernel
theorem dX10_wouldChange_12 : decode cX10_wouldChange 12 = .ok (.aload_n 0, 1) := by decide +kernel
theorem dX10_wouldChange_13 : decode cX10_wouldChange 13 = .ok (.iload_n 2, 1) := by decide +kernel
theorem dX10_wouldChange_14 : decode cX10_wouldChange 14 = .ok (.invokevirtual 81, 3) := by decide +kernel
theorem dX10_wouldChange_17 : decode cX10_wouldChange 17 = .ok (.ifCond .ne 9, 3) := by decide +kernel
theorem dX10_wouldChange_20 : decode cX10_wouldChange 20 = .ok (.aload_n 0, 1) := by decide +kernel
theorem dX10_wouldChange_21 : decode cX10_wouldChange 21 = .ok (.iconst 1, 1) := by decide +kernel
theorem dX10_wouldChange_22 : decode cX10_wouldChange 22 = .ok (.invokevirtual 61, 3) := by decide +kernel
theorem dX10_wouldChange_25 : decode cX10_wouldChange 25 = .ok (.ireturn, 1) := by decide +kernel
theorem dX10_wouldChange_26 : decode cX10_wouldChange 26 = .ok (.iload_n 1, 1) := by decide +kernel
theorem dX10_wouldChange_27 : decode cX10_wouldChange 27 = .ok (.iload_n 2, 1) := by decide +kernel
theorem dX10_wouldChange_28 : decode cX10_wouldChange 28 = .ok (.if_icmp .ne 9, 3) := by decide +kernel
theorem dX10_wouldChange_31 : decode cX10_wouldChange 31 = .ok (.aload_n 0, 1) := by decide +kernel
theorem dX10_wouldChange_32 : decode cX10_wouldChange 32 = .ok (.iconst 2, 1) := by decide +kernel
theorem dX10_wouldChange_33 : decode cX10_wouldChange 33 = .ok (.invokevirtual 61, 3) := by decide +kernel
theorem dX10_wouldChange_36 : decode cX10_wouldChange 36 = .ok (.ireturn, 1) := by decide +kernel
theorem dX10_wouldChange_37 : decode cX10_wouldChange 37 = .ok (.iconst 0, 1) := by decide +kernel
theorem dX10_wouldChange_38 : decode cX10_wouldChange 38 = .ok (.istore_n 3, 1) := by decide +kernel
theorem dX10_wouldChange_39 : decode cX10_wouldChange 39 = .ok (.iload_n 3, 1) := by decide +kernel
theorem dX10_wouldChange_40 : decode cX10_wouldChange 40 = .ok (.sipush 1296, 3) := by decide +kernel
theorem dX10_wouldChange_43 : decode cX10_wouldChange 43 = .ok (.if_icmp .ge 21, 3) := by decide +kernel
theorem dX10_wouldChange_46 : decode cX10_wouldChange 46 = .ok (.aload_n 0, 1) := by decide +kernel
theorem dX10_wouldChange_47 : decode cX10_wouldChange 47 = .ok (.getfield 45, 3) := by decide +kernel
theorem dX10_wouldChange_50 : decode cX10_wouldChange 50 = .ok (.iload_n 3, 1) := by decide +kernel
theorem dX10_wouldChange_51 : decode cX10_wouldChange 51 = .ok (.aload_n 0, 1) := by decide +kernel
theorem dX10_wouldChange_52 : decode cX10_wouldChange 52 = .ok (.getfield 39, 3) := by decide +kernel
theorem dX10_wouldChange_55 : decode cX10_wouldChange 55 = .ok (.iload_n 3, 1) := by decide +kernel
theorem dX10_wouldChange_56 : decode cX10_wouldChange 56 = .ok (.iaload, 1) := by decide +kernel
theorem dX10_wouldChange_57 : decode cX10_wouldChange 57 = .ok (.iastore, 1) := by decide +kernel
theorem dX10_wouldChange_58 : decode cX10_wouldChange 58 = .ok (.iinc 3 1, 3) := by decide +kernel
theorem dX10_wouldChange_61 : decode cX10_wouldChange 61 = .ok (.goto (-22), 3) := by decide +kernel
theorem dX10_wouldChange_64 : decode cX10_wouldChange 64 = .ok (.aload_n 0, 1) := by decide +kernel
theorem dX10_wouldChange_65 : decode cX10_wouldChange 65 = .ok (.getfield 36, 3) := by decide +kernel
theorem dX10_wouldChange_68 : decode cX10_wouldChange 68 = .ok (.iload_n 1, 1) := by decide +kernel
theorem dX10_wouldChange_69 : decode cX10_wouldChange 69 = .ok (.dup2, 1) := by decide +kernel
theorem dX10_wouldChange_70 : decode cX10_wouldChange 70 = .ok (.iaload, 1) := by decide +kernel
theorem dX10_wouldChange_71 : decode cX10_wouldChange 71 = .ok (.iconst 1, 1) := by decide +kernel
theorem dX10_wouldChange_72 : decode cX10_wouldChange 72 = .ok (.iload_n 2, 1) := by decide +kernel
theorem dX10_wouldChange_73 : decode cX10_wouldChange 73 = .ok (.ishl, 1) := by decide +kernel
theorem dX10_wouldChange_74 : decode cX10_wouldChange 74 = .ok (.ixor, 1) := by decide +kernel
theorem dX10_wouldChange_75 : decode cX10_wouldChange 75 = .ok (.iastore, 1) := by decide +kernel
theorem dX10_wouldChange_76 : decode cX10_wouldChange 76 = .ok (.aload_n 0, 1) := by decide +kernel
theorem dX10_wouldChange_77 : decode cX10_wouldChange 77 = .ok (.getfield 36, 3) := by decide +kernel
theorem dX10_wouldChange_80 : decode cX10_wouldChange 80 = .ok (.iload_n 2, 1) := by decide +kernel
theorem dX10_wouldChange_81 : decode cX10_wouldChange 81 = .ok (.dup2, 1) := by decide +kernel
theorem dX10_wouldChange_82 : decode cX10_wouldChange 82 = .ok (.iaload, 1) := by decide +kernel
theorem dX10_wouldChange_83 : decode cX10_wouldChange 83 = .ok (.iconst 1, 1) := by decide +kernel
theorem dX10_wouldChange_84 : decode cX10_wouldChange 84 = .ok (.iload_n 1, 1) := by decide +kernel
theorem dX10_wouldChange_85 : decode cX10_wouldChange 85 = .ok (.ishl, 1) := by decide +kernel
theorem dX10_wouldChange_86 : decode cX10_wouldChange 86 = .ok (.ixor, 1) := by decide +kernel
theorem dX10_wouldChange_87 : decode cX10_wouldChange 87 = .ok (.iastore, 1) := by decide +kernel
theorem dX10_wouldChange_88 : decode cX10_wouldChange 88 = .ok (.aload_n 0, 1) := by decide +kernel
theorem dX10_wouldChange_89 : decode cX10_wouldChange 89 = .ok (.invokevirtual 137, 3) := by decide +kernel
theorem dX10_wouldChange_92 : decode cX10_wouldChange 92 = .ok (.iconst 0, 1) := by decide +kernel
theorem dX10_wouldChange_93 : decode cX10_wouldChange 93 = .ok (.istore_n 3, 1) := by decide +kernel
theorem dX10_wouldChange_94 : decode cX10_wouldChange 94 = .ok (.iconst 0, 1) := by decide +kernel
theorem dX10_wouldChange_95 : decode cX10_wouldChange 95 = .ok (.istore 4, 2) := by decide +kernel
theorem dX10_wouldChange_97 : decode cX10_wouldChange 97 = .ok (.iload 4, 2) := by decide +kernel
theorem dX10_wouldChange_99 : decode cX10_wouldChange 99 = .ok (.sipush 1296, 3) := by decide +kernel
theorem dX10_wouldChange_102 : decode cX10_wouldChange 102 = .ok (.if_icmp .ge 29, 3) := by decide +kernel
theorem dX10_wouldChange_105 : decode cX10_wouldChange 105 = .ok (.aload_n 0, 1) := by decide +kernel
theorem dX10_wouldChange_106 : decode cX10_wouldChange 106 = .ok (.getfield 45, 3) := by decide +kernel
theorem dX10_wouldChange_109 : decode cX10_wouldChange 109 = .ok (.iload 4, 2) := by decide +kernel
theorem dX10_wouldChange_111 : decode cX10_wouldChange 111 = .ok (.iaload, 1) := by decide +kernel
theorem dX10_wouldChange_112 : decode cX10_wouldChange 112 = .ok (.aload_n 0, 1) := by decide +kernel
theorem dX10_wouldChange_113 : decode cX10_wouldChange 113 = .ok (.getfield 39, 3) := by decide +kernel
theorem dX10_wouldChange_116 : decode cX10_wouldChange 116 = .ok (.iload 4, 2) := by decide +kernel
theorem dX10_wouldChange_118 : decode cX10_wouldChange 118 = .ok (.iaload, 1) := by decide +kernel
theorem dX10_wouldChange_119 : decode cX10_wouldChange 119 = .ok (.if_icmp .eq 6, 3) := by decide +kernel
theorem dX10_wouldChange_122 : decode cX10_wouldChange 122 = .ok (.iinc 3 1, 3) := by decide +kernel
theorem dX10_wouldChange_125 : decode cX10_wouldChange 125 = .ok (.iinc 4 1, 3) := by decide +kernel
theorem dX10_wouldChange_128 : decode cX10_wouldChange 128 = .ok (.goto (-31), 3) := by decide +kernel
theorem dX10_wouldChange_131 : decode cX10_wouldChange 131 = .ok (.aload_n 0, 1) := by decide +kernel
theorem dX10_wouldChange_132 : decode cX10_wouldChange 132 = .ok (.iconst 0, 1) := by decide +kernel
theorem dX10_wouldChange_133 : decode cX10_wouldChange 133 = .ok (.putfield 57, 3) := by decide +kernel
theorem dX10_wouldChange_136 : decode cX10_wouldChange 136 = .ok (.iload_n 3, 1) := by decide +kernel
theorem dX10_wouldChange_137 : decode cX10_wouldChange 137 = .ok (.ireturn, 1) := by decide +kernel
theorem dX10_isForFox_0 : decode cX10_isForFox 0 = .ok (.aload_n 0, 1) := by decide +kernel
theorem dX10_isForFox_1 : decode cX10_isForFox 1 = .ok (.getfield 39, 3) := by decide +kernel
theorem dX10_isForFox_4 : decode cX10_isForFox 4 = .ok (.iload_n 1, 1) := by decide +kernel
theorem dX10_isForFox_5 : decode cX10_isForFox 5 = .ok (.iaload, 1) := by decide +kernel
theorem dX10_isForFox_6 : decode cX10_isForFox 6 = .ok (.iload_n 1, 1) := by decide +kernel
theorem dX10_isForFox_7 : decode cX10_isForFox 7 = .ok (.invokestatic 100, 3) := by decide +kernel
theorem dX10_isForFox_10 : decode cX10_isForFox 10 = .ok (.ifCond .eq 7, 3) := by decide +kernel
theorem dX10_isForFox_13 : decode cX10_isForFox 13 = .ok (.iconst 2, 1) := by decide +kernel
theorem dX10_isForFox_14 : decode cX10_isForFox 14 = .ok (.goto 4, 3) := by decide +kernel
theorem dX10_isForFox_17 : decode cX10_isForFox 17 = .ok (.iconst 1, 1) := by decide +kernel
theorem dX10_isForFox_18 : decode cX10_isForFox 18 = .ok (.if_icmp .ne 7, 3) := by decide +kernel
theorem dX10_isForFox_21 : decode cX10_isForFox 21 = .ok (.iconst 1, 1) := by decide +kernel
theorem dX10_isForFox_22 : decode cX10_isForFox 22 = .ok (.goto 4, 3) := by decide +kernel
theorem dX10_isForFox_25 : decode cX10_isForFox 25 = .ok (.iconst 0, 1) := by decide +kernel
theorem dX10_isForFox_26 : decode cX10_isForFox 26 = .ok (.ireturn, 1) := by decide +kernel
theorem dX10_bestBurrow_0 : decode cX10_bestBurrow 0 = .ok (.aload_n 0, 1) := by decide +kernel
theorem dX10_bestBurrow_1 : decode cX10_bestBurrow 1 = .ok (.invokevirtual 198, 3) := by decide +kernel
theorem dX10_bestBurrow_4 : decode cX10_bestBurrow 4 = .ok (.aload_n 0, 1) := by decide +kernel
theorem dX10_bestBurrow_5 : decode cX10_bestBurrow 5 = .ok (.iload_n 1, 1) := by decide +kernel
theorem dX10_bestBurrow_6 : decode cX10_bestBurrow 6 = .ok (.invokevirtual 123, 3) := by decide +kernel
theorem dX10_bestBurrow_9 : decode cX10_bestBurrow 9 = .ok (.ifCond .ne 9, 3) := by decide +kernel
theorem dX10_bestBurrow_12 : decode cX10_bestBurrow 12 = .ok (.aload_n 0, 1) := by decide +kernel
theorem dX10_bestBurrow_13 : decode cX10_bestBurrow 13 = .ok (.iconst 1, 1) := by decide +kernel
theorem dX10_bestBurrow_14 : decode cX10_bestBurrow 14 = .ok (.invokevirtual 61, 3) := by decide +kernel
theorem dX10_bestBurrow_17 : decode cX10_bestBurrow 17 = .ok (.ireturn, 1) := by decide +kernel
theorem dX10_bestBurrow_18 : decode cX10_bestBurrow 18 = .ok (.iconst (-1), 1) := by decide +kernel
theorem dX10_bestBurrow_19 : decode cX10_bestBurrow 19 = .ok (.istore_n 2, 1) := by decide +kernel
theorem dX10_bestBurrow_20 : decode cX10_bestBurrow 20 = .ok (.iconst 0, 1) := by decide +kernel
theorem dX10_bestBurrow_21 : decode cX10_bestBurrow 21 = .ok (.istore_n 3, 1) := by decide +kernel
theorem dX10_bestBurrow_22 : decode cX10_bestBurrow 22 = .ok (.iload_n 3, 1) := by decide +kernel
theorem dX10_bestBurrow_23 : decode cX10_bestBurrow 23 = .ok (.aload_n 0, 1) := by decide +kernel
theorem dX10_bestBurrow_24 : decode cX10_bestBurrow 24 = .ok (.getfield 9, 3) := by decide +kernel
theorem dX10_bestBurrow_27 : decode cX10_bestBurrow 27 = .ok (.iconst 0, 1) := by decide +kernel
theorem dX10_bestBurrow_28 : decode cX10_bestBurrow 28 = .ok (.iaload, 1) := by decide +kernel
theorem dX10_bestBurrow_29 : decode cX10_bestBurrow 29 = .ok (.if_icmp .ge 71, 3) := by decide +kernel
theorem dX10_bestBurrow_32 : decode cX10_bestBurrow 32 = .ok (.iload_n 3, 1) := by decide +kernel
theorem dX10_bestBurrow_33 : decode cX10_bestBurrow 33 = .ok (.iload_n 1, 1) := by decide +kernel
theorem dX10_bestBurrow_34 : decode cX10_bestBurrow 34 = .ok (.invokestatic 88, 3) := by decide +kernel
theorem dX10_bestBurrow_37 : decode cX10_bestBurrow 37 = .ok (.iload_n 1, 1) := by decide +kernel
theorem dX10_bestBurrow_38 : decode cX10_bestBurrow 38 = .ok (.invokestatic 91, 3) := by decide +kernel
theorem dX10_bestBurrow_41 : decode cX10_bestBurrow 41 = .ok (.iload_n 1, 1) := by decide +kernel
theorem dX10_bestBurrow_42 : decode cX10_bestBurrow 42 = .ok (.invokestatic 100, 3) := by decide +kernel
theorem dX10_bestBurrow_45 : decode cX10_bestBurrow 45 = .ok (.invokestatic 110, 3) := by decide +kernel
theorem dX10_bestBurrow_48 : decode cX10_bestBurrow 48 = .ok (.istore 4, 2) := by decide +kernel
theorem dX10_bestBurrow_50 : decode cX10_bestBurrow 50 = .ok (.aload_n 0, 1) := by decide +kernel
theorem dX10_bestBurrow_51 : decode cX10_bestBurrow 51 = .ok (.iload 4, 2) := by decide +kernel
theorem dX10_bestBurrow_53 : decode cX10_bestBurrow 53 = .ok (.invokevirtual 123, 3) := by decide +kernel
theorem dX10_bestBurrow_56 : decode cX10_bestBurrow 56 = .ok (.ifCond .eq 38, 3) := by decide +kernel
theorem dX10_bestBurrow_59 : decode cX10_bestBurrow 59 = .ok (.aload_n 0, 1) := by decide +kernel
theorem dX10_bestBurrow_60 : decode cX10_bestBurrow 60 = .ok (.iload 4, 2) := by decide +kernel
theorem dX10_bestBurrow_62 : decode cX10_bestBurrow 62 = .ok (.invokevirtual 201, 3) := by decide +kernel
theorem dX10_bestBurrow_65 : decode cX10_bestBurrow 65 = .ok (.ifCond .ne 6, 3) := by decide +kernel
theorem dX10_bestBurrow_68 : decode cX10_bestBurrow 68 = .ok (.goto 26, 3) := by decide +kernel
theorem dX10_bestBurrow_71 : decode cX10_bestBurrow 71 = .ok (.iload_n 2, 1) := by decide +kernel
theorem dX10_bestBurrow_72 : decode cX10_bestBurrow 72 = .ok (.ifCond .lt 19, 3) := by decide +kernel
theorem dX10_bestBurrow_75 : decode cX10_bestBurrow 75 = .ok (.aload_n 0, 1) := by decide +kernel
theorem dX10_bestBurrow_76 : decode cX10_bestBurrow 76 = .ok (.getfield 42, 3) := by decide +kernel
theorem dX10_bestBurrow_79 : decode cX10_bestBurrow 79 = .ok (.iload 4, 2) := by decide +kernel
theorem dX10_bestBurrow_81 : decode cX10_bestBurrow 81 = .ok (.iaload, 1) := by decide +kernel
theorem dX10_bestBurrow_82 : decode cX10_bestBurrow 82 = .ok (.aload_n 0, 1) := by decide +kernel
theorem dX10_bestBurrow_83 : decode cX10_bestBurrow 83 = .ok (.getfield 42, 3) := by decide +kernel
theorem dX10_bestBurrow_86 : decode cX10_bestBurrow 86 = .ok (.iload_n 2, 1) := by decide +kernel
theorem dX10_bestBurrow_87 : decode cX10_bestBurrow 87 = .ok (.iaload, 1) := by decide +kernel
theorem dX10_bestBurrow_88 : decode cX10_bestBurrow 88 = .ok (.if_icmp .ge 6, 3) := by decide +kernel
theorem dX10_bestBurrow_91 : decode cX10_bestBurrow 91 = .ok (.iload 4, 2) := by decide +kernel
theorem dX10_bestBurrow_93 : decode cX10_bestBurrow 93 = .ok (.istore_n 2, 1) := by decide +kernel
theorem dX10_bestBurrow_94 : decode cX10_bestBurrow 94 = .ok (.iinc 3 1, 3) := by decide +kernel
theorem dX10_bestBurrow_97 : decode cX10_bestBurrow 97 = .ok (.goto (-75), 3) := by decide +kernel
theorem dX10_bestBurrow_100 : decode cX10_bestBurrow 100 = .ok (.iload_n 2, 1) := by decide +kernel
theorem dX10_bestBurrow_101 : decode cX10_bestBurrow 101 = .ok (.ifCond .ge 11, 3) := by decide +kernel
theorem dX10_bestBurrow_104 : decode cX10_bestBurrow 104 = .ok (.aload_n 0, 1) := by decide +kernel
theorem dX10_bestBurrow_105 : decode cX10_bestBurrow 105 = .ok (.iconst 1, 1) := by decide +kernel
theorem dX10_bestBurrow_106 : decode cX10_bestBurrow 106 = .ok (.invokevirtual 61, 3) := by decide +kernel
theorem dX10_bestBurrow_109 : decode cX10_bestBurrow 109 = .ok (.goto 7, 3) := by decide +kernel
theorem dX10_bestBurrow_112 : decode cX10_bestBurrow 112 = .ok (.iload_n 2, 1) := by decide +kernel
theorem dX10_bestBurrow_113 : decode cX10_bestBurrow 113 = .ok (.invokestatic 85, 3) := by decide +kernel
theorem dX10_bestBurrow_116 : decode cX10_bestBurrow 116 = .ok (.ireturn, 1) := by decide +kernel
theorem dX10_burrowOf_0 : decode cX10_burrowOf 0 = .ok (.aload_n 0, 1) := by decide +kernel
theorem dX10_burrowOf_1 : decode cX10_burrowOf 1 = .ok (.invokevirtual 198, 3) := by decide +kernel
theorem dX10_burrowOf_4 : decode cX10_burrowOf 4 = .ok (.aload_n 0, 1) := by decide +kernel
theorem dX10_burrowOf_5 : decode cX10_burrowOf 5 = .ok (.iload_n 1, 1) := by decide +kernel
theorem dX10_burrowOf_6 : decode cX10_burrowOf 6 = .ok (.invokevirtual 81, 3) := by decide +kernel
theorem dX10_burrowOf_9 : decode cX10_burrowOf 9 = .ok (.ifCond .ne 9, 3) := by decide +kernel
theorem dX10_burrowOf_12 : decode cX10_burrowOf 12 = .ok (.aload_n 0, 1) := by decide +kernel
theorem dX10_burrowOf_13 : decode cX10_burrowOf 13 = .ok (.iconst 1, 1) := by decide +kernel
theorem dX10_burrowOf_14 : decode cX10_burrowOf 14 = .ok (.invokevirtual 61, 3) := by decide +kernel
theorem dX10_burrowOf_17 : decode cX10_burrowOf 17 = .ok (.ireturn, 1) := by decide +kernel
theorem dX10_burrowOf_18 : decode cX10_burrowOf 18 = .ok (.iconst 0, 1) := by decide +kernel
theorem dX10_burrowOf_19 : decode cX10_burrowOf 19 = .ok (.istore_n 3, 1) := by decide +kernel
theorem dX10_burrowOf_20 : decode cX10_burrowOf 20 = .ok (.iload_n 2, 1) := by decide +kernel
theorem dX10_burrowOf_21 : decode cX10_burrowOf 21 = .ok (.tableswitch 117 0 3 #[31, 41, 55, 69], 31) := by decide +kernel
theorem dX10_burrowOf_52 : decode cX10_burrowOf 52 = .ok (.aload_n 0, 1) := by decide +kernel
theorem dX10_burrowOf_53 : decode cX10_burrowOf 53 = .ok (.getfield 36, 3) := by decide +kernel
theorem dX10_burrowOf_56 : decode cX10_burrowOf 56 = .ok (.iload_n 1, 1) := by decide +kernel
theorem dX10_burrowOf_57 : decode cX10_burrowOf 57 = .ok (.iaload, 1) := by decide +kernel
theorem dX10_burrowOf_58 : decode cX10_burrowOf 58 = .ok (.invokestatic 168, 3) := by decide +kernel
theorem dX10_burrowOf_61 : decode cX10_burrowOf 61 = .ok (.ireturn, 1) := by decide +kernel
theorem dX10_burrowOf_62 : decode cX10_burrowOf 62 = .ok (.aload_n 0, 1) := by decide +kernel
theorem dX10_burrowOf_63 : decode cX10_burrowOf 63 = .ok (.getfield 36, 3) := by decide +kernel
theorem dX10_burrowOf_66 : decode cX10_burrowOf 66 = .ok (.iload_n 1, 1) := by decide +kernel
theorem dX10_burrowOf_67 : decode cX10_burrowOf 67 = .ok (.iaload, 1) := by decide +kernel
theorem dX10_burrowOf_68 : decode cX10_burrowOf 68 = .ok (.iload_n 1, 1) := by decide +kernel
theorem dX10_burrowOf_69 : decode cX10_burrowOf 69 = .ok (.iconst 1, 1) := by decide +kernel
theorem dX10_burrowOf_70 : decode cX10_burrowOf 70 = .ok (.iadd, 1) := by decide +kernel
theorem dX10_burrowOf_71 : decode cX10_burrowOf 71 = .ok (.ishr, 1) := by decide +kernel
theorem dX10_burrowOf_72 : decode cX10_burrowOf 72 = .ok (.invokestatic 168, 3) := by decide +kernel
theorem dX10_burrowOf_75 : decode cX10_burrowOf 75 = .ok (.ireturn, 1) := by decide +kernel
theorem dX10_burrowOf_76 : decode cX10_burrowOf 76 = .ok (.aload_n 0, 1) := by decide +kernel
theorem dX10_burrowOf_77 : decode cX10_burrowOf 77 = .ok (.iload_n 1, 1) := by decide +kernel
theorem dX10_burrowOf_78 : decode cX10_burrowOf 78 = .ok (.invokevirtual 97, 3) := by decide +kernel
theorem dX10_burrowOf_81 : decode cX10_burrowOf 81 = .ok (.ifCond .eq 7, 3) := by decide +kernel
theorem dX10_burrowOf_84 : decode cX10_burrowOf 84 = .ok (.iconst 1, 1) := by decide +kernel
theorem dX10_burrowOf_85 : decode cX10_burrowOf 85 = .ok (.goto 4, 3) := by decide +kernel
theorem dX10_burrowOf_88 : decode cX10_burrowOf 88 = .ok (.iconst 0, 1) := by decide +kernel
theorem dX10_burrowOf_89 : decode cX10_burrowOf 89 = .ok (.ireturn, 1) := by decide +kernel
theorem dX10_burrowOf_90 : decode cX10_burrowOf 90 = .ok (.sipush 162, 3) := by decide +kernel
theorem dX10_burrowOf_93 : decode cX10_burrowOf 93 = .ok (.iload_n 1, 1) := by decide +kernel
theorem dX10_burrowOf_94 : decode cX10_burrowOf 94 = .ok (.imul, 1) := by decide +kernel
theorem dX10_burrowOf_95 : decode cX10_burrowOf 95 = .ok (.istore 4, 2) := by decide +kernel
theorem dX10_burrowOf_97 : decode cX10_burrowOf 97 = .ok (.iload 4, 2) := by decide +kernel
theorem dX10_burrowOf_99 : decode cX10_burrowOf 99 = .ok (.sipush 162, 3) := by decide +kernel
theorem dX10_burrowOf_102 : decode cX10_burrowOf 102 = .ok (.iload_n 1, 1) := by decide +kernel
theorem dX10_burrowOf_103 : decode cX10_burrowOf 103 = .ok (.iconst 1, 1) := by decide +kernel
theorem dX10_burrowOf_104 : decode cX10_burrowOf 104 = .ok (.iadd, 1) := by decide +kernel
theorem dX10_burrowOf_105 : decode cX10_burrowOf 105 = .ok (.imul, 1) := by decide +kernel
theorem dX10_burrowOf_106 : decode cX10_burrowOf 106 = .ok (.if_icmp .ge 30, 3) := by decide +kernel
theorem dX10_burrowOf_109 : decode cX10_burrowOf 109 = .ok (.aload_n 0, 1) := by decide +kernel
theorem dX10_burrowOf_110 : decode cX10_burrowOf 110 = .ok (.iload 4, 2) := by decide +kernel
theorem dX10_burrowOf_112 : decode cX10_burrowOf 112 = .ok (.invokevirtual 123, 3) := by decide +kernel
theorem dX10_burrowOf_115 : decode cX10_burrowOf 115 = .ok (.ifCond .eq 15, 3) := by decide +kernel
theorem dX10_burrowOf_118 : decode cX10_burrowOf 118 = .ok (.aload_n 0, 1) := by decide +kernel
theorem dX10_burrowOf_119 : decode cX10_burrowOf 119 = .ok (.iload 4, 2) := by decide +kernel
theorem dX10_burrowOf_121 : decode cX10_burrowOf 121 = .ok (.invokevirtual 201, 3) := by decide +kernel
theorem dX10_burrowOf_124 : decode cX10_burrowOf 124 = .ok (.ifCond .eq 6, 3) := by decide +kernel
theorem dX10_burrowOf_127 : decode cX10_burrowOf 127 = .ok (.iinc 3 1, 3) := by decide +kernel
theorem dX10_burrowOf_130 : decode cX10_burrowOf 130 = .ok (.iinc 4 1, 3) := by decide +kernel
theorem dX10_burrowOf_133 : decode cX10_burrowOf 133 = .ok (.goto (-36), 3) := by decide +kernel
theorem dX10_burrowOf_136 : decode cX10_burrowOf 136 = .ok (.iload_n 3, 1) := by decide +kernel
theorem dX10_burrowOf_137 : decode cX10_burrowOf 137 = .ok (.ireturn, 1) := by decide +kernel
theorem dX10_burrowOf_138 : decode cX10_burrowOf 138 = .ok (.aload_n 0, 1) := by decide +kernel
theorem dX10_burrowOf_139 : decode cX10_burrowOf 139 = .ok (.iconst 2, 1) := by decide +kernel
theorem dX10_burrowOf_140 : decode cX10_burrowOf 140 = .ok (.invokevirtual 61, 3) := by decide +kernel
theorem dX10_burrowOf_143 : decode cX10_burrowOf 143 = .ok (.ireturn, 1) := by decide +kernel
theorem dX10_pathOf_0 : decode cX10_pathOf 0 = .ok (.aload_n 0, 1) := by decide +kernel
theorem dX10_pathOf_1 : decode cX10_pathOf 1 = .ok (.iload_n 1, 1) := by decide +kernel
theorem dX10_pathOf_2 : decode cX10_pathOf 2 = .ok (.iconst 0, 1) := by decide +kernel
theorem dX10_pathOf_3 : decode cX10_pathOf 3 = .ok (.aload_n 0, 1) := by decide +kernel
theorem dX10_pathOf_4 : decode cX10_pathOf 4 = .ok (.getfield 9, 3) := by decide +kernel
theorem dX10_pathOf_7 : decode cX10_pathOf 7 = .ok (.iconst 3, 1) := by decide +kernel
theorem dX10_pathOf_8 : decode cX10_pathOf 8 = .ok (.iaload, 1) := by decide +kernel
theorem dX10_pathOf_9 : decode cX10_pathOf 9 = .ok (.iconst 1, 1) := by decide +kernel
theorem dX10_pathOf_10 : decode cX10_pathOf 10 = .ok (.isub, 1) := by decide +kernel
theorem dX10_pathOf_11 : decode cX10_pathOf 11 = .ok (.invokestatic 77, 3) := by decide +kernel
theorem dX10_pathOf_14 : decode cX10_pathOf 14 = .ok (.ifCond .eq 7, 3) := by decide +kernel
theorem dX10_pathOf_17 : decode cX10_pathOf 17 = .ok (.iconst 0, 1) := by decide +kernel
theorem dX10_pathOf_18 : decode cX10_pathOf 18 = .ok (.goto 4, 3) := by decide +kernel
theorem dX10_pathOf_21 : decode cX10_pathOf 21 = .ok (.iconst 1, 1) := by decide +kernel
theorem dX10_pathOf_22 : decode cX10_pathOf 22 = .ok (.putfield 54, 3) := by decide +kernel
theorem dX10_pathOf_25 : decode cX10_pathOf 25 = .ok (.aload_n 0, 1) := by decide +kernel
theorem dX10_pathOf_26 : decode cX10_pathOf 26 = .ok (.getfield 54, 3) := by decide +kernel
theorem dX10_pathOf_29 : decode cX10_pathOf 29 = .ok (.ifCond .ne 27, 3) := by decide +kernel
theorem dX10_pathOf_32 : decode cX10_pathOf 32 = .ok (.aload_n 0, 1) := by decide +kernel
theorem dX10_pathOf_33 : decode cX10_pathOf 33 = .ok (.getfield 9, 3) := by decide +kernel
theorem dX10_pathOf_36 : decode cX10_pathOf 36 = .ok (.bipush 7, 2) := by decide +kernel
theorem dX10_pathOf_38 : decode cX10_pathOf 38 = .ok (.iconst 2, 1) := by decide +kernel
theorem dX10_pathOf_39 : decode cX10_pathOf 39 = .ok (.iload_n 1, 1) := by decide +kernel
theorem dX10_pathOf_40 : decode cX10_pathOf 40 = .ok (.imul, 1) := by decide +kernel
theorem dX10_pathOf_41 : decode cX10_pathOf 41 = .ok (.iadd, 1) := by decide +kernel
theorem dX10_pathOf_42 : decode cX10_pathOf 42 = .ok (.iload_n 2, 1) := by decide +kernel
theorem dX10_pathOf_43 : decode cX10_pathOf 43 = .ok (.ifCond .eq 7, 3) := by decide +kernel
theorem dX10_pathOf_46 : decode cX10_pathOf 46 = .ok (.iconst 1, 1) := by decide +kernel
theorem dX10_pathOf_47 : decode cX10_pathOf 47 = .ok (.goto 4, 3) := by decide +kernel
theorem dX10_pathOf_50 : decode cX10_pathOf 50 = .ok (.iconst 0, 1) := by decide +kernel
theorem dX10_pathOf_51 : decode cX10_pathOf 51 = .ok (.iadd, 1) := by decide +kernel
theorem dX10_pathOf_52 : decode cX10_pathOf 52 = .ok (.iaload, 1) := by decide +kernel
theorem dX10_pathOf_53 : decode cX10_pathOf 53 = .ok (.goto 4, 3) := by decide +kernel
theorem dX10_pathOf_56 : decode cX10_pathOf 56 = .ok (.iconst 0, 1) := by decide +kernel
theorem dX10_pathOf_57 : decode cX10_pathOf 57 = .ok (.ireturn, 1) := by decide +kernel
theorem dX10_now_0 : decode cX10_now 0 = .ok (.aload_n 0, 1) := by decide +kernel
theorem dX10_now_1 : decode cX10_now 1 = .ok (.aload_n 0, 1) := by decide +kernel
theorem dX10_now_2 : decode cX10_now 2 = .ok (.getfield 9, 3) := by decide +kernel
theorem dX10_now_5 : decode cX10_now 5 = .ok (.iconst 4, 1) := by decide +kernel
theorem dX10_now_6 : decode cX10_now 6 = .ok (.iaload, 1) := by decide +kernel
theorem dX10_now_7 : decode cX10_now 7 = .ok (.ifCond .ne 7, 3) := by decide +kernel
theorem dX10_now_10 : decode cX10_now 10 = .ok (.iconst 1, 1) := by decide +kernel
theorem dX10_now_11 : decode cX10_now 11 = .ok (.goto 4, 3) := by decide +kernel
theorem dX10_now_14 : decode cX10_now 14 = .ok (.iconst 0, 1) := by decide +kernel
theorem dX10_now_15 : decode cX10_now 15 = .ok (.putfield 54, 3) := by decide +kernel
theorem dX10_now_18 : decode cX10_now 18 = .ok (.aload_n 0, 1) := by decide +kernel
theorem dX10_now_19 : decode cX10_now 19 = .ok (.getfield 54, 3) := by decide +kernel
theorem dX10_now_22 : decode cX10_now 22 = .ok (.ifCond .ne 14, 3) := by decide +kernel
theorem dX10_now_25 : decode cX10_now 25 = .ok (.aload_n 0, 1) := by decide +kernel
theorem dX10_now_26 : decode cX10_now 26 = .ok (.getfield 9, 3) := by decide +kernel
theorem dX10_now_29 : decode cX10_now 29 = .ok (.iconst 4, 1) := by decide +kernel
theorem dX10_now_30 : decode cX10_now 30 = .ok (.iaload, 1) := by decide +kernel
theorem dX10_now_31 : decode cX10_now 31 = .ok (.iconst 1, 1) := by decide +kernel
theorem dX10_now_32 : decode cX10_now 32 = .ok (.isub, 1) := by decide +kernel
theorem dX10_now_33 : decode cX10_now 33 = .ok (.goto 4, 3) := by decide +kernel
theorem dX10_now_36 : decode cX10_now 36 = .ok (.iconst 0, 1) := by decide +kernel
theorem dX10_now_37 : decode cX10_now 37 = .ok (.ireturn, 1) := by decide +kernel
theorem dX10_append_0 : decode cX10_append 0 = .ok (.aload_n 0, 1) := by decide +kernel
theorem dX10_append_1 : decode cX10_append 1 = .ok (.iconst 0, 1) := by decide +kernel
theorem dX10_append_2 : decode cX10_append 2 = .ok (.putfield 54, 3) := by decide +kernel
theorem dX10_append_5 : decode cX10_append 5 = .ok (.aload_n 0, 1) := by decide +kernel
theorem dX10_append_6 : decode cX10_append 6 = .ok (.getfield 204, 3) := by decide +kernel
theorem dX10_append_9 : decode cX10_append 9 = .ok (.bipush 60, 2) := by decide +kernel
theorem dX10_append_11 : decode cX10_append 11 = .ok (.if_icmp .ne 9, 3) := by decide +kernel
theorem dX10_append_14 : decode cX10_append 14 = .ok (.aload_n 0, 1) := by decide +kernel
theorem dX10_append_15 : decode cX10_append 15 = .ok (.iconst 1, 1) := by decide +kernel
theorem dX10_append_16 : decode cX10_append 16 = .ok (.invokevirtual 61, 3) := by decide +kernel
theorem dX10_append_19 : decode cX10_append 19 = .ok (.ireturn, 1) := by decide +kernel
theorem dX10_append_20 : decode cX10_append 20 = .ok (.aload_n 0, 1) := by decide +kernel
theorem dX10_append_21 : decode cX10_append 21 = .ok (.getfield 26, 3) := by decide +kernel
theorem dX10_append_24 : decode cX10_append 24 = .ok (.aload_n 0, 1) := by decide +kernel
theorem dX10_append_25 : decode cX10_append 25 = .ok (.dup, 1) := by decide +kernel
theorem dX10_append_26 : decode cX10_append 26 = .ok (.getfield 204, 3) := by decide +kernel
theorem dX10_append_29 : decode cX10_append 29 = .ok (.dup_x1, 1) := by decide +kernel
theorem dX10_append_30 : decode cX10_append 30 = .ok (.iconst 1, 1) := by decide +kernel
theorem dX10_append_31 : decode cX10_append 31 = .ok (.iadd, 1) := by decide +kernel
theorem dX10_append_32 : decode cX10_append 32 = .ok (.putfield 204, 3) := by decide +kernel
theorem dX10_append_35 : decode cX10_append 35 = .ok (.iload_n 1, 1) := by decide +kernel
theorem dX10_append_36 : decode cX10_append 36 = .ok (.castore, 1) := by decide +kernel
theorem dX10_append_37 : decode cX10_append 37 = .ok (.aload_n 0, 1) := by decide +kernel
theorem dX10_append_38 : decode cX10_append 38 = .ok (.getfield 204, 3) := by decide +kernel
theorem dX10_append_41 : decode cX10_append 41 = .ok (.ireturn, 1) := by decide +kernel
theorem dX10_takes_0 : decode cX10_takes 0 = .ok (.aload_n 0, 1) := by decide +kernel
theorem dX10_takes_1 : decode cX10_takes 1 = .ok (.getfield 207, 3) := by decide +kernel
theorem dX10_takes_4 : decode cX10_takes 4 = .ok (.aload_n 0, 1) := by decide +kernel
theorem dX10_takes_5 : decode cX10_takes 5 = .ok (.getfield 204, 3) := by decide +kernel
theorem dX10_takes_8 : decode cX10_takes 8 = .ok (.if_icmp .eq 16, 3) := by decide +kernel
theorem dX10_takes_11 : decode cX10_takes 11 = .ok (.aload_n 0, 1) := by decide +kernel
theorem dX10_takes_12 : decode cX10_takes 12 = .ok (.getfield 26, 3) := by decide +kernel
theorem dX10_takes_15 : decode cX10_takes 15 = .ok (.aload_n 0, 1) := by decide +kernel
theorem dX10_takes_16 : decode cX10_takes 16 = .ok (.getfield 207, 3) := by decide +kernel
theorem dX10_takes_19 : decode cX10_takes 19 = .ok (.caload, 1) := by decide +kernel
theorem dX10_takes_20 : decode cX10_takes 20 = .ok (.iload_n 1, 1) := by decide +kernel
theorem dX10_takes_21 : decode cX10_takes 21 = .ok (.if_icmp .eq 5, 3) := by decide +kernel
theorem dX10_takes_24 : decode cX10_takes 24 = .ok (.iconst 0, 1) := by decide +kernel
theorem dX10_takes_25 : decode cX10_takes 25 = .ok (.ireturn, 1) := by decide +kernel
theorem dX10_takes_26 : decode cX10_takes 26 = .ok (.aload_n 0, 1) := by decide +kernel
theorem dX10_takes_27 : decode cX10_takes 27 = .ok (.dup, 1) := by decide +kernel
theorem dX10_takes_28 : decode cX10_takes 28 = .ok (.getfield 207, 3) := by decide +kernel
theorem dX10_takes_31 : decode cX10_takes 31 = .ok (.iconst 1, 1) := by decide +kernel
theorem dX10_takes_32 : decode cX10_takes 32 = .ok (.iadd, 1) := by decide +kernel
theorem dX10_takes_33 : decode cX10_takes 33 = .ok (.putfield 207, 3) := by decide +kernel
theorem dX10_takes_36 : decode cX10_takes 36 = .ok (.iconst 1, 1) := by decide +kernel
theorem dX10_takes_37 : decode cX10_takes 37 = .ok (.ireturn, 1) := by decide +kernel
theorem dX10_digits_0 : decode cX10_digits 0 = .ok (.iconst 0, 1) := by decide +kernel
theorem dX10_digits_1 : decode cX10_digits 1 = .ok (.istore_n 3, 1) := by decide +kernel
theorem dX10_digits_2 : decode cX10_digits 2 = .ok (.aload_n 0, 1) := by decide +kernel
theorem dX10_digits_3 : decode cX10_digits 3 = .ok (.getfield 29, 3) := by decide +kernel
theorem dX10_digits_6 : decode cX10_digits 6 = .ok (.iload_n 1, 1) := by decide +kernel
theorem dX10_digits_7 : decode cX10_digits 7 = .ok (.iconst 0, 1) := by decide +kernel
theorem dX10_digits_8 : decode cX10_digits 8 = .ok (.iastore, 1) := by decide +kernel
theorem dX10_digits_9 : decode cX10_digits 9 = .ok (.iload_n 3, 1) := by decide +kernel
theorem dX10_digits_10 : decode cX10_digits 10 = .ok (.iload_n 2, 1) := by decide +kernel
theorem dX10_digits_11 : decode cX10_digits 11 = .ok (.if_icmp .ge 74, 3) := by decide +kernel
theorem dX10_digits_14 : decode cX10_digits 14 = .ok (.aload_n 0, 1) := by decide +kernel
theorem dX10_digits_15 : decode cX10_digits 15 = .ok (.getfield 207, 3) := by decide +kernel
theorem dX10_digits_18 : decode cX10_digits 18 = .ok (.aload_n 0, 1) := by decide +kernel
theorem dX10_digits_19 : decode cX10_digits 19 = .ok (.getfield 204, 3) := by decide +kernel
theorem dX10_digits_22 : decode cX10_digits 22 = .ok (.if_icmp .ge 63, 3) := by decide +kernel
theorem dX10_digits_25 : decode cX10_digits 25 = .ok (.aload_n 0, 1) := by decide +kernel
theorem dX10_digits_26 : decode cX10_digits 26 = .ok (.getfield 26, 3) := by decide +kernel
theorem dX10_digits_29 : decode cX10_digits 29 = .ok (.aload_n 0, 1) := by decide +kernel
theorem dX10_digits_30 : decode cX10_digits 30 = .ok (.getfield 207, 3) := by decide +kernel
theorem dX10_digits_33 : decode cX10_digits 33 = .ok (.caload, 1) := by decide +kernel
theorem dX10_digits_34 : decode cX10_digits 34 = .ok (.bipush 48, 2) := by decide +kernel
theorem dX10_digits_36 : decode cX10_digits 36 = .ok (.bipush 57, 2) := by decide +kernel
theorem dX10_digits_38 : decode cX10_digits 38 = .ok (.invokestatic 77, 3) := by decide +kernel
theorem dX10_digits_41 : decode cX10_digits 41 = .ok (.ifCond .eq 44, 3) := by decide +kernel
theorem dX10_digits_44 : decode cX10_digits 44 = .ok (.aload_n 0, 1) := by decide +kernel
theorem dX10_digits_45 : decode cX10_digits 45 = .ok (.getfield 29, 3) := by decide +kernel
theorem dX10_digits_48 : decode cX10_digits 48 = .ok (.iload_n 1, 1) := by decide +kernel
theorem dX10_digits_49 : decode cX10_digits 49 = .ok (.bipush 10, 2) := by decide +kernel
theorem dX10_digits_51 : decode cX10_digits 51 = .ok (.aload_n 0, 1) := by decide +kernel
theorem dX10_digits_52 : decode cX10_digits 52 = .ok (.getfield 29, 3) := by decide +kernel
theorem dX10_digits_55 : decode cX10_digits 55 = .ok (.iload_n 1, 1) := by decide +kernel
theorem dX10_digits_56 : decode cX10_digits 56 = .ok (.iaload, 1) := by decide +kernel
theorem dX10_digits_57 : decode cX10_digits 57 = .ok (.imul, 1) := by decide +kernel
theorem dX10_digits_58 : decode cX10_digits 58 = .ok (.aload_n 0, 1) := by decide +kernel
theorem dX10_digits_59 : decode cX10_digits 59 = .ok (.getfield 26, 3) := by decide +kernel
theorem dX10_digits_62 : decode cX10_digits 62 = .ok (.aload_n 0, 1) := by decide +kernel
theorem dX10_digits_63 : decode cX10_digits 63 = .ok (.dup, 1) := by decide +kernel
theorem dX10_digits_64 : decode cX10_digits 64 = .ok (.getfield 207, 3) := by decide +kernel
theorem dX10_digits_67 : decode cX10_digits 67 = .ok (.dup_x1, 1) := by decide +kernel
theorem dX10_digits_68 : decode cX10_digits 68 = .ok (.iconst 1, 1) := by decide +kernel
theorem dX10_digits_69 : decode cX10_digits 69 = .ok (.iadd, 1) := by decide +kernel
theorem dX10_digits_70 : decode cX10_digits 70 = .ok (.putfield 207, 3) := by decide +kernel
theorem dX10_digits_73 : decode cX10_digits 73 = .ok (.caload, 1) := by decide +kernel
theorem dX10_digits_74 : decode cX10_digits 74 = .ok (.iadd, 1) := by decide +kernel
theorem dX10_digits_75 : decode cX10_digits 75 = .ok (.bipush 48, 2) := by decide +kernel
theorem dX10_digits_77 : decode cX10_digits 77 = .ok (.isub, 1) := by decide +kernel
theorem dX10_digits_78 : decode cX10_digits 78 = .ok (.iastore, 1) := by decide +kernel
theorem dX10_digits_79 : decode cX10_digits 79 = .ok (.iinc 3 1, 3) := by decide +kernel
theorem dX10_digits_82 : decode cX10_digits 82 = .ok (.goto (-73), 3) := by decide +kernel
theorem dX10_digits_85 : decode cX10_digits 85 = .ok (.iload_n 3, 1) := by decide +kernel
theorem dX10_digits_86 : decode cX10_digits 86 = .ok (.ifCond .le 7, 3) := by decide +kernel
theorem dX10_digits_89 : decode cX10_digits 89 = .ok (.iconst 1, 1) := by decide +kernel
theorem dX10_digits_90 : decode cX10_digits 90 = .ok (.goto 4, 3) := by decide +kernel
theorem dX10_digits_93 : decode cX10_digits 93 = .ok (.iconst 0, 1) := by decide +kernel
theorem dX10_digits_94 : decode cX10_digits 94 = .ok (.ireturn, 1) := by decide +kernel
theorem dX10_isCommand_0 : decode cX10_isCommand 0 = .ok (.aload_n 0, 1) := by decide +kernel
theorem dX10_isCommand_1 : decode cX10_isCommand 1 = .ok (.getfield 207, 3) := by decide +kernel
theorem dX10_isCommand_4 : decode cX10_isCommand 4 = .ok (.aload_n 0, 1) := by decide +kernel
theorem dX10_isCommand_5 : decode cX10_isCommand 5 = .ok (.getfield 204, 3) := by decide +kernel
theorem dX10_isCommand_8 : decode cX10_isCommand 8 = .ok (.if_icmp .ne 5, 3) := by decide +kernel
theorem dX10_isCommand_11 : decode cX10_isCommand 11 = .ok (.iconst 0, 1) := by decide +kernel
theorem dX10_isCommand_12 : decode cX10_isCommand 12 = .ok (.ireturn, 1) := by decide +kernel
theorem dX10_isCommand_13 : decode cX10_isCommand 13 = .ok (.aload_n 0, 1) := by decide +kernel
theorem dX10_isCommand_14 : decode cX10_isCommand 14 = .ok (.aload_n 0, 1) := by decide +kernel
theorem dX10_isCommand_15 : decode cX10_isCommand 15 = .ok (.getfield 26, 3) := by decide +kernel
theorem dX10_isCommand_18 : decode cX10_isCommand 18 = .ok (.aload_n 0, 1) := by decide +kernel
theorem dX10_isCommand_19 : decode cX10_isCommand 19 = .ok (.getfield 207, 3) := by decide +kernel
theorem dX10_isCommand_22 : decode cX10_isCommand 22 = .ok (.caload, 1) := by decide +kernel
theorem dX10_isCommand_23 : decode cX10_isCommand 23 = .ok (.putfield 210, 3) := by decide +kernel
theorem dX10_isCommand_26 : decode cX10_isCommand 26 = .ok (.aload_n 0, 1) := by decide +kernel
theorem dX10_isCommand_27 : decode cX10_isCommand 27 = .ok (.getfield 210, 3) := by decide +kernel
theorem dX10_isCommand_30 : decode cX10_isCommand 30 = .ok (.tableswitch 259 97 120 #[242, 225, 259, 110, 259, 208, 208, 259, 259, 259, 259, 259, 165, 259, 259, 122, 259, 259, 259, 208, 110, 259, 259, 122], 110) := by decide +kernel
theorem dX10_isCommand_140 : decode cX10_isCommand 140 = .ok (.aload_n 0, 1) := by decide +kernel
theorem dX10_isCommand_141 : decode cX10_isCommand 141 = .ok (.dup, 1) := by decide +kernel
theorem dX10_isCommand_142 : decode cX10_isCommand 142 = .ok (.getfield 207, 3) := by decide +kernel
theorem dX10_isCommand_145 : decode cX10_isCommand 145 = .ok (.iconst 1, 1) := by decide +kernel
theorem dX10_isCommand_146 : decode cX10_isCommand 146 = .ok (.iadd, 1) := by decide +kernel
theorem dX10_isCommand_147 : decode cX10_isCommand 147 = .ok (.putfield 207, 3) := by decide +kernel
theorem dX10_isCommand_150 : decode cX10_isCommand 150 = .ok (.iconst 1, 1) := by decide +kernel
theorem dX10_isCommand_151 : decode cX10_isCommand 151 = .ok (.ireturn, 1) := by decide +kernel
theorem dX10_isCommand_152 : decode cX10_isCommand 152 = .ok (.aload_n 0, 1) := by decide +kernel
theorem dX10_isCommand_153 : decode cX10_isCommand 153 = .ok (.dup, 1) := by decide +kernel
theorem dX10_isCommand_154 : decode cX10_isCommand 154 = .ok (.getfield 207, 3) := by decide +kernel
theorem dX10_isCommand_157 : decode cX10_isCommand 157 = .ok (.iconst 1, 1) := by decide +kernel
theorem dX10_isCommand_158 : decode cX10_isCommand 158 = .ok (.iadd, 1) := by decide +kernel
theorem dX10_isCommand_159 : decode cX10_isCommand 159 = .ok (.putfield 207, 3) := by decide +kernel
theorem dX10_isCommand_162 : decode cX10_isCommand 162 = .ok (.aload_n 0, 1) := by decide +kernel
theorem dX10_isCommand_163 : decode cX10_isCommand 163 = .ok (.iconst 0, 1) := by decide +kernel
theorem dX10_isCommand_164 : decode cX10_isCommand 164 = .ok (.iconst 1, 1) := by decide +kernel
theorem dX10_isCommand_165 : decode cX10_isCommand 165 = .ok (.invokevirtual 214, 3) := by decide +kernel
theorem dX10_isCommand_168 : decode cX10_isCommand 168 = .ok (.ifCond .eq 25, 3) := by decide +kernel
theorem dX10_isCommand_171 : decode cX10_isCommand 171 = .ok (.aload_n 0, 1) := by decide +kernel
theorem dX10_isCommand_172 : decode cX10_isCommand 172 = .ok (.bipush 45, 2) := by decide +kernel
theorem dX10_isCommand_174 : decode cX10_isCommand 174 = .ok (.invokevirtual 218, 3) := by decide +kernel
theorem dX10_isCommand_177 : decode cX10_isCommand 177 = .ok (.ifCond .eq 16, 3) := by decide +kernel
theorem dX10_isCommand_180 : decode cX10_isCommand 180 = .ok (.aload_n 0, 1) := by decide +kernel
theorem dX10_isCommand_181 : decode cX10_isCommand 181 = .ok (.iconst 1, 1) := by decide +kernel
theorem dX10_isCommand_182 : decode cX10_isCommand 182 = .ok (.iconst 1, 1) := by decide +kernel
theorem dX10_isCommand_183 : decode cX10_isCommand 183 = .ok (.invokevirtual 214, 3) := by decide +kernel
theorem dX10_isCommand_186 : decode cX10_isCommand 186 = .ok (.ifCond .eq 7, 3) := by decide +kernel
theorem dX10_isCommand_189 : decode cX10_isCommand 189 = .ok (.iconst 1, 1) := by decide +kernel
theorem dX10_isCommand_190 : decode cX10_isCommand 190 = .ok (.goto 4, 3) := by decide +kernel
theorem dX10_isCommand_193 : decode cX10_isCommand 193 = .ok (.iconst 0, 1) := by decide +kernel
theorem dX10_isCommand_194 : decode cX10_isCommand 194 = .ok (.ireturn, 1) := by decide +kernel
theorem dX10_isCommand_195 : decode cX10_isCommand 195 = .ok (.aload_n 0, 1) := by decide +kernel
theorem dX10_isCommand_196 : decode cX10_isCommand 196 = .ok (.dup, 1) := by decide +kernel
theorem dX10_isCommand_197 : decode cX10_isCommand 197 = .ok (.getfield 207, 3) := by decide +kernel
theorem dX10_isCommand_200 : decode cX10_isCommand 200 = .ok (.iconst 1, 1) := by decide +kernel
theorem dX10_isCommand_201 : decode cX10_isCommand 201 = .ok (.iadd, 1) := by decide +kernel
theorem dX10_isCommand_202 : decode cX10_isCommand 202 = .ok (.putfield 207, 3) := by decide +kernel
theorem dX10_isCommand_205 : decode cX10_isCommand 205 = .ok (.aload_n 0, 1) := by decide +kernel
theorem dX10_isCommand_206 : decode cX10_isCommand 206 = .ok (.iconst 0, 1) := by decide +kernel
theorem dX10_isCommand_207 : decode cX10_isCommand 207 = .ok (.iconst 1, 1) := by decide +kernel
theorem dX10_isCommand_208 : decode cX10_isCommand 208 = .ok (.invokevirtual 214, 3) := by decide +kernel
theorem dX10_isCommand_211 : decode cX10_isCommand 211 = .ok (.ifCond .eq 25, 3) := by decide +kernel
theorem dX10_isCommand_214 : decode cX10_isCommand 214 = .ok (.aload_n 0, 1) := by decide +kernel
theorem dX10_isCommand_215 : decode cX10_isCommand 215 = .ok (.bipush 62, 2) := by decide +kernel
theorem dX10_isCommand_217 : decode cX10_isCommand 217 = .ok (.invokevirtual 218, 3) := by decide +kernel
theorem dX10_isCommand_220 : decode cX10_isCommand 220 = .ok (.ifCond .eq 16, 3) := by decide +kernel
theorem dX10_isCommand_223 : decode cX10_isCommand 223 = .ok (.aload_n 0, 1) := by decide +kernel
theorem dX10_isCommand_224 : decode cX10_isCommand 224 = .ok (.iconst 1, 1) := by decide +kernel
theorem dX10_isCommand_225 : decode cX10_isCommand 225 = .ok (.iconst 1, 1) := by decide +kernel
theorem dX10_isCommand_226 : decode cX10_isCommand 226 = .ok (.invokevirtual 214, 3) := by decide +kernel
theorem dX10_isCommand_229 : decode cX10_isCommand 229 = .ok (.ifCond .eq 7, 3) := by decide +kernel
theorem dX10_isCommand_232 : decode cX10_isCommand 232 = .ok (.iconst 1, 1) := by decide +kernel
theorem dX10_isCommand_233 : decode cX10_isCommand 233 = .ok (.goto 4, 3) := by decide +kernel
theorem dX10_isCommand_236 : decode cX10_isCommand 236 = .ok (.iconst 0, 1) := by decide +kernel
theorem dX10_isCommand_237 : decode cX10_isCommand 237 = .ok (.ireturn, 1) := by decide +kernel
theorem dX10_isCommand_238 : decode cX10_isCommand 238 = .ok (.aload_n 0, 1) := by decide +kernel
theorem dX10_isCommand_239 : decode cX10_isCommand 239 = .ok (.dup, 1) := by decide +kernel
theorem dX10_isCommand_240 : decode cX10_isCommand 240 = .ok (.getfield 207, 3) := by decide +kernel
theorem dX10_isCommand_243 : decode cX10_isCommand 243 = .ok (.iconst 1, 1) := by decide +kernel
theorem dX10_isCommand_244 : decode cX10_isCommand 244 = .ok (.iadd, 1) := by decide +kernel
theorem dX10_isCommand_245 : decode cX10_isCommand 245 = .ok (.putfield 207, 3) := by decide +kernel
theorem dX10_isCommand_248 : decode cX10_isCommand 248 = .ok (.aload_n 0, 1) := by decide +kernel
theorem dX10_isCommand_249 : decode cX10_isCommand 249 = .ok (.iconst 0, 1) := by decide +kernel
theorem dX10_isCommand_250 : decode cX10_isCommand 250 = .ok (.iconst 1, 1) := by decide +kernel
theorem dX10_isCommand_251 : decode cX10_isCommand 251 = .ok (.invokevirtual 214, 3) := by decide +kernel
theorem dX10_isCommand_254 : decode cX10_isCommand 254 = .ok (.ireturn, 1) := by decide +kernel
theorem dX10_isCommand_255 : decode cX10_isCommand 255 = .ok (.aload_n 0, 1) := by decide +kernel
theorem dX10_isCommand_256 : decode cX10_isCommand 256 = .ok (.dup, 1) := by decide +kernel
theorem dX10_isCommand_257 : decode cX10_isCommand 257 = .ok (.getfield 207, 3) := by decide +kernel
theorem dX10_isCommand_260 : decode cX10_isCommand 260 = .ok (.iconst 1, 1) := by decide +kernel
theorem dX10_isCommand_261 : decode cX10_isCommand 261 = .ok (.iadd, 1) := by decide +kernel
theorem dX10_isCommand_262 : decode cX10_isCommand 262 = .ok (.putfield 207, 3) := by decide +kernel
theorem dX10_isCommand_265 : decode cX10_isCommand 265 = .ok (.aload_n 0, 1) := by decide +kernel
theorem dX10_isCommand_266 : decode cX10_isCommand 266 = .ok (.iconst 0, 1) := by decide +kernel
theorem dX10_isCommand_267 : decode cX10_isCommand 267 = .ok (.iconst 4, 1) := by decide +kernel
theorem dX10_isCommand_268 : decode cX10_isCommand 268 = .ok (.invokevirtual 214, 3) := by decide +kernel
theorem dX10_isCommand_271 : decode cX10_isCommand 271 = .ok (.ireturn, 1) := by decide +kernel
theorem dX10_isCommand_272 : decode cX10_isCommand 272 = .ok (.aload_n 0, 1) := by decide +kernel
theorem dX10_isCommand_273 : decode cX10_isCommand 273 = .ok (.dup, 1) := by decide +kernel
theorem dX10_isCommand_274 : decode cX10_isCommand 274 = .ok (.getfield 207, 3) := by decide +kernel
theorem dX10_isCommand_277 : decode cX10_isCommand 277 = .ok (.iconst 1, 1) := by decide +kernel
theorem dX10_isCommand_278 : decode cX10_isCommand 278 = .ok (.iadd, 1) := by decide +kernel
theorem dX10_isCommand_279 : decode cX10_isCommand 279 = .ok (.putfield 207, 3) := by decide +kernel
theorem dX10_isCommand_282 : decode cX10_isCommand 282 = .ok (.aload_n 0, 1) := by decide +kernel
theorem dX10_isCommand_283 : decode cX10_isCommand 283 = .ok (.iconst 0, 1) := by decide +kernel
theorem dX10_isCommand_284 : decode cX10_isCommand 284 = .ok (.iconst 2, 1) := by decide +kernel
theorem dX10_isCommand_285 : decode cX10_isCommand 285 = .ok (.invokevirtual 214, 3) := by decide +kernel
theorem dX10_isCommand_288 : decode cX10_isCommand 288 = .ok (.ireturn, 1) := by decide +kernel
theorem dX10_isCommand_289 : decode cX10_isCommand 289 = .ok (.iconst 0, 1) := by decide +kernel
theorem dX10_isCommand_290 : decode cX10_isCommand 290 = .ok (.ireturn, 1) := by decide +kernel
theorem dX10_carries_0 : decode cX10_carries 0 = .ok (.aload_n 0, 1) := by decide +kernel
theorem dX10_carries_1 : decode cX10_carries 1 = .ok (.getfield 210, 3) := by decide +kernel
theorem dX10_carries_4 : decode cX10_carries 4 = .ok (.tableswitch 215 98 120 #[204, 215, 108, 215, 181, 193, 215, 215, 215, 215, 215, 152, 215, 215, 118, 215, 215, 215, 169, 113, 215, 215, 135], 108) := by decide +kernel
theorem dX10_carries_112 : decode cX10_carries 112 = .ok (.aload_n 0, 1) := by decide +kernel
theorem dX10_carries_113 : decode cX10_carries 113 = .ok (.invokevirtual 149, 3) := by decide +kernel
theorem dX10_carries_116 : decode cX10_carries 116 = .ok (.ireturn, 1) := by decide +kernel
theorem dX10_carries_117 : decode cX10_carries 117 = .ok (.aload_n 0, 1) := by decide +kernel
theorem dX10_carries_118 : decode cX10_carries 118 = .ok (.invokevirtual 195, 3) := by decide +kernel
theorem dX10_carries_121 : decode cX10_carries 121 = .ok (.ireturn, 1) := by decide +kernel
theorem dX10_carries_122 : decode cX10_carries 122 = .ok (.aload_n 0, 1) := by decide +kernel
theorem dX10_carries_123 : decode cX10_carries 123 = .ok (.aload_n 0, 1) := by decide +kernel
theorem dX10_carries_124 : decode cX10_carries 124 = .ok (.getfield 29, 3) := by decide +kernel
theorem dX10_carries_127 : decode cX10_carries 127 = .ok (.iconst 0, 1) := by decide +kernel
theorem dX10_carries_128 : decode cX10_carries 128 = .ok (.iaload, 1) := by decide +kernel
theorem dX10_carries_129 : decode cX10_carries 129 = .ok (.aload_n 0, 1) := by decide +kernel
theorem dX10_carries_130 : decode cX10_carries 130 = .ok (.getfield 29, 3) := by decide +kernel
theorem dX10_carries_133 : decode cX10_carries 133 = .ok (.iconst 1, 1) := by decide +kernel
theorem dX10_carries_134 : decode cX10_carries 134 = .ok (.iaload, 1) := by decide +kernel
theorem dX10_carries_135 : decode cX10_carries 135 = .ok (.invokevirtual 162, 3) := by decide +kernel
theorem dX10_carries_138 : decode cX10_carries 138 = .ok (.ireturn, 1) := by decide +kernel
theorem dX10_carries_139 : decode cX10_carries 139 = .ok (.aload_n 0, 1) := by decide +kernel
theorem dX10_carries_140 : decode cX10_carries 140 = .ok (.aload_n 0, 1) := by decide +kernel
theorem dX10_carries_141 : decode cX10_carries 141 = .ok (.getfield 29, 3) := by decide +kernel
theorem dX10_carries_144 : decode cX10_carries 144 = .ok (.iconst 0, 1) := by decide +kernel
theorem dX10_carries_145 : decode cX10_carries 145 = .ok (.iaload, 1) := by decide +kernel
theorem dX10_carries_146 : decode cX10_carries 146 = .ok (.aload_n 0, 1) := by decide +kernel
theorem dX10_carries_147 : decode cX10_carries 147 = .ok (.getfield 29, 3) := by decide +kernel
theorem dX10_carries_150 : decode cX10_carries 150 = .ok (.iconst 1, 1) := by decide +kernel
theorem dX10_carries_151 : decode cX10_carries 151 = .ok (.iaload, 1) := by decide +kernel
theorem dX10_carries_152 : decode cX10_carries 152 = .ok (.invokevirtual 165, 3) := by decide +kernel
theorem dX10_carries_155 : decode cX10_carries 155 = .ok (.ireturn, 1) := by decide +kernel
theorem dX10_carries_156 : decode cX10_carries 156 = .ok (.aload_n 0, 1) := by decide +kernel
theorem dX10_carries_157 : decode cX10_carries 157 = .ok (.aload_n 0, 1) := by decide +kernel
theorem dX10_carries_158 : decode cX10_carries 158 = .ok (.getfield 29, 3) := by decide +kernel
theorem dX10_carries_161 : decode cX10_carries 161 = .ok (.iconst 0, 1) := by decide +kernel
theorem dX10_carries_162 : decode cX10_carries 162 = .ok (.iaload, 1) := by decide +kernel
theorem dX10_carries_163 : decode cX10_carries 163 = .ok (.aload_n 0, 1) := by decide +kernel
theorem dX10_carries_164 : decode cX10_carries 164 = .ok (.getfield 29, 3) := by decide +kernel
theorem dX10_carries_167 : decode cX10_carries 167 = .ok (.iconst 1, 1) := by decide +kernel
theorem dX10_carries_168 : decode cX10_carries 168 = .ok (.iaload, 1) := by decide +kernel
theorem dX10_carries_169 : decode cX10_carries 169 = .ok (.invokevirtual 186, 3) := by decide +kernel
theorem dX10_carries_172 : decode cX10_carries 172 = .ok (.ireturn, 1) := by decide +kernel
theorem dX10_carries_173 : decode cX10_carries 173 = .ok (.aload_n 0, 1) := by decide +kernel
theorem dX10_carries_174 : decode cX10_carries 174 = .ok (.aload_n 0, 1) := by decide +kernel
theorem dX10_carries_175 : decode cX10_carries 175 = .ok (.getfield 29, 3) := by decide +kernel
theorem dX10_carries_178 : decode cX10_carries 178 = .ok (.iconst 0, 1) := by decide +kernel
theorem dX10_carries_179 : decode cX10_carries 179 = .ok (.iaload, 1) := by decide +kernel
theorem dX10_carries_180 : decode cX10_carries 180 = .ok (.iconst 1, 1) := by decide +kernel
theorem dX10_carries_181 : decode cX10_carries 181 = .ok (.invokevirtual 173, 3) := by decide +kernel
theorem dX10_carries_184 : decode cX10_carries 184 = .ok (.ireturn, 1) := by decide +kernel
theorem dX10_carries_185 : decode cX10_carries 185 = .ok (.aload_n 0, 1) := by decide +kernel
theorem dX10_carries_186 : decode cX10_carries 186 = .ok (.aload_n 0, 1) := by decide +kernel
theorem dX10_carries_187 : decode cX10_carries 187 = .ok (.getfield 29, 3) := by decide +kernel
theorem dX10_carries_190 : decode cX10_carries 190 = .ok (.iconst 0, 1) := by decide +kernel
theorem dX10_carries_191 : decode cX10_carries 191 = .ok (.iaload, 1) := by decide +kernel
theorem dX10_carries_192 : decode cX10_carries 192 = .ok (.iconst 0, 1) := by decide +kernel
theorem dX10_carries_193 : decode cX10_carries 193 = .ok (.invokevirtual 173, 3) := by decide +kernel
theorem dX10_carries_196 : decode cX10_carries 196 = .ok (.ireturn, 1) := by decide +kernel
theorem dX10_carries_197 : decode cX10_carries 197 = .ok (.aload_n 0, 1) := by decide +kernel
theorem dX10_carries_198 : decode cX10_carries 198 = .ok (.aload_n 0, 1) := by decide +kernel
theorem dX10_carries_199 : decode cX10_carries 199 = .ok (.getfield 29, 3) := by decide +kernel
theorem dX10_carries_202 : decode cX10_carries 202 = .ok (.iconst 0, 1) := by decide +kernel
theorem dX10_carries_203 : decode cX10_carries 203 = .ok (.iaload, 1) := by decide +kernel
theorem dX10_carries_204 : decode cX10_carries 204 = .ok (.invokevirtual 177, 3) := by decide +kernel
theorem dX10_carries_207 : decode cX10_carries 207 = .ok (.ireturn, 1) := by decide +kernel
theorem dX10_carries_208 : decode cX10_carries 208 = .ok (.aload_n 0, 1) := by decide +kernel
theorem dX10_carries_209 : decode cX10_carries 209 = .ok (.aload_n 0, 1) := by decide +kernel
theorem dX10_carries_210 : decode cX10_carries 210 = .ok (.getfield 29, 3) := by decide +kernel
theorem dX10_carries_213 : decode cX10_carries 213 = .ok (.iconst 0, 1) := by decide +kernel
theorem dX10_carries_214 : decode cX10_carries 214 = .ok (.iaload, 1) := by decide +kernel
theorem dX10_carries_215 : decode cX10_carries 215 = .ok (.invokevirtual 180, 3) := by decide +kernel
theorem dX10_carries_218 : decode cX10_carries 218 = .ok (.ireturn, 1) := by decide +kernel
theorem dX10_carries_219 : decode cX10_carries 219 = .ok (.aload_n 0, 1) := by decide +kernel
theorem dX10_carries_220 : decode cX10_carries 220 = .ok (.aload_n 0, 1) := by decide +kernel
theorem dX10_carries_221 : decode cX10_carries 221 = .ok (.getfield 29, 3) := by decide +kernel
theorem dX10_carries_224 : decode cX10_carries 224 = .ok (.iconst 0, 1) := by decide +kernel
theorem dX10_carries_225 : decode cX10_carries 225 = .ok (.iaload, 1) := by decide +kernel
theorem dX10_carries_226 : decode cX10_carries 226 = .ok (.invokevirtual 192, 3) := by decide +kernel
theorem dX10_carries_229 : decode cX10_carries 229 = .ok (.ireturn, 1) := by decide +kernel
theorem dX10_commands_0 : decode cX10_commands 0 = .ok (.aload_n 0, 1) := by decide +kernel
theorem dX10_commands_1 : decode cX10_commands 1 = .ok (.invokevirtual 146, 3) := by decide +kernel
theorem dX10_commands_4 : decode cX10_commands 4 = .ok (.aload_n 0, 1) := by decide +kernel
theorem dX10_commands_5 : decode cX10_commands 5 = .ok (.iconst 0, 1) := by decide +kernel
theorem dX10_commands_6 : decode cX10_commands 6 = .ok (.putfield 207, 3) := by decide +kernel
theorem dX10_commands_9 : decode cX10_commands 9 = .ok (.aload_n 0, 1) := by decide +kernel
theorem dX10_commands_10 : decode cX10_commands 10 = .ok (.iconst (-1), 1) := by decide +kernel
theorem dX10_commands_11 : decode cX10_commands 11 = .ok (.putfield 32, 3) := by decide +kernel
theorem dX10_commands_14 : decode cX10_commands 14 = .ok (.aload_n 0, 1) := by decide +kernel
theorem dX10_commands_15 : decode cX10_commands 15 = .ok (.invokevirtual 222, 3) := by decide +kernel
theorem dX10_commands_18 : decode cX10_commands 18 = .ok (.istore_n 1, 1) := by decide +kernel
theorem dX10_commands_19 : decode cX10_commands 19 = .ok (.iload_n 1, 1) := by decide +kernel
theorem dX10_commands_20 : decode cX10_commands 20 = .ok (.ifCond .eq 39, 3) := by decide +kernel
theorem dX10_commands_23 : decode cX10_commands 23 = .ok (.aload_n 0, 1) := by decide +kernel
theorem dX10_commands_24 : decode cX10_commands 24 = .ok (.getfield 207, 3) := by decide +kernel
theorem dX10_commands_27 : decode cX10_commands 27 = .ok (.aload_n 0, 1) := by decide +kernel
theorem dX10_commands_28 : decode cX10_commands 28 = .ok (.getfield 204, 3) := by decide +kernel
theorem dX10_commands_31 : decode cX10_commands 31 = .ok (.if_icmp .ge 28, 3) := by decide +kernel
theorem dX10_commands_34 : decode cX10_commands 34 = .ok (.aload_n 0, 1) := by decide +kernel
theorem dX10_commands_35 : decode cX10_commands 35 = .ok (.bipush 59, 2) := by decide +kernel
theorem dX10_commands_37 : decode cX10_commands 37 = .ok (.invokevirtual 218, 3) := by decide +kernel
theorem dX10_commands_40 : decode cX10_commands 40 = .ok (.ifCond .eq 14, 3) := by decide +kernel
theorem dX10_commands_43 : decode cX10_commands 43 = .ok (.aload_n 0, 1) := by decide +kernel
theorem dX10_commands_44 : decode cX10_commands 44 = .ok (.invokevirtual 222, 3) := by decide +kernel
theorem dX10_commands_47 : decode cX10_commands 47 = .ok (.ifCond .eq 7, 3) := by decide +kernel
theorem dX10_commands_50 : decode cX10_commands 50 = .ok (.iconst 1, 1) := by decide +kernel
theorem dX10_commands_51 : decode cX10_commands 51 = .ok (.goto 4, 3) := by decide +kernel
theorem dX10_commands_54 : decode cX10_commands 54 = .ok (.iconst 0, 1) := by decide +kernel
theorem dX10_commands_55 : decode cX10_commands 55 = .ok (.istore_n 1, 1) := by decide +kernel
theorem dX10_commands_56 : decode cX10_commands 56 = .ok (.goto (-37), 3) := by decide +kernel
theorem dX10_commands_59 : decode cX10_commands 59 = .ok (.iload_n 1, 1) := by decide +kernel
theorem dX10_commands_60 : decode cX10_commands 60 = .ok (.ifCond .ne 22, 3) := by decide +kernel
theorem dX10_commands_63 : decode cX10_commands 63 = .ok (.aload_n 0, 1) := by decide +kernel
theorem dX10_commands_64 : decode cX10_commands 64 = .ok (.aload_n 0, 1) := by decide +kernel
theorem dX10_commands_65 : decode cX10_commands 65 = .ok (.getfield 207, 3) := by decide +kernel
theorem dX10_commands_68 : decode cX10_commands 68 = .ok (.putfield 32, 3) := by decide +kernel
theorem dX10_commands_71 : decode cX10_commands 71 = .ok (.aload_n 0, 1) := by decide +kernel
theorem dX10_commands_72 : decode cX10_commands 72 = .ok (.iconst 0, 1) := by decide +kernel
theorem dX10_commands_73 : decode cX10_commands 73 = .ok (.putfield 204, 3) := by decide +kernel
theorem dX10_commands_76 : decode cX10_commands 76 = .ok (.aload_n 0, 1) := by decide +kernel
theorem dX10_commands_77 : decode cX10_commands 77 = .ok (.iconst 1, 1) := by decide +kernel
theorem dX10_commands_78 : decode cX10_commands 78 = .ok (.invokevirtual 61, 3) := by decide +kernel
theorem dX10_commands_81 : decode cX10_commands 81 = .ok (.ireturn, 1) := by decide +kernel
theorem dX10_commands_82 : decode cX10_commands 82 = .ok (.aload_n 0, 1) := by decide +kernel
theorem dX10_commands_83 : decode cX10_commands 83 = .ok (.iconst 0, 1) := by decide +kernel
theorem dX10_commands_84 : decode cX10_commands 84 = .ok (.putfield 207, 3) := by decide +kernel
theorem dX10_commands_87 : decode cX10_commands 87 = .ok (.iconst 0, 1) := by decide +kernel
theorem dX10_commands_88 : decode cX10_commands 88 = .ok (.istore_n 2, 1) := by decide +kernel
theorem dX10_commands_89 : decode cX10_commands 89 = .ok (.iconst 0, 1) := by decide +kernel
theorem dX10_commands_90 : decode cX10_commands 90 = .ok (.istore_n 3, 1) := by decide +kernel
theorem dX10_commands_91 : decode cX10_commands 91 = .ok (.iconst 1, 1) := by decide +kernel
theorem dX10_commands_92 : decode cX10_commands 92 = .ok (.istore 4, 2) := by decide +kernel
theorem dX10_commands_94 : decode cX10_commands 94 = .ok (.iload 4, 2) := by decide +kernel
theorem dX10_commands_96 : decode cX10_commands 96 = .ok (.ifCond .eq 43, 3) := by decide +kernel
theorem dX10_commands_99 : decode cX10_commands 99 = .ok (.aload_n 0, 1) := by decide +kernel
theorem dX10_commands_100 : decode cX10_commands 100 = .ok (.invokevirtual 222, 3) := by decide +kernel
theorem dX10_commands_103 : decode cX10_commands 103 = .ok (.istore_n 1, 1) := by decide +kernel
theorem dX10_commands_104 : decode cX10_commands 104 = .ok (.aload_n 0, 1) := by decide +kernel
theorem dX10_commands_105 : decode cX10_commands 105 = .ok (.invokevirtual 226, 3) := by decide +kernel
theorem dX10_commands_108 : decode cX10_commands 108 = .ok (.istore_n 3, 1) := by decide +kernel
theorem dX10_commands_109 : decode cX10_commands 109 = .ok (.iload_n 3, 1) := by decide +kernel
theorem dX10_commands_110 : decode cX10_commands 110 = .ok (.ifCond .lt 6, 3) := by decide +kernel
theorem dX10_commands_113 : decode cX10_commands 113 = .ok (.iinc 2 1, 3) := by decide +kernel
theorem dX10_commands_116 : decode cX10_commands 116 = .ok (.iload_n 3, 1) := by decide +kernel
theorem dX10_commands_117 : decode cX10_commands 117 = .ok (.ifCond .lt 16, 3) := by decide +kernel
theorem dX10_commands_120 : decode cX10_commands 120 = .ok (.aload_n 0, 1) := by decide +kernel
theorem dX10_commands_121 : decode cX10_commands 121 = .ok (.bipush 59, 2) := by decide +kernel
theorem dX10_commands_123 : decode cX10_commands 123 = .ok (.invokevirtual 218, 3) := by decide +kernel
theorem dX10_commands_126 : decode cX10_commands 126 = .ok (.ifCond .eq 7, 3) := by decide +kernel
theorem dX10_commands_129 : decode cX10_commands 129 = .ok (.iconst 1, 1) := by decide +kernel
theorem dX10_commands_130 : decode cX10_commands 130 = .ok (.goto 4, 3) := by decide +kernel
theorem dX10_commands_133 : decode cX10_commands 133 = .ok (.iconst 0, 1) := by decide +kernel
theorem dX10_commands_134 : decode cX10_commands 134 = .ok (.istore 4, 2) := by decide +kernel
theorem dX10_commands_136 : decode cX10_commands 136 = .ok (.goto (-42), 3) := by decide +kernel
theorem dX10_commands_139 : decode cX10_commands 139 = .ok (.aload_n 0, 1) := by decide +kernel
theorem dX10_commands_140 : decode cX10_commands 140 = .ok (.iconst 0, 1) := by decide +kernel
theorem dX10_commands_141 : decode cX10_commands 141 = .ok (.putfield 204, 3) := by decide +kernel
theorem dX10_commands_144 : decode cX10_commands 144 = .ok (.iload_n 3, 1) := by decide +kernel
theorem dX10_commands_145 : decode cX10_commands 145 = .ok (.ifCond .lt 9, 3) := by decide +kernel
theorem dX10_commands_148 : decode cX10_commands 148 = .ok (.aload_n 0, 1) := by decide +kernel
theorem dX10_commands_149 : decode cX10_commands 149 = .ok (.iload_n 2, 1) := by decide +kernel
theorem dX10_commands_150 : decode cX10_commands 150 = .ok (.invokevirtual 153, 3) := by decide +kernel
theorem dX10_commands_153 : decode cX10_commands 153 = .ok (.ireturn, 1) := by decide +kernel
theorem dX10_commands_154 : decode cX10_commands 154 = .ok (.aload_n 0, 1) := by decide +kernel
theorem dX10_commands_155 : decode cX10_commands 155 = .ok (.iload_n 2, 1) := by decide +kernel
theorem dX10_commands_156 : decode cX10_commands 156 = .ok (.putfield 74, 3) := by decide +kernel
theorem dX10_commands_159 : decode cX10_commands 159 = .ok (.iconst 0, 1) := by decide +kernel
theorem dX10_commands_160 : decode cX10_commands 160 = .ok (.istore 5, 2) := by decide +kernel
theorem dX10_commands_162 : decode cX10_commands 162 = .ok (.iload 5, 2) := by decide +kernel
theorem dX10_commands_164 : decode cX10_commands 164 = .ok (.bipush 119, 2) := by decide +kernel
theorem dX10_commands_166 : decode cX10_commands 166 = .ok (.if_icmp .ge 23, 3) := by decide +kernel
theorem dX10_commands_169 : decode cX10_commands 169 = .ok (.aload_n 0, 1) := by decide +kernel
theorem dX10_commands_170 : decode cX10_commands 170 = .ok (.getfield 9, 3) := by decide +kernel
theorem dX10_commands_173 : decode cX10_commands 173 = .ok (.iload 5, 2) := by decide +kernel
theorem dX10_commands_175 : decode cX10_commands 175 = .ok (.aload_n 0, 1) := by decide +kernel
theorem dX10_commands_176 : decode cX10_commands 176 = .ok (.getfield 13, 3) := by decide +kernel
theorem dX10_commands_179 : decode cX10_commands 179 = .ok (.iload 5, 2) := by decide +kernel
theorem dX10_commands_181 : decode cX10_commands 181 = .ok (.iaload, 1) := by decide +kernel
theorem dX10_commands_182 : decode cX10_commands 182 = .ok (.iastore, 1) := by decide +kernel
theorem dX10_commands_183 : decode cX10_commands 183 = .ok (.iinc 5 1, 3) := by decide +kernel
theorem dX10_commands_186 : decode cX10_commands 186 = .ok (.goto (-24), 3) := by decide +kernel
theorem dX10_commands_189 : decode cX10_commands 189 = .ok (.aload_n 0, 1) := by decide +kernel
theorem dX10_commands_190 : decode cX10_commands 190 = .ok (.iconst 2, 1) := by decide +kernel
theorem dX10_commands_191 : decode cX10_commands 191 = .ok (.invokevirtual 61, 3) := by decide +kernel
theorem dX10_commands_194 : decode cX10_commands 194 = .ok (.ireturn, 1) := by decide +kernel
theorem dX10_faultPosition_0 : decode cX10_faultPosition 0 = .ok (.aload_n 0, 1) := by decide +kernel
theorem dX10_faultPosition_1 : decode cX10_faultPosition 1 = .ok (.iconst 0, 1) := by decide +kernel
theorem dX10_faultPosition_2 : decode cX10_faultPosition 2 = .ok (.putfield 54, 3) := by decide +kernel
theorem dX10_faultPosition_5 : decode cX10_faultPosition 5 = .ok (.aload_n 0, 1) := by decide +kernel
theorem dX10_faultPosition_6 : decode cX10_faultPosition 6 = .ok (.getfield 32, 3) := by decide +kernel
theorem dX10_faultPosition_9 : decode cX10_faultPosition 9 = .ok (.ireturn, 1) := by decide +kernel
theorem dX10_reason_0 : decode cX10_reason 0 = .ok (.aload_n 0, 1) := by decide +kernel
theorem dX10_reason_1 : decode cX10_reason 1 = .ok (.iconst 0, 1) := by decide +kernel
theorem dX10_reason_2 : decode cX10_reason 2 = .ok (.putfield 54, 3) := by decide +kernel
theorem dX10_reason_5 : decode cX10_reason 5 = .ok (.iload_n 1, 1) := by decide +kernel
theorem dX10_reason_6 : decode cX10_reason 6 = .ok (.iconst 0, 1) := by decide +kernel
theorem dX10_reason_7 : decode cX10_reason 7 = .ok (.iconst 2, 1) := by decide +kernel
theorem dX10_reason_8 : decode cX10_reason 8 = .ok (.invokestatic 77, 3) := by decide +kernel
theorem dX10_reason_11 : decode cX10_reason 11 = .ok (.ifCond .ne 9, 3) := by decide +kernel
theorem dX10_reason_14 : decode cX10_reason 14 = .ok (.aload_n 0, 1) := by decide +kernel
theorem dX10_reason_15 : decode cX10_reason 15 = .ok (.iconst 1, 1) := by decide +kernel
theorem dX10_reason_16 : decode cX10_reason 16 = .ok (.invokevirtual 61, 3) := by decide +kernel
theorem dX10_reason_19 : decode cX10_reason 19 = .ok (.ireturn, 1) := by decide +kernel
theorem dX10_reason_20 : decode cX10_reason 20 = .ok (.aload_n 0, 1) := by decide +kernel
theorem dX10_reason_21 : decode cX10_reason 21 = .ok (.getfield 68, 3) := by decide +kernel
theorem dX10_reason_24 : decode cX10_reason 24 = .ok (.ifCond .ne 9, 3) := by decide +kernel
theorem dX10_reason_27 : decode cX10_reason 27 = .ok (.aload_n 0, 1) := by decide +kernel
theorem dX10_reason_28 : decode cX10_reason 28 = .ok (.iconst 2, 1) := by decide +kernel
theorem dX10_reason_29 : decode cX10_reason 29 = .ok (.invokevirtual 61, 3) := by decide +kernel
theorem dX10_reason_32 : decode cX10_reason 32 = .ok (.ireturn, 1) := by decide +kernel
theorem dX10_reason_33 : decode cX10_reason 33 = .ok (.iload_n 1, 1) := by decide +kernel
theorem dX10_reason_34 : decode cX10_reason 34 = .ok (.ifCond .ne 10, 3) := by decide +kernel
theorem dX10_reason_37 : decode cX10_reason 37 = .ok (.aload_n 0, 1) := by decide +kernel
theorem dX10_reason_38 : decode cX10_reason 38 = .ok (.getfield 68, 3) := by decide +kernel
theorem dX10_reason_41 : decode cX10_reason 41 = .ok (.goto 19, 3) := by decide +kernel
theorem dX10_reason_44 : decode cX10_reason 44 = .ok (.iload_n 1, 1) := by decide +kernel
theorem dX10_reason_45 : decode cX10_reason 45 = .ok (.iconst 1, 1) := by decide +kernel
theorem dX10_reason_46 : decode cX10_reason 46 = .ok (.if_icmp .ne 10, 3) := by decide +kernel
theorem dX10_reason_49 : decode cX10_reason 49 = .ok (.aload_n 0, 1) := by decide +kernel
theorem dX10_reason_50 : decode cX10_reason 50 = .ok (.getfield 71, 3) := by decide +kernel
theorem dX10_reason_53 : decode cX10_reason 53 = .ok (.goto 7, 3) := by decide +kernel
theorem dX10_reason_56 : decode cX10_reason 56 = .ok (.aload_n 0, 1) := by decide +kernel
theorem dX10_reason_57 : decode cX10_reason 57 = .ok (.getfield 74, 3) := by decide +kernel
theorem dX10_reason_60 : decode cX10_reason 60 = .ok (.ireturn, 1) := by decide +kernel
theorem dX10_line_0 : decode cX10_line 0 = .ok (.aload_n 0, 1) := by decide +kernel
theorem dX10_line_1 : decode cX10_line 1 = .ok (.iconst 0, 1) := by decide +kernel
theorem dX10_line_2 : decode cX10_line 2 = .ok (.putfield 54, 3) := by decide +kernel
theorem dX10_line_5 : decode cX10_line 5 = .ok (.aload_n 0, 1) := by decide +kernel
theorem dX10_line_6 : decode cX10_line 6 = .ok (.iconst 0, 1) := by decide +kernel
theorem dX10_line_7 : decode cX10_line 7 = .ok (.putfield 229, 3) := by decide +kernel
theorem dX10_line_10 : decode cX10_line 10 = .ok (.iconst 0, 1) := by decide +kernel
theorem dX10_line_11 : decode cX10_line 11 = .ok (.istore_n 1, 1) := by decide +kernel
theorem dX10_line_12 : decode cX10_line 12 = .ok (.iload_n 1, 1) := by decide +kernel
theorem dX10_line_13 : decode cX10_line 13 = .ok (.aload_n 0, 1) := by decide +kernel
theorem dX10_line_14 : decode cX10_line 14 = .ok (.getfield 9, 3) := by decide +kernel
theorem dX10_line_17 : decode cX10_line 17 = .ok (.iconst 5, 1) := by decide +kernel
theorem dX10_line_18 : decode cX10_line 18 = .ok (.iaload, 1) := by decide +kernel
theorem dX10_line_19 : decode cX10_line 19 = .ok (.if_icmp .ge 133, 3) := by decide +kernel
theorem dX10_line_22 : decode cX10_line 22 = .ok (.iload_n 1, 1) := by decide +kernel
theorem dX10_line_23 : decode cX10_line 23 = .ok (.ifCond .le 21, 3) := by decide +kernel
theorem dX10_line_26 : decode cX10_line 26 = .ok (.aload_n 0, 1) := by decide +kernel
theorem dX10_line_27 : decode cX10_line 27 = .ok (.getfield 22, 3) := by decide +kernel
theorem dX10_line_30 : decode cX10_line 30 = .ok (.aload_n 0, 1) := by decide +kernel
theorem dX10_line_31 : decode cX10_line 31 = .ok (.dup, 1) := by decide +kernel
theorem dX10_line_32 : decode cX10_line 32 = .ok (.getfield 229, 3) := by decide +kernel
theorem dX10_line_35 : decode cX10_line 35 = .ok (.dup_x1, 1) := by decide +kernel
theorem dX10_line_36 : decode cX10_line 36 = .ok (.iconst 1, 1) := by decide +kernel
theorem dX10_line_37 : decode cX10_line 37 = .ok (.iadd, 1) := by decide +kernel
theorem dX10_line_38 : decode cX10_line 38 = .ok (.putfield 229, 3) := by decide +kernel
theorem dX10_line_41 : decode cX10_line 41 = .ok (.bipush 32, 2) := by decide +kernel
theorem dX10_line_43 : decode cX10_line 43 = .ok (.castore, 1) := by decide +kernel
theorem dX10_line_44 : decode cX10_line 44 = .ok (.aload_n 0, 1) := by decide +kernel
theorem dX10_line_45 : decode cX10_line 45 = .ok (.getfield 22, 3) := by decide +kernel
theorem dX10_line_48 : decode cX10_line 48 = .ok (.aload_n 0, 1) := by decide +kernel
theorem dX10_line_49 : decode cX10_line 49 = .ok (.dup, 1) := by decide +kernel
theorem dX10_line_50 : decode cX10_line 50 = .ok (.getfield 229, 3) := by decide +kernel
theorem dX10_line_53 : decode cX10_line 53 = .ok (.dup_x1, 1) := by decide +kernel
theorem dX10_line_54 : decode cX10_line 54 = .ok (.iconst 1, 1) := by decide +kernel
theorem dX10_line_55 : decode cX10_line 55 = .ok (.iadd, 1) := by decide +kernel
theorem dX10_line_56 : decode cX10_line 56 = .ok (.putfield 229, 3) := by decide +kernel
theorem dX10_line_59 : decode cX10_line 59 = .ok (.bipush 48, 2) := by decide +kernel
theorem dX10_line_61 : decode cX10_line 61 = .ok (.aload_n 0, 1) := by decide +kernel
theorem dX10_line_62 : decode cX10_line 62 = .ok (.getfield 9, 3) := by decide +kernel
theorem dX10_line_65 : decode cX10_line 65 = .ok (.bipush 79, 2) := by decide +kernel
theorem dX10_line_67 : decode cX10_line 67 = .ok (.iload_n 1, 1) := by decide +kernel
theorem dX10_line_68 : decode cX10_line 68 = .ok (.iadd, 1) := by decide +kernel
theorem dX10_line_69 : decode cX10_line 69 = .ok (.iaload, 1) := by decide +kernel
theorem dX10_line_70 : decode cX10_line 70 = .ok (.bipush 8, 2) := by decide +kernel
theorem dX10_line_72 : decode cX10_line 72 = .ok (.idiv, 1) := by decide +kernel
theorem dX10_line_73 : decode cX10_line 73 = .ok (.iadd, 1) := by decide +kernel
theorem dX10_line_74 : decode cX10_line 74 = .ok (.i2c, 1) := by decide +kernel
theorem dX10_line_75 : decode cX10_line 75 = .ok (.castore, 1) := by decide +kernel
theorem dX10_line_76 : decode cX10_line 76 = .ok (.aload_n 0, 1) := by decide +kernel
theorem dX10_line_77 : decode cX10_line 77 = .ok (.getfield 22, 3) := by decide +kernel
theorem dX10_line_80 : decode cX10_line 80 = .ok (.aload_n 0, 1) := by decide +kernel
theorem dX10_line_81 : decode cX10_line 81 = .ok (.dup, 1) := by decide +kernel
theorem dX10_line_82 : decode cX10_line 82 = .ok (.getfield 229, 3) := by decide +kernel
theorem dX10_line_85 : decode cX10_line 85 = .ok (.dup_x1, 1) := by decide +kernel
theorem dX10_line_86 : decode cX10_line 86 = .ok (.iconst 1, 1) := by decide +kernel
theorem dX10_line_87 : decode cX10_line 87 = .ok (.iadd, 1) := by decide +kernel
theorem dX10_line_88 : decode cX10_line 88 = .ok (.putfield 229, 3) := by decide +kernel
theorem dX10_line_91 : decode cX10_line 91 = .ok (.aload_n 0, 1) := by decide +kernel
theorem dX10_line_92 : decode cX10_line 92 = .ok (.getfield 9, 3) := by decide +kernel
theorem dX10_line_95 : decode cX10_line 95 = .ok (.bipush 39, 2) := by decide +kernel
theorem dX10_line_97 : decode cX10_line 97 = .ok (.iload_n 1, 1) := by decide +kernel
theorem dX10_line_98 : decode cX10_line 98 = .ok (.iadd, 1) := by decide +kernel
theorem dX10_line_99 : decode cX10_line 99 = .ok (.iaload, 1) := by decide +kernel
theorem dX10_line_100 : decode cX10_line 100 = .ok (.invokestatic 100, 3) := by decide +kernel
theorem dX10_line_103 : decode cX10_line 103 = .ok (.ifCond .eq 8, 3) := by decide +kernel
theorem dX10_line_106 : decode cX10_line 106 = .ok (.bipush 103, 2) := by decide +kernel
theorem dX10_line_108 : decode cX10_line 108 = .ok (.goto 5, 3) := by decide +kernel
theorem dX10_line_111 : decode cX10_line 111 = .ok (.bipush 102, 2) := by decide +kernel
theorem dX10_line_113 : decode cX10_line 113 = .ok (.castore, 1) := by decide +kernel
theorem dX10_line_114 : decode cX10_line 114 = .ok (.aload_n 0, 1) := by decide +kernel
theorem dX10_line_115 : decode cX10_line 115 = .ok (.getfield 22, 3) := by decide +kernel
theorem dX10_line_118 : decode cX10_line 118 = .ok (.aload_n 0, 1) := by decide +kernel
theorem dX10_line_119 : decode cX10_line 119 = .ok (.dup, 1) := by decide +kernel
theorem dX10_line_120 : decode cX10_line 120 = .ok (.getfield 229, 3) := by decide +kernel
theorem dX10_line_123 : decode cX10_line 123 = .ok (.dup_x1, 1) := by decide +kernel
theorem dX10_line_124 : decode cX10_line 124 = .ok (.iconst 1, 1) := by decide +kernel
theorem dX10_line_125 : decode cX10_line 125 = .ok (.iadd, 1) := by decide +kernel
theorem dX10_line_126 : decode cX10_line 126 = .ok (.putfield 229, 3) := by decide +kernel
theorem dX10_line_129 : decode cX10_line 129 = .ok (.bipush 48, 2) := by decide +kernel
theorem dX10_line_131 : decode cX10_line 131 = .ok (.aload_n 0, 1) := by decide +kernel
theorem dX10_line_132 : decode cX10_line 132 = .ok (.getfield 9, 3) := by decide +kernel
theorem dX10_line_135 : decode cX10_line 135 = .ok (.bipush 79, 2) := by decide +kernel
theorem dX10_line_137 : decode cX10_line 137 = .ok (.iload_n 1, 1) := by decide +kernel
theorem dX10_line_138 : decode cX10_line 138 = .ok (.iadd, 1) := by decide +kernel
theorem dX10_line_139 : decode cX10_line 139 = .ok (.iaload, 1) := by decide +kernel
theorem dX10_line_140 : decode cX10_line 140 = .ok (.bipush 8, 2) := by decide +kernel
theorem dX10_line_142 : decode cX10_line 142 = .ok (.irem, 1) := by decide +kernel
theorem dX10_line_143 : decode cX10_line 143 = .ok (.iadd, 1) := by decide +kernel
theorem dX10_line_144 : decode cX10_line 144 = .ok (.i2c, 1) := by decide +kernel
theorem dX10_line_145 : decode cX10_line 145 = .ok (.castore, 1) := by decide +kernel
theorem dX10_line_146 : decode cX10_line 146 = .ok (.iinc 1 1, 3) := by decide +kernel
theorem dX10_line_149 : decode cX10_line 149 = .ok (.goto (-137), 3) := by decide +kernel
theorem dX10_line_152 : decode cX10_line 152 = .ok (.aload_n 0, 1) := by decide +kernel
theorem dX10_line_153 : decode cX10_line 153 = .ok (.getfield 229, 3) := by decide +kernel
theorem dX10_line_156 : decode cX10_line 156 = .ok (.ireturn, 1) := by decide +kernel
theorem dX10_character_0 : decode cX10_character 0 = .ok (.aload_n 0, 1) := by decide +kernel
theorem dX10_character_1 : decode cX10_character 1 = .ok (.iload_n 1, 1) := by decide +kernel
theorem dX10_character_2 : decode cX10_character 2 = .ok (.iconst 0, 1) := by decide +kernel
theorem dX10_character_3 : decode cX10_character 3 = .ok (.aload_n 0, 1) := by decide +kernel
theorem dX10_character_4 : decode cX10_character 4 = .ok (.getfield 229, 3) := by decide +kernel
theorem dX10_character_7 : decode cX10_character 7 = .ok (.iconst 1, 1) := by decide +kernel
theorem dX10_character_8 : decode cX10_character 8 = .ok (.isub, 1) := by decide +kernel
theorem dX10_character_9 : decode cX10_character 9 = .ok (.invokestatic 77, 3) := by decide +kernel
theorem dX10_character_12 : decode cX10_character 12 = .ok (.ifCond .eq 7, 3) := by decide +kernel
theorem dX10_character_15 : decode cX10_character 15 = .ok (.iconst 0, 1) := by decide +kernel
theorem dX10_character_16 : decode cX10_character 16 = .ok (.goto 4, 3) := by decide +kernel
theorem dX10_character_19 : decode cX10_character 19 = .ok (.iconst 1, 1) := by decide +kernel
theorem dX10_character_20 : decode cX10_character 20 = .ok (.putfield 54, 3) := by decide +kernel
theorem dX10_character_23 : decode cX10_character 23 = .ok (.aload_n 0, 1) := by decide +kernel
theorem dX10_character_24 : decode cX10_character 24 = .ok (.getfield 54, 3) := by decide +kernel
theorem dX10_character_27 : decode cX10_character 27 = .ok (.ifCond .ne 12, 3) := by decide +kernel
theorem dX10_character_30 : decode cX10_character 30 = .ok (.aload_n 0, 1) := by decide +kernel
theorem dX10_character_31 : decode cX10_character 31 = .ok (.getfield 22, 3) := by decide +kernel
theorem dX10_character_34 : decode cX10_character 34 = .ok (.iload_n 1, 1) := by decide +kernel
theorem dX10_character_35 : decode cX10_character 35 = .ok (.caload, 1) := by decide +kernel
theorem dX10_character_36 : decode cX10_character 36 = .ok (.goto 5, 3) := by decide +kernel
theorem dX10_character_39 : decode cX10_character 39 = .ok (.bipush 97, 2) := by decide +kernel
theorem dX10_character_41 : decode cX10_character 41 = .ok (.ireturn, 1) := by decide +kernel
theorem dX10_positions_0 : decode cX10_positions 0 = .ok (.iconst 0, 1) := by decide +kernel
theorem dX10_positions_1 : decode cX10_positions 1 = .ok (.istore_n 1, 1) := by decide +kernel
theorem dX10_positions_2 : decode cX10_positions 2 = .ok (.iconst 0, 1) := by decide +kernel
theorem dX10_positions_3 : decode cX10_positions 3 = .ok (.istore_n 2, 1) := by decide +kernel
theorem dX10_positions_4 : decode cX10_positions 4 = .ok (.iload_n 2, 1) := by decide +kernel
theorem dX10_positions_5 : decode cX10_positions 5 = .ok (.sipush 1296, 3) := by decide +kernel
theorem dX10_positions_8 : decode cX10_positions 8 = .ok (.if_icmp .ge 20, 3) := by decide +kernel
theorem dX10_positions_11 : decode cX10_positions 11 = .ok (.aload_n 0, 1) := by decide +kernel
theorem dX10_positions_12 : decode cX10_positions 12 = .ok (.iload_n 2, 1) := by decide +kernel
theorem dX10_positions_13 : decode cX10_positions 13 = .ok (.invokevirtual 123, 3) := by decide +kernel
theorem dX10_positions_16 : decode cX10_positions 16 = .ok (.ifCond .eq 6, 3) := by decide +kernel
theorem dX10_positions_19 : decode cX10_positions 19 = .ok (.iinc 1 1, 3) := by decide +kernel
theorem dX10_positions_22 : decode cX10_positions 22 = .ok (.iinc 2 1, 3) := by decide +kernel
theorem dX10_positions_25 : decode cX10_positions 25 = .ok (.goto (-21), 3) := by decide +kernel
theorem dX10_positions_28 : decode cX10_positions 28 = .ok (.iload_n 1, 1) := by decide +kernel
theorem dX10_positions_29 : decode cX10_positions 29 = .ok (.ireturn, 1) := by decide +kernel
theorem dX10_meanMoves_0 : decode cX10_meanMoves 0 = .ok (.aload_n 0, 1) := by decide +kernel
theorem dX10_meanMoves_1 : decode cX10_meanMoves 1 = .ok (.invokevirtual 198, 3) := by decide +kernel
theorem dX10_meanMoves_4 : decode cX10_meanMoves 4 = .ok (.iconst 0, 1) := by decide +kernel
theorem dX10_meanMoves_5 : decode cX10_meanMoves 5 = .ok (.istore_n 1, 1) := by decide +kernel
theorem dX10_meanMoves_6 : decode cX10_meanMoves 6 = .ok (.iconst 0, 1) := by decide +kernel
theorem dX10_meanMoves_7 : decode cX10_meanMoves 7 = .ok (.istore_n 2, 1) := by decide +kernel
theorem dX10_meanMoves_8 : decode cX10_meanMoves 8 = .ok (.iconst 0, 1) := by decide +kernel
theorem dX10_meanMoves_9 : decode cX10_meanMoves 9 = .ok (.istore_n 3, 1) := by decide +kernel
theorem dX10_meanMoves_10 : decode cX10_meanMoves 10 = .ok (.iload_n 3, 1) := by decide +kernel
theorem dX10_meanMoves_11 : decode cX10_meanMoves 11 = .ok (.sipush 1296, 3) := by decide +kernel
theorem dX10_meanMoves_14 : decode cX10_meanMoves 14 = .ok (.if_icmp .ge 33, 3) := by decide +kernel
theorem dX10_meanMoves_17 : decode cX10_meanMoves 17 = .ok (.aload_n 0, 1) := by decide +kernel
theorem dX10_meanMoves_18 : decode cX10_meanMoves 18 = .ok (.getfield 39, 3) := by decide +kernel
theorem dX10_meanMoves_21 : decode cX10_meanMoves 21 = .ok (.iload_n 3, 1) := by decide +kernel
theorem dX10_meanMoves_22 : decode cX10_meanMoves 22 = .ok (.iaload, 1) := by decide +kernel
theorem dX10_meanMoves_23 : decode cX10_meanMoves 23 = .ok (.ifCond .ne 6, 3) := by decide +kernel
theorem dX10_meanMoves_26 : decode cX10_meanMoves 26 = .ok (.goto 15, 3) := by decide +kernel
theorem dX10_meanMoves_29 : decode cX10_meanMoves 29 = .ok (.iinc 1 1, 3) := by decide +kernel
theorem dX10_meanMoves_32 : decode cX10_meanMoves 32 = .ok (.iload_n 2, 1) := by decide +kernel
theorem dX10_meanMoves_33 : decode cX10_meanMoves 33 = .ok (.aload_n 0, 1) := by decide +kernel
theorem dX10_meanMoves_34 : decode cX10_meanMoves 34 = .ok (.getfield 42, 3) := by decide +kernel
theorem dX10_meanMoves_37 : decode cX10_meanMoves 37 = .ok (.iload_n 3, 1) := by decide +kernel
theorem dX10_meanMoves_38 : decode cX10_meanMoves 38 = .ok (.iaload, 1) := by decide +kernel
theorem dX10_meanMoves_39 : decode cX10_meanMoves 39 = .ok (.iadd, 1) := by decide +kernel
theorem dX10_meanMoves_40 : decode cX10_meanMoves 40 = .ok (.istore_n 2, 1) := by decide +kernel
theorem dX10_meanMoves_41 : decode cX10_meanMoves 41 = .ok (.iinc 3 1, 3) := by decide +kernel
theorem dX10_meanMoves_44 : decode cX10_meanMoves 44 = .ok (.goto (-34), 3) := by decide +kernel
theorem dX10_meanMoves_47 : decode cX10_meanMoves 47 = .ok (.iload_n 1, 1) := by decide +kernel
theorem dX10_meanMoves_48 : decode cX10_meanMoves 48 = .ok (.ifCond .ne 12, 3) := by decide +kernel
theorem dX10_meanMoves_51 : decode cX10_meanMoves 51 = .ok (.aload_n 0, 1) := by decide +kernel
theorem dX10_meanMoves_52 : decode cX10_meanMoves 52 = .ok (.iconst 1, 1) := by decide +kernel
theorem dX10_meanMoves_53 : decode cX10_meanMoves 53 = .ok (.invokevirtual 61, 3) := by decide +kernel
theorem dX10_meanMoves_56 : decode cX10_meanMoves 56 = .ok (.i2d, 1) := by decide +kernel
theorem dX10_meanMoves_57 : decode cX10_meanMoves 57 = .ok (.goto 8, 3) := by decide +kernel
theorem dX10_meanMoves_60 : decode cX10_meanMoves 60 = .ok (.iload_n 2, 1) := by decide +kernel
theorem dX10_meanMoves_61 : decode cX10_meanMoves 61 = .ok (.i2d, 1) := by decide +kernel
theorem dX10_meanMoves_62 : decode cX10_meanMoves 62 = .ok (.iload_n 1, 1) := by decide +kernel
theorem dX10_meanMoves_63 : decode cX10_meanMoves 63 = .ok (.i2d, 1) := by decide +kernel
theorem dX10_meanMoves_64 : decode cX10_meanMoves 64 = .ok (.ddiv, 1) := by decide +kernel
theorem dX10_meanMoves_65 : decode cX10_meanMoves 65 = .ok (.dreturn, 1) := by decide +kernel
theorem dX10_drawn_0 : decode cX10_drawn 0 = .ok (.aload_n 0, 1) := by decide +kernel
theorem dX10_drawn_1 : decode cX10_drawn 1 = .ok (.invokevirtual 198, 3) := by decide +kernel
theorem dX10_drawn_4 : decode cX10_drawn 4 = .ok (.iconst 0, 1) := by decide +kernel
theorem dX10_drawn_5 : decode cX10_drawn 5 = .ok (.istore_n 1, 1) := by decide +kernel
theorem dX10_drawn_6 : decode cX10_drawn 6 = .ok (.iconst 0, 1) := by decide +kernel
theorem dX10_drawn_7 : decode cX10_drawn 7 = .ok (.istore_n 2, 1) := by decide +kernel
theorem dX10_drawn_8 : decode cX10_drawn 8 = .ok (.iload_n 2, 1) := by decide +kernel
theorem dX10_drawn_9 : decode cX10_drawn 9 = .ok (.sipush 1296, 3) := by decide +kernel
theorem dX10_drawn_12 : decode cX10_drawn 12 = .ok (.if_icmp .ge 29, 3) := by decide +kernel
theorem dX10_drawn_15 : decode cX10_drawn 15 = .ok (.aload_n 0, 1) := by decide +kernel
theorem dX10_drawn_16 : decode cX10_drawn 16 = .ok (.iload_n 2, 1) := by decide +kernel
theorem dX10_drawn_17 : decode cX10_drawn 17 = .ok (.invokevirtual 123, 3) := by decide +kernel
theorem dX10_drawn_20 : decode cX10_drawn 20 = .ok (.ifCond .eq 15, 3) := by decide +kernel
theorem dX10_drawn_23 : decode cX10_drawn 23 = .ok (.aload_n 0, 1) := by decide +kernel
theorem dX10_drawn_24 : decode cX10_drawn 24 = .ok (.getfield 39, 3) := by decide +kernel
theorem dX10_drawn_27 : decode cX10_drawn 27 = .ok (.iload_n 2, 1) := by decide +kernel
theorem dX10_drawn_28 : decode cX10_drawn 28 = .ok (.iaload, 1) := by decide +kernel
theorem dX10_drawn_29 : decode cX10_drawn 29 = .ok (.ifCond .ne 6, 3) := by decide +kernel
theorem dX10_drawn_32 : decode cX10_drawn 32 = .ok (.iinc 1 1, 3) := by decide +kernel
theorem dX10_drawn_35 : decode cX10_drawn 35 = .ok (.iinc 2 1, 3) := by decide +kernel
theorem dX10_drawn_38 : decode cX10_drawn 38 = .ok (.goto (-30), 3) := by decide +kernel
theorem dX10_drawn_41 : decode cX10_drawn 41 = .ok (.aload_n 0, 1) := by decide +kernel
theorem dX10_drawn_42 : decode cX10_drawn 42 = .ok (.invokevirtual 232, 3) := by decide +kernel
theorem dX10_drawn_45 : decode cX10_drawn 45 = .ok (.ifCond .ne 12, 3) := by decide +kernel
theorem dX10_drawn_48 : decode cX10_drawn 48 = .ok (.aload_n 0, 1) := by decide +kernel
theorem dX10_drawn_49 : decode cX10_drawn 49 = .ok (.iconst 1, 1) := by decide +kernel
theorem dX10_drawn_50 : decode cX10_drawn 50 = .ok (.invokevirtual 61, 3) := by decide +kernel
theorem dX10_drawn_53 : decode cX10_drawn 53 = .ok (.i2f, 1) := by decide +kernel
theorem dX10_drawn_54 : decode cX10_drawn 54 = .ok (.goto 11, 3) := by decide +kernel
theorem dX10_drawn_57 : decode cX10_drawn 57 = .ok (.iload_n 1, 1) := by decide +kernel
theorem dX10_drawn_58 : decode cX10_drawn 58 = .ok (.i2f, 1) := by decide +kernel
theorem dX10_drawn_59 : decode cX10_drawn 59 = .ok (.aload_n 0, 1) := by decide +kernel
theorem dX10_drawn_60 : decode cX10_drawn 60 = .ok (.invokevirtual 232, 3) := by decide +kernel
theorem dX10_drawn_63 : decode cX10_drawn 63 = .ok (.i2f, 1) := by decide +kernel
theorem dX10_drawn_64 : decode cX10_drawn 64 = .ok (.fdiv, 1) := by decide +kernel
theorem dX10_drawn_65 : decode cX10_drawn 65 = .ok (.freturn, 1) := by decide +kernel
theorem dX10_account_0 : decode cX10_account 0 = .ok (.aload_n 0, 1) := by decide +kernel
theorem dX10_account_1 : decode cX10_account 1 = .ok (.invokevirtual 198, 3) := by decide +kernel
theorem dX10_account_4 : decode cX10_account 4 = .ok (.iconst 0, 1) := by decide +kernel
theorem dX10_account_5 : decode cX10_account 5 = .ok (.istore_n 2, 1) := by decide +kernel
theorem dX10_account_6 : decode cX10_account 6 = .ok (.iload_n 1, 1) := by decide +kernel
theorem dX10_account_7 : decode cX10_account 7 = .ok (.tableswitch 200 0 10 #[57, 64, 71, 81, 88, 93, 132, 162, 182, 190, 195], 57) := by decide +kernel
theorem dX10_account_64 : decode cX10_account 64 = .ok (.aload_n 0, 1) := by decide +kernel
theorem dX10_account_65 : decode cX10_account 65 = .ok (.getfield 9, 3) := by decide +kernel
theorem dX10_account_68 : decode cX10_account 68 = .ok (.iconst 0, 1) := by decide +kernel
theorem dX10_account_69 : decode cX10_account 69 = .ok (.iaload, 1) := by decide +kernel
theorem dX10_account_70 : decode cX10_account 70 = .ok (.ireturn, 1) := by decide +kernel
theorem dX10_account_71 : decode cX10_account 71 = .ok (.aload_n 0, 1) := by decide +kernel
theorem dX10_account_72 : decode cX10_account 72 = .ok (.getfield 9, 3) := by decide +kernel
theorem dX10_account_75 : decode cX10_account 75 = .ok (.iconst 3, 1) := by decide +kernel
theorem dX10_account_76 : decode cX10_account 76 = .ok (.iaload, 1) := by decide +kernel
theorem dX10_account_77 : decode cX10_account 77 = .ok (.ireturn, 1) := by decide +kernel
theorem dX10_account_78 : decode cX10_account 78 = .ok (.aload_n 0, 1) := by decide +kernel
theorem dX10_account_79 : decode cX10_account 79 = .ok (.getfield 9, 3) := by decide +kernel
theorem dX10_account_82 : decode cX10_account 82 = .ok (.iconst 1, 1) := by decide +kernel
theorem dX10_account_83 : decode cX10_account 83 = .ok (.iaload, 1) := by decide +kernel
theorem dX10_account_84 : decode cX10_account 84 = .ok (.invokestatic 168, 3) := by decide +kernel
theorem dX10_account_87 : decode cX10_account 87 = .ok (.ireturn, 1) := by decide +kernel
theorem dX10_account_88 : decode cX10_account 88 = .ok (.aload_n 0, 1) := by decide +kernel
theorem dX10_account_89 : decode cX10_account 89 = .ok (.getfield 9, 3) := by decide +kernel
theorem dX10_account_92 : decode cX10_account 92 = .ok (.iconst 2, 1) := by decide +kernel
theorem dX10_account_93 : decode cX10_account 93 = .ok (.iaload, 1) := by decide +kernel
theorem dX10_account_94 : decode cX10_account 94 = .ok (.ireturn, 1) := by decide +kernel
theorem dX10_account_95 : decode cX10_account 95 = .ok (.aload_n 0, 1) := by decide +kernel
theorem dX10_account_96 : decode cX10_account 96 = .ok (.invokevirtual 232, 3) := by decide +kernel
theorem dX10_account_99 : decode cX10_account 99 = .ok (.ireturn, 1) := by decide +kernel
theorem dX10_account_100 : decode cX10_account 100 = .ok (.iconst 0, 1) := by decide +kernel
theorem dX10_account_101 : decode cX10_account 101 = .ok (.istore_n 3, 1) := by decide +kernel
theorem dX10_account_102 : decode cX10_account 102 = .ok (.iload_n 3, 1) := by decide +kernel
theorem dX10_account_103 : decode cX10_account 103 = .ok (.sipush 1296, 3) := by decide +kernel
theorem dX10_account_106 : decode cX10_account 106 = .ok (.if_icmp .ge 31, 3) := by decide +kernel
theorem dX10_account_109 : decode cX10_account 109 = .ok (.aload_n 0, 1) := by decide +kernel
theorem dX10_account_110 : decode cX10_account 110 = .ok (.getfield 39, 3) := by decide +kernel
theorem dX10_account_113 : decode cX10_account 113 = .ok (.iload_n 3, 1) := by decide +kernel
theorem dX10_account_114 : decode cX10_account 114 = .ok (.iaload, 1) := by decide +kernel
theorem dX10_account_115 : decode cX10_account 115 = .ok (.iconst 2, 1) := by decide +kernel
theorem dX10_account_116 : decode cX10_account 116 = .ok (.if_icmp .ne 15, 3) := by decide +kernel
theorem dX10_account_119 : decode cX10_account 119 = .ok (.aload_n 0, 1) := by decide +kernel
theorem dX10_account_120 : decode cX10_account 120 = .ok (.getfield 42, 3) := by decide +kernel
theorem dX10_account_123 : decode cX10_account 123 = .ok (.iload_n 3, 1) := by decide +kernel
theorem dX10_account_124 : decode cX10_account 124 = .ok (.iaload, 1) := by decide +kernel
theorem dX10_account_125 : decode cX10_account 125 = .ok (.ifCond .ne 6, 3) := by decide +kernel
theorem dX10_account_128 : decode cX10_account 128 = .ok (.iinc 2 1, 3) := by decide +kernel
theorem dX10_account_131 : decode cX10_account 131 = .ok (.iinc 3 1, 3) := by decide +kernel
theorem dX10_account_134 : decode cX10_account 134 = .ok (.goto (-32), 3) := by decide +kernel
theorem dX10_account_137 : decode cX10_account 137 = .ok (.iload_n 2, 1) := by decide +kernel
theorem dX10_account_138 : decode cX10_account 138 = .ok (.ireturn, 1) := by decide +kernel
theorem dX10_account_139 : decode cX10_account 139 = .ok (.iconst (-1), 1) := by decide +kernel
theorem dX10_account_140 : decode cX10_account 140 = .ok (.istore_n 2, 1) := by decide +kernel
theorem dX10_account_141 : decode cX10_account 141 = .ok (.iconst 0, 1) := by decide +kernel
theorem dX10_account_142 : decode cX10_account 142 = .ok (.istore_n 3, 1) := by decide +kernel
theorem dX10_account_143 : decode cX10_account 143 = .ok (.iload_n 3, 1) := by decide +kernel
theorem dX10_account_144 : decode cX10_account 144 = .ok (.sipush 1296, 3) := by decide +kernel
theorem dX10_account_147 : decode cX10_account 147 = .ok (.if_icmp .ge 20, 3) := by decide +kernel
theorem dX10_account_150 : decode cX10_account 150 = .ok (.iload_n 2, 1) := by decide +kernel
theorem dX10_account_151 : decode cX10_account 151 = .ok (.aload_n 0, 1) := by decide +kernel
theorem dX10_account_152 : decode cX10_account 152 = .ok (.getfield 42, 3) := by decide +kernel
theorem dX10_account_155 : decode cX10_account 155 = .ok (.iload_n 3, 1) := by decide +kernel
theorem dX10_account_156 : decode cX10_account 156 = .ok (.iaload, 1) := by decide +kernel
theorem dX10_account_157 : decode cX10_account 157 = .ok (.invokestatic 120, 3) := by decide +kernel
theorem dX10_account_160 : decode cX10_account 160 = .ok (.istore_n 2, 1) := by decide +kernel
theorem dX10_account_161 : decode cX10_account 161 = .ok (.iinc 3 1, 3) := by decide +kernel
theorem dX10_account_164 : decode cX10_account 164 = .ok (.goto (-21), 3) := by decide +kernel
theorem dX10_account_167 : decode cX10_account 167 = .ok (.iload_n 2, 1) := by decide +kernel
theorem dX10_account_168 : decode cX10_account 168 = .ok (.ireturn, 1) := by decide +kernel
theorem dX10_account_169 : decode cX10_account 169 = .ok (.aload_n 0, 1) := by decide +kernel
theorem dX10_account_170 : decode cX10_account 170 = .ok (.getfield 9, 3) := by decide +kernel
theorem dX10_account_173 : decode cX10_account 173 = .ok (.iconst 4, 1) := by decide +kernel
theorem dX10_account_174 : decode cX10_account 174 = .ok (.iaload, 1) := by decide +kernel
theorem dX10_account_175 : decode cX10_account 175 = .ok (.ifCond .ne 7, 3) := by decide +kernel
theorem dX10_account_178 : decode cX10_account 178 = .ok (.iconst (-1), 1) := by decide +kernel
theorem dX10_account_179 : decode cX10_account 179 = .ok (.goto 9, 3) := by decide +kernel
theorem dX10_account_182 : decode cX10_account 182 = .ok (.aload_n 0, 1) := by decide +kernel
theorem dX10_account_183 : decode cX10_account 183 = .ok (.getfield 9, 3) := by decide +kernel
theorem dX10_account_186 : decode cX10_account 186 = .ok (.iconst 5, 1) := by decide +kernel
theorem dX10_account_187 : decode cX10_account 187 = .ok (.iaload, 1) := by decide +kernel
theorem dX10_account_188 : decode cX10_account 188 = .ok (.ireturn, 1) := by decide +kernel
theorem dX10_account_189 : decode cX10_account 189 = .ok (.aload_n 0, 1) := by decide +kernel
theorem dX10_account_190 : decode cX10_account 190 = .ok (.getfield 9, 3) := by decide +kernel
theorem dX10_account_193 : decode cX10_account 193 = .ok (.bipush 6, 2) := by decide +kernel
theorem dX10_account_195 : decode cX10_account 195 = .ok (.iaload, 1) := by decide +kernel
theorem dX10_account_196 : decode cX10_account 196 = .ok (.ireturn, 1) := by decide +kernel
theorem dX10_account_197 : decode cX10_account 197 = .ok (.aload_n 0, 1) := by decide +kernel
theorem dX10_account_198 : decode cX10_account 198 = .ok (.getfield 65, 3) := by decide +kernel
theorem dX10_account_201 : decode cX10_account 201 = .ok (.ireturn, 1) := by decide +kernel
theorem dX10_account_202 : decode cX10_account 202 = .ok (.aload_n 0, 1) := by decide +kernel
theorem dX10_account_203 : decode cX10_account 203 = .ok (.getfield 204, 3) := by decide +kernel
theorem dX10_account_206 : decode cX10_account 206 = .ok (.ireturn, 1) := by decide +kernel
theorem dX10_account_207 : decode cX10_account 207 = .ok (.aload_n 0, 1) := by decide +kernel
theorem dX10_account_208 : decode cX10_account 208 = .ok (.iconst 1, 1) := by decide +kernel
theorem dX10_account_209 : decode cX10_account 209 = .ok (.invokevirtual 61, 3) := by decide +kernel
theorem dX10_account_212 : decode cX10_account 212 = .ok (.ireturn, 1) := by decide +kernel
theorem dX10_undo_0 : decode cX10_undo 0 = .ok (.aload_n 0, 1) := by decide +kernel
theorem dX10_undo_1 : decode cX10_undo 1 = .ok (.iconst 0, 1) := by decide +kernel
theorem dX10_undo_2 : decode cX10_undo 2 = .ok (.putfield 54, 3) := by decide +kernel
theorem dX10_undo_5 : decode cX10_undo 5 = .ok (.aload_n 0, 1) := by decide +kernel
theorem dX10_undo_6 : decode cX10_undo 6 = .ok (.getfield 65, 3) := by decide +kernel
theorem dX10_undo_9 : decode cX10_undo 9 = .ok (.ifCond .ne 9, 3) := by decide +kernel
theorem dX10_undo_12 : decode cX10_undo 12 = .ok (.aload_n 0, 1) := by decide +kernel
theorem dX10_undo_13 : decode cX10_undo 13 = .ok (.iconst 1, 1) := by decide +kernel
theorem dX10_undo_14 : decode cX10_undo 14 = .ok (.invokevirtual 61, 3) := by decide +kernel
theorem dX10_undo_17 : decode cX10_undo 17 = .ok (.ireturn, 1) := by decide +kernel
theorem dX10_undo_18 : decode cX10_undo 18 = .ok (.aload_n 0, 1) := by decide +kernel
theorem dX10_undo_19 : decode cX10_undo 19 = .ok (.iconst 0, 1) := by decide +kernel
theorem dX10_undo_20 : decode cX10_undo 20 = .ok (.putfield 57, 3) := by decide +kernel
theorem dX10_undo_23 : decode cX10_undo 23 = .ok (.aload_n 0, 1) := by decide +kernel
theorem dX10_undo_24 : decode cX10_undo 24 = .ok (.dup, 1) := by decide +kernel
theorem dX10_undo_25 : decode cX10_undo 25 = .ok (.getfield 65, 3) := by decide +kernel
theorem dX10_undo_28 : decode cX10_undo 28 = .ok (.iconst 1, 1) := by decide +kernel
theorem dX10_undo_29 : decode cX10_undo 29 = .ok (.isub, 1) := by decide +kernel
theorem dX10_undo_30 : decode cX10_undo 30 = .ok (.putfield 65, 3) := by decide +kernel
theorem dX10_undo_33 : decode cX10_undo 33 = .ok (.iconst 0, 1) := by decide +kernel
theorem dX10_undo_34 : decode cX10_undo 34 = .ok (.istore_n 1, 1) := by decide +kernel
theorem dX10_undo_35 : decode cX10_undo 35 = .ok (.iload_n 1, 1) := by decide +kernel
theorem dX10_undo_36 : decode cX10_undo 36 = .ok (.bipush 119, 2) := by decide +kernel
theorem dX10_undo_38 : decode cX10_undo 38 = .ok (.if_icmp .ge 29, 3) := by decide +kernel
theorem dX10_undo_41 : decode cX10_undo 41 = .ok (.aload_n 0, 1) := by decide +kernel
theorem dX10_undo_42 : decode cX10_undo 42 = .ok (.getfield 9, 3) := by decide +kernel
theorem dX10_undo_45 : decode cX10_undo 45 = .ok (.iload_n 1, 1) := by decide +kernel
theorem dX10_undo_46 : decode cX10_undo 46 = .ok (.aload_n 0, 1) := by decide +kernel
theorem dX10_undo_47 : decode cX10_undo 47 = .ok (.getfield 16, 3) := by decide +kernel
theorem dX10_undo_50 : decode cX10_undo 50 = .ok (.bipush 119, 2) := by decide +kernel
theorem dX10_undo_52 : decode cX10_undo 52 = .ok (.aload_n 0, 1) := by decide +kernel
theorem dX10_undo_53 : decode cX10_undo 53 = .ok (.getfield 65, 3) := by decide +kernel
theorem dX10_undo_56 : decode cX10_undo 56 = .ok (.imul, 1) := by decide +kernel
theorem dX10_undo_57 : decode cX10_undo 57 = .ok (.iload_n 1, 1) := by decide +kernel
theorem dX10_undo_58 : decode cX10_undo 58 = .ok (.iadd, 1) := by decide +kernel
theorem dX10_undo_59 : decode cX10_undo 59 = .ok (.iaload, 1) := by decide +kernel
theorem dX10_undo_60 : decode cX10_undo 60 = .ok (.iastore, 1) := by decide +kernel
theorem dX10_undo_61 : decode cX10_undo 61 = .ok (.iinc 1 1, 3) := by decide +kernel
theorem dX10_undo_64 : decode cX10_undo 64 = .ok (.goto (-29), 3) := by decide +kernel
theorem dX10_undo_67 : decode cX10_undo 67 = .ok (.aload_n 0, 1) := by decide +kernel
theorem dX10_undo_68 : decode cX10_undo 68 = .ok (.getfield 65, 3) := by decide +kernel
theorem dX10_undo_71 : decode cX10_undo 71 = .ok (.ireturn, 1) := by decide +kernel
theorem dX10_save_0 : decode cX10_save 0 = .ok (.aload_n 0, 1) := by decide +kernel
theorem dX10_save_1 : decode cX10_save 1 = .ok (.iconst 0, 1) := by decide +kernel
theorem dX10_save_2 : decode cX10_save 2 = .ok (.putfield 54, 3) := by decide +kernel
theorem dX10_save_5 : decode cX10_save 5 = .ok (.aload_n 0, 1) := by decide +kernel
theorem dX10_save_6 : decode cX10_save 6 = .ok (.iconst 1, 1) := by decide +kernel
theorem dX10_save_7 : decode cX10_save 7 = .ok (.putfield 235, 3) := by decide +kernel
theorem dX10_save_10 : decode cX10_save 10 = .ok (.iconst 0, 1) := by decide +kernel
theorem dX10_save_11 : decode cX10_save 11 = .ok (.istore_n 1, 1) := by decide +kernel
theorem dX10_save_12 : decode cX10_save 12 = .ok (.iload_n 1, 1) := by decide +kernel
theorem dX10_save_13 : decode cX10_save 13 = .ok (.bipush 119, 2) := by decide +kernel
theorem dX10_save_15 : decode cX10_save 15 = .ok (.if_icmp .ge 21, 3) := by decide +kernel
theorem dX10_save_18 : decode cX10_save 18 = .ok (.aload_n 0, 1) := by decide +kernel
theorem dX10_save_19 : decode cX10_save 19 = .ok (.getfield 19, 3) := by decide +kernel
theorem dX10_save_22 : decode cX10_save 22 = .ok (.iload_n 1, 1) := by decide +kernel
theorem dX10_save_23 : decode cX10_save 23 = .ok (.aload_n 0, 1) := by decide +kernel
theorem dX10_save_24 : decode cX10_save 24 = .ok (.getfield 9, 3) := by decide +kernel
theorem dX10_save_27 : decode cX10_save 27 = .ok (.iload_n 1, 1) := by decide +kernel
theorem dX10_save_28 : decode cX10_save 28 = .ok (.iaload, 1) := by decide +kernel
theorem dX10_save_29 : decode cX10_save 29 = .ok (.iastore, 1) := by decide +kernel
theorem dX10_save_30 : decode cX10_save 30 = .ok (.iinc 1 1, 3) := by decide +kernel
theorem dX10_save_33 : decode cX10_save 33 = .ok (.goto (-21), 3) := by decide +kernel
theorem dX10_save_36 : decode cX10_save 36 = .ok (.aload_n 0, 1) := by decide +kernel
theorem dX10_save_37 : decode cX10_save 37 = .ok (.getfield 9, 3) := by decide +kernel
theorem dX10_save_40 : decode cX10_save 40 = .ok (.iconst 0, 1) := by decide +kernel
theorem dX10_save_41 : decode cX10_save 41 = .ok (.iaload, 1) := by decide +kernel
theorem dX10_save_42 : decode cX10_save 42 = .ok (.ireturn, 1) := by decide +kernel
theorem dX10_restore_0 : decode cX10_restore 0 = .ok (.aload_n 0, 1) := by decide +kernel
theorem dX10_restore_1 : decode cX10_restore 1 = .ok (.iconst 0, 1) := by decide +kernel
theorem dX10_restore_2 : decode cX10_restore 2 = .ok (.putfield 54, 3) := by decide +kernel
theorem dX10_restore_5 : decode cX10_restore 5 = .ok (.aload_n 0, 1) := by decide +kernel
theorem dX10_restore_6 : decode cX10_restore 6 = .ok (.getfield 235, 3) := by decide +kernel
theorem dX10_restore_9 : decode cX10_restore 9 = .ok (.ifCond .ne 9, 3) := by decide +kernel
theorem dX10_restore_12 : decode cX10_restore 12 = .ok (.aload_n 0, 1) := by decide +kernel
theorem dX10_restore_13 : decode cX10_restore 13 = .ok (.iconst 1, 1) := by decide +kernel
theorem dX10_restore_14 : decode cX10_restore 14 = .ok (.invokevirtual 61, 3) := by decide +kernel
theorem dX10_restore_17 : decode cX10_restore 17 = .ok (.ireturn, 1) := by decide +kernel
theorem dX10_restore_18 : decode cX10_restore 18 = .ok (.aload_n 0, 1) := by decide +kernel
theorem dX10_restore_19 : decode cX10_restore 19 = .ok (.iconst 0, 1) := by decide +kernel
theorem dX10_restore_20 : decode cX10_restore 20 = .ok (.putfield 57, 3) := by decide +kernel
theorem dX10_restore_23 : decode cX10_restore 23 = .ok (.iconst 0, 1) := by decide +kernel
theorem dX10_restore_24 : decode cX10_restore 24 = .ok (.istore_n 1, 1) := by decide +kernel
theorem dX10_restore_25 : decode cX10_restore 25 = .ok (.iload_n 1, 1) := by decide +kernel
theorem dX10_restore_26 : decode cX10_restore 26 = .ok (.bipush 119, 2) := by decide +kernel
theorem dX10_restore_28 : decode cX10_restore 28 = .ok (.if_icmp .ge 21, 3) := by decide +kernel
theorem dX10_restore_31 : decode cX10_restore 31 = .ok (.aload_n 0, 1) := by decide +kernel
theorem dX10_restore_32 : decode cX10_restore 32 = .ok (.getfield 9, 3) := by decide +kernel
theorem dX10_restore_35 : decode cX10_restore 35 = .ok (.iload_n 1, 1) := by decide +kernel
theorem dX10_restore_36 : decode cX10_restore 36 = .ok (.aload_n 0, 1) := by decide +kernel
theorem dX10_restore_37 : decode cX10_restore 37 = .ok (.getfield 19, 3) := by decide +kernel
theorem dX10_restore_40 : decode cX10_restore 40 = .ok (.iload_n 1, 1) := by decide +kernel
theorem dX10_restore_41 : decode cX10_restore 41 = .ok (.iaload, 1) := by decide +kernel
theorem dX10_restore_42 : decode cX10_restore 42 = .ok (.iastore, 1) := by decide +kernel
theorem dX10_restore_43 : decode cX10_restore 43 = .ok (.iinc 1 1, 3) := by decide +kernel
theorem dX10_restore_46 : decode cX10_restore 46 = .ok (.goto (-21), 3) := by decide +kernel
theorem dX10_restore_49 : decode cX10_restore 49 = .ok (.aload_n 0, 1) := by decide +kernel
theorem dX10_restore_50 : decode cX10_restore 50 = .ok (.iconst 0, 1) := by decide +kernel
theorem dX10_restore_51 : decode cX10_restore 51 = .ok (.putfield 65, 3) := by decide +kernel
theorem dX10_restore_54 : decode cX10_restore 54 = .ok (.aload_n 0, 1) := by decide +kernel
theorem dX10_restore_55 : decode cX10_restore 55 = .ok (.getfield 9, 3) := by decide +kernel
theorem dX10_restore_58 : decode cX10_restore 58 = .ok (.iconst 0, 1) := by decide +kernel
theorem dX10_restore_59 : decode cX10_restore 59 = .ok (.iaload, 1) := by decide +kernel
theorem dX10_restore_60 : decode cX10_restore 60 = .ok (.ireturn, 1) := by decide +kernel
theorem dJx00060_init_a7421_0 : decode cJx00060_init_a7421 0 = .ok (.aload_n 0, 1) := by decide +kernel
theorem dJx00060_init_a7421_1 : decode cJx00060_init_a7421 1 = .ok (.aload_n 1, 1) := by decide +kernel
theorem dJx00060_init_a7421_2 : decode cJx00060_init_a7421 2 = .ok (.invokespecial 7, 3) := by decide +kernel
theorem dJx00060_init_a7421_5 : decode cJx00060_init_a7421 5 = .ok (.return_, 1) := by decide +kernel
theorem dJ6_bitCount_0f7a4_0 : decode cJ6_bitCount_0f7a4 0 = .ok (.iload_n 0, 1) := by decide +kernel
theorem dJ6_bitCount_0f7a4_1 : decode cJ6_bitCount_0f7a4 1 = .ok (.iload_n 0, 1) := by decide +kernel
theorem dJ6_bitCount_0f7a4_2 : decode cJ6_bitCount_0f7a4 2 = .ok (.iconst 1, 1) := by decide +kernel
theorem dJ6_bitCount_0f7a4_3 : decode cJ6_bitCount_0f7a4 3 = .ok (.iushr, 1) := by decide +kernel
theorem dJ6_bitCount_0f7a4_4 : decode cJ6_bitCount_0f7a4 4 = .ok (.ldc_w 265, 3) := by decide +kernel
theorem dJ6_bitCount_0f7a4_7 : decode cJ6_bitCount_0f7a4 7 = .ok (.iand, 1) := by decide +kernel
theorem dJ6_bitCount_0f7a4_8 : decode cJ6_bitCount_0f7a4 8 = .ok (.isub, 1) := by decide +kernel
theorem dJ6_bitCount_0f7a4_9 : decode cJ6_bitCount_0f7a4 9 = .ok (.istore_n 0, 1) := by decide +kernel
theorem dJ6_bitCount_0f7a4_10 : decode cJ6_bitCount_0f7a4 10 = .ok (.iload_n 0, 1) := by decide +kernel
theorem dJ6_bitCount_0f7a4_11 : decode cJ6_bitCount_0f7a4 11 = .ok (.ldc_w 266, 3) := by decide +kernel
theorem dJ6_bitCount_0f7a4_14 : decode cJ6_bitCount_0f7a4 14 = .ok (.iand, 1) := by decide +kernel
theorem dJ6_bitCount_0f7a4_15 : decode cJ6_bitCount_0f7a4 15 = .ok (.iload_n 0, 1) := by decide +kernel
theorem dJ6_bitCount_0f7a4_16 : decode cJ6_bitCount_0f7a4 16 = .ok (.iconst 2, 1) := by decide +kernel
theorem dJ6_bitCount_0f7a4_17 : decode cJ6_bitCount_0f7a4 17 = .ok (.iushr, 1) := by decide +kernel
theorem dJ6_bitCount_0f7a4_18 : decode cJ6_bitCount_0f7a4 18 = .ok (.ldc_w 266, 3) := by decide +kernel
theorem dJ6_bitCount_0f7a4_21 : decode cJ6_bitCount_0f7a4 21 = .ok (.iand, 1) := by decide +kernel
theorem dJ6_bitCount_0f7a4_22 : decode cJ6_bitCount_0f7a4 22 = .ok (.iadd, 1) := by decide +kernel
theorem dJ6_bitCount_0f7a4_23 : decode cJ6_bitCount_0f7a4 23 = .ok (.istore_n 0, 1) := by decide +kernel
theorem dJ6_bitCount_0f7a4_24 : decode cJ6_bitCount_0f7a4 24 = .ok (.iload_n 0, 1) := by decide +kernel
theorem dJ6_bitCount_0f7a4_25 : decode cJ6_bitCount_0f7a4 25 = .ok (.iload_n 0, 1) := by decide +kernel
theorem dJ6_bitCount_0f7a4_26 : decode cJ6_bitCount_0f7a4 26 = .ok (.iconst 4, 1) := by decide +kernel
theorem dJ6_bitCount_0f7a4_27 : decode cJ6_bitCount_0f7a4 27 = .ok (.iushr, 1) := by decide +kernel
theorem dJ6_bitCount_0f7a4_28 : decode cJ6_bitCount_0f7a4 28 = .ok (.iadd, 1) := by decide +kernel
theorem dJ6_bitCount_0f7a4_29 : decode cJ6_bitCount_0f7a4 29 = .ok (.ldc_w 267, 3) := by decide +kernel
theorem dJ6_bitCount_0f7a4_32 : decode cJ6_bitCount_0f7a4 32 = .ok (.iand, 1) := by decide +kernel
theorem dJ6_bitCount_0f7a4_33 : decode cJ6_bitCount_0f7a4 33 = .ok (.istore_n 0, 1) := by decide +kernel
theorem dJ6_bitCount_0f7a4_34 : decode cJ6_bitCount_0f7a4 34 = .ok (.iload_n 0, 1) := by decide +kernel
theorem dJ6_bitCount_0f7a4_35 : decode cJ6_bitCount_0f7a4 35 = .ok (.iload_n 0, 1) := by decide +kernel
theorem dJ6_bitCount_0f7a4_36 : decode cJ6_bitCount_0f7a4 36 = .ok (.bipush 8, 2) := by decide +kernel
theorem dJ6_bitCount_0f7a4_38 : decode cJ6_bitCount_0f7a4 38 = .ok (.iushr, 1) := by decide +kernel
theorem dJ6_bitCount_0f7a4_39 : decode cJ6_bitCount_0f7a4 39 = .ok (.iadd, 1) := by decide +kernel
theorem dJ6_bitCount_0f7a4_40 : decode cJ6_bitCount_0f7a4 40 = .ok (.istore_n 0, 1) := by decide +kernel
theorem dJ6_bitCount_0f7a4_41 : decode cJ6_bitCount_0f7a4 41 = .ok (.iload_n 0, 1) := by decide +kernel
theorem dJ6_bitCount_0f7a4_42 : decode cJ6_bitCount_0f7a4 42 = .ok (.iload_n 0, 1) := by decide +kernel
theorem dJ6_bitCount_0f7a4_43 : decode cJ6_bitCount_0f7a4 43 = .ok (.bipush 16, 2) := by decide +kernel
theorem dJ6_bitCount_0f7a4_45 : decode cJ6_bitCount_0f7a4 45 = .ok (.iushr, 1) := by decide +kernel
theorem dJ6_bitCount_0f7a4_46 : decode cJ6_bitCount_0f7a4 46 = .ok (.iadd, 1) := by decide +kernel
theorem dJ6_bitCount_0f7a4_47 : decode cJ6_bitCount_0f7a4 47 = .ok (.istore_n 0, 1) := by decide +kernel
theorem dJ6_bitCount_0f7a4_48 : decode cJ6_bitCount_0f7a4 48 = .ok (.iload_n 0, 1) := by decide +kernel
theorem dJ6_bitCount_0f7a4_49 : decode cJ6_bitCount_0f7a4 49 = .ok (.bipush 63, 2) := by decide +kernel
theorem dJ6_bitCount_0f7a4_51 : decode cJ6_bitCount_0f7a4 51 = .ok (.iand, 1) := by decide +kernel
theorem dJ6_bitCount_0f7a4_52 : decode cJ6_bitCount_0f7a4 52 = .ok (.ireturn, 1) := by decide +kernel
theorem dJ13_bitCount_95d88_0 : decode cJ13_bitCount_95d88 0 = .ok (.lload_n 0, 1) := by decide +kernel
theorem dJ13_bitCount_95d88_1 : decode cJ13_bitCount_95d88 1 = .ok (.lload_n 0, 1) := by decide +kernel
theorem dJ13_bitCount_95d88_2 : decode cJ13_bitCount_95d88 2 = .ok (.iconst 1, 1) := by decide +kernel
theorem dJ13_bitCount_95d88_3 : decode cJ13_bitCount_95d88 3 = .ok (.lushr, 1) := by decide +kernel
theorem dJ13_bitCount_95d88_4 : decode cJ13_bitCount_95d88 4 = .ok (.ldc2_w 314, 3) := by decide +kernel
theorem dJ13_bitCount_95d88_7 : decode cJ13_bitCount_95d88 7 = .ok (.land, 1) := by decide +kernel
theorem dJ13_bitCount_95d88_8 : decode cJ13_bitCount_95d88 8 = .ok (.lsub, 1) := by decide +kernel
theorem dJ13_bitCount_95d88_9 : decode cJ13_bitCount_95d88 9 = .ok (.lstore_n 0, 1) := by decide +kernel
theorem dJ13_bitCount_95d88_10 : decode cJ13_bitCount_95d88 10 = .ok (.lload_n 0, 1) := by decide +kernel
theorem dJ13_bitCount_95d88_11 : decode cJ13_bitCount_95d88 11 = .ok (.ldc2_w 316, 3) := by decide +kernel
theorem dJ13_bitCount_95d88_14 : decode cJ13_bitCount_95d88 14 = .ok (.land, 1) := by decide +kernel
theorem dJ13_bitCount_95d88_15 : decode cJ13_bitCount_95d88 15 = .ok (.lload_n 0, 1) := by decide +kernel
theorem dJ13_bitCount_95d88_16 : decode cJ13_bitCount_95d88 16 = .ok (.iconst 2, 1) := by decide +kernel
theorem dJ13_bitCount_95d88_17 : decode cJ13_bitCount_95d88 17 = .ok (.lushr, 1) := by decide +kernel
theorem dJ13_bitCount_95d88_18 : decode cJ13_bitCount_95d88 18 = .ok (.ldc2_w 316, 3) := by decide +kernel
theorem dJ13_bitCount_95d88_21 : decode cJ13_bitCount_95d88 21 = .ok (.land, 1) := by decide +kernel
theorem dJ13_bitCount_95d88_22 : decode cJ13_bitCount_95d88 22 = .ok (.ladd, 1) := by decide +kernel
theorem dJ13_bitCount_95d88_23 : decode cJ13_bitCount_95d88 23 = .ok (.lstore_n 0, 1) := by decide +kernel
theorem dJ13_bitCount_95d88_24 : decode cJ13_bitCount_95d88 24 = .ok (.lload_n 0, 1) := by decide +kernel
theorem dJ13_bitCount_95d88_25 : decode cJ13_bitCount_95d88 25 = .ok (.lload_n 0, 1) := by decide +kernel
theorem dJ13_bitCount_95d88_26 : decode cJ13_bitCount_95d88 26 = .ok (.iconst 4, 1) := by decide +kernel
theorem dJ13_bitCount_95d88_27 : decode cJ13_bitCount_95d88 27 = .ok (.lushr, 1) := by decide +kernel
theorem dJ13_bitCount_95d88_28 : decode cJ13_bitCount_95d88 28 = .ok (.ladd, 1) := by decide +kernel
theorem dJ13_bitCount_95d88_29 : decode cJ13_bitCount_95d88 29 = .ok (.ldc2_w 318, 3) := by decide +kernel
theorem dJ13_bitCount_95d88_32 : decode cJ13_bitCount_95d88 32 = .ok (.land, 1) := by decide +kernel
theorem dJ13_bitCount_95d88_33 : decode cJ13_bitCount_95d88 33 = .ok (.lstore_n 0, 1) := by decide +kernel
theorem dJ13_bitCount_95d88_34 : decode cJ13_bitCount_95d88 34 = .ok (.lload_n 0, 1) := by decide +kernel
theorem dJ13_bitCount_95d88_35 : decode cJ13_bitCount_95d88 35 = .ok (.lload_n 0, 1) := by decide +kernel
theorem dJ13_bitCount_95d88_36 : decode cJ13_bitCount_95d88 36 = .ok (.bipush 8, 2) := by decide +kernel
theorem dJ13_bitCount_95d88_38 : decode cJ13_bitCount_95d88 38 = .ok (.lushr, 1) := by decide +kernel
theorem dJ13_bitCount_95d88_39 : decode cJ13_bitCount_95d88 39 = .ok (.ladd, 1) := by decide +kernel
theorem dJ13_bitCount_95d88_40 : decode cJ13_bitCount_95d88 40 = .ok (.lstore_n 0, 1) := by decide +kernel
theorem dJ13_bitCount_95d88_41 : decode cJ13_bitCount_95d88 41 = .ok (.lload_n 0, 1) := by decide +kernel
theorem dJ13_bitCount_95d88_42 : decode cJ13_bitCount_95d88 42 = .ok (.lload_n 0, 1) := by decide +kernel
theorem dJ13_bitCount_95d88_43 : decode cJ13_bitCount_95d88 43 = .ok (.bipush 16, 2) := by decide +kernel
theorem dJ13_bitCount_95d88_45 : decode cJ13_bitCount_95d88 45 = .ok (.lushr, 1) := by decide +kernel
theorem dJ13_bitCount_95d88_46 : decode cJ13_bitCount_95d88 46 = .ok (.ladd, 1) := by decide +kernel
theorem dJ13_bitCount_95d88_47 : decode cJ13_bitCount_95d88 47 = .ok (.lstore_n 0, 1) := by decide +kernel
theorem dJ13_bitCount_95d88_48 : decode cJ13_bitCount_95d88 48 = .ok (.lload_n 0, 1) := by decide +kernel
theorem dJ13_bitCount_95d88_49 : decode cJ13_bitCount_95d88 49 = .ok (.lload_n 0, 1) := by decide +kernel
theorem dJ13_bitCount_95d88_50 : decode cJ13_bitCount_95d88 50 = .ok (.bipush 32, 2) := by decide +kernel
theorem dJ13_bitCount_95d88_52 : decode cJ13_bitCount_95d88 52 = .ok (.lushr, 1) := by decide +kernel
theorem dJ13_bitCount_95d88_53 : decode cJ13_bitCount_95d88 53 = .ok (.ladd, 1) := by decide +kernel
theorem dJ13_bitCount_95d88_54 : decode cJ13_bitCount_95d88 54 = .ok (.lstore_n 0, 1) := by decide +kernel
theorem dJ13_bitCount_95d88_55 : decode cJ13_bitCount_95d88 55 = .ok (.lload_n 0, 1) := by decide +kernel
theorem dJ13_bitCount_95d88_56 : decode cJ13_bitCount_95d88 56 = .ok (.l2i, 1) := by decide +kernel
theorem dJ13_bitCount_95d88_57 : decode cJ13_bitCount_95d88 57 = .ok (.bipush 127, 2) := by decide +kernel
theorem dJ13_bitCount_95d88_59 : decode cJ13_bitCount_95d88 59 = .ok (.iand, 1) := by decide +kernel
theorem dJ13_bitCount_95d88_60 : decode cJ13_bitCount_95d88 60 = .ok (.ireturn, 1) := by decide +kernel
theorem dJ9_max_7cf53_0 : decode cJ9_max_7cf53 0 = .ok (.iload_n 0, 1) := by decide +kernel
theorem dJ9_max_7cf53_1 : decode cJ9_max_7cf53 1 = .ok (.iload_n 1, 1) := by decide +kernel
theorem dJ9_max_7cf53_2 : decode cJ9_max_7cf53 2 = .ok (.if_icmp .lt 7, 3) := by decide +kernel
theorem dJ9_max_7cf53_5 : decode cJ9_max_7cf53 5 = .ok (.iload_n 0, 1) := by decide +kernel
theorem dJ9_max_7cf53_6 : decode cJ9_max_7cf53 6 = .ok (.goto 4, 3) := by decide +kernel
theorem dJ9_max_7cf53_9 : decode cJ9_max_7cf53 9 = .ok (.iload_n 1, 1) := by decide +kernel
theorem dJ9_max_7cf53_10 : decode cJ9_max_7cf53 10 = .ok (.ireturn, 1) := by decide +kernel
theorem dJ9_min_7cf53_0 : decode cJ9_min_7cf53 0 = .ok (.iload_n 0, 1) := by decide +kernel
theorem dJ9_min_7cf53_1 : decode cJ9_min_7cf53 1 = .ok (.iload_n 1, 1) := by decide +kernel
theorem dJ9_min_7cf53_2 : decode cJ9_min_7cf53 2 = .ok (.if_icmp .gt 7, 3) := by decide +kernel
theorem dJ9_min_7cf53_5 : decode cJ9_min_7cf53 5 = .ok (.iload_n 0, 1) := by decide +kernel
theorem dJ9_min_7cf53_6 : decode cJ9_min_7cf53 6 = .ok (.goto 4, 3) := by decide +kernel
theorem dJ9_min_7cf53_9 : decode cJ9_min_7cf53 9 = .ok (.iload_n 1, 1) := by decide +kernel
theorem dJ9_min_7cf53_10 : decode cJ9_min_7cf53 10 = .ok (.ireturn, 1) := by decide +kernel
theorem dL_dig_0 : decode cL_dig 0 = .ok (.aload_n 1, 1) := by decide +kernel
