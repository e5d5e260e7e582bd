theorem dX0_init_0 : decode cX0_init 0 = .ok (.aload_n 0, 1) := by decide +kernel
theorem dX0_init_1 : decode cX0_init 1 = .ok (.invokespecial 3, 3) := by decide +kernel
theorem dX0_init_4 : decode cX0_init 4 = .ok (.aload_n 0, 1) := by decide +kernel
theorem dX0_init_5 : decode cX0_init 5 = .ok (.bipush 8, 2) := by decide +kernel
theorem dX0_init_7 : decode cX0_init 7 = .ok (.anewarray 9, 3) := by decide +kernel
theorem dX0_init_10 : decode cX0_init 10 = .ok (.putfield 11, 3) := by decide +kernel
theorem dX0_init_13 : decode cX0_init 13 = .ok (.iconst 0, 1) := by decide +kernel
theorem dX0_init_14 : decode cX0_init 14 = .ok (.istore_n 1, 1) := by decide +kernel
theorem dX0_init_15 : decode cX0_init 15 = .ok (.iload_n 1, 1) := by decide +kernel
theorem dX0_init_16 : decode cX0_init 16 = .ok (.aload_n 0, 1) := by decide +kernel
theorem dX0_init_17 : decode cX0_init 17 = .ok (.getfield 11, 3) := by decide +kernel
theorem dX0_init_20 : decode cX0_init 20 = .ok (.arraylength, 1) := by decide +kernel
theorem dX0_init_21 : decode cX0_init 21 = .ok (.if_icmp .ge 22, 3) := by decide +kernel
theorem dX0_init_24 : decode cX0_init 24 = .ok (.aload_n 0, 1) := by decide +kernel
theorem dX0_init_25 : decode cX0_init 25 = .ok (.getfield 11, 3) := by decide +kernel
theorem dX0_init_28 : decode cX0_init 28 = .ok (.iload_n 1, 1) := by decide +kernel
theorem dX0_init_29 : decode cX0_init 29 = .ok (.new 9, 3) := by decide +kernel
theorem dX0_init_32 : decode cX0_init 32 = .ok (.dup, 1) := by decide +kernel
theorem dX0_init_33 : decode cX0_init 33 = .ok (.invokespecial 17, 3) := by decide +kernel
theorem dX0_init_36 : decode cX0_init 36 = .ok (.aastore, 1) := by decide +kernel
theorem dX0_init_37 : decode cX0_init 37 = .ok (.iinc 1 1, 3) := by decide +kernel
theorem dX0_init_40 : decode cX0_init 40 = .ok (.goto (-25), 3) := by decide +kernel
theorem dX0_init_43 : decode cX0_init 43 = .ok (.return_, 1) := by decide +kernel
theorem dX0_keep_0 : decode cX0_keep 0 = .ok (.aload_n 0, 1) := by decide +kernel
theorem dX0_keep_1 : decode cX0_keep 1 = .ok (.aload_n 0, 1) := by decide +kernel
theorem dX0_keep_2 : decode cX0_keep 2 = .ok (.getfield 18, 3) := by decide +kernel
theorem dX0_keep_5 : decode cX0_keep 5 = .ok (.invokevirtual 22, 3) := by decide +kernel
theorem dX0_keep_8 : decode cX0_keep 8 = .ok (.astore_n 2, 1) := by decide +kernel
theorem dX0_keep_9 : decode cX0_keep 9 = .ok (.aload_n 2, 1) := by decide +kernel
theorem dX0_keep_10 : decode cX0_keep 10 = .ok (.ifnonnull 4, 3) := by decide +kernel
theorem dX0_keep_13 : decode cX0_keep 13 = .ok (.return_, 1) := by decide +kernel
theorem dX0_keep_14 : decode cX0_keep 14 = .ok (.aload_n 2, 1) := by decide +kernel
theorem dX0_keep_15 : decode cX0_keep 15 = .ok (.aload_n 1, 1) := by decide +kernel
theorem dX0_keep_16 : decode cX0_keep 16 = .ok (.invokevirtual 26, 3) := by decide +kernel
theorem dX0_keep_19 : decode cX0_keep 19 = .ok (.aload_n 0, 1) := by decide +kernel
theorem dX0_keep_20 : decode cX0_keep 20 = .ok (.aload_n 0, 1) := by decide +kernel
theorem dX0_keep_21 : decode cX0_keep 21 = .ok (.getfield 18, 3) := by decide +kernel
theorem dX0_keep_24 : decode cX0_keep 24 = .ok (.iconst 1, 1) := by decide +kernel
theorem dX0_keep_25 : decode cX0_keep 25 = .ok (.iadd, 1) := by decide +kernel
theorem dX0_keep_26 : decode cX0_keep 26 = .ok (.bipush 8, 2) := by decide +kernel
theorem dX0_keep_28 : decode cX0_keep 28 = .ok (.irem, 1) := by decide +kernel
theorem dX0_keep_29 : decode cX0_keep 29 = .ok (.putfield 18, 3) := by decide +kernel
theorem dX0_keep_32 : decode cX0_keep 32 = .ok (.aload_n 0, 1) := by decide +kernel
theorem dX0_keep_33 : decode cX0_keep 33 = .ok (.aload_n 0, 1) := by decide +kernel
theorem dX0_keep_34 : decode cX0_keep 34 = .ok (.getfield 30, 3) := by decide +kernel
theorem dX0_keep_37 : decode cX0_keep 37 = .ok (.iconst 1, 1) := by decide +kernel
theorem dX0_keep_38 : decode cX0_keep 38 = .ok (.iadd, 1) := by decide +kernel
theorem dX0_keep_39 : decode cX0_keep 39 = .ok (.bipush 8, 2) := by decide +kernel
theorem dX0_keep_41 : decode cX0_keep 41 = .ok (.invokestatic 33, 3) := by decide +kernel
theorem dX0_keep_44 : decode cX0_keep 44 = .ok (.putfield 30, 3) := by decide +kernel
theorem dX0_keep_47 : decode cX0_keep 47 = .ok (.return_, 1) := by decide +kernel
theorem dX0_takeInto_0 : decode cX0_takeInto 0 = .ok (.aload_n 0, 1) := by decide +kernel
theorem dX0_takeInto_1 : decode cX0_takeInto 1 = .ok (.getfield 18, 3) := by decide +kernel
theorem dX0_takeInto_4 : decode cX0_takeInto 4 = .ok (.bipush 8, 2) := by decide +kernel
theorem dX0_takeInto_6 : decode cX0_takeInto 6 = .ok (.iadd, 1) := by decide +kernel
theorem dX0_takeInto_7 : decode cX0_takeInto 7 = .ok (.iconst 1, 1) := by decide +kernel
theorem dX0_takeInto_8 : decode cX0_takeInto 8 = .ok (.isub, 1) := by decide +kernel
theorem dX0_takeInto_9 : decode cX0_takeInto 9 = .ok (.bipush 8, 2) := by decide +kernel
theorem dX0_takeInto_11 : decode cX0_takeInto 11 = .ok (.irem, 1) := by decide +kernel
theorem dX0_takeInto_12 : decode cX0_takeInto 12 = .ok (.istore_n 2, 1) := by decide +kernel
theorem dX0_takeInto_13 : decode cX0_takeInto 13 = .ok (.aload_n 0, 1) := by decide +kernel
theorem dX0_takeInto_14 : decode cX0_takeInto 14 = .ok (.iload_n 2, 1) := by decide +kernel
theorem dX0_takeInto_15 : decode cX0_takeInto 15 = .ok (.invokevirtual 22, 3) := by decide +kernel
theorem dX0_takeInto_18 : decode cX0_takeInto 18 = .ok (.astore_n 3, 1) := by decide +kernel
theorem dX0_takeInto_19 : decode cX0_takeInto 19 = .ok (.aload_n 0, 1) := by decide +kernel
theorem dX0_takeInto_20 : decode cX0_takeInto 20 = .ok (.getfield 30, 3) := by decide +kernel
theorem dX0_takeInto_23 : decode cX0_takeInto 23 = .ok (.ifCond .eq 7, 3) := by decide +kernel
theorem dX0_takeInto_26 : decode cX0_takeInto 26 = .ok (.aload_n 3, 1) := by decide +kernel
theorem dX0_takeInto_27 : decode cX0_takeInto 27 = .ok (.ifnonnull 4, 3) := by decide +kernel
theorem dX0_takeInto_30 : decode cX0_takeInto 30 = .ok (.return_, 1) := by decide +kernel
theorem dX0_takeInto_31 : decode cX0_takeInto 31 = .ok (.aload_n 1, 1) := by decide +kernel
theorem dX0_takeInto_32 : decode cX0_takeInto 32 = .ok (.aload_n 3, 1) := by decide +kernel
theorem dX0_takeInto_33 : decode cX0_takeInto 33 = .ok (.invokevirtual 26, 3) := by decide +kernel
theorem dX0_takeInto_36 : decode cX0_takeInto 36 = .ok (.aload_n 0, 1) := by decide +kernel
theorem dX0_takeInto_37 : decode cX0_takeInto 37 = .ok (.iload_n 2, 1) := by decide +kernel
theorem dX0_takeInto_38 : decode cX0_takeInto 38 = .ok (.putfield 18, 3) := by decide +kernel
theorem dX0_takeInto_41 : decode cX0_takeInto 41 = .ok (.aload_n 0, 1) := by decide +kernel
theorem dX0_takeInto_42 : decode cX0_takeInto 42 = .ok (.dup, 1) := by decide +kernel
theorem dX0_takeInto_43 : decode cX0_takeInto 43 = .ok (.getfield 30, 3) := by decide +kernel
theorem dX0_takeInto_46 : decode cX0_takeInto 46 = .ok (.iconst 1, 1) := by decide +kernel
theorem dX0_takeInto_47 : decode cX0_takeInto 47 = .ok (.isub, 1) := by decide +kernel
theorem dX0_takeInto_48 : decode cX0_takeInto 48 = .ok (.putfield 30, 3) := by decide +kernel
theorem dX0_takeInto_51 : decode cX0_takeInto 51 = .ok (.return_, 1) := by decide +kernel
theorem dX0_placeAt_0 : decode cX0_placeAt 0 = .ok (.iload_n 1, 1) := by decide +kernel
theorem dX0_placeAt_1 : decode cX0_placeAt 1 = .ok (.ifCond .lt 12, 3) := by decide +kernel
theorem dX0_placeAt_4 : decode cX0_placeAt 4 = .ok (.iload_n 1, 1) := by decide +kernel
theorem dX0_placeAt_5 : decode cX0_placeAt 5 = .ok (.aload_n 0, 1) := by decide +kernel
theorem dX0_placeAt_6 : decode cX0_placeAt 6 = .ok (.getfield 11, 3) := by decide +kernel
theorem dX0_placeAt_9 : decode cX0_placeAt 9 = .ok (.arraylength, 1) := by decide +kernel
theorem dX0_placeAt_10 : decode cX0_placeAt 10 = .ok (.if_icmp .lt 7, 3) := by decide +kernel
theorem dX0_placeAt_13 : decode cX0_placeAt 13 = .ok (.aconst_null, 1) := by decide +kernel
theorem dX0_placeAt_14 : decode cX0_placeAt 14 = .ok (.goto 9, 3) := by decide +kernel
theorem dX0_placeAt_17 : decode cX0_placeAt 17 = .ok (.aload_n 0, 1) := by decide +kernel
theorem dX0_placeAt_18 : decode cX0_placeAt 18 = .ok (.getfield 11, 3) := by decide +kernel
theorem dX0_placeAt_21 : decode cX0_placeAt 21 = .ok (.iload_n 1, 1) := by decide +kernel
theorem dX0_placeAt_22 : decode cX0_placeAt 22 = .ok (.aaload, 1) := by decide +kernel
theorem dX0_placeAt_23 : decode cX0_placeAt 23 = .ok (.areturn, 1) := by decide +kernel
theorem dX1_init_0 : decode cX1_init 0 = .ok (.aload_n 0, 1) := by decide +kernel
theorem dX1_init_1 : decode cX1_init 1 = .ok (.invokespecial 3, 3) := by decide +kernel
theorem dX1_init_4 : decode cX1_init 4 = .ok (.aload_n 0, 1) := by decide +kernel
theorem dX1_init_5 : decode cX1_init 5 = .ok (.iconst 1, 1) := by decide +kernel
theorem dX1_init_6 : decode cX1_init 6 = .ok (.putfield 9, 3) := by decide +kernel
theorem dX1_init_9 : decode cX1_init 9 = .ok (.aload_n 0, 1) := by decide +kernel
theorem dX1_init_10 : decode cX1_init 10 = .ok (.bipush 16, 2) := by decide +kernel
theorem dX1_init_12 : decode cX1_init 12 = .ok (.newarray .int, 2) := by decide +kernel
theorem dX1_init_14 : decode cX1_init 14 = .ok (.putfield 15, 3) := by decide +kernel
theorem dX1_init_17 : decode cX1_init 17 = .ok (.aload_n 0, 1) := by decide +kernel
theorem dX1_init_18 : decode cX1_init 18 = .ok (.bipush 16, 2) := by decide +kernel
theorem dX1_init_20 : decode cX1_init 20 = .ok (.newarray .int, 2) := by decide +kernel
theorem dX1_init_22 : decode cX1_init 22 = .ok (.putfield 19, 3) := by decide +kernel
theorem dX1_init_25 : decode cX1_init 25 = .ok (.aload_n 0, 1) := by decide +kernel
theorem dX1_init_26 : decode cX1_init 26 = .ok (.bipush 8, 2) := by decide +kernel
theorem dX1_init_28 : decode cX1_init 28 = .ok (.newarray .int, 2) := by decide +kernel
theorem dX1_init_30 : decode cX1_init 30 = .ok (.putfield 22, 3) := by decide +kernel
theorem dX1_init_33 : decode cX1_init 33 = .ok (.return_, 1) := by decide +kernel
theorem dX1_become_0 : decode cX1_become 0 = .ok (.aload_n 0, 1) := by decide +kernel
theorem dX1_become_1 : decode cX1_become 1 = .ok (.aload_n 1, 1) := by decide +kernel
theorem dX1_become_2 : decode cX1_become 2 = .ok (.getfield 25, 3) := by decide +kernel
theorem dX1_become_5 : decode cX1_become 5 = .ok (.putfield 25, 3) := by decide +kernel
theorem dX1_become_8 : decode cX1_become 8 = .ok (.aload_n 0, 1) := by decide +kernel
theorem dX1_become_9 : decode cX1_become 9 = .ok (.aload_n 1, 1) := by decide +kernel
theorem dX1_become_10 : decode cX1_become 10 = .ok (.getfield 28, 3) := by decide +kernel
theorem dX1_become_13 : decode cX1_become 13 = .ok (.putfield 28, 3) := by decide +kernel
theorem dX1_become_16 : decode cX1_become 16 = .ok (.aload_n 0, 1) := by decide +kernel
theorem dX1_become_17 : decode cX1_become 17 = .ok (.aload_n 1, 1) := by decide +kernel
theorem dX1_become_18 : decode cX1_become 18 = .ok (.getfield 31, 3) := by decide +kernel
theorem dX1_become_21 : decode cX1_become 21 = .ok (.putfield 31, 3) := by decide +kernel
theorem dX1_become_24 : decode cX1_become 24 = .ok (.aload_n 0, 1) := by decide +kernel
theorem dX1_become_25 : decode cX1_become 25 = .ok (.aload_n 1, 1) := by decide +kernel
theorem dX1_become_26 : decode cX1_become 26 = .ok (.getfield 9, 3) := by decide +kernel
theorem dX1_become_29 : decode cX1_become 29 = .ok (.putfield 9, 3) := by decide +kernel
theorem dX1_become_32 : decode cX1_become 32 = .ok (.aload_n 0, 1) := by decide +kernel
theorem dX1_become_33 : decode cX1_become 33 = .ok (.aload_n 1, 1) := by decide +kernel
theorem dX1_become_34 : decode cX1_become 34 = .ok (.getfield 34, 3) := by decide +kernel
theorem dX1_become_37 : decode cX1_become 37 = .ok (.putfield 34, 3) := by decide +kernel
theorem dX1_become_40 : decode cX1_become 40 = .ok (.aload_n 1, 1) := by decide +kernel
theorem dX1_become_41 : decode cX1_become 41 = .ok (.getfield 15, 3) := by decide +kernel
theorem dX1_become_44 : decode cX1_become 44 = .ok (.aload_n 0, 1) := by decide +kernel
theorem dX1_become_45 : decode cX1_become 45 = .ok (.getfield 15, 3) := by decide +kernel
theorem dX1_become_48 : decode cX1_become 48 = .ok (.invokestatic 37, 3) := by decide +kernel
theorem dX1_become_51 : decode cX1_become 51 = .ok (.aload_n 1, 1) := by decide +kernel
theorem dX1_become_52 : decode cX1_become 52 = .ok (.getfield 19, 3) := by decide +kernel
theorem dX1_become_55 : decode cX1_become 55 = .ok (.aload_n 0, 1) := by decide +kernel
theorem dX1_become_56 : decode cX1_become 56 = .ok (.getfield 19, 3) := by decide +kernel
theorem dX1_become_59 : decode cX1_become 59 = .ok (.invokestatic 37, 3) := by decide +kernel
theorem dX1_become_62 : decode cX1_become 62 = .ok (.aload_n 1, 1) := by decide +kernel
theorem dX1_become_63 : decode cX1_become 63 = .ok (.getfield 22, 3) := by decide +kernel
theorem dX1_become_66 : decode cX1_become 66 = .ok (.aload_n 0, 1) := by decide +kernel
theorem dX1_become_67 : decode cX1_become 67 = .ok (.getfield 22, 3) := by decide +kernel
theorem dX1_become_70 : decode cX1_become 70 = .ok (.invokestatic 37, 3) := by decide +kernel
theorem dX1_become_73 : decode cX1_become 73 = .ok (.return_, 1) := by decide +kernel
theorem dX1_has_0 : decode cX1_has 0 = .ok (.iload_n 1, 1) := by decide +kernel
theorem dX1_has_1 : decode cX1_has 1 = .ok (.ifCond .lt 15, 3) := by decide +kernel
theorem dX1_has_4 : decode cX1_has 4 = .ok (.iload_n 1, 1) := by decide +kernel
theorem dX1_has_5 : decode cX1_has 5 = .ok (.aload_n 0, 1) := by decide +kernel
theorem dX1_has_6 : decode cX1_has 6 = .ok (.getfield 25, 3) := by decide +kernel
theorem dX1_has_9 : decode cX1_has 9 = .ok (.if_icmp .ge 7, 3) := by decide +kernel
theorem dX1_has_12 : decode cX1_has 12 = .ok (.iconst 1, 1) := by decide +kernel
theorem dX1_has_13 : decode cX1_has 13 = .ok (.goto 4, 3) := by decide +kernel
theorem dX1_has_16 : decode cX1_has 16 = .ok (.iconst 0, 1) := by decide +kernel
theorem dX1_has_17 : decode cX1_has 17 = .ok (.ireturn, 1) := by decide +kernel
theorem dX1_isTrap_0 : decode cX1_isTrap 0 = .ok (.aload_n 0, 1) := by decide +kernel
theorem dX1_isTrap_1 : decode cX1_isTrap 1 = .ok (.getfield 31, 3) := by decide +kernel
theorem dX1_isTrap_4 : decode cX1_isTrap 4 = .ok (.iload_n 1, 1) := by decide +kernel
theorem dX1_isTrap_5 : decode cX1_isTrap 5 = .ok (.invokestatic 41, 3) := by decide +kernel
theorem dX1_isTrap_8 : decode cX1_isTrap 8 = .ok (.iand, 1) := by decide +kernel
theorem dX1_isTrap_9 : decode cX1_isTrap 9 = .ok (.ifCond .eq 7, 3) := by decide +kernel
theorem dX1_isTrap_12 : decode cX1_isTrap 12 = .ok (.iconst 1, 1) := by decide +kernel
theorem dX1_isTrap_13 : decode cX1_isTrap 13 = .ok (.goto 4, 3) := by decide +kernel
theorem dX1_isTrap_16 : decode cX1_isTrap 16 = .ok (.iconst 0, 1) := by decide +kernel
theorem dX1_isTrap_17 : decode cX1_isTrap 17 = .ok (.ireturn, 1) := by decide +kernel
theorem dX1_pathBetween_0 : decode cX1_pathBetween 0 = .ok (.iconst 0, 1) := by decide +kernel
theorem dX1_pathBetween_1 : decode cX1_pathBetween 1 = .ok (.istore_n 3, 1) := by decide +kernel
theorem dX1_pathBetween_2 : decode cX1_pathBetween 2 = .ok (.iload_n 3, 1) := by decide +kernel
theorem dX1_pathBetween_3 : decode cX1_pathBetween 3 = .ok (.aload_n 0, 1) := by decide +kernel
theorem dX1_pathBetween_4 : decode cX1_pathBetween 4 = .ok (.getfield 28, 3) := by decide +kernel
theorem dX1_pathBetween_7 : decode cX1_pathBetween 7 = .ok (.if_icmp .ge 55, 3) := by decide +kernel
theorem dX1_pathBetween_10 : decode cX1_pathBetween 10 = .ok (.aload_n 0, 1) := by decide +kernel
theorem dX1_pathBetween_11 : decode cX1_pathBetween 11 = .ok (.getfield 15, 3) := by decide +kernel
theorem dX1_pathBetween_14 : decode cX1_pathBetween 14 = .ok (.iload_n 3, 1) := by decide +kernel
theorem dX1_pathBetween_15 : decode cX1_pathBetween 15 = .ok (.invokestatic 45, 3) := by decide +kernel
theorem dX1_pathBetween_18 : decode cX1_pathBetween 18 = .ok (.istore 4, 2) := by decide +kernel
theorem dX1_pathBetween_20 : decode cX1_pathBetween 20 = .ok (.aload_n 0, 1) := by decide +kernel
theorem dX1_pathBetween_21 : decode cX1_pathBetween 21 = .ok (.getfield 19, 3) := by decide +kernel
theorem dX1_pathBetween_24 : decode cX1_pathBetween 24 = .ok (.iload_n 3, 1) := by decide +kernel
theorem dX1_pathBetween_25 : decode cX1_pathBetween 25 = .ok (.invokestatic 45, 3) := by decide +kernel
theorem dX1_pathBetween_28 : decode cX1_pathBetween 28 = .ok (.istore 5, 2) := by decide +kernel
theorem dX1_pathBetween_30 : decode cX1_pathBetween 30 = .ok (.iload 4, 2) := by decide +kernel
theorem dX1_pathBetween_32 : decode cX1_pathBetween 32 = .ok (.iload_n 1, 1) := by decide +kernel
theorem dX1_pathBetween_33 : decode cX1_pathBetween 33 = .ok (.if_icmp .ne 9, 3) := by decide +kernel
theorem dX1_pathBetween_36 : decode cX1_pathBetween 36 = .ok (.iload 5, 2) := by decide +kernel
theorem dX1_pathBetween_38 : decode cX1_pathBetween 38 = .ok (.iload_n 2, 1) := by decide +kernel
theorem dX1_pathBetween_39 : decode cX1_pathBetween 39 = .ok (.if_icmp .eq 15, 3) := by decide +kernel
theorem dX1_pathBetween_42 : decode cX1_pathBetween 42 = .ok (.iload 4, 2) := by decide +kernel
theorem dX1_pathBetween_44 : decode cX1_pathBetween 44 = .ok (.iload_n 2, 1) := by decide +kernel
theorem dX1_pathBetween_45 : decode cX1_pathBetween 45 = .ok (.if_icmp .ne 11, 3) := by decide +kernel
theorem dX1_pathBetween_48 : decode cX1_pathBetween 48 = .ok (.iload 5, 2) := by decide +kernel
theorem dX1_pathBetween_50 : decode cX1_pathBetween 50 = .ok (.iload_n 1, 1) := by decide +kernel
theorem dX1_pathBetween_51 : decode cX1_pathBetween 51 = .ok (.if_icmp .ne 5, 3) := by decide +kernel
theorem dX1_pathBetween_54 : decode cX1_pathBetween 54 = .ok (.iload_n 3, 1) := by decide +kernel
theorem dX1_pathBetween_55 : decode cX1_pathBetween 55 = .ok (.ireturn, 1) := by decide +kernel
theorem dX1_pathBetween_56 : decode cX1_pathBetween 56 = .ok (.iinc 3 1, 3) := by decide +kernel
theorem dX1_pathBetween_59 : decode cX1_pathBetween 59 = .ok (.goto (-57), 3) := by decide +kernel
theorem dX1_pathBetween_62 : decode cX1_pathBetween 62 = .ok (.iconst (-1), 1) := by decide +kernel
theorem dX1_pathBetween_63 : decode cX1_pathBetween 63 = .ok (.ireturn, 1) := by decide +kernel
theorem dX1_join_0 : decode cX1_join 0 = .ok (.aload_n 0, 1) := by decide +kernel
theorem dX1_join_1 : decode cX1_join 1 = .ok (.getfield 15, 3) := by decide +kernel
theorem dX1_join_4 : decode cX1_join 4 = .ok (.aload_n 0, 1) := by decide +kernel
theorem dX1_join_5 : decode cX1_join 5 = .ok (.getfield 28, 3) := by decide +kernel
theorem dX1_join_8 : decode cX1_join 8 = .ok (.iload_n 1, 1) := by decide +kernel
theorem dX1_join_9 : decode cX1_join 9 = .ok (.invokestatic 49, 3) := by decide +kernel
theorem dX1_join_12 : decode cX1_join 12 = .ok (.aload_n 0, 1) := by decide +kernel
theorem dX1_join_13 : decode cX1_join 13 = .ok (.getfield 19, 3) := by decide +kernel
theorem dX1_join_16 : decode cX1_join 16 = .ok (.aload_n 0, 1) := by decide +kernel
theorem dX1_join_17 : decode cX1_join 17 = .ok (.getfield 28, 3) := by decide +kernel
theorem dX1_join_20 : decode cX1_join 20 = .ok (.iload_n 2, 1) := by decide +kernel
theorem dX1_join_21 : decode cX1_join 21 = .ok (.invokestatic 49, 3) := by decide +kernel
theorem dX1_join_24 : decode cX1_join 24 = .ok (.aload_n 0, 1) := by decide +kernel
theorem dX1_join_25 : decode cX1_join 25 = .ok (.dup, 1) := by decide +kernel
theorem dX1_join_26 : decode cX1_join 26 = .ok (.getfield 28, 3) := by decide +kernel
theorem dX1_join_29 : decode cX1_join 29 = .ok (.iconst 1, 1) := by decide +kernel
theorem dX1_join_30 : decode cX1_join 30 = .ok (.iadd, 1) := by decide +kernel
theorem dX1_join_31 : decode cX1_join 31 = .ok (.putfield 28, 3) := by decide +kernel
theorem dX1_join_34 : decode cX1_join 34 = .ok (.aload_n 0, 1) := by decide +kernel
theorem dX1_join_35 : decode cX1_join 35 = .ok (.iload_n 1, 1) := by decide +kernel
theorem dX1_join_36 : decode cX1_join 36 = .ok (.iload_n 2, 1) := by decide +kernel
theorem dX1_join_37 : decode cX1_join 37 = .ok (.invokevirtual 53, 3) := by decide +kernel
theorem dX1_join_40 : decode cX1_join 40 = .ok (.return_, 1) := by decide +kernel
theorem dX1_part_0 : decode cX1_part 0 = .ok (.aload_n 0, 1) := by decide +kernel
theorem dX1_part_1 : decode cX1_part 1 = .ok (.aload_n 0, 1) := by decide +kernel
theorem dX1_part_2 : decode cX1_part 2 = .ok (.getfield 15, 3) := by decide +kernel
theorem dX1_part_5 : decode cX1_part 5 = .ok (.iload_n 1, 1) := by decide +kernel
theorem dX1_part_6 : decode cX1_part 6 = .ok (.invokestatic 45, 3) := by decide +kernel
theorem dX1_part_9 : decode cX1_part 9 = .ok (.aload_n 0, 1) := by decide +kernel
theorem dX1_part_10 : decode cX1_part 10 = .ok (.getfield 19, 3) := by decide +kernel
theorem dX1_part_13 : decode cX1_part 13 = .ok (.iload_n 1, 1) := by decide +kernel
theorem dX1_part_14 : decode cX1_part 14 = .ok (.invokestatic 45, 3) := by decide +kernel
theorem dX1_part_17 : decode cX1_part 17 = .ok (.invokevirtual 53, 3) := by decide +kernel
theorem dX1_part_20 : decode cX1_part 20 = .ok (.aload_n 0, 1) := by decide +kernel
theorem dX1_part_21 : decode cX1_part 21 = .ok (.dup, 1) := by decide +kernel
theorem dX1_part_22 : decode cX1_part 22 = .ok (.getfield 28, 3) := by decide +kernel
theorem dX1_part_25 : decode cX1_part 25 = .ok (.iconst 1, 1) := by decide +kernel
theorem dX1_part_26 : decode cX1_part 26 = .ok (.isub, 1) := by decide +kernel
theorem dX1_part_27 : decode cX1_part 27 = .ok (.putfield 28, 3) := by decide +kernel
theorem dX1_part_30 : decode cX1_part 30 = .ok (.iload_n 1, 1) := by decide +kernel
theorem dX1_part_31 : decode cX1_part 31 = .ok (.istore_n 2, 1) := by decide +kernel
theorem dX1_part_32 : decode cX1_part 32 = .ok (.iload_n 2, 1) := by decide +kernel
theorem dX1_part_33 : decode cX1_part 33 = .ok (.aload_n 0, 1) := by decide +kernel
theorem dX1_part_34 : decode cX1_part 34 = .ok (.getfield 28, 3) := by decide +kernel
theorem dX1_part_37 : decode cX1_part 37 = .ok (.if_icmp .ge 45, 3) := by decide +kernel
theorem dX1_part_40 : decode cX1_part 40 = .ok (.aload_n 0, 1) := by decide +kernel
theorem dX1_part_41 : decode cX1_part 41 = .ok (.getfield 15, 3) := by decide +kernel
theorem dX1_part_44 : decode cX1_part 44 = .ok (.iload_n 2, 1) := by decide +kernel
theorem dX1_part_45 : decode cX1_part 45 = .ok (.aload_n 0, 1) := by decide +kernel
theorem dX1_part_46 : decode cX1_part 46 = .ok (.getfield 15, 3) := by decide +kernel
theorem dX1_part_49 : decode cX1_part 49 = .ok (.iload_n 2, 1) := by decide +kernel
theorem dX1_part_50 : decode cX1_part 50 = .ok (.iconst 1, 1) := by decide +kernel
theorem dX1_part_51 : decode cX1_part 51 = .ok (.iadd, 1) := by decide +kernel
theorem dX1_part_52 : decode cX1_part 52 = .ok (.invokestatic 45, 3) := by decide +kernel
theorem dX1_part_55 : decode cX1_part 55 = .ok (.invokestatic 49, 3) := by decide +kernel
theorem dX1_part_58 : decode cX1_part 58 = .ok (.aload_n 0, 1) := by decide +kernel
theorem dX1_part_59 : decode cX1_part 59 = .ok (.getfield 19, 3) := by decide +kernel
theorem dX1_part_62 : decode cX1_part 62 = .ok (.iload_n 2, 1) := by decide +kernel
theorem dX1_part_63 : decode cX1_part 63 = .ok (.aload_n 0, 1) := by decide +kernel
theorem dX1_part_64 : decode cX1_part 64 = .ok (.getfield 19, 3) := by decide +kernel
theorem dX1_part_67 : decode cX1_part 67 = .ok (.iload_n 2, 1) := by decide +kernel
theorem dX1_part_68 : decode cX1_part 68 = .ok (.iconst 1, 1) := by decide +kernel
theorem dX1_part_69 : decode cX1_part 69 = .ok (.iadd, 1) := by decide +kernel
theorem dX1_part_70 : decode cX1_part 70 = .ok (.invokestatic 45, 3) := by decide +kernel
theorem dX1_part_73 : decode cX1_part 73 = .ok (.invokestatic 49, 3) := by decide +kernel
theorem dX1_part_76 : decode cX1_part 76 = .ok (.iinc 2 1, 3) := by decide +kernel
theorem dX1_part_79 : decode cX1_part 79 = .ok (.goto (-47), 3) := by decide +kernel
theorem dX1_part_82 : decode cX1_part 82 = .ok (.return_, 1) := by decide +kernel
theorem dX1_turnNear_0 : decode cX1_turnNear 0 = .ok (.aload_n 0, 1) := by decide +kernel
theorem dX1_turnNear_1 : decode cX1_turnNear 1 = .ok (.getfield 22, 3) := by decide +kernel
theorem dX1_turnNear_4 : decode cX1_turnNear 4 = .ok (.iload_n 1, 1) := by decide +kernel
theorem dX1_turnNear_5 : decode cX1_turnNear 5 = .ok (.aload_n 0, 1) := by decide +kernel
theorem dX1_turnNear_6 : decode cX1_turnNear 6 = .ok (.getfield 22, 3) := by decide +kernel
theorem dX1_turnNear_9 : decode cX1_turnNear 9 = .ok (.iload_n 1, 1) := by decide +kernel
theorem dX1_turnNear_10 : decode cX1_turnNear 10 = .ok (.invokestatic 45, 3) := by decide +kernel
theorem dX1_turnNear_13 : decode cX1_turnNear 13 = .ok (.iload_n 2, 1) := by decide +kernel
theorem dX1_turnNear_14 : decode cX1_turnNear 14 = .ok (.invokestatic 41, 3) := by decide +kernel
theorem dX1_turnNear_17 : decode cX1_turnNear 17 = .ok (.ixor, 1) := by decide +kernel
theorem dX1_turnNear_18 : decode cX1_turnNear 18 = .ok (.invokestatic 49, 3) := by decide +kernel
theorem dX1_turnNear_21 : decode cX1_turnNear 21 = .ok (.aload_n 0, 1) := by decide +kernel
theorem dX1_turnNear_22 : decode cX1_turnNear 22 = .ok (.getfield 22, 3) := by decide +kernel
theorem dX1_turnNear_25 : decode cX1_turnNear 25 = .ok (.iload_n 2, 1) := by decide +kernel
theorem dX1_turnNear_26 : decode cX1_turnNear 26 = .ok (.aload_n 0, 1) := by decide +kernel
theorem dX1_turnNear_27 : decode cX1_turnNear 27 = .ok (.getfield 22, 3) := by decide +kernel
theorem dX1_turnNear_30 : decode cX1_turnNear 30 = .ok (.iload_n 2, 1) := by decide +kernel
theorem dX1_turnNear_31 : decode cX1_turnNear 31 = .ok (.invokestatic 45, 3) := by decide +kernel
theorem dX1_turnNear_34 : decode cX1_turnNear 34 = .ok (.iload_n 1, 1) := by decide +kernel
theorem dX1_turnNear_35 : decode cX1_turnNear 35 = .ok (.invokestatic 41, 3) := by decide +kernel
theorem dX1_turnNear_38 : decode cX1_turnNear 38 = .ok (.ixor, 1) := by decide +kernel
theorem dX1_turnNear_39 : decode cX1_turnNear 39 = .ok (.invokestatic 49, 3) := by decide +kernel
theorem dX1_turnNear_42 : decode cX1_turnNear 42 = .ok (.return_, 1) := by decide +kernel
theorem dX1_fits_0 : decode cX1_fits 0 = .ok (.aload_n 0, 1) := by decide +kernel
theorem dX1_fits_1 : decode cX1_fits 1 = .ok (.iload_n 1, 1) := by decide +kernel
theorem dX1_fits_2 : decode cX1_fits 2 = .ok (.invokevirtual 57, 3) := by decide +kernel
theorem dX1_fits_5 : decode cX1_fits 5 = .ok (.ifCond .eq 16, 3) := by decide +kernel
theorem dX1_fits_8 : decode cX1_fits 8 = .ok (.aload_n 0, 1) := by decide +kernel
theorem dX1_fits_9 : decode cX1_fits 9 = .ok (.iload_n 2, 1) := by decide +kernel
theorem dX1_fits_10 : decode cX1_fits 10 = .ok (.invokevirtual 57, 3) := by decide +kernel
theorem dX1_fits_13 : decode cX1_fits 13 = .ok (.ifCond .eq 8, 3) := by decide +kernel
theorem dX1_fits_16 : decode cX1_fits 16 = .ok (.iload_n 1, 1) := by decide +kernel
theorem dX1_fits_17 : decode cX1_fits 17 = .ok (.iload_n 2, 1) := by decide +kernel
theorem dX1_fits_18 : decode cX1_fits 18 = .ok (.if_icmp .ne 5, 3) := by decide +kernel
theorem dX1_fits_21 : decode cX1_fits 21 = .ok (.iconst 0, 1) := by decide +kernel
theorem dX1_fits_22 : decode cX1_fits 22 = .ok (.ireturn, 1) := by decide +kernel
theorem dX1_fits_23 : decode cX1_fits 23 = .ok (.aload_n 0, 1) := by decide +kernel
theorem dX1_fits_24 : decode cX1_fits 24 = .ok (.getfield 9, 3) := by decide +kernel
theorem dX1_fits_27 : decode cX1_fits 27 = .ok (.iconst 1, 1) := by decide +kernel
theorem dX1_fits_28 : decode cX1_fits 28 = .ok (.if_icmp .ne 14, 3) := by decide +kernel
theorem dX1_fits_31 : decode cX1_fits 31 = .ok (.iload_n 3, 1) := by decide +kernel
theorem dX1_fits_32 : decode cX1_fits 32 = .ok (.iconst (-1), 1) := by decide +kernel
theorem dX1_fits_33 : decode cX1_fits 33 = .ok (.if_icmp .ne 7, 3) := by decide +kernel
theorem dX1_fits_36 : decode cX1_fits 36 = .ok (.iconst 1, 1) := by decide +kernel
theorem dX1_fits_37 : decode cX1_fits 37 = .ok (.goto 4, 3) := by decide +kernel
theorem dX1_fits_40 : decode cX1_fits 40 = .ok (.iconst 0, 1) := by decide +kernel
theorem dX1_fits_41 : decode cX1_fits 41 = .ok (.ireturn, 1) := by decide +kernel
theorem dX1_fits_42 : decode cX1_fits 42 = .ok (.aload_n 0, 1) := by decide +kernel
theorem dX1_fits_43 : decode cX1_fits 43 = .ok (.iload_n 3, 1) := by decide +kernel
theorem dX1_fits_44 : decode cX1_fits 44 = .ok (.invokevirtual 57, 3) := by decide +kernel
theorem dX1_fits_47 : decode cX1_fits 47 = .ok (.ifCond .eq 17, 3) := by decide +kernel
theorem dX1_fits_50 : decode cX1_fits 50 = .ok (.iload_n 3, 1) := by decide +kernel
theorem dX1_fits_51 : decode cX1_fits 51 = .ok (.iload_n 2, 1) := by decide +kernel
theorem dX1_fits_52 : decode cX1_fits 52 = .ok (.if_icmp .le 12, 3) := by decide +kernel
theorem dX1_fits_55 : decode cX1_fits 55 = .ok (.iload_n 3, 1) := by decide +kernel
theorem dX1_fits_56 : decode cX1_fits 56 = .ok (.iload_n 1, 1) := by decide +kernel
theorem dX1_fits_57 : decode cX1_fits 57 = .ok (.if_icmp .eq 7, 3) := by decide +kernel
theorem dX1_fits_60 : decode cX1_fits 60 = .ok (.iconst 1, 1) := by decide +kernel
theorem dX1_fits_61 : decode cX1_fits 61 = .ok (.goto 4, 3) := by decide +kernel
theorem dX1_fits_64 : decode cX1_fits 64 = .ok (.iconst 0, 1) := by decide +kernel
theorem dX1_fits_65 : decode cX1_fits 65 = .ok (.ireturn, 1) := by decide +kernel
theorem dX1_holds_0 : decode cX1_holds 0 = .ok (.iload_n 1, 1) := by decide +kernel
theorem dX1_holds_1 : decode cX1_holds 1 = .ok (.ifCond .lt 10, 3) := by decide +kernel
theorem dX1_holds_4 : decode cX1_holds 4 = .ok (.iload_n 1, 1) := by decide +kernel
theorem dX1_holds_5 : decode cX1_holds 5 = .ok (.sipush 1296, 3) := by decide +kernel
theorem dX1_holds_8 : decode cX1_holds 8 = .ok (.if_icmp .lt 5, 3) := by decide +kernel
theorem dX1_holds_11 : decode cX1_holds 11 = .ok (.iconst 0, 1) := by decide +kernel
theorem dX1_holds_12 : decode cX1_holds 12 = .ok (.ireturn, 1) := by decide +kernel
theorem dX1_holds_13 : decode cX1_holds 13 = .ok (.aload_n 0, 1) := by decide +kernel
theorem dX1_holds_14 : decode cX1_holds 14 = .ok (.iload_n 1, 1) := by decide +kernel
theorem dX1_holds_15 : decode cX1_holds 15 = .ok (.invokestatic 61, 3) := by decide +kernel
theorem dX1_holds_18 : decode cX1_holds 18 = .ok (.iload_n 1, 1) := by decide +kernel
theorem dX1_holds_19 : decode cX1_holds 19 = .ok (.invokestatic 64, 3) := by decide +kernel
theorem dX1_holds_22 : decode cX1_holds 22 = .ok (.iload_n 1, 1) := by decide +kernel
theorem dX1_holds_23 : decode cX1_holds 23 = .ok (.invokestatic 67, 3) := by decide +kernel
theorem dX1_holds_26 : decode cX1_holds 26 = .ok (.invokevirtual 70, 3) := by decide +kernel
theorem dX1_holds_29 : decode cX1_holds 29 = .ok (.ireturn, 1) := by decide +kernel
theorem dX1_listPositions_0 : decode cX1_listPositions 0 = .ok (.iconst 0, 1) := by decide +kernel
theorem dX1_listPositions_1 : decode cX1_listPositions 1 = .ok (.istore_n 2, 1) := by decide +kernel
theorem dX1_listPositions_2 : decode cX1_listPositions 2 = .ok (.iconst 0, 1) := by decide +kernel
theorem dX1_listPositions_3 : decode cX1_listPositions 3 = .ok (.istore_n 3, 1) := by decide +kernel
theorem dX1_listPositions_4 : decode cX1_listPositions 4 = .ok (.iload_n 3, 1) := by decide +kernel
theorem dX1_listPositions_5 : decode cX1_listPositions 5 = .ok (.aload_n 0, 1) := by decide +kernel
theorem dX1_listPositions_6 : decode cX1_listPositions 6 = .ok (.getfield 25, 3) := by decide +kernel
theorem dX1_listPositions_9 : decode cX1_listPositions 9 = .ok (.if_icmp .ge 90, 3) := by decide +kernel
theorem dX1_listPositions_12 : decode cX1_listPositions 12 = .ok (.iconst 0, 1) := by decide +kernel
theorem dX1_listPositions_13 : decode cX1_listPositions 13 = .ok (.istore 4, 2) := by decide +kernel
theorem dX1_listPositions_15 : decode cX1_listPositions 15 = .ok (.iload 4, 2) := by decide +kernel
theorem dX1_listPositions_17 : decode cX1_listPositions 17 = .ok (.aload_n 0, 1) := by decide +kernel
theorem dX1_listPositions_18 : decode cX1_listPositions 18 = .ok (.getfield 25, 3) := by decide +kernel
theorem dX1_listPositions_21 : decode cX1_listPositions 21 = .ok (.if_icmp .ge 72, 3) := by decide +kernel
theorem dX1_listPositions_24 : decode cX1_listPositions 24 = .ok (.iconst (-1), 1) := by decide +kernel
theorem dX1_listPositions_25 : decode cX1_listPositions 25 = .ok (.istore 5, 2) := by decide +kernel
theorem dX1_listPositions_27 : decode cX1_listPositions 27 = .ok (.iload 5, 2) := by decide +kernel
theorem dX1_listPositions_29 : decode cX1_listPositions 29 = .ok (.aload_n 0, 1) := by decide +kernel
theorem dX1_listPositions_30 : decode cX1_listPositions 30 = .ok (.getfield 25, 3) := by decide +kernel
theorem dX1_listPositions_33 : decode cX1_listPositions 33 = .ok (.if_icmp .ge 54, 3) := by decide +kernel
theorem dX1_listPositions_36 : decode cX1_listPositions 36 = .ok (.aload_n 0, 1) := by decide +kernel
theorem dX1_listPositions_37 : decode cX1_listPositions 37 = .ok (.iload_n 3, 1) := by decide +kernel
theorem dX1_listPositions_38 : decode cX1_listPositions 38 = .ok (.iload 4, 2) := by decide +kernel
theorem dX1_listPositions_40 : decode cX1_listPositions 40 = .ok (.iload 5, 2) := by decide +kernel
theorem dX1_listPositions_42 : decode cX1_listPositions 42 = .ok (.invokevirtual 70, 3) := by decide +kernel
theorem dX1_listPositions_45 : decode cX1_listPositions 45 = .ok (.ifCond .eq 36, 3) := by decide +kernel
theorem dX1_listPositions_48 : decode cX1_listPositions 48 = .ok (.aload_n 1, 1) := by decide +kernel
theorem dX1_listPositions_49 : decode cX1_listPositions 49 = .ok (.iload_n 2, 1) := by decide +kernel
theorem dX1_listPositions_50 : decode cX1_listPositions 50 = .ok (.iload_n 3, 1) := by decide +kernel
theorem dX1_listPositions_51 : decode cX1_listPositions 51 = .ok (.iload 4, 2) := by decide +kernel
theorem dX1_listPositions_53 : decode cX1_listPositions 53 = .ok (.iload 5, 2) := by decide +kernel
theorem dX1_listPositions_55 : decode cX1_listPositions 55 = .ok (.iconst 0, 1) := by decide +kernel
theorem dX1_listPositions_56 : decode cX1_listPositions 56 = .ok (.invokestatic 74, 3) := by decide +kernel
theorem dX1_listPositions_59 : decode cX1_listPositions 59 = .ok (.invokestatic 49, 3) := by decide +kernel
theorem dX1_listPositions_62 : decode cX1_listPositions 62 = .ok (.aload_n 1, 1) := by decide +kernel
theorem dX1_listPositions_63 : decode cX1_listPositions 63 = .ok (.iload_n 2, 1) := by decide +kernel
theorem dX1_listPositions_64 : decode cX1_listPositions 64 = .ok (.iconst 1, 1) := by decide +kernel
theorem dX1_listPositions_65 : decode cX1_listPositions 65 = .ok (.iadd, 1) := by decide +kernel
theorem dX1_listPositions_66 : decode cX1_listPositions 66 = .ok (.iload_n 3, 1) := by decide +kernel
theorem dX1_listPositions_67 : decode cX1_listPositions 67 = .ok (.iload 4, 2) := by decide +kernel
theorem dX1_listPositions_69 : decode cX1_listPositions 69 = .ok (.iload 5, 2) := by decide +kernel
theorem dX1_listPositions_71 : decode cX1_listPositions 71 = .ok (.iconst 1, 1) := by decide +kernel
theorem dX1_listPositions_72 : decode cX1_listPositions 72 = .ok (.invokestatic 74, 3) := by decide +kernel
theorem dX1_listPositions_75 : decode cX1_listPositions 75 = .ok (.invokestatic 49, 3) := by decide +kernel
theorem dX1_listPositions_78 : decode cX1_listPositions 78 = .ok (.iinc 2 2, 3) := by decide +kernel
theorem dX1_listPositions_81 : decode cX1_listPositions 81 = .ok (.iinc 5 1, 3) := by decide +kernel
theorem dX1_listPositions_84 : decode cX1_listPositions 84 = .ok (.goto (-57), 3) := by decide +kernel
theorem dX1_listPositions_87 : decode cX1_listPositions 87 = .ok (.iinc 4 1, 3) := by decide +kernel
theorem dX1_listPositions_90 : decode cX1_listPositions 90 = .ok (.goto (-75), 3) := by decide +kernel
theorem dX1_listPositions_93 : decode cX1_listPositions 93 = .ok (.iinc 3 1, 3) := by decide +kernel
theorem dX1_listPositions_96 : decode cX1_listPositions 96 = .ok (.goto (-92), 3) := by decide +kernel
theorem dX1_listPositions_99 : decode cX1_listPositions 99 = .ok (.iload_n 2, 1) := by decide +kernel
theorem dX1_listPositions_100 : decode cX1_listPositions 100 = .ok (.ireturn, 1) := by decide +kernel
theorem dX1_movesOf_0 : decode cX1_movesOf 0 = .ok (.iload_n 1, 1) := by decide +kernel
theorem dX1_movesOf_1 : decode cX1_movesOf 1 = .ok (.invokestatic 64, 3) := by decide +kernel
theorem dX1_movesOf_4 : decode cX1_movesOf 4 = .ok (.istore_n 2, 1) := by decide +kernel
theorem dX1_movesOf_5 : decode cX1_movesOf 5 = .ok (.iload_n 1, 1) := by decide +kernel
theorem dX1_movesOf_6 : decode cX1_movesOf 6 = .ok (.invokestatic 67, 3) := by decide +kernel
theorem dX1_movesOf_9 : decode cX1_movesOf 9 = .ok (.istore_n 3, 1) := by decide +kernel
theorem dX1_movesOf_10 : decode cX1_movesOf 10 = .ok (.aload_n 0, 1) := by decide +kernel
theorem dX1_movesOf_11 : decode cX1_movesOf 11 = .ok (.iload_n 1, 1) := by decide +kernel
theorem dX1_movesOf_12 : decode cX1_movesOf 12 = .ok (.invokevirtual 78, 3) := by decide +kernel
theorem dX1_movesOf_15 : decode cX1_movesOf 15 = .ok (.aload_n 0, 1) := by decide +kernel
theorem dX1_movesOf_16 : decode cX1_movesOf 16 = .ok (.getfield 31, 3) := by decide +kernel
theorem dX1_movesOf_19 : decode cX1_movesOf 19 = .ok (.ior, 1) := by decide +kernel
theorem dX1_movesOf_20 : decode cX1_movesOf 20 = .ok (.iconst (-1), 1) := by decide +kernel
theorem dX1_movesOf_21 : decode cX1_movesOf 21 = .ok (.ixor, 1) := by decide +kernel
theorem dX1_movesOf_22 : decode cX1_movesOf 22 = .ok (.istore 4, 2) := by decide +kernel
theorem dX1_movesOf_24 : decode cX1_movesOf 24 = .ok (.iload_n 1, 1) := by decide +kernel
theorem dX1_movesOf_25 : decode cX1_movesOf 25 = .ok (.invokestatic 81, 3) := by decide +kernel
theorem dX1_movesOf_28 : decode cX1_movesOf 28 = .ok (.ifCond .ne 14, 3) := by decide +kernel
theorem dX1_movesOf_31 : decode cX1_movesOf 31 = .ok (.aload_n 0, 1) := by decide +kernel
theorem dX1_movesOf_32 : decode cX1_movesOf 32 = .ok (.iload_n 1, 1) := by decide +kernel
theorem dX1_movesOf_33 : decode cX1_movesOf 33 = .ok (.invokestatic 61, 3) := by decide +kernel
theorem dX1_movesOf_36 : decode cX1_movesOf 36 = .ok (.iload 4, 2) := by decide +kernel
theorem dX1_movesOf_38 : decode cX1_movesOf 38 = .ok (.invokevirtual 84, 3) := by decide +kernel
theorem dX1_movesOf_41 : decode cX1_movesOf 41 = .ok (.lreturn, 1) := by decide +kernel
theorem dX1_movesOf_42 : decode cX1_movesOf 42 = .ok (.aload_n 0, 1) := by decide +kernel
theorem dX1_movesOf_43 : decode cX1_movesOf 43 = .ok (.iload_n 2, 1) := by decide +kernel
theorem dX1_movesOf_44 : decode cX1_movesOf 44 = .ok (.iload 4, 2) := by decide +kernel
theorem dX1_movesOf_46 : decode cX1_movesOf 46 = .ok (.iload_n 2, 1) := by decide +kernel
theorem dX1_movesOf_47 : decode cX1_movesOf 47 = .ok (.invokestatic 88, 3) := by decide +kernel
theorem dX1_movesOf_50 : decode cX1_movesOf 50 = .ok (.iand, 1) := by decide +kernel
theorem dX1_movesOf_51 : decode cX1_movesOf 51 = .ok (.invokevirtual 84, 3) := by decide +kernel
theorem dX1_movesOf_54 : decode cX1_movesOf 54 = .ok (.aload_n 0, 1) := by decide +kernel
theorem dX1_movesOf_55 : decode cX1_movesOf 55 = .ok (.iload_n 3, 1) := by decide +kernel
theorem dX1_movesOf_56 : decode cX1_movesOf 56 = .ok (.iload 4, 2) := by decide +kernel
theorem dX1_movesOf_58 : decode cX1_movesOf 58 = .ok (.iload_n 3, 1) := by decide +kernel
theorem dX1_movesOf_59 : decode cX1_movesOf 59 = .ok (.invokestatic 88, 3) := by decide +kernel
theorem dX1_movesOf_62 : decode cX1_movesOf 62 = .ok (.iand, 1) := by decide +kernel
theorem dX1_movesOf_63 : decode cX1_movesOf 63 = .ok (.invokevirtual 84, 3) := by decide +kernel
theorem dX1_movesOf_66 : decode cX1_movesOf 66 = .ok (.lor, 1) := by decide +kernel
theorem dX1_movesOf_67 : decode cX1_movesOf 67 = .ok (.lreturn, 1) := by decide +kernel
theorem dX1_waysBack_0 : decode cX1_waysBack 0 = .ok (.iload_n 1, 1) := by decide +kernel
theorem dX1_waysBack_1 : decode cX1_waysBack 1 = .ok (.invokestatic 61, 3) := by decide +kernel
theorem dX1_waysBack_4 : decode cX1_waysBack 4 = .ok (.istore_n 2, 1) := by decide +kernel
theorem dX1_waysBack_5 : decode cX1_waysBack 5 = .ok (.iload_n 1, 1) := by decide +kernel
theorem dX1_waysBack_6 : decode cX1_waysBack 6 = .ok (.invokestatic 64, 3) := by decide +kernel
theorem dX1_waysBack_9 : decode cX1_waysBack 9 = .ok (.istore_n 3, 1) := by decide +kernel
theorem dX1_waysBack_10 : decode cX1_waysBack 10 = .ok (.iload_n 1, 1) := by decide +kernel
theorem dX1_waysBack_11 : decode cX1_waysBack 11 = .ok (.invokestatic 67, 3) := by decide +kernel
theorem dX1_waysBack_14 : decode cX1_waysBack 14 = .ok (.istore 4, 2) := by decide +kernel
theorem dX1_waysBack_16 : decode cX1_waysBack 16 = .ok (.aload_n 0, 1) := by decide +kernel
theorem dX1_waysBack_17 : decode cX1_waysBack 17 = .ok (.iload_n 1, 1) := by decide +kernel
theorem dX1_waysBack_18 : decode cX1_waysBack 18 = .ok (.invokevirtual 78, 3) := by decide +kernel
theorem dX1_waysBack_21 : decode cX1_waysBack 21 = .ok (.iconst (-1), 1) := by decide +kernel
theorem dX1_waysBack_22 : decode cX1_waysBack 22 = .ok (.ixor, 1) := by decide +kernel
theorem dX1_waysBack_23 : decode cX1_waysBack 23 = .ok (.istore 5, 2) := by decide +kernel
theorem dX1_waysBack_25 : decode cX1_waysBack 25 = .ok (.iload_n 1, 1) := by decide +kernel
theorem dX1_waysBack_26 : decode cX1_waysBack 26 = .ok (.invokestatic 81, 3) := by decide +kernel
theorem dX1_waysBack_29 : decode cX1_waysBack 29 = .ok (.iconst 1, 1) := by decide +kernel
theorem dX1_waysBack_30 : decode cX1_waysBack 30 = .ok (.if_icmp .ne 23, 3) := by decide +kernel
theorem dX1_waysBack_33 : decode cX1_waysBack 33 = .ok (.aload_n 0, 1) := by decide +kernel
theorem dX1_waysBack_34 : decode cX1_waysBack 34 = .ok (.iload_n 2, 1) := by decide +kernel
theorem dX1_waysBack_35 : decode cX1_waysBack 35 = .ok (.invokevirtual 91, 3) := by decide +kernel
theorem dX1_waysBack_38 : decode cX1_waysBack 38 = .ok (.ifCond .eq 7, 3) := by decide +kernel
theorem dX1_waysBack_41 : decode cX1_waysBack 41 = .ok (.lconst 0, 1) := by decide +kernel
theorem dX1_waysBack_42 : decode cX1_waysBack 42 = .ok (.goto 10, 3) := by decide +kernel
theorem dX1_waysBack_45 : decode cX1_waysBack 45 = .ok (.aload_n 0, 1) := by decide +kernel
theorem dX1_waysBack_46 : decode cX1_waysBack 46 = .ok (.iload_n 2, 1) := by decide +kernel
theorem dX1_waysBack_47 : decode cX1_waysBack 47 = .ok (.iload 5, 2) := by decide +kernel
theorem dX1_waysBack_49 : decode cX1_waysBack 49 = .ok (.invokevirtual 84, 3) := by decide +kernel
theorem dX1_waysBack_52 : decode cX1_waysBack 52 = .ok (.lreturn, 1) := by decide +kernel
theorem dX1_waysBack_53 : decode cX1_waysBack 53 = .ok (.aload_n 0, 1) := by decide +kernel
theorem dX1_waysBack_54 : decode cX1_waysBack 54 = .ok (.iload_n 3, 1) := by decide +kernel
theorem dX1_waysBack_55 : decode cX1_waysBack 55 = .ok (.invokevirtual 91, 3) := by decide +kernel
theorem dX1_waysBack_58 : decode cX1_waysBack 58 = .ok (.ifCond .eq 7, 3) := by decide +kernel
theorem dX1_waysBack_61 : decode cX1_waysBack 61 = .ok (.lconst 0, 1) := by decide +kernel
theorem dX1_waysBack_62 : decode cX1_waysBack 62 = .ok (.goto 15, 3) := by decide +kernel
theorem dX1_waysBack_65 : decode cX1_waysBack 65 = .ok (.aload_n 0, 1) := by decide +kernel
theorem dX1_waysBack_66 : decode cX1_waysBack 66 = .ok (.iload_n 3, 1) := by decide +kernel
theorem dX1_waysBack_67 : decode cX1_waysBack 67 = .ok (.iload 5, 2) := by decide +kernel
theorem dX1_waysBack_69 : decode cX1_waysBack 69 = .ok (.iload_n 3, 1) := by decide +kernel
theorem dX1_waysBack_70 : decode cX1_waysBack 70 = .ok (.invokestatic 94, 3) := by decide +kernel
theorem dX1_waysBack_73 : decode cX1_waysBack 73 = .ok (.iand, 1) := by decide +kernel
theorem dX1_waysBack_74 : decode cX1_waysBack 74 = .ok (.invokevirtual 84, 3) := by decide +kernel
theorem dX1_waysBack_77 : decode cX1_waysBack 77 = .ok (.lstore 6, 2) := by decide +kernel
theorem dX1_waysBack_79 : decode cX1_waysBack 79 = .ok (.iload 4, 2) := by decide +kernel
theorem dX1_waysBack_81 : decode cX1_waysBack 81 = .ok (.iconst (-1), 1) := by decide +kernel
theorem dX1_waysBack_82 : decode cX1_waysBack 82 = .ok (.if_icmp .eq 12, 3) := by decide +kernel
theorem dX1_waysBack_85 : decode cX1_waysBack 85 = .ok (.aload_n 0, 1) := by decide +kernel
theorem dX1_waysBack_86 : decode cX1_waysBack 86 = .ok (.iload 4, 2) := by decide +kernel
theorem dX1_waysBack_88 : decode cX1_waysBack 88 = .ok (.invokevirtual 91, 3) := by decide +kernel
theorem dX1_waysBack_91 : decode cX1_waysBack 91 = .ok (.ifCond .eq 6, 3) := by decide +kernel
theorem dX1_waysBack_94 : decode cX1_waysBack 94 = .ok (.lload 6, 2) := by decide +kernel
theorem dX1_waysBack_96 : decode cX1_waysBack 96 = .ok (.lreturn, 1) := by decide +kernel
theorem dX1_waysBack_97 : decode cX1_waysBack 97 = .ok (.lload 6, 2) := by decide +kernel
theorem dX1_waysBack_99 : decode cX1_waysBack 99 = .ok (.aload_n 0, 1) := by decide +kernel
theorem dX1_waysBack_100 : decode cX1_waysBack 100 = .ok (.iload 4, 2) := by decide +kernel
theorem dX1_waysBack_102 : decode cX1_waysBack 102 = .ok (.iload 5, 2) := by decide +kernel
theorem dX1_waysBack_104 : decode cX1_waysBack 104 = .ok (.iload 4, 2) := by decide +kernel
theorem dX1_waysBack_106 : decode cX1_waysBack 106 = .ok (.invokestatic 94, 3) := by decide +kernel
theorem dX1_waysBack_109 : decode cX1_waysBack 109 = .ok (.iand, 1) := by decide +kernel
theorem dX1_waysBack_110 : decode cX1_waysBack 110 = .ok (.invokevirtual 84, 3) := by decide +kernel
theorem dX1_waysBack_113 : decode cX1_waysBack 113 = .ok (.lor, 1) := by decide +kernel
theorem dX1_waysBack_114 : decode cX1_waysBack 114 = .ok (.lreturn, 1) := by decide +kernel
theorem dX1_allows_0 : decode cX1_allows 0 = .ok (.aload_n 0, 1) := by decide +kernel
theorem dX1_allows_1 : decode cX1_allows 1 = .ok (.iload_n 2, 1) := by decide +kernel
theorem dX1_allows_2 : decode cX1_allows 2 = .ok (.invokevirtual 57, 3) := by decide +kernel
theorem dX1_allows_5 : decode cX1_allows 5 = .ok (.ifCond .eq 11, 3) := by decide +kernel
theorem dX1_allows_8 : decode cX1_allows 8 = .ok (.aload_n 0, 1) := by decide +kernel
theorem dX1_allows_9 : decode cX1_allows 9 = .ok (.iload_n 3, 1) := by decide +kernel
theorem dX1_allows_10 : decode cX1_allows 10 = .ok (.invokevirtual 57, 3) := by decide +kernel
theorem dX1_allows_13 : decode cX1_allows 13 = .ok (.ifCond .ne 5, 3) := by decide +kernel
theorem dX1_allows_16 : decode cX1_allows 16 = .ok (.iconst 0, 1) := by decide +kernel
theorem dX1_allows_17 : decode cX1_allows 17 = .ok (.ireturn, 1) := by decide +kernel
theorem dX1_allows_18 : decode cX1_allows 18 = .ok (.aload_n 0, 1) := by decide +kernel
theorem dX1_allows_19 : decode cX1_allows 19 = .ok (.iload_n 1, 1) := by decide +kernel
theorem dX1_allows_20 : decode cX1_allows 20 = .ok (.invokevirtual 97, 3) := by decide +kernel
theorem dX1_allows_23 : decode cX1_allows 23 = .ok (.iload_n 2, 1) := by decide +kernel
theorem dX1_allows_24 : decode cX1_allows 24 = .ok (.iload_n 3, 1) := by decide +kernel
theorem dX1_allows_25 : decode cX1_allows 25 = .ok (.invokestatic 101, 3) := by decide +kernel
theorem dX1_allows_28 : decode cX1_allows 28 = .ok (.lshr, 1) := by decide +kernel
theorem dX1_allows_29 : decode cX1_allows 29 = .ok (.lconst 1, 1) := by decide +kernel
theorem dX1_allows_30 : decode cX1_allows 30 = .ok (.land, 1) := by decide +kernel
theorem dX1_allows_31 : decode cX1_allows 31 = .ok (.lconst 0, 1) := by decide +kernel
theorem dX1_allows_32 : decode cX1_allows 32 = .ok (.lcmp, 1) := by decide +kernel
theorem dX1_allows_33 : decode cX1_allows 33 = .ok (.ifCond .eq 7, 3) := by decide +kernel
theorem dX1_allows_36 : decode cX1_allows 36 = .ok (.iconst 1, 1) := by decide +kernel
theorem dX1_allows_37 : decode cX1_allows 37 = .ok (.goto 4, 3) := by decide +kernel
theorem dX1_allows_40 : decode cX1_allows 40 = .ok (.iconst 0, 1) := by decide +kernel
theorem dX1_allows_41 : decode cX1_allows 41 = .ok (.ireturn, 1) := by decide +kernel
theorem dX1_taken_0 : decode cX1_taken 0 = .ok (.iload_n 1, 1) := by decide +kernel
theorem dX1_taken_1 : decode cX1_taken 1 = .ok (.invokestatic 61, 3) := by decide +kernel
theorem dX1_taken_4 : decode cX1_taken 4 = .ok (.invokestatic 41, 3) := by decide +kernel
theorem dX1_taken_7 : decode cX1_taken 7 = .ok (.iload_n 1, 1) := by decide +kernel
theorem dX1_taken_8 : decode cX1_taken 8 = .ok (.invokestatic 64, 3) := by decide +kernel
theorem dX1_taken_11 : decode cX1_taken 11 = .ok (.invokestatic 41, 3) := by decide +kernel
theorem dX1_taken_14 : decode cX1_taken 14 = .ok (.ior, 1) := by decide +kernel
theorem dX1_taken_15 : decode cX1_taken 15 = .ok (.iload_n 1, 1) := by decide +kernel
theorem dX1_taken_16 : decode cX1_taken 16 = .ok (.invokestatic 67, 3) := by decide +kernel
theorem dX1_taken_19 : decode cX1_taken 19 = .ok (.invokestatic 41, 3) := by decide +kernel
theorem dX1_taken_22 : decode cX1_taken 22 = .ok (.ior, 1) := by decide +kernel
theorem dX1_taken_23 : decode cX1_taken 23 = .ok (.ireturn, 1) := by decide +kernel
theorem dX1_moves_0 : decode cX1_moves 0 = .ok (.iload_n 1, 1) := by decide +kernel
theorem dX1_moves_1 : decode cX1_moves 1 = .ok (.ifCond .lt 12, 3) := by decide +kernel
theorem dX1_moves_4 : decode cX1_moves 4 = .ok (.iload_n 1, 1) := by decide +kernel
theorem dX1_moves_5 : decode cX1_moves 5 = .ok (.aload_n 0, 1) := by decide +kernel
theorem dX1_moves_6 : decode cX1_moves 6 = .ok (.getfield 22, 3) := by decide +kernel
theorem dX1_moves_9 : decode cX1_moves 9 = .ok (.arraylength, 1) := by decide +kernel
theorem dX1_moves_10 : decode cX1_moves 10 = .ok (.if_icmp .lt 5, 3) := by decide +kernel
theorem dX1_moves_13 : decode cX1_moves 13 = .ok (.lconst 0, 1) := by decide +kernel
theorem dX1_moves_14 : decode cX1_moves 14 = .ok (.lreturn, 1) := by decide +kernel
theorem dX1_moves_15 : decode cX1_moves 15 = .ok (.aload_n 0, 1) := by decide +kernel
theorem dX1_moves_16 : decode cX1_moves 16 = .ok (.getfield 22, 3) := by decide +kernel
theorem dX1_moves_19 : decode cX1_moves 19 = .ok (.iload_n 1, 1) := by decide +kernel
theorem dX1_moves_20 : decode cX1_moves 20 = .ok (.iaload, 1) := by decide +kernel
theorem dX1_moves_21 : decode cX1_moves 21 = .ok (.iload_n 2, 1) := by decide +kernel
theorem dX1_moves_22 : decode cX1_moves 22 = .ok (.iand, 1) := by decide +kernel
theorem dX1_moves_23 : decode cX1_moves 23 = .ok (.i2l, 1) := by decide +kernel
theorem dX1_moves_24 : decode cX1_moves 24 = .ok (.bipush 8, 2) := by decide +kernel
theorem dX1_moves_26 : decode cX1_moves 26 = .ok (.iload_n 1, 1) := by decide +kernel
theorem dX1_moves_27 : decode cX1_moves 27 = .ok (.imul, 1) := by decide +kernel
theorem dX1_moves_28 : decode cX1_moves 28 = .ok (.lshl, 1) := by decide +kernel
theorem dX1_moves_29 : decode cX1_moves 29 = .ok (.lreturn, 1) := by decide +kernel
theorem dX2_init_0 : decode cX2_init 0 = .ok (.aload_n 0, 1) := by decide +kernel
theorem dX2_init_1 : decode cX2_init 1 = .ok (.invokespecial 3, 3) := by decide +kernel
theorem dX2_init_4 : decode cX2_init 4 = .ok (.aload_n 0, 1) := by decide +kernel
theorem dX2_init_5 : decode cX2_init 5 = .ok (.bipush 41, 2) := by decide +kernel
theorem dX2_init_7 : decode cX2_init 7 = .ok (.newarray .int, 2) := by decide +kernel
theorem dX2_init_9 : decode cX2_init 9 = .ok (.putfield 9, 3) := by decide +kernel
theorem dX2_init_12 : decode cX2_init 12 = .ok (.aload_n 0, 1) := by decide +kernel
theorem dX2_init_13 : decode cX2_init 13 = .ok (.bipush 40, 2) := by decide +kernel
theorem dX2_init_15 : decode cX2_init 15 = .ok (.newarray .int, 2) := by decide +kernel
theorem dX2_init_17 : decode cX2_init 17 = .ok (.putfield 15, 3) := by decide +kernel
theorem dX2_init_20 : decode cX2_init 20 = .ok (.return_, 1) := by decide +kernel
theorem dX2_become_0 : decode cX2_become 0 = .ok (.aload_n 0, 1) := by decide +kernel
theorem dX2_become_1 : decode cX2_become 1 = .ok (.aload_n 1, 1) := by decide +kernel
theorem dX2_become_2 : decode cX2_become 2 = .ok (.getfield 18, 3) := by decide +kernel
theorem dX2_become_5 : decode cX2_become 5 = .ok (.putfield 18, 3) := by decide +kernel
theorem dX2_become_8 : decode cX2_become 8 = .ok (.aload_n 0, 1) := by decide +kernel
theorem dX2_become_9 : decode cX2_become 9 = .ok (.aload_n 1, 1) := by decide +kernel
theorem dX2_become_10 : decode cX2_become 10 = .ok (.getfield 22, 3) := by decide +kernel
theorem dX2_become_13 : decode cX2_become 13 = .ok (.putfield 22, 3) := by decide +kernel
theorem dX2_become_16 : decode cX2_become 16 = .ok (.aload_n 1, 1) := by decide +kernel
theorem dX2_become_17 : decode cX2_become 17 = .ok (.getfield 9, 3) := by decide +kernel
theorem dX2_become_20 : decode cX2_become 20 = .ok (.aload_n 0, 1) := by decide +kernel
theorem dX2_become_21 : decode cX2_become 21 = .ok (.getfield 9, 3) := by decide +kernel
theorem dX2_become_24 : decode cX2_become 24 = .ok (.invokestatic 26, 3) := by decide +kernel
theorem dX2_become_27 : decode cX2_become 27 = .ok (.aload_n 1, 1) := by decide +kernel
theorem dX2_become_28 : decode cX2_become 28 = .ok (.getfield 15, 3) := by decide +kernel
theorem dX2_become_31 : decode cX2_become 31 = .ok (.aload_n 0, 1) := by decide +kernel
theorem dX2_become_32 : decode cX2_become 32 = .ok (.getfield 15, 3) := by decide +kernel
theorem dX2_become_35 : decode cX2_become 35 = .ok (.invokestatic 26, 3) := by decide +kernel
theorem dX2_become_38 : decode cX2_become 38 = .ok (.return_, 1) := by decide +kernel
theorem dX2_start_0 : decode cX2_start 0 = .ok (.aload_n 0, 1) := by decide +kernel
theorem dX2_start_1 : decode cX2_start 1 = .ok (.iconst 1, 1) := by decide +kernel
theorem dX2_start_2 : decode cX2_start 2 = .ok (.putfield 18, 3) := by decide +kernel
theorem dX2_start_5 : decode cX2_start 5 = .ok (.aload_n 0, 1) := by decide +kernel
theorem dX2_start_6 : decode cX2_start 6 = .ok (.iconst 0, 1) := by decide +kernel
theorem dX2_start_7 : decode cX2_start 7 = .ok (.putfield 22, 3) := by decide +kernel
theorem dX2_start_10 : decode cX2_start 10 = .ok (.aload_n 0, 1) := by decide +kernel
theorem dX2_start_11 : decode cX2_start 11 = .ok (.getfield 9, 3) := by decide +kernel
theorem dX2_start_14 : decode cX2_start 14 = .ok (.iconst 0, 1) := by decide +kernel
theorem dX2_start_15 : decode cX2_start 15 = .ok (.iload_n 1, 1) := by decide +kernel
theorem dX2_start_16 : decode cX2_start 16 = .ok (.invokestatic 30, 3) := by decide +kernel
theorem dX2_start_19 : decode cX2_start 19 = .ok (.return_, 1) := by decide +kernel
theorem dX2_add_0 : decode cX2_add 0 = .ok (.aload_n 0, 1) := by decide +kernel
theorem dX2_add_1 : decode cX2_add 1 = .ok (.getfield 15, 3) := by decide +kernel
theorem dX2_add_4 : decode cX2_add 4 = .ok (.aload_n 0, 1) := by decide +kernel
theorem dX2_add_5 : decode cX2_add 5 = .ok (.getfield 22, 3) := by decide +kernel
theorem dX2_add_8 : decode cX2_add 8 = .ok (.iload_n 1, 1) := by decide +kernel
theorem dX2_add_9 : decode cX2_add 9 = .ok (.invokestatic 30, 3) := by decide +kernel
theorem dX2_add_12 : decode cX2_add 12 = .ok (.aload_n 0, 1) := by decide +kernel
theorem dX2_add_13 : decode cX2_add 13 = .ok (.dup, 1) := by decide +kernel
theorem dX2_add_14 : decode cX2_add 14 = .ok (.getfield 22, 3) := by decide +kernel
theorem dX2_add_17 : decode cX2_add 17 = .ok (.iconst 1, 1) := by decide +kernel
theorem dX2_add_18 : decode cX2_add 18 = .ok (.iadd, 1) := by decide +kernel
theorem dX2_add_19 : decode cX2_add 19 = .ok (.putfield 22, 3) := by decide +kernel
theorem dX2_add_22 : decode cX2_add 22 = .ok (.aload_n 0, 1) := by decide +kernel
theorem dX2_add_23 : decode cX2_add 23 = .ok (.getfield 9, 3) := by decide +kernel
theorem dX2_add_26 : decode cX2_add 26 = .ok (.aload_n 0, 1) := by decide +kernel
theorem dX2_add_27 : decode cX2_add 27 = .ok (.getfield 22, 3) := by decide +kernel
theorem dX2_add_30 : decode cX2_add 30 = .ok (.iload_n 2, 1) := by decide +kernel
theorem dX2_add_31 : decode cX2_add 31 = .ok (.invokestatic 30, 3) := by decide +kernel
theorem dX2_add_34 : decode cX2_add 34 = .ok (.return_, 1) := by decide +kernel
theorem dX2_lastPosition_0 : decode cX2_lastPosition 0 = .ok (.aload_n 0, 1) := by decide +kernel
theorem dX2_lastPosition_1 : decode cX2_lastPosition 1 = .ok (.getfield 9, 3) := by decide +kernel
theorem dX2_lastPosition_4 : decode cX2_lastPosition 4 = .ok (.aload_n 0, 1) := by decide +kernel
theorem dX2_lastPosition_5 : decode cX2_lastPosition 5 = .ok (.getfield 22, 3) := by decide +kernel
theorem dX2_lastPosition_8 : decode cX2_lastPosition 8 = .ok (.invokestatic 34, 3) := by decide +kernel
theorem dX2_lastPosition_11 : decode cX2_lastPosition 11 = .ok (.ireturn, 1) := by decide +kernel
theorem dX3_init_0 : decode cX3_init 0 = .ok (.aload_n 0, 1) := by decide +kernel
theorem dX3_init_1 : decode cX3_init 1 = .ok (.invokespecial 3, 3) := by decide +kernel
theorem dX3_init_4 : decode cX3_init 4 = .ok (.aload_n 0, 1) := by decide +kernel
theorem dX3_init_5 : decode cX3_init 5 = .ok (.bipush 30, 2) := by decide +kernel
theorem dX3_init_7 : decode cX3_init 7 = .ok (.newarray .int, 2) := by decide +kernel
theorem dX3_init_9 : decode cX3_init 9 = .ok (.putfield 9, 3) := by decide +kernel
theorem dX3_init_12 : decode cX3_init 12 = .ok (.aload_n 0, 1) := by decide +kernel
theorem dX3_init_13 : decode cX3_init 13 = .ok (.bipush 30, 2) := by decide +kernel
theorem dX3_init_15 : decode cX3_init 15 = .ok (.newarray .int, 2) := by decide +kernel
theorem dX3_init_17 : decode cX3_init 17 = .ok (.putfield 15, 3) := by decide +kernel
theorem dX3_init_20 : decode cX3_init 20 = .ok (.aload_n 0, 1) := by decide +kernel
theorem dX3_init_21 : decode cX3_init 21 = .ok (.bipush 30, 2) := by decide +kernel
theorem dX3_init_23 : decode cX3_init 23 = .ok (.newarray .int, 2) := by decide +kernel
theorem dX3_init_25 : decode cX3_init 25 = .ok (.putfield 18, 3) := by decide +kernel
theorem dX3_init_28 : decode cX3_init 28 = .ok (.return_, 1) := by decide +kernel
theorem dX3_read_0 : decode cX3_read 0 = .ok (.aload_n 0, 1) := by decide +kernel
theorem dX3_read_1 : decode cX3_read 1 = .ok (.iconst 0, 1) := by decide +kernel
theorem dX3_read_2 : decode cX3_read 2 = .ok (.putfield 21, 3) := by decide +kernel
theorem dX3_read_5 : decode cX3_read 5 = .ok (.aload_n 0, 1) := by decide +kernel
theorem dX3_read_6 : decode cX3_read 6 = .ok (.iconst 0, 1) := by decide +kernel
theorem dX3_read_7 : decode cX3_read 7 = .ok (.putfield 25, 3) := by decide +kernel
theorem dX3_read_10 : decode cX3_read 10 = .ok (.iconst 0, 1) := by decide +kernel
theorem dX3_read_11 : decode cX3_read 11 = .ok (.istore_n 2, 1) := by decide +kernel
theorem dX3_read_12 : decode cX3_read 12 = .ok (.iload_n 2, 1) := by decide +kernel
theorem dX3_read_13 : decode cX3_read 13 = .ok (.bipush 30, 2) := by decide +kernel
theorem dX3_read_15 : decode cX3_read 15 = .ok (.if_icmp .gt 63, 3) := by decide +kernel
theorem dX3_read_18 : decode cX3_read 18 = .ok (.aload_n 0, 1) := by decide +kernel
theorem dX3_read_19 : decode cX3_read 19 = .ok (.aload_n 1, 1) := by decide +kernel
theorem dX3_read_20 : decode cX3_read 20 = .ok (.invokevirtual 28, 3) := by decide +kernel
theorem dX3_read_23 : decode cX3_read 23 = .ok (.ifCond .ne 8, 3) := by decide +kernel
theorem dX3_read_26 : decode cX3_read 26 = .ok (.aload_n 0, 1) := by decide +kernel
theorem dX3_read_27 : decode cX3_read 27 = .ok (.getfield 21, 3) := by decide +kernel
theorem dX3_read_30 : decode cX3_read 30 = .ok (.ireturn, 1) := by decide +kernel
theorem dX3_read_31 : decode cX3_read 31 = .ok (.aload_n 0, 1) := by decide +kernel
theorem dX3_read_32 : decode cX3_read 32 = .ok (.getfield 21, 3) := by decide +kernel
theorem dX3_read_35 : decode cX3_read 35 = .ok (.aload_n 1, 1) := by decide +kernel
theorem dX3_read_36 : decode cX3_read 36 = .ok (.getfield 32, 3) := by decide +kernel
theorem dX3_read_39 : decode cX3_read 39 = .ok (.if_icmp .lt 5, 3) := by decide +kernel
theorem dX3_read_42 : decode cX3_read 42 = .ok (.iconst (-1), 1) := by decide +kernel
theorem dX3_read_43 : decode cX3_read 43 = .ok (.ireturn, 1) := by decide +kernel
theorem dX3_read_44 : decode cX3_read 44 = .ok (.aload_n 1, 1) := by decide +kernel
theorem dX3_read_45 : decode cX3_read 45 = .ok (.aload_n 0, 1) := by decide +kernel
theorem dX3_read_46 : decode cX3_read 46 = .ok (.getfield 21, 3) := by decide +kernel
theorem dX3_read_49 : decode cX3_read 49 = .ok (.invokevirtual 37, 3) := by decide +kernel
theorem dX3_read_52 : decode cX3_read 52 = .ok (.bipush 59, 2) := by decide +kernel
theorem dX3_read_54 : decode cX3_read 54 = .ok (.if_icmp .eq 8, 3) := by decide +kernel
theorem dX3_read_57 : decode cX3_read 57 = .ok (.aload_n 0, 1) := by decide +kernel
theorem dX3_read_58 : decode cX3_read 58 = .ok (.getfield 21, 3) := by decide +kernel
theorem dX3_read_61 : decode cX3_read 61 = .ok (.ireturn, 1) := by decide +kernel
theorem dX3_read_62 : decode cX3_read 62 = .ok (.aload_n 0, 1) := by decide +kernel
theorem dX3_read_63 : decode cX3_read 63 = .ok (.dup, 1) := by decide +kernel
theorem dX3_read_64 : decode cX3_read 64 = .ok (.getfield 21, 3) := by decide +kernel
theorem dX3_read_67 : decode cX3_read 67 = .ok (.iconst 1, 1) := by decide +kernel
theorem dX3_read_68 : decode cX3_read 68 = .ok (.iadd, 1) := by decide +kernel
theorem dX3_read_69 : decode cX3_read 69 = .ok (.putfield 21, 3) := by decide +kernel
theorem dX3_read_72 : decode cX3_read 72 = .ok (.iinc 2 1, 3) := by decide +kernel
theorem dX3_read_75 : decode cX3_read 75 = .ok (.goto (-63), 3) := by decide +kernel
theorem dX3_read_78 : decode cX3_read 78 = .ok (.aload_n 0, 1) := by decide +kernel
theorem dX3_read_79 : decode cX3_read 79 = .ok (.getfield 21, 3) := by decide +kernel
theorem dX3_read_82 : decode cX3_read 82 = .ok (.ireturn, 1) := by decide +kernel
theorem dX3_isCommand_0 : decode cX3_isCommand 0 = .ok (.aload_n 1, 1) := by decide +kernel
theorem dX3_isCommand_1 : decode cX3_isCommand 1 = .ok (.aload_n 0, 1) := by decide +kernel
theorem dX3_isCommand_2 : decode cX3_isCommand 2 = .ok (.getfield 21, 3) := by decide +kernel
theorem dX3_isCommand_5 : decode cX3_isCommand 5 = .ok (.invokevirtual 37, 3) := by decide +kernel
theorem dX3_isCommand_8 : decode cX3_isCommand 8 = .ok (.istore_n 2, 1) := by decide +kernel
theorem dX3_isCommand_9 : decode cX3_isCommand 9 = .ok (.iload_n 2, 1) := by decide +kernel
theorem dX3_isCommand_10 : decode cX3_isCommand 10 = .ok (.invokestatic 41, 3) := by decide +kernel
theorem dX3_isCommand_13 : decode cX3_isCommand 13 = .ok (.istore_n 3, 1) := by decide +kernel
theorem dX3_isCommand_14 : decode cX3_isCommand 14 = .ok (.iload_n 3, 1) := by decide +kernel
theorem dX3_isCommand_15 : decode cX3_isCommand 15 = .ok (.iconst (-1), 1) := by decide +kernel
theorem dX3_isCommand_16 : decode cX3_isCommand 16 = .ok (.if_icmp .ne 5, 3) := by decide +kernel
theorem dX3_isCommand_19 : decode cX3_isCommand 19 = .ok (.iconst 0, 1) := by decide +kernel
theorem dX3_isCommand_20 : decode cX3_isCommand 20 = .ok (.ireturn, 1) := by decide +kernel
theorem dX3_isCommand_21 : decode cX3_isCommand 21 = .ok (.aload_n 0, 1) := by decide +kernel
theorem dX3_isCommand_22 : decode cX3_isCommand 22 = .ok (.dup, 1) := by decide +kernel
theorem dX3_isCommand_23 : decode cX3_isCommand 23 = .ok (.getfield 21, 3) := by decide +kernel
theorem dX3_isCommand_26 : decode cX3_isCommand 26 = .ok (.iconst 1, 1) := by decide +kernel
theorem dX3_isCommand_27 : decode cX3_isCommand 27 = .ok (.iadd, 1) := by decide +kernel
theorem dX3_isCommand_28 : decode cX3_isCommand 28 = .ok (.putfield 21, 3) := by decide +kernel
theorem dX3_isCommand_31 : decode cX3_isCommand 31 = .ok (.iload_n 3, 1) := by decide +kernel
theorem dX3_isCommand_32 : decode cX3_isCommand 32 = .ok (.ifCond .ne 7, 3) := by decide +kernel
theorem dX3_isCommand_35 : decode cX3_isCommand 35 = .ok (.iconst 0, 1) := by decide +kernel
theorem dX3_isCommand_36 : decode cX3_isCommand 36 = .ok (.goto 9, 3) := by decide +kernel
theorem dX3_isCommand_39 : decode cX3_isCommand 39 = .ok (.aload_n 0, 1) := by decide +kernel
theorem dX3_isCommand_40 : decode cX3_isCommand 40 = .ok (.aload_n 1, 1) := by decide +kernel
theorem dX3_isCommand_41 : decode cX3_isCommand 41 = .ok (.iload_n 3, 1) := by decide +kernel
theorem dX3_isCommand_42 : decode cX3_isCommand 42 = .ok (.invokevirtual 45, 3) := by decide +kernel
theorem dX3_isCommand_45 : decode cX3_isCommand 45 = .ok (.istore 4, 2) := by decide +kernel
theorem dX3_isCommand_47 : decode cX3_isCommand 47 = .ok (.iload 4, 2) := by decide +kernel
theorem dX3_isCommand_49 : decode cX3_isCommand 49 = .ok (.iconst (-1), 1) := by decide +kernel
theorem dX3_isCommand_50 : decode cX3_isCommand 50 = .ok (.if_icmp .ne 5, 3) := by decide +kernel
theorem dX3_isCommand_53 : decode cX3_isCommand 53 = .ok (.iconst 0, 1) := by decide +kernel
theorem dX3_isCommand_54 : decode cX3_isCommand 54 = .ok (.ireturn, 1) := by decide +kernel
theorem dX3_isCommand_55 : decode cX3_isCommand 55 = .ok (.iconst 0, 1) := by decide +kernel
theorem dX3_isCommand_56 : decode cX3_isCommand 56 = .ok (.istore 5, 2) := by decide +kernel
theorem dX3_isCommand_58 : decode cX3_isCommand 58 = .ok (.iload_n 2, 1) := by decide +kernel
theorem dX3_isCommand_59 : decode cX3_isCommand 59 = .ok (.invokestatic 49, 3) := by decide +kernel
theorem dX3_isCommand_62 : decode cX3_isCommand 62 = .ok (.istore 6, 2) := by decide +kernel
theorem dX3_isCommand_64 : decode cX3_isCommand 64 = .ok (.iload 6, 2) := by decide +kernel
theorem dX3_isCommand_66 : decode cX3_isCommand 66 = .ok (.bipush 32, 2) := by decide +kernel
theorem dX3_isCommand_68 : decode cX3_isCommand 68 = .ok (.if_icmp .eq 36, 3) := by decide +kernel
theorem dX3_isCommand_71 : decode cX3_isCommand 71 = .ok (.aload_n 1, 1) := by decide +kernel
theorem dX3_isCommand_72 : decode cX3_isCommand 72 = .ok (.aload_n 0, 1) := by decide +kernel
theorem dX3_isCommand_73 : decode cX3_isCommand 73 = .ok (.getfield 21, 3) := by decide +kernel
theorem dX3_isCommand_76 : decode cX3_isCommand 76 = .ok (.invokevirtual 37, 3) := by decide +kernel
theorem dX3_isCommand_79 : decode cX3_isCommand 79 = .ok (.iload 6, 2) := by decide +kernel
theorem dX3_isCommand_81 : decode cX3_isCommand 81 = .ok (.if_icmp .eq 5, 3) := by decide +kernel
theorem dX3_isCommand_84 : decode cX3_isCommand 84 = .ok (.iconst 0, 1) := by decide +kernel
theorem dX3_isCommand_85 : decode cX3_isCommand 85 = .ok (.ireturn, 1) := by decide +kernel
theorem dX3_isCommand_86 : decode cX3_isCommand 86 = .ok (.aload_n 0, 1) := by decide +kernel
theorem dX3_isCommand_87 : decode cX3_isCommand 87 = .ok (.dup, 1) := by decide +kernel
theorem dX3_isCommand_88 : decode cX3_isCommand 88 = .ok (.getfield 21, 3) := by decide +kernel
theorem dX3_isCommand_91 : decode cX3_isCommand 91 = .ok (.iconst 1, 1) := by decide +kernel
theorem dX3_isCommand_92 : decode cX3_isCommand 92 = .ok (.iadd, 1) := by decide +kernel
theorem dX3_isCommand_93 : decode cX3_isCommand 93 = .ok (.putfield 21, 3) := by decide +kernel
theorem dX3_isCommand_96 : decode cX3_isCommand 96 = .ok (.aload_n 0, 1) := by decide +kernel
theorem dX3_isCommand_97 : decode cX3_isCommand 97 = .ok (.aload_n 1, 1) := by decide +kernel
theorem dX3_isCommand_98 : decode cX3_isCommand 98 = .ok (.iconst 1, 1) := by decide +kernel
theorem dX3_isCommand_99 : decode cX3_isCommand 99 = .ok (.invokevirtual 45, 3) := by decide +kernel
theorem dX3_isCommand_102 : decode cX3_isCommand 102 = .ok (.istore 5, 2) := by decide +kernel
theorem dX3_isCommand_104 : decode cX3_isCommand 104 = .ok (.iload 5, 2) := by decide +kernel
theorem dX3_isCommand_106 : decode cX3_isCommand 106 = .ok (.iconst (-1), 1) := by decide +kernel
theorem dX3_isCommand_107 : decode cX3_isCommand 107 = .ok (.if_icmp .ne 5, 3) := by decide +kernel
theorem dX3_isCommand_110 : decode cX3_isCommand 110 = .ok (.iconst 0, 1) := by decide +kernel
theorem dX3_isCommand_111 : decode cX3_isCommand 111 = .ok (.ireturn, 1) := by decide +kernel
theorem dX3_isCommand_112 : decode cX3_isCommand 112 = .ok (.aload_n 0, 1) := by decide +kernel
theorem dX3_isCommand_113 : decode cX3_isCommand 113 = .ok (.getfield 9, 3) := by decide +kernel
theorem dX3_isCommand_116 : decode cX3_isCommand 116 = .ok (.aload_n 0, 1) := by decide +kernel
theorem dX3_isCommand_117 : decode cX3_isCommand 117 = .ok (.getfield 25, 3) := by decide +kernel
theorem dX3_isCommand_120 : decode cX3_isCommand 120 = .ok (.iload_n 2, 1) := by decide +kernel
theorem dX3_isCommand_121 : decode cX3_isCommand 121 = .ok (.invokestatic 53, 3) := by decide +kernel
theorem dX3_isCommand_124 : decode cX3_isCommand 124 = .ok (.aload_n 0, 1) := by decide +kernel
theorem dX3_isCommand_125 : decode cX3_isCommand 125 = .ok (.getfield 15, 3) := by decide +kernel
theorem dX3_isCommand_128 : decode cX3_isCommand 128 = .ok (.aload_n 0, 1) := by decide +kernel
theorem dX3_isCommand_129 : decode cX3_isCommand 129 = .ok (.getfield 25, 3) := by decide +kernel
theorem dX3_isCommand_132 : decode cX3_isCommand 132 = .ok (.iload 4, 2) := by decide +kernel
theorem dX3_isCommand_134 : decode cX3_isCommand 134 = .ok (.invokestatic 53, 3) := by decide +kernel
theorem dX3_isCommand_137 : decode cX3_isCommand 137 = .ok (.aload_n 0, 1) := by decide +kernel
theorem dX3_isCommand_138 : decode cX3_isCommand 138 = .ok (.getfield 18, 3) := by decide +kernel
theorem dX3_isCommand_141 : decode cX3_isCommand 141 = .ok (.aload_n 0, 1) := by decide +kernel
theorem dX3_isCommand_142 : decode cX3_isCommand 142 = .ok (.getfield 25, 3) := by decide +kernel
theorem dX3_isCommand_145 : decode cX3_isCommand 145 = .ok (.iload 5, 2) := by decide +kernel
theorem dX3_isCommand_147 : decode cX3_isCommand 147 = .ok (.invokestatic 53, 3) := by decide +kernel
theorem dX3_isCommand_150 : decode cX3_isCommand 150 = .ok (.aload_n 0, 1) := by decide +kernel
theorem dX3_isCommand_151 : decode cX3_isCommand 151 = .ok (.dup, 1) := by decide +kernel
theorem dX3_isCommand_152 : decode cX3_isCommand 152 = .ok (.getfield 25, 3) := by decide +kernel
theorem dX3_isCommand_155 : decode cX3_isCommand 155 = .ok (.iconst 1, 1) := by decide +kernel
theorem dX3_isCommand_156 : decode cX3_isCommand 156 = .ok (.iadd, 1) := by decide +kernel
theorem dX3_isCommand_157 : decode cX3_isCommand 157 = .ok (.putfield 25, 3) := by decide +kernel
theorem dX3_isCommand_160 : decode cX3_isCommand 160 = .ok (.iconst 1, 1) := by decide +kernel
theorem dX3_isCommand_161 : decode cX3_isCommand 161 = .ok (.ireturn, 1) := by decide +kernel
theorem dX3_digitsOf_0 : decode cX3_digitsOf 0 = .ok (.iload_n 0, 1) := by decide +kernel
theorem dX3_digitsOf_1 : decode cX3_digitsOf 1 = .ok (.tableswitch 119 97 120 #[115, 117, 119, 111, 119, 113, 113, 119, 119, 119, 119, 119, 113, 119, 119, 113, 119, 119, 119, 113, 111, 119, 119, 113], 111) := by decide +kernel
theorem dX3_digitsOf_112 : decode cX3_digitsOf 112 = .ok (.iconst 0, 1) := by decide +kernel
theorem dX3_digitsOf_113 : decode cX3_digitsOf 113 = .ok (.ireturn, 1) := by decide +kernel
theorem dX3_digitsOf_114 : decode cX3_digitsOf 114 = .ok (.iconst 1, 1) := by decide +kernel
theorem dX3_digitsOf_115 : decode cX3_digitsOf 115 = .ok (.ireturn, 1) := by decide +kernel
theorem dX3_digitsOf_116 : decode cX3_digitsOf 116 = .ok (.iconst 2, 1) := by decide +kernel
theorem dX3_digitsOf_117 : decode cX3_digitsOf 117 = .ok (.ireturn, 1) := by decide +kernel
theorem dX3_digitsOf_118 : decode cX3_digitsOf 118 = .ok (.iconst 4, 1) := by decide +kernel
theorem dX3_digitsOf_119 : decode cX3_digitsOf 119 = .ok (.ireturn, 1) := by decide +kernel
theorem dX3_digitsOf_120 : decode cX3_digitsOf 120 = .ok (.iconst (-1), 1) := by decide +kernel
theorem dX3_digitsOf_121 : decode cX3_digitsOf 121 = .ok (.ireturn, 1) := by decide +kernel
theorem dX3_markOf_0 : decode cX3_markOf 0 = .ok (.iload_n 0, 1) := by decide +kernel
theorem dX3_markOf_1 : decode cX3_markOf 1 = .ok (.lookupswitch 41 #[(109, 38), (112, 35), (120, 35)], 35) := by decide +kernel
theorem dX3_markOf_36 : decode cX3_markOf 36 = .ok (.bipush 45, 2) := by decide +kernel
theorem dX3_markOf_38 : decode cX3_markOf 38 = .ok (.ireturn, 1) := by decide +kernel
theorem dX3_markOf_39 : decode cX3_markOf 39 = .ok (.bipush 62, 2) := by decide +kernel
theorem dX3_markOf_41 : decode cX3_markOf 41 = .ok (.ireturn, 1) := by decide +kernel
theorem dX3_markOf_42 : decode cX3_markOf 42 = .ok (.bipush 32, 2) := by decide +kernel
theorem dX3_markOf_44 : decode cX3_markOf 44 = .ok (.ireturn, 1) := by decide +kernel
theorem dX3_numberIn_0 : decode cX3_numberIn 0 = .ok (.iconst (-1), 1) := by decide +kernel
theorem dX3_numberIn_1 : decode cX3_numberIn 1 = .ok (.istore_n 3, 1) := by decide +kernel
theorem dX3_numberIn_2 : decode cX3_numberIn 2 = .ok (.iconst 0, 1) := by decide +kernel
theorem dX3_numberIn_3 : decode cX3_numberIn 3 = .ok (.istore 4, 2) := by decide +kernel
theorem dX3_numberIn_5 : decode cX3_numberIn 5 = .ok (.iload 4, 2) := by decide +kernel
theorem dX3_numberIn_7 : decode cX3_numberIn 7 = .ok (.iload_n 2, 1) := by decide +kernel
theorem dX3_numberIn_8 : decode cX3_numberIn 8 = .ok (.if_icmp .ge 61, 3) := by decide +kernel
theorem dX3_numberIn_11 : decode cX3_numberIn 11 = .ok (.aload_n 1, 1) := by decide +kernel
theorem dX3_numberIn_12 : decode cX3_numberIn 12 = .ok (.aload_n 0, 1) := by decide +kernel
theorem dX3_numberIn_13 : decode cX3_numberIn 13 = .ok (.getfield 21, 3) := by decide +kernel
theorem dX3_numberIn_16 : decode cX3_numberIn 16 = .ok (.invokevirtual 37, 3) := by decide +kernel
theorem dX3_numberIn_19 : decode cX3_numberIn 19 = .ok (.istore 5, 2) := by decide +kernel
theorem dX3_numberIn_21 : decode cX3_numberIn 21 = .ok (.iload 5, 2) := by decide +kernel
theorem dX3_numberIn_23 : decode cX3_numberIn 23 = .ok (.bipush 48, 2) := by decide +kernel
theorem dX3_numberIn_25 : decode cX3_numberIn 25 = .ok (.if_icmp .lt 44, 3) := by decide +kernel
theorem dX3_numberIn_28 : decode cX3_numberIn 28 = .ok (.iload 5, 2) := by decide +kernel
theorem dX3_numberIn_30 : decode cX3_numberIn 30 = .ok (.bipush 57, 2) := by decide +kernel
theorem dX3_numberIn_32 : decode cX3_numberIn 32 = .ok (.if_icmp .le 6, 3) := by decide +kernel
theorem dX3_numberIn_35 : decode cX3_numberIn 35 = .ok (.goto 34, 3) := by decide +kernel
theorem dX3_numberIn_38 : decode cX3_numberIn 38 = .ok (.bipush 10, 2) := by decide +kernel
theorem dX3_numberIn_40 : decode cX3_numberIn 40 = .ok (.iload_n 3, 1) := by decide +kernel
theorem dX3_numberIn_41 : decode cX3_numberIn 41 = .ok (.iconst 0, 1) := by decide +kernel
theorem dX3_numberIn_42 : decode cX3_numberIn 42 = .ok (.invokestatic 57, 3) := by decide +kernel
theorem dX3_numberIn_45 : decode cX3_numberIn 45 = .ok (.imul, 1) := by decide +kernel
theorem dX3_numberIn_46 : decode cX3_numberIn 46 = .ok (.iload 5, 2) := by decide +kernel
theorem dX3_numberIn_48 : decode cX3_numberIn 48 = .ok (.iadd, 1) := by decide +kernel
theorem dX3_numberIn_49 : decode cX3_numberIn 49 = .ok (.bipush 48, 2) := by decide +kernel
theorem dX3_numberIn_51 : decode cX3_numberIn 51 = .ok (.isub, 1) := by decide +kernel
theorem dX3_numberIn_52 : decode cX3_numberIn 52 = .ok (.istore_n 3, 1) := by decide +kernel
theorem dX3_numberIn_53 : decode cX3_numberIn 53 = .ok (.aload_n 0, 1) := by decide +kernel
theorem dX3_numberIn_54 : decode cX3_numberIn 54 = .ok (.dup, 1) := by decide +kernel
theorem dX3_numberIn_55 : decode cX3_numberIn 55 = .ok (.getfield 21, 3) := by decide +kernel
theorem dX3_numberIn_58 : decode cX3_numberIn 58 = .ok (.iconst 1, 1) := by decide +kernel
theorem dX3_numberIn_59 : decode cX3_numberIn 59 = .ok (.iadd, 1) := by decide +kernel
theorem dX3_numberIn_60 : decode cX3_numberIn 60 = .ok (.putfield 21, 3) := by decide +kernel
theorem dX3_numberIn_63 : decode cX3_numberIn 63 = .ok (.iinc 4 1, 3) := by decide +kernel
theorem dX3_numberIn_66 : decode cX3_numberIn 66 = .ok (.goto (-61), 3) := by decide +kernel
theorem dX3_numberIn_69 : decode cX3_numberIn 69 = .ok (.iload_n 3, 1) := by decide +kernel
theorem dX3_numberIn_70 : decode cX3_numberIn 70 = .ok (.ireturn, 1) := by decide +kernel
theorem dX4_init_0 : decode cX4_init 0 = .ok (.aload_n 0, 1) := by decide +kernel
theorem dX4_init_1 : decode cX4_init 1 = .ok (.invokespecial 1, 3) := by decide +kernel
theorem dX4_init_4 : decode cX4_init 4 = .ok (.return_, 1) := by decide +kernel
theorem dX5_init_0 : decode cX5_init 0 = .ok (.aload_n 0, 1) := by decide +kernel
theorem dX5_init_1 : decode cX5_init 1 = .ok (.invokespecial 3, 3) := by decide +kernel
theorem dX5_init_4 : decode cX5_init 4 = .ok (.aload_n 0, 1) := by decide +kernel
theorem dX5_init_5 : decode cX5_init 5 = .ok (.iconst (-1), 1) := by decide +kernel
theorem dX5_init_6 : decode cX5_init 6 = .ok (.putfield 9, 3) := by decide +kernel
theorem dX5_init_9 : decode cX5_init 9 = .ok (.aload_n 0, 1) := by decide +kernel
theorem dX5_init_10 : decode cX5_init 10 = .ok (.sipush 336, 3) := by decide +kernel
theorem dX5_init_13 : decode cX5_init 13 = .ok (.newarray .int, 2) := by decide +kernel
theorem dX5_init_15 : decode cX5_init 15 = .ok (.putfield 15, 3) := by decide +kernel
theorem dX5_init_18 : decode cX5_init 18 = .ok (.aload_n 0, 1) := by decide +kernel
theorem dX5_init_19 : decode cX5_init 19 = .ok (.sipush 1296, 3) := by decide +kernel
theorem dX5_init_22 : decode cX5_init 22 = .ok (.newarray .int, 2) := by decide +kernel
theorem dX5_init_24 : decode cX5_init 24 = .ok (.putfield 19, 3) := by decide +kernel
theorem dX5_init_27 : decode cX5_init 27 = .ok (.return_, 1) := by decide +kernel
theorem dX5_solve_0 : decode cX5_solve 0 = .ok (.aload_n 0, 1) := by decide +kernel
theorem dX5_solve_1 : decode cX5_solve 1 = .ok (.getfield 9, 3) := by decide +kernel
theorem dX5_solve_4 : decode cX5_solve 4 = .ok (.aload_n 1, 1) := by decide +kernel
theorem dX5_solve_5 : decode cX5_solve 5 = .ok (.getfield 22, 3) := by decide +kernel
theorem dX5_solve_8 : decode cX5_solve 8 = .ok (.if_icmp .ne 4, 3) := by decide +kernel
theorem dX5_solve_11 : decode cX5_solve 11 = .ok (.return_, 1) := by decide +kernel
theorem dX5_solve_12 : decode cX5_solve 12 = .ok (.aload_n 0, 1) := by decide +kernel
theorem dX5_solve_13 : decode cX5_solve 13 = .ok (.aload_n 1, 1) := by decide +kernel
theorem dX5_solve_14 : decode cX5_solve 14 = .ok (.getfield 22, 3) := by decide +kernel
theorem dX5_solve_17 : decode cX5_solve 17 = .ok (.putfield 9, 3) := by decide +kernel
theorem dX5_solve_20 : decode cX5_solve 20 = .ok (.aload_n 1, 1) := by decide +kernel
theorem dX5_solve_21 : decode cX5_solve 21 = .ok (.aload_n 0, 1) := by decide +kernel
theorem dX5_solve_22 : decode cX5_solve 22 = .ok (.getfield 15, 3) := by decide +kernel
theorem dX5_solve_25 : decode cX5_solve 25 = .ok (.invokevirtual 27, 3) := by decide +kernel
theorem dX5_solve_28 : decode cX5_solve 28 = .ok (.istore_n 2, 1) := by decide +kernel
theorem dX5_solve_29 : decode cX5_solve 29 = .ok (.iconst 0, 1) := by decide +kernel
theorem dX5_solve_30 : decode cX5_solve 30 = .ok (.istore_n 3, 1) := by decide +kernel
theorem dX5_solve_31 : decode cX5_solve 31 = .ok (.iload_n 3, 1) := by decide +kernel
theorem dX5_solve_32 : decode cX5_solve 32 = .ok (.iload_n 2, 1) := by decide +kernel
theorem dX5_solve_33 : decode cX5_solve 33 = .ok (.if_icmp .ge 25, 3) := by decide +kernel
theorem dX5_solve_36 : decode cX5_solve 36 = .ok (.aload_n 0, 1) := by decide +kernel
theorem dX5_solve_37 : decode cX5_solve 37 = .ok (.getfield 19, 3) := by decide +kernel
theorem dX5_solve_40 : decode cX5_solve 40 = .ok (.aload_n 0, 1) := by decide +kernel
theorem dX5_solve_41 : decode cX5_solve 41 = .ok (.getfield 15, 3) := by decide +kernel
theorem dX5_solve_44 : decode cX5_solve 44 = .ok (.iload_n 3, 1) := by decide +kernel
theorem dX5_solve_45 : decode cX5_solve 45 = .ok (.invokestatic 31, 3) := by decide +kernel
theorem dX5_solve_48 : decode cX5_solve 48 = .ok (.iconst 0, 1) := by decide +kernel
theorem dX5_solve_49 : decode cX5_solve 49 = .ok (.invokestatic 35, 3) := by decide +kernel
theorem dX5_solve_52 : decode cX5_solve 52 = .ok (.iinc 3 1, 3) := by decide +kernel
theorem dX5_solve_55 : decode cX5_solve 55 = .ok (.goto (-24), 3) := by decide +kernel
theorem dX5_solve_58 : decode cX5_solve 58 = .ok (.iload_n 2, 1) := by decide +kernel
theorem dX5_solve_59 : decode cX5_solve 59 = .ok (.istore_n 3, 1) := by decide +kernel
theorem dX5_solve_60 : decode cX5_solve 60 = .ok (.iconst 0, 1) := by decide +kernel
theorem dX5_solve_61 : decode cX5_solve 61 = .ok (.istore 4, 2) := by decide +kernel
theorem dX5_solve_63 : decode cX5_solve 63 = .ok (.iload 4, 2) := by decide +kernel
theorem dX5_solve_65 : decode cX5_solve 65 = .ok (.iload_n 2, 1) := by decide +kernel
theorem dX5_solve_66 : decode cX5_solve 66 = .ok (.if_icmp .gt 85, 3) := by decide +kernel
theorem dX5_solve_69 : decode cX5_solve 69 = .ok (.iload_n 3, 1) := by decide +kernel
theorem dX5_solve_70 : decode cX5_solve 70 = .ok (.ifCond .le 81, 3) := by decide +kernel
theorem dX5_solve_73 : decode cX5_solve 73 = .ok (.iconst 0, 1) := by decide +kernel
theorem dX5_solve_74 : decode cX5_solve 74 = .ok (.istore_n 3, 1) := by decide +kernel
theorem dX5_solve_75 : decode cX5_solve 75 = .ok (.iconst 0, 1) := by decide +kernel
theorem dX5_solve_76 : decode cX5_solve 76 = .ok (.istore 5, 2) := by decide +kernel
theorem dX5_solve_78 : decode cX5_solve 78 = .ok (.iload 5, 2) := by decide +kernel
theorem dX5_solve_80 : decode cX5_solve 80 = .ok (.iload_n 2, 1) := by decide +kernel
theorem dX5_solve_81 : decode cX5_solve 81 = .ok (.if_icmp .ge 64, 3) := by decide +kernel
theorem dX5_solve_84 : decode cX5_solve 84 = .ok (.aload_n 0, 1) := by decide +kernel
theorem dX5_solve_85 : decode cX5_solve 85 = .ok (.getfield 15, 3) := by decide +kernel
theorem dX5_solve_88 : decode cX5_solve 88 = .ok (.iload 5, 2) := by decide +kernel
theorem dX5_solve_90 : decode cX5_solve 90 = .ok (.invokestatic 31, 3) := by decide +kernel
theorem dX5_solve_93 : decode cX5_solve 93 = .ok (.istore 6, 2) := by decide +kernel
theorem dX5_solve_95 : decode cX5_solve 95 = .ok (.aload_n 0, 1) := by decide +kernel
theorem dX5_solve_96 : decode cX5_solve 96 = .ok (.getfield 19, 3) := by decide +kernel
theorem dX5_solve_99 : decode cX5_solve 99 = .ok (.iload 6, 2) := by decide +kernel
theorem dX5_solve_101 : decode cX5_solve 101 = .ok (.invokestatic 31, 3) := by decide +kernel
theorem dX5_solve_104 : decode cX5_solve 104 = .ok (.ifCond .ne 13, 3) := by decide +kernel
theorem dX5_solve_107 : decode cX5_solve 107 = .ok (.aload_n 0, 1) := by decide +kernel
theorem dX5_solve_108 : decode cX5_solve 108 = .ok (.aload_n 1, 1) := by decide +kernel
theorem dX5_solve_109 : decode cX5_solve 109 = .ok (.iload 6, 2) := by decide +kernel
theorem dX5_solve_111 : decode cX5_solve 111 = .ok (.invokevirtual 39, 3) := by decide +kernel
theorem dX5_solve_114 : decode cX5_solve 114 = .ok (.goto 4, 3) := by decide +kernel
theorem dX5_solve_117 : decode cX5_solve 117 = .ok (.iconst 0, 1) := by decide +kernel
theorem dX5_solve_118 : decode cX5_solve 118 = .ok (.istore 7, 2) := by decide +kernel
theorem dX5_solve_120 : decode cX5_solve 120 = .ok (.iload 7, 2) := by decide +kernel
theorem dX5_solve_122 : decode cX5_solve 122 = .ok (.ifCond .eq 17, 3) := by decide +kernel
theorem dX5_solve_125 : decode cX5_solve 125 = .ok (.aload_n 0, 1) := by decide +kernel
theorem dX5_solve_126 : decode cX5_solve 126 = .ok (.getfield 19, 3) := by decide +kernel
theorem dX5_solve_129 : decode cX5_solve 129 = .ok (.iload 6, 2) := by decide +kernel
theorem dX5_solve_131 : decode cX5_solve 131 = .ok (.iload 7, 2) := by decide +kernel
theorem dX5_solve_133 : decode cX5_solve 133 = .ok (.invokestatic 35, 3) := by decide +kernel
theorem dX5_solve_136 : decode cX5_solve 136 = .ok (.iinc 3 1, 3) := by decide +kernel
theorem dX5_solve_139 : decode cX5_solve 139 = .ok (.iinc 5 1, 3) := by decide +kernel
theorem dX5_solve_142 : decode cX5_solve 142 = .ok (.goto (-64), 3) := by decide +kernel
theorem dX5_solve_145 : decode cX5_solve 145 = .ok (.iinc 4 1, 3) := by decide +kernel
theorem dX5_solve_148 : decode cX5_solve 148 = .ok (.goto (-85), 3) := by decide +kernel
theorem dX5_solve_151 : decode cX5_solve 151 = .ok (.return_, 1) := by decide +kernel
theorem dX5_seen_0 : decode cX5_seen 0 = .ok (.aload_n 1, 1) := by decide +kernel
theorem dX5_seen_1 : decode cX5_seen 1 = .ok (.iload_n 2, 1) := by decide +kernel
theorem dX5_seen_2 : decode cX5_seen 2 = .ok (.invokevirtual 43, 3) := by decide +kernel
theorem dX5_seen_5 : decode cX5_seen 5 = .ok (.lstore_n 3, 1) := by decide +kernel
theorem dX5_seen_6 : decode cX5_seen 6 = .ok (.lload_n 3, 1) := by decide +kernel
theorem dX5_seen_7 : decode cX5_seen 7 = .ok (.invokestatic 47, 3) := by decide +kernel
theorem dX5_seen_10 : decode cX5_seen 10 = .ok (.istore 5, 2) := by decide +kernel
theorem dX5_seen_12 : decode cX5_seen 12 = .ok (.iconst 0, 1) := by decide +kernel
theorem dX5_seen_13 : decode cX5_seen 13 = .ok (.istore 6, 2) := by decide +kernel
theorem dX5_seen_15 : decode cX5_seen 15 = .ok (.iconst 0, 1) := by decide +kernel
theorem dX5_seen_16 : decode cX5_seen 16 = .ok (.istore 7, 2) := by decide +kernel
theorem dX5_seen_18 : decode cX5_seen 18 = .ok (.iload 7, 2) := by decide +kernel
theorem dX5_seen_20 : decode cX5_seen 20 = .ok (.iload 5, 2) := by decide +kernel
theorem dX5_seen_22 : decode cX5_seen 22 = .ok (.if_icmp .ge 60, 3) := by decide +kernel
theorem dX5_seen_25 : decode cX5_seen 25 = .ok (.lload_n 3, 1) := by decide +kernel
theorem dX5_seen_26 : decode cX5_seen 26 = .ok (.invokestatic 53, 3) := by decide +kernel
theorem dX5_seen_29 : decode cX5_seen 29 = .ok (.istore 8, 2) := by decide +kernel
theorem dX5_seen_31 : decode cX5_seen 31 = .ok (.lload_n 3, 1) := by decide +kernel
theorem dX5_seen_32 : decode cX5_seen 32 = .ok (.invokestatic 56, 3) := by decide +kernel
theorem dX5_seen_35 : decode cX5_seen 35 = .ok (.lstore_n 3, 1) := by decide +kernel
theorem dX5_seen_36 : decode cX5_seen 36 = .ok (.aload_n 0, 1) := by decide +kernel
theorem dX5_seen_37 : decode cX5_seen 37 = .ok (.getfield 19, 3) := by decide +kernel
theorem dX5_seen_40 : decode cX5_seen 40 = .ok (.iload_n 2, 1) := by decide +kernel
theorem dX5_seen_41 : decode cX5_seen 41 = .ok (.iload 8, 2) := by decide +kernel
theorem dX5_seen_43 : decode cX5_seen 43 = .ok (.invokestatic 60, 3) := by decide +kernel
theorem dX5_seen_46 : decode cX5_seen 46 = .ok (.iload 8, 2) := by decide +kernel
theorem dX5_seen_48 : decode cX5_seen 48 = .ok (.invokestatic 64, 3) := by decide +kernel
theorem dX5_seen_51 : decode cX5_seen 51 = .ok (.invokestatic 67, 3) := by decide +kernel
theorem dX5_seen_54 : decode cX5_seen 54 = .ok (.invokestatic 31, 3) := by decide +kernel
theorem dX5_seen_57 : decode cX5_seen 57 = .ok (.istore 9, 2) := by decide +kernel
theorem dX5_seen_59 : decode cX5_seen 59 = .ok (.iload 9, 2) := by decide +kernel
theorem dX5_seen_61 : decode cX5_seen 61 = .ok (.iconst 2, 1) := by decide +kernel
theorem dX5_seen_62 : decode cX5_seen 62 = .ok (.if_icmp .ne 5, 3) := by decide +kernel
theorem dX5_seen_65 : decode cX5_seen 65 = .ok (.iconst 1, 1) := by decide +kernel
theorem dX5_seen_66 : decode cX5_seen 66 = .ok (.ireturn, 1) := by decide +kernel
theorem dX5_seen_67 : decode cX5_seen 67 = .ok (.iload 9, 2) := by decide +kernel
theorem dX5_seen_69 : decode cX5_seen 69 = .ok (.iconst 1, 1) := by decide +kernel
theorem dX5_seen_70 : decode cX5_seen 70 = .ok (.if_icmp .ne 6, 3) := by decide +kernel
theorem dX5_seen_73 : decode cX5_seen 73 = .ok (.iinc 6 1, 3) := by decide +kernel
theorem dX5_seen_76 : decode cX5_seen 76 = .ok (.iinc 7 1, 3) := by decide +kernel
theorem dX5_seen_79 : decode cX5_seen 79 = .ok (.goto (-61), 3) := by decide +kernel
theorem dX5_seen_82 : decode cX5_seen 82 = .ok (.iload 6, 2) := by decide +kernel
theorem dX5_seen_84 : decode cX5_seen 84 = .ok (.iload 5, 2) := by decide +kernel
theorem dX5_seen_86 : decode cX5_seen 86 = .ok (.if_icmp .ne 7, 3) := by decide +kernel
theorem dX5_seen_89 : decode cX5_seen 89 = .ok (.iconst 2, 1) := by decide +kernel
theorem dX5_seen_90 : decode cX5_seen 90 = .ok (.goto 4, 3) := by decide +kernel
theorem dX5_seen_93 : decode cX5_seen 93 = .ok (.iconst 0, 1) := by decide +kernel
theorem dX5_seen_94 : decode cX5_seen 94 = .ok (.ireturn, 1) := by decide +kernel
theorem dX5_outcomeOf_0 : decode cX5_outcomeOf 0 = .ok (.aload_n 0, 1) := by decide +kernel
theorem dX5_outcomeOf_1 : decode cX5_outcomeOf 1 = .ok (.getfield 19, 3) := by decide +kernel
theorem dX5_outcomeOf_4 : decode cX5_outcomeOf 4 = .ok (.iload_n 1, 1) := by decide +kernel
theorem dX5_outcomeOf_5 : decode cX5_outcomeOf 5 = .ok (.invokestatic 31, 3) := by decide +kernel
theorem dX5_outcomeOf_8 : decode cX5_outcomeOf 8 = .ok (.ireturn, 1) := by decide +kernel
theorem dX6_init_0 : decode cX6_init 0 = .ok (.aload_n 0, 1) := by decide +kernel
theorem dX6_init_1 : decode cX6_init 1 = .ok (.invokespecial 1, 3) := by decide +kernel
theorem dX6_init_4 : decode cX6_init 4 = .ok (.aload_n 0, 1) := by decide +kernel
theorem dX6_init_5 : decode cX6_init 5 = .ok (.new 7, 3) := by decide +kernel
theorem dX6_init_8 : decode cX6_init 8 = .ok (.dup, 1) := by decide +kernel
theorem dX6_init_9 : decode cX6_init 9 = .ok (.invokespecial 9, 3) := by decide +kernel
theorem dX6_init_12 : decode cX6_init 12 = .ok (.putfield 10, 3) := by decide +kernel
theorem dX6_init_15 : decode cX6_init 15 = .ok (.aload_n 0, 1) := by decide +kernel
theorem dX6_init_16 : decode cX6_init 16 = .ok (.new 16, 3) := by decide +kernel
theorem dX6_init_19 : decode cX6_init 19 = .ok (.dup, 1) := by decide +kernel
theorem dX6_init_20 : decode cX6_init 20 = .ok (.invokespecial 18, 3) := by decide +kernel
theorem dX6_init_23 : decode cX6_init 23 = .ok (.putfield 19, 3) := by decide +kernel
theorem dX6_init_26 : decode cX6_init 26 = .ok (.return_, 1) := by decide +kernel
theorem dX6_become_0 : decode cX6_become 0 = .ok (.aload_n 0, 1) := by decide +kernel
theorem dX6_become_1 : decode cX6_become 1 = .ok (.getfield 10, 3) := by decide +kernel
theorem dX6_become_4 : decode cX6_become 4 = .ok (.aload_n 1, 1) := by decide +kernel
theorem dX6_become_5 : decode cX6_become 5 = .ok (.getfield 10, 3) := by decide +kernel
theorem dX6_become_8 : decode cX6_become 8 = .ok (.invokevirtual 23, 3) := by decide +kernel
theorem dX6_become_11 : decode cX6_become 11 = .ok (.aload_n 0, 1) := by decide +kernel
theorem dX6_become_12 : decode cX6_become 12 = .ok (.getfield 19, 3) := by decide +kernel
theorem dX6_become_15 : decode cX6_become 15 = .ok (.aload_n 1, 1) := by decide +kernel
theorem dX6_become_16 : decode cX6_become 16 = .ok (.getfield 19, 3) := by decide +kernel
theorem dX6_become_19 : decode cX6_become 19 = .ok (.invokevirtual 27, 3) := by decide +kernel
theorem dX6_become_22 : decode cX6_become 22 = .ok (.aload_n 0, 1) := by decide +kernel
theorem dX6_become_23 : decode cX6_become 23 = .ok (.aload_n 1, 1) := by decide +kernel
theorem dX6_become_24 : decode cX6_become 24 = .ok (.getfield 30, 3) := by decide +kernel
theorem dX6_become_27 : decode cX6_become 27 = .ok (.putfield 30, 3) := by decide +kernel
theorem dX6_become_30 : decode cX6_become 30 = .ok (.return_, 1) := by decide +kernel
theorem dX7_init_0 : decode cX7_init 0 = .ok (.aload_n 0, 1) := by decide +kernel
theorem dX7_init_1 : decode cX7_init 1 = .ok (.invokespecial 3, 3) := by decide +kernel
theorem dX7_init_4 : decode cX7_init 4 = .ok (.aload_n 0, 1) := by decide +kernel
theorem dX7_init_5 : decode cX7_init 5 = .ok (.iconst (-1), 1) := by decide +kernel
theorem dX7_init_6 : decode cX7_init 6 = .ok (.putfield 9, 3) := by decide +kernel
theorem dX7_init_9 : decode cX7_init 9 = .ok (.aload_n 0, 1) := by decide +kernel
theorem dX7_init_10 : decode cX7_init 10 = .ok (.sipush 336, 3) := by decide +kernel
theorem dX7_init_13 : decode cX7_init 13 = .ok (.newarray .int, 2) := by decide +kernel
theorem dX7_init_15 : decode cX7_init 15 = .ok (.putfield 15, 3) := by decide +kernel
theorem dX7_init_18 : decode cX7_init 18 = .ok (.aload_n 0, 1) := by decide +kernel
theorem dX7_init_19 : decode cX7_init 19 = .ok (.sipush 336, 3) := by decide +kernel
theorem dX7_init_22 : decode cX7_init 22 = .ok (.newarray .int, 2) := by decide +kernel
theorem dX7_init_24 : decode cX7_init 24 = .ok (.putfield 19, 3) := by decide +kernel
theorem dX7_init_27 : decode cX7_init 27 = .ok (.aload_n 0, 1) := by decide +kernel
theorem dX7_init_28 : decode cX7_init 28 = .ok (.sipush 1296, 3) := by decide +kernel
theorem dX7_init_31 : decode cX7_init 31 = .ok (.newarray .int, 2) := by decide +kernel
theorem dX7_init_33 : decode cX7_init 33 = .ok (.putfield 22, 3) := by decide +kernel
theorem dX7_init_36 : decode cX7_init 36 = .ok (.aload_n 0, 1) := by decide +kernel
theorem dX7_init_37 : decode cX7_init 37 = .ok (.sipush 1296, 3) := by decide +kernel
theorem dX7_init_40 : decode cX7_init 40 = .ok (.newarray .int, 2) := by decide +kernel
theorem dX7_init_42 : decode cX7_init 42 = .ok (.putfield 25, 3) := by decide +kernel
theorem dX7_init_45 : decode cX7_init 45 = .ok (.return_, 1) := by decide +kernel
theorem dX7_solve_0 : decode cX7_solve 0 = .ok (.aload_n 0, 1) := by decide +kernel
theorem dX7_solve_1 : decode cX7_solve 1 = .ok (.getfield 9, 3) := by decide +kernel
theorem dX7_solve_4 : decode cX7_solve 4 = .ok (.aload_n 1, 1) := by decide +kernel
theorem dX7_solve_5 : decode cX7_solve 5 = .ok (.getfield 28, 3) := by decide +kernel
theorem dX7_solve_8 : decode cX7_solve 8 = .ok (.if_icmp .ne 4, 3) := by decide +kernel
theorem dX7_solve_11 : decode cX7_solve 11 = .ok (.return_, 1) := by decide +kernel
theorem dX7_solve_12 : decode cX7_solve 12 = .ok (.aload_n 0, 1) := by decide +kernel
theorem dX7_solve_13 : decode cX7_solve 13 = .ok (.aload_n 1, 1) := by decide +kernel
theorem dX7_solve_14 : decode cX7_solve 14 = .ok (.getfield 28, 3) := by decide +kernel
theorem dX7_solve_17 : decode cX7_solve 17 = .ok (.putfield 9, 3) := by decide +kernel
theorem dX7_solve_20 : decode cX7_solve 20 = .ok (.aload_n 0, 1) := by decide +kernel
theorem dX7_solve_21 : decode cX7_solve 21 = .ok (.aload_n 1, 1) := by decide +kernel
theorem dX7_solve_22 : decode cX7_solve 22 = .ok (.aload_n 0, 1) := by decide +kernel
theorem dX7_solve_23 : decode cX7_solve 23 = .ok (.getfield 15, 3) := by decide +kernel
theorem dX7_solve_26 : decode cX7_solve 26 = .ok (.invokevirtual 33, 3) := by decide +kernel
theorem dX7_solve_29 : decode cX7_solve 29 = .ok (.putfield 37, 3) := by decide +kernel
theorem dX7_solve_32 : decode cX7_solve 32 = .ok (.iconst 0, 1) := by decide +kernel
theorem dX7_solve_33 : decode cX7_solve 33 = .ok (.istore_n 2, 1) := by decide +kernel
theorem dX7_solve_34 : decode cX7_solve 34 = .ok (.iconst 0, 1) := by decide +kernel
theorem dX7_solve_35 : decode cX7_solve 35 = .ok (.istore_n 3, 1) := by decide +kernel
theorem dX7_solve_36 : decode cX7_solve 36 = .ok (.iload_n 3, 1) := by decide +kernel
theorem dX7_solve_37 : decode cX7_solve 37 = .ok (.aload_n 0, 1) := by decide +kernel
theorem dX7_solve_38 : decode cX7_solve 38 = .ok (.getfield 37, 3) := by decide +kernel
theorem dX7_solve_41 : decode cX7_solve 41 = .ok (.if_icmp .ge 78, 3) := by decide +kernel
theorem dX7_solve_44 : decode cX7_solve 44 = .ok (.aload_n 0, 1) := by decide +kernel
theorem dX7_solve_45 : decode cX7_solve 45 = .ok (.getfield 15, 3) := by decide +kernel
theorem dX7_solve_48 : decode cX7_solve 48 = .ok (.iload_n 3, 1) := by decide +kernel
theorem dX7_solve_49 : decode cX7_solve 49 = .ok (.invokestatic 40, 3) := by decide +kernel
theorem dX7_solve_52 : decode cX7_solve 52 = .ok (.istore 4, 2) := by decide +kernel
theorem dX7_solve_54 : decode cX7_solve 54 = .ok (.aload_n 1, 1) := by decide +kernel
theorem dX7_solve_55 : decode cX7_solve 55 = .ok (.iload 4, 2) := by decide +kernel
theorem dX7_solve_57 : decode cX7_solve 57 = .ok (.invokevirtual 44, 3) := by decide +kernel
theorem dX7_solve_60 : decode cX7_solve 60 = .ok (.invokestatic 48, 3) := by decide +kernel
theorem dX7_solve_63 : decode cX7_solve 63 = .ok (.istore 5, 2) := by decide +kernel
theorem dX7_solve_65 : decode cX7_solve 65 = .ok (.aload_n 0, 1) := by decide +kernel
theorem dX7_solve_66 : decode cX7_solve 66 = .ok (.getfield 25, 3) := by decide +kernel
theorem dX7_solve_69 : decode cX7_solve 69 = .ok (.iload 4, 2) := by decide +kernel
theorem dX7_solve_71 : decode cX7_solve 71 = .ok (.iload 5, 2) := by decide +kernel
theorem dX7_solve_73 : decode cX7_solve 73 = .ok (.invokestatic 54, 3) := by decide +kernel
theorem dX7_solve_76 : decode cX7_solve 76 = .ok (.aload_n 0, 1) := by decide +kernel
theorem dX7_solve_77 : decode cX7_solve 77 = .ok (.getfield 22, 3) := by decide +kernel
theorem dX7_solve_80 : decode cX7_solve 80 = .ok (.iload 4, 2) := by decide +kernel
theorem dX7_solve_82 : decode cX7_solve 82 = .ok (.iload 5, 2) := by decide +kernel
theorem dX7_solve_84 : decode cX7_solve 84 = .ok (.ifCond .ne 7, 3) := by decide +kernel
theorem dX7_solve_87 : decode cX7_solve 87 = .ok (.iconst 0, 1) := by decide +kernel
theorem dX7_solve_88 : decode cX7_solve 88 = .ok (.goto 4, 3) := by decide +kernel
theorem dX7_solve_91 : decode cX7_solve 91 = .ok (.iconst (-1), 1) := by decide +kernel
theorem dX7_solve_92 : decode cX7_solve 92 = .ok (.invokestatic 54, 3) := by decide +kernel
theorem dX7_solve_95 : decode cX7_solve 95 = .ok (.iload 5, 2) := by decide +kernel
theorem dX7_solve_97 : decode cX7_solve 97 = .ok (.ifCond .ne 16, 3) := by decide +kernel
theorem dX7_solve_100 : decode cX7_solve 100 = .ok (.aload_n 0, 1) := by decide +kernel
theorem dX7_solve_101 : decode cX7_solve 101 = .ok (.getfield 19, 3) := by decide +kernel
theorem dX7_solve_104 : decode cX7_solve 104 = .ok (.iload_n 2, 1) := by decide +kernel
theorem dX7_solve_105 : decode cX7_solve 105 = .ok (.iload 4, 2) := by decide +kernel
theorem dX7_solve_107 : decode cX7_solve 107 = .ok (.invokestatic 54, 3) := by decide +kernel
theorem dX7_solve_110 : decode cX7_solve 110 = .ok (.iinc 2 1, 3) := by decide +kernel
theorem dX7_solve_113 : decode cX7_solve 113 = .ok (.iinc 3 1, 3) := by decide +kernel
theorem dX7_solve_116 : decode cX7_solve 116 = .ok (.goto (-80), 3) := by decide +kernel
theorem dX7_solve_119 : decode cX7_solve 119 = .ok (.iconst 0, 1) := by decide +kernel
theorem dX7_solve_120 : decode cX7_solve 120 = .ok (.istore_n 3, 1) := by decide +kernel
theorem dX7_solve_121 : decode cX7_solve 121 = .ok (.iload_n 3, 1) := by decide +kernel
theorem dX7_solve_122 : decode cX7_solve 122 = .ok (.iload_n 2, 1) := by decide +kernel
theorem dX7_solve_123 : decode cX7_solve 123 = .ok (.if_icmp .ge 40, 3) := by decide +kernel
theorem dX7_solve_126 : decode cX7_solve 126 = .ok (.iload_n 3, 1) := by decide +kernel
theorem dX7_solve_127 : decode cX7_solve 127 = .ok (.sipush 336, 3) := by decide +kernel
theorem dX7_solve_130 : decode cX7_solve 130 = .ok (.if_icmp .ge 33, 3) := by decide +kernel
theorem dX7_solve_133 : decode cX7_solve 133 = .ok (.aload_n 0, 1) := by decide +kernel
theorem dX7_solve_134 : decode cX7_solve 134 = .ok (.getfield 19, 3) := by decide +kernel
theorem dX7_solve_137 : decode cX7_solve 137 = .ok (.iload_n 3, 1) := by decide +kernel
theorem dX7_solve_138 : decode cX7_solve 138 = .ok (.invokestatic 40, 3) := by decide +kernel
theorem dX7_solve_141 : decode cX7_solve 141 = .ok (.istore 4, 2) := by decide +kernel
theorem dX7_solve_143 : decode cX7_solve 143 = .ok (.aload_n 0, 1) := by decide +kernel
theorem dX7_solve_144 : decode cX7_solve 144 = .ok (.iload 4, 2) := by decide +kernel
theorem dX7_solve_146 : decode cX7_solve 146 = .ok (.aload_n 1, 1) := by decide +kernel
theorem dX7_solve_147 : decode cX7_solve 147 = .ok (.iload 4, 2) := by decide +kernel
theorem dX7_solve_149 : decode cX7_solve 149 = .ok (.invokevirtual 58, 3) := by decide +kernel
theorem dX7_solve_152 : decode cX7_solve 152 = .ok (.iload_n 2, 1) := by decide +kernel
theorem dX7_solve_153 : decode cX7_solve 153 = .ok (.invokevirtual 61, 3) := by decide +kernel
theorem dX7_solve_156 : decode cX7_solve 156 = .ok (.istore_n 2, 1) := by decide +kernel
theorem dX7_solve_157 : decode cX7_solve 157 = .ok (.iinc 3 1, 3) := by decide +kernel
theorem dX7_solve_160 : decode cX7_solve 160 = .ok (.goto (-39), 3) := by decide +kernel
theorem dX7_solve_163 : decode cX7_solve 163 = .ok (.return_, 1) := by decide +kernel
theorem dX7_tellBefore_0 : decode cX7_tellBefore 0 = .ok (.aload_n 0, 1) := by decide +kernel
theorem dX7_tellBefore_1 : decode cX7_tellBefore 1 = .ok (.getfield 22, 3) := by decide +kernel
theorem dX7_tellBefore_4 : decode cX7_tellBefore 4 = .ok (.iload_n 1, 1) := by decide +kernel
theorem dX7_tellBefore_5 : decode cX7_tellBefore 5 = .ok (.invokestatic 40, 3) := by decide +kernel
theorem dX7_tellBefore_8 : decode cX7_tellBefore 8 = .ok (.istore 5, 2) := by decide +kernel
theorem dX7_tellBefore_10 : decode cX7_tellBefore 10 = .ok (.iload 4, 2) := by decide +kernel
theorem dX7_tellBefore_12 : decode cX7_tellBefore 12 = .ok (.istore 6, 2) := by decide +kernel
theorem dX7_tellBefore_14 : decode cX7_tellBefore 14 = .ok (.lload_n 2, 1) := by decide +kernel
theorem dX7_tellBefore_15 : decode cX7_tellBefore 15 = .ok (.lstore 7, 2) := by decide +kernel
theorem dX7_tellBefore_17 : decode cX7_tellBefore 17 = .ok (.lload_n 2, 1) := by decide +kernel
theorem dX7_tellBefore_18 : decode cX7_tellBefore 18 = .ok (.invokestatic 48, 3) := by decide +kernel
theorem dX7_tellBefore_21 : decode cX7_tellBefore 21 = .ok (.istore 9, 2) := by decide +kernel
theorem dX7_tellBefore_23 : decode cX7_tellBefore 23 = .ok (.iconst 0, 1) := by decide +kernel
theorem dX7_tellBefore_24 : decode cX7_tellBefore 24 = .ok (.istore 10, 2) := by decide +kernel
theorem dX7_tellBefore_26 : decode cX7_tellBefore 26 = .ok (.iload 10, 2) := by decide +kernel
theorem dX7_tellBefore_28 : decode cX7_tellBefore 28 = .ok (.iload 9, 2) := by decide +kernel
theorem dX7_tellBefore_30 : decode cX7_tellBefore 30 = .ok (.if_icmp .ge 90, 3) := by decide +kernel
theorem dX7_tellBefore_33 : decode cX7_tellBefore 33 = .ok (.lload 7, 2) := by decide +kernel
theorem dX7_tellBefore_35 : decode cX7_tellBefore 35 = .ok (.invokestatic 65, 3) := by decide +kernel
theorem dX7_tellBefore_38 : decode cX7_tellBefore 38 = .ok (.istore 11, 2) := by decide +kernel
theorem dX7_tellBefore_40 : decode cX7_tellBefore 40 = .ok (.lload 7, 2) := by decide +kernel
theorem dX7_tellBefore_42 : decode cX7_tellBefore 42 = .ok (.invokestatic 68, 3) := by decide +kernel
theorem dX7_tellBefore_45 : decode cX7_tellBefore 45 = .ok (.lstore 7, 2) := by decide +kernel
theorem dX7_tellBefore_47 : decode cX7_tellBefore 47 = .ok (.iload_n 1, 1) := by decide +kernel
theorem dX7_tellBefore_48 : decode cX7_tellBefore 48 = .ok (.iload 11, 2) := by decide +kernel
theorem dX7_tellBefore_50 : decode cX7_tellBefore 50 = .ok (.invokestatic 72, 3) := by decide +kernel
theorem dX7_tellBefore_53 : decode cX7_tellBefore 53 = .ok (.iload 11, 2) := by decide +kernel
theorem dX7_tellBefore_55 : decode cX7_tellBefore 55 = .ok (.invokestatic 76, 3) := by decide +kernel
theorem dX7_tellBefore_58 : decode cX7_tellBefore 58 = .ok (.invokestatic 79, 3) := by decide +kernel
theorem dX7_tellBefore_61 : decode cX7_tellBefore 61 = .ok (.istore 12, 2) := by decide +kernel
theorem dX7_tellBefore_63 : decode cX7_tellBefore 63 = .ok (.aload_n 0, 1) := by decide +kernel
theorem dX7_tellBefore_64 : decode cX7_tellBefore 64 = .ok (.getfield 22, 3) := by decide +kernel
theorem dX7_tellBefore_67 : decode cX7_tellBefore 67 = .ok (.iload 12, 2) := by decide +kernel
theorem dX7_tellBefore_69 : decode cX7_tellBefore 69 = .ok (.invokestatic 40, 3) := by decide +kernel
theorem dX7_tellBefore_72 : decode cX7_tellBefore 72 = .ok (.iconst (-1), 1) := by decide +kernel
theorem dX7_tellBefore_73 : decode cX7_tellBefore 73 = .ok (.if_icmp .ne 41, 3) := by decide +kernel
theorem dX7_tellBefore_76 : decode cX7_tellBefore 76 = .ok (.aload_n 0, 1) := by decide +kernel
theorem dX7_tellBefore_77 : decode cX7_tellBefore 77 = .ok (.iload 12, 2) := by decide +kernel
theorem dX7_tellBefore_79 : decode cX7_tellBefore 79 = .ok (.iload 5, 2) := by decide +kernel
theorem dX7_tellBefore_81 : decode cX7_tellBefore 81 = .ok (.invokevirtual 83, 3) := by decide +kernel
theorem dX7_tellBefore_84 : decode cX7_tellBefore 84 = .ok (.ifCond .eq 30, 3) := by decide +kernel
theorem dX7_tellBefore_87 : decode cX7_tellBefore 87 = .ok (.aload_n 0, 1) := by decide +kernel
theorem dX7_tellBefore_88 : decode cX7_tellBefore 88 = .ok (.getfield 22, 3) := by decide +kernel
theorem dX7_tellBefore_91 : decode cX7_tellBefore 91 = .ok (.iload 12, 2) := by decide +kernel
theorem dX7_tellBefore_93 : decode cX7_tellBefore 93 = .ok (.iload 5, 2) := by decide +kernel
theorem dX7_tellBefore_95 : decode cX7_tellBefore 95 = .ok (.iconst 1, 1) := by decide +kernel
theorem dX7_tellBefore_96 : decode cX7_tellBefore 96 = .ok (.iadd, 1) := by decide +kernel
theorem dX7_tellBefore_97 : decode cX7_tellBefore 97 = .ok (.invokestatic 54, 3) := by decide +kernel
theorem dX7_tellBefore_100 : decode cX7_tellBefore 100 = .ok (.aload_n 0, 1) := by decide +kernel
theorem dX7_tellBefore_101 : decode cX7_tellBefore 101 = .ok (.getfield 19, 3) := by decide +kernel
theorem dX7_tellBefore_104 : decode cX7_tellBefore 104 = .ok (.iload 6, 2) := by decide +kernel
theorem dX7_tellBefore_106 : decode cX7_tellBefore 106 = .ok (.iload 12, 2) := by decide +kernel
theorem dX7_tellBefore_108 : decode cX7_tellBefore 108 = .ok (.invokestatic 54, 3) := by decide +kernel
theorem dX7_tellBefore_111 : decode cX7_tellBefore 111 = .ok (.iinc 6 1, 3) := by decide +kernel
theorem dX7_tellBefore_114 : decode cX7_tellBefore 114 = .ok (.iinc 10 1, 3) := by decide +kernel
theorem dX7_tellBefore_117 : decode cX7_tellBefore 117 = .ok (.goto (-91), 3) := by decide +kernel
theorem dX7_tellBefore_120 : decode cX7_tellBefore 120 = .ok (.iload 6, 2) := by decide +kernel
theorem dX7_tellBefore_122 : decode cX7_tellBefore 122 = .ok (.ireturn, 1) := by decide +kernel
theorem dX7_isDecided_0 : decode cX7_isDecided 0 = .ok (.iload_n 2, 1) := by decide +kernel
theorem dX7_isDecided_1 : decode cX7_isDecided 1 = .ok (.iconst 2, 1) := by decide +kernel
theorem dX7_isDecided_2 : decode cX7_isDecided 2 = .ok (.irem, 1) := by decide +kernel
theorem dX7_isDecided_3 : decode cX7_isDecided 3 = .ok (.ifCond .ne 5, 3) := by decide +kernel
theorem dX7_isDecided_6 : decode cX7_isDecided 6 = .ok (.iconst 1, 1) := by decide +kernel
theorem dX7_isDecided_7 : decode cX7_isDecided 7 = .ok (.ireturn, 1) := by decide +kernel
theorem dX7_isDecided_8 : decode cX7_isDecided 8 = .ok (.aload_n 0, 1) := by decide +kernel
theorem dX7_isDecided_9 : decode cX7_isDecided 9 = .ok (.getfield 25, 3) := by decide +kernel
theorem dX7_isDecided_12 : decode cX7_isDecided 12 = .ok (.iload_n 1, 1) := by decide +kernel
theorem dX7_isDecided_13 : decode cX7_isDecided 13 = .ok (.invokestatic 40, 3) := by decide +kernel
theorem dX7_isDecided_16 : decode cX7_isDecided 16 = .ok (.iconst 1, 1) := by decide +kernel
theorem dX7_isDecided_17 : decode cX7_isDecided 17 = .ok (.isub, 1) := by decide +kernel
theorem dX7_isDecided_18 : decode cX7_isDecided 18 = .ok (.istore_n 3, 1) := by decide +kernel
theorem dX7_isDecided_19 : decode cX7_isDecided 19 = .ok (.aload_n 0, 1) := by decide +kernel
theorem dX7_isDecided_20 : decode cX7_isDecided 20 = .ok (.getfield 25, 3) := by decide +kernel
theorem dX7_isDecided_23 : decode cX7_isDecided 23 = .ok (.iload_n 1, 1) := by decide +kernel
theorem dX7_isDecided_24 : decode cX7_isDecided 24 = .ok (.iload_n 3, 1) := by decide +kernel
theorem dX7_isDecided_25 : decode cX7_isDecided 25 = .ok (.invokestatic 54, 3) := by decide +kernel
theorem dX7_isDecided_28 : decode cX7_isDecided 28 = .ok (.iload_n 3, 1) := by decide +kernel
theorem dX7_isDecided_29 : decode cX7_isDecided 29 = .ok (.ifCond .ne 7, 3) := by decide +kernel
theorem dX7_isDecided_32 : decode cX7_isDecided 32 = .ok (.iconst 1, 1) := by decide +kernel
theorem dX7_isDecided_33 : decode cX7_isDecided 33 = .ok (.goto 4, 3) := by decide +kernel
theorem dX7_isDecided_36 : decode cX7_isDecided 36 = .ok (.iconst 0, 1) := by decide +kernel
theorem dX7_isDecided_37 : decode cX7_isDecided 37 = .ok (.ireturn, 1) := by decide +kernel
theorem dX7_positionAt_0 : decode cX7_positionAt 0 = .ok (.aload_n 0, 1) := by decide +kernel
theorem dX7_positionAt_1 : decode cX7_positionAt 1 = .ok (.getfield 15, 3) := by decide +kernel
theorem dX7_positionAt_4 : decode cX7_positionAt 4 = .ok (.iload_n 1, 1) := by decide +kernel
theorem dX7_positionAt_5 : decode cX7_positionAt 5 = .ok (.invokestatic 40, 3) := by decide +kernel
theorem dX7_positionAt_8 : decode cX7_positionAt 8 = .ok (.ireturn, 1) := by decide +kernel
theorem dX7_inMoves_0 : decode cX7_inMoves 0 = .ok (.aload_n 0, 1) := by decide +kernel
theorem dX7_inMoves_1 : decode cX7_inMoves 1 = .ok (.getfield 22, 3) := by decide +kernel
theorem dX7_inMoves_4 : decode cX7_inMoves 4 = .ok (.iload_n 1, 1) := by decide +kernel
theorem dX7_inMoves_5 : decode cX7_inMoves 5 = .ok (.invokestatic 40, 3) := by decide +kernel
theorem dX7_inMoves_8 : decode cX7_inMoves 8 = .ok (.ireturn, 1) := by decide +kernel
theorem dX7_outcomeOf_0 : decode cX7_outcomeOf 0 = .ok (.aload_n 0, 1) := by decide +kernel
theorem dX7_outcomeOf_1 : decode cX7_outcomeOf 1 = .ok (.getfield 22, 3) := by decide +kernel
theorem dX7_outcomeOf_4 : decode cX7_outcomeOf 4 = .ok (.iload_n 1, 1) := by decide +kernel
theorem dX7_outcomeOf_5 : decode cX7_outcomeOf 5 = .ok (.invokestatic 40, 3) := by decide +kernel
theorem dX7_outcomeOf_8 : decode cX7_outcomeOf 8 = .ok (.istore_n 2, 1) := by decide +kernel
theorem dX7_outcomeOf_9 : decode cX7_outcomeOf 9 = .ok (.iload_n 2, 1) := by decide +kernel
theorem dX7_outcomeOf_10 : decode cX7_outcomeOf 10 = .ok (.ifCond .ge 5, 3) := by decide +kernel
theorem dX7_outcomeOf_13 : decode cX7_outcomeOf 13 = .ok (.iconst 0, 1) := by decide +kernel
theorem dX7_outcomeOf_14 : decode cX7_outcomeOf 14 = .ok (.ireturn, 1) := by decide +kernel
theorem dX7_outcomeOf_15 : decode cX7_outcomeOf 15 = .ok (.iload_n 2, 1) := by decide +kernel
theorem dX7_outcomeOf_16 : decode cX7_outcomeOf 16 = .ok (.iconst 2, 1) := by decide +kernel
theorem dX7_outcomeOf_17 : decode cX7_outcomeOf 17 = .ok (.irem, 1) := by decide +kernel
theorem dX7_outcomeOf_18 : decode cX7_outcomeOf 18 = .ok (.ifCond .ne 7, 3) := by decide +kernel
theorem dX7_outcomeOf_21 : decode cX7_outcomeOf 21 = .ok (.iconst 2, 1) := by decide +kernel
theorem dX7_outcomeOf_22 : decode cX7_outcomeOf 22 = .ok (.goto 4, 3) := by decide +kernel
theorem dX7_outcomeOf_25 : decode cX7_outcomeOf 25 = .ok (.iconst 1, 1) := by decide +kernel
theorem dX7_outcomeOf_26 : decode cX7_outcomeOf 26 = .ok (.ireturn, 1) := by decide +kernel
theorem dX7_isFoxWinning_0 : decode cX7_isFoxWinning 0 = .ok (.aload_n 0, 1) := by decide +kernel
theorem dX7_isFoxWinning_1 : decode cX7_isFoxWinning 1 = .ok (.iload_n 1, 1) := by decide +kernel
theorem dX7_isFoxWinning_2 : decode cX7_isFoxWinning 2 = .ok (.invokevirtual 87, 3) := by decide +kernel
theorem dX7_isFoxWinning_5 : decode cX7_isFoxWinning 5 = .ok (.iload_n 1, 1) := by decide +kernel
theorem dX7_isFoxWinning_6 : decode cX7_isFoxWinning 6 = .ok (.invokestatic 90, 3) := by decide +kernel
theorem dX7_isFoxWinning_9 : decode cX7_isFoxWinning 9 = .ok (.ifCond .ne 7, 3) := by decide +kernel
theorem dX7_isFoxWinning_12 : decode cX7_isFoxWinning 12 = .ok (.iconst 1, 1) := by decide +kernel
theorem dX7_isFoxWinning_13 : decode cX7_isFoxWinning 13 = .ok (.goto 4, 3) := by decide +kernel
theorem dX7_isFoxWinning_16 : decode cX7_isFoxWinning 16 = .ok (.iconst 2, 1) := by decide +kernel
theorem dX7_isFoxWinning_17 : decode cX7_isFoxWinning 17 = .ok (.if_icmp .ne 7, 3) := by decide +kernel
theorem dX7_isFoxWinning_20 : decode cX7_isFoxWinning 20 = .ok (.iconst 1, 1) := by decide +kernel
theorem dX7_isFoxWinning_21 : decode cX7_isFoxWinning 21 = .ok (.goto 4, 3) := by decide +kernel
theorem dX7_isFoxWinning_24 : decode cX7_isFoxWinning 24 = .ok (.iconst 0, 1) := by decide +kernel
theorem dX7_isFoxWinning_25 : decode cX7_isFoxWinning 25 = .ok (.ireturn, 1) := by decide +kernel
theorem dX7_bestMove_0 : decode cX7_bestMove 0 = .ok (.aload_n 0, 1) := by decide +kernel
theorem dX7_bestMove_1 : decode cX7_bestMove 1 = .ok (.getfield 22, 3) := by decide +kernel
theorem dX7_bestMove_4 : decode cX7_bestMove 4 = .ok (.iload_n 2, 1) := by decide +kernel
theorem dX7_bestMove_5 : decode cX7_bestMove 5 = .ok (.invokestatic 40, 3) := by decide +kernel
theorem dX7_bestMove_8 : decode cX7_bestMove 8 = .ok (.istore_n 3, 1) := by decide +kernel
theorem dX7_bestMove_9 : decode cX7_bestMove 9 = .ok (.iload_n 3, 1) := by decide +kernel
theorem dX7_bestMove_10 : decode cX7_bestMove 10 = .ok (.iconst (-1), 1) := by decide +kernel
theorem dX7_bestMove_11 : decode cX7_bestMove 11 = .ok (.if_icmp .ne 7, 3) := by decide +kernel
theorem dX7_bestMove_14 : decode cX7_bestMove 14 = .ok (.iconst (-1), 1) := by decide +kernel
theorem dX7_bestMove_15 : decode cX7_bestMove 15 = .ok (.goto 6, 3) := by decide +kernel
theorem dX7_bestMove_18 : decode cX7_bestMove 18 = .ok (.iload_n 3, 1) := by decide +kernel
theorem dX7_bestMove_19 : decode cX7_bestMove 19 = .ok (.iconst 1, 1) := by decide +kernel
theorem dX7_bestMove_20 : decode cX7_bestMove 20 = .ok (.isub, 1) := by decide +kernel
theorem dX7_bestMove_21 : decode cX7_bestMove 21 = .ok (.istore 4, 2) := by decide +kernel
theorem dX7_bestMove_23 : decode cX7_bestMove 23 = .ok (.aload_n 1, 1) := by decide +kernel
theorem dX7_bestMove_24 : decode cX7_bestMove 24 = .ok (.iload_n 2, 1) := by decide +kernel
theorem dX7_bestMove_25 : decode cX7_bestMove 25 = .ok (.invokevirtual 44, 3) := by decide +kernel
theorem dX7_bestMove_28 : decode cX7_bestMove 28 = .ok (.lstore 5, 2) := by decide +kernel
theorem dX7_bestMove_30 : decode cX7_bestMove 30 = .ok (.lload 5, 2) := by decide +kernel
theorem dX7_bestMove_32 : decode cX7_bestMove 32 = .ok (.invokestatic 48, 3) := by decide +kernel
theorem dX7_bestMove_35 : decode cX7_bestMove 35 = .ok (.istore 7, 2) := by decide +kernel
theorem dX7_bestMove_37 : decode cX7_bestMove 37 = .ok (.iconst 0, 1) := by decide +kernel
theorem dX7_bestMove_38 : decode cX7_bestMove 38 = .ok (.istore 8, 2) := by decide +kernel
theorem dX7_bestMove_40 : decode cX7_bestMove 40 = .ok (.iload 8, 2) := by decide +kernel
theorem dX7_bestMove_42 : decode cX7_bestMove 42 = .ok (.iload 7, 2) := by decide +kernel
theorem dX7_bestMove_44 : decode cX7_bestMove 44 = .ok (.if_icmp .ge 52, 3) := by decide +kernel
theorem dX7_bestMove_47 : decode cX7_bestMove 47 = .ok (.lload 5, 2) := by decide +kernel
theorem dX7_bestMove_49 : decode cX7_bestMove 49 = .ok (.invokestatic 65, 3) := by decide +kernel
theorem dX7_bestMove_52 : decode cX7_bestMove 52 = .ok (.istore 9, 2) := by decide +kernel
theorem dX7_bestMove_54 : decode cX7_bestMove 54 = .ok (.lload 5, 2) := by decide +kernel
theorem dX7_bestMove_56 : decode cX7_bestMove 56 = .ok (.invokestatic 68, 3) := by decide +kernel
theorem dX7_bestMove_59 : decode cX7_bestMove 59 = .ok (.lstore 5, 2) := by decide +kernel
theorem dX7_bestMove_61 : decode cX7_bestMove 61 = .ok (.aload_n 0, 1) := by decide +kernel
theorem dX7_bestMove_62 : decode cX7_bestMove 62 = .ok (.getfield 22, 3) := by decide +kernel
theorem dX7_bestMove_65 : decode cX7_bestMove 65 = .ok (.iload_n 2, 1) := by decide +kernel
theorem dX7_bestMove_66 : decode cX7_bestMove 66 = .ok (.iload 9, 2) := by decide +kernel
theorem dX7_bestMove_68 : decode cX7_bestMove 68 = .ok (.invokestatic 72, 3) := by decide +kernel
theorem dX7_bestMove_71 : decode cX7_bestMove 71 = .ok (.iload 9, 2) := by decide +kernel
theorem dX7_bestMove_73 : decode cX7_bestMove 73 = .ok (.invokestatic 76, 3) := by decide +kernel
theorem dX7_bestMove_76 : decode cX7_bestMove 76 = .ok (.invokestatic 79, 3) := by decide +kernel
theorem dX7_bestMove_79 : decode cX7_bestMove 79 = .ok (.invokestatic 40, 3) := by decide +kernel
theorem dX7_bestMove_82 : decode cX7_bestMove 82 = .ok (.iload 4, 2) := by decide +kernel
theorem dX7_bestMove_84 : decode cX7_bestMove 84 = .ok (.if_icmp .ne 6, 3) := by decide +kernel
theorem dX7_bestMove_87 : decode cX7_bestMove 87 = .ok (.iload 9, 2) := by decide +kernel
theorem dX7_bestMove_89 : decode cX7_bestMove 89 = .ok (.ireturn, 1) := by decide +kernel
theorem dX7_bestMove_90 : decode cX7_bestMove 90 = .ok (.iinc 8 1, 3) := by decide +kernel
theorem dX7_bestMove_93 : decode cX7_bestMove 93 = .ok (.goto (-53), 3) := by decide +kernel
theorem dX7_bestMove_96 : decode cX7_bestMove 96 = .ok (.iconst (-1), 1) := by decide +kernel
theorem dX7_bestMove_97 : decode cX7_bestMove 97 = .ok (.ireturn, 1) := by decide +kernel
theorem dX8_init_0 : decode cX8_init 0 = .ok (.aload_n 0, 1) := by decide +kernel
theorem dX8_init_1 : decode cX8_init 1 = .ok (.invokespecial 3, 3) := by decide +kernel
theorem dX8_init_4 : decode cX8_init 4 = .ok (.aload_n 0, 1) := by decide +kernel
theorem dX8_init_5 : decode cX8_init 5 = .ok (.sipush 160, 3) := by decide +kernel
theorem dX8_init_8 : decode cX8_init 8 = .ok (.newarray .char, 2) := by decide +kernel
theorem dX8_init_10 : decode cX8_init 10 = .ok (.putfield 9, 3) := by decide +kernel
theorem dX8_init_13 : decode cX8_init 13 = .ok (.return_, 1) := by decide +kernel
theorem dX8_add_0 : decode cX8_add 0 = .ok (.aload_n 0, 1) := by decide +kernel
theorem dX8_add_1 : decode cX8_add 1 = .ok (.getfield 15, 3) := by decide +kernel
theorem dX8_add_4 : decode cX8_add 4 = .ok (.ifCond .lt 35, 3) := by decide +kernel
theorem dX8_add_7 : decode cX8_add 7 = .ok (.aload_n 0, 1) := by decide +kernel
theorem dX8_add_8 : decode cX8_add 8 = .ok (.getfield 15, 3) := by decide +kernel
theorem dX8_add_11 : decode cX8_add 11 = .ok (.aload_n 0, 1) := by decide +kernel
theorem dX8_add_12 : decode cX8_add 12 = .ok (.getfield 9, 3) := by decide +kernel
theorem dX8_add_15 : decode cX8_add 15 = .ok (.arraylength, 1) := by decide +kernel
theorem dX8_add_16 : decode cX8_add 16 = .ok (.if_icmp .ge 23, 3) := by decide +kernel
theorem dX8_add_19 : decode cX8_add 19 = .ok (.aload_n 0, 1) := by decide +kernel
theorem dX8_add_20 : decode cX8_add 20 = .ok (.getfield 9, 3) := by decide +kernel
theorem dX8_add_23 : decode cX8_add 23 = .ok (.aload_n 0, 1) := by decide +kernel
theorem dX8_add_24 : decode cX8_add 24 = .ok (.getfield 15, 3) := by decide +kernel
theorem dX8_add_27 : decode cX8_add 27 = .ok (.iload_n 1, 1) := by decide +kernel
theorem dX8_add_28 : decode cX8_add 28 = .ok (.castore, 1) := by decide +kernel
theorem dX8_add_29 : decode cX8_add 29 = .ok (.aload_n 0, 1) := by decide +kernel
theorem dX8_add_30 : decode cX8_add 30 = .ok (.dup, 1) := by decide +kernel
theorem dX8_add_31 : decode cX8_add 31 = .ok (.getfield 15, 3) := by decide +kernel
theorem dX8_add_34 : decode cX8_add 34 = .ok (.iconst 1, 1) := by decide +kernel
theorem dX8_add_35 : decode cX8_add 35 = .ok (.iadd, 1) := by decide +kernel
theorem dX8_add_36 : decode cX8_add 36 = .ok (.putfield 15, 3) := by decide +kernel
theorem dX8_add_39 : decode cX8_add 39 = .ok (.return_, 1) := by decide +kernel
theorem dX8_sign_0 : decode cX8_sign 0 = .ok (.iload_n 1, 1) := by decide +kernel
theorem dX8_sign_1 : decode cX8_sign 1 = .ok (.ifCond .lt 20, 3) := by decide +kernel
theorem dX8_sign_4 : decode cX8_sign 4 = .ok (.iload_n 1, 1) := by decide +kernel
theorem dX8_sign_5 : decode cX8_sign 5 = .ok (.aload_n 0, 1) := by decide +kernel
theorem dX8_sign_6 : decode cX8_sign 6 = .ok (.getfield 15, 3) := by decide +kernel
theorem dX8_sign_9 : decode cX8_sign 9 = .ok (.if_icmp .ge 12, 3) := by decide +kernel
theorem dX8_sign_12 : decode cX8_sign 12 = .ok (.iload_n 1, 1) := by decide +kernel
theorem dX8_sign_13 : decode cX8_sign 13 = .ok (.aload_n 0, 1) := by decide +kernel
theorem dX8_sign_14 : decode cX8_sign 14 = .ok (.getfield 9, 3) := by decide +kernel
theorem dX8_sign_17 : decode cX8_sign 17 = .ok (.arraylength, 1) := by decide +kernel
theorem dX8_sign_18 : decode cX8_sign 18 = .ok (.if_icmp .lt 7, 3) := by decide +kernel
theorem dX8_sign_21 : decode cX8_sign 21 = .ok (.iconst 0, 1) := by decide +kernel
theorem dX8_sign_22 : decode cX8_sign 22 = .ok (.goto 9, 3) := by decide +kernel
theorem dX8_sign_25 : decode cX8_sign 25 = .ok (.aload_n 0, 1) := by decide +kernel
theorem dX8_sign_26 : decode cX8_sign 26 = .ok (.getfield 9, 3) := by decide +kernel
theorem dX8_sign_29 : decode cX8_sign 29 = .ok (.iload_n 1, 1) := by decide +kernel
theorem dX8_sign_30 : decode cX8_sign 30 = .ok (.caload, 1) := by decide +kernel
theorem dX8_sign_31 : decode cX8_sign 31 = .ok (.ireturn, 1) := by decide +kernel
theorem dX9_init_0 : decode cX9_init 0 = .ok (.aload_n 0, 1) := by decide +kernel
theorem dX9_init_1 : decode cX9_init 1 = .ok (.invokespecial 1, 3) := by decide +kernel
theorem dX9_init_4 : decode cX9_init 4 = .ok (.aload_n 0, 1) := by decide +kernel
theorem dX9_init_5 : decode cX9_init 5 = .ok (.new 7, 3) := by decide +kernel
theorem dX9_init_8 : decode cX9_init 8 = .ok (.dup, 1) := by decide +kernel
theorem dX9_init_9 : decode cX9_init 9 = .ok (.invokespecial 9, 3) := by decide +kernel
theorem dX9_init_12 : decode cX9_init 12 = .ok (.putfield 10, 3) := by decide +kernel
theorem dX9_init_15 : decode cX9_init 15 = .ok (.aload_n 0, 1) := by decide +kernel
theorem dX9_init_16 : decode cX9_init 16 = .ok (.new 7, 3) := by decide +kernel
theorem dX9_init_19 : decode cX9_init 19 = .ok (.dup, 1) := by decide +kernel
theorem dX9_init_20 : decode cX9_init 20 = .ok (.invokespecial 9, 3) := by decide +kernel
theorem dX9_init_23 : decode cX9_init 23 = .ok (.putfield 16, 3) := by decide +kernel
theorem dX9_init_26 : decode cX9_init 26 = .ok (.aload_n 0, 1) := by decide +kernel
theorem dX9_init_27 : decode cX9_init 27 = .ok (.new 7, 3) := by decide +kernel
theorem dX9_init_30 : decode cX9_init 30 = .ok (.dup, 1) := by decide +kernel
theorem dX9_init_31 : decode cX9_init 31 = .ok (.invokespecial 9, 3) := by decide +kernel
theorem dX9_init_34 : decode cX9_init 34 = .ok (.putfield 19, 3) := by decide +kernel
theorem dX9_init_37 : decode cX9_init 37 = .ok (.aload_n 0, 1) := by decide +kernel
theorem dX9_init_38 : decode cX9_init 38 = .ok (.new 22, 3) := by decide +kernel
theorem dX9_init_41 : decode cX9_init 41 = .ok (.dup, 1) := by decide +kernel
theorem dX9_init_42 : decode cX9_init 42 = .ok (.invokespecial 24, 3) := by decide +kernel
theorem dX9_init_45 : decode cX9_init 45 = .ok (.putfield 25, 3) := by decide +kernel
theorem dX9_init_48 : decode cX9_init 48 = .ok (.aload_n 0, 1) := by decide +kernel
theorem dX9_init_49 : decode cX9_init 49 = .ok (.new 29, 3) := by decide +kernel
theorem dX9_init_52 : decode cX9_init 52 = .ok (.dup, 1) := by decide +kernel
theorem dX9_init_53 : decode cX9_init 53 = .ok (.invokespecial 31, 3) := by decide +kernel
theorem dX9_init_56 : decode cX9_init 56 = .ok (.putfield 32, 3) := by decide +kernel
theorem dX9_init_59 : decode cX9_init 59 = .ok (.aload_n 0, 1) := by decide +kernel
theorem dX9_init_60 : decode cX9_init 60 = .ok (.new 36, 3) := by decide +kernel
theorem dX9_init_63 : decode cX9_init 63 = .ok (.dup, 1) := by decide +kernel
theorem dX9_init_64 : decode cX9_init 64 = .ok (.invokespecial 38, 3) := by decide +kernel
theorem dX9_init_67 : decode cX9_init 67 = .ok (.putfield 39, 3) := by decide +kernel
theorem dX9_init_70 : decode cX9_init 70 = .ok (.aload_n 0, 1) := by decide +kernel
theorem dX9_init_71 : decode cX9_init 71 = .ok (.new 36, 3) := by decide +kernel
theorem dX9_init_74 : decode cX9_init 74 = .ok (.dup, 1) := by decide +kernel
theorem dX9_init_75 : decode cX9_init 75 = .ok (.invokespecial 38, 3) := by decide +kernel
theorem dX9_init_78 : decode cX9_init 78 = .ok (.putfield 43, 3) := by decide +kernel
theorem dX9_init_81 : decode cX9_init 81 = .ok (.aload_n 0, 1) := by decide +kernel
theorem dX9_init_82 : decode cX9_init 82 = .ok (.new 46, 3) := by decide +kernel
theorem dX9_init_85 : decode cX9_init 85 = .ok (.dup, 1) := by decide +kernel
theorem dX9_init_86 : decode cX9_init 86 = .ok (.invokespecial 48, 3) := by decide +kernel
theorem dX9_init_89 : decode cX9_init 89 = .ok (.putfield 49, 3) := by decide +kernel
theorem dX9_init_92 : decode cX9_init 92 = .ok (.aload_n 0, 1) := by decide +kernel
theorem dX9_init_93 : decode cX9_init 93 = .ok (.new 53, 3) := by decide +kernel
theorem dX9_init_96 : decode cX9_init 96 = .ok (.dup, 1) := by decide +kernel
theorem dX9_init_97 : decode cX9_init 97 = .ok (.invokespecial 55, 3) := by decide +kernel
theorem dX9_init_100 : decode cX9_init 100 = .ok (.putfield 56, 3) := by decide +kernel
theorem dX9_init_103 : decode cX9_init 103 = .ok (.aload_n 0, 1) := by decide +kernel
theorem dX9_init_104 : decode cX9_init 104 = .ok (.new 53, 3) := by decide +kernel
theorem dX9_init_107 : decode cX9_init 107 = .ok (.dup, 1) := by decide +kernel
theorem dX9_init_108 : decode cX9_init 108 = .ok (.invokespecial 55, 3) := by decide +kernel
theorem dX9_init_111 : decode cX9_init 111 = .ok (.putfield 60, 3) := by decide +kernel
theorem dX9_init_114 : decode cX9_init 114 = .ok (.aload_n 0, 1) := by decide +kernel
theorem dX9_init_115 : decode cX9_init 115 = .ok (.new 63, 3) := by decide +kernel
theorem dX9_init_118 : decode cX9_init 118 = .ok (.dup, 1) := by decide +kernel
theorem dX9_init_119 : decode cX9_init 119 = .ok (.invokespecial 65, 3) := by decide +kernel
theorem dX9_init_122 : decode cX9_init 122 = .ok (.putfield 66, 3) := by decide +kernel
theorem dX9_init_125 : decode cX9_init 125 = .ok (.aload_n 0, 1) := by decide +kernel
theorem dX9_init_126 : decode cX9_init 126 = .ok (.new 70, 3) := by decide +kernel
theorem dX9_init_129 : decode cX9_init 129 = .ok (.dup, 1) := by decide +kernel
theorem dX9_init_130 : decode cX9_init 130 = .ok (.invokespecial 72, 3) := by decide +kernel
theorem dX9_init_133 : decode cX9_init 133 = .ok (.putfield 73, 3) := by decide +kernel
theorem dX9_init_136 : decode cX9_init 136 = .ok (.aload_n 0, 1) := by decide +kernel
theorem dX9_init_137 : decode cX9_init 137 = .ok (.iconst (-1), 1) := by decide +kernel
theorem dX9_init_138 : decode cX9_init 138 = .ok (.putfield 77, 3) := by decide +kernel
theorem dX9_init_141 : decode cX9_init 141 = .ok (.return_, 1) := by decide +kernel
theorem dX9_dig_0 : decode cX9_dig 0 = .ok (.aload_n 0, 1) := by decide +kernel
theorem dX9_dig_1 : decode cX9_dig 1 = .ok (.invokevirtual 81, 3) := by decide +kernel
theorem dX9_dig_4 : decode cX9_dig 4 = .ok (.aload_n 0, 1) := by decide +kernel
theorem dX9_dig_5 : decode cX9_dig 5 = .ok (.aload_n 0, 1) := by decide +kernel
theorem dX9_dig_6 : decode cX9_dig 6 = .ok (.invokevirtual 84, 3) := by decide +kernel
theorem dX9_dig_9 : decode cX9_dig 9 = .ok (.invokevirtual 88, 3) := by decide +kernel
theorem dX9_dig_12 : decode cX9_dig 12 = .ok (.ireturn, 1) := by decide +kernel
theorem dX9_tread_0 : decode cX9_tread 0 = .ok (.aload_n 0, 1) := by decide +kernel
theorem dX9_tread_1 : decode cX9_tread 1 = .ok (.invokevirtual 81, 3) := by decide +kernel
theorem dX9_tread_4 : decode cX9_tread 4 = .ok (.aload_n 0, 1) := by decide +kernel
theorem dX9_tread_5 : decode cX9_tread 5 = .ok (.aload_n 0, 1) := by decide +kernel
theorem dX9_tread_6 : decode cX9_tread 6 = .ok (.iload_n 1, 1) := by decide +kernel
theorem dX9_tread_7 : decode cX9_tread 7 = .ok (.iload_n 2, 1) := by decide +kernel
theorem dX9_tread_8 : decode cX9_tread 8 = .ok (.invokevirtual 92, 3) := by decide +kernel
theorem dX9_tread_11 : decode cX9_tread 11 = .ok (.invokevirtual 88, 3) := by decide +kernel
theorem dX9_tread_14 : decode cX9_tread 14 = .ok (.ireturn, 1) := by decide +kernel
theorem dX9_grow_0 : decode cX9_grow 0 = .ok (.aload_n 0, 1) := by decide +kernel
theorem dX9_grow_1 : decode cX9_grow 1 = .ok (.invokevirtual 81, 3) := by decide +kernel
theorem dX9_grow_4 : decode cX9_grow 4 = .ok (.aload_n 0, 1) := by decide +kernel
theorem dX9_grow_5 : decode cX9_grow 5 = .ok (.aload_n 0, 1) := by decide +kernel
theorem dX9_grow_6 : decode cX9_grow 6 = .ok (.iload_n 1, 1) := by decide +kernel
theorem dX9_grow_7 : decode cX9_grow 7 = .ok (.iload_n 2, 1) := by decide +kernel
theorem dX9_grow_8 : decode cX9_grow 8 = .ok (.invokevirtual 96, 3) := by decide +kernel
theorem dX9_grow_11 : decode cX9_grow 11 = .ok (.invokevirtual 88, 3) := by decide +kernel
theorem dX9_grow_14 : decode cX9_grow 14 = .ok (.ireturn, 1) := by decide +kernel
theorem dX9_trap_0 : decode cX9_trap 0 = .ok (.aload_n 0, 1) := by decide +kernel
theorem dX9_trap_1 : decode cX9_trap 1 = .ok (.invokevirtual 81, 3) := by decide +kernel
theorem dX9_trap_4 : decode cX9_trap 4 = .ok (.aload_n 0, 1) := by decide +kernel
theorem dX9_trap_5 : decode cX9_trap 5 = .ok (.aload_n 0, 1) := by decide +kernel
theorem dX9_trap_6 : decode cX9_trap 6 = .ok (.iload_n 1, 1) := by decide +kernel
theorem dX9_trap_7 : decode cX9_trap 7 = .ok (.iload_n 2, 1) := by decide +kernel
theorem dX9_trap_8 : decode cX9_trap 8 = .ok (.invokevirtual 99, 3) := by decide +kernel
theorem dX9_trap_11 : decode cX9_trap 11 = .ok (.invokevirtual 88, 3) := by decide +kernel
theorem dX9_trap_14 : decode cX9_trap 14 = .ok (.ireturn, 1) := by decide +kernel
theorem dX9_flock_0 : decode cX9_flock 0 = .ok (.aload_n 0, 1) := by decide +kernel
theorem dX9_flock_1 : decode cX9_flock 1 = .ok (.invokevirtual 81, 3) := by decide +kernel
theorem dX9_flock_4 : decode cX9_flock 4 = .ok (.aload_n 0, 1) := by decide +kernel
theorem dX9_flock_5 : decode cX9_flock 5 = .ok (.aload_n 0, 1) := by decide +kernel
theorem dX9_flock_6 : decode cX9_flock 6 = .ok (.iload_n 1, 1) := by decide +kernel
theorem dX9_flock_7 : decode cX9_flock 7 = .ok (.invokevirtual 103, 3) := by decide +kernel
theorem dX9_flock_10 : decode cX9_flock 10 = .ok (.invokevirtual 88, 3) := by decide +kernel
theorem dX9_flock_13 : decode cX9_flock 13 = .ok (.ireturn, 1) := by decide +kernel
theorem dX9_begin_0 : decode cX9_begin 0 = .ok (.aload_n 0, 1) := by decide +kernel
theorem dX9_begin_1 : decode cX9_begin 1 = .ok (.invokevirtual 81, 3) := by decide +kernel
theorem dX9_begin_4 : decode cX9_begin 4 = .ok (.aload_n 0, 1) := by decide +kernel
theorem dX9_begin_5 : decode cX9_begin 5 = .ok (.aload_n 0, 1) := by decide +kernel
theorem dX9_begin_6 : decode cX9_begin 6 = .ok (.iload_n 1, 1) := by decide +kernel
theorem dX9_begin_7 : decode cX9_begin 7 = .ok (.invokevirtual 106, 3) := by decide +kernel
theorem dX9_begin_10 : decode cX9_begin 10 = .ok (.invokevirtual 88, 3) := by decide +kernel
theorem dX9_begin_13 : decode cX9_begin 13 = .ok (.ireturn, 1) := by decide +kernel
theorem dX9_move_0 : decode cX9_move 0 = .ok (.aload_n 0, 1) := by decide +kernel
theorem dX9_move_1 : decode cX9_move 1 = .ok (.invokevirtual 81, 3) := by decide +kernel
theorem dX9_move_4 : decode cX9_move 4 = .ok (.aload_n 0, 1) := by decide +kernel
theorem dX9_move_5 : decode cX9_move 5 = .ok (.aload_n 0, 1) := by decide +kernel
theorem dX9_move_6 : decode cX9_move 6 = .ok (.iload_n 1, 1) := by decide +kernel
theorem dX9_move_7 : decode cX9_move 7 = .ok (.iload_n 2, 1) := by decide +kernel
theorem dX9_move_8 : decode cX9_move 8 = .ok (.invokevirtual 109, 3) := by decide +kernel
theorem dX9_move_11 : decode cX9_move 11 = .ok (.invokevirtual 88, 3) := by decide +kernel
theorem dX9_move_14 : decode cX9_move 14 = .ok (.ireturn, 1) := by decide +kernel
theorem dX9_play_0 : decode cX9_play 0 = .ok (.aload_n 0, 1) := by decide +kernel
theorem dX9_play_1 : decode cX9_play 1 = .ok (.invokevirtual 81, 3) := by decide +kernel
theorem dX9_play_4 : decode cX9_play 4 = .ok (.aload_n 0, 1) := by decide +kernel
theorem dX9_play_5 : decode cX9_play 5 = .ok (.aload_n 0, 1) := by decide +kernel
theorem dX9_play_6 : decode cX9_play 6 = .ok (.iload_n 1, 1) := by decide +kernel
theorem dX9_play_7 : decode cX9_play 7 = .ok (.invokevirtual 112, 3) := by decide +kernel
theorem dX9_play_10 : decode cX9_play 10 = .ok (.invokevirtual 88, 3) := by decide +kernel
theorem dX9_play_13 : decode cX9_play 13 = .ok (.ireturn, 1) := by decide +kernel
theorem dX9_back_0 : decode cX9_back 0 = .ok (.aload_n 0, 1) := by decide +kernel
theorem dX9_back_1 : decode cX9_back 1 = .ok (.invokevirtual 81, 3) := by decide +kernel
theorem dX9_back_4 : decode cX9_back 4 = .ok (.aload_n 0, 1) := by decide +kernel
theorem dX9_back_5 : decode cX9_back 5 = .ok (.aload_n 0, 1) := by decide +kernel
theorem dX9_back_6 : decode cX9_back 6 = .ok (.invokevirtual 115, 3) := by decide +kernel
theorem dX9_back_9 : decode cX9_back 9 = .ok (.invokevirtual 88, 3) := by decide +kernel
theorem dX9_back_12 : decode cX9_back 12 = .ok (.ireturn, 1) := by decide +kernel
theorem dX9_now_0 : decode cX9_now 0 = .ok (.aload_n 0, 1) := by decide +kernel
theorem dX9_now_1 : decode cX9_now 1 = .ok (.getfield 10, 3) := by decide +kernel
theorem dX9_now_4 : decode cX9_now 4 = .ok (.getfield 118, 3) := by decide +kernel
theorem dX9_now_7 : decode cX9_now 7 = .ok (.getfield 122, 3) := by decide +kernel
theorem dX9_now_10 : decode cX9_now 10 = .ok (.ifCond .ne 13, 3) := by decide +kernel
theorem dX9_now_13 : decode cX9_now 13 = .ok (.new 128, 3) := by decide +kernel
theorem dX9_now_16 : decode cX9_now 16 = .ok (.dup, 1) := by decide +kernel
theorem dX9_now_17 : decode cX9_now 17 = .ok (.ldc 130, 2) := by decide +kernel
theorem dX9_now_19 : decode cX9_now 19 = .ok (.invokespecial 132, 3) := by decide +kernel
theorem dX9_now_22 : decode cX9_now 22 = .ok (.athrow, 1) := by decide +kernel
theorem dX9_now_23 : decode cX9_now 23 = .ok (.aload_n 0, 1) := by decide +kernel
theorem dX9_now_24 : decode cX9_now 24 = .ok (.getfield 10, 3) := by decide +kernel
theorem dX9_now_27 : decode cX9_now 27 = .ok (.getfield 118, 3) := by decide +kernel
theorem dX9_now_30 : decode cX9_now 30 = .ok (.invokevirtual 135, 3) := by decide +kernel
theorem dX9_now_33 : decode cX9_now 33 = .ok (.ireturn, 1) := by decide +kernel
theorem dX9_position_0 : decode cX9_position 0 = .ok (.aload_n 0, 1) := by decide +kernel
theorem dX9_position_1 : decode cX9_position 1 = .ok (.getfield 10, 3) := by decide +kernel
theorem dX9_position_4 : decode cX9_position 4 = .ok (.getfield 138, 3) := by decide +kernel
theorem dX9_position_7 : decode cX9_position 7 = .ok (.iload_n 1, 1) := by decide +kernel
theorem dX9_position_8 : decode cX9_position 8 = .ok (.iload_n 2, 1) := by decide +kernel
theorem dX9_position_9 : decode cX9_position 9 = .ok (.iload_n 3, 1) := by decide +kernel
theorem dX9_position_10 : decode cX9_position 10 = .ok (.invokevirtual 141, 3) := by decide +kernel
theorem dX9_position_13 : decode cX9_position 13 = .ok (.ifCond .ne 13, 3) := by decide +kernel
theorem dX9_position_16 : decode cX9_position 16 = .ok (.new 128, 3) := by decide +kernel
theorem dX9_position_19 : decode cX9_position 19 = .ok (.dup, 1) := by decide +kernel
theorem dX9_position_20 : decode cX9_position 20 = .ok (.ldc 145, 2) := by decide +kernel
theorem dX9_position_22 : decode cX9_position 22 = .ok (.invokespecial 132, 3) := by decide +kernel
theorem dX9_position_25 : decode cX9_position 25 = .ok (.athrow, 1) := by decide +kernel
theorem dX9_position_26 : decode cX9_position 26 = .ok (.iload_n 1, 1) := by decide +kernel
theorem dX9_position_27 : decode cX9_position 27 = .ok (.iload_n 2, 1) := by decide +kernel
theorem dX9_position_28 : decode cX9_position 28 = .ok (.iload_n 3, 1) := by decide +kernel
theorem dX9_position_29 : decode cX9_position 29 = .ok (.iload 4, 2) := by decide +kernel
theorem dX9_position_31 : decode cX9_position 31 = .ok (.ifCond .eq 7, 3) := by decide +kernel
theorem dX9_position_34 : decode cX9_position 34 = .ok (.iconst 1, 1) := by decide +kernel
theorem dX9_position_35 : decode cX9_position 35 = .ok (.goto 4, 3) := by decide +kernel
theorem dX9_position_38 : decode cX9_position 38 = .ok (.iconst 0, 1) := by decide +kernel
theorem dX9_position_39 : decode cX9_position 39 = .ok (.invokestatic 147, 3) := by decide +kernel
theorem dX9_position_42 : decode cX9_position 42 = .ok (.ireturn, 1) := by decide +kernel
theorem dX9_positionOf_0 : decode cX9_positionOf 0 = .ok (.iload_n 2, 1) := by decide +kernel
theorem dX9_positionOf_1 : decode cX9_positionOf 1 = .ok (.ifCond .lt 9, 3) := by decide +kernel
theorem dX9_positionOf_4 : decode cX9_positionOf 4 = .ok (.iload_n 2, 1) := by decide +kernel
theorem dX9_positionOf_5 : decode cX9_positionOf 5 = .ok (.bipush 6, 2) := by decide +kernel
theorem dX9_positionOf_7 : decode cX9_positionOf 7 = .ok (.if_icmp .le 13, 3) := by decide +kernel
theorem dX9_positionOf_10 : decode cX9_positionOf 10 = .ok (.new 151, 3) := by decide +kernel
theorem dX9_positionOf_13 : decode cX9_positionOf 13 = .ok (.dup, 1) := by decide +kernel
theorem dX9_positionOf_14 : decode cX9_positionOf 14 = .ok (.ldc 153, 2) := by decide +kernel
theorem dX9_positionOf_16 : decode cX9_positionOf 16 = .ok (.invokespecial 155, 3) := by decide +kernel
theorem dX9_positionOf_19 : decode cX9_positionOf 19 = .ok (.athrow, 1) := by decide +kernel
theorem dX9_positionOf_20 : decode cX9_positionOf 20 = .ok (.aload_n 0, 1) := by decide +kernel
theorem dX9_positionOf_21 : decode cX9_positionOf 21 = .ok (.iload_n 1, 1) := by decide +kernel
theorem dX9_positionOf_22 : decode cX9_positionOf 22 = .ok (.invokevirtual 156, 3) := by decide +kernel
theorem dX9_positionOf_25 : decode cX9_positionOf 25 = .ok (.iload_n 2, 1) := by decide +kernel
theorem dX9_positionOf_26 : decode cX9_positionOf 26 = .ok (.tableswitch 69 0 4 #[34, 39, 44, 49, 54], 34) := by decide +kernel
theorem dX9_positionOf_60 : decode cX9_positionOf 60 = .ok (.iload_n 1, 1) := by decide +kernel
theorem dX9_positionOf_61 : decode cX9_positionOf 61 = .ok (.invokestatic 160, 3) := by decide +kernel
theorem dX9_positionOf_64 : decode cX9_positionOf 64 = .ok (.ireturn, 1) := by decide +kernel
theorem dX9_positionOf_65 : decode cX9_positionOf 65 = .ok (.iload_n 1, 1) := by decide +kernel
theorem dX9_positionOf_66 : decode cX9_positionOf 66 = .ok (.invokestatic 163, 3) := by decide +kernel
theorem dX9_positionOf_69 : decode cX9_positionOf 69 = .ok (.ireturn, 1) := by decide +kernel
theorem dX9_positionOf_70 : decode cX9_positionOf 70 = .ok (.iload_n 1, 1) := by decide +kernel
theorem dX9_positionOf_71 : decode cX9_positionOf 71 = .ok (.invokestatic 166, 3) := by decide +kernel
theorem dX9_positionOf_74 : decode cX9_positionOf 74 = .ok (.ireturn, 1) := by decide +kernel
theorem dX9_positionOf_75 : decode cX9_positionOf 75 = .ok (.iload_n 1, 1) := by decide +kernel
theorem dX9_positionOf_76 : decode cX9_positionOf 76 = .ok (.invokestatic 169, 3) := by decide +kernel
theorem dX9_positionOf_79 : decode cX9_positionOf 79 = .ok (.ireturn, 1) := by decide +kernel
theorem dX9_positionOf_80 : decode cX9_positionOf 80 = .ok (.aload_n 0, 1) := by decide +kernel
theorem dX9_positionOf_81 : decode cX9_positionOf 81 = .ok (.getfield 10, 3) := by decide +kernel
theorem dX9_positionOf_84 : decode cX9_positionOf 84 = .ok (.getfield 138, 3) := by decide +kernel
theorem dX9_positionOf_87 : decode cX9_positionOf 87 = .ok (.iload_n 1, 1) := by decide +kernel
theorem dX9_positionOf_88 : decode cX9_positionOf 88 = .ok (.invokevirtual 172, 3) := by decide +kernel
theorem dX9_positionOf_91 : decode cX9_positionOf 91 = .ok (.invokestatic 176, 3) := by decide +kernel
theorem dX9_positionOf_94 : decode cX9_positionOf 94 = .ok (.ireturn, 1) := by decide +kernel
theorem dX9_positionOf_95 : decode cX9_positionOf 95 = .ok (.aload_n 0, 1) := by decide +kernel
theorem dX9_positionOf_96 : decode cX9_positionOf 96 = .ok (.getfield 39, 3) := by decide +kernel
theorem dX9_positionOf_99 : decode cX9_positionOf 99 = .ok (.aload_n 0, 1) := by decide +kernel
theorem dX9_positionOf_100 : decode cX9_positionOf 100 = .ok (.getfield 10, 3) := by decide +kernel
theorem dX9_positionOf_103 : decode cX9_positionOf 103 = .ok (.getfield 138, 3) := by decide +kernel
theorem dX9_positionOf_106 : decode cX9_positionOf 106 = .ok (.invokevirtual 182, 3) := by decide +kernel
theorem dX9_positionOf_109 : decode cX9_positionOf 109 = .ok (.iload_n 2, 1) := by decide +kernel
theorem dX9_positionOf_110 : decode cX9_positionOf 110 = .ok (.iconst 5, 1) := by decide +kernel
theorem dX9_positionOf_111 : decode cX9_positionOf 111 = .ok (.if_icmp .ne 14, 3) := by decide +kernel
theorem dX9_positionOf_114 : decode cX9_positionOf 114 = .ok (.aload_n 0, 1) := by decide +kernel
theorem dX9_positionOf_115 : decode cX9_positionOf 115 = .ok (.getfield 39, 3) := by decide +kernel
theorem dX9_positionOf_118 : decode cX9_positionOf 118 = .ok (.iload_n 1, 1) := by decide +kernel
theorem dX9_positionOf_119 : decode cX9_positionOf 119 = .ok (.invokevirtual 186, 3) := by decide +kernel
theorem dX9_positionOf_122 : decode cX9_positionOf 122 = .ok (.goto 11, 3) := by decide +kernel
theorem dX9_positionOf_125 : decode cX9_positionOf 125 = .ok (.aload_n 0, 1) := by decide +kernel
theorem dX9_positionOf_126 : decode cX9_positionOf 126 = .ok (.getfield 39, 3) := by decide +kernel
theorem dX9_positionOf_129 : decode cX9_positionOf 129 = .ok (.iload_n 1, 1) := by decide +kernel
theorem dX9_positionOf_130 : decode cX9_positionOf 130 = .ok (.invokevirtual 189, 3) := by decide +kernel
theorem dX9_positionOf_133 : decode cX9_positionOf 133 = .ok (.ireturn, 1) := by decide +kernel
theorem dX9_outcomeAgain_0 : decode cX9_outcomeAgain 0 = .ok (.aload_n 0, 1) := by decide +kernel
theorem dX9_outcomeAgain_1 : decode cX9_outcomeAgain 1 = .ok (.iload_n 1, 1) := by decide +kernel
theorem dX9_outcomeAgain_2 : decode cX9_outcomeAgain 2 = .ok (.invokevirtual 156, 3) := by decide +kernel
theorem dX9_outcomeAgain_5 : decode cX9_outcomeAgain 5 = .ok (.aload_n 0, 1) := by decide +kernel
theorem dX9_outcomeAgain_6 : decode cX9_outcomeAgain 6 = .ok (.getfield 49, 3) := by decide +kernel
theorem dX9_outcomeAgain_9 : decode cX9_outcomeAgain 9 = .ok (.aload_n 0, 1) := by decide +kernel
theorem dX9_outcomeAgain_10 : decode cX9_outcomeAgain 10 = .ok (.getfield 10, 3) := by decide +kernel
theorem dX9_outcomeAgain_13 : decode cX9_outcomeAgain 13 = .ok (.getfield 138, 3) := by decide +kernel
theorem dX9_outcomeAgain_16 : decode cX9_outcomeAgain 16 = .ok (.invokevirtual 192, 3) := by decide +kernel
theorem dX9_outcomeAgain_19 : decode cX9_outcomeAgain 19 = .ok (.aload_n 0, 1) := by decide +kernel
theorem dX9_outcomeAgain_20 : decode cX9_outcomeAgain 20 = .ok (.getfield 49, 3) := by decide +kernel
theorem dX9_outcomeAgain_23 : decode cX9_outcomeAgain 23 = .ok (.iload_n 1, 1) := by decide +kernel
theorem dX9_outcomeAgain_24 : decode cX9_outcomeAgain 24 = .ok (.invokevirtual 193, 3) := by decide +kernel
theorem dX9_outcomeAgain_27 : decode cX9_outcomeAgain 27 = .ok (.ireturn, 1) := by decide +kernel
theorem dX9_moveOf_0 : decode cX9_moveOf 0 = .ok (.aload_n 0, 1) := by decide +kernel
theorem dX9_moveOf_1 : decode cX9_moveOf 1 = .ok (.iload_n 1, 1) := by decide +kernel
theorem dX9_moveOf_2 : decode cX9_moveOf 2 = .ok (.invokevirtual 156, 3) := by decide +kernel
theorem dX9_moveOf_5 : decode cX9_moveOf 5 = .ok (.aload_n 0, 1) := by decide +kernel
theorem dX9_moveOf_6 : decode cX9_moveOf 6 = .ok (.getfield 10, 3) := by decide +kernel
theorem dX9_moveOf_9 : decode cX9_moveOf 9 = .ok (.getfield 138, 3) := by decide +kernel
theorem dX9_moveOf_12 : decode cX9_moveOf 12 = .ok (.iload_n 1, 1) := by decide +kernel
theorem dX9_moveOf_13 : decode cX9_moveOf 13 = .ok (.invokevirtual 172, 3) := by decide +kernel
theorem dX9_moveOf_16 : decode cX9_moveOf 16 = .ok (.lstore 4, 2) := by decide +kernel
theorem dX9_moveOf_18 : decode cX9_moveOf 18 = .ok (.iload_n 2, 1) := by decide +kernel
theorem dX9_moveOf_19 : decode cX9_moveOf 19 = .ok (.ifCond .lt 12, 3) := by decide +kernel
theorem dX9_moveOf_22 : decode cX9_moveOf 22 = .ok (.iload_n 2, 1) := by decide +kernel
theorem dX9_moveOf_23 : decode cX9_moveOf 23 = .ok (.lload 4, 2) := by decide +kernel
theorem dX9_moveOf_25 : decode cX9_moveOf 25 = .ok (.invokestatic 176, 3) := by decide +kernel
theorem dX9_moveOf_28 : decode cX9_moveOf 28 = .ok (.if_icmp .lt 13, 3) := by decide +kernel
theorem dX9_moveOf_31 : decode cX9_moveOf 31 = .ok (.new 128, 3) := by decide +kernel
theorem dX9_moveOf_34 : decode cX9_moveOf 34 = .ok (.dup, 1) := by decide +kernel
theorem dX9_moveOf_35 : decode cX9_moveOf 35 = .ok (.ldc 194, 2) := by decide +kernel
theorem dX9_moveOf_37 : decode cX9_moveOf 37 = .ok (.invokespecial 132, 3) := by decide +kernel
theorem dX9_moveOf_40 : decode cX9_moveOf 40 = .ok (.athrow, 1) := by decide +kernel
theorem dX9_moveOf_41 : decode cX9_moveOf 41 = .ok (.iconst 0, 1) := by decide +kernel
theorem dX9_moveOf_42 : decode cX9_moveOf 42 = .ok (.istore 6, 2) := by decide +kernel
theorem dX9_moveOf_44 : decode cX9_moveOf 44 = .ok (.iload 6, 2) := by decide +kernel
theorem dX9_moveOf_46 : decode cX9_moveOf 46 = .ok (.iload_n 2, 1) := by decide +kernel
theorem dX9_moveOf_47 : decode cX9_moveOf 47 = .ok (.if_icmp .ge 16, 3) := by decide +kernel
theorem dX9_moveOf_50 : decode cX9_moveOf 50 = .ok (.lload 4, 2) := by decide +kernel
theorem dX9_moveOf_52 : decode cX9_moveOf 52 = .ok (.invokestatic 196, 3) := by decide +kernel
theorem dX9_moveOf_55 : decode cX9_moveOf 55 = .ok (.lstore 4, 2) := by decide +kernel
theorem dX9_moveOf_57 : decode cX9_moveOf 57 = .ok (.iinc 6 1, 3) := by decide +kernel
theorem dX9_moveOf_60 : decode cX9_moveOf 60 = .ok (.goto (-16), 3) := by decide +kernel
theorem dX9_moveOf_63 : decode cX9_moveOf 63 = .ok (.lload 4, 2) := by decide +kernel
theorem dX9_moveOf_65 : decode cX9_moveOf 65 = .ok (.invokestatic 200, 3) := by decide +kernel
theorem dX9_moveOf_68 : decode cX9_moveOf 68 = .ok (.istore 6, 2) := by decide +kernel
theorem dX9_moveOf_70 : decode cX9_moveOf 70 = .ok (.iload_n 3, 1) := by decide +kernel
theorem dX9_moveOf_71 : decode cX9_moveOf 71 = .ok (.ifCond .eq 11, 3) := by decide +kernel
theorem dX9_moveOf_74 : decode cX9_moveOf 74 = .ok (.iload 6, 2) := by decide +kernel
theorem dX9_moveOf_76 : decode cX9_moveOf 76 = .ok (.invokestatic 203, 3) := by decide +kernel
theorem dX9_moveOf_79 : decode cX9_moveOf 79 = .ok (.goto 8, 3) := by decide +kernel
theorem dX9_moveOf_82 : decode cX9_moveOf 82 = .ok (.iload 6, 2) := by decide +kernel
theorem dX9_moveOf_84 : decode cX9_moveOf 84 = .ok (.invokestatic 206, 3) := by decide +kernel
theorem dX9_moveOf_87 : decode cX9_moveOf 87 = .ok (.ireturn, 1) := by decide +kernel
theorem dX9_best_0 : decode cX9_best 0 = .ok (.aload_n 0, 1) := by decide +kernel
theorem dX9_best_1 : decode cX9_best 1 = .ok (.iload_n 1, 1) := by decide +kernel
theorem dX9_best_2 : decode cX9_best 2 = .ok (.invokevirtual 156, 3) := by decide +kernel
theorem dX9_best_5 : decode cX9_best 5 = .ok (.aload_n 0, 1) := by decide +kernel
theorem dX9_best_6 : decode cX9_best 6 = .ok (.getfield 39, 3) := by decide +kernel
theorem dX9_best_9 : decode cX9_best 9 = .ok (.aload_n 0, 1) := by decide +kernel
theorem dX9_best_10 : decode cX9_best 10 = .ok (.getfield 10, 3) := by decide +kernel
theorem dX9_best_13 : decode cX9_best 13 = .ok (.getfield 138, 3) := by decide +kernel
theorem dX9_best_16 : decode cX9_best 16 = .ok (.invokevirtual 182, 3) := by decide +kernel
theorem dX9_best_19 : decode cX9_best 19 = .ok (.aload_n 0, 1) := by decide +kernel
theorem dX9_best_20 : decode cX9_best 20 = .ok (.getfield 39, 3) := by decide +kernel
theorem dX9_best_23 : decode cX9_best 23 = .ok (.aload_n 0, 1) := by decide +kernel
theorem dX9_best_24 : decode cX9_best 24 = .ok (.getfield 10, 3) := by decide +kernel
theorem dX9_best_27 : decode cX9_best 27 = .ok (.getfield 138, 3) := by decide +kernel
theorem dX9_best_30 : decode cX9_best 30 = .ok (.iload_n 1, 1) := by decide +kernel
theorem dX9_best_31 : decode cX9_best 31 = .ok (.invokevirtual 209, 3) := by decide +kernel
theorem dX9_best_34 : decode cX9_best 34 = .ok (.istore_n 2, 1) := by decide +kernel
theorem dX9_best_35 : decode cX9_best 35 = .ok (.iload_n 2, 1) := by decide +kernel
theorem dX9_best_36 : decode cX9_best 36 = .ok (.iconst (-1), 1) := by decide +kernel
theorem dX9_best_37 : decode cX9_best 37 = .ok (.if_icmp .ne 13, 3) := by decide +kernel
theorem dX9_best_40 : decode cX9_best 40 = .ok (.new 128, 3) := by decide +kernel
theorem dX9_best_43 : decode cX9_best 43 = .ok (.dup, 1) := by decide +kernel
theorem dX9_best_44 : decode cX9_best 44 = .ok (.ldc 213, 2) := by decide +kernel
theorem dX9_best_46 : decode cX9_best 46 = .ok (.invokespecial 132, 3) := by decide +kernel
theorem dX9_best_49 : decode cX9_best 49 = .ok (.athrow, 1) := by decide +kernel
theorem dX9_best_50 : decode cX9_best 50 = .ok (.iload_n 2, 1) := by decide +kernel
