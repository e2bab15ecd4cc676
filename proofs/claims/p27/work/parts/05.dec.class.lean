theorem dX0_init_0 : decode cX0_init 0 = .ok (.aload_n 0, 1) := by decide +kernel
theorem dX0_init_1 : decode cX0_init 1 = .ok (.invokespecial 3, 3) := by decide +kernel
theorem dX0_init_4 : decode cX0_init 4 = .ok (.aload_n 0, 1) := by decide +kernel
theorem dX0_init_5 : decode cX0_init 5 = .ok (.sipush 160, 3) := by decide +kernel
theorem dX0_init_8 : decode cX0_init 8 = .ok (.newarray .int, 2) := by decide +kernel
theorem dX0_init_10 : decode cX0_init 10 = .ok (.putfield 9, 3) := by decide +kernel
theorem dX0_init_13 : decode cX0_init 13 = .ok (.aload_n 0, 1) := by decide +kernel
theorem dX0_init_14 : decode cX0_init 14 = .ok (.bipush 8, 2) := by decide +kernel
theorem dX0_init_16 : decode cX0_init 16 = .ok (.newarray .int, 2) := by decide +kernel
theorem dX0_init_18 : decode cX0_init 18 = .ok (.putfield 15, 3) := by decide +kernel
theorem dX0_init_21 : decode cX0_init 21 = .ok (.aload_n 0, 1) := by decide +kernel
theorem dX0_init_22 : decode cX0_init 22 = .ok (.bipush 8, 2) := by decide +kernel
theorem dX0_init_24 : decode cX0_init 24 = .ok (.newarray .int, 2) := by decide +kernel
theorem dX0_init_26 : decode cX0_init 26 = .ok (.putfield 18, 3) := by decide +kernel
theorem dX0_init_29 : decode cX0_init 29 = .ok (.aload_n 0, 1) := by decide +kernel
theorem dX0_init_30 : decode cX0_init 30 = .ok (.iconst 2, 1) := by decide +kernel
theorem dX0_init_31 : decode cX0_init 31 = .ok (.bipush 8, 2) := by decide +kernel
theorem dX0_init_33 : decode cX0_init 33 = .ok (.multianewarray 21 2, 4) := by decide +kernel
theorem dX0_init_37 : decode cX0_init 37 = .ok (.putfield 23, 3) := by decide +kernel
theorem dX0_init_40 : decode cX0_init 40 = .ok (.aload_n 0, 1) := by decide +kernel
theorem dX0_init_41 : decode cX0_init 41 = .ok (.aload_n 1, 1) := by decide +kernel
theorem dX0_init_42 : decode cX0_init 42 = .ok (.putfield 26, 3) := by decide +kernel
theorem dX0_init_45 : decode cX0_init 45 = .ok (.aload_n 0, 1) := by decide +kernel
theorem dX0_init_46 : decode cX0_init 46 = .ok (.getfield 9, 3) := by decide +kernel
theorem dX0_init_49 : decode cX0_init 49 = .ok (.iconst (-1), 1) := by decide +kernel
theorem dX0_init_50 : decode cX0_init 50 = .ok (.invokestatic 30, 3) := by decide +kernel
theorem dX0_init_53 : decode cX0_init 53 = .ok (.return_, 1) := by decide +kernel
theorem dX0_clearAll_0 : decode cX0_clearAll 0 = .ok (.aload_n 0, 1) := by decide +kernel
theorem dX0_clearAll_1 : decode cX0_clearAll 1 = .ok (.getfield 9, 3) := by decide +kernel
theorem dX0_clearAll_4 : decode cX0_clearAll 4 = .ok (.iconst (-1), 1) := by decide +kernel
theorem dX0_clearAll_5 : decode cX0_clearAll 5 = .ok (.invokestatic 30, 3) := by decide +kernel
theorem dX0_clearAll_8 : decode cX0_clearAll 8 = .ok (.aload_n 0, 1) := by decide +kernel
theorem dX0_clearAll_9 : decode cX0_clearAll 9 = .ok (.getfield 15, 3) := by decide +kernel
theorem dX0_clearAll_12 : decode cX0_clearAll 12 = .ok (.iconst 0, 1) := by decide +kernel
theorem dX0_clearAll_13 : decode cX0_clearAll 13 = .ok (.invokestatic 30, 3) := by decide +kernel
theorem dX0_clearAll_16 : decode cX0_clearAll 16 = .ok (.aload_n 0, 1) := by decide +kernel
theorem dX0_clearAll_17 : decode cX0_clearAll 17 = .ok (.getfield 18, 3) := by decide +kernel
theorem dX0_clearAll_20 : decode cX0_clearAll 20 = .ok (.iconst 0, 1) := by decide +kernel
theorem dX0_clearAll_21 : decode cX0_clearAll 21 = .ok (.invokestatic 30, 3) := by decide +kernel
theorem dX0_clearAll_24 : decode cX0_clearAll 24 = .ok (.iconst 0, 1) := by decide +kernel
theorem dX0_clearAll_25 : decode cX0_clearAll 25 = .ok (.istore_n 1, 1) := by decide +kernel
theorem dX0_clearAll_26 : decode cX0_clearAll 26 = .ok (.iload_n 1, 1) := by decide +kernel
theorem dX0_clearAll_27 : decode cX0_clearAll 27 = .ok (.iconst 2, 1) := by decide +kernel
theorem dX0_clearAll_28 : decode cX0_clearAll 28 = .ok (.if_icmp .ge 19, 3) := by decide +kernel
theorem dX0_clearAll_31 : decode cX0_clearAll 31 = .ok (.aload_n 0, 1) := by decide +kernel
theorem dX0_clearAll_32 : decode cX0_clearAll 32 = .ok (.getfield 23, 3) := by decide +kernel
theorem dX0_clearAll_35 : decode cX0_clearAll 35 = .ok (.iload_n 1, 1) := by decide +kernel
theorem dX0_clearAll_36 : decode cX0_clearAll 36 = .ok (.aaload, 1) := by decide +kernel
theorem dX0_clearAll_37 : decode cX0_clearAll 37 = .ok (.iconst 0, 1) := by decide +kernel
theorem dX0_clearAll_38 : decode cX0_clearAll 38 = .ok (.invokestatic 30, 3) := by decide +kernel
theorem dX0_clearAll_41 : decode cX0_clearAll 41 = .ok (.iinc 1 1, 3) := by decide +kernel
theorem dX0_clearAll_44 : decode cX0_clearAll 44 = .ok (.goto (-18), 3) := by decide +kernel
theorem dX0_clearAll_47 : decode cX0_clearAll 47 = .ok (.return_, 1) := by decide +kernel
theorem dX0_copyFrom_0 : decode cX0_copyFrom 0 = .ok (.aload_n 1, 1) := by decide +kernel
theorem dX0_copyFrom_1 : decode cX0_copyFrom 1 = .ok (.getfield 9, 3) := by decide +kernel
theorem dX0_copyFrom_4 : decode cX0_copyFrom 4 = .ok (.iconst 0, 1) := by decide +kernel
theorem dX0_copyFrom_5 : decode cX0_copyFrom 5 = .ok (.aload_n 0, 1) := by decide +kernel
theorem dX0_copyFrom_6 : decode cX0_copyFrom 6 = .ok (.getfield 9, 3) := by decide +kernel
theorem dX0_copyFrom_9 : decode cX0_copyFrom 9 = .ok (.iconst 0, 1) := by decide +kernel
theorem dX0_copyFrom_10 : decode cX0_copyFrom 10 = .ok (.sipush 160, 3) := by decide +kernel
theorem dX0_copyFrom_13 : decode cX0_copyFrom 13 = .ok (.invokestatic 36, 3) := by decide +kernel
theorem dX0_copyFrom_16 : decode cX0_copyFrom 16 = .ok (.aload_n 1, 1) := by decide +kernel
theorem dX0_copyFrom_17 : decode cX0_copyFrom 17 = .ok (.getfield 15, 3) := by decide +kernel
theorem dX0_copyFrom_20 : decode cX0_copyFrom 20 = .ok (.iconst 0, 1) := by decide +kernel
theorem dX0_copyFrom_21 : decode cX0_copyFrom 21 = .ok (.aload_n 0, 1) := by decide +kernel
theorem dX0_copyFrom_22 : decode cX0_copyFrom 22 = .ok (.getfield 15, 3) := by decide +kernel
theorem dX0_copyFrom_25 : decode cX0_copyFrom 25 = .ok (.iconst 0, 1) := by decide +kernel
theorem dX0_copyFrom_26 : decode cX0_copyFrom 26 = .ok (.bipush 8, 2) := by decide +kernel
theorem dX0_copyFrom_28 : decode cX0_copyFrom 28 = .ok (.invokestatic 36, 3) := by decide +kernel
theorem dX0_copyFrom_31 : decode cX0_copyFrom 31 = .ok (.aload_n 1, 1) := by decide +kernel
theorem dX0_copyFrom_32 : decode cX0_copyFrom 32 = .ok (.getfield 18, 3) := by decide +kernel
theorem dX0_copyFrom_35 : decode cX0_copyFrom 35 = .ok (.iconst 0, 1) := by decide +kernel
theorem dX0_copyFrom_36 : decode cX0_copyFrom 36 = .ok (.aload_n 0, 1) := by decide +kernel
theorem dX0_copyFrom_37 : decode cX0_copyFrom 37 = .ok (.getfield 18, 3) := by decide +kernel
theorem dX0_copyFrom_40 : decode cX0_copyFrom 40 = .ok (.iconst 0, 1) := by decide +kernel
theorem dX0_copyFrom_41 : decode cX0_copyFrom 41 = .ok (.bipush 8, 2) := by decide +kernel
theorem dX0_copyFrom_43 : decode cX0_copyFrom 43 = .ok (.invokestatic 36, 3) := by decide +kernel
theorem dX0_copyFrom_46 : decode cX0_copyFrom 46 = .ok (.iconst 0, 1) := by decide +kernel
theorem dX0_copyFrom_47 : decode cX0_copyFrom 47 = .ok (.istore_n 2, 1) := by decide +kernel
theorem dX0_copyFrom_48 : decode cX0_copyFrom 48 = .ok (.iload_n 2, 1) := by decide +kernel
theorem dX0_copyFrom_49 : decode cX0_copyFrom 49 = .ok (.iconst 2, 1) := by decide +kernel
theorem dX0_copyFrom_50 : decode cX0_copyFrom 50 = .ok (.if_icmp .ge 28, 3) := by decide +kernel
theorem dX0_copyFrom_53 : decode cX0_copyFrom 53 = .ok (.aload_n 1, 1) := by decide +kernel
theorem dX0_copyFrom_54 : decode cX0_copyFrom 54 = .ok (.getfield 23, 3) := by decide +kernel
theorem dX0_copyFrom_57 : decode cX0_copyFrom 57 = .ok (.iload_n 2, 1) := by decide +kernel
theorem dX0_copyFrom_58 : decode cX0_copyFrom 58 = .ok (.aaload, 1) := by decide +kernel
theorem dX0_copyFrom_59 : decode cX0_copyFrom 59 = .ok (.iconst 0, 1) := by decide +kernel
theorem dX0_copyFrom_60 : decode cX0_copyFrom 60 = .ok (.aload_n 0, 1) := by decide +kernel
theorem dX0_copyFrom_61 : decode cX0_copyFrom 61 = .ok (.getfield 23, 3) := by decide +kernel
theorem dX0_copyFrom_64 : decode cX0_copyFrom 64 = .ok (.iload_n 2, 1) := by decide +kernel
theorem dX0_copyFrom_65 : decode cX0_copyFrom 65 = .ok (.aaload, 1) := by decide +kernel
theorem dX0_copyFrom_66 : decode cX0_copyFrom 66 = .ok (.iconst 0, 1) := by decide +kernel
theorem dX0_copyFrom_67 : decode cX0_copyFrom 67 = .ok (.bipush 8, 2) := by decide +kernel
theorem dX0_copyFrom_69 : decode cX0_copyFrom 69 = .ok (.invokestatic 36, 3) := by decide +kernel
theorem dX0_copyFrom_72 : decode cX0_copyFrom 72 = .ok (.iinc 2 1, 3) := by decide +kernel
theorem dX0_copyFrom_75 : decode cX0_copyFrom 75 = .ok (.goto (-27), 3) := by decide +kernel
theorem dX0_copyFrom_78 : decode cX0_copyFrom 78 = .ok (.return_, 1) := by decide +kernel
theorem dX0_put_0 : decode cX0_put 0 = .ok (.aload_n 0, 1) := by decide +kernel
theorem dX0_put_1 : decode cX0_put 1 = .ok (.iload_n 2, 1) := by decide +kernel
theorem dX0_put_2 : decode cX0_put 2 = .ok (.aload_n 1, 1) := by decide +kernel
theorem dX0_put_3 : decode cX0_put 3 = .ok (.getfield 42, 3) := by decide +kernel
theorem dX0_put_6 : decode cX0_put 6 = .ok (.aload_n 1, 1) := by decide +kernel
theorem dX0_put_7 : decode cX0_put 7 = .ok (.getfield 48, 3) := by decide +kernel
theorem dX0_put_10 : decode cX0_put 10 = .ok (.invokevirtual 51, 3) := by decide +kernel
theorem dX0_put_13 : decode cX0_put 13 = .ok (.aload_n 0, 1) := by decide +kernel
theorem dX0_put_14 : decode cX0_put 14 = .ok (.iload_n 2, 1) := by decide +kernel
theorem dX0_put_15 : decode cX0_put 15 = .ok (.invokestatic 55, 3) := by decide +kernel
theorem dX0_put_18 : decode cX0_put 18 = .ok (.aload_n 1, 1) := by decide +kernel
theorem dX0_put_19 : decode cX0_put 19 = .ok (.iconst 1, 1) := by decide +kernel
theorem dX0_put_20 : decode cX0_put 20 = .ok (.invokevirtual 59, 3) := by decide +kernel
theorem dX0_put_23 : decode cX0_put 23 = .ok (.return_, 1) := by decide +kernel
theorem dX0_clear_0 : decode cX0_clear 0 = .ok (.aload_n 0, 1) := by decide +kernel
theorem dX0_clear_1 : decode cX0_clear 1 = .ok (.aload_n 1, 1) := by decide +kernel
theorem dX0_clear_2 : decode cX0_clear 2 = .ok (.getfield 63, 3) := by decide +kernel
theorem dX0_clear_5 : decode cX0_clear 5 = .ok (.aload_n 1, 1) := by decide +kernel
theorem dX0_clear_6 : decode cX0_clear 6 = .ok (.getfield 42, 3) := by decide +kernel
theorem dX0_clear_9 : decode cX0_clear 9 = .ok (.iconst (-1), 1) := by decide +kernel
theorem dX0_clear_10 : decode cX0_clear 10 = .ok (.invokevirtual 51, 3) := by decide +kernel
theorem dX0_clear_13 : decode cX0_clear 13 = .ok (.aload_n 0, 1) := by decide +kernel
theorem dX0_clear_14 : decode cX0_clear 14 = .ok (.aload_n 1, 1) := by decide +kernel
theorem dX0_clear_15 : decode cX0_clear 15 = .ok (.getfield 63, 3) := by decide +kernel
theorem dX0_clear_18 : decode cX0_clear 18 = .ok (.invokestatic 55, 3) := by decide +kernel
theorem dX0_clear_21 : decode cX0_clear 21 = .ok (.aload_n 1, 1) := by decide +kernel
theorem dX0_clear_22 : decode cX0_clear 22 = .ok (.iconst (-1), 1) := by decide +kernel
theorem dX0_clear_23 : decode cX0_clear 23 = .ok (.invokevirtual 59, 3) := by decide +kernel
theorem dX0_clear_26 : decode cX0_clear 26 = .ok (.return_, 1) := by decide +kernel
theorem dX0_fillCells_0 : decode cX0_fillCells 0 = .ok (.iload_n 1, 1) := by decide +kernel
theorem dX0_fillCells_1 : decode cX0_fillCells 1 = .ok (.istore 4, 2) := by decide +kernel
theorem dX0_fillCells_3 : decode cX0_fillCells 3 = .ok (.iload 4, 2) := by decide +kernel
theorem dX0_fillCells_5 : decode cX0_fillCells 5 = .ok (.iload_n 1, 1) := by decide +kernel
theorem dX0_fillCells_6 : decode cX0_fillCells 6 = .ok (.iload_n 2, 1) := by decide +kernel
theorem dX0_fillCells_7 : decode cX0_fillCells 7 = .ok (.iadd, 1) := by decide +kernel
theorem dX0_fillCells_8 : decode cX0_fillCells 8 = .ok (.if_icmp .ge 17, 3) := by decide +kernel
theorem dX0_fillCells_11 : decode cX0_fillCells 11 = .ok (.aload_n 0, 1) := by decide +kernel
theorem dX0_fillCells_12 : decode cX0_fillCells 12 = .ok (.getfield 9, 3) := by decide +kernel
theorem dX0_fillCells_15 : decode cX0_fillCells 15 = .ok (.iload 4, 2) := by decide +kernel
theorem dX0_fillCells_17 : decode cX0_fillCells 17 = .ok (.iload_n 3, 1) := by decide +kernel
theorem dX0_fillCells_18 : decode cX0_fillCells 18 = .ok (.iastore, 1) := by decide +kernel
theorem dX0_fillCells_19 : decode cX0_fillCells 19 = .ok (.iinc 4 1, 3) := by decide +kernel
theorem dX0_fillCells_22 : decode cX0_fillCells 22 = .ok (.goto (-19), 3) := by decide +kernel
theorem dX0_fillCells_25 : decode cX0_fillCells 25 = .ok (.return_, 1) := by decide +kernel
theorem dX0_addLoads_0 : decode cX0_addLoads 0 = .ok (.aload_n 0, 1) := by decide +kernel
theorem dX0_addLoads_1 : decode cX0_addLoads 1 = .ok (.getfield 15, 3) := by decide +kernel
theorem dX0_addLoads_4 : decode cX0_addLoads 4 = .ok (.iload_n 1, 1) := by decide +kernel
theorem dX0_addLoads_5 : decode cX0_addLoads 5 = .ok (.dup2, 1) := by decide +kernel
theorem dX0_addLoads_6 : decode cX0_addLoads 6 = .ok (.iaload, 1) := by decide +kernel
theorem dX0_addLoads_7 : decode cX0_addLoads 7 = .ok (.iload_n 3, 1) := by decide +kernel
theorem dX0_addLoads_8 : decode cX0_addLoads 8 = .ok (.aload_n 2, 1) := by decide +kernel
theorem dX0_addLoads_9 : decode cX0_addLoads 9 = .ok (.getfield 66, 3) := by decide +kernel
theorem dX0_addLoads_12 : decode cX0_addLoads 12 = .ok (.imul, 1) := by decide +kernel
theorem dX0_addLoads_13 : decode cX0_addLoads 13 = .ok (.iadd, 1) := by decide +kernel
theorem dX0_addLoads_14 : decode cX0_addLoads 14 = .ok (.iastore, 1) := by decide +kernel
theorem dX0_addLoads_15 : decode cX0_addLoads 15 = .ok (.aload_n 0, 1) := by decide +kernel
theorem dX0_addLoads_16 : decode cX0_addLoads 16 = .ok (.getfield 18, 3) := by decide +kernel
theorem dX0_addLoads_19 : decode cX0_addLoads 19 = .ok (.iload_n 1, 1) := by decide +kernel
theorem dX0_addLoads_20 : decode cX0_addLoads 20 = .ok (.dup2, 1) := by decide +kernel
theorem dX0_addLoads_21 : decode cX0_addLoads 21 = .ok (.iaload, 1) := by decide +kernel
theorem dX0_addLoads_22 : decode cX0_addLoads 22 = .ok (.iload_n 3, 1) := by decide +kernel
theorem dX0_addLoads_23 : decode cX0_addLoads 23 = .ok (.aload_n 2, 1) := by decide +kernel
theorem dX0_addLoads_24 : decode cX0_addLoads 24 = .ok (.getfield 68, 3) := by decide +kernel
theorem dX0_addLoads_27 : decode cX0_addLoads 27 = .ok (.imul, 1) := by decide +kernel
theorem dX0_addLoads_28 : decode cX0_addLoads 28 = .ok (.iadd, 1) := by decide +kernel
theorem dX0_addLoads_29 : decode cX0_addLoads 29 = .ok (.iastore, 1) := by decide +kernel
theorem dX0_addLoads_30 : decode cX0_addLoads 30 = .ok (.iconst 0, 1) := by decide +kernel
theorem dX0_addLoads_31 : decode cX0_addLoads 31 = .ok (.istore 4, 2) := by decide +kernel
theorem dX0_addLoads_33 : decode cX0_addLoads 33 = .ok (.iload 4, 2) := by decide +kernel
theorem dX0_addLoads_35 : decode cX0_addLoads 35 = .ok (.iconst 2, 1) := by decide +kernel
theorem dX0_addLoads_36 : decode cX0_addLoads 36 = .ok (.if_icmp .ge 29, 3) := by decide +kernel
theorem dX0_addLoads_39 : decode cX0_addLoads 39 = .ok (.aload_n 0, 1) := by decide +kernel
theorem dX0_addLoads_40 : decode cX0_addLoads 40 = .ok (.getfield 23, 3) := by decide +kernel
theorem dX0_addLoads_43 : decode cX0_addLoads 43 = .ok (.iload 4, 2) := by decide +kernel
theorem dX0_addLoads_45 : decode cX0_addLoads 45 = .ok (.aaload, 1) := by decide +kernel
theorem dX0_addLoads_46 : decode cX0_addLoads 46 = .ok (.iload_n 1, 1) := by decide +kernel
theorem dX0_addLoads_47 : decode cX0_addLoads 47 = .ok (.dup2, 1) := by decide +kernel
theorem dX0_addLoads_48 : decode cX0_addLoads 48 = .ok (.iaload, 1) := by decide +kernel
theorem dX0_addLoads_49 : decode cX0_addLoads 49 = .ok (.iload_n 3, 1) := by decide +kernel
theorem dX0_addLoads_50 : decode cX0_addLoads 50 = .ok (.aload_n 2, 1) := by decide +kernel
theorem dX0_addLoads_51 : decode cX0_addLoads 51 = .ok (.iload 4, 2) := by decide +kernel
theorem dX0_addLoads_53 : decode cX0_addLoads 53 = .ok (.invokevirtual 71, 3) := by decide +kernel
theorem dX0_addLoads_56 : decode cX0_addLoads 56 = .ok (.imul, 1) := by decide +kernel
theorem dX0_addLoads_57 : decode cX0_addLoads 57 = .ok (.iadd, 1) := by decide +kernel
theorem dX0_addLoads_58 : decode cX0_addLoads 58 = .ok (.iastore, 1) := by decide +kernel
theorem dX0_addLoads_59 : decode cX0_addLoads 59 = .ok (.iinc 4 1, 3) := by decide +kernel
theorem dX0_addLoads_62 : decode cX0_addLoads 62 = .ok (.goto (-29), 3) := by decide +kernel
theorem dX0_addLoads_65 : decode cX0_addLoads 65 = .ok (.return_, 1) := by decide +kernel
theorem dX0_changeCords_0 : decode cX0_changeCords 0 = .ok (.aload_n 1, 1) := by decide +kernel
theorem dX0_changeCords_1 : decode cX0_changeCords 1 = .ok (.getfield 63, 3) := by decide +kernel
theorem dX0_changeCords_4 : decode cX0_changeCords 4 = .ok (.invokestatic 55, 3) := by decide +kernel
theorem dX0_changeCords_7 : decode cX0_changeCords 7 = .ok (.istore_n 3, 1) := by decide +kernel
theorem dX0_changeCords_8 : decode cX0_changeCords 8 = .ok (.iconst 0, 1) := by decide +kernel
theorem dX0_changeCords_9 : decode cX0_changeCords 9 = .ok (.istore 4, 2) := by decide +kernel
theorem dX0_changeCords_11 : decode cX0_changeCords 11 = .ok (.iload 4, 2) := by decide +kernel
theorem dX0_changeCords_13 : decode cX0_changeCords 13 = .ok (.iconst 2, 1) := by decide +kernel
theorem dX0_changeCords_14 : decode cX0_changeCords 14 = .ok (.if_icmp .ge 35, 3) := by decide +kernel
theorem dX0_changeCords_17 : decode cX0_changeCords 17 = .ok (.aload_n 0, 1) := by decide +kernel
theorem dX0_changeCords_18 : decode cX0_changeCords 18 = .ok (.getfield 23, 3) := by decide +kernel
theorem dX0_changeCords_21 : decode cX0_changeCords 21 = .ok (.iload 4, 2) := by decide +kernel
theorem dX0_changeCords_23 : decode cX0_changeCords 23 = .ok (.aaload, 1) := by decide +kernel
theorem dX0_changeCords_24 : decode cX0_changeCords 24 = .ok (.iload_n 3, 1) := by decide +kernel
theorem dX0_changeCords_25 : decode cX0_changeCords 25 = .ok (.dup2, 1) := by decide +kernel
theorem dX0_changeCords_26 : decode cX0_changeCords 26 = .ok (.iaload, 1) := by decide +kernel
theorem dX0_changeCords_27 : decode cX0_changeCords 27 = .ok (.aload_n 1, 1) := by decide +kernel
theorem dX0_changeCords_28 : decode cX0_changeCords 28 = .ok (.iload 4, 2) := by decide +kernel
theorem dX0_changeCords_30 : decode cX0_changeCords 30 = .ok (.iload_n 2, 1) := by decide +kernel
theorem dX0_changeCords_31 : decode cX0_changeCords 31 = .ok (.invokevirtual 74, 3) := by decide +kernel
theorem dX0_changeCords_34 : decode cX0_changeCords 34 = .ok (.aload_n 1, 1) := by decide +kernel
theorem dX0_changeCords_35 : decode cX0_changeCords 35 = .ok (.iload 4, 2) := by decide +kernel
theorem dX0_changeCords_37 : decode cX0_changeCords 37 = .ok (.invokevirtual 71, 3) := by decide +kernel
theorem dX0_changeCords_40 : decode cX0_changeCords 40 = .ok (.isub, 1) := by decide +kernel
theorem dX0_changeCords_41 : decode cX0_changeCords 41 = .ok (.iadd, 1) := by decide +kernel
theorem dX0_changeCords_42 : decode cX0_changeCords 42 = .ok (.iastore, 1) := by decide +kernel
theorem dX0_changeCords_43 : decode cX0_changeCords 43 = .ok (.iinc 4 1, 3) := by decide +kernel
theorem dX0_changeCords_46 : decode cX0_changeCords 46 = .ok (.goto (-35), 3) := by decide +kernel
theorem dX0_changeCords_49 : decode cX0_changeCords 49 = .ok (.aload_n 1, 1) := by decide +kernel
theorem dX0_changeCords_50 : decode cX0_changeCords 50 = .ok (.iload_n 2, 1) := by decide +kernel
theorem dX0_changeCords_51 : decode cX0_changeCords 51 = .ok (.putfield 78, 3) := by decide +kernel
theorem dX0_changeCords_54 : decode cX0_changeCords 54 = .ok (.return_, 1) := by decide +kernel
theorem dX0_firstFrom_0 : decode cX0_firstFrom 0 = .ok (.iload_n 1, 1) := by decide +kernel
theorem dX0_firstFrom_1 : decode cX0_firstFrom 1 = .ok (.istore_n 2, 1) := by decide +kernel
theorem dX0_firstFrom_2 : decode cX0_firstFrom 2 = .ok (.iload_n 2, 1) := by decide +kernel
theorem dX0_firstFrom_3 : decode cX0_firstFrom 3 = .ok (.sipush 160, 3) := by decide +kernel
theorem dX0_firstFrom_6 : decode cX0_firstFrom 6 = .ok (.if_icmp .ge 26, 3) := by decide +kernel
theorem dX0_firstFrom_9 : decode cX0_firstFrom 9 = .ok (.aload_n 0, 1) := by decide +kernel
theorem dX0_firstFrom_10 : decode cX0_firstFrom 10 = .ok (.getfield 9, 3) := by decide +kernel
theorem dX0_firstFrom_13 : decode cX0_firstFrom 13 = .ok (.iload_n 2, 1) := by decide +kernel
theorem dX0_firstFrom_14 : decode cX0_firstFrom 14 = .ok (.iaload, 1) := by decide +kernel
theorem dX0_firstFrom_15 : decode cX0_firstFrom 15 = .ok (.iconst (-1), 1) := by decide +kernel
theorem dX0_firstFrom_16 : decode cX0_firstFrom 16 = .ok (.if_icmp .eq 10, 3) := by decide +kernel
theorem dX0_firstFrom_19 : decode cX0_firstFrom 19 = .ok (.aload_n 0, 1) := by decide +kernel
theorem dX0_firstFrom_20 : decode cX0_firstFrom 20 = .ok (.getfield 9, 3) := by decide +kernel
theorem dX0_firstFrom_23 : decode cX0_firstFrom 23 = .ok (.iload_n 2, 1) := by decide +kernel
theorem dX0_firstFrom_24 : decode cX0_firstFrom 24 = .ok (.iaload, 1) := by decide +kernel
theorem dX0_firstFrom_25 : decode cX0_firstFrom 25 = .ok (.ireturn, 1) := by decide +kernel
theorem dX0_firstFrom_26 : decode cX0_firstFrom 26 = .ok (.iinc 2 1, 3) := by decide +kernel
theorem dX0_firstFrom_29 : decode cX0_firstFrom 29 = .ok (.goto (-27), 3) := by decide +kernel
theorem dX0_firstFrom_32 : decode cX0_firstFrom 32 = .ok (.iconst (-1), 1) := by decide +kernel
theorem dX0_firstFrom_33 : decode cX0_firstFrom 33 = .ok (.ireturn, 1) := by decide +kernel
theorem dX0_weightInRow_0 : decode cX0_weightInRow 0 = .ok (.aload_n 0, 1) := by decide +kernel
theorem dX0_weightInRow_1 : decode cX0_weightInRow 1 = .ok (.iload_n 1, 1) := by decide +kernel
theorem dX0_weightInRow_2 : decode cX0_weightInRow 2 = .ok (.aload_n 0, 1) := by decide +kernel
theorem dX0_weightInRow_3 : decode cX0_weightInRow 3 = .ok (.getfield 15, 3) := by decide +kernel
theorem dX0_weightInRow_6 : decode cX0_weightInRow 6 = .ok (.invokevirtual 81, 3) := by decide +kernel
theorem dX0_weightInRow_9 : decode cX0_weightInRow 9 = .ok (.ireturn, 1) := by decide +kernel
theorem dX0_heatInRow_0 : decode cX0_heatInRow 0 = .ok (.aload_n 0, 1) := by decide +kernel
theorem dX0_heatInRow_1 : decode cX0_heatInRow 1 = .ok (.iload_n 1, 1) := by decide +kernel
theorem dX0_heatInRow_2 : decode cX0_heatInRow 2 = .ok (.aload_n 0, 1) := by decide +kernel
theorem dX0_heatInRow_3 : decode cX0_heatInRow 3 = .ok (.getfield 18, 3) := by decide +kernel
theorem dX0_heatInRow_6 : decode cX0_heatInRow 6 = .ok (.invokevirtual 81, 3) := by decide +kernel
theorem dX0_heatInRow_9 : decode cX0_heatInRow 9 = .ok (.ireturn, 1) := by decide +kernel
theorem dX0_sumInRow_0 : decode cX0_sumInRow 0 = .ok (.iconst 0, 1) := by decide +kernel
theorem dX0_sumInRow_1 : decode cX0_sumInRow 1 = .ok (.istore_n 3, 1) := by decide +kernel
theorem dX0_sumInRow_2 : decode cX0_sumInRow 2 = .ok (.iconst 0, 1) := by decide +kernel
theorem dX0_sumInRow_3 : decode cX0_sumInRow 3 = .ok (.istore 4, 2) := by decide +kernel
theorem dX0_sumInRow_5 : decode cX0_sumInRow 5 = .ok (.iload 4, 2) := by decide +kernel
theorem dX0_sumInRow_7 : decode cX0_sumInRow 7 = .ok (.aload_n 0, 1) := by decide +kernel
theorem dX0_sumInRow_8 : decode cX0_sumInRow 8 = .ok (.getfield 26, 3) := by decide +kernel
theorem dX0_sumInRow_11 : decode cX0_sumInRow 11 = .ok (.getfield 85, 3) := by decide +kernel
theorem dX0_sumInRow_14 : decode cX0_sumInRow 14 = .ok (.invokevirtual 91, 3) := by decide +kernel
theorem dX0_sumInRow_17 : decode cX0_sumInRow 17 = .ok (.if_icmp .ge 38, 3) := by decide +kernel
theorem dX0_sumInRow_20 : decode cX0_sumInRow 20 = .ok (.aload_n 0, 1) := by decide +kernel
theorem dX0_sumInRow_21 : decode cX0_sumInRow 21 = .ok (.getfield 26, 3) := by decide +kernel
theorem dX0_sumInRow_24 : decode cX0_sumInRow 24 = .ok (.getfield 85, 3) := by decide +kernel
theorem dX0_sumInRow_27 : decode cX0_sumInRow 27 = .ok (.iload 4, 2) := by decide +kernel
theorem dX0_sumInRow_29 : decode cX0_sumInRow 29 = .ok (.invokevirtual 97, 3) := by decide +kernel
theorem dX0_sumInRow_32 : decode cX0_sumInRow 32 = .ok (.checkcast 101, 3) := by decide +kernel
theorem dX0_sumInRow_35 : decode cX0_sumInRow 35 = .ok (.getfield 103, 3) := by decide +kernel
theorem dX0_sumInRow_38 : decode cX0_sumInRow 38 = .ok (.iload_n 1, 1) := by decide +kernel
theorem dX0_sumInRow_39 : decode cX0_sumInRow 39 = .ok (.if_icmp .ne 10, 3) := by decide +kernel
theorem dX0_sumInRow_42 : decode cX0_sumInRow 42 = .ok (.iload_n 3, 1) := by decide +kernel
theorem dX0_sumInRow_43 : decode cX0_sumInRow 43 = .ok (.aload_n 2, 1) := by decide +kernel
theorem dX0_sumInRow_44 : decode cX0_sumInRow 44 = .ok (.iload 4, 2) := by decide +kernel
theorem dX0_sumInRow_46 : decode cX0_sumInRow 46 = .ok (.iaload, 1) := by decide +kernel
theorem dX0_sumInRow_47 : decode cX0_sumInRow 47 = .ok (.iadd, 1) := by decide +kernel
theorem dX0_sumInRow_48 : decode cX0_sumInRow 48 = .ok (.istore_n 3, 1) := by decide +kernel
theorem dX0_sumInRow_49 : decode cX0_sumInRow 49 = .ok (.iinc 4 1, 3) := by decide +kernel
theorem dX0_sumInRow_52 : decode cX0_sumInRow 52 = .ok (.goto (-47), 3) := by decide +kernel
theorem dX0_sumInRow_55 : decode cX0_sumInRow 55 = .ok (.iload_n 3, 1) := by decide +kernel
theorem dX0_sumInRow_56 : decode cX0_sumInRow 56 = .ok (.ireturn, 1) := by decide +kernel
theorem dX0_worstOnFeed_0 : decode cX0_worstOnFeed 0 = .ok (.iconst 0, 1) := by decide +kernel
theorem dX0_worstOnFeed_1 : decode cX0_worstOnFeed 1 = .ok (.istore_n 2, 1) := by decide +kernel
theorem dX0_worstOnFeed_2 : decode cX0_worstOnFeed 2 = .ok (.iconst 0, 1) := by decide +kernel
theorem dX0_worstOnFeed_3 : decode cX0_worstOnFeed 3 = .ok (.istore_n 3, 1) := by decide +kernel
theorem dX0_worstOnFeed_4 : decode cX0_worstOnFeed 4 = .ok (.iload_n 3, 1) := by decide +kernel
theorem dX0_worstOnFeed_5 : decode cX0_worstOnFeed 5 = .ok (.aload_n 0, 1) := by decide +kernel
theorem dX0_worstOnFeed_6 : decode cX0_worstOnFeed 6 = .ok (.getfield 26, 3) := by decide +kernel
theorem dX0_worstOnFeed_9 : decode cX0_worstOnFeed 9 = .ok (.getfield 85, 3) := by decide +kernel
theorem dX0_worstOnFeed_12 : decode cX0_worstOnFeed 12 = .ok (.invokevirtual 91, 3) := by decide +kernel
theorem dX0_worstOnFeed_15 : decode cX0_worstOnFeed 15 = .ok (.if_icmp .ge 20, 3) := by decide +kernel
theorem dX0_worstOnFeed_18 : decode cX0_worstOnFeed 18 = .ok (.iload_n 2, 1) := by decide +kernel
theorem dX0_worstOnFeed_19 : decode cX0_worstOnFeed 19 = .ok (.aload_n 0, 1) := by decide +kernel
theorem dX0_worstOnFeed_20 : decode cX0_worstOnFeed 20 = .ok (.getfield 23, 3) := by decide +kernel
theorem dX0_worstOnFeed_23 : decode cX0_worstOnFeed 23 = .ok (.iload_n 1, 1) := by decide +kernel
theorem dX0_worstOnFeed_24 : decode cX0_worstOnFeed 24 = .ok (.aaload, 1) := by decide +kernel
theorem dX0_worstOnFeed_25 : decode cX0_worstOnFeed 25 = .ok (.iload_n 3, 1) := by decide +kernel
theorem dX0_worstOnFeed_26 : decode cX0_worstOnFeed 26 = .ok (.iaload, 1) := by decide +kernel
theorem dX0_worstOnFeed_27 : decode cX0_worstOnFeed 27 = .ok (.iadd, 1) := by decide +kernel
theorem dX0_worstOnFeed_28 : decode cX0_worstOnFeed 28 = .ok (.istore_n 2, 1) := by decide +kernel
theorem dX0_worstOnFeed_29 : decode cX0_worstOnFeed 29 = .ok (.iinc 3 1, 3) := by decide +kernel
theorem dX0_worstOnFeed_32 : decode cX0_worstOnFeed 32 = .ok (.goto (-28), 3) := by decide +kernel
theorem dX0_worstOnFeed_35 : decode cX0_worstOnFeed 35 = .ok (.iload_n 2, 1) := by decide +kernel
theorem dX0_worstOnFeed_36 : decode cX0_worstOnFeed 36 = .ok (.ireturn, 1) := by decide +kernel
theorem dX0_firstFit_0 : decode cX0_firstFit 0 = .ok (.iconst 0, 1) := by decide +kernel
theorem dX0_firstFit_1 : decode cX0_firstFit 1 = .ok (.istore_n 2, 1) := by decide +kernel
theorem dX0_firstFit_2 : decode cX0_firstFit 2 = .ok (.iload_n 2, 1) := by decide +kernel
theorem dX0_firstFit_3 : decode cX0_firstFit 3 = .ok (.aload_n 0, 1) := by decide +kernel
theorem dX0_firstFit_4 : decode cX0_firstFit 4 = .ok (.getfield 26, 3) := by decide +kernel
theorem dX0_firstFit_7 : decode cX0_firstFit 7 = .ok (.getfield 85, 3) := by decide +kernel
theorem dX0_firstFit_10 : decode cX0_firstFit 10 = .ok (.invokevirtual 91, 3) := by decide +kernel
theorem dX0_firstFit_13 : decode cX0_firstFit 13 = .ok (.if_icmp .ge 23, 3) := by decide +kernel
theorem dX0_firstFit_16 : decode cX0_firstFit 16 = .ok (.aload_n 0, 1) := by decide +kernel
theorem dX0_firstFit_17 : decode cX0_firstFit 17 = .ok (.iload_n 2, 1) := by decide +kernel
theorem dX0_firstFit_18 : decode cX0_firstFit 18 = .ok (.aload_n 1, 1) := by decide +kernel
theorem dX0_firstFit_19 : decode cX0_firstFit 19 = .ok (.invokevirtual 106, 3) := by decide +kernel
theorem dX0_firstFit_22 : decode cX0_firstFit 22 = .ok (.istore_n 3, 1) := by decide +kernel
theorem dX0_firstFit_23 : decode cX0_firstFit 23 = .ok (.iload_n 3, 1) := by decide +kernel
theorem dX0_firstFit_24 : decode cX0_firstFit 24 = .ok (.iconst (-1), 1) := by decide +kernel
theorem dX0_firstFit_25 : decode cX0_firstFit 25 = .ok (.if_icmp .eq 5, 3) := by decide +kernel
theorem dX0_firstFit_28 : decode cX0_firstFit 28 = .ok (.iload_n 3, 1) := by decide +kernel
theorem dX0_firstFit_29 : decode cX0_firstFit 29 = .ok (.ireturn, 1) := by decide +kernel
theorem dX0_firstFit_30 : decode cX0_firstFit 30 = .ok (.iinc 2 1, 3) := by decide +kernel
theorem dX0_firstFit_33 : decode cX0_firstFit 33 = .ok (.goto (-31), 3) := by decide +kernel
theorem dX0_firstFit_36 : decode cX0_firstFit 36 = .ok (.iconst (-1), 1) := by decide +kernel
theorem dX0_firstFit_37 : decode cX0_firstFit 37 = .ok (.ireturn, 1) := by decide +kernel
theorem dX0_fitIn_0 : decode cX0_fitIn 0 = .ok (.aload_n 0, 1) := by decide +kernel
theorem dX0_fitIn_1 : decode cX0_fitIn 1 = .ok (.iload_n 1, 1) := by decide +kernel
theorem dX0_fitIn_2 : decode cX0_fitIn 2 = .ok (.aload_n 2, 1) := by decide +kernel
theorem dX0_fitIn_3 : decode cX0_fitIn 3 = .ok (.invokevirtual 110, 3) := by decide +kernel
theorem dX0_fitIn_6 : decode cX0_fitIn 6 = .ok (.ifCond .eq 15, 3) := by decide +kernel
theorem dX0_fitIn_9 : decode cX0_fitIn 9 = .ok (.aload_n 0, 1) := by decide +kernel
theorem dX0_fitIn_10 : decode cX0_fitIn 10 = .ok (.iload_n 1, 1) := by decide +kernel
theorem dX0_fitIn_11 : decode cX0_fitIn 11 = .ok (.aload_n 2, 1) := by decide +kernel
theorem dX0_fitIn_12 : decode cX0_fitIn 12 = .ok (.getfield 42, 3) := by decide +kernel
theorem dX0_fitIn_15 : decode cX0_fitIn 15 = .ok (.invokevirtual 114, 3) := by decide +kernel
theorem dX0_fitIn_18 : decode cX0_fitIn 18 = .ok (.goto 4, 3) := by decide +kernel
theorem dX0_fitIn_21 : decode cX0_fitIn 21 = .ok (.iconst (-1), 1) := by decide +kernel
theorem dX0_fitIn_22 : decode cX0_fitIn 22 = .ok (.ireturn, 1) := by decide +kernel
theorem dX0_fillUp_0 : decode cX0_fillUp 0 = .ok (.iconst 0, 1) := by decide +kernel
theorem dX0_fillUp_1 : decode cX0_fillUp 1 = .ok (.istore_n 3, 1) := by decide +kernel
theorem dX0_fillUp_2 : decode cX0_fillUp 2 = .ok (.iload_n 3, 1) := by decide +kernel
theorem dX0_fillUp_3 : decode cX0_fillUp 3 = .ok (.bipush 20, 2) := by decide +kernel
theorem dX0_fillUp_5 : decode cX0_fillUp 5 = .ok (.if_icmp .ge 32, 3) := by decide +kernel
theorem dX0_fillUp_8 : decode cX0_fillUp 8 = .ok (.aload_n 0, 1) := by decide +kernel
theorem dX0_fillUp_9 : decode cX0_fillUp 9 = .ok (.iload_n 1, 1) := by decide +kernel
theorem dX0_fillUp_10 : decode cX0_fillUp 10 = .ok (.aload_n 2, 1) := by decide +kernel
theorem dX0_fillUp_11 : decode cX0_fillUp 11 = .ok (.invokevirtual 106, 3) := by decide +kernel
theorem dX0_fillUp_14 : decode cX0_fillUp 14 = .ok (.istore 4, 2) := by decide +kernel
theorem dX0_fillUp_16 : decode cX0_fillUp 16 = .ok (.iload 4, 2) := by decide +kernel
theorem dX0_fillUp_18 : decode cX0_fillUp 18 = .ok (.iconst (-1), 1) := by decide +kernel
theorem dX0_fillUp_19 : decode cX0_fillUp 19 = .ok (.if_icmp .ne 5, 3) := by decide +kernel
theorem dX0_fillUp_22 : decode cX0_fillUp 22 = .ok (.iload_n 3, 1) := by decide +kernel
theorem dX0_fillUp_23 : decode cX0_fillUp 23 = .ok (.ireturn, 1) := by decide +kernel
theorem dX0_fillUp_24 : decode cX0_fillUp 24 = .ok (.aload_n 0, 1) := by decide +kernel
theorem dX0_fillUp_25 : decode cX0_fillUp 25 = .ok (.aload_n 2, 1) := by decide +kernel
theorem dX0_fillUp_26 : decode cX0_fillUp 26 = .ok (.iload 4, 2) := by decide +kernel
theorem dX0_fillUp_28 : decode cX0_fillUp 28 = .ok (.invokevirtual 117, 3) := by decide +kernel
theorem dX0_fillUp_31 : decode cX0_fillUp 31 = .ok (.iinc 3 1, 3) := by decide +kernel
theorem dX0_fillUp_34 : decode cX0_fillUp 34 = .ok (.goto (-32), 3) := by decide +kernel
theorem dX0_fillUp_37 : decode cX0_fillUp 37 = .ok (.bipush 20, 2) := by decide +kernel
theorem dX0_fillUp_39 : decode cX0_fillUp 39 = .ok (.ireturn, 1) := by decide +kernel
theorem dX0_bears_0 : decode cX0_bears 0 = .ok (.aload_n 0, 1) := by decide +kernel
theorem dX0_bears_1 : decode cX0_bears 1 = .ok (.getfield 26, 3) := by decide +kernel
theorem dX0_bears_4 : decode cX0_bears 4 = .ok (.getfield 85, 3) := by decide +kernel
theorem dX0_bears_7 : decode cX0_bears 7 = .ok (.iload_n 1, 1) := by decide +kernel
theorem dX0_bears_8 : decode cX0_bears 8 = .ok (.invokevirtual 97, 3) := by decide +kernel
theorem dX0_bears_11 : decode cX0_bears 11 = .ok (.checkcast 101, 3) := by decide +kernel
theorem dX0_bears_14 : decode cX0_bears 14 = .ok (.astore_n 3, 1) := by decide +kernel
theorem dX0_bears_15 : decode cX0_bears 15 = .ok (.aload_n 3, 1) := by decide +kernel
theorem dX0_bears_16 : decode cX0_bears 16 = .ok (.getfield 103, 3) := by decide +kernel
theorem dX0_bears_19 : decode cX0_bears 19 = .ok (.istore 4, 2) := by decide +kernel
theorem dX0_bears_21 : decode cX0_bears 21 = .ok (.aload_n 0, 1) := by decide +kernel
theorem dX0_bears_22 : decode cX0_bears 22 = .ok (.getfield 15, 3) := by decide +kernel
theorem dX0_bears_25 : decode cX0_bears 25 = .ok (.iload_n 1, 1) := by decide +kernel
theorem dX0_bears_26 : decode cX0_bears 26 = .ok (.iaload, 1) := by decide +kernel
theorem dX0_bears_27 : decode cX0_bears 27 = .ok (.aload_n 2, 1) := by decide +kernel
theorem dX0_bears_28 : decode cX0_bears 28 = .ok (.getfield 66, 3) := by decide +kernel
theorem dX0_bears_31 : decode cX0_bears 31 = .ok (.iadd, 1) := by decide +kernel
theorem dX0_bears_32 : decode cX0_bears 32 = .ok (.aload_n 3, 1) := by decide +kernel
theorem dX0_bears_33 : decode cX0_bears 33 = .ok (.getfield 121, 3) := by decide +kernel
theorem dX0_bears_36 : decode cX0_bears 36 = .ok (.if_icmp .gt 83, 3) := by decide +kernel
theorem dX0_bears_39 : decode cX0_bears 39 = .ok (.aload_n 0, 1) := by decide +kernel
theorem dX0_bears_40 : decode cX0_bears 40 = .ok (.iload 4, 2) := by decide +kernel
theorem dX0_bears_42 : decode cX0_bears 42 = .ok (.invokevirtual 124, 3) := by decide +kernel
theorem dX0_bears_45 : decode cX0_bears 45 = .ok (.aload_n 2, 1) := by decide +kernel
theorem dX0_bears_46 : decode cX0_bears 46 = .ok (.getfield 66, 3) := by decide +kernel
theorem dX0_bears_49 : decode cX0_bears 49 = .ok (.iadd, 1) := by decide +kernel
theorem dX0_bears_50 : decode cX0_bears 50 = .ok (.aload_n 0, 1) := by decide +kernel
theorem dX0_bears_51 : decode cX0_bears 51 = .ok (.getfield 26, 3) := by decide +kernel
theorem dX0_bears_54 : decode cX0_bears 54 = .ok (.getfield 127, 3) := by decide +kernel
theorem dX0_bears_57 : decode cX0_bears 57 = .ok (.iload 4, 2) := by decide +kernel
theorem dX0_bears_59 : decode cX0_bears 59 = .ok (.iaload, 1) := by decide +kernel
theorem dX0_bears_60 : decode cX0_bears 60 = .ok (.if_icmp .gt 59, 3) := by decide +kernel
theorem dX0_bears_63 : decode cX0_bears 63 = .ok (.aload_n 0, 1) := by decide +kernel
theorem dX0_bears_64 : decode cX0_bears 64 = .ok (.iload 4, 2) := by decide +kernel
theorem dX0_bears_66 : decode cX0_bears 66 = .ok (.invokevirtual 130, 3) := by decide +kernel
theorem dX0_bears_69 : decode cX0_bears 69 = .ok (.aload_n 2, 1) := by decide +kernel
theorem dX0_bears_70 : decode cX0_bears 70 = .ok (.getfield 68, 3) := by decide +kernel
theorem dX0_bears_73 : decode cX0_bears 73 = .ok (.iadd, 1) := by decide +kernel
theorem dX0_bears_74 : decode cX0_bears 74 = .ok (.aload_n 0, 1) := by decide +kernel
theorem dX0_bears_75 : decode cX0_bears 75 = .ok (.getfield 26, 3) := by decide +kernel
theorem dX0_bears_78 : decode cX0_bears 78 = .ok (.getfield 133, 3) := by decide +kernel
theorem dX0_bears_81 : decode cX0_bears 81 = .ok (.iload 4, 2) := by decide +kernel
theorem dX0_bears_83 : decode cX0_bears 83 = .ok (.iaload, 1) := by decide +kernel
theorem dX0_bears_84 : decode cX0_bears 84 = .ok (.if_icmp .gt 35, 3) := by decide +kernel
theorem dX0_bears_87 : decode cX0_bears 87 = .ok (.aload_n 0, 1) := by decide +kernel
theorem dX0_bears_88 : decode cX0_bears 88 = .ok (.iload_n 1, 1) := by decide +kernel
theorem dX0_bears_89 : decode cX0_bears 89 = .ok (.iconst 0, 1) := by decide +kernel
theorem dX0_bears_90 : decode cX0_bears 90 = .ok (.aload_n 2, 1) := by decide +kernel
theorem dX0_bears_91 : decode cX0_bears 91 = .ok (.iconst 0, 1) := by decide +kernel
theorem dX0_bears_92 : decode cX0_bears 92 = .ok (.invokevirtual 71, 3) := by decide +kernel
theorem dX0_bears_95 : decode cX0_bears 95 = .ok (.invokevirtual 136, 3) := by decide +kernel
theorem dX0_bears_98 : decode cX0_bears 98 = .ok (.ifCond .eq 21, 3) := by decide +kernel
theorem dX0_bears_101 : decode cX0_bears 101 = .ok (.aload_n 0, 1) := by decide +kernel
theorem dX0_bears_102 : decode cX0_bears 102 = .ok (.iload_n 1, 1) := by decide +kernel
theorem dX0_bears_103 : decode cX0_bears 103 = .ok (.iconst 1, 1) := by decide +kernel
theorem dX0_bears_104 : decode cX0_bears 104 = .ok (.aload_n 2, 1) := by decide +kernel
theorem dX0_bears_105 : decode cX0_bears 105 = .ok (.iconst 1, 1) := by decide +kernel
theorem dX0_bears_106 : decode cX0_bears 106 = .ok (.invokevirtual 71, 3) := by decide +kernel
theorem dX0_bears_109 : decode cX0_bears 109 = .ok (.invokevirtual 136, 3) := by decide +kernel
theorem dX0_bears_112 : decode cX0_bears 112 = .ok (.ifCond .eq 7, 3) := by decide +kernel
theorem dX0_bears_115 : decode cX0_bears 115 = .ok (.iconst 1, 1) := by decide +kernel
theorem dX0_bears_116 : decode cX0_bears 116 = .ok (.goto 4, 3) := by decide +kernel
theorem dX0_bears_119 : decode cX0_bears 119 = .ok (.iconst 0, 1) := by decide +kernel
theorem dX0_bears_120 : decode cX0_bears 120 = .ok (.ireturn, 1) := by decide +kernel
theorem dX0_bearsCords_0 : decode cX0_bearsCords 0 = .ok (.aload_n 1, 1) := by decide +kernel
theorem dX0_bearsCords_1 : decode cX0_bearsCords 1 = .ok (.getfield 63, 3) := by decide +kernel
theorem dX0_bearsCords_4 : decode cX0_bearsCords 4 = .ok (.invokestatic 55, 3) := by decide +kernel
theorem dX0_bearsCords_7 : decode cX0_bearsCords 7 = .ok (.istore_n 3, 1) := by decide +kernel
theorem dX0_bearsCords_8 : decode cX0_bearsCords 8 = .ok (.aload_n 0, 1) := by decide +kernel
theorem dX0_bearsCords_9 : decode cX0_bearsCords 9 = .ok (.iload_n 3, 1) := by decide +kernel
theorem dX0_bearsCords_10 : decode cX0_bearsCords 10 = .ok (.iconst 0, 1) := by decide +kernel
theorem dX0_bearsCords_11 : decode cX0_bearsCords 11 = .ok (.aload_n 1, 1) := by decide +kernel
theorem dX0_bearsCords_12 : decode cX0_bearsCords 12 = .ok (.iconst 0, 1) := by decide +kernel
theorem dX0_bearsCords_13 : decode cX0_bearsCords 13 = .ok (.iload_n 2, 1) := by decide +kernel
theorem dX0_bearsCords_14 : decode cX0_bearsCords 14 = .ok (.invokevirtual 74, 3) := by decide +kernel
theorem dX0_bearsCords_17 : decode cX0_bearsCords 17 = .ok (.aload_n 1, 1) := by decide +kernel
theorem dX0_bearsCords_18 : decode cX0_bearsCords 18 = .ok (.iconst 0, 1) := by decide +kernel
theorem dX0_bearsCords_19 : decode cX0_bearsCords 19 = .ok (.invokevirtual 71, 3) := by decide +kernel
theorem dX0_bearsCords_22 : decode cX0_bearsCords 22 = .ok (.isub, 1) := by decide +kernel
theorem dX0_bearsCords_23 : decode cX0_bearsCords 23 = .ok (.invokevirtual 136, 3) := by decide +kernel
theorem dX0_bearsCords_26 : decode cX0_bearsCords 26 = .ok (.ifCond .eq 28, 3) := by decide +kernel
theorem dX0_bearsCords_29 : decode cX0_bearsCords 29 = .ok (.aload_n 0, 1) := by decide +kernel
theorem dX0_bearsCords_30 : decode cX0_bearsCords 30 = .ok (.iload_n 3, 1) := by decide +kernel
theorem dX0_bearsCords_31 : decode cX0_bearsCords 31 = .ok (.iconst 1, 1) := by decide +kernel
theorem dX0_bearsCords_32 : decode cX0_bearsCords 32 = .ok (.aload_n 1, 1) := by decide +kernel
theorem dX0_bearsCords_33 : decode cX0_bearsCords 33 = .ok (.iconst 1, 1) := by decide +kernel
theorem dX0_bearsCords_34 : decode cX0_bearsCords 34 = .ok (.iload_n 2, 1) := by decide +kernel
theorem dX0_bearsCords_35 : decode cX0_bearsCords 35 = .ok (.invokevirtual 74, 3) := by decide +kernel
theorem dX0_bearsCords_38 : decode cX0_bearsCords 38 = .ok (.aload_n 1, 1) := by decide +kernel
theorem dX0_bearsCords_39 : decode cX0_bearsCords 39 = .ok (.iconst 1, 1) := by decide +kernel
theorem dX0_bearsCords_40 : decode cX0_bearsCords 40 = .ok (.invokevirtual 71, 3) := by decide +kernel
theorem dX0_bearsCords_43 : decode cX0_bearsCords 43 = .ok (.isub, 1) := by decide +kernel
theorem dX0_bearsCords_44 : decode cX0_bearsCords 44 = .ok (.invokevirtual 136, 3) := by decide +kernel
theorem dX0_bearsCords_47 : decode cX0_bearsCords 47 = .ok (.ifCond .eq 7, 3) := by decide +kernel
theorem dX0_bearsCords_50 : decode cX0_bearsCords 50 = .ok (.iconst 1, 1) := by decide +kernel
theorem dX0_bearsCords_51 : decode cX0_bearsCords 51 = .ok (.goto 4, 3) := by decide +kernel
theorem dX0_bearsCords_54 : decode cX0_bearsCords 54 = .ok (.iconst 0, 1) := by decide +kernel
theorem dX0_bearsCords_55 : decode cX0_bearsCords 55 = .ok (.ireturn, 1) := by decide +kernel
theorem dX0_bearsMore_0 : decode cX0_bearsMore 0 = .ok (.aload_n 0, 1) := by decide +kernel
theorem dX0_bearsMore_1 : decode cX0_bearsMore 1 = .ok (.getfield 23, 3) := by decide +kernel
theorem dX0_bearsMore_4 : decode cX0_bearsMore 4 = .ok (.iload_n 2, 1) := by decide +kernel
theorem dX0_bearsMore_5 : decode cX0_bearsMore 5 = .ok (.aaload, 1) := by decide +kernel
theorem dX0_bearsMore_6 : decode cX0_bearsMore 6 = .ok (.iload_n 1, 1) := by decide +kernel
theorem dX0_bearsMore_7 : decode cX0_bearsMore 7 = .ok (.iaload, 1) := by decide +kernel
theorem dX0_bearsMore_8 : decode cX0_bearsMore 8 = .ok (.iload_n 3, 1) := by decide +kernel
theorem dX0_bearsMore_9 : decode cX0_bearsMore 9 = .ok (.iadd, 1) := by decide +kernel
theorem dX0_bearsMore_10 : decode cX0_bearsMore 10 = .ok (.aload_n 0, 1) := by decide +kernel
theorem dX0_bearsMore_11 : decode cX0_bearsMore 11 = .ok (.getfield 26, 3) := by decide +kernel
theorem dX0_bearsMore_14 : decode cX0_bearsMore 14 = .ok (.getfield 85, 3) := by decide +kernel
theorem dX0_bearsMore_17 : decode cX0_bearsMore 17 = .ok (.iload_n 1, 1) := by decide +kernel
theorem dX0_bearsMore_18 : decode cX0_bearsMore 18 = .ok (.invokevirtual 97, 3) := by decide +kernel
theorem dX0_bearsMore_21 : decode cX0_bearsMore 21 = .ok (.checkcast 101, 3) := by decide +kernel
theorem dX0_bearsMore_24 : decode cX0_bearsMore 24 = .ok (.getfield 140, 3) := by decide +kernel
theorem dX0_bearsMore_27 : decode cX0_bearsMore 27 = .ok (.if_icmp .gt 26, 3) := by decide +kernel
theorem dX0_bearsMore_30 : decode cX0_bearsMore 30 = .ok (.aload_n 0, 1) := by decide +kernel
theorem dX0_bearsMore_31 : decode cX0_bearsMore 31 = .ok (.iload_n 2, 1) := by decide +kernel
theorem dX0_bearsMore_32 : decode cX0_bearsMore 32 = .ok (.invokevirtual 143, 3) := by decide +kernel
theorem dX0_bearsMore_35 : decode cX0_bearsMore 35 = .ok (.iload_n 3, 1) := by decide +kernel
theorem dX0_bearsMore_36 : decode cX0_bearsMore 36 = .ok (.iadd, 1) := by decide +kernel
theorem dX0_bearsMore_37 : decode cX0_bearsMore 37 = .ok (.aload_n 0, 1) := by decide +kernel
theorem dX0_bearsMore_38 : decode cX0_bearsMore 38 = .ok (.getfield 26, 3) := by decide +kernel
theorem dX0_bearsMore_41 : decode cX0_bearsMore 41 = .ok (.getfield 146, 3) := by decide +kernel
theorem dX0_bearsMore_44 : decode cX0_bearsMore 44 = .ok (.iload_n 2, 1) := by decide +kernel
theorem dX0_bearsMore_45 : decode cX0_bearsMore 45 = .ok (.iaload, 1) := by decide +kernel
theorem dX0_bearsMore_46 : decode cX0_bearsMore 46 = .ok (.if_icmp .gt 7, 3) := by decide +kernel
theorem dX0_bearsMore_49 : decode cX0_bearsMore 49 = .ok (.iconst 1, 1) := by decide +kernel
theorem dX0_bearsMore_50 : decode cX0_bearsMore 50 = .ok (.goto 4, 3) := by decide +kernel
theorem dX0_bearsMore_53 : decode cX0_bearsMore 53 = .ok (.iconst 0, 1) := by decide +kernel
theorem dX0_bearsMore_54 : decode cX0_bearsMore 54 = .ok (.ireturn, 1) := by decide +kernel
theorem dX0_lowestFree_0 : decode cX0_lowestFree 0 = .ok (.iconst 0, 1) := by decide +kernel
theorem dX0_lowestFree_1 : decode cX0_lowestFree 1 = .ok (.istore_n 3, 1) := by decide +kernel
theorem dX0_lowestFree_2 : decode cX0_lowestFree 2 = .ok (.iconst 0, 1) := by decide +kernel
theorem dX0_lowestFree_3 : decode cX0_lowestFree 3 = .ok (.istore 4, 2) := by decide +kernel
theorem dX0_lowestFree_5 : decode cX0_lowestFree 5 = .ok (.iload 4, 2) := by decide +kernel
theorem dX0_lowestFree_7 : decode cX0_lowestFree 7 = .ok (.aload_n 0, 1) := by decide +kernel
theorem dX0_lowestFree_8 : decode cX0_lowestFree 8 = .ok (.getfield 26, 3) := by decide +kernel
theorem dX0_lowestFree_11 : decode cX0_lowestFree 11 = .ok (.getfield 85, 3) := by decide +kernel
theorem dX0_lowestFree_14 : decode cX0_lowestFree 14 = .ok (.iload_n 1, 1) := by decide +kernel
theorem dX0_lowestFree_15 : decode cX0_lowestFree 15 = .ok (.invokevirtual 97, 3) := by decide +kernel
theorem dX0_lowestFree_18 : decode cX0_lowestFree 18 = .ok (.checkcast 101, 3) := by decide +kernel
theorem dX0_lowestFree_21 : decode cX0_lowestFree 21 = .ok (.getfield 149, 3) := by decide +kernel
theorem dX0_lowestFree_24 : decode cX0_lowestFree 24 = .ok (.if_icmp .ge 48, 3) := by decide +kernel
theorem dX0_lowestFree_27 : decode cX0_lowestFree 27 = .ok (.aload_n 0, 1) := by decide +kernel
theorem dX0_lowestFree_28 : decode cX0_lowestFree 28 = .ok (.getfield 9, 3) := by decide +kernel
theorem dX0_lowestFree_31 : decode cX0_lowestFree 31 = .ok (.iload_n 1, 1) := by decide +kernel
theorem dX0_lowestFree_32 : decode cX0_lowestFree 32 = .ok (.iload 4, 2) := by decide +kernel
theorem dX0_lowestFree_34 : decode cX0_lowestFree 34 = .ok (.invokestatic 150, 3) := by decide +kernel
theorem dX0_lowestFree_37 : decode cX0_lowestFree 37 = .ok (.iaload, 1) := by decide +kernel
theorem dX0_lowestFree_38 : decode cX0_lowestFree 38 = .ok (.iconst (-1), 1) := by decide +kernel
theorem dX0_lowestFree_39 : decode cX0_lowestFree 39 = .ok (.if_icmp .ne 9, 3) := by decide +kernel
theorem dX0_lowestFree_42 : decode cX0_lowestFree 42 = .ok (.iload_n 3, 1) := by decide +kernel
theorem dX0_lowestFree_43 : decode cX0_lowestFree 43 = .ok (.iconst 1, 1) := by decide +kernel
theorem dX0_lowestFree_44 : decode cX0_lowestFree 44 = .ok (.iadd, 1) := by decide +kernel
theorem dX0_lowestFree_45 : decode cX0_lowestFree 45 = .ok (.goto 4, 3) := by decide +kernel
theorem dX0_lowestFree_48 : decode cX0_lowestFree 48 = .ok (.iconst 0, 1) := by decide +kernel
theorem dX0_lowestFree_49 : decode cX0_lowestFree 49 = .ok (.istore_n 3, 1) := by decide +kernel
theorem dX0_lowestFree_50 : decode cX0_lowestFree 50 = .ok (.iload_n 3, 1) := by decide +kernel
theorem dX0_lowestFree_51 : decode cX0_lowestFree 51 = .ok (.iload_n 2, 1) := by decide +kernel
theorem dX0_lowestFree_52 : decode cX0_lowestFree 52 = .ok (.if_icmp .ne 14, 3) := by decide +kernel
theorem dX0_lowestFree_55 : decode cX0_lowestFree 55 = .ok (.iload_n 1, 1) := by decide +kernel
theorem dX0_lowestFree_56 : decode cX0_lowestFree 56 = .ok (.iload 4, 2) := by decide +kernel
theorem dX0_lowestFree_58 : decode cX0_lowestFree 58 = .ok (.iload_n 2, 1) := by decide +kernel
theorem dX0_lowestFree_59 : decode cX0_lowestFree 59 = .ok (.isub, 1) := by decide +kernel
theorem dX0_lowestFree_60 : decode cX0_lowestFree 60 = .ok (.iconst 1, 1) := by decide +kernel
theorem dX0_lowestFree_61 : decode cX0_lowestFree 61 = .ok (.iadd, 1) := by decide +kernel
theorem dX0_lowestFree_62 : decode cX0_lowestFree 62 = .ok (.invokestatic 150, 3) := by decide +kernel
theorem dX0_lowestFree_65 : decode cX0_lowestFree 65 = .ok (.ireturn, 1) := by decide +kernel
theorem dX0_lowestFree_66 : decode cX0_lowestFree 66 = .ok (.iinc 4 1, 3) := by decide +kernel
theorem dX0_lowestFree_69 : decode cX0_lowestFree 69 = .ok (.goto (-64), 3) := by decide +kernel
theorem dX0_lowestFree_72 : decode cX0_lowestFree 72 = .ok (.iconst (-1), 1) := by decide +kernel
theorem dX0_lowestFree_73 : decode cX0_lowestFree 73 = .ok (.ireturn, 1) := by decide +kernel
theorem dX0_widestGap_0 : decode cX0_widestGap 0 = .ok (.iconst 0, 1) := by decide +kernel
theorem dX0_widestGap_1 : decode cX0_widestGap 1 = .ok (.istore_n 2, 1) := by decide +kernel
theorem dX0_widestGap_2 : decode cX0_widestGap 2 = .ok (.iconst 0, 1) := by decide +kernel
theorem dX0_widestGap_3 : decode cX0_widestGap 3 = .ok (.istore_n 3, 1) := by decide +kernel
theorem dX0_widestGap_4 : decode cX0_widestGap 4 = .ok (.iconst 0, 1) := by decide +kernel
theorem dX0_widestGap_5 : decode cX0_widestGap 5 = .ok (.istore 4, 2) := by decide +kernel
theorem dX0_widestGap_7 : decode cX0_widestGap 7 = .ok (.iload 4, 2) := by decide +kernel
theorem dX0_widestGap_9 : decode cX0_widestGap 9 = .ok (.aload_n 0, 1) := by decide +kernel
theorem dX0_widestGap_10 : decode cX0_widestGap 10 = .ok (.getfield 26, 3) := by decide +kernel
theorem dX0_widestGap_13 : decode cX0_widestGap 13 = .ok (.getfield 85, 3) := by decide +kernel
theorem dX0_widestGap_16 : decode cX0_widestGap 16 = .ok (.iload_n 1, 1) := by decide +kernel
theorem dX0_widestGap_17 : decode cX0_widestGap 17 = .ok (.invokevirtual 97, 3) := by decide +kernel
theorem dX0_widestGap_20 : decode cX0_widestGap 20 = .ok (.checkcast 101, 3) := by decide +kernel
theorem dX0_widestGap_23 : decode cX0_widestGap 23 = .ok (.getfield 149, 3) := by decide +kernel
theorem dX0_widestGap_26 : decode cX0_widestGap 26 = .ok (.if_icmp .ge 38, 3) := by decide +kernel
theorem dX0_widestGap_29 : decode cX0_widestGap 29 = .ok (.aload_n 0, 1) := by decide +kernel
theorem dX0_widestGap_30 : decode cX0_widestGap 30 = .ok (.getfield 9, 3) := by decide +kernel
theorem dX0_widestGap_33 : decode cX0_widestGap 33 = .ok (.iload_n 1, 1) := by decide +kernel
theorem dX0_widestGap_34 : decode cX0_widestGap 34 = .ok (.iload 4, 2) := by decide +kernel
theorem dX0_widestGap_36 : decode cX0_widestGap 36 = .ok (.invokestatic 150, 3) := by decide +kernel
theorem dX0_widestGap_39 : decode cX0_widestGap 39 = .ok (.iaload, 1) := by decide +kernel
theorem dX0_widestGap_40 : decode cX0_widestGap 40 = .ok (.iconst (-1), 1) := by decide +kernel
theorem dX0_widestGap_41 : decode cX0_widestGap 41 = .ok (.if_icmp .ne 9, 3) := by decide +kernel
theorem dX0_widestGap_44 : decode cX0_widestGap 44 = .ok (.iload_n 3, 1) := by decide +kernel
theorem dX0_widestGap_45 : decode cX0_widestGap 45 = .ok (.iconst 1, 1) := by decide +kernel
theorem dX0_widestGap_46 : decode cX0_widestGap 46 = .ok (.iadd, 1) := by decide +kernel
theorem dX0_widestGap_47 : decode cX0_widestGap 47 = .ok (.goto 4, 3) := by decide +kernel
theorem dX0_widestGap_50 : decode cX0_widestGap 50 = .ok (.iconst 0, 1) := by decide +kernel
theorem dX0_widestGap_51 : decode cX0_widestGap 51 = .ok (.istore_n 3, 1) := by decide +kernel
theorem dX0_widestGap_52 : decode cX0_widestGap 52 = .ok (.iload_n 2, 1) := by decide +kernel
theorem dX0_widestGap_53 : decode cX0_widestGap 53 = .ok (.iload_n 3, 1) := by decide +kernel
theorem dX0_widestGap_54 : decode cX0_widestGap 54 = .ok (.invokestatic 153, 3) := by decide +kernel
theorem dX0_widestGap_57 : decode cX0_widestGap 57 = .ok (.istore_n 2, 1) := by decide +kernel
theorem dX0_widestGap_58 : decode cX0_widestGap 58 = .ok (.iinc 4 1, 3) := by decide +kernel
theorem dX0_widestGap_61 : decode cX0_widestGap 61 = .ok (.goto (-54), 3) := by decide +kernel
theorem dX0_widestGap_64 : decode cX0_widestGap 64 = .ok (.iload_n 2, 1) := by decide +kernel
theorem dX0_widestGap_65 : decode cX0_widestGap 65 = .ok (.ireturn, 1) := by decide +kernel
theorem dX0_countForRow_0 : decode cX0_countForRow 0 = .ok (.iconst 0, 1) := by decide +kernel
theorem dX0_countForRow_1 : decode cX0_countForRow 1 = .ok (.istore_n 3, 1) := by decide +kernel
theorem dX0_countForRow_2 : decode cX0_countForRow 2 = .ok (.iconst 0, 1) := by decide +kernel
theorem dX0_countForRow_3 : decode cX0_countForRow 3 = .ok (.istore 4, 2) := by decide +kernel
theorem dX0_countForRow_5 : decode cX0_countForRow 5 = .ok (.iload 4, 2) := by decide +kernel
theorem dX0_countForRow_7 : decode cX0_countForRow 7 = .ok (.aload_n 0, 1) := by decide +kernel
theorem dX0_countForRow_8 : decode cX0_countForRow 8 = .ok (.getfield 26, 3) := by decide +kernel
theorem dX0_countForRow_11 : decode cX0_countForRow 11 = .ok (.getfield 85, 3) := by decide +kernel
theorem dX0_countForRow_14 : decode cX0_countForRow 14 = .ok (.invokevirtual 91, 3) := by decide +kernel
theorem dX0_countForRow_17 : decode cX0_countForRow 17 = .ok (.if_icmp .ge 41, 3) := by decide +kernel
theorem dX0_countForRow_20 : decode cX0_countForRow 20 = .ok (.aload_n 0, 1) := by decide +kernel
theorem dX0_countForRow_21 : decode cX0_countForRow 21 = .ok (.getfield 26, 3) := by decide +kernel
theorem dX0_countForRow_24 : decode cX0_countForRow 24 = .ok (.getfield 85, 3) := by decide +kernel
theorem dX0_countForRow_27 : decode cX0_countForRow 27 = .ok (.iload 4, 2) := by decide +kernel
theorem dX0_countForRow_29 : decode cX0_countForRow 29 = .ok (.invokevirtual 97, 3) := by decide +kernel
theorem dX0_countForRow_32 : decode cX0_countForRow 32 = .ok (.checkcast 101, 3) := by decide +kernel
theorem dX0_countForRow_35 : decode cX0_countForRow 35 = .ok (.getfield 103, 3) := by decide +kernel
theorem dX0_countForRow_38 : decode cX0_countForRow 38 = .ok (.iload_n 1, 1) := by decide +kernel
theorem dX0_countForRow_39 : decode cX0_countForRow 39 = .ok (.if_icmp .ne 13, 3) := by decide +kernel
theorem dX0_countForRow_42 : decode cX0_countForRow 42 = .ok (.iload_n 3, 1) := by decide +kernel
theorem dX0_countForRow_43 : decode cX0_countForRow 43 = .ok (.aload_n 0, 1) := by decide +kernel
theorem dX0_countForRow_44 : decode cX0_countForRow 44 = .ok (.iload 4, 2) := by decide +kernel
theorem dX0_countForRow_46 : decode cX0_countForRow 46 = .ok (.aload_n 2, 1) := by decide +kernel
theorem dX0_countForRow_47 : decode cX0_countForRow 47 = .ok (.invokevirtual 158, 3) := by decide +kernel
theorem dX0_countForRow_50 : decode cX0_countForRow 50 = .ok (.iadd, 1) := by decide +kernel
theorem dX0_countForRow_51 : decode cX0_countForRow 51 = .ok (.istore_n 3, 1) := by decide +kernel
theorem dX0_countForRow_52 : decode cX0_countForRow 52 = .ok (.iinc 4 1, 3) := by decide +kernel
theorem dX0_countForRow_55 : decode cX0_countForRow 55 = .ok (.goto (-50), 3) := by decide +kernel
theorem dX0_countForRow_58 : decode cX0_countForRow 58 = .ok (.iload_n 3, 1) := by decide +kernel
theorem dX0_countForRow_59 : decode cX0_countForRow 59 = .ok (.aload_n 0, 1) := by decide +kernel
theorem dX0_countForRow_60 : decode cX0_countForRow 60 = .ok (.getfield 26, 3) := by decide +kernel
theorem dX0_countForRow_63 : decode cX0_countForRow 63 = .ok (.getfield 127, 3) := by decide +kernel
theorem dX0_countForRow_66 : decode cX0_countForRow 66 = .ok (.iload_n 1, 1) := by decide +kernel
theorem dX0_countForRow_67 : decode cX0_countForRow 67 = .ok (.iaload, 1) := by decide +kernel
theorem dX0_countForRow_68 : decode cX0_countForRow 68 = .ok (.aload_n 0, 1) := by decide +kernel
theorem dX0_countForRow_69 : decode cX0_countForRow 69 = .ok (.iload_n 1, 1) := by decide +kernel
theorem dX0_countForRow_70 : decode cX0_countForRow 70 = .ok (.invokevirtual 124, 3) := by decide +kernel
theorem dX0_countForRow_73 : decode cX0_countForRow 73 = .ok (.isub, 1) := by decide +kernel
theorem dX0_countForRow_74 : decode cX0_countForRow 74 = .ok (.aload_n 2, 1) := by decide +kernel
theorem dX0_countForRow_75 : decode cX0_countForRow 75 = .ok (.getfield 66, 3) := by decide +kernel
theorem dX0_countForRow_78 : decode cX0_countForRow 78 = .ok (.invokestatic 161, 3) := by decide +kernel
theorem dX0_countForRow_81 : decode cX0_countForRow 81 = .ok (.istore_n 3, 1) := by decide +kernel
theorem dX0_countForRow_82 : decode cX0_countForRow 82 = .ok (.iload_n 3, 1) := by decide +kernel
theorem dX0_countForRow_83 : decode cX0_countForRow 83 = .ok (.aload_n 0, 1) := by decide +kernel
theorem dX0_countForRow_84 : decode cX0_countForRow 84 = .ok (.getfield 26, 3) := by decide +kernel
theorem dX0_countForRow_87 : decode cX0_countForRow 87 = .ok (.getfield 133, 3) := by decide +kernel
theorem dX0_countForRow_90 : decode cX0_countForRow 90 = .ok (.iload_n 1, 1) := by decide +kernel
theorem dX0_countForRow_91 : decode cX0_countForRow 91 = .ok (.iaload, 1) := by decide +kernel
theorem dX0_countForRow_92 : decode cX0_countForRow 92 = .ok (.aload_n 0, 1) := by decide +kernel
theorem dX0_countForRow_93 : decode cX0_countForRow 93 = .ok (.iload_n 1, 1) := by decide +kernel
theorem dX0_countForRow_94 : decode cX0_countForRow 94 = .ok (.invokevirtual 130, 3) := by decide +kernel
theorem dX0_countForRow_97 : decode cX0_countForRow 97 = .ok (.isub, 1) := by decide +kernel
theorem dX0_countForRow_98 : decode cX0_countForRow 98 = .ok (.aload_n 2, 1) := by decide +kernel
theorem dX0_countForRow_99 : decode cX0_countForRow 99 = .ok (.getfield 68, 3) := by decide +kernel
theorem dX0_countForRow_102 : decode cX0_countForRow 102 = .ok (.invokestatic 161, 3) := by decide +kernel
theorem dX0_countForRow_105 : decode cX0_countForRow 105 = .ok (.ireturn, 1) := by decide +kernel
theorem dX0_countForRack_0 : decode cX0_countForRack 0 = .ok (.aload_n 0, 1) := by decide +kernel
theorem dX0_countForRack_1 : decode cX0_countForRack 1 = .ok (.getfield 26, 3) := by decide +kernel
theorem dX0_countForRack_4 : decode cX0_countForRack 4 = .ok (.getfield 85, 3) := by decide +kernel
theorem dX0_countForRack_7 : decode cX0_countForRack 7 = .ok (.iload_n 1, 1) := by decide +kernel
theorem dX0_countForRack_8 : decode cX0_countForRack 8 = .ok (.invokevirtual 97, 3) := by decide +kernel
theorem dX0_countForRack_11 : decode cX0_countForRack 11 = .ok (.checkcast 101, 3) := by decide +kernel
theorem dX0_countForRack_14 : decode cX0_countForRack 14 = .ok (.astore_n 3, 1) := by decide +kernel
theorem dX0_countForRack_15 : decode cX0_countForRack 15 = .ok (.aload_n 0, 1) := by decide +kernel
theorem dX0_countForRack_16 : decode cX0_countForRack 16 = .ok (.iload_n 1, 1) := by decide +kernel
theorem dX0_countForRack_17 : decode cX0_countForRack 17 = .ok (.aload_n 2, 1) := by decide +kernel
theorem dX0_countForRack_18 : decode cX0_countForRack 18 = .ok (.getfield 42, 3) := by decide +kernel
theorem dX0_countForRack_21 : decode cX0_countForRack 21 = .ok (.invokevirtual 165, 3) := by decide +kernel
theorem dX0_countForRack_24 : decode cX0_countForRack 24 = .ok (.istore 4, 2) := by decide +kernel
theorem dX0_countForRack_26 : decode cX0_countForRack 26 = .ok (.iload 4, 2) := by decide +kernel
theorem dX0_countForRack_28 : decode cX0_countForRack 28 = .ok (.aload_n 3, 1) := by decide +kernel
theorem dX0_countForRack_29 : decode cX0_countForRack 29 = .ok (.getfield 121, 3) := by decide +kernel
theorem dX0_countForRack_32 : decode cX0_countForRack 32 = .ok (.aload_n 0, 1) := by decide +kernel
theorem dX0_countForRack_33 : decode cX0_countForRack 33 = .ok (.getfield 15, 3) := by decide +kernel
theorem dX0_countForRack_36 : decode cX0_countForRack 36 = .ok (.iload_n 1, 1) := by decide +kernel
theorem dX0_countForRack_37 : decode cX0_countForRack 37 = .ok (.iaload, 1) := by decide +kernel
theorem dX0_countForRack_38 : decode cX0_countForRack 38 = .ok (.isub, 1) := by decide +kernel
theorem dX0_countForRack_39 : decode cX0_countForRack 39 = .ok (.aload_n 2, 1) := by decide +kernel
theorem dX0_countForRack_40 : decode cX0_countForRack 40 = .ok (.getfield 66, 3) := by decide +kernel
theorem dX0_countForRack_43 : decode cX0_countForRack 43 = .ok (.invokestatic 161, 3) := by decide +kernel
theorem dX0_countForRack_46 : decode cX0_countForRack 46 = .ok (.istore 4, 2) := by decide +kernel
theorem dX0_countForRack_48 : decode cX0_countForRack 48 = .ok (.iconst 0, 1) := by decide +kernel
theorem dX0_countForRack_49 : decode cX0_countForRack 49 = .ok (.istore 5, 2) := by decide +kernel
theorem dX0_countForRack_51 : decode cX0_countForRack 51 = .ok (.iload 5, 2) := by decide +kernel
theorem dX0_countForRack_53 : decode cX0_countForRack 53 = .ok (.iconst 2, 1) := by decide +kernel
theorem dX0_countForRack_54 : decode cX0_countForRack 54 = .ok (.if_icmp .ge 36, 3) := by decide +kernel
theorem dX0_countForRack_57 : decode cX0_countForRack 57 = .ok (.iload 4, 2) := by decide +kernel
theorem dX0_countForRack_59 : decode cX0_countForRack 59 = .ok (.aload_n 3, 1) := by decide +kernel
theorem dX0_countForRack_60 : decode cX0_countForRack 60 = .ok (.getfield 140, 3) := by decide +kernel
theorem dX0_countForRack_63 : decode cX0_countForRack 63 = .ok (.aload_n 0, 1) := by decide +kernel
theorem dX0_countForRack_64 : decode cX0_countForRack 64 = .ok (.getfield 23, 3) := by decide +kernel
theorem dX0_countForRack_67 : decode cX0_countForRack 67 = .ok (.iload 5, 2) := by decide +kernel
theorem dX0_countForRack_69 : decode cX0_countForRack 69 = .ok (.aaload, 1) := by decide +kernel
theorem dX0_countForRack_70 : decode cX0_countForRack 70 = .ok (.iload_n 1, 1) := by decide +kernel
theorem dX0_countForRack_71 : decode cX0_countForRack 71 = .ok (.iaload, 1) := by decide +kernel
theorem dX0_countForRack_72 : decode cX0_countForRack 72 = .ok (.isub, 1) := by decide +kernel
theorem dX0_countForRack_73 : decode cX0_countForRack 73 = .ok (.aload_n 2, 1) := by decide +kernel
theorem dX0_countForRack_74 : decode cX0_countForRack 74 = .ok (.iload 5, 2) := by decide +kernel
theorem dX0_countForRack_76 : decode cX0_countForRack 76 = .ok (.invokevirtual 71, 3) := by decide +kernel
theorem dX0_countForRack_79 : decode cX0_countForRack 79 = .ok (.invokestatic 161, 3) := by decide +kernel
theorem dX0_countForRack_82 : decode cX0_countForRack 82 = .ok (.istore 4, 2) := by decide +kernel
theorem dX0_countForRack_84 : decode cX0_countForRack 84 = .ok (.iinc 5 1, 3) := by decide +kernel
theorem dX0_countForRack_87 : decode cX0_countForRack 87 = .ok (.goto (-36), 3) := by decide +kernel
theorem dX0_countForRack_90 : decode cX0_countForRack 90 = .ok (.iload 4, 2) := by decide +kernel
theorem dX0_countForRack_92 : decode cX0_countForRack 92 = .ok (.ireturn, 1) := by decide +kernel
theorem dX0_countBySlots_0 : decode cX0_countBySlots 0 = .ok (.iconst 0, 1) := by decide +kernel
theorem dX0_countBySlots_1 : decode cX0_countBySlots 1 = .ok (.istore_n 3, 1) := by decide +kernel
theorem dX0_countBySlots_2 : decode cX0_countBySlots 2 = .ok (.iconst 0, 1) := by decide +kernel
theorem dX0_countBySlots_3 : decode cX0_countBySlots 3 = .ok (.istore 4, 2) := by decide +kernel
theorem dX0_countBySlots_5 : decode cX0_countBySlots 5 = .ok (.iconst 0, 1) := by decide +kernel
theorem dX0_countBySlots_6 : decode cX0_countBySlots 6 = .ok (.istore 5, 2) := by decide +kernel
theorem dX0_countBySlots_8 : decode cX0_countBySlots 8 = .ok (.iload 5, 2) := by decide +kernel
theorem dX0_countBySlots_10 : decode cX0_countBySlots 10 = .ok (.aload_n 0, 1) := by decide +kernel
theorem dX0_countBySlots_11 : decode cX0_countBySlots 11 = .ok (.getfield 26, 3) := by decide +kernel
theorem dX0_countBySlots_14 : decode cX0_countBySlots 14 = .ok (.getfield 85, 3) := by decide +kernel
theorem dX0_countBySlots_17 : decode cX0_countBySlots 17 = .ok (.iload_n 1, 1) := by decide +kernel
theorem dX0_countBySlots_18 : decode cX0_countBySlots 18 = .ok (.invokevirtual 97, 3) := by decide +kernel
theorem dX0_countBySlots_21 : decode cX0_countBySlots 21 = .ok (.checkcast 101, 3) := by decide +kernel
theorem dX0_countBySlots_24 : decode cX0_countBySlots 24 = .ok (.getfield 149, 3) := by decide +kernel
theorem dX0_countBySlots_27 : decode cX0_countBySlots 27 = .ok (.if_icmp .ge 46, 3) := by decide +kernel
theorem dX0_countBySlots_30 : decode cX0_countBySlots 30 = .ok (.aload_n 0, 1) := by decide +kernel
theorem dX0_countBySlots_31 : decode cX0_countBySlots 31 = .ok (.getfield 9, 3) := by decide +kernel
theorem dX0_countBySlots_34 : decode cX0_countBySlots 34 = .ok (.iload_n 1, 1) := by decide +kernel
theorem dX0_countBySlots_35 : decode cX0_countBySlots 35 = .ok (.iload 5, 2) := by decide +kernel
theorem dX0_countBySlots_37 : decode cX0_countBySlots 37 = .ok (.invokestatic 150, 3) := by decide +kernel
theorem dX0_countBySlots_40 : decode cX0_countBySlots 40 = .ok (.iaload, 1) := by decide +kernel
theorem dX0_countBySlots_41 : decode cX0_countBySlots 41 = .ok (.iconst (-1), 1) := by decide +kernel
theorem dX0_countBySlots_42 : decode cX0_countBySlots 42 = .ok (.if_icmp .ne 10, 3) := by decide +kernel
theorem dX0_countBySlots_45 : decode cX0_countBySlots 45 = .ok (.iload 4, 2) := by decide +kernel
theorem dX0_countBySlots_47 : decode cX0_countBySlots 47 = .ok (.iconst 1, 1) := by decide +kernel
theorem dX0_countBySlots_48 : decode cX0_countBySlots 48 = .ok (.iadd, 1) := by decide +kernel
theorem dX0_countBySlots_49 : decode cX0_countBySlots 49 = .ok (.goto 4, 3) := by decide +kernel
theorem dX0_countBySlots_52 : decode cX0_countBySlots 52 = .ok (.iconst 0, 1) := by decide +kernel
theorem dX0_countBySlots_53 : decode cX0_countBySlots 53 = .ok (.istore 4, 2) := by decide +kernel
theorem dX0_countBySlots_55 : decode cX0_countBySlots 55 = .ok (.iload 4, 2) := by decide +kernel
theorem dX0_countBySlots_57 : decode cX0_countBySlots 57 = .ok (.iload_n 2, 1) := by decide +kernel
theorem dX0_countBySlots_58 : decode cX0_countBySlots 58 = .ok (.if_icmp .ne 9, 3) := by decide +kernel
theorem dX0_countBySlots_61 : decode cX0_countBySlots 61 = .ok (.iinc 3 1, 3) := by decide +kernel
theorem dX0_countBySlots_64 : decode cX0_countBySlots 64 = .ok (.iconst 0, 1) := by decide +kernel
theorem dX0_countBySlots_65 : decode cX0_countBySlots 65 = .ok (.istore 4, 2) := by decide +kernel
theorem dX0_countBySlots_67 : decode cX0_countBySlots 67 = .ok (.iinc 5 1, 3) := by decide +kernel
theorem dX0_countBySlots_70 : decode cX0_countBySlots 70 = .ok (.goto (-62), 3) := by decide +kernel
theorem dX0_countBySlots_73 : decode cX0_countBySlots 73 = .ok (.iload_n 3, 1) := by decide +kernel
theorem dX0_countBySlots_74 : decode cX0_countBySlots 74 = .ok (.ireturn, 1) := by decide +kernel
theorem dX1_init_0 : decode cX1_init 0 = .ok (.aload_n 0, 1) := by decide +kernel
theorem dX1_init_1 : decode cX1_init 1 = .ok (.invokespecial 3, 3) := by decide +kernel
theorem dX1_init_4 : decode cX1_init 4 = .ok (.aload_n 0, 1) := by decide +kernel
theorem dX1_init_5 : decode cX1_init 5 = .ok (.iload_n 1, 1) := by decide +kernel
theorem dX1_init_6 : decode cX1_init 6 = .ok (.putfield 9, 3) := by decide +kernel
theorem dX1_init_9 : decode cX1_init 9 = .ok (.aload_n 0, 1) := by decide +kernel
theorem dX1_init_10 : decode cX1_init 10 = .ok (.iload_n 2, 1) := by decide +kernel
theorem dX1_init_11 : decode cX1_init 11 = .ok (.putfield 15, 3) := by decide +kernel
theorem dX1_init_14 : decode cX1_init 14 = .ok (.aload_n 0, 1) := by decide +kernel
theorem dX1_init_15 : decode cX1_init 15 = .ok (.iload_n 3, 1) := by decide +kernel
theorem dX1_init_16 : decode cX1_init 16 = .ok (.putfield 18, 3) := by decide +kernel
theorem dX1_init_19 : decode cX1_init 19 = .ok (.aload_n 0, 1) := by decide +kernel
theorem dX1_init_20 : decode cX1_init 20 = .ok (.iload 4, 2) := by decide +kernel
theorem dX1_init_22 : decode cX1_init 22 = .ok (.putfield 21, 3) := by decide +kernel
theorem dX1_init_25 : decode cX1_init 25 = .ok (.aload_n 0, 1) := by decide +kernel
theorem dX1_init_26 : decode cX1_init 26 = .ok (.iload 5, 2) := by decide +kernel
theorem dX1_init_28 : decode cX1_init 28 = .ok (.putfield 24, 3) := by decide +kernel
theorem dX1_init_31 : decode cX1_init 31 = .ok (.aload_n 0, 1) := by decide +kernel
theorem dX1_init_32 : decode cX1_init 32 = .ok (.iconst (-1), 1) := by decide +kernel
theorem dX1_init_33 : decode cX1_init 33 = .ok (.putfield 27, 3) := by decide +kernel
theorem dX1_init_36 : decode cX1_init 36 = .ok (.aload_n 0, 1) := by decide +kernel
theorem dX1_init_37 : decode cX1_init 37 = .ok (.iconst (-1), 1) := by decide +kernel
theorem dX1_init_38 : decode cX1_init 38 = .ok (.putfield 30, 3) := by decide +kernel
theorem dX1_init_41 : decode cX1_init 41 = .ok (.return_, 1) := by decide +kernel
theorem dX1_hasCordTo_0 : decode cX1_hasCordTo 0 = .ok (.iload_n 1, 1) := by decide +kernel
theorem dX1_hasCordTo_1 : decode cX1_hasCordTo 1 = .ok (.aload_n 0, 1) := by decide +kernel
theorem dX1_hasCordTo_2 : decode cX1_hasCordTo 2 = .ok (.getfield 24, 3) := by decide +kernel
theorem dX1_hasCordTo_5 : decode cX1_hasCordTo 5 = .ok (.invokestatic 33, 3) := by decide +kernel
theorem dX1_hasCordTo_8 : decode cX1_hasCordTo 8 = .ok (.ireturn, 1) := by decide +kernel
theorem dX1_worstOn_0 : decode cX1_worstOn 0 = .ok (.aload_n 0, 1) := by decide +kernel
theorem dX1_worstOn_1 : decode cX1_worstOn 1 = .ok (.iload_n 1, 1) := by decide +kernel
theorem dX1_worstOn_2 : decode cX1_worstOn 2 = .ok (.aload_n 0, 1) := by decide +kernel
theorem dX1_worstOn_3 : decode cX1_worstOn 3 = .ok (.getfield 24, 3) := by decide +kernel
theorem dX1_worstOn_6 : decode cX1_worstOn 6 = .ok (.invokevirtual 37, 3) := by decide +kernel
theorem dX1_worstOn_9 : decode cX1_worstOn 9 = .ok (.ireturn, 1) := by decide +kernel
theorem dX1_worstWith_0 : decode cX1_worstWith 0 = .ok (.iload_n 1, 1) := by decide +kernel
theorem dX1_worstWith_1 : decode cX1_worstWith 1 = .ok (.iload_n 2, 1) := by decide +kernel
theorem dX1_worstWith_2 : decode cX1_worstWith 2 = .ok (.invokestatic 33, 3) := by decide +kernel
theorem dX1_worstWith_5 : decode cX1_worstWith 5 = .ok (.ifCond .eq 10, 3) := by decide +kernel
theorem dX1_worstWith_8 : decode cX1_worstWith 8 = .ok (.aload_n 0, 1) := by decide +kernel
theorem dX1_worstWith_9 : decode cX1_worstWith 9 = .ok (.getfield 18, 3) := by decide +kernel
theorem dX1_worstWith_12 : decode cX1_worstWith 12 = .ok (.goto 4, 3) := by decide +kernel
theorem dX1_worstWith_15 : decode cX1_worstWith 15 = .ok (.iconst 0, 1) := by decide +kernel
theorem dX1_worstWith_16 : decode cX1_worstWith 16 = .ok (.ireturn, 1) := by decide +kernel
theorem dX1_leadTo_0 : decode cX1_leadTo 0 = .ok (.iload_n 1, 1) := by decide +kernel
theorem dX1_leadTo_1 : decode cX1_leadTo 1 = .ok (.iload_n 0, 1) := by decide +kernel
theorem dX1_leadTo_2 : decode cX1_leadTo 2 = .ok (.if_icmp .eq 8, 3) := by decide +kernel
theorem dX1_leadTo_5 : decode cX1_leadTo 5 = .ok (.iload_n 1, 1) := by decide +kernel
theorem dX1_leadTo_6 : decode cX1_leadTo 6 = .ok (.iconst 2, 1) := by decide +kernel
theorem dX1_leadTo_7 : decode cX1_leadTo 7 = .ok (.if_icmp .ne 7, 3) := by decide +kernel
theorem dX1_leadTo_10 : decode cX1_leadTo 10 = .ok (.iconst 1, 1) := by decide +kernel
theorem dX1_leadTo_11 : decode cX1_leadTo 11 = .ok (.goto 4, 3) := by decide +kernel
theorem dX1_leadTo_14 : decode cX1_leadTo 14 = .ok (.iconst 0, 1) := by decide +kernel
theorem dX1_leadTo_15 : decode cX1_leadTo 15 = .ok (.ireturn, 1) := by decide +kernel
theorem dX1_packsAhead_0 : decode cX1_packsAhead 0 = .ok (.aload_n 0, 1) := by decide +kernel
theorem dX1_packsAhead_1 : decode cX1_packsAhead 1 = .ok (.getfield 15, 3) := by decide +kernel
theorem dX1_packsAhead_4 : decode cX1_packsAhead 4 = .ok (.aload_n 1, 1) := by decide +kernel
theorem dX1_packsAhead_5 : decode cX1_packsAhead 5 = .ok (.getfield 15, 3) := by decide +kernel
theorem dX1_packsAhead_8 : decode cX1_packsAhead 8 = .ok (.if_icmp .eq 22, 3) := by decide +kernel
theorem dX1_packsAhead_11 : decode cX1_packsAhead 11 = .ok (.aload_n 0, 1) := by decide +kernel
theorem dX1_packsAhead_12 : decode cX1_packsAhead 12 = .ok (.getfield 15, 3) := by decide +kernel
theorem dX1_packsAhead_15 : decode cX1_packsAhead 15 = .ok (.aload_n 1, 1) := by decide +kernel
theorem dX1_packsAhead_16 : decode cX1_packsAhead 16 = .ok (.getfield 15, 3) := by decide +kernel
theorem dX1_packsAhead_19 : decode cX1_packsAhead 19 = .ok (.if_icmp .le 7, 3) := by decide +kernel
theorem dX1_packsAhead_22 : decode cX1_packsAhead 22 = .ok (.iconst 1, 1) := by decide +kernel
theorem dX1_packsAhead_23 : decode cX1_packsAhead 23 = .ok (.goto 23, 3) := by decide +kernel
theorem dX1_packsAhead_26 : decode cX1_packsAhead 26 = .ok (.iconst 0, 1) := by decide +kernel
theorem dX1_packsAhead_27 : decode cX1_packsAhead 27 = .ok (.goto 19, 3) := by decide +kernel
theorem dX1_packsAhead_30 : decode cX1_packsAhead 30 = .ok (.aload_n 0, 1) := by decide +kernel
theorem dX1_packsAhead_31 : decode cX1_packsAhead 31 = .ok (.getfield 18, 3) := by decide +kernel
theorem dX1_packsAhead_34 : decode cX1_packsAhead 34 = .ok (.aload_n 1, 1) := by decide +kernel
theorem dX1_packsAhead_35 : decode cX1_packsAhead 35 = .ok (.getfield 18, 3) := by decide +kernel
theorem dX1_packsAhead_38 : decode cX1_packsAhead 38 = .ok (.if_icmp .le 7, 3) := by decide +kernel
theorem dX1_packsAhead_41 : decode cX1_packsAhead 41 = .ok (.iconst 1, 1) := by decide +kernel
theorem dX1_packsAhead_42 : decode cX1_packsAhead 42 = .ok (.goto 4, 3) := by decide +kernel
theorem dX1_packsAhead_45 : decode cX1_packsAhead 45 = .ok (.iconst 0, 1) := by decide +kernel
theorem dX1_packsAhead_46 : decode cX1_packsAhead 46 = .ok (.ireturn, 1) := by decide +kernel
theorem dX2_init_0 : decode cX2_init 0 = .ok (.aload_n 0, 1) := by decide +kernel
theorem dX2_init_1 : decode cX2_init 1 = .ok (.invokespecial 1, 3) := by decide +kernel
theorem dX2_init_4 : decode cX2_init 4 = .ok (.aload_n 0, 1) := by decide +kernel
theorem dX2_init_5 : decode cX2_init 5 = .ok (.iload_n 1, 1) := by decide +kernel
theorem dX2_init_6 : decode cX2_init 6 = .ok (.putfield 7, 3) := by decide +kernel
theorem dX2_init_9 : decode cX2_init 9 = .ok (.aload_n 0, 1) := by decide +kernel
theorem dX2_init_10 : decode cX2_init 10 = .ok (.iload_n 2, 1) := by decide +kernel
theorem dX2_init_11 : decode cX2_init 11 = .ok (.putfield 13, 3) := by decide +kernel
theorem dX2_init_14 : decode cX2_init 14 = .ok (.aload_n 0, 1) := by decide +kernel
theorem dX2_init_15 : decode cX2_init 15 = .ok (.iload_n 3, 1) := by decide +kernel
theorem dX2_init_16 : decode cX2_init 16 = .ok (.putfield 16, 3) := by decide +kernel
theorem dX2_init_19 : decode cX2_init 19 = .ok (.aload_n 0, 1) := by decide +kernel
theorem dX2_init_20 : decode cX2_init 20 = .ok (.iload 4, 2) := by decide +kernel
theorem dX2_init_22 : decode cX2_init 22 = .ok (.putfield 19, 3) := by decide +kernel
theorem dX2_init_25 : decode cX2_init 25 = .ok (.return_, 1) := by decide +kernel
theorem dX3_init_0 : decode cX3_init 0 = .ok (.aload_n 0, 1) := by decide +kernel
theorem dX3_init_1 : decode cX3_init 1 = .ok (.invokespecial 3, 3) := by decide +kernel
theorem dX3_init_4 : decode cX3_init 4 = .ok (.aload_n 0, 1) := by decide +kernel
theorem dX3_init_5 : decode cX3_init 5 = .ok (.new 9, 3) := by decide +kernel
theorem dX3_init_8 : decode cX3_init 8 = .ok (.dup, 1) := by decide +kernel
theorem dX3_init_9 : decode cX3_init 9 = .ok (.invokespecial 11, 3) := by decide +kernel
theorem dX3_init_12 : decode cX3_init 12 = .ok (.putfield 12, 3) := by decide +kernel
theorem dX3_init_15 : decode cX3_init 15 = .ok (.aload_n 0, 1) := by decide +kernel
theorem dX3_init_16 : decode cX3_init 16 = .ok (.iconst 4, 1) := by decide +kernel
theorem dX3_init_17 : decode cX3_init 17 = .ok (.newarray .int, 2) := by decide +kernel
theorem dX3_init_19 : decode cX3_init 19 = .ok (.putfield 18, 3) := by decide +kernel
theorem dX3_init_22 : decode cX3_init 22 = .ok (.aload_n 0, 1) := by decide +kernel
theorem dX3_init_23 : decode cX3_init 23 = .ok (.iconst 4, 1) := by decide +kernel
theorem dX3_init_24 : decode cX3_init 24 = .ok (.newarray .int, 2) := by decide +kernel
theorem dX3_init_26 : decode cX3_init 26 = .ok (.putfield 22, 3) := by decide +kernel
theorem dX3_init_29 : decode cX3_init 29 = .ok (.aload_n 0, 1) := by decide +kernel
theorem dX3_init_30 : decode cX3_init 30 = .ok (.iconst 2, 1) := by decide +kernel
theorem dX3_init_31 : decode cX3_init 31 = .ok (.newarray .int, 2) := by decide +kernel
theorem dX3_init_33 : decode cX3_init 33 = .ok (.putfield 25, 3) := by decide +kernel
theorem dX3_init_36 : decode cX3_init 36 = .ok (.aload_n 0, 1) := by decide +kernel
theorem dX3_init_37 : decode cX3_init 37 = .ok (.getfield 18, 3) := by decide +kernel
theorem dX3_init_40 : decode cX3_init 40 = .ok (.sipush 10000, 3) := by decide +kernel
theorem dX3_init_43 : decode cX3_init 43 = .ok (.invokestatic 28, 3) := by decide +kernel
theorem dX3_init_46 : decode cX3_init 46 = .ok (.aload_n 0, 1) := by decide +kernel
theorem dX3_init_47 : decode cX3_init 47 = .ok (.getfield 22, 3) := by decide +kernel
theorem dX3_init_50 : decode cX3_init 50 = .ok (.sipush 10000, 3) := by decide +kernel
theorem dX3_init_53 : decode cX3_init 53 = .ok (.invokestatic 28, 3) := by decide +kernel
theorem dX3_init_56 : decode cX3_init 56 = .ok (.aload_n 0, 1) := by decide +kernel
theorem dX3_init_57 : decode cX3_init 57 = .ok (.getfield 25, 3) := by decide +kernel
theorem dX3_init_60 : decode cX3_init 60 = .ok (.sipush 20000, 3) := by decide +kernel
theorem dX3_init_63 : decode cX3_init 63 = .ok (.invokestatic 28, 3) := by decide +kernel
theorem dX3_init_66 : decode cX3_init 66 = .ok (.return_, 1) := by decide +kernel
theorem dX4_init_0 : decode cX4_init 0 = .ok (.aload_n 0, 1) := by decide +kernel
theorem dX4_init_1 : decode cX4_init 1 = .ok (.invokespecial 3, 3) := by decide +kernel
theorem dX4_init_4 : decode cX4_init 4 = .ok (.aload_n 0, 1) := by decide +kernel
theorem dX4_init_5 : decode cX4_init 5 = .ok (.new 9, 3) := by decide +kernel
theorem dX4_init_8 : decode cX4_init 8 = .ok (.dup, 1) := by decide +kernel
theorem dX4_init_9 : decode cX4_init 9 = .ok (.invokespecial 11, 3) := by decide +kernel
theorem dX4_init_12 : decode cX4_init 12 = .ok (.putfield 12, 3) := by decide +kernel
theorem dX4_init_15 : decode cX4_init 15 = .ok (.aload_n 0, 1) := by decide +kernel
theorem dX4_init_16 : decode cX4_init 16 = .ok (.iconst 2, 1) := by decide +kernel
theorem dX4_init_17 : decode cX4_init 17 = .ok (.newarray .boolean, 2) := by decide +kernel
theorem dX4_init_19 : decode cX4_init 19 = .ok (.putfield 16, 3) := by decide +kernel
theorem dX4_init_22 : decode cX4_init 22 = .ok (.aload_n 0, 1) := by decide +kernel
theorem dX4_init_23 : decode cX4_init 23 = .ok (.new 20, 3) := by decide +kernel
theorem dX4_init_26 : decode cX4_init 26 = .ok (.dup, 1) := by decide +kernel
theorem dX4_init_27 : decode cX4_init 27 = .ok (.invokespecial 22, 3) := by decide +kernel
theorem dX4_init_30 : decode cX4_init 30 = .ok (.putfield 23, 3) := by decide +kernel
theorem dX4_init_33 : decode cX4_init 33 = .ok (.aload_n 0, 1) := by decide +kernel
theorem dX4_init_34 : decode cX4_init 34 = .ok (.new 20, 3) := by decide +kernel
theorem dX4_init_37 : decode cX4_init 37 = .ok (.dup, 1) := by decide +kernel
theorem dX4_init_38 : decode cX4_init 38 = .ok (.invokespecial 22, 3) := by decide +kernel
theorem dX4_init_41 : decode cX4_init 41 = .ok (.putfield 27, 3) := by decide +kernel
theorem dX4_init_44 : decode cX4_init 44 = .ok (.aload_n 0, 1) := by decide +kernel
theorem dX4_init_45 : decode cX4_init 45 = .ok (.new 30, 3) := by decide +kernel
theorem dX4_init_48 : decode cX4_init 48 = .ok (.dup, 1) := by decide +kernel
theorem dX4_init_49 : decode cX4_init 49 = .ok (.aload_n 0, 1) := by decide +kernel
theorem dX4_init_50 : decode cX4_init 50 = .ok (.getfield 12, 3) := by decide +kernel
theorem dX4_init_53 : decode cX4_init 53 = .ok (.invokespecial 32, 3) := by decide +kernel
theorem dX4_init_56 : decode cX4_init 56 = .ok (.putfield 35, 3) := by decide +kernel
theorem dX4_init_59 : decode cX4_init 59 = .ok (.aload_n 0, 1) := by decide +kernel
theorem dX4_init_60 : decode cX4_init 60 = .ok (.new 30, 3) := by decide +kernel
theorem dX4_init_63 : decode cX4_init 63 = .ok (.dup, 1) := by decide +kernel
theorem dX4_init_64 : decode cX4_init 64 = .ok (.aload_n 0, 1) := by decide +kernel
theorem dX4_init_65 : decode cX4_init 65 = .ok (.getfield 12, 3) := by decide +kernel
theorem dX4_init_68 : decode cX4_init 68 = .ok (.invokespecial 32, 3) := by decide +kernel
theorem dX4_init_71 : decode cX4_init 71 = .ok (.putfield 39, 3) := by decide +kernel
theorem dX4_init_74 : decode cX4_init 74 = .ok (.aload_n 0, 1) := by decide +kernel
theorem dX4_init_75 : decode cX4_init 75 = .ok (.iconst 0, 1) := by decide +kernel
theorem dX4_init_76 : decode cX4_init 76 = .ok (.putfield 42, 3) := by decide +kernel
theorem dX4_init_79 : decode cX4_init 79 = .ok (.return_, 1) := by decide +kernel
theorem dX4_addRack_0 : decode cX4_addRack 0 = .ok (.iload_n 1, 1) := by decide +kernel
theorem dX4_addRack_1 : decode cX4_addRack 1 = .ok (.iconst 0, 1) := by decide +kernel
theorem dX4_addRack_2 : decode cX4_addRack 2 = .ok (.iconst 3, 1) := by decide +kernel
theorem dX4_addRack_3 : decode cX4_addRack 3 = .ok (.invokestatic 46, 3) := by decide +kernel
theorem dX4_addRack_6 : decode cX4_addRack 6 = .ok (.iload_n 2, 1) := by decide +kernel
theorem dX4_addRack_7 : decode cX4_addRack 7 = .ok (.iconst 1, 1) := by decide +kernel
theorem dX4_addRack_8 : decode cX4_addRack 8 = .ok (.bipush 20, 2) := by decide +kernel
theorem dX4_addRack_10 : decode cX4_addRack 10 = .ok (.invokestatic 46, 3) := by decide +kernel
theorem dX4_addRack_13 : decode cX4_addRack 13 = .ok (.iload_n 3, 1) := by decide +kernel
theorem dX4_addRack_14 : decode cX4_addRack 14 = .ok (.iconst 0, 1) := by decide +kernel
theorem dX4_addRack_15 : decode cX4_addRack 15 = .ok (.sipush 10000, 3) := by decide +kernel
theorem dX4_addRack_18 : decode cX4_addRack 18 = .ok (.invokestatic 46, 3) := by decide +kernel
theorem dX4_addRack_21 : decode cX4_addRack 21 = .ok (.iload 4, 2) := by decide +kernel
theorem dX4_addRack_23 : decode cX4_addRack 23 = .ok (.iconst 0, 1) := by decide +kernel
theorem dX4_addRack_24 : decode cX4_addRack 24 = .ok (.sipush 10000, 3) := by decide +kernel
theorem dX4_addRack_27 : decode cX4_addRack 27 = .ok (.invokestatic 46, 3) := by decide +kernel
theorem dX4_addRack_30 : decode cX4_addRack 30 = .ok (.aload_n 0, 1) := by decide +kernel
theorem dX4_addRack_31 : decode cX4_addRack 31 = .ok (.getfield 12, 3) := by decide +kernel
theorem dX4_addRack_34 : decode cX4_addRack 34 = .ok (.getfield 50, 3) := by decide +kernel
theorem dX4_addRack_37 : decode cX4_addRack 37 = .ok (.invokevirtual 53, 3) := by decide +kernel
theorem dX4_addRack_40 : decode cX4_addRack 40 = .ok (.istore 5, 2) := by decide +kernel
theorem dX4_addRack_42 : decode cX4_addRack 42 = .ok (.iload 5, 2) := by decide +kernel
theorem dX4_addRack_44 : decode cX4_addRack 44 = .ok (.bipush 8, 2) := by decide +kernel
theorem dX4_addRack_46 : decode cX4_addRack 46 = .ok (.if_icmp .lt 13, 3) := by decide +kernel
theorem dX4_addRack_49 : decode cX4_addRack 49 = .ok (.new 57, 3) := by decide +kernel
theorem dX4_addRack_52 : decode cX4_addRack 52 = .ok (.dup, 1) := by decide +kernel
theorem dX4_addRack_53 : decode cX4_addRack 53 = .ok (.ldc 59, 2) := by decide +kernel
theorem dX4_addRack_55 : decode cX4_addRack 55 = .ok (.invokespecial 61, 3) := by decide +kernel
theorem dX4_addRack_58 : decode cX4_addRack 58 = .ok (.athrow, 1) := by decide +kernel
theorem dX4_addRack_59 : decode cX4_addRack 59 = .ok (.aload_n 0, 1) := by decide +kernel
theorem dX4_addRack_60 : decode cX4_addRack 60 = .ok (.getfield 12, 3) := by decide +kernel
theorem dX4_addRack_63 : decode cX4_addRack 63 = .ok (.getfield 50, 3) := by decide +kernel
theorem dX4_addRack_66 : decode cX4_addRack 66 = .ok (.new 64, 3) := by decide +kernel
theorem dX4_addRack_69 : decode cX4_addRack 69 = .ok (.dup, 1) := by decide +kernel
theorem dX4_addRack_70 : decode cX4_addRack 70 = .ok (.iload_n 1, 1) := by decide +kernel
theorem dX4_addRack_71 : decode cX4_addRack 71 = .ok (.iload_n 2, 1) := by decide +kernel
theorem dX4_addRack_72 : decode cX4_addRack 72 = .ok (.iload_n 3, 1) := by decide +kernel
theorem dX4_addRack_73 : decode cX4_addRack 73 = .ok (.iload 4, 2) := by decide +kernel
theorem dX4_addRack_75 : decode cX4_addRack 75 = .ok (.invokespecial 66, 3) := by decide +kernel
theorem dX4_addRack_78 : decode cX4_addRack 78 = .ok (.invokevirtual 69, 3) := by decide +kernel
theorem dX4_addRack_81 : decode cX4_addRack 81 = .ok (.pop, 1) := by decide +kernel
theorem dX4_addRack_82 : decode cX4_addRack 82 = .ok (.iload 5, 2) := by decide +kernel
theorem dX4_addRack_84 : decode cX4_addRack 84 = .ok (.ireturn, 1) := by decide +kernel
theorem dX4_setRow_0 : decode cX4_setRow 0 = .ok (.iload_n 1, 1) := by decide +kernel
theorem dX4_setRow_1 : decode cX4_setRow 1 = .ok (.iconst 0, 1) := by decide +kernel
theorem dX4_setRow_2 : decode cX4_setRow 2 = .ok (.iconst 3, 1) := by decide +kernel
theorem dX4_setRow_3 : decode cX4_setRow 3 = .ok (.invokestatic 46, 3) := by decide +kernel
theorem dX4_setRow_6 : decode cX4_setRow 6 = .ok (.iload_n 2, 1) := by decide +kernel
theorem dX4_setRow_7 : decode cX4_setRow 7 = .ok (.iconst 0, 1) := by decide +kernel
theorem dX4_setRow_8 : decode cX4_setRow 8 = .ok (.sipush 10000, 3) := by decide +kernel
theorem dX4_setRow_11 : decode cX4_setRow 11 = .ok (.invokestatic 46, 3) := by decide +kernel
theorem dX4_setRow_14 : decode cX4_setRow 14 = .ok (.iload_n 3, 1) := by decide +kernel
theorem dX4_setRow_15 : decode cX4_setRow 15 = .ok (.iconst 0, 1) := by decide +kernel
theorem dX4_setRow_16 : decode cX4_setRow 16 = .ok (.sipush 10000, 3) := by decide +kernel
theorem dX4_setRow_19 : decode cX4_setRow 19 = .ok (.invokestatic 46, 3) := by decide +kernel
theorem dX4_setRow_22 : decode cX4_setRow 22 = .ok (.aload_n 0, 1) := by decide +kernel
theorem dX4_setRow_23 : decode cX4_setRow 23 = .ok (.getfield 35, 3) := by decide +kernel
theorem dX4_setRow_26 : decode cX4_setRow 26 = .ok (.iload_n 1, 1) := by decide +kernel
theorem dX4_setRow_27 : decode cX4_setRow 27 = .ok (.invokevirtual 73, 3) := by decide +kernel
theorem dX4_setRow_30 : decode cX4_setRow 30 = .ok (.iload_n 2, 1) := by decide +kernel
theorem dX4_setRow_31 : decode cX4_setRow 31 = .ok (.if_icmp .gt 15, 3) := by decide +kernel
theorem dX4_setRow_34 : decode cX4_setRow 34 = .ok (.aload_n 0, 1) := by decide +kernel
theorem dX4_setRow_35 : decode cX4_setRow 35 = .ok (.getfield 35, 3) := by decide +kernel
theorem dX4_setRow_38 : decode cX4_setRow 38 = .ok (.iload_n 1, 1) := by decide +kernel
theorem dX4_setRow_39 : decode cX4_setRow 39 = .ok (.invokevirtual 77, 3) := by decide +kernel
theorem dX4_setRow_42 : decode cX4_setRow 42 = .ok (.iload_n 3, 1) := by decide +kernel
theorem dX4_setRow_43 : decode cX4_setRow 43 = .ok (.if_icmp .le 13, 3) := by decide +kernel
theorem dX4_setRow_46 : decode cX4_setRow 46 = .ok (.new 57, 3) := by decide +kernel
theorem dX4_setRow_49 : decode cX4_setRow 49 = .ok (.dup, 1) := by decide +kernel
theorem dX4_setRow_50 : decode cX4_setRow 50 = .ok (.ldc 80, 2) := by decide +kernel
theorem dX4_setRow_52 : decode cX4_setRow 52 = .ok (.invokespecial 61, 3) := by decide +kernel
theorem dX4_setRow_55 : decode cX4_setRow 55 = .ok (.athrow, 1) := by decide +kernel
theorem dX4_setRow_56 : decode cX4_setRow 56 = .ok (.aload_n 0, 1) := by decide +kernel
theorem dX4_setRow_57 : decode cX4_setRow 57 = .ok (.getfield 12, 3) := by decide +kernel
theorem dX4_setRow_60 : decode cX4_setRow 60 = .ok (.getfield 82, 3) := by decide +kernel
theorem dX4_setRow_63 : decode cX4_setRow 63 = .ok (.iload_n 1, 1) := by decide +kernel
theorem dX4_setRow_64 : decode cX4_setRow 64 = .ok (.iload_n 2, 1) := by decide +kernel
theorem dX4_setRow_65 : decode cX4_setRow 65 = .ok (.iastore, 1) := by decide +kernel
theorem dX4_setRow_66 : decode cX4_setRow 66 = .ok (.aload_n 0, 1) := by decide +kernel
theorem dX4_setRow_67 : decode cX4_setRow 67 = .ok (.getfield 12, 3) := by decide +kernel
theorem dX4_setRow_70 : decode cX4_setRow 70 = .ok (.getfield 86, 3) := by decide +kernel
theorem dX4_setRow_73 : decode cX4_setRow 73 = .ok (.iload_n 1, 1) := by decide +kernel
theorem dX4_setRow_74 : decode cX4_setRow 74 = .ok (.iload_n 3, 1) := by decide +kernel
theorem dX4_setRow_75 : decode cX4_setRow 75 = .ok (.iastore, 1) := by decide +kernel
theorem dX4_setRow_76 : decode cX4_setRow 76 = .ok (.return_, 1) := by decide +kernel
theorem dX4_setFeed_0 : decode cX4_setFeed 0 = .ok (.iload_n 1, 1) := by decide +kernel
theorem dX4_setFeed_1 : decode cX4_setFeed 1 = .ok (.invokestatic 89, 3) := by decide +kernel
theorem dX4_setFeed_4 : decode cX4_setFeed 4 = .ok (.iload_n 2, 1) := by decide +kernel
theorem dX4_setFeed_5 : decode cX4_setFeed 5 = .ok (.iconst 0, 1) := by decide +kernel
theorem dX4_setFeed_6 : decode cX4_setFeed 6 = .ok (.sipush 20000, 3) := by decide +kernel
theorem dX4_setFeed_9 : decode cX4_setFeed 9 = .ok (.invokestatic 46, 3) := by decide +kernel
theorem dX4_setFeed_12 : decode cX4_setFeed 12 = .ok (.aload_n 0, 1) := by decide +kernel
theorem dX4_setFeed_13 : decode cX4_setFeed 13 = .ok (.getfield 35, 3) := by decide +kernel
theorem dX4_setFeed_16 : decode cX4_setFeed 16 = .ok (.iload_n 1, 1) := by decide +kernel
theorem dX4_setFeed_17 : decode cX4_setFeed 17 = .ok (.invokevirtual 93, 3) := by decide +kernel
theorem dX4_setFeed_20 : decode cX4_setFeed 20 = .ok (.iload_n 2, 1) := by decide +kernel
theorem dX4_setFeed_21 : decode cX4_setFeed 21 = .ok (.if_icmp .le 13, 3) := by decide +kernel
theorem dX4_setFeed_24 : decode cX4_setFeed 24 = .ok (.new 57, 3) := by decide +kernel
theorem dX4_setFeed_27 : decode cX4_setFeed 27 = .ok (.dup, 1) := by decide +kernel
theorem dX4_setFeed_28 : decode cX4_setFeed 28 = .ok (.ldc 96, 2) := by decide +kernel
theorem dX4_setFeed_30 : decode cX4_setFeed 30 = .ok (.invokespecial 61, 3) := by decide +kernel
theorem dX4_setFeed_33 : decode cX4_setFeed 33 = .ok (.athrow, 1) := by decide +kernel
theorem dX4_setFeed_34 : decode cX4_setFeed 34 = .ok (.aload_n 0, 1) := by decide +kernel
theorem dX4_setFeed_35 : decode cX4_setFeed 35 = .ok (.getfield 12, 3) := by decide +kernel
theorem dX4_setFeed_38 : decode cX4_setFeed 38 = .ok (.getfield 98, 3) := by decide +kernel
theorem dX4_setFeed_41 : decode cX4_setFeed 41 = .ok (.iload_n 1, 1) := by decide +kernel
theorem dX4_setFeed_42 : decode cX4_setFeed 42 = .ok (.iaload, 1) := by decide +kernel
theorem dX4_setFeed_43 : decode cX4_setFeed 43 = .ok (.istore_n 3, 1) := by decide +kernel
theorem dX4_setFeed_44 : decode cX4_setFeed 44 = .ok (.aload_n 0, 1) := by decide +kernel
theorem dX4_setFeed_45 : decode cX4_setFeed 45 = .ok (.getfield 12, 3) := by decide +kernel
theorem dX4_setFeed_48 : decode cX4_setFeed 48 = .ok (.getfield 98, 3) := by decide +kernel
theorem dX4_setFeed_51 : decode cX4_setFeed 51 = .ok (.iload_n 1, 1) := by decide +kernel
theorem dX4_setFeed_52 : decode cX4_setFeed 52 = .ok (.iload_n 2, 1) := by decide +kernel
theorem dX4_setFeed_53 : decode cX4_setFeed 53 = .ok (.iastore, 1) := by decide +kernel
theorem dX4_setFeed_54 : decode cX4_setFeed 54 = .ok (.iload_n 3, 1) := by decide +kernel
theorem dX4_setFeed_55 : decode cX4_setFeed 55 = .ok (.ireturn, 1) := by decide +kernel
theorem dX4_switchFeed_0 : decode cX4_switchFeed 0 = .ok (.iload_n 1, 1) := by decide +kernel
theorem dX4_switchFeed_1 : decode cX4_switchFeed 1 = .ok (.invokestatic 89, 3) := by decide +kernel
theorem dX4_switchFeed_4 : decode cX4_switchFeed 4 = .ok (.aload_n 0, 1) := by decide +kernel
theorem dX4_switchFeed_5 : decode cX4_switchFeed 5 = .ok (.getfield 16, 3) := by decide +kernel
theorem dX4_switchFeed_8 : decode cX4_switchFeed 8 = .ok (.iload_n 1, 1) := by decide +kernel
theorem dX4_switchFeed_9 : decode cX4_switchFeed 9 = .ok (.aload_n 0, 1) := by decide +kernel
theorem dX4_switchFeed_10 : decode cX4_switchFeed 10 = .ok (.getfield 16, 3) := by decide +kernel
theorem dX4_switchFeed_13 : decode cX4_switchFeed 13 = .ok (.iload_n 1, 1) := by decide +kernel
theorem dX4_switchFeed_14 : decode cX4_switchFeed 14 = .ok (.baload, 1) := by decide +kernel
theorem dX4_switchFeed_15 : decode cX4_switchFeed 15 = .ok (.ifCond .ne 7, 3) := by decide +kernel
theorem dX4_switchFeed_18 : decode cX4_switchFeed 18 = .ok (.iconst 1, 1) := by decide +kernel
theorem dX4_switchFeed_19 : decode cX4_switchFeed 19 = .ok (.goto 4, 3) := by decide +kernel
theorem dX4_switchFeed_22 : decode cX4_switchFeed 22 = .ok (.iconst 0, 1) := by decide +kernel
theorem dX4_switchFeed_23 : decode cX4_switchFeed 23 = .ok (.bastore, 1) := by decide +kernel
theorem dX4_switchFeed_24 : decode cX4_switchFeed 24 = .ok (.iconst 0, 1) := by decide +kernel
theorem dX4_switchFeed_25 : decode cX4_switchFeed 25 = .ok (.istore_n 2, 1) := by decide +kernel
theorem dX4_switchFeed_26 : decode cX4_switchFeed 26 = .ok (.iconst 0, 1) := by decide +kernel
theorem dX4_switchFeed_27 : decode cX4_switchFeed 27 = .ok (.istore_n 3, 1) := by decide +kernel
theorem dX4_switchFeed_28 : decode cX4_switchFeed 28 = .ok (.iload_n 3, 1) := by decide +kernel
theorem dX4_switchFeed_29 : decode cX4_switchFeed 29 = .ok (.aload_n 0, 1) := by decide +kernel
theorem dX4_switchFeed_30 : decode cX4_switchFeed 30 = .ok (.getfield 23, 3) := by decide +kernel
theorem dX4_switchFeed_33 : decode cX4_switchFeed 33 = .ok (.invokevirtual 53, 3) := by decide +kernel
theorem dX4_switchFeed_36 : decode cX4_switchFeed 36 = .ok (.if_icmp .ge 30, 3) := by decide +kernel
theorem dX4_switchFeed_39 : decode cX4_switchFeed 39 = .ok (.aload_n 0, 1) := by decide +kernel
theorem dX4_switchFeed_40 : decode cX4_switchFeed 40 = .ok (.aload_n 0, 1) := by decide +kernel
theorem dX4_switchFeed_41 : decode cX4_switchFeed 41 = .ok (.getfield 23, 3) := by decide +kernel
theorem dX4_switchFeed_44 : decode cX4_switchFeed 44 = .ok (.iload_n 3, 1) := by decide +kernel
theorem dX4_switchFeed_45 : decode cX4_switchFeed 45 = .ok (.invokevirtual 101, 3) := by decide +kernel
theorem dX4_switchFeed_48 : decode cX4_switchFeed 48 = .ok (.checkcast 105, 3) := by decide +kernel
theorem dX4_switchFeed_51 : decode cX4_switchFeed 51 = .ok (.invokevirtual 107, 3) := by decide +kernel
theorem dX4_switchFeed_54 : decode cX4_switchFeed 54 = .ok (.ifCond .eq 6, 3) := by decide +kernel
theorem dX4_switchFeed_57 : decode cX4_switchFeed 57 = .ok (.iinc 2 1, 3) := by decide +kernel
theorem dX4_switchFeed_60 : decode cX4_switchFeed 60 = .ok (.iinc 3 1, 3) := by decide +kernel
theorem dX4_switchFeed_63 : decode cX4_switchFeed 63 = .ok (.goto (-35), 3) := by decide +kernel
theorem dX4_switchFeed_66 : decode cX4_switchFeed 66 = .ok (.iload_n 2, 1) := by decide +kernel
theorem dX4_switchFeed_67 : decode cX4_switchFeed 67 = .ok (.ireturn, 1) := by decide +kernel
theorem dX4_hasFailed_0 : decode cX4_hasFailed 0 = .ok (.iload_n 1, 1) := by decide +kernel
theorem dX4_hasFailed_1 : decode cX4_hasFailed 1 = .ok (.invokestatic 89, 3) := by decide +kernel
theorem dX4_hasFailed_4 : decode cX4_hasFailed 4 = .ok (.aload_n 0, 1) := by decide +kernel
theorem dX4_hasFailed_5 : decode cX4_hasFailed 5 = .ok (.getfield 16, 3) := by decide +kernel
theorem dX4_hasFailed_8 : decode cX4_hasFailed 8 = .ok (.iload_n 1, 1) := by decide +kernel
theorem dX4_hasFailed_9 : decode cX4_hasFailed 9 = .ok (.baload, 1) := by decide +kernel
theorem dX4_hasFailed_10 : decode cX4_hasFailed 10 = .ok (.ireturn, 1) := by decide +kernel
theorem dX4_racks_0 : decode cX4_racks 0 = .ok (.aload_n 0, 1) := by decide +kernel
theorem dX4_racks_1 : decode cX4_racks 1 = .ok (.getfield 12, 3) := by decide +kernel
theorem dX4_racks_4 : decode cX4_racks 4 = .ok (.getfield 50, 3) := by decide +kernel
theorem dX4_racks_7 : decode cX4_racks 7 = .ok (.invokevirtual 53, 3) := by decide +kernel
theorem dX4_racks_10 : decode cX4_racks 10 = .ok (.ireturn, 1) := by decide +kernel
theorem dX4_place_0 : decode cX4_place 0 = .ok (.aload_n 0, 1) := by decide +kernel
theorem dX4_place_1 : decode cX4_place 1 = .ok (.iload_n 1, 1) := by decide +kernel
theorem dX4_place_2 : decode cX4_place 2 = .ok (.iload_n 2, 1) := by decide +kernel
theorem dX4_place_3 : decode cX4_place 3 = .ok (.iload_n 3, 1) := by decide +kernel
theorem dX4_place_4 : decode cX4_place 4 = .ok (.iload 4, 2) := by decide +kernel
theorem dX4_place_6 : decode cX4_place 6 = .ok (.invokevirtual 111, 3) := by decide +kernel
theorem dX4_place_9 : decode cX4_place 9 = .ok (.astore 5, 2) := by decide +kernel
theorem dX4_place_11 : decode cX4_place 11 = .ok (.aload_n 0, 1) := by decide +kernel
theorem dX4_place_12 : decode cX4_place 12 = .ok (.getfield 23, 3) := by decide +kernel
theorem dX4_place_15 : decode cX4_place 15 = .ok (.invokevirtual 53, 3) := by decide +kernel
theorem dX4_place_18 : decode cX4_place 18 = .ok (.bipush 60, 2) := by decide +kernel
theorem dX4_place_20 : decode cX4_place 20 = .ok (.if_icmp .lt 13, 3) := by decide +kernel
theorem dX4_place_23 : decode cX4_place 23 = .ok (.new 57, 3) := by decide +kernel
theorem dX4_place_26 : decode cX4_place 26 = .ok (.dup, 1) := by decide +kernel
theorem dX4_place_27 : decode cX4_place 27 = .ok (.ldc 115, 2) := by decide +kernel
theorem dX4_place_29 : decode cX4_place 29 = .ok (.invokespecial 61, 3) := by decide +kernel
theorem dX4_place_32 : decode cX4_place 32 = .ok (.athrow, 1) := by decide +kernel
theorem dX4_place_33 : decode cX4_place 33 = .ok (.aload_n 0, 1) := by decide +kernel
theorem dX4_place_34 : decode cX4_place 34 = .ok (.getfield 35, 3) := by decide +kernel
theorem dX4_place_37 : decode cX4_place 37 = .ok (.aload 5, 2) := by decide +kernel
theorem dX4_place_39 : decode cX4_place 39 = .ok (.invokevirtual 117, 3) := by decide +kernel
theorem dX4_place_42 : decode cX4_place 42 = .ok (.istore 6, 2) := by decide +kernel
theorem dX4_place_44 : decode cX4_place 44 = .ok (.iload 6, 2) := by decide +kernel
theorem dX4_place_46 : decode cX4_place 46 = .ok (.iconst (-1), 1) := by decide +kernel
theorem dX4_place_47 : decode cX4_place 47 = .ok (.if_icmp .ne 13, 3) := by decide +kernel
theorem dX4_place_50 : decode cX4_place 50 = .ok (.new 57, 3) := by decide +kernel
theorem dX4_place_53 : decode cX4_place 53 = .ok (.dup, 1) := by decide +kernel
theorem dX4_place_54 : decode cX4_place 54 = .ok (.ldc 121, 2) := by decide +kernel
theorem dX4_place_56 : decode cX4_place 56 = .ok (.invokespecial 61, 3) := by decide +kernel
theorem dX4_place_59 : decode cX4_place 59 = .ok (.athrow, 1) := by decide +kernel
theorem dX4_place_60 : decode cX4_place 60 = .ok (.aload 5, 2) := by decide +kernel
theorem dX4_place_62 : decode cX4_place 62 = .ok (.iload 6, 2) := by decide +kernel
theorem dX4_place_64 : decode cX4_place 64 = .ok (.putfield 123, 3) := by decide +kernel
theorem dX4_place_67 : decode cX4_place 67 = .ok (.aload_n 0, 1) := by decide +kernel
theorem dX4_place_68 : decode cX4_place 68 = .ok (.getfield 35, 3) := by decide +kernel
theorem dX4_place_71 : decode cX4_place 71 = .ok (.aload 5, 2) := by decide +kernel
theorem dX4_place_73 : decode cX4_place 73 = .ok (.iload 6, 2) := by decide +kernel
theorem dX4_place_75 : decode cX4_place 75 = .ok (.invokevirtual 126, 3) := by decide +kernel
theorem dX4_place_78 : decode cX4_place 78 = .ok (.aload_n 0, 1) := by decide +kernel
theorem dX4_place_79 : decode cX4_place 79 = .ok (.getfield 23, 3) := by decide +kernel
theorem dX4_place_82 : decode cX4_place 82 = .ok (.aload 5, 2) := by decide +kernel
theorem dX4_place_84 : decode cX4_place 84 = .ok (.invokevirtual 69, 3) := by decide +kernel
theorem dX4_place_87 : decode cX4_place 87 = .ok (.pop, 1) := by decide +kernel
theorem dX4_place_88 : decode cX4_place 88 = .ok (.aload_n 0, 1) := by decide +kernel
theorem dX4_place_89 : decode cX4_place 89 = .ok (.dup, 1) := by decide +kernel
theorem dX4_place_90 : decode cX4_place 90 = .ok (.getfield 42, 3) := by decide +kernel
theorem dX4_place_93 : decode cX4_place 93 = .ok (.iconst 1, 1) := by decide +kernel
theorem dX4_place_94 : decode cX4_place 94 = .ok (.iadd, 1) := by decide +kernel
theorem dX4_place_95 : decode cX4_place 95 = .ok (.putfield 42, 3) := by decide +kernel
theorem dX4_place_98 : decode cX4_place 98 = .ok (.aload 5, 2) := by decide +kernel
theorem dX4_place_100 : decode cX4_place 100 = .ok (.getfield 130, 3) := by decide +kernel
theorem dX4_place_103 : decode cX4_place 103 = .ok (.ireturn, 1) := by decide +kernel
theorem dX4_takeOut_0 : decode cX4_takeOut 0 = .ok (.aload_n 0, 1) := by decide +kernel
theorem dX4_takeOut_1 : decode cX4_takeOut 1 = .ok (.iload_n 1, 1) := by decide +kernel
theorem dX4_takeOut_2 : decode cX4_takeOut 2 = .ok (.invokevirtual 133, 3) := by decide +kernel
theorem dX4_takeOut_5 : decode cX4_takeOut 5 = .ok (.istore_n 2, 1) := by decide +kernel
theorem dX4_takeOut_6 : decode cX4_takeOut 6 = .ok (.aload_n 0, 1) := by decide +kernel
theorem dX4_takeOut_7 : decode cX4_takeOut 7 = .ok (.getfield 23, 3) := by decide +kernel
theorem dX4_takeOut_10 : decode cX4_takeOut 10 = .ok (.iload_n 2, 1) := by decide +kernel
theorem dX4_takeOut_11 : decode cX4_takeOut 11 = .ok (.invokevirtual 101, 3) := by decide +kernel
theorem dX4_takeOut_14 : decode cX4_takeOut 14 = .ok (.checkcast 105, 3) := by decide +kernel
theorem dX4_takeOut_17 : decode cX4_takeOut 17 = .ok (.astore_n 3, 1) := by decide +kernel
theorem dX4_takeOut_18 : decode cX4_takeOut 18 = .ok (.aload_n 0, 1) := by decide +kernel
theorem dX4_takeOut_19 : decode cX4_takeOut 19 = .ok (.getfield 35, 3) := by decide +kernel
theorem dX4_takeOut_22 : decode cX4_takeOut 22 = .ok (.aload_n 3, 1) := by decide +kernel
theorem dX4_takeOut_23 : decode cX4_takeOut 23 = .ok (.invokevirtual 136, 3) := by decide +kernel
theorem dX4_takeOut_26 : decode cX4_takeOut 26 = .ok (.aload_n 0, 1) := by decide +kernel
theorem dX4_takeOut_27 : decode cX4_takeOut 27 = .ok (.getfield 23, 3) := by decide +kernel
theorem dX4_takeOut_30 : decode cX4_takeOut 30 = .ok (.iload_n 2, 1) := by decide +kernel
theorem dX4_takeOut_31 : decode cX4_takeOut 31 = .ok (.invokevirtual 140, 3) := by decide +kernel
theorem dX4_takeOut_34 : decode cX4_takeOut 34 = .ok (.pop, 1) := by decide +kernel
theorem dX4_takeOut_35 : decode cX4_takeOut 35 = .ok (.aload_n 3, 1) := by decide +kernel
theorem dX4_takeOut_36 : decode cX4_takeOut 36 = .ok (.getfield 123, 3) := by decide +kernel
theorem dX4_takeOut_39 : decode cX4_takeOut 39 = .ok (.invokestatic 143, 3) := by decide +kernel
theorem dX4_takeOut_42 : decode cX4_takeOut 42 = .ok (.ireturn, 1) := by decide +kernel
theorem dX4_cord_0 : decode cX4_cord 0 = .ok (.aload_n 0, 1) := by decide +kernel
theorem dX4_cord_1 : decode cX4_cord 1 = .ok (.iload_n 1, 1) := by decide +kernel
theorem dX4_cord_2 : decode cX4_cord 2 = .ok (.invokevirtual 146, 3) := by decide +kernel
theorem dX4_cord_5 : decode cX4_cord 5 = .ok (.astore_n 3, 1) := by decide +kernel
theorem dX4_cord_6 : decode cX4_cord 6 = .ok (.iload_n 2, 1) := by decide +kernel
theorem dX4_cord_7 : decode cX4_cord 7 = .ok (.iconst 0, 1) := by decide +kernel
theorem dX4_cord_8 : decode cX4_cord 8 = .ok (.iconst 2, 1) := by decide +kernel
theorem dX4_cord_9 : decode cX4_cord 9 = .ok (.invokestatic 46, 3) := by decide +kernel
theorem dX4_cord_12 : decode cX4_cord 12 = .ok (.aload_n 0, 1) := by decide +kernel
theorem dX4_cord_13 : decode cX4_cord 13 = .ok (.getfield 35, 3) := by decide +kernel
theorem dX4_cord_16 : decode cX4_cord 16 = .ok (.aload_n 3, 1) := by decide +kernel
theorem dX4_cord_17 : decode cX4_cord 17 = .ok (.iload_n 2, 1) := by decide +kernel
theorem dX4_cord_18 : decode cX4_cord 18 = .ok (.invokevirtual 150, 3) := by decide +kernel
theorem dX4_cord_21 : decode cX4_cord 21 = .ok (.ifCond .ne 13, 3) := by decide +kernel
theorem dX4_cord_24 : decode cX4_cord 24 = .ok (.new 57, 3) := by decide +kernel
theorem dX4_cord_27 : decode cX4_cord 27 = .ok (.dup, 1) := by decide +kernel
theorem dX4_cord_28 : decode cX4_cord 28 = .ok (.ldc 154, 2) := by decide +kernel
theorem dX4_cord_30 : decode cX4_cord 30 = .ok (.invokespecial 61, 3) := by decide +kernel
theorem dX4_cord_33 : decode cX4_cord 33 = .ok (.athrow, 1) := by decide +kernel
theorem dX4_cord_34 : decode cX4_cord 34 = .ok (.aload_n 3, 1) := by decide +kernel
theorem dX4_cord_35 : decode cX4_cord 35 = .ok (.getfield 156, 3) := by decide +kernel
theorem dX4_cord_38 : decode cX4_cord 38 = .ok (.istore 4, 2) := by decide +kernel
theorem dX4_cord_40 : decode cX4_cord 40 = .ok (.aload_n 0, 1) := by decide +kernel
theorem dX4_cord_41 : decode cX4_cord 41 = .ok (.getfield 35, 3) := by decide +kernel
theorem dX4_cord_44 : decode cX4_cord 44 = .ok (.aload_n 3, 1) := by decide +kernel
theorem dX4_cord_45 : decode cX4_cord 45 = .ok (.iload_n 2, 1) := by decide +kernel
theorem dX4_cord_46 : decode cX4_cord 46 = .ok (.invokevirtual 159, 3) := by decide +kernel
theorem dX4_cord_49 : decode cX4_cord 49 = .ok (.iload 4, 2) := by decide +kernel
theorem dX4_cord_51 : decode cX4_cord 51 = .ok (.ireturn, 1) := by decide +kernel
theorem dX4_pack_0 : decode cX4_pack 0 = .ok (.aload_n 0, 1) := by decide +kernel
theorem dX4_pack_1 : decode cX4_pack 1 = .ok (.invokevirtual 162, 3) := by decide +kernel
theorem dX4_pack_4 : decode cX4_pack 4 = .ok (.aload_n 0, 1) := by decide +kernel
theorem dX4_pack_5 : decode cX4_pack 5 = .ok (.getfield 39, 3) := by decide +kernel
theorem dX4_pack_8 : decode cX4_pack 8 = .ok (.invokevirtual 165, 3) := by decide +kernel
theorem dX4_pack_11 : decode cX4_pack 11 = .ok (.iconst 0, 1) := by decide +kernel
theorem dX4_pack_12 : decode cX4_pack 12 = .ok (.istore_n 1, 1) := by decide +kernel
theorem dX4_pack_13 : decode cX4_pack 13 = .ok (.iload_n 1, 1) := by decide +kernel
theorem dX4_pack_14 : decode cX4_pack 14 = .ok (.aload_n 0, 1) := by decide +kernel
theorem dX4_pack_15 : decode cX4_pack 15 = .ok (.getfield 27, 3) := by decide +kernel
theorem dX4_pack_18 : decode cX4_pack 18 = .ok (.invokevirtual 53, 3) := by decide +kernel
theorem dX4_pack_21 : decode cX4_pack 21 = .ok (.if_icmp .ge 51, 3) := by decide +kernel
theorem dX4_pack_24 : decode cX4_pack 24 = .ok (.aload_n 0, 1) := by decide +kernel
theorem dX4_pack_25 : decode cX4_pack 25 = .ok (.getfield 27, 3) := by decide +kernel
theorem dX4_pack_28 : decode cX4_pack 28 = .ok (.iload_n 1, 1) := by decide +kernel
theorem dX4_pack_29 : decode cX4_pack 29 = .ok (.invokevirtual 101, 3) := by decide +kernel
theorem dX4_pack_32 : decode cX4_pack 32 = .ok (.checkcast 105, 3) := by decide +kernel
theorem dX4_pack_35 : decode cX4_pack 35 = .ok (.astore_n 2, 1) := by decide +kernel
theorem dX4_pack_36 : decode cX4_pack 36 = .ok (.aload_n 0, 1) := by decide +kernel
theorem dX4_pack_37 : decode cX4_pack 37 = .ok (.getfield 39, 3) := by decide +kernel
theorem dX4_pack_40 : decode cX4_pack 40 = .ok (.aload_n 2, 1) := by decide +kernel
theorem dX4_pack_41 : decode cX4_pack 41 = .ok (.invokevirtual 117, 3) := by decide +kernel
theorem dX4_pack_44 : decode cX4_pack 44 = .ok (.istore_n 3, 1) := by decide +kernel
theorem dX4_pack_45 : decode cX4_pack 45 = .ok (.iload_n 3, 1) := by decide +kernel
theorem dX4_pack_46 : decode cX4_pack 46 = .ok (.iconst (-1), 1) := by decide +kernel
theorem dX4_pack_47 : decode cX4_pack 47 = .ok (.if_icmp .ne 5, 3) := by decide +kernel
theorem dX4_pack_50 : decode cX4_pack 50 = .ok (.iconst (-1), 1) := by decide +kernel
theorem dX4_pack_51 : decode cX4_pack 51 = .ok (.ireturn, 1) := by decide +kernel
theorem dX4_pack_52 : decode cX4_pack 52 = .ok (.aload_n 2, 1) := by decide +kernel
theorem dX4_pack_53 : decode cX4_pack 53 = .ok (.iload_n 3, 1) := by decide +kernel
theorem dX4_pack_54 : decode cX4_pack 54 = .ok (.putfield 168, 3) := by decide +kernel
theorem dX4_pack_57 : decode cX4_pack 57 = .ok (.aload_n 0, 1) := by decide +kernel
theorem dX4_pack_58 : decode cX4_pack 58 = .ok (.getfield 39, 3) := by decide +kernel
theorem dX4_pack_61 : decode cX4_pack 61 = .ok (.aload_n 2, 1) := by decide +kernel
theorem dX4_pack_62 : decode cX4_pack 62 = .ok (.iload_n 3, 1) := by decide +kernel
theorem dX4_pack_63 : decode cX4_pack 63 = .ok (.invokevirtual 126, 3) := by decide +kernel
theorem dX4_pack_66 : decode cX4_pack 66 = .ok (.iinc 1 1, 3) := by decide +kernel
theorem dX4_pack_69 : decode cX4_pack 69 = .ok (.goto (-56), 3) := by decide +kernel
theorem dX4_pack_72 : decode cX4_pack 72 = .ok (.aload_n 0, 1) := by decide +kernel
theorem dX4_pack_73 : decode cX4_pack 73 = .ok (.invokevirtual 171, 3) := by decide +kernel
theorem dX4_pack_76 : decode cX4_pack 76 = .ok (.aload_n 0, 1) := by decide +kernel
theorem dX4_pack_77 : decode cX4_pack 77 = .ok (.invokevirtual 174, 3) := by decide +kernel
theorem dX4_pack_80 : decode cX4_pack 80 = .ok (.ireturn, 1) := by decide +kernel
theorem dX4_machines_0 : decode cX4_machines 0 = .ok (.aload_n 0, 1) := by decide +kernel
theorem dX4_machines_1 : decode cX4_machines 1 = .ok (.getfield 23, 3) := by decide +kernel
theorem dX4_machines_4 : decode cX4_machines 4 = .ok (.invokevirtual 53, 3) := by decide +kernel
theorem dX4_machines_7 : decode cX4_machines 7 = .ok (.ireturn, 1) := by decide +kernel
theorem dX4_rackOf_0 : decode cX4_rackOf 0 = .ok (.aload_n 0, 1) := by decide +kernel
theorem dX4_rackOf_1 : decode cX4_rackOf 1 = .ok (.iload_n 1, 1) := by decide +kernel
theorem dX4_rackOf_2 : decode cX4_rackOf 2 = .ok (.invokevirtual 146, 3) := by decide +kernel
theorem dX4_rackOf_5 : decode cX4_rackOf 5 = .ok (.getfield 123, 3) := by decide +kernel
theorem dX4_rackOf_8 : decode cX4_rackOf 8 = .ok (.invokestatic 143, 3) := by decide +kernel
theorem dX4_rackOf_11 : decode cX4_rackOf 11 = .ok (.ireturn, 1) := by decide +kernel
theorem dX4_slotOf_0 : decode cX4_slotOf 0 = .ok (.aload_n 0, 1) := by decide +kernel
theorem dX4_slotOf_1 : decode cX4_slotOf 1 = .ok (.iload_n 1, 1) := by decide +kernel
theorem dX4_slotOf_2 : decode cX4_slotOf 2 = .ok (.invokevirtual 146, 3) := by decide +kernel
theorem dX4_slotOf_5 : decode cX4_slotOf 5 = .ok (.getfield 123, 3) := by decide +kernel
theorem dX4_slotOf_8 : decode cX4_slotOf 8 = .ok (.bipush 20, 2) := by decide +kernel
theorem dX4_slotOf_10 : decode cX4_slotOf 10 = .ok (.irem, 1) := by decide +kernel
theorem dX4_slotOf_11 : decode cX4_slotOf 11 = .ok (.ireturn, 1) := by decide +kernel
theorem dX4_isDark_0 : decode cX4_isDark 0 = .ok (.aload_n 0, 1) := by decide +kernel
theorem dX4_isDark_1 : decode cX4_isDark 1 = .ok (.aload_n 0, 1) := by decide +kernel
theorem dX4_isDark_2 : decode cX4_isDark 2 = .ok (.iload_n 1, 1) := by decide +kernel
theorem dX4_isDark_3 : decode cX4_isDark 3 = .ok (.invokevirtual 146, 3) := by decide +kernel
theorem dX4_isDark_6 : decode cX4_isDark 6 = .ok (.invokevirtual 107, 3) := by decide +kernel
theorem dX4_isDark_9 : decode cX4_isDark 9 = .ok (.ireturn, 1) := by decide +kernel
theorem dX4_machineAt_0 : decode cX4_machineAt 0 = .ok (.aload_n 0, 1) := by decide +kernel
theorem dX4_machineAt_1 : decode cX4_machineAt 1 = .ok (.iload_n 1, 1) := by decide +kernel
theorem dX4_machineAt_2 : decode cX4_machineAt 2 = .ok (.invokevirtual 177, 3) := by decide +kernel
theorem dX4_machineAt_5 : decode cX4_machineAt 5 = .ok (.astore_n 3, 1) := by decide +kernel
theorem dX4_machineAt_6 : decode cX4_machineAt 6 = .ok (.iload_n 2, 1) := by decide +kernel
theorem dX4_machineAt_7 : decode cX4_machineAt 7 = .ok (.ifCond .lt 11, 3) := by decide +kernel
theorem dX4_machineAt_10 : decode cX4_machineAt 10 = .ok (.iload_n 2, 1) := by decide +kernel
theorem dX4_machineAt_11 : decode cX4_machineAt 11 = .ok (.aload_n 3, 1) := by decide +kernel
theorem dX4_machineAt_12 : decode cX4_machineAt 12 = .ok (.getfield 181, 3) := by decide +kernel
theorem dX4_machineAt_15 : decode cX4_machineAt 15 = .ok (.if_icmp .lt 13, 3) := by decide +kernel
theorem dX4_machineAt_18 : decode cX4_machineAt 18 = .ok (.new 184, 3) := by decide +kernel
theorem dX4_machineAt_21 : decode cX4_machineAt 21 = .ok (.dup, 1) := by decide +kernel
theorem dX4_machineAt_22 : decode cX4_machineAt 22 = .ok (.ldc 186, 2) := by decide +kernel
theorem dX4_machineAt_24 : decode cX4_machineAt 24 = .ok (.invokespecial 188, 3) := by decide +kernel
theorem dX4_machineAt_27 : decode cX4_machineAt 27 = .ok (.athrow, 1) := by decide +kernel
theorem dX4_machineAt_28 : decode cX4_machineAt 28 = .ok (.aload_n 0, 1) := by decide +kernel
theorem dX4_machineAt_29 : decode cX4_machineAt 29 = .ok (.getfield 35, 3) := by decide +kernel
theorem dX4_machineAt_32 : decode cX4_machineAt 32 = .ok (.getfield 189, 3) := by decide +kernel
theorem dX4_machineAt_35 : decode cX4_machineAt 35 = .ok (.iload_n 1, 1) := by decide +kernel
theorem dX4_machineAt_36 : decode cX4_machineAt 36 = .ok (.iload_n 2, 1) := by decide +kernel
theorem dX4_machineAt_37 : decode cX4_machineAt 37 = .ok (.invokestatic 192, 3) := by decide +kernel
theorem dX4_machineAt_40 : decode cX4_machineAt 40 = .ok (.iaload, 1) := by decide +kernel
theorem dX4_machineAt_41 : decode cX4_machineAt 41 = .ok (.ireturn, 1) := by decide +kernel
theorem dX4_next_0 : decode cX4_next 0 = .ok (.iload_n 1, 1) := by decide +kernel
theorem dX4_next_1 : decode cX4_next 1 = .ok (.iconst (-1), 1) := by decide +kernel
theorem dX4_next_2 : decode cX4_next 2 = .ok (.if_icmp .ne 12, 3) := by decide +kernel
theorem dX4_next_5 : decode cX4_next 5 = .ok (.aload_n 0, 1) := by decide +kernel
theorem dX4_next_6 : decode cX4_next 6 = .ok (.getfield 35, 3) := by decide +kernel
theorem dX4_next_9 : decode cX4_next 9 = .ok (.iconst 0, 1) := by decide +kernel
theorem dX4_next_10 : decode cX4_next 10 = .ok (.invokevirtual 196, 3) := by decide +kernel
theorem dX4_next_13 : decode cX4_next 13 = .ok (.ireturn, 1) := by decide +kernel
theorem dX4_next_14 : decode cX4_next 14 = .ok (.aload_n 0, 1) := by decide +kernel
theorem dX4_next_15 : decode cX4_next 15 = .ok (.iload_n 1, 1) := by decide +kernel
theorem dX4_next_16 : decode cX4_next 16 = .ok (.invokevirtual 146, 3) := by decide +kernel
theorem dX4_next_19 : decode cX4_next 19 = .ok (.astore_n 2, 1) := by decide +kernel
theorem dX4_next_20 : decode cX4_next 20 = .ok (.aload_n 0, 1) := by decide +kernel
theorem dX4_next_21 : decode cX4_next 21 = .ok (.getfield 35, 3) := by decide +kernel
theorem dX4_next_24 : decode cX4_next 24 = .ok (.aload_n 2, 1) := by decide +kernel
theorem dX4_next_25 : decode cX4_next 25 = .ok (.getfield 123, 3) := by decide +kernel
theorem dX4_next_28 : decode cX4_next 28 = .ok (.aload_n 2, 1) := by decide +kernel
theorem dX4_next_29 : decode cX4_next 29 = .ok (.getfield 199, 3) := by decide +kernel
theorem dX4_next_32 : decode cX4_next 32 = .ok (.iadd, 1) := by decide +kernel
theorem dX4_next_33 : decode cX4_next 33 = .ok (.invokevirtual 196, 3) := by decide +kernel
theorem dX4_next_36 : decode cX4_next 36 = .ok (.ireturn, 1) := by decide +kernel
theorem dX4_powerOf_0 : decode cX4_powerOf 0 = .ok (.aload_n 0, 1) := by decide +kernel
theorem dX4_powerOf_1 : decode cX4_powerOf 1 = .ok (.iload_n 1, 1) := by decide +kernel
theorem dX4_powerOf_2 : decode cX4_powerOf 2 = .ok (.invokevirtual 177, 3) := by decide +kernel
theorem dX4_powerOf_5 : decode cX4_powerOf 5 = .ok (.pop, 1) := by decide +kernel
theorem dX4_powerOf_6 : decode cX4_powerOf 6 = .ok (.iload_n 2, 1) := by decide +kernel
theorem dX4_powerOf_7 : decode cX4_powerOf 7 = .ok (.invokestatic 89, 3) := by decide +kernel
theorem dX4_powerOf_10 : decode cX4_powerOf 10 = .ok (.iconst 0, 1) := by decide +kernel
theorem dX4_powerOf_11 : decode cX4_powerOf 11 = .ok (.istore_n 3, 1) := by decide +kernel
theorem dX4_powerOf_12 : decode cX4_powerOf 12 = .ok (.iconst 0, 1) := by decide +kernel
theorem dX4_powerOf_13 : decode cX4_powerOf 13 = .ok (.istore 4, 2) := by decide +kernel
theorem dX4_powerOf_15 : decode cX4_powerOf 15 = .ok (.iload 4, 2) := by decide +kernel
theorem dX4_powerOf_17 : decode cX4_powerOf 17 = .ok (.aload_n 0, 1) := by decide +kernel
theorem dX4_powerOf_18 : decode cX4_powerOf 18 = .ok (.getfield 23, 3) := by decide +kernel
theorem dX4_powerOf_21 : decode cX4_powerOf 21 = .ok (.invokevirtual 53, 3) := by decide +kernel
theorem dX4_powerOf_24 : decode cX4_powerOf 24 = .ok (.if_icmp .ge 45, 3) := by decide +kernel
theorem dX4_powerOf_27 : decode cX4_powerOf 27 = .ok (.aload_n 0, 1) := by decide +kernel
theorem dX4_powerOf_28 : decode cX4_powerOf 28 = .ok (.getfield 23, 3) := by decide +kernel
theorem dX4_powerOf_31 : decode cX4_powerOf 31 = .ok (.iload 4, 2) := by decide +kernel
theorem dX4_powerOf_33 : decode cX4_powerOf 33 = .ok (.invokevirtual 101, 3) := by decide +kernel
theorem dX4_powerOf_36 : decode cX4_powerOf 36 = .ok (.checkcast 105, 3) := by decide +kernel
theorem dX4_powerOf_39 : decode cX4_powerOf 39 = .ok (.astore 5, 2) := by decide +kernel
theorem dX4_powerOf_41 : decode cX4_powerOf 41 = .ok (.aload 5, 2) := by decide +kernel
theorem dX4_powerOf_43 : decode cX4_powerOf 43 = .ok (.getfield 123, 3) := by decide +kernel
theorem dX4_powerOf_46 : decode cX4_powerOf 46 = .ok (.invokestatic 143, 3) := by decide +kernel
theorem dX4_powerOf_49 : decode cX4_powerOf 49 = .ok (.iload_n 1, 1) := by decide +kernel
theorem dX4_powerOf_50 : decode cX4_powerOf 50 = .ok (.if_icmp .ne 13, 3) := by decide +kernel
theorem dX4_powerOf_53 : decode cX4_powerOf 53 = .ok (.iload_n 3, 1) := by decide +kernel
theorem dX4_powerOf_54 : decode cX4_powerOf 54 = .ok (.aload_n 0, 1) := by decide +kernel
theorem dX4_powerOf_55 : decode cX4_powerOf 55 = .ok (.aload 5, 2) := by decide +kernel
theorem dX4_powerOf_57 : decode cX4_powerOf 57 = .ok (.iload_n 2, 1) := by decide +kernel
theorem dX4_powerOf_58 : decode cX4_powerOf 58 = .ok (.invokevirtual 200, 3) := by decide +kernel
theorem dX4_powerOf_61 : decode cX4_powerOf 61 = .ok (.iadd, 1) := by decide +kernel
theorem dX4_powerOf_62 : decode cX4_powerOf 62 = .ok (.istore_n 3, 1) := by decide +kernel
theorem dX4_powerOf_63 : decode cX4_powerOf 63 = .ok (.iinc 4 1, 3) := by decide +kernel
theorem dX4_powerOf_66 : decode cX4_powerOf 66 = .ok (.goto (-51), 3) := by decide +kernel
theorem dX4_powerOf_69 : decode cX4_powerOf 69 = .ok (.iload_n 3, 1) := by decide +kernel
theorem dX4_powerOf_70 : decode cX4_powerOf 70 = .ok (.ireturn, 1) := by decide +kernel
theorem dX4_worstOf_0 : decode cX4_worstOf 0 = .ok (.aload_n 0, 1) := by decide +kernel
theorem dX4_worstOf_1 : decode cX4_worstOf 1 = .ok (.iload_n 1, 1) := by decide +kernel
theorem dX4_worstOf_2 : decode cX4_worstOf 2 = .ok (.invokevirtual 177, 3) := by decide +kernel
theorem dX4_worstOf_5 : decode cX4_worstOf 5 = .ok (.pop, 1) := by decide +kernel
theorem dX4_worstOf_6 : decode cX4_worstOf 6 = .ok (.iload_n 2, 1) := by decide +kernel
theorem dX4_worstOf_7 : decode cX4_worstOf 7 = .ok (.invokestatic 89, 3) := by decide +kernel
theorem dX4_worstOf_10 : decode cX4_worstOf 10 = .ok (.aload_n 0, 1) := by decide +kernel
theorem dX4_worstOf_11 : decode cX4_worstOf 11 = .ok (.getfield 35, 3) := by decide +kernel
theorem dX4_worstOf_14 : decode cX4_worstOf 14 = .ok (.getfield 204, 3) := by decide +kernel
theorem dX4_worstOf_17 : decode cX4_worstOf 17 = .ok (.iload_n 2, 1) := by decide +kernel
theorem dX4_worstOf_18 : decode cX4_worstOf 18 = .ok (.aaload, 1) := by decide +kernel
theorem dX4_worstOf_19 : decode cX4_worstOf 19 = .ok (.iload_n 1, 1) := by decide +kernel
theorem dX4_worstOf_20 : decode cX4_worstOf 20 = .ok (.iaload, 1) := by decide +kernel
theorem dX4_worstOf_21 : decode cX4_worstOf 21 = .ok (.ireturn, 1) := by decide +kernel
theorem dX4_weightOf_0 : decode cX4_weightOf 0 = .ok (.aload_n 0, 1) := by decide +kernel
theorem dX4_weightOf_1 : decode cX4_weightOf 1 = .ok (.iload_n 1, 1) := by decide +kernel
theorem dX4_weightOf_2 : decode cX4_weightOf 2 = .ok (.invokevirtual 177, 3) := by decide +kernel
theorem dX4_weightOf_5 : decode cX4_weightOf 5 = .ok (.pop, 1) := by decide +kernel
theorem dX4_weightOf_6 : decode cX4_weightOf 6 = .ok (.aload_n 0, 1) := by decide +kernel
theorem dX4_weightOf_7 : decode cX4_weightOf 7 = .ok (.getfield 35, 3) := by decide +kernel
theorem dX4_weightOf_10 : decode cX4_weightOf 10 = .ok (.getfield 208, 3) := by decide +kernel
theorem dX4_weightOf_13 : decode cX4_weightOf 13 = .ok (.iload_n 1, 1) := by decide +kernel
theorem dX4_weightOf_14 : decode cX4_weightOf 14 = .ok (.iaload, 1) := by decide +kernel
theorem dX4_weightOf_15 : decode cX4_weightOf 15 = .ok (.ireturn, 1) := by decide +kernel
theorem dX4_heatOf_0 : decode cX4_heatOf 0 = .ok (.iload_n 1, 1) := by decide +kernel
theorem dX4_heatOf_1 : decode cX4_heatOf 1 = .ok (.iconst 0, 1) := by decide +kernel
theorem dX4_heatOf_2 : decode cX4_heatOf 2 = .ok (.iconst 3, 1) := by decide +kernel
theorem dX4_heatOf_3 : decode cX4_heatOf 3 = .ok (.invokestatic 46, 3) := by decide +kernel
theorem dX4_heatOf_6 : decode cX4_heatOf 6 = .ok (.iconst 0, 1) := by decide +kernel
theorem dX4_heatOf_7 : decode cX4_heatOf 7 = .ok (.istore_n 2, 1) := by decide +kernel
theorem dX4_heatOf_8 : decode cX4_heatOf 8 = .ok (.iconst 0, 1) := by decide +kernel
theorem dX4_heatOf_9 : decode cX4_heatOf 9 = .ok (.istore_n 3, 1) := by decide +kernel
theorem dX4_heatOf_10 : decode cX4_heatOf 10 = .ok (.iload_n 3, 1) := by decide +kernel
theorem dX4_heatOf_11 : decode cX4_heatOf 11 = .ok (.aload_n 0, 1) := by decide +kernel
theorem dX4_heatOf_12 : decode cX4_heatOf 12 = .ok (.getfield 23, 3) := by decide +kernel
theorem dX4_heatOf_15 : decode cX4_heatOf 15 = .ok (.invokevirtual 53, 3) := by decide +kernel
theorem dX4_heatOf_18 : decode cX4_heatOf 18 = .ok (.if_icmp .ge 49, 3) := by decide +kernel
theorem dX4_heatOf_21 : decode cX4_heatOf 21 = .ok (.aload_n 0, 1) := by decide +kernel
theorem dX4_heatOf_22 : decode cX4_heatOf 22 = .ok (.getfield 23, 3) := by decide +kernel
theorem dX4_heatOf_25 : decode cX4_heatOf 25 = .ok (.iload_n 3, 1) := by decide +kernel
theorem dX4_heatOf_26 : decode cX4_heatOf 26 = .ok (.invokevirtual 101, 3) := by decide +kernel
theorem dX4_heatOf_29 : decode cX4_heatOf 29 = .ok (.checkcast 105, 3) := by decide +kernel
theorem dX4_heatOf_32 : decode cX4_heatOf 32 = .ok (.astore 4, 2) := by decide +kernel
theorem dX4_heatOf_34 : decode cX4_heatOf 34 = .ok (.aload_n 0, 1) := by decide +kernel
theorem dX4_heatOf_35 : decode cX4_heatOf 35 = .ok (.aload 4, 2) := by decide +kernel
theorem dX4_heatOf_37 : decode cX4_heatOf 37 = .ok (.invokevirtual 211, 3) := by decide +kernel
theorem dX4_heatOf_40 : decode cX4_heatOf 40 = .ok (.iload_n 1, 1) := by decide +kernel
theorem dX4_heatOf_41 : decode cX4_heatOf 41 = .ok (.if_icmp .ne 20, 3) := by decide +kernel
theorem dX4_heatOf_44 : decode cX4_heatOf 44 = .ok (.aload_n 0, 1) := by decide +kernel
theorem dX4_heatOf_45 : decode cX4_heatOf 45 = .ok (.aload 4, 2) := by decide +kernel
theorem dX4_heatOf_47 : decode cX4_heatOf 47 = .ok (.invokevirtual 107, 3) := by decide +kernel
theorem dX4_heatOf_50 : decode cX4_heatOf 50 = .ok (.ifCond .ne 11, 3) := by decide +kernel
theorem dX4_heatOf_53 : decode cX4_heatOf 53 = .ok (.iload_n 2, 1) := by decide +kernel
theorem dX4_heatOf_54 : decode cX4_heatOf 54 = .ok (.aload 4, 2) := by decide +kernel
theorem dX4_heatOf_56 : decode cX4_heatOf 56 = .ok (.getfield 214, 3) := by decide +kernel
theorem dX4_heatOf_59 : decode cX4_heatOf 59 = .ok (.iadd, 1) := by decide +kernel
theorem dX4_heatOf_60 : decode cX4_heatOf 60 = .ok (.istore_n 2, 1) := by decide +kernel
theorem dX4_heatOf_61 : decode cX4_heatOf 61 = .ok (.iinc 3 1, 3) := by decide +kernel
theorem dX4_heatOf_64 : decode cX4_heatOf 64 = .ok (.goto (-54), 3) := by decide +kernel
theorem dX4_heatOf_67 : decode cX4_heatOf 67 = .ok (.iload_n 2, 1) := by decide +kernel
theorem dX4_heatOf_68 : decode cX4_heatOf 68 = .ok (.ireturn, 1) := by decide +kernel
theorem dX4_gap_0 : decode cX4_gap 0 = .ok (.aload_n 0, 1) := by decide +kernel
theorem dX4_gap_1 : decode cX4_gap 1 = .ok (.iload_n 1, 1) := by decide +kernel
theorem dX4_gap_2 : decode cX4_gap 2 = .ok (.invokevirtual 177, 3) := by decide +kernel
theorem dX4_gap_5 : decode cX4_gap 5 = .ok (.pop, 1) := by decide +kernel
theorem dX4_gap_6 : decode cX4_gap 6 = .ok (.aload_n 0, 1) := by decide +kernel
theorem dX4_gap_7 : decode cX4_gap 7 = .ok (.getfield 35, 3) := by decide +kernel
theorem dX4_gap_10 : decode cX4_gap 10 = .ok (.iload_n 1, 1) := by decide +kernel
theorem dX4_gap_11 : decode cX4_gap 11 = .ok (.invokevirtual 217, 3) := by decide +kernel
theorem dX4_gap_14 : decode cX4_gap 14 = .ok (.ireturn, 1) := by decide +kernel
theorem dX4_racksFor_0 : decode cX4_racksFor 0 = .ok (.aload_n 0, 1) := by decide +kernel
theorem dX4_racksFor_1 : decode cX4_racksFor 1 = .ok (.iload_n 1, 1) := by decide +kernel
theorem dX4_racksFor_2 : decode cX4_racksFor 2 = .ok (.iload_n 2, 1) := by decide +kernel
theorem dX4_racksFor_3 : decode cX4_racksFor 3 = .ok (.iload_n 3, 1) := by decide +kernel
theorem dX4_racksFor_4 : decode cX4_racksFor 4 = .ok (.iload 4, 2) := by decide +kernel
theorem dX4_racksFor_6 : decode cX4_racksFor 6 = .ok (.invokevirtual 111, 3) := by decide +kernel
theorem dX4_racksFor_9 : decode cX4_racksFor 9 = .ok (.astore 5, 2) := by decide +kernel
theorem dX4_racksFor_11 : decode cX4_racksFor 11 = .ok (.iconst 0, 1) := by decide +kernel
theorem dX4_racksFor_12 : decode cX4_racksFor 12 = .ok (.istore 6, 2) := by decide +kernel
theorem dX4_racksFor_14 : decode cX4_racksFor 14 = .ok (.iconst 0, 1) := by decide +kernel
theorem dX4_racksFor_15 : decode cX4_racksFor 15 = .ok (.istore 7, 2) := by decide +kernel
theorem dX4_racksFor_17 : decode cX4_racksFor 17 = .ok (.iload 7, 2) := by decide +kernel
theorem dX4_racksFor_19 : decode cX4_racksFor 19 = .ok (.aload_n 0, 1) := by decide +kernel
theorem dX4_racksFor_20 : decode cX4_racksFor 20 = .ok (.getfield 12, 3) := by decide +kernel
theorem dX4_racksFor_23 : decode cX4_racksFor 23 = .ok (.getfield 50, 3) := by decide +kernel
theorem dX4_racksFor_26 : decode cX4_racksFor 26 = .ok (.invokevirtual 53, 3) := by decide +kernel
theorem dX4_racksFor_29 : decode cX4_racksFor 29 = .ok (.if_icmp .ge 33, 3) := by decide +kernel
theorem dX4_racksFor_32 : decode cX4_racksFor 32 = .ok (.aload_n 0, 1) := by decide +kernel
theorem dX4_racksFor_33 : decode cX4_racksFor 33 = .ok (.getfield 35, 3) := by decide +kernel
theorem dX4_racksFor_36 : decode cX4_racksFor 36 = .ok (.iload 7, 2) := by decide +kernel
theorem dX4_racksFor_38 : decode cX4_racksFor 38 = .ok (.aload 5, 2) := by decide +kernel
theorem dX4_racksFor_40 : decode cX4_racksFor 40 = .ok (.invokevirtual 220, 3) := by decide +kernel
theorem dX4_racksFor_43 : decode cX4_racksFor 43 = .ok (.iconst (-1), 1) := by decide +kernel
theorem dX4_racksFor_44 : decode cX4_racksFor 44 = .ok (.if_icmp .eq 12, 3) := by decide +kernel
theorem dX4_racksFor_47 : decode cX4_racksFor 47 = .ok (.iload 6, 2) := by decide +kernel
theorem dX4_racksFor_49 : decode cX4_racksFor 49 = .ok (.iconst 1, 1) := by decide +kernel
theorem dX4_racksFor_50 : decode cX4_racksFor 50 = .ok (.iload 7, 2) := by decide +kernel
theorem dX4_racksFor_52 : decode cX4_racksFor 52 = .ok (.ishl, 1) := by decide +kernel
theorem dX4_racksFor_53 : decode cX4_racksFor 53 = .ok (.ior, 1) := by decide +kernel
theorem dX4_racksFor_54 : decode cX4_racksFor 54 = .ok (.istore 6, 2) := by decide +kernel
theorem dX4_racksFor_56 : decode cX4_racksFor 56 = .ok (.iinc 7 1, 3) := by decide +kernel
theorem dX4_racksFor_59 : decode cX4_racksFor 59 = .ok (.goto (-42), 3) := by decide +kernel
theorem dX4_racksFor_62 : decode cX4_racksFor 62 = .ok (.iload 6, 2) := by decide +kernel
theorem dX4_racksFor_64 : decode cX4_racksFor 64 = .ok (.ireturn, 1) := by decide +kernel
theorem dX4_roomFor_0 : decode cX4_roomFor 0 = .ok (.aload_n 0, 1) := by decide +kernel
theorem dX4_roomFor_1 : decode cX4_roomFor 1 = .ok (.iload_n 1, 1) := by decide +kernel
theorem dX4_roomFor_2 : decode cX4_roomFor 2 = .ok (.iload_n 2, 1) := by decide +kernel
theorem dX4_roomFor_3 : decode cX4_roomFor 3 = .ok (.iload_n 3, 1) := by decide +kernel
theorem dX4_roomFor_4 : decode cX4_roomFor 4 = .ok (.iload 4, 2) := by decide +kernel
theorem dX4_roomFor_6 : decode cX4_roomFor 6 = .ok (.invokevirtual 111, 3) := by decide +kernel
theorem dX4_roomFor_9 : decode cX4_roomFor 9 = .ok (.astore 5, 2) := by decide +kernel
theorem dX4_roomFor_11 : decode cX4_roomFor 11 = .ok (.aload_n 0, 1) := by decide +kernel
theorem dX4_roomFor_12 : decode cX4_roomFor 12 = .ok (.getfield 39, 3) := by decide +kernel
theorem dX4_roomFor_15 : decode cX4_roomFor 15 = .ok (.aload_n 0, 1) := by decide +kernel
theorem dX4_roomFor_16 : decode cX4_roomFor 16 = .ok (.getfield 35, 3) := by decide +kernel
theorem dX4_roomFor_19 : decode cX4_roomFor 19 = .ok (.invokevirtual 224, 3) := by decide +kernel
theorem dX4_roomFor_22 : decode cX4_roomFor 22 = .ok (.iconst 0, 1) := by decide +kernel
theorem dX4_roomFor_23 : decode cX4_roomFor 23 = .ok (.istore 6, 2) := by decide +kernel
theorem dX4_roomFor_25 : decode cX4_roomFor 25 = .ok (.iconst 0, 1) := by decide +kernel
theorem dX4_roomFor_26 : decode cX4_roomFor 26 = .ok (.istore 7, 2) := by decide +kernel
theorem dX4_roomFor_28 : decode cX4_roomFor 28 = .ok (.iload 7, 2) := by decide +kernel
theorem dX4_roomFor_30 : decode cX4_roomFor 30 = .ok (.aload_n 0, 1) := by decide +kernel
theorem dX4_roomFor_31 : decode cX4_roomFor 31 = .ok (.getfield 12, 3) := by decide +kernel
theorem dX4_roomFor_34 : decode cX4_roomFor 34 = .ok (.getfield 50, 3) := by decide +kernel
theorem dX4_roomFor_37 : decode cX4_roomFor 37 = .ok (.invokevirtual 53, 3) := by decide +kernel
theorem dX4_roomFor_40 : decode cX4_roomFor 40 = .ok (.if_icmp .ge 25, 3) := by decide +kernel
theorem dX4_roomFor_43 : decode cX4_roomFor 43 = .ok (.iload 6, 2) := by decide +kernel
theorem dX4_roomFor_45 : decode cX4_roomFor 45 = .ok (.aload_n 0, 1) := by decide +kernel
theorem dX4_roomFor_46 : decode cX4_roomFor 46 = .ok (.getfield 39, 3) := by decide +kernel
theorem dX4_roomFor_49 : decode cX4_roomFor 49 = .ok (.iload 7, 2) := by decide +kernel
theorem dX4_roomFor_51 : decode cX4_roomFor 51 = .ok (.aload 5, 2) := by decide +kernel
theorem dX4_roomFor_53 : decode cX4_roomFor 53 = .ok (.invokevirtual 228, 3) := by decide +kernel
theorem dX4_roomFor_56 : decode cX4_roomFor 56 = .ok (.iadd, 1) := by decide +kernel
theorem dX4_roomFor_57 : decode cX4_roomFor 57 = .ok (.istore 6, 2) := by decide +kernel
theorem dX4_roomFor_59 : decode cX4_roomFor 59 = .ok (.iinc 7 1, 3) := by decide +kernel
theorem dX4_roomFor_62 : decode cX4_roomFor 62 = .ok (.goto (-34), 3) := by decide +kernel
theorem dX4_roomFor_65 : decode cX4_roomFor 65 = .ok (.iload 6, 2) := by decide +kernel
theorem dX4_roomFor_67 : decode cX4_roomFor 67 = .ok (.ireturn, 1) := by decide +kernel
theorem dX4_roomByCounting_0 : decode cX4_roomByCounting 0 = .ok (.aload_n 0, 1) := by decide +kernel
theorem dX4_roomByCounting_1 : decode cX4_roomByCounting 1 = .ok (.iload_n 1, 1) := by decide +kernel
theorem dX4_roomByCounting_2 : decode cX4_roomByCounting 2 = .ok (.iload_n 2, 1) := by decide +kernel
theorem dX4_roomByCounting_3 : decode cX4_roomByCounting 3 = .ok (.iload_n 3, 1) := by decide +kernel
theorem dX4_roomByCounting_4 : decode cX4_roomByCounting 4 = .ok (.iload 4, 2) := by decide +kernel
theorem dX4_roomByCounting_6 : decode cX4_roomByCounting 6 = .ok (.invokevirtual 111, 3) := by decide +kernel
theorem dX4_roomByCounting_9 : decode cX4_roomByCounting 9 = .ok (.astore 5, 2) := by decide +kernel
theorem dX4_roomByCounting_11 : decode cX4_roomByCounting 11 = .ok (.iconst 0, 1) := by decide +kernel
theorem dX4_roomByCounting_12 : decode cX4_roomByCounting 12 = .ok (.istore 6, 2) := by decide +kernel
theorem dX4_roomByCounting_14 : decode cX4_roomByCounting 14 = .ok (.iconst 0, 1) := by decide +kernel
theorem dX4_roomByCounting_15 : decode cX4_roomByCounting 15 = .ok (.istore 7, 2) := by decide +kernel
theorem dX4_roomByCounting_17 : decode cX4_roomByCounting 17 = .ok (.iload 7, 2) := by decide +kernel
theorem dX4_roomByCounting_19 : decode cX4_roomByCounting 19 = .ok (.iconst 4, 1) := by decide +kernel
theorem dX4_roomByCounting_20 : decode cX4_roomByCounting 20 = .ok (.if_icmp .ge 25, 3) := by decide +kernel
theorem dX4_roomByCounting_23 : decode cX4_roomByCounting 23 = .ok (.iload 6, 2) := by decide +kernel
theorem dX4_roomByCounting_25 : decode cX4_roomByCounting 25 = .ok (.aload_n 0, 1) := by decide +kernel
theorem dX4_roomByCounting_26 : decode cX4_roomByCounting 26 = .ok (.getfield 35, 3) := by decide +kernel
theorem dX4_roomByCounting_29 : decode cX4_roomByCounting 29 = .ok (.iload 7, 2) := by decide +kernel
theorem dX4_roomByCounting_31 : decode cX4_roomByCounting 31 = .ok (.aload 5, 2) := by decide +kernel
theorem dX4_roomByCounting_33 : decode cX4_roomByCounting 33 = .ok (.invokevirtual 231, 3) := by decide +kernel
theorem dX4_roomByCounting_36 : decode cX4_roomByCounting 36 = .ok (.iadd, 1) := by decide +kernel
theorem dX4_roomByCounting_37 : decode cX4_roomByCounting 37 = .ok (.istore 6, 2) := by decide +kernel
theorem dX4_roomByCounting_39 : decode cX4_roomByCounting 39 = .ok (.iinc 7 1, 3) := by decide +kernel
theorem dX4_roomByCounting_42 : decode cX4_roomByCounting 42 = .ok (.goto (-25), 3) := by decide +kernel
theorem dX4_roomByCounting_45 : decode cX4_roomByCounting 45 = .ok (.iconst 0, 1) := by decide +kernel
theorem dX4_roomByCounting_46 : decode cX4_roomByCounting 46 = .ok (.istore 7, 2) := by decide +kernel
theorem dX4_roomByCounting_48 : decode cX4_roomByCounting 48 = .ok (.iload 7, 2) := by decide +kernel
theorem dX4_roomByCounting_50 : decode cX4_roomByCounting 50 = .ok (.iconst 2, 1) := by decide +kernel
theorem dX4_roomByCounting_51 : decode cX4_roomByCounting 51 = .ok (.if_icmp .ge 47, 3) := by decide +kernel
theorem dX4_roomByCounting_54 : decode cX4_roomByCounting 54 = .ok (.aload_n 0, 1) := by decide +kernel
theorem dX4_roomByCounting_55 : decode cX4_roomByCounting 55 = .ok (.getfield 12, 3) := by decide +kernel
theorem dX4_roomByCounting_58 : decode cX4_roomByCounting 58 = .ok (.getfield 98, 3) := by decide +kernel
theorem dX4_roomByCounting_61 : decode cX4_roomByCounting 61 = .ok (.iload 7, 2) := by decide +kernel
theorem dX4_roomByCounting_63 : decode cX4_roomByCounting 63 = .ok (.iaload, 1) := by decide +kernel
theorem dX4_roomByCounting_64 : decode cX4_roomByCounting 64 = .ok (.aload_n 0, 1) := by decide +kernel
theorem dX4_roomByCounting_65 : decode cX4_roomByCounting 65 = .ok (.getfield 35, 3) := by decide +kernel
theorem dX4_roomByCounting_68 : decode cX4_roomByCounting 68 = .ok (.iload 7, 2) := by decide +kernel
theorem dX4_roomByCounting_70 : decode cX4_roomByCounting 70 = .ok (.invokevirtual 93, 3) := by decide +kernel
theorem dX4_roomByCounting_73 : decode cX4_roomByCounting 73 = .ok (.isub, 1) := by decide +kernel
theorem dX4_roomByCounting_74 : decode cX4_roomByCounting 74 = .ok (.istore 8, 2) := by decide +kernel
theorem dX4_roomByCounting_76 : decode cX4_roomByCounting 76 = .ok (.iload 6, 2) := by decide +kernel
theorem dX4_roomByCounting_78 : decode cX4_roomByCounting 78 = .ok (.iload 8, 2) := by decide +kernel
theorem dX4_roomByCounting_80 : decode cX4_roomByCounting 80 = .ok (.aload 5, 2) := by decide +kernel
theorem dX4_roomByCounting_82 : decode cX4_roomByCounting 82 = .ok (.iload 7, 2) := by decide +kernel
theorem dX4_roomByCounting_84 : decode cX4_roomByCounting 84 = .ok (.invokevirtual 234, 3) := by decide +kernel
theorem dX4_roomByCounting_87 : decode cX4_roomByCounting 87 = .ok (.invokestatic 237, 3) := by decide +kernel
theorem dX4_roomByCounting_90 : decode cX4_roomByCounting 90 = .ok (.istore 6, 2) := by decide +kernel
theorem dX4_roomByCounting_92 : decode cX4_roomByCounting 92 = .ok (.iinc 7 1, 3) := by decide +kernel
theorem dX4_roomByCounting_95 : decode cX4_roomByCounting 95 = .ok (.goto (-47), 3) := by decide +kernel
theorem dX4_roomByCounting_98 : decode cX4_roomByCounting 98 = .ok (.iload 6, 2) := by decide +kernel
theorem dX4_roomByCounting_100 : decode cX4_roomByCounting 100 = .ok (.ireturn, 1) := by decide +kernel
theorem dX4_requireRange_0 : decode cX4_requireRange 0 = .ok (.iload_n 0, 1) := by decide +kernel
theorem dX4_requireRange_1 : decode cX4_requireRange 1 = .ok (.iload_n 1, 1) := by decide +kernel
theorem dX4_requireRange_2 : decode cX4_requireRange 2 = .ok (.if_icmp .lt 8, 3) := by decide +kernel
theorem dX4_requireRange_5 : decode cX4_requireRange 5 = .ok (.iload_n 0, 1) := by decide +kernel
theorem dX4_requireRange_6 : decode cX4_requireRange 6 = .ok (.iload_n 2, 1) := by decide +kernel
theorem dX4_requireRange_7 : decode cX4_requireRange 7 = .ok (.if_icmp .le 13, 3) := by decide +kernel
theorem dX4_requireRange_10 : decode cX4_requireRange 10 = .ok (.new 241, 3) := by decide +kernel
theorem dX4_requireRange_13 : decode cX4_requireRange 13 = .ok (.dup, 1) := by decide +kernel
theorem dX4_requireRange_14 : decode cX4_requireRange 14 = .ok (.ldc 243, 2) := by decide +kernel
theorem dX4_requireRange_16 : decode cX4_requireRange 16 = .ok (.invokespecial 245, 3) := by decide +kernel
theorem dX4_requireRange_19 : decode cX4_requireRange 19 = .ok (.athrow, 1) := by decide +kernel
theorem dX4_requireRange_20 : decode cX4_requireRange 20 = .ok (.return_, 1) := by decide +kernel
theorem dX4_requireFeed_0 : decode cX4_requireFeed 0 = .ok (.iload_n 0, 1) := by decide +kernel
theorem dX4_requireFeed_1 : decode cX4_requireFeed 1 = .ok (.iconst 0, 1) := by decide +kernel
theorem dX4_requireFeed_2 : decode cX4_requireFeed 2 = .ok (.iconst 1, 1) := by decide +kernel
theorem dX4_requireFeed_3 : decode cX4_requireFeed 3 = .ok (.invokestatic 46, 3) := by decide +kernel
theorem dX4_requireFeed_6 : decode cX4_requireFeed 6 = .ok (.return_, 1) := by decide +kernel
theorem dX4_requireRack_0 : decode cX4_requireRack 0 = .ok (.iload_n 1, 1) := by decide +kernel
theorem dX4_requireRack_1 : decode cX4_requireRack 1 = .ok (.ifCond .lt 17, 3) := by decide +kernel
theorem dX4_requireRack_4 : decode cX4_requireRack 4 = .ok (.iload_n 1, 1) := by decide +kernel
theorem dX4_requireRack_5 : decode cX4_requireRack 5 = .ok (.aload_n 0, 1) := by decide +kernel
theorem dX4_requireRack_6 : decode cX4_requireRack 6 = .ok (.getfield 12, 3) := by decide +kernel
theorem dX4_requireRack_9 : decode cX4_requireRack 9 = .ok (.getfield 50, 3) := by decide +kernel
theorem dX4_requireRack_12 : decode cX4_requireRack 12 = .ok (.invokevirtual 53, 3) := by decide +kernel
theorem dX4_requireRack_15 : decode cX4_requireRack 15 = .ok (.if_icmp .lt 13, 3) := by decide +kernel
theorem dX4_requireRack_18 : decode cX4_requireRack 18 = .ok (.new 184, 3) := by decide +kernel
theorem dX4_requireRack_21 : decode cX4_requireRack 21 = .ok (.dup, 1) := by decide +kernel
theorem dX4_requireRack_22 : decode cX4_requireRack 22 = .ok (.ldc 246, 2) := by decide +kernel
theorem dX4_requireRack_24 : decode cX4_requireRack 24 = .ok (.invokespecial 188, 3) := by decide +kernel
theorem dX4_requireRack_27 : decode cX4_requireRack 27 = .ok (.athrow, 1) := by decide +kernel
theorem dX4_requireRack_28 : decode cX4_requireRack 28 = .ok (.aload_n 0, 1) := by decide +kernel
theorem dX4_requireRack_29 : decode cX4_requireRack 29 = .ok (.getfield 12, 3) := by decide +kernel
theorem dX4_requireRack_32 : decode cX4_requireRack 32 = .ok (.getfield 50, 3) := by decide +kernel
theorem dX4_requireRack_35 : decode cX4_requireRack 35 = .ok (.iload_n 1, 1) := by decide +kernel
theorem dX4_requireRack_36 : decode cX4_requireRack 36 = .ok (.invokevirtual 101, 3) := by decide +kernel
theorem dX4_requireRack_39 : decode cX4_requireRack 39 = .ok (.checkcast 64, 3) := by decide +kernel
theorem dX4_requireRack_42 : decode cX4_requireRack 42 = .ok (.areturn, 1) := by decide +kernel
theorem dX4_requireMachine_0 : decode cX4_requireMachine 0 = .ok (.aload_n 0, 1) := by decide +kernel
theorem dX4_requireMachine_1 : decode cX4_requireMachine 1 = .ok (.getfield 23, 3) := by decide +kernel
theorem dX4_requireMachine_4 : decode cX4_requireMachine 4 = .ok (.aload_n 0, 1) := by decide +kernel
theorem dX4_requireMachine_5 : decode cX4_requireMachine 5 = .ok (.iload_n 1, 1) := by decide +kernel
theorem dX4_requireMachine_6 : decode cX4_requireMachine 6 = .ok (.invokevirtual 133, 3) := by decide +kernel
theorem dX4_requireMachine_9 : decode cX4_requireMachine 9 = .ok (.invokevirtual 101, 3) := by decide +kernel
theorem dX4_requireMachine_12 : decode cX4_requireMachine 12 = .ok (.checkcast 105, 3) := by decide +kernel
theorem dX4_requireMachine_15 : decode cX4_requireMachine 15 = .ok (.areturn, 1) := by decide +kernel
theorem dX4_indexOfPlaced_0 : decode cX4_indexOfPlaced 0 = .ok (.iconst 0, 1) := by decide +kernel
theorem dX4_indexOfPlaced_1 : decode cX4_indexOfPlaced 1 = .ok (.istore_n 2, 1) := by decide +kernel
theorem dX4_indexOfPlaced_2 : decode cX4_indexOfPlaced 2 = .ok (.iload_n 2, 1) := by decide +kernel
theorem dX4_indexOfPlaced_3 : decode cX4_indexOfPlaced 3 = .ok (.aload_n 0, 1) := by decide +kernel
theorem dX4_indexOfPlaced_4 : decode cX4_indexOfPlaced 4 = .ok (.getfield 23, 3) := by decide +kernel
theorem dX4_indexOfPlaced_7 : decode cX4_indexOfPlaced 7 = .ok (.invokevirtual 53, 3) := by decide +kernel
theorem dX4_indexOfPlaced_10 : decode cX4_indexOfPlaced 10 = .ok (.if_icmp .ge 29, 3) := by decide +kernel
theorem dX4_indexOfPlaced_13 : decode cX4_indexOfPlaced 13 = .ok (.aload_n 0, 1) := by decide +kernel
theorem dX4_indexOfPlaced_14 : decode cX4_indexOfPlaced 14 = .ok (.getfield 23, 3) := by decide +kernel
theorem dX4_indexOfPlaced_17 : decode cX4_indexOfPlaced 17 = .ok (.iload_n 2, 1) := by decide +kernel
theorem dX4_indexOfPlaced_18 : decode cX4_indexOfPlaced 18 = .ok (.invokevirtual 101, 3) := by decide +kernel
theorem dX4_indexOfPlaced_21 : decode cX4_indexOfPlaced 21 = .ok (.checkcast 105, 3) := by decide +kernel
theorem dX4_indexOfPlaced_24 : decode cX4_indexOfPlaced 24 = .ok (.getfield 130, 3) := by decide +kernel
theorem dX4_indexOfPlaced_27 : decode cX4_indexOfPlaced 27 = .ok (.iload_n 1, 1) := by decide +kernel
theorem dX4_indexOfPlaced_28 : decode cX4_indexOfPlaced 28 = .ok (.if_icmp .ne 5, 3) := by decide +kernel
theorem dX4_indexOfPlaced_31 : decode cX4_indexOfPlaced 31 = .ok (.iload_n 2, 1) := by decide +kernel
theorem dX4_indexOfPlaced_32 : decode cX4_indexOfPlaced 32 = .ok (.ireturn, 1) := by decide +kernel
theorem dX4_indexOfPlaced_33 : decode cX4_indexOfPlaced 33 = .ok (.iinc 2 1, 3) := by decide +kernel
theorem dX4_indexOfPlaced_36 : decode cX4_indexOfPlaced 36 = .ok (.goto (-34), 3) := by decide +kernel
theorem dX4_indexOfPlaced_39 : decode cX4_indexOfPlaced 39 = .ok (.new 184, 3) := by decide +kernel
theorem dX4_indexOfPlaced_42 : decode cX4_indexOfPlaced 42 = .ok (.dup, 1) := by decide +kernel
theorem dX4_indexOfPlaced_43 : decode cX4_indexOfPlaced 43 = .ok (.ldc 248, 2) := by decide +kernel
theorem dX4_indexOfPlaced_45 : decode cX4_indexOfPlaced 45 = .ok (.invokespecial 188, 3) := by decide +kernel
theorem dX4_indexOfPlaced_48 : decode cX4_indexOfPlaced 48 = .ok (.athrow, 1) := by decide +kernel
theorem dX4_newMachine_0 : decode cX4_newMachine 0 = .ok (.iload_n 1, 1) := by decide +kernel
theorem dX4_newMachine_1 : decode cX4_newMachine 1 = .ok (.iconst 1, 1) := by decide +kernel
theorem dX4_newMachine_2 : decode cX4_newMachine 2 = .ok (.bipush 6, 2) := by decide +kernel
theorem dX4_newMachine_4 : decode cX4_newMachine 4 = .ok (.invokestatic 46, 3) := by decide +kernel
theorem dX4_newMachine_7 : decode cX4_newMachine 7 = .ok (.iload_n 2, 1) := by decide +kernel
theorem dX4_newMachine_8 : decode cX4_newMachine 8 = .ok (.iconst 0, 1) := by decide +kernel
theorem dX4_newMachine_9 : decode cX4_newMachine 9 = .ok (.sipush 2000, 3) := by decide +kernel
theorem dX4_newMachine_12 : decode cX4_newMachine 12 = .ok (.invokestatic 46, 3) := by decide +kernel
theorem dX4_newMachine_15 : decode cX4_newMachine 15 = .ok (.iload_n 3, 1) := by decide +kernel
theorem dX4_newMachine_16 : decode cX4_newMachine 16 = .ok (.iconst 0, 1) := by decide +kernel
theorem dX4_newMachine_17 : decode cX4_newMachine 17 = .ok (.sipush 1000, 3) := by decide +kernel
theorem dX4_newMachine_20 : decode cX4_newMachine 20 = .ok (.invokestatic 46, 3) := by decide +kernel
theorem dX4_newMachine_23 : decode cX4_newMachine 23 = .ok (.iload 4, 2) := by decide +kernel
theorem dX4_newMachine_25 : decode cX4_newMachine 25 = .ok (.iconst 0, 1) := by decide +kernel
theorem dX4_newMachine_26 : decode cX4_newMachine 26 = .ok (.iconst 2, 1) := by decide +kernel
theorem dX4_newMachine_27 : decode cX4_newMachine 27 = .ok (.invokestatic 46, 3) := by decide +kernel
theorem dX4_newMachine_30 : decode cX4_newMachine 30 = .ok (.new 105, 3) := by decide +kernel
theorem dX4_newMachine_33 : decode cX4_newMachine 33 = .ok (.dup, 1) := by decide +kernel
theorem dX4_newMachine_34 : decode cX4_newMachine 34 = .ok (.aload_n 0, 1) := by decide +kernel
theorem dX4_newMachine_35 : decode cX4_newMachine 35 = .ok (.getfield 42, 3) := by decide +kernel
theorem dX4_newMachine_38 : decode cX4_newMachine 38 = .ok (.iload_n 1, 1) := by decide +kernel
theorem dX4_newMachine_39 : decode cX4_newMachine 39 = .ok (.iload_n 2, 1) := by decide +kernel
theorem dX4_newMachine_40 : decode cX4_newMachine 40 = .ok (.iload_n 3, 1) := by decide +kernel
theorem dX4_newMachine_41 : decode cX4_newMachine 41 = .ok (.iload 4, 2) := by decide +kernel
theorem dX4_newMachine_43 : decode cX4_newMachine 43 = .ok (.invokespecial 250, 3) := by decide +kernel
theorem dX4_newMachine_46 : decode cX4_newMachine 46 = .ok (.areturn, 1) := by decide +kernel
theorem dX4_cellAt_0 : decode cX4_cellAt 0 = .ok (.iload_n 0, 1) := by decide +kernel
theorem dX4_cellAt_1 : decode cX4_cellAt 1 = .ok (.bipush 20, 2) := by decide +kernel
theorem dX4_cellAt_3 : decode cX4_cellAt 3 = .ok (.imul, 1) := by decide +kernel
theorem dX4_cellAt_4 : decode cX4_cellAt 4 = .ok (.iload_n 1, 1) := by decide +kernel
theorem dX4_cellAt_5 : decode cX4_cellAt 5 = .ok (.iadd, 1) := by decide +kernel
theorem dX4_cellAt_6 : decode cX4_cellAt 6 = .ok (.ireturn, 1) := by decide +kernel
theorem dX4_rackOfCell_0 : decode cX4_rackOfCell 0 = .ok (.iload_n 0, 1) := by decide +kernel
theorem dX4_rackOfCell_1 : decode cX4_rackOfCell 1 = .ok (.bipush 20, 2) := by decide +kernel
theorem dX4_rackOfCell_3 : decode cX4_rackOfCell 3 = .ok (.idiv, 1) := by decide +kernel
theorem dX4_rackOfCell_4 : decode cX4_rackOfCell 4 = .ok (.ireturn, 1) := by decide +kernel
theorem dX4_rowOfMachine_0 : decode cX4_rowOfMachine 0 = .ok (.aload_n 0, 1) := by decide +kernel
theorem dX4_rowOfMachine_1 : decode cX4_rowOfMachine 1 = .ok (.getfield 12, 3) := by decide +kernel
theorem dX4_rowOfMachine_4 : decode cX4_rowOfMachine 4 = .ok (.getfield 50, 3) := by decide +kernel
theorem dX4_rowOfMachine_7 : decode cX4_rowOfMachine 7 = .ok (.aload_n 1, 1) := by decide +kernel
theorem dX4_rowOfMachine_8 : decode cX4_rowOfMachine 8 = .ok (.getfield 123, 3) := by decide +kernel
theorem dX4_rowOfMachine_11 : decode cX4_rowOfMachine 11 = .ok (.invokestatic 143, 3) := by decide +kernel
theorem dX4_rowOfMachine_14 : decode cX4_rowOfMachine 14 = .ok (.invokevirtual 101, 3) := by decide +kernel
theorem dX4_rowOfMachine_17 : decode cX4_rowOfMachine 17 = .ok (.checkcast 64, 3) := by decide +kernel
theorem dX4_rowOfMachine_20 : decode cX4_rowOfMachine 20 = .ok (.getfield 253, 3) := by decide +kernel
theorem dX4_rowOfMachine_23 : decode cX4_rowOfMachine 23 = .ok (.ireturn, 1) := by decide +kernel
theorem dX4_hasNoFeed_0 : decode cX4_hasNoFeed 0 = .ok (.iconst 0, 1) := by decide +kernel
theorem dX4_hasNoFeed_1 : decode cX4_hasNoFeed 1 = .ok (.istore_n 2, 1) := by decide +kernel
theorem dX4_hasNoFeed_2 : decode cX4_hasNoFeed 2 = .ok (.iload_n 2, 1) := by decide +kernel
theorem dX4_hasNoFeed_3 : decode cX4_hasNoFeed 3 = .ok (.iconst 2, 1) := by decide +kernel
theorem dX4_hasNoFeed_4 : decode cX4_hasNoFeed 4 = .ok (.if_icmp .ge 28, 3) := by decide +kernel
theorem dX4_hasNoFeed_7 : decode cX4_hasNoFeed 7 = .ok (.aload_n 1, 1) := by decide +kernel
theorem dX4_hasNoFeed_8 : decode cX4_hasNoFeed 8 = .ok (.iload_n 2, 1) := by decide +kernel
theorem dX4_hasNoFeed_9 : decode cX4_hasNoFeed 9 = .ok (.invokevirtual 256, 3) := by decide +kernel
theorem dX4_hasNoFeed_12 : decode cX4_hasNoFeed 12 = .ok (.ifCond .eq 14, 3) := by decide +kernel
theorem dX4_hasNoFeed_15 : decode cX4_hasNoFeed 15 = .ok (.aload_n 0, 1) := by decide +kernel
theorem dX4_hasNoFeed_16 : decode cX4_hasNoFeed 16 = .ok (.getfield 16, 3) := by decide +kernel
theorem dX4_hasNoFeed_19 : decode cX4_hasNoFeed 19 = .ok (.iload_n 2, 1) := by decide +kernel
theorem dX4_hasNoFeed_20 : decode cX4_hasNoFeed 20 = .ok (.baload, 1) := by decide +kernel
theorem dX4_hasNoFeed_21 : decode cX4_hasNoFeed 21 = .ok (.ifCond .ne 5, 3) := by decide +kernel
theorem dX4_hasNoFeed_24 : decode cX4_hasNoFeed 24 = .ok (.iconst 0, 1) := by decide +kernel
theorem dX4_hasNoFeed_25 : decode cX4_hasNoFeed 25 = .ok (.ireturn, 1) := by decide +kernel
theorem dX4_hasNoFeed_26 : decode cX4_hasNoFeed 26 = .ok (.iinc 2 1, 3) := by decide +kernel
theorem dX4_hasNoFeed_29 : decode cX4_hasNoFeed 29 = .ok (.goto (-27), 3) := by decide +kernel
theorem dX4_hasNoFeed_32 : decode cX4_hasNoFeed 32 = .ok (.iconst 1, 1) := by decide +kernel
theorem dX4_hasNoFeed_33 : decode cX4_hasNoFeed 33 = .ok (.ireturn, 1) := by decide +kernel
theorem dX4_powerNow_0 : decode cX4_powerNow 0 = .ok (.aload_n 0, 1) := by decide +kernel
theorem dX4_powerNow_1 : decode cX4_powerNow 1 = .ok (.getfield 16, 3) := by decide +kernel
theorem dX4_powerNow_4 : decode cX4_powerNow 4 = .ok (.iload_n 2, 1) := by decide +kernel
theorem dX4_powerNow_5 : decode cX4_powerNow 5 = .ok (.baload, 1) := by decide +kernel
theorem dX4_powerNow_6 : decode cX4_powerNow 6 = .ok (.ifCond .ne 11, 3) := by decide +kernel
theorem dX4_powerNow_9 : decode cX4_powerNow 9 = .ok (.aload_n 1, 1) := by decide +kernel
theorem dX4_powerNow_10 : decode cX4_powerNow 10 = .ok (.iload_n 2, 1) := by decide +kernel
theorem dX4_powerNow_11 : decode cX4_powerNow 11 = .ok (.invokevirtual 256, 3) := by decide +kernel
theorem dX4_powerNow_14 : decode cX4_powerNow 14 = .ok (.ifCond .ne 5, 3) := by decide +kernel
theorem dX4_powerNow_17 : decode cX4_powerNow 17 = .ok (.iconst 0, 1) := by decide +kernel
theorem dX4_powerNow_18 : decode cX4_powerNow 18 = .ok (.ireturn, 1) := by decide +kernel
theorem dX4_powerNow_19 : decode cX4_powerNow 19 = .ok (.aload_n 1, 1) := by decide +kernel
theorem dX4_powerNow_20 : decode cX4_powerNow 20 = .ok (.getfield 156, 3) := by decide +kernel
theorem dX4_powerNow_23 : decode cX4_powerNow 23 = .ok (.iconst 2, 1) := by decide +kernel
theorem dX4_powerNow_24 : decode cX4_powerNow 24 = .ok (.if_icmp .ne 14, 3) := by decide +kernel
theorem dX4_powerNow_27 : decode cX4_powerNow 27 = .ok (.aload_n 0, 1) := by decide +kernel
theorem dX4_powerNow_28 : decode cX4_powerNow 28 = .ok (.getfield 16, 3) := by decide +kernel
theorem dX4_powerNow_31 : decode cX4_powerNow 31 = .ok (.iconst 1, 1) := by decide +kernel
theorem dX4_powerNow_32 : decode cX4_powerNow 32 = .ok (.iload_n 2, 1) := by decide +kernel
theorem dX4_powerNow_33 : decode cX4_powerNow 33 = .ok (.isub, 1) := by decide +kernel
theorem dX4_powerNow_34 : decode cX4_powerNow 34 = .ok (.baload, 1) := by decide +kernel
theorem dX4_powerNow_35 : decode cX4_powerNow 35 = .ok (.ifCond .eq 8, 3) := by decide +kernel
theorem dX4_powerNow_38 : decode cX4_powerNow 38 = .ok (.aload_n 1, 1) := by decide +kernel
theorem dX4_powerNow_39 : decode cX4_powerNow 39 = .ok (.getfield 214, 3) := by decide +kernel
theorem dX4_powerNow_42 : decode cX4_powerNow 42 = .ok (.ireturn, 1) := by decide +kernel
theorem dX4_powerNow_43 : decode cX4_powerNow 43 = .ok (.aload_n 1, 1) := by decide +kernel
theorem dX4_powerNow_44 : decode cX4_powerNow 44 = .ok (.getfield 214, 3) := by decide +kernel
theorem dX4_powerNow_47 : decode cX4_powerNow 47 = .ok (.iconst 2, 1) := by decide +kernel
theorem dX4_powerNow_48 : decode cX4_powerNow 48 = .ok (.idiv, 1) := by decide +kernel
theorem dX4_powerNow_49 : decode cX4_powerNow 49 = .ok (.istore_n 3, 1) := by decide +kernel
theorem dX4_powerNow_50 : decode cX4_powerNow 50 = .ok (.iload_n 2, 1) := by decide +kernel
theorem dX4_powerNow_51 : decode cX4_powerNow 51 = .ok (.ifCond .ne 12, 3) := by decide +kernel
theorem dX4_powerNow_54 : decode cX4_powerNow 54 = .ok (.aload_n 1, 1) := by decide +kernel
theorem dX4_powerNow_55 : decode cX4_powerNow 55 = .ok (.getfield 214, 3) := by decide +kernel
theorem dX4_powerNow_58 : decode cX4_powerNow 58 = .ok (.iload_n 3, 1) := by decide +kernel
theorem dX4_powerNow_59 : decode cX4_powerNow 59 = .ok (.isub, 1) := by decide +kernel
theorem dX4_powerNow_60 : decode cX4_powerNow 60 = .ok (.goto 4, 3) := by decide +kernel
theorem dX4_powerNow_63 : decode cX4_powerNow 63 = .ok (.iload_n 3, 1) := by decide +kernel
theorem dX4_powerNow_64 : decode cX4_powerNow 64 = .ok (.ireturn, 1) := by decide +kernel
theorem dX4_listForPacking_0 : decode cX4_listForPacking 0 = .ok (.aload_n 0, 1) := by decide +kernel
theorem dX4_listForPacking_1 : decode cX4_listForPacking 1 = .ok (.getfield 27, 3) := by decide +kernel
theorem dX4_listForPacking_4 : decode cX4_listForPacking 4 = .ok (.invokevirtual 260, 3) := by decide +kernel
theorem dX4_listForPacking_7 : decode cX4_listForPacking 7 = .ok (.iconst 0, 1) := by decide +kernel
theorem dX4_listForPacking_8 : decode cX4_listForPacking 8 = .ok (.istore_n 1, 1) := by decide +kernel
theorem dX4_listForPacking_9 : decode cX4_listForPacking 9 = .ok (.iload_n 1, 1) := by decide +kernel
theorem dX4_listForPacking_10 : decode cX4_listForPacking 10 = .ok (.aload_n 0, 1) := by decide +kernel
theorem dX4_listForPacking_11 : decode cX4_listForPacking 11 = .ok (.getfield 23, 3) := by decide +kernel
theorem dX4_listForPacking_14 : decode cX4_listForPacking 14 = .ok (.invokevirtual 53, 3) := by decide +kernel
theorem dX4_listForPacking_17 : decode cX4_listForPacking 17 = .ok (.if_icmp .ge 68, 3) := by decide +kernel
theorem dX4_listForPacking_20 : decode cX4_listForPacking 20 = .ok (.aload_n 0, 1) := by decide +kernel
theorem dX4_listForPacking_21 : decode cX4_listForPacking 21 = .ok (.getfield 23, 3) := by decide +kernel
theorem dX4_listForPacking_24 : decode cX4_listForPacking 24 = .ok (.iload_n 1, 1) := by decide +kernel
theorem dX4_listForPacking_25 : decode cX4_listForPacking 25 = .ok (.invokevirtual 101, 3) := by decide +kernel
theorem dX4_listForPacking_28 : decode cX4_listForPacking 28 = .ok (.checkcast 105, 3) := by decide +kernel
theorem dX4_listForPacking_31 : decode cX4_listForPacking 31 = .ok (.astore_n 2, 1) := by decide +kernel
theorem dX4_listForPacking_32 : decode cX4_listForPacking 32 = .ok (.aload_n 0, 1) := by decide +kernel
theorem dX4_listForPacking_33 : decode cX4_listForPacking 33 = .ok (.getfield 27, 3) := by decide +kernel
theorem dX4_listForPacking_36 : decode cX4_listForPacking 36 = .ok (.invokevirtual 53, 3) := by decide +kernel
theorem dX4_listForPacking_39 : decode cX4_listForPacking 39 = .ok (.istore_n 3, 1) := by decide +kernel
theorem dX4_listForPacking_40 : decode cX4_listForPacking 40 = .ok (.iload_n 3, 1) := by decide +kernel
theorem dX4_listForPacking_41 : decode cX4_listForPacking 41 = .ok (.ifCond .le 29, 3) := by decide +kernel
theorem dX4_listForPacking_44 : decode cX4_listForPacking 44 = .ok (.aload_n 2, 1) := by decide +kernel
theorem dX4_listForPacking_45 : decode cX4_listForPacking 45 = .ok (.aload_n 0, 1) := by decide +kernel
theorem dX4_listForPacking_46 : decode cX4_listForPacking 46 = .ok (.getfield 27, 3) := by decide +kernel
theorem dX4_listForPacking_49 : decode cX4_listForPacking 49 = .ok (.iload_n 3, 1) := by decide +kernel
theorem dX4_listForPacking_50 : decode cX4_listForPacking 50 = .ok (.iconst 1, 1) := by decide +kernel
theorem dX4_listForPacking_51 : decode cX4_listForPacking 51 = .ok (.isub, 1) := by decide +kernel
theorem dX4_listForPacking_52 : decode cX4_listForPacking 52 = .ok (.invokevirtual 101, 3) := by decide +kernel
theorem dX4_listForPacking_55 : decode cX4_listForPacking 55 = .ok (.checkcast 105, 3) := by decide +kernel
theorem dX4_listForPacking_58 : decode cX4_listForPacking 58 = .ok (.invokevirtual 262, 3) := by decide +kernel
theorem dX4_listForPacking_61 : decode cX4_listForPacking 61 = .ok (.ifCond .eq 9, 3) := by decide +kernel
theorem dX4_listForPacking_64 : decode cX4_listForPacking 64 = .ok (.iinc 3 (-1), 3) := by decide +kernel
theorem dX4_listForPacking_67 : decode cX4_listForPacking 67 = .ok (.goto (-27), 3) := by decide +kernel
theorem dX4_listForPacking_70 : decode cX4_listForPacking 70 = .ok (.aload_n 0, 1) := by decide +kernel
theorem dX4_listForPacking_71 : decode cX4_listForPacking 71 = .ok (.getfield 27, 3) := by decide +kernel
theorem dX4_listForPacking_74 : decode cX4_listForPacking 74 = .ok (.iload_n 3, 1) := by decide +kernel
theorem dX4_listForPacking_75 : decode cX4_listForPacking 75 = .ok (.aload_n 2, 1) := by decide +kernel
theorem dX4_listForPacking_76 : decode cX4_listForPacking 76 = .ok (.invokevirtual 265, 3) := by decide +kernel
theorem dX4_listForPacking_79 : decode cX4_listForPacking 79 = .ok (.iinc 1 1, 3) := by decide +kernel
theorem dX4_listForPacking_82 : decode cX4_listForPacking 82 = .ok (.goto (-73), 3) := by decide +kernel
theorem dX4_listForPacking_85 : decode cX4_listForPacking 85 = .ok (.return_, 1) := by decide +kernel
theorem dX4_swapLayouts_0 : decode cX4_swapLayouts 0 = .ok (.aload_n 0, 1) := by decide +kernel
theorem dX4_swapLayouts_1 : decode cX4_swapLayouts 1 = .ok (.getfield 39, 3) := by decide +kernel
theorem dX4_swapLayouts_4 : decode cX4_swapLayouts 4 = .ok (.astore_n 1, 1) := by decide +kernel
theorem dX4_swapLayouts_5 : decode cX4_swapLayouts 5 = .ok (.aload_n 0, 1) := by decide +kernel
theorem dX4_swapLayouts_6 : decode cX4_swapLayouts 6 = .ok (.aload_n 0, 1) := by decide +kernel
theorem dX4_swapLayouts_7 : decode cX4_swapLayouts 7 = .ok (.getfield 35, 3) := by decide +kernel
theorem dX4_swapLayouts_10 : decode cX4_swapLayouts 10 = .ok (.putfield 39, 3) := by decide +kernel
theorem dX4_swapLayouts_13 : decode cX4_swapLayouts 13 = .ok (.aload_n 0, 1) := by decide +kernel
theorem dX4_swapLayouts_14 : decode cX4_swapLayouts 14 = .ok (.aload_n 1, 1) := by decide +kernel
theorem dX4_swapLayouts_15 : decode cX4_swapLayouts 15 = .ok (.putfield 35, 3) := by decide +kernel
theorem dX4_swapLayouts_18 : decode cX4_swapLayouts 18 = .ok (.return_, 1) := by decide +kernel
theorem dX4_moveToPacked_0 : decode cX4_moveToPacked 0 = .ok (.iconst 0, 1) := by decide +kernel
theorem dX4_moveToPacked_1 : decode cX4_moveToPacked 1 = .ok (.istore_n 1, 1) := by decide +kernel
theorem dX4_moveToPacked_2 : decode cX4_moveToPacked 2 = .ok (.iconst 0, 1) := by decide +kernel
theorem dX4_moveToPacked_3 : decode cX4_moveToPacked 3 = .ok (.istore_n 2, 1) := by decide +kernel
theorem dX4_moveToPacked_4 : decode cX4_moveToPacked 4 = .ok (.iload_n 2, 1) := by decide +kernel
theorem dX4_moveToPacked_5 : decode cX4_moveToPacked 5 = .ok (.aload_n 0, 1) := by decide +kernel
theorem dX4_moveToPacked_6 : decode cX4_moveToPacked 6 = .ok (.getfield 23, 3) := by decide +kernel
theorem dX4_moveToPacked_9 : decode cX4_moveToPacked 9 = .ok (.invokevirtual 53, 3) := by decide +kernel
theorem dX4_moveToPacked_12 : decode cX4_moveToPacked 12 = .ok (.if_icmp .ge 43, 3) := by decide +kernel
theorem dX4_moveToPacked_15 : decode cX4_moveToPacked 15 = .ok (.aload_n 0, 1) := by decide +kernel
theorem dX4_moveToPacked_16 : decode cX4_moveToPacked 16 = .ok (.getfield 23, 3) := by decide +kernel
theorem dX4_moveToPacked_19 : decode cX4_moveToPacked 19 = .ok (.iload_n 2, 1) := by decide +kernel
theorem dX4_moveToPacked_20 : decode cX4_moveToPacked 20 = .ok (.invokevirtual 101, 3) := by decide +kernel
theorem dX4_moveToPacked_23 : decode cX4_moveToPacked 23 = .ok (.checkcast 105, 3) := by decide +kernel
theorem dX4_moveToPacked_26 : decode cX4_moveToPacked 26 = .ok (.astore_n 3, 1) := by decide +kernel
theorem dX4_moveToPacked_27 : decode cX4_moveToPacked 27 = .ok (.aload_n 3, 1) := by decide +kernel
theorem dX4_moveToPacked_28 : decode cX4_moveToPacked 28 = .ok (.getfield 123, 3) := by decide +kernel
theorem dX4_moveToPacked_31 : decode cX4_moveToPacked 31 = .ok (.aload_n 3, 1) := by decide +kernel
theorem dX4_moveToPacked_32 : decode cX4_moveToPacked 32 = .ok (.getfield 168, 3) := by decide +kernel
theorem dX4_moveToPacked_35 : decode cX4_moveToPacked 35 = .ok (.if_icmp .eq 6, 3) := by decide +kernel
theorem dX4_moveToPacked_38 : decode cX4_moveToPacked 38 = .ok (.iinc 1 1, 3) := by decide +kernel
theorem dX4_moveToPacked_41 : decode cX4_moveToPacked 41 = .ok (.aload_n 3, 1) := by decide +kernel
theorem dX4_moveToPacked_42 : decode cX4_moveToPacked 42 = .ok (.aload_n 3, 1) := by decide +kernel
theorem dX4_moveToPacked_43 : decode cX4_moveToPacked 43 = .ok (.getfield 168, 3) := by decide +kernel
theorem dX4_moveToPacked_46 : decode cX4_moveToPacked 46 = .ok (.putfield 123, 3) := by decide +kernel
theorem dX4_moveToPacked_49 : decode cX4_moveToPacked 49 = .ok (.iinc 2 1, 3) := by decide +kernel
theorem dX4_moveToPacked_52 : decode cX4_moveToPacked 52 = .ok (.goto (-48), 3) := by decide +kernel
theorem dX4_moveToPacked_55 : decode cX4_moveToPacked 55 = .ok (.iload_n 1, 1) := by decide +kernel
theorem dX4_moveToPacked_56 : decode cX4_moveToPacked 56 = .ok (.ireturn, 1) := by decide +kernel
theorem dX4_atMost_0 : decode cX4_atMost 0 = .ok (.iload_n 2, 1) := by decide +kernel
theorem dX4_atMost_1 : decode cX4_atMost 1 = .ok (.ifCond .gt 7, 3) := by decide +kernel
theorem dX4_atMost_4 : decode cX4_atMost 4 = .ok (.iload_n 0, 1) := by decide +kernel
theorem dX4_atMost_5 : decode cX4_atMost 5 = .ok (.goto 10, 3) := by decide +kernel
theorem dX4_atMost_8 : decode cX4_atMost 8 = .ok (.iload_n 0, 1) := by decide +kernel
theorem dX4_atMost_9 : decode cX4_atMost 9 = .ok (.iload_n 1, 1) := by decide +kernel
theorem dX4_atMost_10 : decode cX4_atMost 10 = .ok (.iload_n 2, 1) := by decide +kernel
theorem dX4_atMost_11 : decode cX4_atMost 11 = .ok (.idiv, 1) := by decide +kernel
theorem dX4_atMost_12 : decode cX4_atMost 12 = .ok (.invokestatic 268, 3) := by decide +kernel
theorem dX4_atMost_15 : decode cX4_atMost 15 = .ok (.ireturn, 1) := by decide +kernel
