-- decode rows: written by wip/whole/names.py
theorem dH_init_0 : decode cH_init 0 = .ok (.aload_n 0, 1) := by decide +kernel
theorem dH_init_1 : decode cH_init 1 = .ok (.invokespecial 3, 3) := by decide +kernel
theorem dH_init_4 : decode cH_init 4 = .ok (.aload_n 0, 1) := by decide +kernel
theorem dH_init_5 : decode cH_init 5 = .ok (.bipush 32, 2) := by decide +kernel
theorem dH_init_7 : decode cH_init 7 = .ok (.newarray .boolean, 2) := by decide +kernel
theorem dH_init_9 : decode cH_init 9 = .ok (.putfield 9, 3) := by decide +kernel
theorem dH_init_12 : decode cH_init 12 = .ok (.aload_n 0, 1) := by decide +kernel
theorem dH_init_13 : decode cH_init 13 = .ok (.bipush 32, 2) := by decide +kernel
theorem dH_init_15 : decode cH_init 15 = .ok (.newarray .boolean, 2) := by decide +kernel
theorem dH_init_17 : decode cH_init 17 = .ok (.putfield 13, 3) := by decide +kernel
theorem dH_init_20 : decode cH_init 20 = .ok (.aload_n 0, 1) := by decide +kernel
theorem dH_init_21 : decode cH_init 21 = .ok (.bipush 32, 2) := by decide +kernel
theorem dH_init_23 : decode cH_init 23 = .ok (.newarray .int, 2) := by decide +kernel
theorem dH_init_25 : decode cH_init 25 = .ok (.putfield 16, 3) := by decide +kernel
theorem dH_init_28 : decode cH_init 28 = .ok (.aload_n 0, 1) := by decide +kernel
theorem dH_init_29 : decode cH_init 29 = .ok (.bipush 64, 2) := by decide +kernel
theorem dH_init_31 : decode cH_init 31 = .ok (.newarray .int, 2) := by decide +kernel
theorem dH_init_33 : decode cH_init 33 = .ok (.putfield 20, 3) := by decide +kernel
theorem dH_init_36 : decode cH_init 36 = .ok (.aload_n 0, 1) := by decide +kernel
theorem dH_init_37 : decode cH_init 37 = .ok (.iconst 4, 1) := by decide +kernel
theorem dH_init_38 : decode cH_init 38 = .ok (.newarray .int, 2) := by decide +kernel
theorem dH_init_40 : decode cH_init 40 = .ok (.putfield 23, 3) := by decide +kernel
theorem dH_init_43 : decode cH_init 43 = .ok (.aload_n 0, 1) := by decide +kernel
theorem dH_init_44 : decode cH_init 44 = .ok (.bipush 8, 2) := by decide +kernel
theorem dH_init_46 : decode cH_init 46 = .ok (.newarray .int, 2) := by decide +kernel
theorem dH_init_48 : decode cH_init 48 = .ok (.putfield 26, 3) := by decide +kernel
theorem dH_init_51 : decode cH_init 51 = .ok (.aload_n 0, 1) := by decide +kernel
theorem dH_init_52 : decode cH_init 52 = .ok (.bipush 8, 2) := by decide +kernel
theorem dH_init_54 : decode cH_init 54 = .ok (.newarray .boolean, 2) := by decide +kernel
theorem dH_init_56 : decode cH_init 56 = .ok (.putfield 29, 3) := by decide +kernel
theorem dH_init_59 : decode cH_init 59 = .ok (.aload_n 0, 1) := by decide +kernel
theorem dH_init_60 : decode cH_init 60 = .ok (.bipush 8, 2) := by decide +kernel
theorem dH_init_62 : decode cH_init 62 = .ok (.newarray .int, 2) := by decide +kernel
theorem dH_init_64 : decode cH_init 64 = .ok (.putfield 32, 3) := by decide +kernel
theorem dH_init_67 : decode cH_init 67 = .ok (.aload_n 0, 1) := by decide +kernel
theorem dH_init_68 : decode cH_init 68 = .ok (.bipush 32, 2) := by decide +kernel
theorem dH_init_70 : decode cH_init 70 = .ok (.newarray .boolean, 2) := by decide +kernel
theorem dH_init_72 : decode cH_init 72 = .ok (.putfield 35, 3) := by decide +kernel
theorem dH_init_75 : decode cH_init 75 = .ok (.aload_n 0, 1) := by decide +kernel
theorem dH_init_76 : decode cH_init 76 = .ok (.bipush 32, 2) := by decide +kernel
theorem dH_init_78 : decode cH_init 78 = .ok (.newarray .int, 2) := by decide +kernel
theorem dH_init_80 : decode cH_init 80 = .ok (.putfield 38, 3) := by decide +kernel
theorem dH_init_83 : decode cH_init 83 = .ok (.aload_n 0, 1) := by decide +kernel
theorem dH_init_84 : decode cH_init 84 = .ok (.getfield 20, 3) := by decide +kernel
theorem dH_init_87 : decode cH_init 87 = .ok (.iconst (-1), 1) := by decide +kernel
theorem dH_init_88 : decode cH_init 88 = .ok (.invokestatic 41, 3) := by decide +kernel
theorem dH_init_91 : decode cH_init 91 = .ok (.aload_n 0, 1) := by decide +kernel
theorem dH_init_92 : decode cH_init 92 = .ok (.getfield 23, 3) := by decide +kernel
theorem dH_init_95 : decode cH_init 95 = .ok (.iconst (-1), 1) := by decide +kernel
theorem dH_init_96 : decode cH_init 96 = .ok (.invokestatic 41, 3) := by decide +kernel
theorem dH_init_99 : decode cH_init 99 = .ok (.aload_n 0, 1) := by decide +kernel
theorem dH_init_100 : decode cH_init 100 = .ok (.iconst 4, 1) := by decide +kernel
theorem dH_init_101 : decode cH_init 101 = .ok (.putfield 47, 3) := by decide +kernel
theorem dH_init_104 : decode cH_init 104 = .ok (.return_, 1) := by decide +kernel
theorem dH_make_0 : decode cH_make 0 = .ok (.iload_n 1, 1) := by decide +kernel
theorem dH_make_1 : decode cH_make 1 = .ok (.invokestatic 51, 3) := by decide +kernel
theorem dH_make_4 : decode cH_make 4 = .ok (.aload_n 0, 1) := by decide +kernel
theorem dH_make_5 : decode cH_make 5 = .ok (.iconst 1, 1) := by decide +kernel
theorem dH_make_6 : decode cH_make 6 = .ok (.invokevirtual 55, 3) := by decide +kernel
theorem dH_make_9 : decode cH_make 9 = .ok (.istore_n 3, 1) := by decide +kernel
theorem dH_make_10 : decode cH_make 10 = .ok (.iload_n 3, 1) := by decide +kernel
theorem dH_make_11 : decode cH_make 11 = .ok (.iconst (-1), 1) := by decide +kernel
theorem dH_make_12 : decode cH_make 12 = .ok (.if_icmp .ne 14, 3) := by decide +kernel
theorem dH_make_15 : decode cH_make 15 = .ok (.aload_n 0, 1) := by decide +kernel
theorem dH_make_16 : decode cH_make 16 = .ok (.invokevirtual 59, 3) := by decide +kernel
theorem dH_make_19 : decode cH_make 19 = .ok (.pop, 1) := by decide +kernel
theorem dH_make_20 : decode cH_make 20 = .ok (.aload_n 0, 1) := by decide +kernel
theorem dH_make_21 : decode cH_make 21 = .ok (.iconst 1, 1) := by decide +kernel
theorem dH_make_22 : decode cH_make 22 = .ok (.invokevirtual 55, 3) := by decide +kernel
theorem dH_make_25 : decode cH_make 25 = .ok (.istore_n 3, 1) := by decide +kernel
theorem dH_make_26 : decode cH_make 26 = .ok (.iload_n 3, 1) := by decide +kernel
theorem dH_make_27 : decode cH_make 27 = .ok (.iconst (-1), 1) := by decide +kernel
theorem dH_make_28 : decode cH_make 28 = .ok (.if_icmp .ne 8, 3) := by decide +kernel
theorem dH_make_31 : decode cH_make 31 = .ok (.aload_n 0, 1) := by decide +kernel
theorem dH_make_32 : decode cH_make 32 = .ok (.invokevirtual 63, 3) := by decide +kernel
theorem dH_make_35 : decode cH_make 35 = .ok (.istore_n 3, 1) := by decide +kernel
theorem dH_make_36 : decode cH_make 36 = .ok (.iload_n 3, 1) := by decide +kernel
theorem dH_make_37 : decode cH_make 37 = .ok (.iconst (-1), 1) := by decide +kernel
theorem dH_make_38 : decode cH_make 38 = .ok (.if_icmp .ne 13, 3) := by decide +kernel
theorem dH_make_41 : decode cH_make 41 = .ok (.new 66, 3) := by decide +kernel
theorem dH_make_44 : decode cH_make 44 = .ok (.dup, 1) := by decide +kernel
theorem dH_make_45 : decode cH_make 45 = .ok (.ldc 68, 2) := by decide +kernel
theorem dH_make_47 : decode cH_make 47 = .ok (.invokespecial 70, 3) := by decide +kernel
theorem dH_make_50 : decode cH_make 50 = .ok (.athrow, 1) := by decide +kernel
theorem dH_make_51 : decode cH_make 51 = .ok (.aload_n 0, 1) := by decide +kernel
theorem dH_make_52 : decode cH_make 52 = .ok (.getfield 16, 3) := by decide +kernel
theorem dH_make_55 : decode cH_make 55 = .ok (.iload_n 3, 1) := by decide +kernel
theorem dH_make_56 : decode cH_make 56 = .ok (.iload_n 2, 1) := by decide +kernel
theorem dH_make_57 : decode cH_make 57 = .ok (.iastore, 1) := by decide +kernel
theorem dH_make_58 : decode cH_make 58 = .ok (.aload_n 0, 1) := by decide +kernel
theorem dH_make_59 : decode cH_make 59 = .ok (.getfield 23, 3) := by decide +kernel
theorem dH_make_62 : decode cH_make 62 = .ok (.iload_n 1, 1) := by decide +kernel
theorem dH_make_63 : decode cH_make 63 = .ok (.iload_n 3, 1) := by decide +kernel
theorem dH_make_64 : decode cH_make 64 = .ok (.iastore, 1) := by decide +kernel
theorem dH_make_65 : decode cH_make 65 = .ok (.iload_n 3, 1) := by decide +kernel
theorem dH_make_66 : decode cH_make 66 = .ok (.ireturn, 1) := by decide +kernel
theorem dH_store_0 : decode cH_store 0 = .ok (.iload_n 1, 1) := by decide +kernel
theorem dH_store_1 : decode cH_store 1 = .ok (.invokestatic 51, 3) := by decide +kernel
theorem dH_store_4 : decode cH_store 4 = .ok (.iload_n 2, 1) := by decide +kernel
theorem dH_store_5 : decode cH_store 5 = .ok (.invokestatic 73, 3) := by decide +kernel
theorem dH_store_8 : decode cH_store 8 = .ok (.iload_n 3, 1) := by decide +kernel
theorem dH_store_9 : decode cH_store 9 = .ok (.invokestatic 51, 3) := by decide +kernel
theorem dH_store_12 : decode cH_store 12 = .ok (.aload_n 0, 1) := by decide +kernel
theorem dH_store_13 : decode cH_store 13 = .ok (.iload_n 1, 1) := by decide +kernel
theorem dH_store_14 : decode cH_store 14 = .ok (.invokevirtual 76, 3) := by decide +kernel
theorem dH_store_17 : decode cH_store 17 = .ok (.aload_n 0, 1) := by decide +kernel
theorem dH_store_18 : decode cH_store 18 = .ok (.getfield 23, 3) := by decide +kernel
theorem dH_store_21 : decode cH_store 21 = .ok (.iload_n 1, 1) := by decide +kernel
theorem dH_store_22 : decode cH_store 22 = .ok (.iaload, 1) := by decide +kernel
theorem dH_store_23 : decode cH_store 23 = .ok (.istore 4, 2) := by decide +kernel
theorem dH_store_25 : decode cH_store 25 = .ok (.aload_n 0, 1) := by decide +kernel
theorem dH_store_26 : decode cH_store 26 = .ok (.iload 4, 2) := by decide +kernel
theorem dH_store_28 : decode cH_store 28 = .ok (.invokestatic 79, 3) := by decide +kernel
theorem dH_store_31 : decode cH_store 31 = .ok (.invokevirtual 83, 3) := by decide +kernel
theorem dH_store_34 : decode cH_store 34 = .ok (.aload_n 0, 1) := by decide +kernel
theorem dH_store_35 : decode cH_store 35 = .ok (.getfield 20, 3) := by decide +kernel
theorem dH_store_38 : decode cH_store 38 = .ok (.iconst 2, 1) := by decide +kernel
theorem dH_store_39 : decode cH_store 39 = .ok (.iload 4, 2) := by decide +kernel
theorem dH_store_41 : decode cH_store 41 = .ok (.imul, 1) := by decide +kernel
theorem dH_store_42 : decode cH_store 42 = .ok (.iload_n 2, 1) := by decide +kernel
theorem dH_store_43 : decode cH_store 43 = .ok (.iadd, 1) := by decide +kernel
theorem dH_store_44 : decode cH_store 44 = .ok (.aload_n 0, 1) := by decide +kernel
theorem dH_store_45 : decode cH_store 45 = .ok (.getfield 23, 3) := by decide +kernel
theorem dH_store_48 : decode cH_store 48 = .ok (.iload_n 3, 1) := by decide +kernel
theorem dH_store_49 : decode cH_store 49 = .ok (.iaload, 1) := by decide +kernel
theorem dH_store_50 : decode cH_store 50 = .ok (.iastore, 1) := by decide +kernel
theorem dH_store_51 : decode cH_store 51 = .ok (.aload_n 0, 1) := by decide +kernel
theorem dH_store_52 : decode cH_store 52 = .ok (.getfield 86, 3) := by decide +kernel
theorem dH_store_55 : decode cH_store 55 = .ok (.ireturn, 1) := by decide +kernel
theorem dH_load_0 : decode cH_load 0 = .ok (.iload_n 1, 1) := by decide +kernel
theorem dH_load_1 : decode cH_load 1 = .ok (.invokestatic 51, 3) := by decide +kernel
theorem dH_load_4 : decode cH_load 4 = .ok (.iload_n 2, 1) := by decide +kernel
theorem dH_load_5 : decode cH_load 5 = .ok (.invokestatic 51, 3) := by decide +kernel
theorem dH_load_8 : decode cH_load 8 = .ok (.iload_n 3, 1) := by decide +kernel
theorem dH_load_9 : decode cH_load 9 = .ok (.invokestatic 73, 3) := by decide +kernel
theorem dH_load_12 : decode cH_load 12 = .ok (.aload_n 0, 1) := by decide +kernel
theorem dH_load_13 : decode cH_load 13 = .ok (.iload_n 2, 1) := by decide +kernel
theorem dH_load_14 : decode cH_load 14 = .ok (.invokevirtual 76, 3) := by decide +kernel
theorem dH_load_17 : decode cH_load 17 = .ok (.aload_n 0, 1) := by decide +kernel
theorem dH_load_18 : decode cH_load 18 = .ok (.getfield 23, 3) := by decide +kernel
theorem dH_load_21 : decode cH_load 21 = .ok (.iload_n 2, 1) := by decide +kernel
theorem dH_load_22 : decode cH_load 22 = .ok (.iaload, 1) := by decide +kernel
theorem dH_load_23 : decode cH_load 23 = .ok (.istore 4, 2) := by decide +kernel
theorem dH_load_25 : decode cH_load 25 = .ok (.aload_n 0, 1) := by decide +kernel
theorem dH_load_26 : decode cH_load 26 = .ok (.iload 4, 2) := by decide +kernel
theorem dH_load_28 : decode cH_load 28 = .ok (.invokestatic 79, 3) := by decide +kernel
theorem dH_load_31 : decode cH_load 31 = .ok (.invokevirtual 83, 3) := by decide +kernel
theorem dH_load_34 : decode cH_load 34 = .ok (.aload_n 0, 1) := by decide +kernel
theorem dH_load_35 : decode cH_load 35 = .ok (.getfield 23, 3) := by decide +kernel
theorem dH_load_38 : decode cH_load 38 = .ok (.iload_n 1, 1) := by decide +kernel
theorem dH_load_39 : decode cH_load 39 = .ok (.aload_n 0, 1) := by decide +kernel
theorem dH_load_40 : decode cH_load 40 = .ok (.getfield 20, 3) := by decide +kernel
theorem dH_load_43 : decode cH_load 43 = .ok (.iconst 2, 1) := by decide +kernel
theorem dH_load_44 : decode cH_load 44 = .ok (.iload 4, 2) := by decide +kernel
theorem dH_load_46 : decode cH_load 46 = .ok (.imul, 1) := by decide +kernel
theorem dH_load_47 : decode cH_load 47 = .ok (.iload_n 3, 1) := by decide +kernel
theorem dH_load_48 : decode cH_load 48 = .ok (.iadd, 1) := by decide +kernel
theorem dH_load_49 : decode cH_load 49 = .ok (.iaload, 1) := by decide +kernel
theorem dH_load_50 : decode cH_load 50 = .ok (.iastore, 1) := by decide +kernel
theorem dH_load_51 : decode cH_load 51 = .ok (.aload_n 0, 1) := by decide +kernel
theorem dH_load_52 : decode cH_load 52 = .ok (.getfield 86, 3) := by decide +kernel
theorem dH_load_55 : decode cH_load 55 = .ok (.ireturn, 1) := by decide +kernel
theorem dH_value_0 : decode cH_value 0 = .ok (.iload_n 1, 1) := by decide +kernel
theorem dH_value_1 : decode cH_value 1 = .ok (.invokestatic 51, 3) := by decide +kernel
theorem dH_value_4 : decode cH_value 4 = .ok (.aload_n 0, 1) := by decide +kernel
theorem dH_value_5 : decode cH_value 5 = .ok (.iload_n 1, 1) := by decide +kernel
theorem dH_value_6 : decode cH_value 6 = .ok (.invokevirtual 76, 3) := by decide +kernel
theorem dH_value_9 : decode cH_value 9 = .ok (.aload_n 0, 1) := by decide +kernel
theorem dH_value_10 : decode cH_value 10 = .ok (.getfield 23, 3) := by decide +kernel
theorem dH_value_13 : decode cH_value 13 = .ok (.iload_n 1, 1) := by decide +kernel
theorem dH_value_14 : decode cH_value 14 = .ok (.iaload, 1) := by decide +kernel
theorem dH_value_15 : decode cH_value 15 = .ok (.istore_n 2, 1) := by decide +kernel
theorem dH_value_16 : decode cH_value 16 = .ok (.aload_n 0, 1) := by decide +kernel
theorem dH_value_17 : decode cH_value 17 = .ok (.iload_n 2, 1) := by decide +kernel
theorem dH_value_18 : decode cH_value 18 = .ok (.invokestatic 79, 3) := by decide +kernel
theorem dH_value_21 : decode cH_value 21 = .ok (.invokevirtual 83, 3) := by decide +kernel
theorem dH_value_24 : decode cH_value 24 = .ok (.aload_n 0, 1) := by decide +kernel
theorem dH_value_25 : decode cH_value 25 = .ok (.getfield 16, 3) := by decide +kernel
theorem dH_value_28 : decode cH_value 28 = .ok (.iload_n 2, 1) := by decide +kernel
theorem dH_value_29 : decode cH_value 29 = .ok (.iaload, 1) := by decide +kernel
theorem dH_value_30 : decode cH_value 30 = .ok (.ireturn, 1) := by decide +kernel
theorem dH_copy_0 : decode cH_copy 0 = .ok (.iload_n 1, 1) := by decide +kernel
theorem dH_copy_1 : decode cH_copy 1 = .ok (.invokestatic 51, 3) := by decide +kernel
theorem dH_copy_4 : decode cH_copy 4 = .ok (.iload_n 2, 1) := by decide +kernel
theorem dH_copy_5 : decode cH_copy 5 = .ok (.invokestatic 51, 3) := by decide +kernel
theorem dH_copy_8 : decode cH_copy 8 = .ok (.aload_n 0, 1) := by decide +kernel
theorem dH_copy_9 : decode cH_copy 9 = .ok (.getfield 23, 3) := by decide +kernel
theorem dH_copy_12 : decode cH_copy 12 = .ok (.iload_n 1, 1) := by decide +kernel
theorem dH_copy_13 : decode cH_copy 13 = .ok (.aload_n 0, 1) := by decide +kernel
theorem dH_copy_14 : decode cH_copy 14 = .ok (.getfield 23, 3) := by decide +kernel
theorem dH_copy_17 : decode cH_copy 17 = .ok (.iload_n 2, 1) := by decide +kernel
theorem dH_copy_18 : decode cH_copy 18 = .ok (.iaload, 1) := by decide +kernel
theorem dH_copy_19 : decode cH_copy 19 = .ok (.iastore, 1) := by decide +kernel
theorem dH_copy_20 : decode cH_copy 20 = .ok (.aload_n 0, 1) := by decide +kernel
theorem dH_copy_21 : decode cH_copy 21 = .ok (.getfield 23, 3) := by decide +kernel
theorem dH_copy_24 : decode cH_copy 24 = .ok (.iload_n 1, 1) := by decide +kernel
theorem dH_copy_25 : decode cH_copy 25 = .ok (.iaload, 1) := by decide +kernel
theorem dH_copy_26 : decode cH_copy 26 = .ok (.ireturn, 1) := by decide +kernel
theorem dH_drop_0 : decode cH_drop 0 = .ok (.iload_n 1, 1) := by decide +kernel
theorem dH_drop_1 : decode cH_drop 1 = .ok (.invokestatic 51, 3) := by decide +kernel
theorem dH_drop_4 : decode cH_drop 4 = .ok (.aload_n 0, 1) := by decide +kernel
theorem dH_drop_5 : decode cH_drop 5 = .ok (.getfield 23, 3) := by decide +kernel
theorem dH_drop_8 : decode cH_drop 8 = .ok (.iload_n 1, 1) := by decide +kernel
theorem dH_drop_9 : decode cH_drop 9 = .ok (.iaload, 1) := by decide +kernel
theorem dH_drop_10 : decode cH_drop 10 = .ok (.iconst (-1), 1) := by decide +kernel
theorem dH_drop_11 : decode cH_drop 11 = .ok (.if_icmp .eq 7, 3) := by decide +kernel
theorem dH_drop_14 : decode cH_drop 14 = .ok (.iconst 1, 1) := by decide +kernel
theorem dH_drop_15 : decode cH_drop 15 = .ok (.goto 4, 3) := by decide +kernel
theorem dH_drop_18 : decode cH_drop 18 = .ok (.iconst 0, 1) := by decide +kernel
theorem dH_drop_19 : decode cH_drop 19 = .ok (.istore_n 2, 1) := by decide +kernel
theorem dH_drop_20 : decode cH_drop 20 = .ok (.aload_n 0, 1) := by decide +kernel
theorem dH_drop_21 : decode cH_drop 21 = .ok (.getfield 23, 3) := by decide +kernel
theorem dH_drop_24 : decode cH_drop 24 = .ok (.iload_n 1, 1) := by decide +kernel
theorem dH_drop_25 : decode cH_drop 25 = .ok (.iconst (-1), 1) := by decide +kernel
theorem dH_drop_26 : decode cH_drop 26 = .ok (.iastore, 1) := by decide +kernel
theorem dH_drop_27 : decode cH_drop 27 = .ok (.iload_n 2, 1) := by decide +kernel
theorem dH_drop_28 : decode cH_drop 28 = .ok (.ireturn, 1) := by decide +kernel
theorem dH_budget_0 : decode cH_budget 0 = .ok (.iload_n 1, 1) := by decide +kernel
theorem dH_budget_1 : decode cH_budget 1 = .ok (.iconst 2, 1) := by decide +kernel
theorem dH_budget_2 : decode cH_budget 2 = .ok (.if_icmp .lt 9, 3) := by decide +kernel
theorem dH_budget_5 : decode cH_budget 5 = .ok (.iload_n 1, 1) := by decide +kernel
theorem dH_budget_6 : decode cH_budget 6 = .ok (.bipush 8, 2) := by decide +kernel
theorem dH_budget_8 : decode cH_budget 8 = .ok (.if_icmp .le 13, 3) := by decide +kernel
theorem dH_budget_11 : decode cH_budget 11 = .ok (.new 89, 3) := by decide +kernel
theorem dH_budget_14 : decode cH_budget 14 = .ok (.dup, 1) := by decide +kernel
theorem dH_budget_15 : decode cH_budget 15 = .ok (.ldc 91, 2) := by decide +kernel
theorem dH_budget_17 : decode cH_budget 17 = .ok (.invokespecial 93, 3) := by decide +kernel
theorem dH_budget_20 : decode cH_budget 20 = .ok (.athrow, 1) := by decide +kernel
theorem dH_budget_21 : decode cH_budget 21 = .ok (.aload_n 0, 1) := by decide +kernel
theorem dH_budget_22 : decode cH_budget 22 = .ok (.iload_n 1, 1) := by decide +kernel
theorem dH_budget_23 : decode cH_budget 23 = .ok (.putfield 47, 3) := by decide +kernel
theorem dH_budget_26 : decode cH_budget 26 = .ok (.aload_n 0, 1) := by decide +kernel
theorem dH_budget_27 : decode cH_budget 27 = .ok (.iconst (-1), 1) := by decide +kernel
theorem dH_budget_28 : decode cH_budget 28 = .ok (.invokevirtual 94, 3) := by decide +kernel
theorem dH_budget_31 : decode cH_budget 31 = .ok (.ireturn, 1) := by decide +kernel
theorem dH_collect_0 : decode cH_collect 0 = .ok (.aload_n 0, 1) := by decide +kernel
theorem dH_collect_1 : decode cH_collect 1 = .ok (.invokevirtual 59, 3) := by decide +kernel
theorem dH_collect_4 : decode cH_collect 4 = .ok (.ireturn, 1) := by decide +kernel
theorem dH_thorough_0 : decode cH_thorough 0 = .ok (.aload_n 0, 1) := by decide +kernel
theorem dH_thorough_1 : decode cH_thorough 1 = .ok (.invokevirtual 97, 3) := by decide +kernel
theorem dH_thorough_4 : decode cH_thorough 4 = .ok (.aload_n 0, 1) := by decide +kernel
theorem dH_thorough_5 : decode cH_thorough 5 = .ok (.invokevirtual 59, 3) := by decide +kernel
theorem dH_thorough_8 : decode cH_thorough 8 = .ok (.istore_n 1, 1) := by decide +kernel
theorem dH_thorough_9 : decode cH_thorough 9 = .ok (.aload_n 0, 1) := by decide +kernel
theorem dH_thorough_10 : decode cH_thorough 10 = .ok (.iconst (-1), 1) := by decide +kernel
theorem dH_thorough_11 : decode cH_thorough 11 = .ok (.invokevirtual 94, 3) := by decide +kernel
theorem dH_thorough_14 : decode cH_thorough 14 = .ok (.pop, 1) := by decide +kernel
theorem dH_thorough_15 : decode cH_thorough 15 = .ok (.iload_n 1, 1) := by decide +kernel
theorem dH_thorough_16 : decode cH_thorough 16 = .ok (.ireturn, 1) := by decide +kernel
theorem dH_faults_0 : decode cH_faults 0 = .ok (.aload_n 0, 1) := by decide +kernel
theorem dH_faults_1 : decode cH_faults 1 = .ok (.getfield 86, 3) := by decide +kernel
theorem dH_faults_4 : decode cH_faults 4 = .ok (.ireturn, 1) := by decide +kernel
theorem dH_objects_0 : decode cH_objects 0 = .ok (.iconst 0, 1) := by decide +kernel
theorem dH_objects_1 : decode cH_objects 1 = .ok (.istore_n 1, 1) := by decide +kernel
theorem dH_objects_2 : decode cH_objects 2 = .ok (.iconst 0, 1) := by decide +kernel
theorem dH_objects_3 : decode cH_objects 3 = .ok (.istore_n 2, 1) := by decide +kernel
theorem dH_objects_4 : decode cH_objects 4 = .ok (.iload_n 2, 1) := by decide +kernel
theorem dH_objects_5 : decode cH_objects 5 = .ok (.bipush 32, 2) := by decide +kernel
theorem dH_objects_7 : decode cH_objects 7 = .ok (.if_icmp .ge 21, 3) := by decide +kernel
theorem dH_objects_10 : decode cH_objects 10 = .ok (.aload_n 0, 1) := by decide +kernel
theorem dH_objects_11 : decode cH_objects 11 = .ok (.getfield 9, 3) := by decide +kernel
theorem dH_objects_14 : decode cH_objects 14 = .ok (.iload_n 2, 1) := by decide +kernel
theorem dH_objects_15 : decode cH_objects 15 = .ok (.baload, 1) := by decide +kernel
theorem dH_objects_16 : decode cH_objects 16 = .ok (.ifCond .eq 6, 3) := by decide +kernel
theorem dH_objects_19 : decode cH_objects 19 = .ok (.iinc 1 1, 3) := by decide +kernel
theorem dH_objects_22 : decode cH_objects 22 = .ok (.iinc 2 1, 3) := by decide +kernel
theorem dH_objects_25 : decode cH_objects 25 = .ok (.goto (-21), 3) := by decide +kernel
theorem dH_objects_28 : decode cH_objects 28 = .ok (.iload_n 1, 1) := by decide +kernel
theorem dH_objects_29 : decode cH_objects 29 = .ok (.ireturn, 1) := by decide +kernel
theorem dH_page_0 : decode cH_page 0 = .ok (.iload_n 1, 1) := by decide +kernel
theorem dH_page_1 : decode cH_page 1 = .ok (.invokestatic 100, 3) := by decide +kernel
theorem dH_page_4 : decode cH_page 4 = .ok (.ifCond .ne 5, 3) := by decide +kernel
theorem dH_page_7 : decode cH_page 7 = .ok (.iconst (-1), 1) := by decide +kernel
theorem dH_page_8 : decode cH_page 8 = .ok (.ireturn, 1) := by decide +kernel
theorem dH_page_9 : decode cH_page 9 = .ok (.aload_n 0, 1) := by decide +kernel
theorem dH_page_10 : decode cH_page 10 = .ok (.getfield 26, 3) := by decide +kernel
theorem dH_page_13 : decode cH_page 13 = .ok (.iload_n 1, 1) := by decide +kernel
theorem dH_page_14 : decode cH_page 14 = .ok (.iaload, 1) := by decide +kernel
theorem dH_page_15 : decode cH_page 15 = .ok (.ifCond .ne 5, 3) := by decide +kernel
theorem dH_page_18 : decode cH_page 18 = .ok (.iconst 0, 1) := by decide +kernel
theorem dH_page_19 : decode cH_page 19 = .ok (.ireturn, 1) := by decide +kernel
theorem dH_page_20 : decode cH_page 20 = .ok (.aload_n 0, 1) := by decide +kernel
theorem dH_page_21 : decode cH_page 21 = .ok (.getfield 26, 3) := by decide +kernel
theorem dH_page_24 : decode cH_page 24 = .ok (.iload_n 1, 1) := by decide +kernel
theorem dH_page_25 : decode cH_page 25 = .ok (.iaload, 1) := by decide +kernel
theorem dH_page_26 : decode cH_page 26 = .ok (.iconst 2, 1) := by decide +kernel
theorem dH_page_27 : decode cH_page 27 = .ok (.if_icmp .ne 5, 3) := by decide +kernel
theorem dH_page_30 : decode cH_page 30 = .ok (.iconst 3, 1) := by decide +kernel
theorem dH_page_31 : decode cH_page 31 = .ok (.ireturn, 1) := by decide +kernel
theorem dH_page_32 : decode cH_page 32 = .ok (.aload_n 0, 1) := by decide +kernel
theorem dH_page_33 : decode cH_page 33 = .ok (.getfield 29, 3) := by decide +kernel
theorem dH_page_36 : decode cH_page 36 = .ok (.iload_n 1, 1) := by decide +kernel
theorem dH_page_37 : decode cH_page 37 = .ok (.baload, 1) := by decide +kernel
theorem dH_page_38 : decode cH_page 38 = .ok (.ifCond .eq 7, 3) := by decide +kernel
theorem dH_page_41 : decode cH_page 41 = .ok (.iconst 2, 1) := by decide +kernel
theorem dH_page_42 : decode cH_page 42 = .ok (.goto 4, 3) := by decide +kernel
theorem dH_page_45 : decode cH_page 45 = .ok (.iconst 1, 1) := by decide +kernel
theorem dH_page_46 : decode cH_page 46 = .ok (.ireturn, 1) := by decide +kernel
theorem dH_count_0 : decode cH_count 0 = .ok (.iload_n 1, 1) := by decide +kernel
theorem dH_count_1 : decode cH_count 1 = .ok (.invokestatic 100, 3) := by decide +kernel
theorem dH_count_4 : decode cH_count 4 = .ok (.ifCond .eq 12, 3) := by decide +kernel
theorem dH_count_7 : decode cH_count 7 = .ok (.aload_n 0, 1) := by decide +kernel
theorem dH_count_8 : decode cH_count 8 = .ok (.getfield 32, 3) := by decide +kernel
theorem dH_count_11 : decode cH_count 11 = .ok (.iload_n 1, 1) := by decide +kernel
theorem dH_count_12 : decode cH_count 12 = .ok (.iaload, 1) := by decide +kernel
theorem dH_count_13 : decode cH_count 13 = .ok (.goto 4, 3) := by decide +kernel
theorem dH_count_16 : decode cH_count 16 = .ok (.iconst (-1), 1) := by decide +kernel
theorem dH_count_17 : decode cH_count 17 = .ok (.ireturn, 1) := by decide +kernel
theorem dH_places_0 : decode cH_places 0 = .ok (.iload_n 1, 1) := by decide +kernel
theorem dH_places_1 : decode cH_places 1 = .ok (.invokestatic 100, 3) := by decide +kernel
theorem dH_places_4 : decode cH_places 4 = .ok (.ifCond .ne 5, 3) := by decide +kernel
theorem dH_places_7 : decode cH_places 7 = .ok (.iconst (-1), 1) := by decide +kernel
theorem dH_places_8 : decode cH_places 8 = .ok (.ireturn, 1) := by decide +kernel
theorem dH_places_9 : decode cH_places 9 = .ok (.iconst 0, 1) := by decide +kernel
theorem dH_places_10 : decode cH_places 10 = .ok (.istore_n 2, 1) := by decide +kernel
theorem dH_places_11 : decode cH_places 11 = .ok (.iconst 0, 1) := by decide +kernel
theorem dH_places_12 : decode cH_places 12 = .ok (.istore_n 3, 1) := by decide +kernel
theorem dH_places_13 : decode cH_places 13 = .ok (.iload_n 3, 1) := by decide +kernel
theorem dH_places_14 : decode cH_places 14 = .ok (.iconst 4, 1) := by decide +kernel
theorem dH_places_15 : decode cH_places 15 = .ok (.if_icmp .ge 49, 3) := by decide +kernel
theorem dH_places_18 : decode cH_places 18 = .ok (.iconst 4, 1) := by decide +kernel
theorem dH_places_19 : decode cH_places 19 = .ok (.iload_n 1, 1) := by decide +kernel
theorem dH_places_20 : decode cH_places 20 = .ok (.imul, 1) := by decide +kernel
theorem dH_places_21 : decode cH_places 21 = .ok (.iload_n 3, 1) := by decide +kernel
theorem dH_places_22 : decode cH_places 22 = .ok (.iadd, 1) := by decide +kernel
theorem dH_places_23 : decode cH_places 23 = .ok (.istore 4, 2) := by decide +kernel
theorem dH_places_25 : decode cH_places 25 = .ok (.aload_n 0, 1) := by decide +kernel
theorem dH_places_26 : decode cH_places 26 = .ok (.getfield 9, 3) := by decide +kernel
theorem dH_places_29 : decode cH_places 29 = .ok (.iload 4, 2) := by decide +kernel
theorem dH_places_31 : decode cH_places 31 = .ok (.baload, 1) := by decide +kernel
theorem dH_places_32 : decode cH_places 32 = .ok (.ifCond .eq 9, 3) := by decide +kernel
theorem dH_places_35 : decode cH_places 35 = .ok (.iload_n 2, 1) := by decide +kernel
theorem dH_places_36 : decode cH_places 36 = .ok (.iconst 1, 1) := by decide +kernel
theorem dH_places_37 : decode cH_places 37 = .ok (.iload_n 3, 1) := by decide +kernel
theorem dH_places_38 : decode cH_places 38 = .ok (.ishl, 1) := by decide +kernel
theorem dH_places_39 : decode cH_places 39 = .ok (.iadd, 1) := by decide +kernel
theorem dH_places_40 : decode cH_places 40 = .ok (.istore_n 2, 1) := by decide +kernel
theorem dH_places_41 : decode cH_places 41 = .ok (.aload_n 0, 1) := by decide +kernel
theorem dH_places_42 : decode cH_places 42 = .ok (.getfield 13, 3) := by decide +kernel
theorem dH_places_45 : decode cH_places 45 = .ok (.iload 4, 2) := by decide +kernel
theorem dH_places_47 : decode cH_places 47 = .ok (.baload, 1) := by decide +kernel
theorem dH_places_48 : decode cH_places 48 = .ok (.ifCond .eq 10, 3) := by decide +kernel
theorem dH_places_51 : decode cH_places 51 = .ok (.iload_n 2, 1) := by decide +kernel
theorem dH_places_52 : decode cH_places 52 = .ok (.bipush 16, 2) := by decide +kernel
theorem dH_places_54 : decode cH_places 54 = .ok (.iload_n 3, 1) := by decide +kernel
theorem dH_places_55 : decode cH_places 55 = .ok (.ishl, 1) := by decide +kernel
theorem dH_places_56 : decode cH_places 56 = .ok (.iadd, 1) := by decide +kernel
theorem dH_places_57 : decode cH_places 57 = .ok (.istore_n 2, 1) := by decide +kernel
theorem dH_places_58 : decode cH_places 58 = .ok (.iinc 3 1, 3) := by decide +kernel
theorem dH_places_61 : decode cH_places 61 = .ok (.goto (-48), 3) := by decide +kernel
theorem dH_places_64 : decode cH_places 64 = .ok (.iload_n 2, 1) := by decide +kernel
theorem dH_places_65 : decode cH_places 65 = .ok (.ireturn, 1) := by decide +kernel
theorem dH_hand_0 : decode cH_hand 0 = .ok (.aload_n 0, 1) := by decide +kernel
theorem dH_hand_1 : decode cH_hand 1 = .ok (.getfield 104, 3) := by decide +kernel
theorem dH_hand_4 : decode cH_hand 4 = .ok (.ireturn, 1) := by decide +kernel
theorem dH_checkRegister_0 : decode cH_checkRegister 0 = .ok (.iload_n 0, 1) := by decide +kernel
theorem dH_checkRegister_1 : decode cH_checkRegister 1 = .ok (.ifCond .lt 8, 3) := by decide +kernel
theorem dH_checkRegister_4 : decode cH_checkRegister 4 = .ok (.iload_n 0, 1) := by decide +kernel
theorem dH_checkRegister_5 : decode cH_checkRegister 5 = .ok (.iconst 4, 1) := by decide +kernel
theorem dH_checkRegister_6 : decode cH_checkRegister 6 = .ok (.if_icmp .lt 13, 3) := by decide +kernel
theorem dH_checkRegister_9 : decode cH_checkRegister 9 = .ok (.new 107, 3) := by decide +kernel
theorem dH_checkRegister_12 : decode cH_checkRegister 12 = .ok (.dup, 1) := by decide +kernel
theorem dH_checkRegister_13 : decode cH_checkRegister 13 = .ok (.ldc 109, 2) := by decide +kernel
theorem dH_checkRegister_15 : decode cH_checkRegister 15 = .ok (.invokespecial 111, 3) := by decide +kernel
theorem dH_checkRegister_18 : decode cH_checkRegister 18 = .ok (.athrow, 1) := by decide +kernel
theorem dH_checkRegister_19 : decode cH_checkRegister 19 = .ok (.return_, 1) := by decide +kernel
theorem dH_checkField_0 : decode cH_checkField 0 = .ok (.iload_n 0, 1) := by decide +kernel
theorem dH_checkField_1 : decode cH_checkField 1 = .ok (.ifCond .lt 8, 3) := by decide +kernel
theorem dH_checkField_4 : decode cH_checkField 4 = .ok (.iload_n 0, 1) := by decide +kernel
theorem dH_checkField_5 : decode cH_checkField 5 = .ok (.iconst 2, 1) := by decide +kernel
theorem dH_checkField_6 : decode cH_checkField 6 = .ok (.if_icmp .lt 13, 3) := by decide +kernel
theorem dH_checkField_9 : decode cH_checkField 9 = .ok (.new 107, 3) := by decide +kernel
theorem dH_checkField_12 : decode cH_checkField 12 = .ok (.dup, 1) := by decide +kernel
theorem dH_checkField_13 : decode cH_checkField 13 = .ok (.ldc 112, 2) := by decide +kernel
theorem dH_checkField_15 : decode cH_checkField 15 = .ok (.invokespecial 111, 3) := by decide +kernel
theorem dH_checkField_18 : decode cH_checkField 18 = .ok (.athrow, 1) := by decide +kernel
theorem dH_checkField_19 : decode cH_checkField 19 = .ok (.return_, 1) := by decide +kernel
theorem dH_checkHolds_0 : decode cH_checkHolds 0 = .ok (.aload_n 0, 1) := by decide +kernel
theorem dH_checkHolds_1 : decode cH_checkHolds 1 = .ok (.getfield 23, 3) := by decide +kernel
theorem dH_checkHolds_4 : decode cH_checkHolds 4 = .ok (.iload_n 1, 1) := by decide +kernel
theorem dH_checkHolds_5 : decode cH_checkHolds 5 = .ok (.iaload, 1) := by decide +kernel
theorem dH_checkHolds_6 : decode cH_checkHolds 6 = .ok (.iconst (-1), 1) := by decide +kernel
theorem dH_checkHolds_7 : decode cH_checkHolds 7 = .ok (.if_icmp .ne 13, 3) := by decide +kernel
theorem dH_checkHolds_10 : decode cH_checkHolds 10 = .ok (.new 89, 3) := by decide +kernel
theorem dH_checkHolds_13 : decode cH_checkHolds 13 = .ok (.dup, 1) := by decide +kernel
theorem dH_checkHolds_14 : decode cH_checkHolds 14 = .ok (.ldc 114, 2) := by decide +kernel
theorem dH_checkHolds_16 : decode cH_checkHolds 16 = .ok (.invokespecial 93, 3) := by decide +kernel
theorem dH_checkHolds_19 : decode cH_checkHolds 19 = .ok (.athrow, 1) := by decide +kernel
theorem dH_checkHolds_20 : decode cH_checkHolds 20 = .ok (.return_, 1) := by decide +kernel
theorem dH_isPage_0 : decode cH_isPage 0 = .ok (.iload_n 0, 1) := by decide +kernel
theorem dH_isPage_1 : decode cH_isPage 1 = .ok (.ifCond .lt 13, 3) := by decide +kernel
theorem dH_isPage_4 : decode cH_isPage 4 = .ok (.iload_n 0, 1) := by decide +kernel
theorem dH_isPage_5 : decode cH_isPage 5 = .ok (.bipush 8, 2) := by decide +kernel
theorem dH_isPage_7 : decode cH_isPage 7 = .ok (.if_icmp .ge 7, 3) := by decide +kernel
theorem dH_isPage_10 : decode cH_isPage 10 = .ok (.iconst 1, 1) := by decide +kernel
theorem dH_isPage_11 : decode cH_isPage 11 = .ok (.goto 4, 3) := by decide +kernel
theorem dH_isPage_14 : decode cH_isPage 14 = .ok (.iconst 0, 1) := by decide +kernel
theorem dH_isPage_15 : decode cH_isPage 15 = .ok (.ireturn, 1) := by decide +kernel
theorem dH_pageOf_0 : decode cH_pageOf 0 = .ok (.iload_n 0, 1) := by decide +kernel
theorem dH_pageOf_1 : decode cH_pageOf 1 = .ok (.iconst 4, 1) := by decide +kernel
theorem dH_pageOf_2 : decode cH_pageOf 2 = .ok (.idiv, 1) := by decide +kernel
theorem dH_pageOf_3 : decode cH_pageOf 3 = .ok (.ireturn, 1) := by decide +kernel
theorem dH_firstPlaceOf_0 : decode cH_firstPlaceOf 0 = .ok (.iconst 4, 1) := by decide +kernel
theorem dH_firstPlaceOf_1 : decode cH_firstPlaceOf 1 = .ok (.iload_n 0, 1) := by decide +kernel
theorem dH_firstPlaceOf_2 : decode cH_firstPlaceOf 2 = .ok (.imul, 1) := by decide +kernel
theorem dH_firstPlaceOf_3 : decode cH_firstPlaceOf 3 = .ok (.ireturn, 1) := by decide +kernel
theorem dH_pagesIn_0 : decode cH_pagesIn 0 = .ok (.iconst 0, 1) := by decide +kernel
theorem dH_pagesIn_1 : decode cH_pagesIn 1 = .ok (.istore_n 1, 1) := by decide +kernel
theorem dH_pagesIn_2 : decode cH_pagesIn 2 = .ok (.iconst 0, 1) := by decide +kernel
theorem dH_pagesIn_3 : decode cH_pagesIn 3 = .ok (.istore_n 2, 1) := by decide +kernel
theorem dH_pagesIn_4 : decode cH_pagesIn 4 = .ok (.iload_n 2, 1) := by decide +kernel
theorem dH_pagesIn_5 : decode cH_pagesIn 5 = .ok (.bipush 8, 2) := by decide +kernel
theorem dH_pagesIn_7 : decode cH_pagesIn 7 = .ok (.if_icmp .ge 22, 3) := by decide +kernel
theorem dH_pagesIn_10 : decode cH_pagesIn 10 = .ok (.aload_n 0, 1) := by decide +kernel
theorem dH_pagesIn_11 : decode cH_pagesIn 11 = .ok (.getfield 26, 3) := by decide +kernel
theorem dH_pagesIn_14 : decode cH_pagesIn 14 = .ok (.iload_n 2, 1) := by decide +kernel
theorem dH_pagesIn_15 : decode cH_pagesIn 15 = .ok (.iaload, 1) := by decide +kernel
theorem dH_pagesIn_16 : decode cH_pagesIn 16 = .ok (.iconst 1, 1) := by decide +kernel
theorem dH_pagesIn_17 : decode cH_pagesIn 17 = .ok (.if_icmp .ne 6, 3) := by decide +kernel
theorem dH_pagesIn_20 : decode cH_pagesIn 20 = .ok (.iinc 1 1, 3) := by decide +kernel
theorem dH_pagesIn_23 : decode cH_pagesIn 23 = .ok (.iinc 2 1, 3) := by decide +kernel
theorem dH_pagesIn_26 : decode cH_pagesIn 26 = .ok (.goto (-22), 3) := by decide +kernel
theorem dH_pagesIn_29 : decode cH_pagesIn 29 = .ok (.iload_n 1, 1) := by decide +kernel
theorem dH_pagesIn_30 : decode cH_pagesIn 30 = .ok (.ireturn, 1) := by decide +kernel
theorem dH_refersTo_0 : decode cH_refersTo 0 = .ok (.iload_n 1, 1) := by decide +kernel
theorem dH_refersTo_1 : decode cH_refersTo 1 = .ok (.iload_n 2, 1) := by decide +kernel
theorem dH_refersTo_2 : decode cH_refersTo 2 = .ok (.if_icmp .ne 5, 3) := by decide +kernel
theorem dH_refersTo_5 : decode cH_refersTo 5 = .ok (.iconst 0, 1) := by decide +kernel
theorem dH_refersTo_6 : decode cH_refersTo 6 = .ok (.ireturn, 1) := by decide +kernel
theorem dH_refersTo_7 : decode cH_refersTo 7 = .ok (.iconst 2, 1) := by decide +kernel
theorem dH_refersTo_8 : decode cH_refersTo 8 = .ok (.iload_n 1, 1) := by decide +kernel
theorem dH_refersTo_9 : decode cH_refersTo 9 = .ok (.invokestatic 116, 3) := by decide +kernel
theorem dH_refersTo_12 : decode cH_refersTo 12 = .ok (.imul, 1) := by decide +kernel
theorem dH_refersTo_13 : decode cH_refersTo 13 = .ok (.istore_n 3, 1) := by decide +kernel
theorem dH_refersTo_14 : decode cH_refersTo 14 = .ok (.iload_n 3, 1) := by decide +kernel
theorem dH_refersTo_15 : decode cH_refersTo 15 = .ok (.istore 4, 2) := by decide +kernel
theorem dH_refersTo_17 : decode cH_refersTo 17 = .ok (.iload 4, 2) := by decide +kernel
theorem dH_refersTo_19 : decode cH_refersTo 19 = .ok (.iload_n 3, 1) := by decide +kernel
theorem dH_refersTo_20 : decode cH_refersTo 20 = .ok (.bipush 8, 2) := by decide +kernel
theorem dH_refersTo_22 : decode cH_refersTo 22 = .ok (.iadd, 1) := by decide +kernel
theorem dH_refersTo_23 : decode cH_refersTo 23 = .ok (.if_icmp .ge 36, 3) := by decide +kernel
theorem dH_refersTo_26 : decode cH_refersTo 26 = .ok (.aload_n 0, 1) := by decide +kernel
theorem dH_refersTo_27 : decode cH_refersTo 27 = .ok (.getfield 20, 3) := by decide +kernel
theorem dH_refersTo_30 : decode cH_refersTo 30 = .ok (.iload 4, 2) := by decide +kernel
theorem dH_refersTo_32 : decode cH_refersTo 32 = .ok (.iaload, 1) := by decide +kernel
theorem dH_refersTo_33 : decode cH_refersTo 33 = .ok (.iconst (-1), 1) := by decide +kernel
theorem dH_refersTo_34 : decode cH_refersTo 34 = .ok (.if_icmp .eq 19, 3) := by decide +kernel
theorem dH_refersTo_37 : decode cH_refersTo 37 = .ok (.aload_n 0, 1) := by decide +kernel
theorem dH_refersTo_38 : decode cH_refersTo 38 = .ok (.getfield 20, 3) := by decide +kernel
theorem dH_refersTo_41 : decode cH_refersTo 41 = .ok (.iload 4, 2) := by decide +kernel
theorem dH_refersTo_43 : decode cH_refersTo 43 = .ok (.iaload, 1) := by decide +kernel
theorem dH_refersTo_44 : decode cH_refersTo 44 = .ok (.invokestatic 79, 3) := by decide +kernel
theorem dH_refersTo_47 : decode cH_refersTo 47 = .ok (.iload_n 2, 1) := by decide +kernel
theorem dH_refersTo_48 : decode cH_refersTo 48 = .ok (.if_icmp .ne 5, 3) := by decide +kernel
theorem dH_refersTo_51 : decode cH_refersTo 51 = .ok (.iconst 1, 1) := by decide +kernel
theorem dH_refersTo_52 : decode cH_refersTo 52 = .ok (.ireturn, 1) := by decide +kernel
theorem dH_refersTo_53 : decode cH_refersTo 53 = .ok (.iinc 4 1, 3) := by decide +kernel
theorem dH_refersTo_56 : decode cH_refersTo 56 = .ok (.goto (-39), 3) := by decide +kernel
theorem dH_refersTo_59 : decode cH_refersTo 59 = .ok (.iconst 0, 1) := by decide +kernel
theorem dH_refersTo_60 : decode cH_refersTo 60 = .ok (.ireturn, 1) := by decide +kernel
theorem dH_touch_0 : decode cH_touch 0 = .ok (.aload_n 0, 1) := by decide +kernel
theorem dH_touch_1 : decode cH_touch 1 = .ok (.getfield 26, 3) := by decide +kernel
theorem dH_touch_4 : decode cH_touch 4 = .ok (.iload_n 1, 1) := by decide +kernel
theorem dH_touch_5 : decode cH_touch 5 = .ok (.iaload, 1) := by decide +kernel
theorem dH_touch_6 : decode cH_touch 6 = .ok (.iconst 2, 1) := by decide +kernel
theorem dH_touch_7 : decode cH_touch 7 = .ok (.if_icmp .ne 22, 3) := by decide +kernel
theorem dH_touch_10 : decode cH_touch 10 = .ok (.aload_n 0, 1) := by decide +kernel
theorem dH_touch_11 : decode cH_touch 11 = .ok (.dup, 1) := by decide +kernel
theorem dH_touch_12 : decode cH_touch 12 = .ok (.getfield 86, 3) := by decide +kernel
theorem dH_touch_15 : decode cH_touch 15 = .ok (.iconst 1, 1) := by decide +kernel
theorem dH_touch_16 : decode cH_touch 16 = .ok (.iadd, 1) := by decide +kernel
theorem dH_touch_17 : decode cH_touch 17 = .ok (.putfield 86, 3) := by decide +kernel
theorem dH_touch_20 : decode cH_touch 20 = .ok (.aload_n 0, 1) := by decide +kernel
theorem dH_touch_21 : decode cH_touch 21 = .ok (.invokevirtual 119, 3) := by decide +kernel
theorem dH_touch_24 : decode cH_touch 24 = .ok (.aload_n 0, 1) := by decide +kernel
theorem dH_touch_25 : decode cH_touch 25 = .ok (.iload_n 1, 1) := by decide +kernel
theorem dH_touch_26 : decode cH_touch 26 = .ok (.invokevirtual 122, 3) := by decide +kernel
theorem dH_touch_29 : decode cH_touch 29 = .ok (.aload_n 0, 1) := by decide +kernel
theorem dH_touch_30 : decode cH_touch 30 = .ok (.getfield 29, 3) := by decide +kernel
theorem dH_touch_33 : decode cH_touch 33 = .ok (.iload_n 1, 1) := by decide +kernel
theorem dH_touch_34 : decode cH_touch 34 = .ok (.iconst 1, 1) := by decide +kernel
theorem dH_touch_35 : decode cH_touch 35 = .ok (.bastore, 1) := by decide +kernel
theorem dH_touch_36 : decode cH_touch 36 = .ok (.return_, 1) := by decide +kernel
theorem dH_makeRoomForPage_0 : decode cH_makeRoomForPage 0 = .ok (.aload_n 0, 1) := by decide +kernel
theorem dH_makeRoomForPage_1 : decode cH_makeRoomForPage 1 = .ok (.invokevirtual 125, 3) := by decide +kernel
theorem dH_makeRoomForPage_4 : decode cH_makeRoomForPage 4 = .ok (.aload_n 0, 1) := by decide +kernel
theorem dH_makeRoomForPage_5 : decode cH_makeRoomForPage 5 = .ok (.getfield 47, 3) := by decide +kernel
theorem dH_makeRoomForPage_8 : decode cH_makeRoomForPage 8 = .ok (.if_icmp .lt 12, 3) := by decide +kernel
theorem dH_makeRoomForPage_11 : decode cH_makeRoomForPage 11 = .ok (.aload_n 0, 1) := by decide +kernel
theorem dH_makeRoomForPage_12 : decode cH_makeRoomForPage 12 = .ok (.aload_n 0, 1) := by decide +kernel
theorem dH_makeRoomForPage_13 : decode cH_makeRoomForPage 13 = .ok (.iconst (-1), 1) := by decide +kernel
theorem dH_makeRoomForPage_14 : decode cH_makeRoomForPage 14 = .ok (.invokevirtual 128, 3) := by decide +kernel
theorem dH_makeRoomForPage_17 : decode cH_makeRoomForPage 17 = .ok (.invokevirtual 131, 3) := by decide +kernel
theorem dH_makeRoomForPage_20 : decode cH_makeRoomForPage 20 = .ok (.return_, 1) := by decide +kernel
theorem dH_putOut_0 : decode cH_putOut 0 = .ok (.aload_n 0, 1) := by decide +kernel
theorem dH_putOut_1 : decode cH_putOut 1 = .ok (.iload_n 1, 1) := by decide +kernel
theorem dH_putOut_2 : decode cH_putOut 2 = .ok (.invokevirtual 134, 3) := by decide +kernel
theorem dH_putOut_5 : decode cH_putOut 5 = .ok (.iconst 0, 1) := by decide +kernel
theorem dH_putOut_6 : decode cH_putOut 6 = .ok (.istore_n 2, 1) := by decide +kernel
theorem dH_putOut_7 : decode cH_putOut 7 = .ok (.iload_n 2, 1) := by decide +kernel
theorem dH_putOut_8 : decode cH_putOut 8 = .ok (.bipush 8, 2) := by decide +kernel
theorem dH_putOut_10 : decode cH_putOut 10 = .ok (.if_icmp .ge 28, 3) := by decide +kernel
theorem dH_putOut_13 : decode cH_putOut 13 = .ok (.aload_n 0, 1) := by decide +kernel
theorem dH_putOut_14 : decode cH_putOut 14 = .ok (.iload_n 1, 1) := by decide +kernel
theorem dH_putOut_15 : decode cH_putOut 15 = .ok (.iload_n 2, 1) := by decide +kernel
theorem dH_putOut_16 : decode cH_putOut 16 = .ok (.invokevirtual 137, 3) := by decide +kernel
theorem dH_putOut_19 : decode cH_putOut 19 = .ok (.ifCond .eq 13, 3) := by decide +kernel
theorem dH_putOut_22 : decode cH_putOut 22 = .ok (.aload_n 0, 1) := by decide +kernel
theorem dH_putOut_23 : decode cH_putOut 23 = .ok (.getfield 32, 3) := by decide +kernel
theorem dH_putOut_26 : decode cH_putOut 26 = .ok (.iload_n 2, 1) := by decide +kernel
theorem dH_putOut_27 : decode cH_putOut 27 = .ok (.dup2, 1) := by decide +kernel
theorem dH_putOut_28 : decode cH_putOut 28 = .ok (.iaload, 1) := by decide +kernel
theorem dH_putOut_29 : decode cH_putOut 29 = .ok (.iconst 1, 1) := by decide +kernel
theorem dH_putOut_30 : decode cH_putOut 30 = .ok (.iadd, 1) := by decide +kernel
theorem dH_putOut_31 : decode cH_putOut 31 = .ok (.iastore, 1) := by decide +kernel
theorem dH_putOut_32 : decode cH_putOut 32 = .ok (.iinc 2 1, 3) := by decide +kernel
theorem dH_putOut_35 : decode cH_putOut 35 = .ok (.goto (-28), 3) := by decide +kernel
theorem dH_putOut_38 : decode cH_putOut 38 = .ok (.aload_n 0, 1) := by decide +kernel
theorem dH_putOut_39 : decode cH_putOut 39 = .ok (.getfield 26, 3) := by decide +kernel
theorem dH_putOut_42 : decode cH_putOut 42 = .ok (.iload_n 1, 1) := by decide +kernel
theorem dH_putOut_43 : decode cH_putOut 43 = .ok (.iconst 2, 1) := by decide +kernel
theorem dH_putOut_44 : decode cH_putOut 44 = .ok (.iastore, 1) := by decide +kernel
theorem dH_putOut_45 : decode cH_putOut 45 = .ok (.aload_n 0, 1) := by decide +kernel
theorem dH_putOut_46 : decode cH_putOut 46 = .ok (.getfield 29, 3) := by decide +kernel
theorem dH_putOut_49 : decode cH_putOut 49 = .ok (.iload_n 1, 1) := by decide +kernel
theorem dH_putOut_50 : decode cH_putOut 50 = .ok (.iconst 0, 1) := by decide +kernel
theorem dH_putOut_51 : decode cH_putOut 51 = .ok (.bastore, 1) := by decide +kernel
theorem dH_putOut_52 : decode cH_putOut 52 = .ok (.return_, 1) := by decide +kernel
theorem dH_bookmarkAllOf_0 : decode cH_bookmarkAllOf 0 = .ok (.iload_n 1, 1) := by decide +kernel
theorem dH_bookmarkAllOf_1 : decode cH_bookmarkAllOf 1 = .ok (.invokestatic 116, 3) := by decide +kernel
theorem dH_bookmarkAllOf_4 : decode cH_bookmarkAllOf 4 = .ok (.istore_n 2, 1) := by decide +kernel
theorem dH_bookmarkAllOf_5 : decode cH_bookmarkAllOf 5 = .ok (.iload_n 2, 1) := by decide +kernel
theorem dH_bookmarkAllOf_6 : decode cH_bookmarkAllOf 6 = .ok (.istore_n 3, 1) := by decide +kernel
theorem dH_bookmarkAllOf_7 : decode cH_bookmarkAllOf 7 = .ok (.iload_n 3, 1) := by decide +kernel
theorem dH_bookmarkAllOf_8 : decode cH_bookmarkAllOf 8 = .ok (.iload_n 2, 1) := by decide +kernel
theorem dH_bookmarkAllOf_9 : decode cH_bookmarkAllOf 9 = .ok (.iconst 4, 1) := by decide +kernel
theorem dH_bookmarkAllOf_10 : decode cH_bookmarkAllOf 10 = .ok (.iadd, 1) := by decide +kernel
theorem dH_bookmarkAllOf_11 : decode cH_bookmarkAllOf 11 = .ok (.if_icmp .ge 25, 3) := by decide +kernel
theorem dH_bookmarkAllOf_14 : decode cH_bookmarkAllOf 14 = .ok (.aload_n 0, 1) := by decide +kernel
theorem dH_bookmarkAllOf_15 : decode cH_bookmarkAllOf 15 = .ok (.getfield 9, 3) := by decide +kernel
theorem dH_bookmarkAllOf_18 : decode cH_bookmarkAllOf 18 = .ok (.iload_n 3, 1) := by decide +kernel
theorem dH_bookmarkAllOf_19 : decode cH_bookmarkAllOf 19 = .ok (.baload, 1) := by decide +kernel
theorem dH_bookmarkAllOf_20 : decode cH_bookmarkAllOf 20 = .ok (.ifCond .eq 10, 3) := by decide +kernel
theorem dH_bookmarkAllOf_23 : decode cH_bookmarkAllOf 23 = .ok (.aload_n 0, 1) := by decide +kernel
theorem dH_bookmarkAllOf_24 : decode cH_bookmarkAllOf 24 = .ok (.getfield 13, 3) := by decide +kernel
theorem dH_bookmarkAllOf_27 : decode cH_bookmarkAllOf 27 = .ok (.iload_n 3, 1) := by decide +kernel
theorem dH_bookmarkAllOf_28 : decode cH_bookmarkAllOf 28 = .ok (.iconst 1, 1) := by decide +kernel
theorem dH_bookmarkAllOf_29 : decode cH_bookmarkAllOf 29 = .ok (.bastore, 1) := by decide +kernel
theorem dH_bookmarkAllOf_30 : decode cH_bookmarkAllOf 30 = .ok (.iinc 3 1, 3) := by decide +kernel
theorem dH_bookmarkAllOf_33 : decode cH_bookmarkAllOf 33 = .ok (.goto (-26), 3) := by decide +kernel
theorem dH_bookmarkAllOf_36 : decode cH_bookmarkAllOf 36 = .ok (.iconst 2, 1) := by decide +kernel
theorem dH_bookmarkAllOf_37 : decode cH_bookmarkAllOf 37 = .ok (.iload_n 2, 1) := by decide +kernel
theorem dH_bookmarkAllOf_38 : decode cH_bookmarkAllOf 38 = .ok (.imul, 1) := by decide +kernel
theorem dH_bookmarkAllOf_39 : decode cH_bookmarkAllOf 39 = .ok (.istore_n 3, 1) := by decide +kernel
theorem dH_bookmarkAllOf_40 : decode cH_bookmarkAllOf 40 = .ok (.iload_n 3, 1) := by decide +kernel
theorem dH_bookmarkAllOf_41 : decode cH_bookmarkAllOf 41 = .ok (.iconst 2, 1) := by decide +kernel
theorem dH_bookmarkAllOf_42 : decode cH_bookmarkAllOf 42 = .ok (.iload_n 2, 1) := by decide +kernel
theorem dH_bookmarkAllOf_43 : decode cH_bookmarkAllOf 43 = .ok (.iconst 4, 1) := by decide +kernel
theorem dH_bookmarkAllOf_44 : decode cH_bookmarkAllOf 44 = .ok (.iadd, 1) := by decide +kernel
theorem dH_bookmarkAllOf_45 : decode cH_bookmarkAllOf 45 = .ok (.imul, 1) := by decide +kernel
theorem dH_bookmarkAllOf_46 : decode cH_bookmarkAllOf 46 = .ok (.if_icmp .ge 31, 3) := by decide +kernel
theorem dH_bookmarkAllOf_49 : decode cH_bookmarkAllOf 49 = .ok (.aload_n 0, 1) := by decide +kernel
theorem dH_bookmarkAllOf_50 : decode cH_bookmarkAllOf 50 = .ok (.getfield 20, 3) := by decide +kernel
theorem dH_bookmarkAllOf_53 : decode cH_bookmarkAllOf 53 = .ok (.iload_n 3, 1) := by decide +kernel
theorem dH_bookmarkAllOf_54 : decode cH_bookmarkAllOf 54 = .ok (.iaload, 1) := by decide +kernel
theorem dH_bookmarkAllOf_55 : decode cH_bookmarkAllOf 55 = .ok (.iconst (-1), 1) := by decide +kernel
theorem dH_bookmarkAllOf_56 : decode cH_bookmarkAllOf 56 = .ok (.if_icmp .eq 15, 3) := by decide +kernel
theorem dH_bookmarkAllOf_59 : decode cH_bookmarkAllOf 59 = .ok (.aload_n 0, 1) := by decide +kernel
theorem dH_bookmarkAllOf_60 : decode cH_bookmarkAllOf 60 = .ok (.getfield 13, 3) := by decide +kernel
theorem dH_bookmarkAllOf_63 : decode cH_bookmarkAllOf 63 = .ok (.aload_n 0, 1) := by decide +kernel
theorem dH_bookmarkAllOf_64 : decode cH_bookmarkAllOf 64 = .ok (.getfield 20, 3) := by decide +kernel
theorem dH_bookmarkAllOf_67 : decode cH_bookmarkAllOf 67 = .ok (.iload_n 3, 1) := by decide +kernel
theorem dH_bookmarkAllOf_68 : decode cH_bookmarkAllOf 68 = .ok (.iaload, 1) := by decide +kernel
theorem dH_bookmarkAllOf_69 : decode cH_bookmarkAllOf 69 = .ok (.iconst 1, 1) := by decide +kernel
theorem dH_bookmarkAllOf_70 : decode cH_bookmarkAllOf 70 = .ok (.bastore, 1) := by decide +kernel
theorem dH_bookmarkAllOf_71 : decode cH_bookmarkAllOf 71 = .ok (.iinc 3 1, 3) := by decide +kernel
theorem dH_bookmarkAllOf_74 : decode cH_bookmarkAllOf 74 = .ok (.goto (-34), 3) := by decide +kernel
theorem dH_bookmarkAllOf_77 : decode cH_bookmarkAllOf 77 = .ok (.return_, 1) := by decide +kernel
theorem dH_bringIn_0 : decode cH_bringIn 0 = .ok (.aload_n 0, 1) := by decide +kernel
theorem dH_bringIn_1 : decode cH_bringIn 1 = .ok (.getfield 26, 3) := by decide +kernel
theorem dH_bringIn_4 : decode cH_bringIn 4 = .ok (.iload_n 1, 1) := by decide +kernel
theorem dH_bringIn_5 : decode cH_bringIn 5 = .ok (.iconst 1, 1) := by decide +kernel
theorem dH_bringIn_6 : decode cH_bringIn 6 = .ok (.iastore, 1) := by decide +kernel
theorem dH_bringIn_7 : decode cH_bringIn 7 = .ok (.aload_n 0, 1) := by decide +kernel
theorem dH_bringIn_8 : decode cH_bringIn 8 = .ok (.getfield 29, 3) := by decide +kernel
theorem dH_bringIn_11 : decode cH_bringIn 11 = .ok (.iload_n 1, 1) := by decide +kernel
theorem dH_bringIn_12 : decode cH_bringIn 12 = .ok (.iconst 0, 1) := by decide +kernel
theorem dH_bringIn_13 : decode cH_bringIn 13 = .ok (.bastore, 1) := by decide +kernel
theorem dH_bringIn_14 : decode cH_bringIn 14 = .ok (.iconst 0, 1) := by decide +kernel
theorem dH_bringIn_15 : decode cH_bringIn 15 = .ok (.istore_n 2, 1) := by decide +kernel
theorem dH_bringIn_16 : decode cH_bringIn 16 = .ok (.iload_n 2, 1) := by decide +kernel
theorem dH_bringIn_17 : decode cH_bringIn 17 = .ok (.bipush 8, 2) := by decide +kernel
theorem dH_bringIn_19 : decode cH_bringIn 19 = .ok (.if_icmp .ge 33, 3) := by decide +kernel
theorem dH_bringIn_22 : decode cH_bringIn 22 = .ok (.aload_n 0, 1) := by decide +kernel
theorem dH_bringIn_23 : decode cH_bringIn 23 = .ok (.iload_n 1, 1) := by decide +kernel
theorem dH_bringIn_24 : decode cH_bringIn 24 = .ok (.iload_n 2, 1) := by decide +kernel
theorem dH_bringIn_25 : decode cH_bringIn 25 = .ok (.invokevirtual 137, 3) := by decide +kernel
theorem dH_bringIn_28 : decode cH_bringIn 28 = .ok (.ifCond .eq 18, 3) := by decide +kernel
theorem dH_bringIn_31 : decode cH_bringIn 31 = .ok (.aload_n 0, 1) := by decide +kernel
theorem dH_bringIn_32 : decode cH_bringIn 32 = .ok (.getfield 32, 3) := by decide +kernel
theorem dH_bringIn_35 : decode cH_bringIn 35 = .ok (.iload_n 2, 1) := by decide +kernel
theorem dH_bringIn_36 : decode cH_bringIn 36 = .ok (.dup2, 1) := by decide +kernel
theorem dH_bringIn_37 : decode cH_bringIn 37 = .ok (.iaload, 1) := by decide +kernel
theorem dH_bringIn_38 : decode cH_bringIn 38 = .ok (.iconst 1, 1) := by decide +kernel
theorem dH_bringIn_39 : decode cH_bringIn 39 = .ok (.isub, 1) := by decide +kernel
theorem dH_bringIn_40 : decode cH_bringIn 40 = .ok (.iastore, 1) := by decide +kernel
theorem dH_bringIn_41 : decode cH_bringIn 41 = .ok (.aload_n 0, 1) := by decide +kernel
theorem dH_bringIn_42 : decode cH_bringIn 42 = .ok (.iload_n 2, 1) := by decide +kernel
theorem dH_bringIn_43 : decode cH_bringIn 43 = .ok (.invokevirtual 141, 3) := by decide +kernel
theorem dH_bringIn_46 : decode cH_bringIn 46 = .ok (.iinc 2 1, 3) := by decide +kernel
theorem dH_bringIn_49 : decode cH_bringIn 49 = .ok (.goto (-33), 3) := by decide +kernel
theorem dH_bringIn_52 : decode cH_bringIn 52 = .ok (.aload_n 0, 1) := by decide +kernel
theorem dH_bringIn_53 : decode cH_bringIn 53 = .ok (.iload_n 1, 1) := by decide +kernel
theorem dH_bringIn_54 : decode cH_bringIn 54 = .ok (.invokevirtual 141, 3) := by decide +kernel
theorem dH_bringIn_57 : decode cH_bringIn 57 = .ok (.return_, 1) := by decide +kernel
theorem dH_forgetBookmarksUnlessCounted_0 : decode cH_forgetBookmarksUnlessCounted 0 = .ok (.aload_n 0, 1) := by decide +kernel
theorem dH_forgetBookmarksUnlessCounted_1 : decode cH_forgetBookmarksUnlessCounted 1 = .ok (.getfield 26, 3) := by decide +kernel
theorem dH_forgetBookmarksUnlessCounted_4 : decode cH_forgetBookmarksUnlessCounted 4 = .ok (.iload_n 1, 1) := by decide +kernel
theorem dH_forgetBookmarksUnlessCounted_5 : decode cH_forgetBookmarksUnlessCounted 5 = .ok (.iaload, 1) := by decide +kernel
theorem dH_forgetBookmarksUnlessCounted_6 : decode cH_forgetBookmarksUnlessCounted 6 = .ok (.iconst 1, 1) := by decide +kernel
theorem dH_forgetBookmarksUnlessCounted_7 : decode cH_forgetBookmarksUnlessCounted 7 = .ok (.if_icmp .ne 12, 3) := by decide +kernel
theorem dH_forgetBookmarksUnlessCounted_10 : decode cH_forgetBookmarksUnlessCounted 10 = .ok (.aload_n 0, 1) := by decide +kernel
theorem dH_forgetBookmarksUnlessCounted_11 : decode cH_forgetBookmarksUnlessCounted 11 = .ok (.getfield 32, 3) := by decide +kernel
theorem dH_forgetBookmarksUnlessCounted_14 : decode cH_forgetBookmarksUnlessCounted 14 = .ok (.iload_n 1, 1) := by decide +kernel
theorem dH_forgetBookmarksUnlessCounted_15 : decode cH_forgetBookmarksUnlessCounted 15 = .ok (.iaload, 1) := by decide +kernel
theorem dH_forgetBookmarksUnlessCounted_16 : decode cH_forgetBookmarksUnlessCounted 16 = .ok (.ifCond .eq 4, 3) := by decide +kernel
theorem dH_forgetBookmarksUnlessCounted_19 : decode cH_forgetBookmarksUnlessCounted 19 = .ok (.return_, 1) := by decide +kernel
theorem dH_forgetBookmarksUnlessCounted_20 : decode cH_forgetBookmarksUnlessCounted 20 = .ok (.iload_n 1, 1) := by decide +kernel
theorem dH_forgetBookmarksUnlessCounted_21 : decode cH_forgetBookmarksUnlessCounted 21 = .ok (.invokestatic 116, 3) := by decide +kernel
theorem dH_forgetBookmarksUnlessCounted_24 : decode cH_forgetBookmarksUnlessCounted 24 = .ok (.istore_n 2, 1) := by decide +kernel
theorem dH_forgetBookmarksUnlessCounted_25 : decode cH_forgetBookmarksUnlessCounted 25 = .ok (.iload_n 2, 1) := by decide +kernel
theorem dH_forgetBookmarksUnlessCounted_26 : decode cH_forgetBookmarksUnlessCounted 26 = .ok (.istore_n 3, 1) := by decide +kernel
theorem dH_forgetBookmarksUnlessCounted_27 : decode cH_forgetBookmarksUnlessCounted 27 = .ok (.iload_n 3, 1) := by decide +kernel
theorem dH_forgetBookmarksUnlessCounted_28 : decode cH_forgetBookmarksUnlessCounted 28 = .ok (.iload_n 2, 1) := by decide +kernel
theorem dH_forgetBookmarksUnlessCounted_29 : decode cH_forgetBookmarksUnlessCounted 29 = .ok (.iconst 4, 1) := by decide +kernel
theorem dH_forgetBookmarksUnlessCounted_30 : decode cH_forgetBookmarksUnlessCounted 30 = .ok (.iadd, 1) := by decide +kernel
theorem dH_forgetBookmarksUnlessCounted_31 : decode cH_forgetBookmarksUnlessCounted 31 = .ok (.if_icmp .ge 16, 3) := by decide +kernel
theorem dH_forgetBookmarksUnlessCounted_34 : decode cH_forgetBookmarksUnlessCounted 34 = .ok (.aload_n 0, 1) := by decide +kernel
theorem dH_forgetBookmarksUnlessCounted_35 : decode cH_forgetBookmarksUnlessCounted 35 = .ok (.getfield 13, 3) := by decide +kernel
theorem dH_forgetBookmarksUnlessCounted_38 : decode cH_forgetBookmarksUnlessCounted 38 = .ok (.iload_n 3, 1) := by decide +kernel
theorem dH_forgetBookmarksUnlessCounted_39 : decode cH_forgetBookmarksUnlessCounted 39 = .ok (.iconst 0, 1) := by decide +kernel
theorem dH_forgetBookmarksUnlessCounted_40 : decode cH_forgetBookmarksUnlessCounted 40 = .ok (.bastore, 1) := by decide +kernel
theorem dH_forgetBookmarksUnlessCounted_41 : decode cH_forgetBookmarksUnlessCounted 41 = .ok (.iinc 3 1, 3) := by decide +kernel
theorem dH_forgetBookmarksUnlessCounted_44 : decode cH_forgetBookmarksUnlessCounted 44 = .ok (.goto (-17), 3) := by decide +kernel
theorem dH_forgetBookmarksUnlessCounted_47 : decode cH_forgetBookmarksUnlessCounted 47 = .ok (.return_, 1) := by decide +kernel
theorem dH_bringInAll_0 : decode cH_bringInAll 0 = .ok (.iconst 0, 1) := by decide +kernel
theorem dH_bringInAll_1 : decode cH_bringInAll 1 = .ok (.istore_n 1, 1) := by decide +kernel
theorem dH_bringInAll_2 : decode cH_bringInAll 2 = .ok (.iload_n 1, 1) := by decide +kernel
theorem dH_bringInAll_3 : decode cH_bringInAll 3 = .ok (.bipush 8, 2) := by decide +kernel
theorem dH_bringInAll_5 : decode cH_bringInAll 5 = .ok (.if_icmp .ge 34, 3) := by decide +kernel
theorem dH_bringInAll_8 : decode cH_bringInAll 8 = .ok (.aload_n 0, 1) := by decide +kernel
theorem dH_bringInAll_9 : decode cH_bringInAll 9 = .ok (.getfield 26, 3) := by decide +kernel
theorem dH_bringInAll_12 : decode cH_bringInAll 12 = .ok (.iload_n 1, 1) := by decide +kernel
theorem dH_bringInAll_13 : decode cH_bringInAll 13 = .ok (.iaload, 1) := by decide +kernel
theorem dH_bringInAll_14 : decode cH_bringInAll 14 = .ok (.iconst 2, 1) := by decide +kernel
theorem dH_bringInAll_15 : decode cH_bringInAll 15 = .ok (.if_icmp .ne 18, 3) := by decide +kernel
theorem dH_bringInAll_18 : decode cH_bringInAll 18 = .ok (.aload_n 0, 1) := by decide +kernel
theorem dH_bringInAll_19 : decode cH_bringInAll 19 = .ok (.dup, 1) := by decide +kernel
theorem dH_bringInAll_20 : decode cH_bringInAll 20 = .ok (.getfield 86, 3) := by decide +kernel
theorem dH_bringInAll_23 : decode cH_bringInAll 23 = .ok (.iconst 1, 1) := by decide +kernel
theorem dH_bringInAll_24 : decode cH_bringInAll 24 = .ok (.iadd, 1) := by decide +kernel
theorem dH_bringInAll_25 : decode cH_bringInAll 25 = .ok (.putfield 86, 3) := by decide +kernel
theorem dH_bringInAll_28 : decode cH_bringInAll 28 = .ok (.aload_n 0, 1) := by decide +kernel
theorem dH_bringInAll_29 : decode cH_bringInAll 29 = .ok (.iload_n 1, 1) := by decide +kernel
theorem dH_bringInAll_30 : decode cH_bringInAll 30 = .ok (.invokevirtual 122, 3) := by decide +kernel
theorem dH_bringInAll_33 : decode cH_bringInAll 33 = .ok (.iinc 1 1, 3) := by decide +kernel
theorem dH_bringInAll_36 : decode cH_bringInAll 36 = .ok (.goto (-34), 3) := by decide +kernel
theorem dH_bringInAll_39 : decode cH_bringInAll 39 = .ok (.return_, 1) := by decide +kernel
theorem dH_putOutBeyondBudget_0 : decode cH_putOutBeyondBudget 0 = .ok (.iconst 0, 1) := by decide +kernel
theorem dH_putOutBeyondBudget_1 : decode cH_putOutBeyondBudget 1 = .ok (.istore_n 2, 1) := by decide +kernel
theorem dH_putOutBeyondBudget_2 : decode cH_putOutBeyondBudget 2 = .ok (.aload_n 0, 1) := by decide +kernel
theorem dH_putOutBeyondBudget_3 : decode cH_putOutBeyondBudget 3 = .ok (.invokevirtual 125, 3) := by decide +kernel
theorem dH_putOutBeyondBudget_6 : decode cH_putOutBeyondBudget 6 = .ok (.istore_n 3, 1) := by decide +kernel
theorem dH_putOutBeyondBudget_7 : decode cH_putOutBeyondBudget 7 = .ok (.iload_n 3, 1) := by decide +kernel
theorem dH_putOutBeyondBudget_8 : decode cH_putOutBeyondBudget 8 = .ok (.aload_n 0, 1) := by decide +kernel
theorem dH_putOutBeyondBudget_9 : decode cH_putOutBeyondBudget 9 = .ok (.getfield 47, 3) := by decide +kernel
theorem dH_putOutBeyondBudget_12 : decode cH_putOutBeyondBudget 12 = .ok (.if_icmp .le 21, 3) := by decide +kernel
theorem dH_putOutBeyondBudget_15 : decode cH_putOutBeyondBudget 15 = .ok (.aload_n 0, 1) := by decide +kernel
theorem dH_putOutBeyondBudget_16 : decode cH_putOutBeyondBudget 16 = .ok (.aload_n 0, 1) := by decide +kernel
theorem dH_putOutBeyondBudget_17 : decode cH_putOutBeyondBudget 17 = .ok (.iload_n 1, 1) := by decide +kernel
theorem dH_putOutBeyondBudget_18 : decode cH_putOutBeyondBudget 18 = .ok (.invokevirtual 128, 3) := by decide +kernel
theorem dH_putOutBeyondBudget_21 : decode cH_putOutBeyondBudget 21 = .ok (.invokevirtual 131, 3) := by decide +kernel
theorem dH_putOutBeyondBudget_24 : decode cH_putOutBeyondBudget 24 = .ok (.iinc 2 1, 3) := by decide +kernel
theorem dH_putOutBeyondBudget_27 : decode cH_putOutBeyondBudget 27 = .ok (.iinc 3 (-1), 3) := by decide +kernel
theorem dH_putOutBeyondBudget_30 : decode cH_putOutBeyondBudget 30 = .ok (.goto (-23), 3) := by decide +kernel
theorem dH_putOutBeyondBudget_33 : decode cH_putOutBeyondBudget 33 = .ok (.iload_n 2, 1) := by decide +kernel
theorem dH_putOutBeyondBudget_34 : decode cH_putOutBeyondBudget 34 = .ok (.ireturn, 1) := by decide +kernel
theorem dH_choose_0 : decode cH_choose 0 = .ok (.iconst 0, 1) := by decide +kernel
theorem dH_choose_1 : decode cH_choose 1 = .ok (.istore_n 2, 1) := by decide +kernel
theorem dH_choose_2 : decode cH_choose 2 = .ok (.iload_n 2, 1) := by decide +kernel
theorem dH_choose_3 : decode cH_choose 3 = .ok (.bipush 16, 2) := by decide +kernel
theorem dH_choose_5 : decode cH_choose 5 = .ok (.if_icmp .ge 39, 3) := by decide +kernel
theorem dH_choose_8 : decode cH_choose 8 = .ok (.aload_n 0, 1) := by decide +kernel
theorem dH_choose_9 : decode cH_choose 9 = .ok (.iload_n 1, 1) := by decide +kernel
theorem dH_choose_10 : decode cH_choose 10 = .ok (.invokevirtual 144, 3) := by decide +kernel
theorem dH_choose_13 : decode cH_choose 13 = .ok (.ifCond .eq 31, 3) := by decide +kernel
theorem dH_choose_16 : decode cH_choose 16 = .ok (.aload_n 0, 1) := by decide +kernel
theorem dH_choose_17 : decode cH_choose 17 = .ok (.getfield 104, 3) := by decide +kernel
theorem dH_choose_20 : decode cH_choose 20 = .ok (.iload_n 1, 1) := by decide +kernel
theorem dH_choose_21 : decode cH_choose 21 = .ok (.if_icmp .eq 13, 3) := by decide +kernel
theorem dH_choose_24 : decode cH_choose 24 = .ok (.aload_n 0, 1) := by decide +kernel
theorem dH_choose_25 : decode cH_choose 25 = .ok (.getfield 29, 3) := by decide +kernel
theorem dH_choose_28 : decode cH_choose 28 = .ok (.aload_n 0, 1) := by decide +kernel
theorem dH_choose_29 : decode cH_choose 29 = .ok (.getfield 104, 3) := by decide +kernel
theorem dH_choose_32 : decode cH_choose 32 = .ok (.iconst 0, 1) := by decide +kernel
theorem dH_choose_33 : decode cH_choose 33 = .ok (.bastore, 1) := by decide +kernel
theorem dH_choose_34 : decode cH_choose 34 = .ok (.aload_n 0, 1) := by decide +kernel
theorem dH_choose_35 : decode cH_choose 35 = .ok (.invokevirtual 147, 3) := by decide +kernel
theorem dH_choose_38 : decode cH_choose 38 = .ok (.iinc 2 1, 3) := by decide +kernel
theorem dH_choose_41 : decode cH_choose 41 = .ok (.goto (-39), 3) := by decide +kernel
theorem dH_choose_44 : decode cH_choose 44 = .ok (.aload_n 0, 1) := by decide +kernel
theorem dH_choose_45 : decode cH_choose 45 = .ok (.getfield 104, 3) := by decide +kernel
theorem dH_choose_48 : decode cH_choose 48 = .ok (.istore_n 2, 1) := by decide +kernel
theorem dH_choose_49 : decode cH_choose 49 = .ok (.aload_n 0, 1) := by decide +kernel
theorem dH_choose_50 : decode cH_choose 50 = .ok (.invokevirtual 147, 3) := by decide +kernel
theorem dH_choose_53 : decode cH_choose 53 = .ok (.iload_n 2, 1) := by decide +kernel
theorem dH_choose_54 : decode cH_choose 54 = .ok (.ireturn, 1) := by decide +kernel
theorem dH_passes_0 : decode cH_passes 0 = .ok (.aload_n 0, 1) := by decide +kernel
theorem dH_passes_1 : decode cH_passes 1 = .ok (.getfield 26, 3) := by decide +kernel
theorem dH_passes_4 : decode cH_passes 4 = .ok (.aload_n 0, 1) := by decide +kernel
theorem dH_passes_5 : decode cH_passes 5 = .ok (.getfield 104, 3) := by decide +kernel
theorem dH_passes_8 : decode cH_passes 8 = .ok (.iaload, 1) := by decide +kernel
theorem dH_passes_9 : decode cH_passes 9 = .ok (.iconst 1, 1) := by decide +kernel
theorem dH_passes_10 : decode cH_passes 10 = .ok (.if_icmp .ne 23, 3) := by decide +kernel
theorem dH_passes_13 : decode cH_passes 13 = .ok (.aload_n 0, 1) := by decide +kernel
theorem dH_passes_14 : decode cH_passes 14 = .ok (.getfield 104, 3) := by decide +kernel
theorem dH_passes_17 : decode cH_passes 17 = .ok (.iload_n 1, 1) := by decide +kernel
theorem dH_passes_18 : decode cH_passes 18 = .ok (.if_icmp .eq 15, 3) := by decide +kernel
theorem dH_passes_21 : decode cH_passes 21 = .ok (.aload_n 0, 1) := by decide +kernel
theorem dH_passes_22 : decode cH_passes 22 = .ok (.getfield 29, 3) := by decide +kernel
theorem dH_passes_25 : decode cH_passes 25 = .ok (.aload_n 0, 1) := by decide +kernel
theorem dH_passes_26 : decode cH_passes 26 = .ok (.getfield 104, 3) := by decide +kernel
theorem dH_passes_29 : decode cH_passes 29 = .ok (.baload, 1) := by decide +kernel
theorem dH_passes_30 : decode cH_passes 30 = .ok (.ifCond .eq 7, 3) := by decide +kernel
theorem dH_passes_33 : decode cH_passes 33 = .ok (.iconst 1, 1) := by decide +kernel
theorem dH_passes_34 : decode cH_passes 34 = .ok (.goto 4, 3) := by decide +kernel
theorem dH_passes_37 : decode cH_passes 37 = .ok (.iconst 0, 1) := by decide +kernel
theorem dH_passes_38 : decode cH_passes 38 = .ok (.ireturn, 1) := by decide +kernel
theorem dH_moveHand_0 : decode cH_moveHand 0 = .ok (.aload_n 0, 1) := by decide +kernel
theorem dH_moveHand_1 : decode cH_moveHand 1 = .ok (.aload_n 0, 1) := by decide +kernel
theorem dH_moveHand_2 : decode cH_moveHand 2 = .ok (.getfield 104, 3) := by decide +kernel
theorem dH_moveHand_5 : decode cH_moveHand 5 = .ok (.iconst 1, 1) := by decide +kernel
theorem dH_moveHand_6 : decode cH_moveHand 6 = .ok (.iadd, 1) := by decide +kernel
theorem dH_moveHand_7 : decode cH_moveHand 7 = .ok (.bipush 8, 2) := by decide +kernel
theorem dH_moveHand_9 : decode cH_moveHand 9 = .ok (.irem, 1) := by decide +kernel
theorem dH_moveHand_10 : decode cH_moveHand 10 = .ok (.putfield 104, 3) := by decide +kernel
theorem dH_moveHand_13 : decode cH_moveHand 13 = .ok (.return_, 1) := by decide +kernel
theorem dH_collectWithin_0 : decode cH_collectWithin 0 = .ok (.aload_n 0, 1) := by decide +kernel
theorem dH_collectWithin_1 : decode cH_collectWithin 1 = .ok (.invokevirtual 150, 3) := by decide +kernel
theorem dH_collectWithin_4 : decode cH_collectWithin 4 = .ok (.iconst 0, 1) := by decide +kernel
theorem dH_collectWithin_5 : decode cH_collectWithin 5 = .ok (.istore_n 1, 1) := by decide +kernel
theorem dH_collectWithin_6 : decode cH_collectWithin 6 = .ok (.iconst 0, 1) := by decide +kernel
theorem dH_collectWithin_7 : decode cH_collectWithin 7 = .ok (.istore_n 2, 1) := by decide +kernel
theorem dH_collectWithin_8 : decode cH_collectWithin 8 = .ok (.iload_n 2, 1) := by decide +kernel
theorem dH_collectWithin_9 : decode cH_collectWithin 9 = .ok (.bipush 32, 2) := by decide +kernel
theorem dH_collectWithin_11 : decode cH_collectWithin 11 = .ok (.if_icmp .ge 48, 3) := by decide +kernel
theorem dH_collectWithin_14 : decode cH_collectWithin 14 = .ok (.aload_n 0, 1) := by decide +kernel
theorem dH_collectWithin_15 : decode cH_collectWithin 15 = .ok (.getfield 9, 3) := by decide +kernel
theorem dH_collectWithin_18 : decode cH_collectWithin 18 = .ok (.iload_n 2, 1) := by decide +kernel
theorem dH_collectWithin_19 : decode cH_collectWithin 19 = .ok (.baload, 1) := by decide +kernel
theorem dH_collectWithin_20 : decode cH_collectWithin 20 = .ok (.ifCond .eq 33, 3) := by decide +kernel
theorem dH_collectWithin_23 : decode cH_collectWithin 23 = .ok (.aload_n 0, 1) := by decide +kernel
theorem dH_collectWithin_24 : decode cH_collectWithin 24 = .ok (.getfield 26, 3) := by decide +kernel
theorem dH_collectWithin_27 : decode cH_collectWithin 27 = .ok (.iload_n 2, 1) := by decide +kernel
theorem dH_collectWithin_28 : decode cH_collectWithin 28 = .ok (.invokestatic 79, 3) := by decide +kernel
theorem dH_collectWithin_31 : decode cH_collectWithin 31 = .ok (.iaload, 1) := by decide +kernel
theorem dH_collectWithin_32 : decode cH_collectWithin 32 = .ok (.iconst 1, 1) := by decide +kernel
theorem dH_collectWithin_33 : decode cH_collectWithin 33 = .ok (.if_icmp .ne 20, 3) := by decide +kernel
theorem dH_collectWithin_36 : decode cH_collectWithin 36 = .ok (.aload_n 0, 1) := by decide +kernel
theorem dH_collectWithin_37 : decode cH_collectWithin 37 = .ok (.getfield 35, 3) := by decide +kernel
theorem dH_collectWithin_40 : decode cH_collectWithin 40 = .ok (.iload_n 2, 1) := by decide +kernel
theorem dH_collectWithin_41 : decode cH_collectWithin 41 = .ok (.baload, 1) := by decide +kernel
theorem dH_collectWithin_42 : decode cH_collectWithin 42 = .ok (.ifCond .ne 11, 3) := by decide +kernel
theorem dH_collectWithin_45 : decode cH_collectWithin 45 = .ok (.aload_n 0, 1) := by decide +kernel
theorem dH_collectWithin_46 : decode cH_collectWithin 46 = .ok (.iload_n 2, 1) := by decide +kernel
theorem dH_collectWithin_47 : decode cH_collectWithin 47 = .ok (.invokevirtual 153, 3) := by decide +kernel
theorem dH_collectWithin_50 : decode cH_collectWithin 50 = .ok (.iinc 1 1, 3) := by decide +kernel
theorem dH_collectWithin_53 : decode cH_collectWithin 53 = .ok (.iinc 2 1, 3) := by decide +kernel
theorem dH_collectWithin_56 : decode cH_collectWithin 56 = .ok (.goto (-48), 3) := by decide +kernel
theorem dH_collectWithin_59 : decode cH_collectWithin 59 = .ok (.iconst 0, 1) := by decide +kernel
theorem dH_collectWithin_60 : decode cH_collectWithin 60 = .ok (.istore_n 2, 1) := by decide +kernel
theorem dH_collectWithin_61 : decode cH_collectWithin 61 = .ok (.iload_n 2, 1) := by decide +kernel
theorem dH_collectWithin_62 : decode cH_collectWithin 62 = .ok (.bipush 8, 2) := by decide +kernel
theorem dH_collectWithin_64 : decode cH_collectWithin 64 = .ok (.if_icmp .ge 41, 3) := by decide +kernel
theorem dH_collectWithin_67 : decode cH_collectWithin 67 = .ok (.aload_n 0, 1) := by decide +kernel
theorem dH_collectWithin_68 : decode cH_collectWithin 68 = .ok (.getfield 26, 3) := by decide +kernel
theorem dH_collectWithin_71 : decode cH_collectWithin 71 = .ok (.iload_n 2, 1) := by decide +kernel
theorem dH_collectWithin_72 : decode cH_collectWithin 72 = .ok (.iaload, 1) := by decide +kernel
theorem dH_collectWithin_73 : decode cH_collectWithin 73 = .ok (.iconst 1, 1) := by decide +kernel
theorem dH_collectWithin_74 : decode cH_collectWithin 74 = .ok (.if_icmp .ne 25, 3) := by decide +kernel
theorem dH_collectWithin_77 : decode cH_collectWithin 77 = .ok (.aload_n 0, 1) := by decide +kernel
theorem dH_collectWithin_78 : decode cH_collectWithin 78 = .ok (.iload_n 2, 1) := by decide +kernel
theorem dH_collectWithin_79 : decode cH_collectWithin 79 = .ok (.invokevirtual 156, 3) := by decide +kernel
theorem dH_collectWithin_82 : decode cH_collectWithin 82 = .ok (.ifCond .eq 17, 3) := by decide +kernel
theorem dH_collectWithin_85 : decode cH_collectWithin 85 = .ok (.aload_n 0, 1) := by decide +kernel
theorem dH_collectWithin_86 : decode cH_collectWithin 86 = .ok (.getfield 26, 3) := by decide +kernel
theorem dH_collectWithin_89 : decode cH_collectWithin 89 = .ok (.iload_n 2, 1) := by decide +kernel
theorem dH_collectWithin_90 : decode cH_collectWithin 90 = .ok (.iconst 0, 1) := by decide +kernel
theorem dH_collectWithin_91 : decode cH_collectWithin 91 = .ok (.iastore, 1) := by decide +kernel
theorem dH_collectWithin_92 : decode cH_collectWithin 92 = .ok (.aload_n 0, 1) := by decide +kernel
theorem dH_collectWithin_93 : decode cH_collectWithin 93 = .ok (.getfield 29, 3) := by decide +kernel
theorem dH_collectWithin_96 : decode cH_collectWithin 96 = .ok (.iload_n 2, 1) := by decide +kernel
theorem dH_collectWithin_97 : decode cH_collectWithin 97 = .ok (.iconst 0, 1) := by decide +kernel
theorem dH_collectWithin_98 : decode cH_collectWithin 98 = .ok (.bastore, 1) := by decide +kernel
theorem dH_collectWithin_99 : decode cH_collectWithin 99 = .ok (.iinc 2 1, 3) := by decide +kernel
theorem dH_collectWithin_102 : decode cH_collectWithin 102 = .ok (.goto (-41), 3) := by decide +kernel
theorem dH_collectWithin_105 : decode cH_collectWithin 105 = .ok (.iload_n 1, 1) := by decide +kernel
theorem dH_collectWithin_106 : decode cH_collectWithin 106 = .ok (.ireturn, 1) := by decide +kernel
theorem dH_markKept_0 : decode cH_markKept 0 = .ok (.iconst 0, 1) := by decide +kernel
theorem dH_markKept_1 : decode cH_markKept 1 = .ok (.istore_n 1, 1) := by decide +kernel
theorem dH_markKept_2 : decode cH_markKept 2 = .ok (.iload_n 1, 1) := by decide +kernel
theorem dH_markKept_3 : decode cH_markKept 3 = .ok (.bipush 32, 2) := by decide +kernel
theorem dH_markKept_5 : decode cH_markKept 5 = .ok (.if_icmp .ge 16, 3) := by decide +kernel
theorem dH_markKept_8 : decode cH_markKept 8 = .ok (.aload_n 0, 1) := by decide +kernel
theorem dH_markKept_9 : decode cH_markKept 9 = .ok (.getfield 35, 3) := by decide +kernel
theorem dH_markKept_12 : decode cH_markKept 12 = .ok (.iload_n 1, 1) := by decide +kernel
theorem dH_markKept_13 : decode cH_markKept 13 = .ok (.iconst 0, 1) := by decide +kernel
theorem dH_markKept_14 : decode cH_markKept 14 = .ok (.bastore, 1) := by decide +kernel
theorem dH_markKept_15 : decode cH_markKept 15 = .ok (.iinc 1 1, 3) := by decide +kernel
theorem dH_markKept_18 : decode cH_markKept 18 = .ok (.goto (-16), 3) := by decide +kernel
theorem dH_markKept_21 : decode cH_markKept 21 = .ok (.aload_n 0, 1) := by decide +kernel
theorem dH_markKept_22 : decode cH_markKept 22 = .ok (.iconst 0, 1) := by decide +kernel
theorem dH_markKept_23 : decode cH_markKept 23 = .ok (.putfield 159, 3) := by decide +kernel
theorem dH_markKept_26 : decode cH_markKept 26 = .ok (.iconst 0, 1) := by decide +kernel
theorem dH_markKept_27 : decode cH_markKept 27 = .ok (.istore_n 1, 1) := by decide +kernel
theorem dH_markKept_28 : decode cH_markKept 28 = .ok (.iload_n 1, 1) := by decide +kernel
theorem dH_markKept_29 : decode cH_markKept 29 = .ok (.iconst 4, 1) := by decide +kernel
theorem dH_markKept_30 : decode cH_markKept 30 = .ok (.if_icmp .ge 19, 3) := by decide +kernel
theorem dH_markKept_33 : decode cH_markKept 33 = .ok (.aload_n 0, 1) := by decide +kernel
theorem dH_markKept_34 : decode cH_markKept 34 = .ok (.aload_n 0, 1) := by decide +kernel
theorem dH_markKept_35 : decode cH_markKept 35 = .ok (.getfield 23, 3) := by decide +kernel
theorem dH_markKept_38 : decode cH_markKept 38 = .ok (.iload_n 1, 1) := by decide +kernel
theorem dH_markKept_39 : decode cH_markKept 39 = .ok (.iaload, 1) := by decide +kernel
theorem dH_markKept_40 : decode cH_markKept 40 = .ok (.invokevirtual 162, 3) := by decide +kernel
theorem dH_markKept_43 : decode cH_markKept 43 = .ok (.iinc 1 1, 3) := by decide +kernel
theorem dH_markKept_46 : decode cH_markKept 46 = .ok (.goto (-18), 3) := by decide +kernel
theorem dH_markKept_49 : decode cH_markKept 49 = .ok (.iconst 0, 1) := by decide +kernel
theorem dH_markKept_50 : decode cH_markKept 50 = .ok (.istore_n 1, 1) := by decide +kernel
theorem dH_markKept_51 : decode cH_markKept 51 = .ok (.iload_n 1, 1) := by decide +kernel
theorem dH_markKept_52 : decode cH_markKept 52 = .ok (.bipush 32, 2) := by decide +kernel
theorem dH_markKept_54 : decode cH_markKept 54 = .ok (.if_icmp .ge 23, 3) := by decide +kernel
theorem dH_markKept_57 : decode cH_markKept 57 = .ok (.aload_n 0, 1) := by decide +kernel
theorem dH_markKept_58 : decode cH_markKept 58 = .ok (.getfield 13, 3) := by decide +kernel
theorem dH_markKept_61 : decode cH_markKept 61 = .ok (.iload_n 1, 1) := by decide +kernel
theorem dH_markKept_62 : decode cH_markKept 62 = .ok (.baload, 1) := by decide +kernel
theorem dH_markKept_63 : decode cH_markKept 63 = .ok (.ifCond .eq 8, 3) := by decide +kernel
theorem dH_markKept_66 : decode cH_markKept 66 = .ok (.aload_n 0, 1) := by decide +kernel
theorem dH_markKept_67 : decode cH_markKept 67 = .ok (.iload_n 1, 1) := by decide +kernel
theorem dH_markKept_68 : decode cH_markKept 68 = .ok (.invokevirtual 162, 3) := by decide +kernel
theorem dH_markKept_71 : decode cH_markKept 71 = .ok (.iinc 1 1, 3) := by decide +kernel
theorem dH_markKept_74 : decode cH_markKept 74 = .ok (.goto (-23), 3) := by decide +kernel
theorem dH_markKept_77 : decode cH_markKept 77 = .ok (.iconst 0, 1) := by decide +kernel
theorem dH_markKept_78 : decode cH_markKept 78 = .ok (.istore_n 1, 1) := by decide +kernel
theorem dH_markKept_79 : decode cH_markKept 79 = .ok (.iload_n 1, 1) := by decide +kernel
theorem dH_markKept_80 : decode cH_markKept 80 = .ok (.aload_n 0, 1) := by decide +kernel
theorem dH_markKept_81 : decode cH_markKept 81 = .ok (.getfield 159, 3) := by decide +kernel
theorem dH_markKept_84 : decode cH_markKept 84 = .ok (.if_icmp .ge 47, 3) := by decide +kernel
theorem dH_markKept_87 : decode cH_markKept 87 = .ok (.iload_n 1, 1) := by decide +kernel
theorem dH_markKept_88 : decode cH_markKept 88 = .ok (.bipush 32, 2) := by decide +kernel
theorem dH_markKept_90 : decode cH_markKept 90 = .ok (.if_icmp .ge 41, 3) := by decide +kernel
theorem dH_markKept_93 : decode cH_markKept 93 = .ok (.iconst 0, 1) := by decide +kernel
theorem dH_markKept_94 : decode cH_markKept 94 = .ok (.istore_n 2, 1) := by decide +kernel
theorem dH_markKept_95 : decode cH_markKept 95 = .ok (.iload_n 2, 1) := by decide +kernel
theorem dH_markKept_96 : decode cH_markKept 96 = .ok (.iconst 2, 1) := by decide +kernel
theorem dH_markKept_97 : decode cH_markKept 97 = .ok (.if_icmp .ge 28, 3) := by decide +kernel
theorem dH_markKept_100 : decode cH_markKept 100 = .ok (.aload_n 0, 1) := by decide +kernel
theorem dH_markKept_101 : decode cH_markKept 101 = .ok (.aload_n 0, 1) := by decide +kernel
theorem dH_markKept_102 : decode cH_markKept 102 = .ok (.getfield 20, 3) := by decide +kernel
theorem dH_markKept_105 : decode cH_markKept 105 = .ok (.iconst 2, 1) := by decide +kernel
theorem dH_markKept_106 : decode cH_markKept 106 = .ok (.aload_n 0, 1) := by decide +kernel
theorem dH_markKept_107 : decode cH_markKept 107 = .ok (.getfield 38, 3) := by decide +kernel
theorem dH_markKept_110 : decode cH_markKept 110 = .ok (.iload_n 1, 1) := by decide +kernel
theorem dH_markKept_111 : decode cH_markKept 111 = .ok (.iaload, 1) := by decide +kernel
theorem dH_markKept_112 : decode cH_markKept 112 = .ok (.imul, 1) := by decide +kernel
theorem dH_markKept_113 : decode cH_markKept 113 = .ok (.iload_n 2, 1) := by decide +kernel
theorem dH_markKept_114 : decode cH_markKept 114 = .ok (.iadd, 1) := by decide +kernel
theorem dH_markKept_115 : decode cH_markKept 115 = .ok (.iaload, 1) := by decide +kernel
theorem dH_markKept_116 : decode cH_markKept 116 = .ok (.invokevirtual 162, 3) := by decide +kernel
theorem dH_markKept_119 : decode cH_markKept 119 = .ok (.iinc 2 1, 3) := by decide +kernel
theorem dH_markKept_122 : decode cH_markKept 122 = .ok (.goto (-27), 3) := by decide +kernel
theorem dH_markKept_125 : decode cH_markKept 125 = .ok (.iinc 1 1, 3) := by decide +kernel
theorem dH_markKept_128 : decode cH_markKept 128 = .ok (.goto (-49), 3) := by decide +kernel
theorem dH_markKept_131 : decode cH_markKept 131 = .ok (.return_, 1) := by decide +kernel
theorem dH_keep_0 : decode cH_keep 0 = .ok (.iload_n 1, 1) := by decide +kernel
theorem dH_keep_1 : decode cH_keep 1 = .ok (.iconst (-1), 1) := by decide +kernel
theorem dH_keep_2 : decode cH_keep 2 = .ok (.if_icmp .eq 25, 3) := by decide +kernel
theorem dH_keep_5 : decode cH_keep 5 = .ok (.aload_n 0, 1) := by decide +kernel
theorem dH_keep_6 : decode cH_keep 6 = .ok (.getfield 35, 3) := by decide +kernel
theorem dH_keep_9 : decode cH_keep 9 = .ok (.iload_n 1, 1) := by decide +kernel
theorem dH_keep_10 : decode cH_keep 10 = .ok (.baload, 1) := by decide +kernel
theorem dH_keep_11 : decode cH_keep 11 = .ok (.ifCond .ne 16, 3) := by decide +kernel
theorem dH_keep_14 : decode cH_keep 14 = .ok (.aload_n 0, 1) := by decide +kernel
theorem dH_keep_15 : decode cH_keep 15 = .ok (.getfield 26, 3) := by decide +kernel
theorem dH_keep_18 : decode cH_keep 18 = .ok (.iload_n 1, 1) := by decide +kernel
theorem dH_keep_19 : decode cH_keep 19 = .ok (.invokestatic 79, 3) := by decide +kernel
theorem dH_keep_22 : decode cH_keep 22 = .ok (.iaload, 1) := by decide +kernel
theorem dH_keep_23 : decode cH_keep 23 = .ok (.iconst 1, 1) := by decide +kernel
theorem dH_keep_24 : decode cH_keep 24 = .ok (.if_icmp .eq 4, 3) := by decide +kernel
theorem dH_keep_27 : decode cH_keep 27 = .ok (.return_, 1) := by decide +kernel
theorem dH_keep_28 : decode cH_keep 28 = .ok (.aload_n 0, 1) := by decide +kernel
theorem dH_keep_29 : decode cH_keep 29 = .ok (.getfield 35, 3) := by decide +kernel
theorem dH_keep_32 : decode cH_keep 32 = .ok (.iload_n 1, 1) := by decide +kernel
theorem dH_keep_33 : decode cH_keep 33 = .ok (.iconst 1, 1) := by decide +kernel
theorem dH_keep_34 : decode cH_keep 34 = .ok (.bastore, 1) := by decide +kernel
theorem dH_keep_35 : decode cH_keep 35 = .ok (.aload_n 0, 1) := by decide +kernel
theorem dH_keep_36 : decode cH_keep 36 = .ok (.getfield 38, 3) := by decide +kernel
theorem dH_keep_39 : decode cH_keep 39 = .ok (.aload_n 0, 1) := by decide +kernel
theorem dH_keep_40 : decode cH_keep 40 = .ok (.getfield 159, 3) := by decide +kernel
theorem dH_keep_43 : decode cH_keep 43 = .ok (.iload_n 1, 1) := by decide +kernel
theorem dH_keep_44 : decode cH_keep 44 = .ok (.iastore, 1) := by decide +kernel
theorem dH_keep_45 : decode cH_keep 45 = .ok (.aload_n 0, 1) := by decide +kernel
theorem dH_keep_46 : decode cH_keep 46 = .ok (.dup, 1) := by decide +kernel
theorem dH_keep_47 : decode cH_keep 47 = .ok (.getfield 159, 3) := by decide +kernel
theorem dH_keep_50 : decode cH_keep 50 = .ok (.iconst 1, 1) := by decide +kernel
theorem dH_keep_51 : decode cH_keep 51 = .ok (.iadd, 1) := by decide +kernel
theorem dH_keep_52 : decode cH_keep 52 = .ok (.putfield 159, 3) := by decide +kernel
theorem dH_keep_55 : decode cH_keep 55 = .ok (.return_, 1) := by decide +kernel
theorem dH_remove_0 : decode cH_remove 0 = .ok (.aload_n 0, 1) := by decide +kernel
theorem dH_remove_1 : decode cH_remove 1 = .ok (.getfield 9, 3) := by decide +kernel
theorem dH_remove_4 : decode cH_remove 4 = .ok (.iload_n 1, 1) := by decide +kernel
theorem dH_remove_5 : decode cH_remove 5 = .ok (.iconst 0, 1) := by decide +kernel
theorem dH_remove_6 : decode cH_remove 6 = .ok (.bastore, 1) := by decide +kernel
theorem dH_remove_7 : decode cH_remove 7 = .ok (.iconst 0, 1) := by decide +kernel
theorem dH_remove_8 : decode cH_remove 8 = .ok (.istore_n 2, 1) := by decide +kernel
theorem dH_remove_9 : decode cH_remove 9 = .ok (.iload_n 2, 1) := by decide +kernel
theorem dH_remove_10 : decode cH_remove 10 = .ok (.iconst 2, 1) := by decide +kernel
theorem dH_remove_11 : decode cH_remove 11 = .ok (.if_icmp .ge 20, 3) := by decide +kernel
theorem dH_remove_14 : decode cH_remove 14 = .ok (.aload_n 0, 1) := by decide +kernel
theorem dH_remove_15 : decode cH_remove 15 = .ok (.getfield 20, 3) := by decide +kernel
theorem dH_remove_18 : decode cH_remove 18 = .ok (.iconst 2, 1) := by decide +kernel
theorem dH_remove_19 : decode cH_remove 19 = .ok (.iload_n 1, 1) := by decide +kernel
theorem dH_remove_20 : decode cH_remove 20 = .ok (.imul, 1) := by decide +kernel
theorem dH_remove_21 : decode cH_remove 21 = .ok (.iload_n 2, 1) := by decide +kernel
theorem dH_remove_22 : decode cH_remove 22 = .ok (.iadd, 1) := by decide +kernel
theorem dH_remove_23 : decode cH_remove 23 = .ok (.iconst (-1), 1) := by decide +kernel
theorem dH_remove_24 : decode cH_remove 24 = .ok (.iastore, 1) := by decide +kernel
theorem dH_remove_25 : decode cH_remove 25 = .ok (.iinc 2 1, 3) := by decide +kernel
theorem dH_remove_28 : decode cH_remove 28 = .ok (.goto (-19), 3) := by decide +kernel
theorem dH_remove_31 : decode cH_remove 31 = .ok (.return_, 1) := by decide +kernel
theorem dH_isBare_0 : decode cH_isBare 0 = .ok (.iload_n 1, 1) := by decide +kernel
theorem dH_isBare_1 : decode cH_isBare 1 = .ok (.invokestatic 116, 3) := by decide +kernel
theorem dH_isBare_4 : decode cH_isBare 4 = .ok (.istore_n 2, 1) := by decide +kernel
theorem dH_isBare_5 : decode cH_isBare 5 = .ok (.iload_n 2, 1) := by decide +kernel
theorem dH_isBare_6 : decode cH_isBare 6 = .ok (.istore_n 3, 1) := by decide +kernel
theorem dH_isBare_7 : decode cH_isBare 7 = .ok (.iload_n 3, 1) := by decide +kernel
theorem dH_isBare_8 : decode cH_isBare 8 = .ok (.iload_n 2, 1) := by decide +kernel
theorem dH_isBare_9 : decode cH_isBare 9 = .ok (.iconst 4, 1) := by decide +kernel
theorem dH_isBare_10 : decode cH_isBare 10 = .ok (.iadd, 1) := by decide +kernel
theorem dH_isBare_11 : decode cH_isBare 11 = .ok (.if_icmp .ge 20, 3) := by decide +kernel
theorem dH_isBare_14 : decode cH_isBare 14 = .ok (.aload_n 0, 1) := by decide +kernel
theorem dH_isBare_15 : decode cH_isBare 15 = .ok (.getfield 9, 3) := by decide +kernel
theorem dH_isBare_18 : decode cH_isBare 18 = .ok (.iload_n 3, 1) := by decide +kernel
theorem dH_isBare_19 : decode cH_isBare 19 = .ok (.baload, 1) := by decide +kernel
theorem dH_isBare_20 : decode cH_isBare 20 = .ok (.ifCond .eq 5, 3) := by decide +kernel
theorem dH_isBare_23 : decode cH_isBare 23 = .ok (.iconst 0, 1) := by decide +kernel
theorem dH_isBare_24 : decode cH_isBare 24 = .ok (.ireturn, 1) := by decide +kernel
theorem dH_isBare_25 : decode cH_isBare 25 = .ok (.iinc 3 1, 3) := by decide +kernel
theorem dH_isBare_28 : decode cH_isBare 28 = .ok (.goto (-21), 3) := by decide +kernel
theorem dH_isBare_31 : decode cH_isBare 31 = .ok (.iconst 1, 1) := by decide +kernel
theorem dH_isBare_32 : decode cH_isBare 32 = .ok (.ireturn, 1) := by decide +kernel
theorem dH_takePlace_0 : decode cH_takePlace 0 = .ok (.aload_n 0, 1) := by decide +kernel
theorem dH_takePlace_1 : decode cH_takePlace 1 = .ok (.invokevirtual 165, 3) := by decide +kernel
theorem dH_takePlace_4 : decode cH_takePlace 4 = .ok (.istore_n 2, 1) := by decide +kernel
theorem dH_takePlace_5 : decode cH_takePlace 5 = .ok (.iload_n 2, 1) := by decide +kernel
theorem dH_takePlace_6 : decode cH_takePlace 6 = .ok (.iconst (-1), 1) := by decide +kernel
theorem dH_takePlace_7 : decode cH_takePlace 7 = .ok (.if_icmp .ne 21, 3) := by decide +kernel
theorem dH_takePlace_10 : decode cH_takePlace 10 = .ok (.aload_n 0, 1) := by decide +kernel
theorem dH_takePlace_11 : decode cH_takePlace 11 = .ok (.invokevirtual 168, 3) := by decide +kernel
theorem dH_takePlace_14 : decode cH_takePlace 14 = .ok (.istore_n 2, 1) := by decide +kernel
theorem dH_takePlace_15 : decode cH_takePlace 15 = .ok (.iload_n 2, 1) := by decide +kernel
theorem dH_takePlace_16 : decode cH_takePlace 16 = .ok (.iconst (-1), 1) := by decide +kernel
theorem dH_takePlace_17 : decode cH_takePlace 17 = .ok (.if_icmp .eq 11, 3) := by decide +kernel
theorem dH_takePlace_20 : decode cH_takePlace 20 = .ok (.iload_n 1, 1) := by decide +kernel
theorem dH_takePlace_21 : decode cH_takePlace 21 = .ok (.ifCond .eq 7, 3) := by decide +kernel
theorem dH_takePlace_24 : decode cH_takePlace 24 = .ok (.aload_n 0, 1) := by decide +kernel
theorem dH_takePlace_25 : decode cH_takePlace 25 = .ok (.invokevirtual 119, 3) := by decide +kernel
theorem dH_takePlace_28 : decode cH_takePlace 28 = .ok (.iload_n 2, 1) := by decide +kernel
theorem dH_takePlace_29 : decode cH_takePlace 29 = .ok (.iconst (-1), 1) := by decide +kernel
theorem dH_takePlace_30 : decode cH_takePlace 30 = .ok (.if_icmp .eq 8, 3) := by decide +kernel
theorem dH_takePlace_33 : decode cH_takePlace 33 = .ok (.aload_n 0, 1) := by decide +kernel
theorem dH_takePlace_34 : decode cH_takePlace 34 = .ok (.iload_n 2, 1) := by decide +kernel
theorem dH_takePlace_35 : decode cH_takePlace 35 = .ok (.invokevirtual 171, 3) := by decide +kernel
theorem dH_takePlace_38 : decode cH_takePlace 38 = .ok (.iload_n 2, 1) := by decide +kernel
theorem dH_takePlace_39 : decode cH_takePlace 39 = .ok (.ireturn, 1) := by decide +kernel
theorem dH_takePlaceThoroughly_0 : decode cH_takePlaceThoroughly 0 = .ok (.aload_n 0, 1) := by decide +kernel
theorem dH_takePlaceThoroughly_1 : decode cH_takePlaceThoroughly 1 = .ok (.invokevirtual 97, 3) := by decide +kernel
theorem dH_takePlaceThoroughly_4 : decode cH_takePlaceThoroughly 4 = .ok (.aload_n 0, 1) := by decide +kernel
theorem dH_takePlaceThoroughly_5 : decode cH_takePlaceThoroughly 5 = .ok (.invokevirtual 59, 3) := by decide +kernel
theorem dH_takePlaceThoroughly_8 : decode cH_takePlaceThoroughly 8 = .ok (.pop, 1) := by decide +kernel
theorem dH_takePlaceThoroughly_9 : decode cH_takePlaceThoroughly 9 = .ok (.aload_n 0, 1) := by decide +kernel
theorem dH_takePlaceThoroughly_10 : decode cH_takePlaceThoroughly 10 = .ok (.iconst 0, 1) := by decide +kernel
theorem dH_takePlaceThoroughly_11 : decode cH_takePlaceThoroughly 11 = .ok (.invokevirtual 55, 3) := by decide +kernel
theorem dH_takePlaceThoroughly_14 : decode cH_takePlaceThoroughly 14 = .ok (.istore_n 1, 1) := by decide +kernel
theorem dH_takePlaceThoroughly_15 : decode cH_takePlaceThoroughly 15 = .ok (.aload_n 0, 1) := by decide +kernel
theorem dH_takePlaceThoroughly_16 : decode cH_takePlaceThoroughly 16 = .ok (.iload_n 1, 1) := by decide +kernel
theorem dH_takePlaceThoroughly_17 : decode cH_takePlaceThoroughly 17 = .ok (.iconst (-1), 1) := by decide +kernel
theorem dH_takePlaceThoroughly_18 : decode cH_takePlaceThoroughly 18 = .ok (.if_icmp .ne 7, 3) := by decide +kernel
theorem dH_takePlaceThoroughly_21 : decode cH_takePlaceThoroughly 21 = .ok (.iconst (-1), 1) := by decide +kernel
theorem dH_takePlaceThoroughly_22 : decode cH_takePlaceThoroughly 22 = .ok (.goto 7, 3) := by decide +kernel
theorem dH_takePlaceThoroughly_25 : decode cH_takePlaceThoroughly 25 = .ok (.iload_n 1, 1) := by decide +kernel
theorem dH_takePlaceThoroughly_26 : decode cH_takePlaceThoroughly 26 = .ok (.invokestatic 79, 3) := by decide +kernel
theorem dH_takePlaceThoroughly_29 : decode cH_takePlaceThoroughly 29 = .ok (.invokevirtual 94, 3) := by decide +kernel
theorem dH_takePlaceThoroughly_32 : decode cH_takePlaceThoroughly 32 = .ok (.pop, 1) := by decide +kernel
theorem dH_takePlaceThoroughly_33 : decode cH_takePlaceThoroughly 33 = .ok (.iload_n 1, 1) := by decide +kernel
theorem dH_takePlaceThoroughly_34 : decode cH_takePlaceThoroughly 34 = .ok (.ireturn, 1) := by decide +kernel
theorem dH_freePlaceOnPagesIn_0 : decode cH_freePlaceOnPagesIn 0 = .ok (.iconst 0, 1) := by decide +kernel
theorem dH_freePlaceOnPagesIn_1 : decode cH_freePlaceOnPagesIn 1 = .ok (.istore_n 1, 1) := by decide +kernel
theorem dH_freePlaceOnPagesIn_2 : decode cH_freePlaceOnPagesIn 2 = .ok (.iload_n 1, 1) := by decide +kernel
theorem dH_freePlaceOnPagesIn_3 : decode cH_freePlaceOnPagesIn 3 = .ok (.bipush 32, 2) := by decide +kernel
theorem dH_freePlaceOnPagesIn_5 : decode cH_freePlaceOnPagesIn 5 = .ok (.if_icmp .ge 33, 3) := by decide +kernel
theorem dH_freePlaceOnPagesIn_8 : decode cH_freePlaceOnPagesIn 8 = .ok (.aload_n 0, 1) := by decide +kernel
theorem dH_freePlaceOnPagesIn_9 : decode cH_freePlaceOnPagesIn 9 = .ok (.getfield 9, 3) := by decide +kernel
theorem dH_freePlaceOnPagesIn_12 : decode cH_freePlaceOnPagesIn 12 = .ok (.iload_n 1, 1) := by decide +kernel
theorem dH_freePlaceOnPagesIn_13 : decode cH_freePlaceOnPagesIn 13 = .ok (.baload, 1) := by decide +kernel
theorem dH_freePlaceOnPagesIn_14 : decode cH_freePlaceOnPagesIn 14 = .ok (.ifCond .ne 18, 3) := by decide +kernel
theorem dH_freePlaceOnPagesIn_17 : decode cH_freePlaceOnPagesIn 17 = .ok (.aload_n 0, 1) := by decide +kernel
theorem dH_freePlaceOnPagesIn_18 : decode cH_freePlaceOnPagesIn 18 = .ok (.getfield 26, 3) := by decide +kernel
theorem dH_freePlaceOnPagesIn_21 : decode cH_freePlaceOnPagesIn 21 = .ok (.iload_n 1, 1) := by decide +kernel
theorem dH_freePlaceOnPagesIn_22 : decode cH_freePlaceOnPagesIn 22 = .ok (.invokestatic 79, 3) := by decide +kernel
theorem dH_freePlaceOnPagesIn_25 : decode cH_freePlaceOnPagesIn 25 = .ok (.iaload, 1) := by decide +kernel
theorem dH_freePlaceOnPagesIn_26 : decode cH_freePlaceOnPagesIn 26 = .ok (.iconst 1, 1) := by decide +kernel
theorem dH_freePlaceOnPagesIn_27 : decode cH_freePlaceOnPagesIn 27 = .ok (.if_icmp .ne 5, 3) := by decide +kernel
theorem dH_freePlaceOnPagesIn_30 : decode cH_freePlaceOnPagesIn 30 = .ok (.iload_n 1, 1) := by decide +kernel
theorem dH_freePlaceOnPagesIn_31 : decode cH_freePlaceOnPagesIn 31 = .ok (.ireturn, 1) := by decide +kernel
theorem dH_freePlaceOnPagesIn_32 : decode cH_freePlaceOnPagesIn 32 = .ok (.iinc 1 1, 3) := by decide +kernel
theorem dH_freePlaceOnPagesIn_35 : decode cH_freePlaceOnPagesIn 35 = .ok (.goto (-33), 3) := by decide +kernel
theorem dH_freePlaceOnPagesIn_38 : decode cH_freePlaceOnPagesIn 38 = .ok (.iconst (-1), 1) := by decide +kernel
theorem dH_freePlaceOnPagesIn_39 : decode cH_freePlaceOnPagesIn 39 = .ok (.ireturn, 1) := by decide +kernel
theorem dH_placeOnEmptyPage_0 : decode cH_placeOnEmptyPage 0 = .ok (.iconst 0, 1) := by decide +kernel
theorem dH_placeOnEmptyPage_1 : decode cH_placeOnEmptyPage 1 = .ok (.istore_n 1, 1) := by decide +kernel
theorem dH_placeOnEmptyPage_2 : decode cH_placeOnEmptyPage 2 = .ok (.iload_n 1, 1) := by decide +kernel
theorem dH_placeOnEmptyPage_3 : decode cH_placeOnEmptyPage 3 = .ok (.bipush 8, 2) := by decide +kernel
theorem dH_placeOnEmptyPage_5 : decode cH_placeOnEmptyPage 5 = .ok (.if_icmp .ge 23, 3) := by decide +kernel
theorem dH_placeOnEmptyPage_8 : decode cH_placeOnEmptyPage 8 = .ok (.aload_n 0, 1) := by decide +kernel
theorem dH_placeOnEmptyPage_9 : decode cH_placeOnEmptyPage 9 = .ok (.getfield 26, 3) := by decide +kernel
theorem dH_placeOnEmptyPage_12 : decode cH_placeOnEmptyPage 12 = .ok (.iload_n 1, 1) := by decide +kernel
theorem dH_placeOnEmptyPage_13 : decode cH_placeOnEmptyPage 13 = .ok (.iaload, 1) := by decide +kernel
theorem dH_placeOnEmptyPage_14 : decode cH_placeOnEmptyPage 14 = .ok (.ifCond .ne 8, 3) := by decide +kernel
theorem dH_placeOnEmptyPage_17 : decode cH_placeOnEmptyPage 17 = .ok (.iload_n 1, 1) := by decide +kernel
theorem dH_placeOnEmptyPage_18 : decode cH_placeOnEmptyPage 18 = .ok (.invokestatic 116, 3) := by decide +kernel
theorem dH_placeOnEmptyPage_21 : decode cH_placeOnEmptyPage 21 = .ok (.ireturn, 1) := by decide +kernel
theorem dH_placeOnEmptyPage_22 : decode cH_placeOnEmptyPage 22 = .ok (.iinc 1 1, 3) := by decide +kernel
theorem dH_placeOnEmptyPage_25 : decode cH_placeOnEmptyPage 25 = .ok (.goto (-23), 3) := by decide +kernel
theorem dH_placeOnEmptyPage_28 : decode cH_placeOnEmptyPage 28 = .ok (.iconst (-1), 1) := by decide +kernel
theorem dH_placeOnEmptyPage_29 : decode cH_placeOnEmptyPage 29 = .ok (.ireturn, 1) := by decide +kernel
theorem dH_occupy_0 : decode cH_occupy 0 = .ok (.iload_n 1, 1) := by decide +kernel
theorem dH_occupy_1 : decode cH_occupy 1 = .ok (.invokestatic 79, 3) := by decide +kernel
theorem dH_occupy_4 : decode cH_occupy 4 = .ok (.istore_n 2, 1) := by decide +kernel
theorem dH_occupy_5 : decode cH_occupy 5 = .ok (.aload_n 0, 1) := by decide +kernel
theorem dH_occupy_6 : decode cH_occupy 6 = .ok (.getfield 26, 3) := by decide +kernel
theorem dH_occupy_9 : decode cH_occupy 9 = .ok (.iload_n 2, 1) := by decide +kernel
theorem dH_occupy_10 : decode cH_occupy 10 = .ok (.iaload, 1) := by decide +kernel
theorem dH_occupy_11 : decode cH_occupy 11 = .ok (.ifCond .ne 17, 3) := by decide +kernel
theorem dH_occupy_14 : decode cH_occupy 14 = .ok (.aload_n 0, 1) := by decide +kernel
theorem dH_occupy_15 : decode cH_occupy 15 = .ok (.getfield 26, 3) := by decide +kernel
theorem dH_occupy_18 : decode cH_occupy 18 = .ok (.iload_n 2, 1) := by decide +kernel
theorem dH_occupy_19 : decode cH_occupy 19 = .ok (.iconst 1, 1) := by decide +kernel
theorem dH_occupy_20 : decode cH_occupy 20 = .ok (.iastore, 1) := by decide +kernel
theorem dH_occupy_21 : decode cH_occupy 21 = .ok (.aload_n 0, 1) := by decide +kernel
theorem dH_occupy_22 : decode cH_occupy 22 = .ok (.getfield 32, 3) := by decide +kernel
theorem dH_occupy_25 : decode cH_occupy 25 = .ok (.iload_n 2, 1) := by decide +kernel
theorem dH_occupy_26 : decode cH_occupy 26 = .ok (.iconst 0, 1) := by decide +kernel
theorem dH_occupy_27 : decode cH_occupy 27 = .ok (.iastore, 1) := by decide +kernel
theorem dH_occupy_28 : decode cH_occupy 28 = .ok (.aload_n 0, 1) := by decide +kernel
theorem dH_occupy_29 : decode cH_occupy 29 = .ok (.getfield 29, 3) := by decide +kernel
theorem dH_occupy_32 : decode cH_occupy 32 = .ok (.iload_n 2, 1) := by decide +kernel
theorem dH_occupy_33 : decode cH_occupy 33 = .ok (.iconst 1, 1) := by decide +kernel
theorem dH_occupy_34 : decode cH_occupy 34 = .ok (.bastore, 1) := by decide +kernel
theorem dH_occupy_35 : decode cH_occupy 35 = .ok (.aload_n 0, 1) := by decide +kernel
theorem dH_occupy_36 : decode cH_occupy 36 = .ok (.getfield 9, 3) := by decide +kernel
theorem dH_occupy_39 : decode cH_occupy 39 = .ok (.iload_n 1, 1) := by decide +kernel
theorem dH_occupy_40 : decode cH_occupy 40 = .ok (.iconst 1, 1) := by decide +kernel
theorem dH_occupy_41 : decode cH_occupy 41 = .ok (.bastore, 1) := by decide +kernel
theorem dH_occupy_42 : decode cH_occupy 42 = .ok (.return_, 1) := by decide +kernel
