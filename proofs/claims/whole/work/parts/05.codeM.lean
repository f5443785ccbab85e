-- decode rows: written by wip/whole/names.py
theorem dM_init_0 : decode cM_init 0 = .ok (.aload_n 0, 1) := by decide +kernel
theorem dM_init_1 : decode cM_init 1 = .ok (.invokespecial 1, 3) := by decide +kernel
theorem dM_init_4 : decode cM_init 4 = .ok (.aload_n 0, 1) := by decide +kernel
theorem dM_init_5 : decode cM_init 5 = .ok (.bipush 32, 2) := by decide +kernel
theorem dM_init_7 : decode cM_init 7 = .ok (.newarray .boolean, 2) := by decide +kernel
theorem dM_init_9 : decode cM_init 9 = .ok (.putfield 7, 3) := by decide +kernel
theorem dM_init_12 : decode cM_init 12 = .ok (.aload_n 0, 1) := by decide +kernel
theorem dM_init_13 : decode cM_init 13 = .ok (.bipush 32, 2) := by decide +kernel
theorem dM_init_15 : decode cM_init 15 = .ok (.newarray .int, 2) := by decide +kernel
theorem dM_init_17 : decode cM_init 17 = .ok (.putfield 13, 3) := by decide +kernel
theorem dM_init_20 : decode cM_init 20 = .ok (.aload_n 0, 1) := by decide +kernel
theorem dM_init_21 : decode cM_init 21 = .ok (.bipush 64, 2) := by decide +kernel
theorem dM_init_23 : decode cM_init 23 = .ok (.newarray .int, 2) := by decide +kernel
theorem dM_init_25 : decode cM_init 25 = .ok (.putfield 17, 3) := by decide +kernel
theorem dM_init_28 : decode cM_init 28 = .ok (.aload_n 0, 1) := by decide +kernel
theorem dM_init_29 : decode cM_init 29 = .ok (.bipush 32, 2) := by decide +kernel
theorem dM_init_31 : decode cM_init 31 = .ok (.newarray .boolean, 2) := by decide +kernel
theorem dM_init_33 : decode cM_init 33 = .ok (.putfield 20, 3) := by decide +kernel
theorem dM_init_36 : decode cM_init 36 = .ok (.aload_n 0, 1) := by decide +kernel
theorem dM_init_37 : decode cM_init 37 = .ok (.bipush 32, 2) := by decide +kernel
theorem dM_init_39 : decode cM_init 39 = .ok (.newarray .boolean, 2) := by decide +kernel
theorem dM_init_41 : decode cM_init 41 = .ok (.putfield 23, 3) := by decide +kernel
theorem dM_init_44 : decode cM_init 44 = .ok (.aload_n 0, 1) := by decide +kernel
theorem dM_init_45 : decode cM_init 45 = .ok (.bipush 8, 2) := by decide +kernel
theorem dM_init_47 : decode cM_init 47 = .ok (.newarray .int, 2) := by decide +kernel
theorem dM_init_49 : decode cM_init 49 = .ok (.putfield 26, 3) := by decide +kernel
theorem dM_init_52 : decode cM_init 52 = .ok (.aload_n 0, 1) := by decide +kernel
theorem dM_init_53 : decode cM_init 53 = .ok (.bipush 8, 2) := by decide +kernel
theorem dM_init_55 : decode cM_init 55 = .ok (.newarray .boolean, 2) := by decide +kernel
theorem dM_init_57 : decode cM_init 57 = .ok (.putfield 29, 3) := by decide +kernel
theorem dM_init_60 : decode cM_init 60 = .ok (.aload_n 0, 1) := by decide +kernel
theorem dM_init_61 : decode cM_init 61 = .ok (.iconst 4, 1) := by decide +kernel
theorem dM_init_62 : decode cM_init 62 = .ok (.newarray .int, 2) := by decide +kernel
theorem dM_init_64 : decode cM_init 64 = .ok (.putfield 32, 3) := by decide +kernel
theorem dM_init_67 : decode cM_init 67 = .ok (.aload_n 0, 1) := by decide +kernel
theorem dM_init_68 : decode cM_init 68 = .ok (.iconst 4, 1) := by decide +kernel
theorem dM_init_69 : decode cM_init 69 = .ok (.putfield 35, 3) := by decide +kernel
theorem dM_init_72 : decode cM_init 72 = .ok (.iconst 0, 1) := by decide +kernel
theorem dM_init_73 : decode cM_init 73 = .ok (.istore_n 1, 1) := by decide +kernel
theorem dM_init_74 : decode cM_init 74 = .ok (.iload_n 1, 1) := by decide +kernel
theorem dM_init_75 : decode cM_init 75 = .ok (.iconst 4, 1) := by decide +kernel
theorem dM_init_76 : decode cM_init 76 = .ok (.if_icmp .ge 16, 3) := by decide +kernel
theorem dM_init_79 : decode cM_init 79 = .ok (.aload_n 0, 1) := by decide +kernel
theorem dM_init_80 : decode cM_init 80 = .ok (.getfield 32, 3) := by decide +kernel
theorem dM_init_83 : decode cM_init 83 = .ok (.iload_n 1, 1) := by decide +kernel
theorem dM_init_84 : decode cM_init 84 = .ok (.iconst (-1), 1) := by decide +kernel
theorem dM_init_85 : decode cM_init 85 = .ok (.iastore, 1) := by decide +kernel
theorem dM_init_86 : decode cM_init 86 = .ok (.iinc 1 1, 3) := by decide +kernel
theorem dM_init_89 : decode cM_init 89 = .ok (.goto (-15), 3) := by decide +kernel
theorem dM_init_92 : decode cM_init 92 = .ok (.return_, 1) := by decide +kernel
theorem dM_thrown_0 : decode cM_thrown 0 = .ok (.aload_n 0, 1) := by decide +kernel
theorem dM_thrown_1 : decode cM_thrown 1 = .ok (.getfield 39, 3) := by decide +kernel
theorem dM_thrown_4 : decode cM_thrown 4 = .ok (.ireturn, 1) := by decide +kernel
theorem dM_fails_0 : decode cM_fails 0 = .ok (.aload_n 0, 1) := by decide +kernel
theorem dM_fails_1 : decode cM_fails 1 = .ok (.iload_n 1, 1) := by decide +kernel
theorem dM_fails_2 : decode cM_fails 2 = .ok (.putfield 39, 3) := by decide +kernel
theorem dM_fails_5 : decode cM_fails 5 = .ok (.iconst 0, 1) := by decide +kernel
theorem dM_fails_6 : decode cM_fails 6 = .ok (.ireturn, 1) := by decide +kernel
theorem dM_register_0 : decode cM_register 0 = .ok (.iload_n 0, 1) := by decide +kernel
theorem dM_register_1 : decode cM_register 1 = .ok (.ifCond .lt 12, 3) := by decide +kernel
theorem dM_register_4 : decode cM_register 4 = .ok (.iload_n 0, 1) := by decide +kernel
theorem dM_register_5 : decode cM_register 5 = .ok (.iconst 4, 1) := by decide +kernel
theorem dM_register_6 : decode cM_register 6 = .ok (.if_icmp .ge 7, 3) := by decide +kernel
theorem dM_register_9 : decode cM_register 9 = .ok (.iconst 1, 1) := by decide +kernel
theorem dM_register_10 : decode cM_register 10 = .ok (.goto 4, 3) := by decide +kernel
theorem dM_register_13 : decode cM_register 13 = .ok (.iconst 0, 1) := by decide +kernel
theorem dM_register_14 : decode cM_register 14 = .ok (.ireturn, 1) := by decide +kernel
theorem dM_refers_0 : decode cM_refers 0 = .ok (.iconst 0, 1) := by decide +kernel
theorem dM_refers_1 : decode cM_refers 1 = .ok (.istore_n 3, 1) := by decide +kernel
theorem dM_refers_2 : decode cM_refers 2 = .ok (.iconst 4, 1) := by decide +kernel
theorem dM_refers_3 : decode cM_refers 3 = .ok (.iload_n 1, 1) := by decide +kernel
theorem dM_refers_4 : decode cM_refers 4 = .ok (.imul, 1) := by decide +kernel
theorem dM_refers_5 : decode cM_refers 5 = .ok (.istore 4, 2) := by decide +kernel
theorem dM_refers_7 : decode cM_refers 7 = .ok (.iload 4, 2) := by decide +kernel
theorem dM_refers_9 : decode cM_refers 9 = .ok (.iconst 4, 1) := by decide +kernel
theorem dM_refers_10 : decode cM_refers 10 = .ok (.iload_n 1, 1) := by decide +kernel
theorem dM_refers_11 : decode cM_refers 11 = .ok (.imul, 1) := by decide +kernel
theorem dM_refers_12 : decode cM_refers 12 = .ok (.iconst 4, 1) := by decide +kernel
theorem dM_refers_13 : decode cM_refers 13 = .ok (.iadd, 1) := by decide +kernel
theorem dM_refers_14 : decode cM_refers 14 = .ok (.if_icmp .ge 75, 3) := by decide +kernel
theorem dM_refers_17 : decode cM_refers 17 = .ok (.iconst 2, 1) := by decide +kernel
theorem dM_refers_18 : decode cM_refers 18 = .ok (.iload 4, 2) := by decide +kernel
theorem dM_refers_20 : decode cM_refers 20 = .ok (.imul, 1) := by decide +kernel
theorem dM_refers_21 : decode cM_refers 21 = .ok (.istore 5, 2) := by decide +kernel
theorem dM_refers_23 : decode cM_refers 23 = .ok (.iload 5, 2) := by decide +kernel
theorem dM_refers_25 : decode cM_refers 25 = .ok (.iconst 2, 1) := by decide +kernel
theorem dM_refers_26 : decode cM_refers 26 = .ok (.iload 4, 2) := by decide +kernel
theorem dM_refers_28 : decode cM_refers 28 = .ok (.imul, 1) := by decide +kernel
theorem dM_refers_29 : decode cM_refers 29 = .ok (.iconst 2, 1) := by decide +kernel
theorem dM_refers_30 : decode cM_refers 30 = .ok (.iadd, 1) := by decide +kernel
theorem dM_refers_31 : decode cM_refers 31 = .ok (.if_icmp .ge 52, 3) := by decide +kernel
theorem dM_refers_34 : decode cM_refers 34 = .ok (.iload_n 3, 1) := by decide +kernel
theorem dM_refers_35 : decode cM_refers 35 = .ok (.ifCond .ne 36, 3) := by decide +kernel
theorem dM_refers_38 : decode cM_refers 38 = .ok (.aload_n 0, 1) := by decide +kernel
theorem dM_refers_39 : decode cM_refers 39 = .ok (.getfield 7, 3) := by decide +kernel
theorem dM_refers_42 : decode cM_refers 42 = .ok (.iload 4, 2) := by decide +kernel
theorem dM_refers_44 : decode cM_refers 44 = .ok (.baload, 1) := by decide +kernel
theorem dM_refers_45 : decode cM_refers 45 = .ok (.ifCond .eq 30, 3) := by decide +kernel
theorem dM_refers_48 : decode cM_refers 48 = .ok (.aload_n 0, 1) := by decide +kernel
theorem dM_refers_49 : decode cM_refers 49 = .ok (.getfield 17, 3) := by decide +kernel
theorem dM_refers_52 : decode cM_refers 52 = .ok (.iload 5, 2) := by decide +kernel
theorem dM_refers_54 : decode cM_refers 54 = .ok (.iaload, 1) := by decide +kernel
theorem dM_refers_55 : decode cM_refers 55 = .ok (.ifCond .lt 20, 3) := by decide +kernel
theorem dM_refers_58 : decode cM_refers 58 = .ok (.aload_n 0, 1) := by decide +kernel
theorem dM_refers_59 : decode cM_refers 59 = .ok (.getfield 17, 3) := by decide +kernel
theorem dM_refers_62 : decode cM_refers 62 = .ok (.iload 5, 2) := by decide +kernel
theorem dM_refers_64 : decode cM_refers 64 = .ok (.iaload, 1) := by decide +kernel
theorem dM_refers_65 : decode cM_refers 65 = .ok (.iconst 4, 1) := by decide +kernel
theorem dM_refers_66 : decode cM_refers 66 = .ok (.idiv, 1) := by decide +kernel
theorem dM_refers_67 : decode cM_refers 67 = .ok (.iload_n 2, 1) := by decide +kernel
theorem dM_refers_68 : decode cM_refers 68 = .ok (.if_icmp .ne 7, 3) := by decide +kernel
theorem dM_refers_71 : decode cM_refers 71 = .ok (.iconst 1, 1) := by decide +kernel
theorem dM_refers_72 : decode cM_refers 72 = .ok (.goto 4, 3) := by decide +kernel
theorem dM_refers_75 : decode cM_refers 75 = .ok (.iconst 0, 1) := by decide +kernel
theorem dM_refers_76 : decode cM_refers 76 = .ok (.istore_n 3, 1) := by decide +kernel
theorem dM_refers_77 : decode cM_refers 77 = .ok (.iinc 5 1, 3) := by decide +kernel
theorem dM_refers_80 : decode cM_refers 80 = .ok (.goto (-57), 3) := by decide +kernel
theorem dM_refers_83 : decode cM_refers 83 = .ok (.iinc 4 1, 3) := by decide +kernel
theorem dM_refers_86 : decode cM_refers 86 = .ok (.goto (-79), 3) := by decide +kernel
theorem dM_refers_89 : decode cM_refers 89 = .ok (.iload_n 3, 1) := by decide +kernel
theorem dM_refers_90 : decode cM_refers 90 = .ok (.ifCond .eq 12, 3) := by decide +kernel
theorem dM_refers_93 : decode cM_refers 93 = .ok (.iload_n 1, 1) := by decide +kernel
theorem dM_refers_94 : decode cM_refers 94 = .ok (.iload_n 2, 1) := by decide +kernel
theorem dM_refers_95 : decode cM_refers 95 = .ok (.if_icmp .eq 7, 3) := by decide +kernel
theorem dM_refers_98 : decode cM_refers 98 = .ok (.iconst 1, 1) := by decide +kernel
theorem dM_refers_99 : decode cM_refers 99 = .ok (.goto 4, 3) := by decide +kernel
theorem dM_refers_102 : decode cM_refers 102 = .ok (.iconst 0, 1) := by decide +kernel
theorem dM_refers_103 : decode cM_refers 103 = .ok (.ireturn, 1) := by decide +kernel
theorem dM_counted_0 : decode cM_counted 0 = .ok (.iconst 0, 1) := by decide +kernel
theorem dM_counted_1 : decode cM_counted 1 = .ok (.istore_n 2, 1) := by decide +kernel
theorem dM_counted_2 : decode cM_counted 2 = .ok (.iconst 0, 1) := by decide +kernel
theorem dM_counted_3 : decode cM_counted 3 = .ok (.istore_n 3, 1) := by decide +kernel
theorem dM_counted_4 : decode cM_counted 4 = .ok (.iload_n 3, 1) := by decide +kernel
theorem dM_counted_5 : decode cM_counted 5 = .ok (.bipush 8, 2) := by decide +kernel
theorem dM_counted_7 : decode cM_counted 7 = .ok (.if_icmp .ge 36, 3) := by decide +kernel
theorem dM_counted_10 : decode cM_counted 10 = .ok (.aload_n 0, 1) := by decide +kernel
theorem dM_counted_11 : decode cM_counted 11 = .ok (.getfield 26, 3) := by decide +kernel
theorem dM_counted_14 : decode cM_counted 14 = .ok (.iload_n 3, 1) := by decide +kernel
theorem dM_counted_15 : decode cM_counted 15 = .ok (.iaload, 1) := by decide +kernel
theorem dM_counted_16 : decode cM_counted 16 = .ok (.iconst 2, 1) := by decide +kernel
theorem dM_counted_17 : decode cM_counted 17 = .ok (.if_icmp .ne 18, 3) := by decide +kernel
theorem dM_counted_20 : decode cM_counted 20 = .ok (.aload_n 0, 1) := by decide +kernel
theorem dM_counted_21 : decode cM_counted 21 = .ok (.iload_n 3, 1) := by decide +kernel
theorem dM_counted_22 : decode cM_counted 22 = .ok (.iload_n 1, 1) := by decide +kernel
theorem dM_counted_23 : decode cM_counted 23 = .ok (.invokevirtual 42, 3) := by decide +kernel
theorem dM_counted_26 : decode cM_counted 26 = .ok (.ifCond .eq 9, 3) := by decide +kernel
theorem dM_counted_29 : decode cM_counted 29 = .ok (.iload_n 2, 1) := by decide +kernel
theorem dM_counted_30 : decode cM_counted 30 = .ok (.iconst 1, 1) := by decide +kernel
theorem dM_counted_31 : decode cM_counted 31 = .ok (.iadd, 1) := by decide +kernel
theorem dM_counted_32 : decode cM_counted 32 = .ok (.goto 4, 3) := by decide +kernel
theorem dM_counted_35 : decode cM_counted 35 = .ok (.iload_n 2, 1) := by decide +kernel
theorem dM_counted_36 : decode cM_counted 36 = .ok (.istore_n 2, 1) := by decide +kernel
theorem dM_counted_37 : decode cM_counted 37 = .ok (.iinc 3 1, 3) := by decide +kernel
theorem dM_counted_40 : decode cM_counted 40 = .ok (.goto (-36), 3) := by decide +kernel
theorem dM_counted_43 : decode cM_counted 43 = .ok (.iload_n 2, 1) := by decide +kernel
theorem dM_counted_44 : decode cM_counted 44 = .ok (.ireturn, 1) := by decide +kernel
theorem dM_pagesIn_0 : decode cM_pagesIn 0 = .ok (.iconst 0, 1) := by decide +kernel
theorem dM_pagesIn_1 : decode cM_pagesIn 1 = .ok (.istore_n 1, 1) := by decide +kernel
theorem dM_pagesIn_2 : decode cM_pagesIn 2 = .ok (.iconst 0, 1) := by decide +kernel
theorem dM_pagesIn_3 : decode cM_pagesIn 3 = .ok (.istore_n 2, 1) := by decide +kernel
theorem dM_pagesIn_4 : decode cM_pagesIn 4 = .ok (.iload_n 2, 1) := by decide +kernel
theorem dM_pagesIn_5 : decode cM_pagesIn 5 = .ok (.bipush 8, 2) := by decide +kernel
theorem dM_pagesIn_7 : decode cM_pagesIn 7 = .ok (.if_icmp .ge 27, 3) := by decide +kernel
theorem dM_pagesIn_10 : decode cM_pagesIn 10 = .ok (.aload_n 0, 1) := by decide +kernel
theorem dM_pagesIn_11 : decode cM_pagesIn 11 = .ok (.getfield 26, 3) := by decide +kernel
theorem dM_pagesIn_14 : decode cM_pagesIn 14 = .ok (.iload_n 2, 1) := by decide +kernel
theorem dM_pagesIn_15 : decode cM_pagesIn 15 = .ok (.iaload, 1) := by decide +kernel
theorem dM_pagesIn_16 : decode cM_pagesIn 16 = .ok (.iconst 1, 1) := by decide +kernel
theorem dM_pagesIn_17 : decode cM_pagesIn 17 = .ok (.if_icmp .ne 9, 3) := by decide +kernel
theorem dM_pagesIn_20 : decode cM_pagesIn 20 = .ok (.iload_n 1, 1) := by decide +kernel
theorem dM_pagesIn_21 : decode cM_pagesIn 21 = .ok (.iconst 1, 1) := by decide +kernel
theorem dM_pagesIn_22 : decode cM_pagesIn 22 = .ok (.iadd, 1) := by decide +kernel
theorem dM_pagesIn_23 : decode cM_pagesIn 23 = .ok (.goto 4, 3) := by decide +kernel
theorem dM_pagesIn_26 : decode cM_pagesIn 26 = .ok (.iload_n 1, 1) := by decide +kernel
theorem dM_pagesIn_27 : decode cM_pagesIn 27 = .ok (.istore_n 1, 1) := by decide +kernel
theorem dM_pagesIn_28 : decode cM_pagesIn 28 = .ok (.iinc 2 1, 3) := by decide +kernel
theorem dM_pagesIn_31 : decode cM_pagesIn 31 = .ok (.goto (-27), 3) := by decide +kernel
theorem dM_pagesIn_34 : decode cM_pagesIn 34 = .ok (.iload_n 1, 1) := by decide +kernel
theorem dM_pagesIn_35 : decode cM_pagesIn 35 = .ok (.ireturn, 1) := by decide +kernel
theorem dM_unmark_0 : decode cM_unmark 0 = .ok (.iconst 4, 1) := by decide +kernel
theorem dM_unmark_1 : decode cM_unmark 1 = .ok (.iload_n 1, 1) := by decide +kernel
theorem dM_unmark_2 : decode cM_unmark 2 = .ok (.imul, 1) := by decide +kernel
theorem dM_unmark_3 : decode cM_unmark 3 = .ok (.istore_n 2, 1) := by decide +kernel
theorem dM_unmark_4 : decode cM_unmark 4 = .ok (.iload_n 2, 1) := by decide +kernel
theorem dM_unmark_5 : decode cM_unmark 5 = .ok (.iconst 4, 1) := by decide +kernel
theorem dM_unmark_6 : decode cM_unmark 6 = .ok (.iload_n 1, 1) := by decide +kernel
theorem dM_unmark_7 : decode cM_unmark 7 = .ok (.imul, 1) := by decide +kernel
theorem dM_unmark_8 : decode cM_unmark 8 = .ok (.iconst 4, 1) := by decide +kernel
theorem dM_unmark_9 : decode cM_unmark 9 = .ok (.iadd, 1) := by decide +kernel
theorem dM_unmark_10 : decode cM_unmark 10 = .ok (.if_icmp .ge 16, 3) := by decide +kernel
theorem dM_unmark_13 : decode cM_unmark 13 = .ok (.aload_n 0, 1) := by decide +kernel
theorem dM_unmark_14 : decode cM_unmark 14 = .ok (.getfield 20, 3) := by decide +kernel
theorem dM_unmark_17 : decode cM_unmark 17 = .ok (.iload_n 2, 1) := by decide +kernel
theorem dM_unmark_18 : decode cM_unmark 18 = .ok (.iconst 0, 1) := by decide +kernel
theorem dM_unmark_19 : decode cM_unmark 19 = .ok (.bastore, 1) := by decide +kernel
theorem dM_unmark_20 : decode cM_unmark 20 = .ok (.iinc 2 1, 3) := by decide +kernel
theorem dM_unmark_23 : decode cM_unmark 23 = .ok (.goto (-19), 3) := by decide +kernel
theorem dM_unmark_26 : decode cM_unmark 26 = .ok (.return_, 1) := by decide +kernel
theorem dM_putOut_0 : decode cM_putOut 0 = .ok (.iconst 4, 1) := by decide +kernel
theorem dM_putOut_1 : decode cM_putOut 1 = .ok (.iload_n 1, 1) := by decide +kernel
theorem dM_putOut_2 : decode cM_putOut 2 = .ok (.imul, 1) := by decide +kernel
theorem dM_putOut_3 : decode cM_putOut 3 = .ok (.istore_n 2, 1) := by decide +kernel
theorem dM_putOut_4 : decode cM_putOut 4 = .ok (.iload_n 2, 1) := by decide +kernel
theorem dM_putOut_5 : decode cM_putOut 5 = .ok (.iconst 4, 1) := by decide +kernel
theorem dM_putOut_6 : decode cM_putOut 6 = .ok (.iload_n 1, 1) := by decide +kernel
theorem dM_putOut_7 : decode cM_putOut 7 = .ok (.imul, 1) := by decide +kernel
theorem dM_putOut_8 : decode cM_putOut 8 = .ok (.iconst 4, 1) := by decide +kernel
theorem dM_putOut_9 : decode cM_putOut 9 = .ok (.iadd, 1) := by decide +kernel
theorem dM_putOut_10 : decode cM_putOut 10 = .ok (.if_icmp .ge 70, 3) := by decide +kernel
theorem dM_putOut_13 : decode cM_putOut 13 = .ok (.aload_n 0, 1) := by decide +kernel
theorem dM_putOut_14 : decode cM_putOut 14 = .ok (.getfield 20, 3) := by decide +kernel
theorem dM_putOut_17 : decode cM_putOut 17 = .ok (.iload_n 2, 1) := by decide +kernel
theorem dM_putOut_18 : decode cM_putOut 18 = .ok (.aload_n 0, 1) := by decide +kernel
theorem dM_putOut_19 : decode cM_putOut 19 = .ok (.getfield 7, 3) := by decide +kernel
theorem dM_putOut_22 : decode cM_putOut 22 = .ok (.iload_n 2, 1) := by decide +kernel
theorem dM_putOut_23 : decode cM_putOut 23 = .ok (.baload, 1) := by decide +kernel
theorem dM_putOut_24 : decode cM_putOut 24 = .ok (.bastore, 1) := by decide +kernel
theorem dM_putOut_25 : decode cM_putOut 25 = .ok (.iconst 2, 1) := by decide +kernel
theorem dM_putOut_26 : decode cM_putOut 26 = .ok (.iload_n 2, 1) := by decide +kernel
theorem dM_putOut_27 : decode cM_putOut 27 = .ok (.imul, 1) := by decide +kernel
theorem dM_putOut_28 : decode cM_putOut 28 = .ok (.istore_n 3, 1) := by decide +kernel
theorem dM_putOut_29 : decode cM_putOut 29 = .ok (.iload_n 3, 1) := by decide +kernel
theorem dM_putOut_30 : decode cM_putOut 30 = .ok (.iconst 2, 1) := by decide +kernel
theorem dM_putOut_31 : decode cM_putOut 31 = .ok (.iload_n 2, 1) := by decide +kernel
theorem dM_putOut_32 : decode cM_putOut 32 = .ok (.imul, 1) := by decide +kernel
theorem dM_putOut_33 : decode cM_putOut 33 = .ok (.iconst 2, 1) := by decide +kernel
theorem dM_putOut_34 : decode cM_putOut 34 = .ok (.iadd, 1) := by decide +kernel
theorem dM_putOut_35 : decode cM_putOut 35 = .ok (.if_icmp .ge 39, 3) := by decide +kernel
theorem dM_putOut_38 : decode cM_putOut 38 = .ok (.aload_n 0, 1) := by decide +kernel
theorem dM_putOut_39 : decode cM_putOut 39 = .ok (.getfield 7, 3) := by decide +kernel
theorem dM_putOut_42 : decode cM_putOut 42 = .ok (.iload_n 2, 1) := by decide +kernel
theorem dM_putOut_43 : decode cM_putOut 43 = .ok (.baload, 1) := by decide +kernel
theorem dM_putOut_44 : decode cM_putOut 44 = .ok (.ifCond .eq 24, 3) := by decide +kernel
theorem dM_putOut_47 : decode cM_putOut 47 = .ok (.aload_n 0, 1) := by decide +kernel
theorem dM_putOut_48 : decode cM_putOut 48 = .ok (.getfield 17, 3) := by decide +kernel
theorem dM_putOut_51 : decode cM_putOut 51 = .ok (.iload_n 3, 1) := by decide +kernel
theorem dM_putOut_52 : decode cM_putOut 52 = .ok (.iaload, 1) := by decide +kernel
theorem dM_putOut_53 : decode cM_putOut 53 = .ok (.ifCond .lt 15, 3) := by decide +kernel
theorem dM_putOut_56 : decode cM_putOut 56 = .ok (.aload_n 0, 1) := by decide +kernel
theorem dM_putOut_57 : decode cM_putOut 57 = .ok (.getfield 20, 3) := by decide +kernel
theorem dM_putOut_60 : decode cM_putOut 60 = .ok (.aload_n 0, 1) := by decide +kernel
theorem dM_putOut_61 : decode cM_putOut 61 = .ok (.getfield 17, 3) := by decide +kernel
theorem dM_putOut_64 : decode cM_putOut 64 = .ok (.iload_n 3, 1) := by decide +kernel
theorem dM_putOut_65 : decode cM_putOut 65 = .ok (.iaload, 1) := by decide +kernel
theorem dM_putOut_66 : decode cM_putOut 66 = .ok (.iconst 1, 1) := by decide +kernel
theorem dM_putOut_67 : decode cM_putOut 67 = .ok (.bastore, 1) := by decide +kernel
theorem dM_putOut_68 : decode cM_putOut 68 = .ok (.iinc 3 1, 3) := by decide +kernel
theorem dM_putOut_71 : decode cM_putOut 71 = .ok (.goto (-42), 3) := by decide +kernel
theorem dM_putOut_74 : decode cM_putOut 74 = .ok (.iinc 2 1, 3) := by decide +kernel
theorem dM_putOut_77 : decode cM_putOut 77 = .ok (.goto (-73), 3) := by decide +kernel
theorem dM_putOut_80 : decode cM_putOut 80 = .ok (.aload_n 0, 1) := by decide +kernel
theorem dM_putOut_81 : decode cM_putOut 81 = .ok (.getfield 26, 3) := by decide +kernel
theorem dM_putOut_84 : decode cM_putOut 84 = .ok (.iload_n 1, 1) := by decide +kernel
theorem dM_putOut_85 : decode cM_putOut 85 = .ok (.iconst 2, 1) := by decide +kernel
theorem dM_putOut_86 : decode cM_putOut 86 = .ok (.iastore, 1) := by decide +kernel
theorem dM_putOut_87 : decode cM_putOut 87 = .ok (.aload_n 0, 1) := by decide +kernel
theorem dM_putOut_88 : decode cM_putOut 88 = .ok (.getfield 29, 3) := by decide +kernel
theorem dM_putOut_91 : decode cM_putOut 91 = .ok (.iload_n 1, 1) := by decide +kernel
theorem dM_putOut_92 : decode cM_putOut 92 = .ok (.iconst 0, 1) := by decide +kernel
theorem dM_putOut_93 : decode cM_putOut 93 = .ok (.bastore, 1) := by decide +kernel
theorem dM_putOut_94 : decode cM_putOut 94 = .ok (.return_, 1) := by decide +kernel
theorem dM_choose_0 : decode cM_choose 0 = .ok (.aload_n 0, 1) := by decide +kernel
theorem dM_choose_1 : decode cM_choose 1 = .ok (.getfield 26, 3) := by decide +kernel
theorem dM_choose_4 : decode cM_choose 4 = .ok (.aload_n 0, 1) := by decide +kernel
theorem dM_choose_5 : decode cM_choose 5 = .ok (.getfield 46, 3) := by decide +kernel
theorem dM_choose_8 : decode cM_choose 8 = .ok (.iaload, 1) := by decide +kernel
theorem dM_choose_9 : decode cM_choose 9 = .ok (.iconst 1, 1) := by decide +kernel
theorem dM_choose_10 : decode cM_choose 10 = .ok (.if_icmp .ne 23, 3) := by decide +kernel
theorem dM_choose_13 : decode cM_choose 13 = .ok (.aload_n 0, 1) := by decide +kernel
theorem dM_choose_14 : decode cM_choose 14 = .ok (.getfield 46, 3) := by decide +kernel
theorem dM_choose_17 : decode cM_choose 17 = .ok (.iload_n 1, 1) := by decide +kernel
theorem dM_choose_18 : decode cM_choose 18 = .ok (.if_icmp .eq 15, 3) := by decide +kernel
theorem dM_choose_21 : decode cM_choose 21 = .ok (.aload_n 0, 1) := by decide +kernel
theorem dM_choose_22 : decode cM_choose 22 = .ok (.getfield 29, 3) := by decide +kernel
theorem dM_choose_25 : decode cM_choose 25 = .ok (.aload_n 0, 1) := by decide +kernel
theorem dM_choose_26 : decode cM_choose 26 = .ok (.getfield 46, 3) := by decide +kernel
theorem dM_choose_29 : decode cM_choose 29 = .ok (.baload, 1) := by decide +kernel
theorem dM_choose_30 : decode cM_choose 30 = .ok (.ifCond .eq 50, 3) := by decide +kernel
theorem dM_choose_33 : decode cM_choose 33 = .ok (.aload_n 0, 1) := by decide +kernel
theorem dM_choose_34 : decode cM_choose 34 = .ok (.getfield 26, 3) := by decide +kernel
theorem dM_choose_37 : decode cM_choose 37 = .ok (.aload_n 0, 1) := by decide +kernel
theorem dM_choose_38 : decode cM_choose 38 = .ok (.getfield 46, 3) := by decide +kernel
theorem dM_choose_41 : decode cM_choose 41 = .ok (.iaload, 1) := by decide +kernel
theorem dM_choose_42 : decode cM_choose 42 = .ok (.iconst 1, 1) := by decide +kernel
theorem dM_choose_43 : decode cM_choose 43 = .ok (.if_icmp .ne 21, 3) := by decide +kernel
theorem dM_choose_46 : decode cM_choose 46 = .ok (.aload_n 0, 1) := by decide +kernel
theorem dM_choose_47 : decode cM_choose 47 = .ok (.getfield 46, 3) := by decide +kernel
theorem dM_choose_50 : decode cM_choose 50 = .ok (.iload_n 1, 1) := by decide +kernel
theorem dM_choose_51 : decode cM_choose 51 = .ok (.if_icmp .eq 13, 3) := by decide +kernel
theorem dM_choose_54 : decode cM_choose 54 = .ok (.aload_n 0, 1) := by decide +kernel
theorem dM_choose_55 : decode cM_choose 55 = .ok (.getfield 29, 3) := by decide +kernel
theorem dM_choose_58 : decode cM_choose 58 = .ok (.aload_n 0, 1) := by decide +kernel
theorem dM_choose_59 : decode cM_choose 59 = .ok (.getfield 46, 3) := by decide +kernel
theorem dM_choose_62 : decode cM_choose 62 = .ok (.iconst 0, 1) := by decide +kernel
theorem dM_choose_63 : decode cM_choose 63 = .ok (.bastore, 1) := by decide +kernel
theorem dM_choose_64 : decode cM_choose 64 = .ok (.aload_n 0, 1) := by decide +kernel
theorem dM_choose_65 : decode cM_choose 65 = .ok (.aload_n 0, 1) := by decide +kernel
theorem dM_choose_66 : decode cM_choose 66 = .ok (.getfield 46, 3) := by decide +kernel
theorem dM_choose_69 : decode cM_choose 69 = .ok (.iconst 1, 1) := by decide +kernel
theorem dM_choose_70 : decode cM_choose 70 = .ok (.iadd, 1) := by decide +kernel
theorem dM_choose_71 : decode cM_choose 71 = .ok (.bipush 8, 2) := by decide +kernel
theorem dM_choose_73 : decode cM_choose 73 = .ok (.irem, 1) := by decide +kernel
theorem dM_choose_74 : decode cM_choose 74 = .ok (.putfield 46, 3) := by decide +kernel
theorem dM_choose_77 : decode cM_choose 77 = .ok (.goto (-77), 3) := by decide +kernel
theorem dM_choose_80 : decode cM_choose 80 = .ok (.aload_n 0, 1) := by decide +kernel
theorem dM_choose_81 : decode cM_choose 81 = .ok (.getfield 46, 3) := by decide +kernel
theorem dM_choose_84 : decode cM_choose 84 = .ok (.istore_n 2, 1) := by decide +kernel
theorem dM_choose_85 : decode cM_choose 85 = .ok (.aload_n 0, 1) := by decide +kernel
theorem dM_choose_86 : decode cM_choose 86 = .ok (.aload_n 0, 1) := by decide +kernel
theorem dM_choose_87 : decode cM_choose 87 = .ok (.getfield 46, 3) := by decide +kernel
theorem dM_choose_90 : decode cM_choose 90 = .ok (.iconst 1, 1) := by decide +kernel
theorem dM_choose_91 : decode cM_choose 91 = .ok (.iadd, 1) := by decide +kernel
theorem dM_choose_92 : decode cM_choose 92 = .ok (.bipush 8, 2) := by decide +kernel
theorem dM_choose_94 : decode cM_choose 94 = .ok (.irem, 1) := by decide +kernel
theorem dM_choose_95 : decode cM_choose 95 = .ok (.putfield 46, 3) := by decide +kernel
theorem dM_choose_98 : decode cM_choose 98 = .ok (.iload_n 2, 1) := by decide +kernel
theorem dM_choose_99 : decode cM_choose 99 = .ok (.ireturn, 1) := by decide +kernel
theorem dM_putOutOne_0 : decode cM_putOutOne 0 = .ok (.aload_n 0, 1) := by decide +kernel
theorem dM_putOutOne_1 : decode cM_putOutOne 1 = .ok (.iload_n 1, 1) := by decide +kernel
theorem dM_putOutOne_2 : decode cM_putOutOne 2 = .ok (.invokevirtual 49, 3) := by decide +kernel
theorem dM_putOutOne_5 : decode cM_putOutOne 5 = .ok (.istore_n 2, 1) := by decide +kernel
theorem dM_putOutOne_6 : decode cM_putOutOne 6 = .ok (.aload_n 0, 1) := by decide +kernel
theorem dM_putOutOne_7 : decode cM_putOutOne 7 = .ok (.iload_n 2, 1) := by decide +kernel
theorem dM_putOutOne_8 : decode cM_putOutOne 8 = .ok (.invokevirtual 53, 3) := by decide +kernel
theorem dM_putOutOne_11 : decode cM_putOutOne 11 = .ok (.return_, 1) := by decide +kernel
theorem dM_bringIn_0 : decode cM_bringIn 0 = .ok (.aload_n 0, 1) := by decide +kernel
theorem dM_bringIn_1 : decode cM_bringIn 1 = .ok (.invokevirtual 57, 3) := by decide +kernel
theorem dM_bringIn_4 : decode cM_bringIn 4 = .ok (.aload_n 0, 1) := by decide +kernel
theorem dM_bringIn_5 : decode cM_bringIn 5 = .ok (.getfield 35, 3) := by decide +kernel
theorem dM_bringIn_8 : decode cM_bringIn 8 = .ok (.if_icmp .ne 8, 3) := by decide +kernel
theorem dM_bringIn_11 : decode cM_bringIn 11 = .ok (.aload_n 0, 1) := by decide +kernel
theorem dM_bringIn_12 : decode cM_bringIn 12 = .ok (.iconst (-1), 1) := by decide +kernel
theorem dM_bringIn_13 : decode cM_bringIn 13 = .ok (.invokevirtual 61, 3) := by decide +kernel
theorem dM_bringIn_16 : decode cM_bringIn 16 = .ok (.aload_n 0, 1) := by decide +kernel
theorem dM_bringIn_17 : decode cM_bringIn 17 = .ok (.getfield 26, 3) := by decide +kernel
theorem dM_bringIn_20 : decode cM_bringIn 20 = .ok (.iload_n 1, 1) := by decide +kernel
theorem dM_bringIn_21 : decode cM_bringIn 21 = .ok (.iconst 1, 1) := by decide +kernel
theorem dM_bringIn_22 : decode cM_bringIn 22 = .ok (.iastore, 1) := by decide +kernel
theorem dM_bringIn_23 : decode cM_bringIn 23 = .ok (.aload_n 0, 1) := by decide +kernel
theorem dM_bringIn_24 : decode cM_bringIn 24 = .ok (.getfield 29, 3) := by decide +kernel
theorem dM_bringIn_27 : decode cM_bringIn 27 = .ok (.iload_n 1, 1) := by decide +kernel
theorem dM_bringIn_28 : decode cM_bringIn 28 = .ok (.iconst 0, 1) := by decide +kernel
theorem dM_bringIn_29 : decode cM_bringIn 29 = .ok (.bastore, 1) := by decide +kernel
theorem dM_bringIn_30 : decode cM_bringIn 30 = .ok (.iconst 0, 1) := by decide +kernel
theorem dM_bringIn_31 : decode cM_bringIn 31 = .ok (.istore_n 2, 1) := by decide +kernel
theorem dM_bringIn_32 : decode cM_bringIn 32 = .ok (.iload_n 2, 1) := by decide +kernel
theorem dM_bringIn_33 : decode cM_bringIn 33 = .ok (.bipush 8, 2) := by decide +kernel
theorem dM_bringIn_35 : decode cM_bringIn 35 = .ok (.if_icmp .ge 56, 3) := by decide +kernel
theorem dM_bringIn_38 : decode cM_bringIn 38 = .ok (.iload_n 2, 1) := by decide +kernel
theorem dM_bringIn_39 : decode cM_bringIn 39 = .ok (.iload_n 1, 1) := by decide +kernel
theorem dM_bringIn_40 : decode cM_bringIn 40 = .ok (.if_icmp .eq 12, 3) := by decide +kernel
theorem dM_bringIn_43 : decode cM_bringIn 43 = .ok (.aload_n 0, 1) := by decide +kernel
theorem dM_bringIn_44 : decode cM_bringIn 44 = .ok (.iload_n 1, 1) := by decide +kernel
theorem dM_bringIn_45 : decode cM_bringIn 45 = .ok (.iload_n 2, 1) := by decide +kernel
theorem dM_bringIn_46 : decode cM_bringIn 46 = .ok (.invokevirtual 42, 3) := by decide +kernel
theorem dM_bringIn_49 : decode cM_bringIn 49 = .ok (.ifCond .eq 7, 3) := by decide +kernel
theorem dM_bringIn_52 : decode cM_bringIn 52 = .ok (.iconst 1, 1) := by decide +kernel
theorem dM_bringIn_53 : decode cM_bringIn 53 = .ok (.goto 4, 3) := by decide +kernel
theorem dM_bringIn_56 : decode cM_bringIn 56 = .ok (.iconst 0, 1) := by decide +kernel
theorem dM_bringIn_57 : decode cM_bringIn 57 = .ok (.istore_n 3, 1) := by decide +kernel
theorem dM_bringIn_58 : decode cM_bringIn 58 = .ok (.iload_n 3, 1) := by decide +kernel
theorem dM_bringIn_59 : decode cM_bringIn 59 = .ok (.ifCond .eq 26, 3) := by decide +kernel
theorem dM_bringIn_62 : decode cM_bringIn 62 = .ok (.aload_n 0, 1) := by decide +kernel
theorem dM_bringIn_63 : decode cM_bringIn 63 = .ok (.getfield 26, 3) := by decide +kernel
theorem dM_bringIn_66 : decode cM_bringIn 66 = .ok (.iload_n 2, 1) := by decide +kernel
theorem dM_bringIn_67 : decode cM_bringIn 67 = .ok (.iaload, 1) := by decide +kernel
theorem dM_bringIn_68 : decode cM_bringIn 68 = .ok (.iconst 1, 1) := by decide +kernel
theorem dM_bringIn_69 : decode cM_bringIn 69 = .ok (.if_icmp .ne 16, 3) := by decide +kernel
theorem dM_bringIn_72 : decode cM_bringIn 72 = .ok (.aload_n 0, 1) := by decide +kernel
theorem dM_bringIn_73 : decode cM_bringIn 73 = .ok (.iload_n 2, 1) := by decide +kernel
theorem dM_bringIn_74 : decode cM_bringIn 74 = .ok (.invokevirtual 64, 3) := by decide +kernel
theorem dM_bringIn_77 : decode cM_bringIn 77 = .ok (.ifCond .ne 8, 3) := by decide +kernel
theorem dM_bringIn_80 : decode cM_bringIn 80 = .ok (.aload_n 0, 1) := by decide +kernel
theorem dM_bringIn_81 : decode cM_bringIn 81 = .ok (.iload_n 2, 1) := by decide +kernel
theorem dM_bringIn_82 : decode cM_bringIn 82 = .ok (.invokevirtual 67, 3) := by decide +kernel
theorem dM_bringIn_85 : decode cM_bringIn 85 = .ok (.iinc 2 1, 3) := by decide +kernel
theorem dM_bringIn_88 : decode cM_bringIn 88 = .ok (.goto (-56), 3) := by decide +kernel
theorem dM_bringIn_91 : decode cM_bringIn 91 = .ok (.return_, 1) := by decide +kernel
theorem dM_touch_0 : decode cM_touch 0 = .ok (.aload_n 0, 1) := by decide +kernel
theorem dM_touch_1 : decode cM_touch 1 = .ok (.getfield 26, 3) := by decide +kernel
theorem dM_touch_4 : decode cM_touch 4 = .ok (.iload_n 1, 1) := by decide +kernel
theorem dM_touch_5 : decode cM_touch 5 = .ok (.iaload, 1) := by decide +kernel
theorem dM_touch_6 : decode cM_touch 6 = .ok (.iconst 2, 1) := by decide +kernel
theorem dM_touch_7 : decode cM_touch 7 = .ok (.if_icmp .ne 18, 3) := by decide +kernel
theorem dM_touch_10 : decode cM_touch 10 = .ok (.aload_n 0, 1) := by decide +kernel
theorem dM_touch_11 : decode cM_touch 11 = .ok (.dup, 1) := by decide +kernel
theorem dM_touch_12 : decode cM_touch 12 = .ok (.getfield 70, 3) := by decide +kernel
theorem dM_touch_15 : decode cM_touch 15 = .ok (.iconst 1, 1) := by decide +kernel
theorem dM_touch_16 : decode cM_touch 16 = .ok (.iadd, 1) := by decide +kernel
theorem dM_touch_17 : decode cM_touch 17 = .ok (.putfield 70, 3) := by decide +kernel
theorem dM_touch_20 : decode cM_touch 20 = .ok (.aload_n 0, 1) := by decide +kernel
theorem dM_touch_21 : decode cM_touch 21 = .ok (.iload_n 1, 1) := by decide +kernel
theorem dM_touch_22 : decode cM_touch 22 = .ok (.invokevirtual 73, 3) := by decide +kernel
theorem dM_touch_25 : decode cM_touch 25 = .ok (.aload_n 0, 1) := by decide +kernel
theorem dM_touch_26 : decode cM_touch 26 = .ok (.getfield 29, 3) := by decide +kernel
theorem dM_touch_29 : decode cM_touch 29 = .ok (.iload_n 1, 1) := by decide +kernel
theorem dM_touch_30 : decode cM_touch 30 = .ok (.iconst 1, 1) := by decide +kernel
theorem dM_touch_31 : decode cM_touch 31 = .ok (.bastore, 1) := by decide +kernel
theorem dM_touch_32 : decode cM_touch 32 = .ok (.return_, 1) := by decide +kernel
theorem dM_shrink_0 : decode cM_shrink 0 = .ok (.iconst 0, 1) := by decide +kernel
theorem dM_shrink_1 : decode cM_shrink 1 = .ok (.istore_n 2, 1) := by decide +kernel
theorem dM_shrink_2 : decode cM_shrink 2 = .ok (.aload_n 0, 1) := by decide +kernel
theorem dM_shrink_3 : decode cM_shrink 3 = .ok (.invokevirtual 57, 3) := by decide +kernel
theorem dM_shrink_6 : decode cM_shrink 6 = .ok (.aload_n 0, 1) := by decide +kernel
theorem dM_shrink_7 : decode cM_shrink 7 = .ok (.getfield 35, 3) := by decide +kernel
theorem dM_shrink_10 : decode cM_shrink 10 = .ok (.if_icmp .le 14, 3) := by decide +kernel
theorem dM_shrink_13 : decode cM_shrink 13 = .ok (.aload_n 0, 1) := by decide +kernel
theorem dM_shrink_14 : decode cM_shrink 14 = .ok (.iload_n 1, 1) := by decide +kernel
theorem dM_shrink_15 : decode cM_shrink 15 = .ok (.invokevirtual 61, 3) := by decide +kernel
theorem dM_shrink_18 : decode cM_shrink 18 = .ok (.iinc 2 1, 3) := by decide +kernel
theorem dM_shrink_21 : decode cM_shrink 21 = .ok (.goto (-19), 3) := by decide +kernel
theorem dM_shrink_24 : decode cM_shrink 24 = .ok (.iload_n 2, 1) := by decide +kernel
theorem dM_shrink_25 : decode cM_shrink 25 = .ok (.ireturn, 1) := by decide +kernel
theorem dM_held_0 : decode cM_held 0 = .ok (.aload_n 0, 1) := by decide +kernel
theorem dM_held_1 : decode cM_held 1 = .ok (.getfield 20, 3) := by decide +kernel
theorem dM_held_4 : decode cM_held 4 = .ok (.iload_n 1, 1) := by decide +kernel
theorem dM_held_5 : decode cM_held 5 = .ok (.baload, 1) := by decide +kernel
theorem dM_held_6 : decode cM_held 6 = .ok (.istore_n 2, 1) := by decide +kernel
theorem dM_held_7 : decode cM_held 7 = .ok (.iconst 0, 1) := by decide +kernel
theorem dM_held_8 : decode cM_held 8 = .ok (.istore_n 3, 1) := by decide +kernel
theorem dM_held_9 : decode cM_held 9 = .ok (.iload_n 3, 1) := by decide +kernel
theorem dM_held_10 : decode cM_held 10 = .ok (.iconst 4, 1) := by decide +kernel
theorem dM_held_11 : decode cM_held 11 = .ok (.if_icmp .ge 29, 3) := by decide +kernel
theorem dM_held_14 : decode cM_held 14 = .ok (.iload_n 2, 1) := by decide +kernel
theorem dM_held_15 : decode cM_held 15 = .ok (.ifCond .ne 13, 3) := by decide +kernel
theorem dM_held_18 : decode cM_held 18 = .ok (.aload_n 0, 1) := by decide +kernel
theorem dM_held_19 : decode cM_held 19 = .ok (.getfield 32, 3) := by decide +kernel
theorem dM_held_22 : decode cM_held 22 = .ok (.iload_n 3, 1) := by decide +kernel
theorem dM_held_23 : decode cM_held 23 = .ok (.iaload, 1) := by decide +kernel
theorem dM_held_24 : decode cM_held 24 = .ok (.iload_n 1, 1) := by decide +kernel
theorem dM_held_25 : decode cM_held 25 = .ok (.if_icmp .ne 7, 3) := by decide +kernel
theorem dM_held_28 : decode cM_held 28 = .ok (.iconst 1, 1) := by decide +kernel
theorem dM_held_29 : decode cM_held 29 = .ok (.goto 4, 3) := by decide +kernel
theorem dM_held_32 : decode cM_held 32 = .ok (.iconst 0, 1) := by decide +kernel
theorem dM_held_33 : decode cM_held 33 = .ok (.istore_n 2, 1) := by decide +kernel
theorem dM_held_34 : decode cM_held 34 = .ok (.iinc 3 1, 3) := by decide +kernel
theorem dM_held_37 : decode cM_held 37 = .ok (.goto (-28), 3) := by decide +kernel
theorem dM_held_40 : decode cM_held 40 = .ok (.iconst 0, 1) := by decide +kernel
theorem dM_held_41 : decode cM_held 41 = .ok (.istore_n 3, 1) := by decide +kernel
theorem dM_held_42 : decode cM_held 42 = .ok (.iload_n 3, 1) := by decide +kernel
theorem dM_held_43 : decode cM_held 43 = .ok (.bipush 64, 2) := by decide +kernel
theorem dM_held_45 : decode cM_held 45 = .ok (.if_icmp .ge 40, 3) := by decide +kernel
theorem dM_held_48 : decode cM_held 48 = .ok (.iload_n 2, 1) := by decide +kernel
theorem dM_held_49 : decode cM_held 49 = .ok (.ifCond .ne 24, 3) := by decide +kernel
theorem dM_held_52 : decode cM_held 52 = .ok (.aload_n 0, 1) := by decide +kernel
theorem dM_held_53 : decode cM_held 53 = .ok (.getfield 23, 3) := by decide +kernel
theorem dM_held_56 : decode cM_held 56 = .ok (.iload_n 3, 1) := by decide +kernel
theorem dM_held_57 : decode cM_held 57 = .ok (.iconst 2, 1) := by decide +kernel
theorem dM_held_58 : decode cM_held 58 = .ok (.idiv, 1) := by decide +kernel
theorem dM_held_59 : decode cM_held 59 = .ok (.baload, 1) := by decide +kernel
theorem dM_held_60 : decode cM_held 60 = .ok (.ifCond .eq 17, 3) := by decide +kernel
theorem dM_held_63 : decode cM_held 63 = .ok (.aload_n 0, 1) := by decide +kernel
theorem dM_held_64 : decode cM_held 64 = .ok (.getfield 17, 3) := by decide +kernel
theorem dM_held_67 : decode cM_held 67 = .ok (.iload_n 3, 1) := by decide +kernel
theorem dM_held_68 : decode cM_held 68 = .ok (.iaload, 1) := by decide +kernel
theorem dM_held_69 : decode cM_held 69 = .ok (.iload_n 1, 1) := by decide +kernel
theorem dM_held_70 : decode cM_held 70 = .ok (.if_icmp .ne 7, 3) := by decide +kernel
theorem dM_held_73 : decode cM_held 73 = .ok (.iconst 1, 1) := by decide +kernel
theorem dM_held_74 : decode cM_held 74 = .ok (.goto 4, 3) := by decide +kernel
theorem dM_held_77 : decode cM_held 77 = .ok (.iconst 0, 1) := by decide +kernel
theorem dM_held_78 : decode cM_held 78 = .ok (.istore_n 2, 1) := by decide +kernel
theorem dM_held_79 : decode cM_held 79 = .ok (.iinc 3 1, 3) := by decide +kernel
theorem dM_held_82 : decode cM_held 82 = .ok (.goto (-40), 3) := by decide +kernel
theorem dM_held_85 : decode cM_held 85 = .ok (.iload_n 2, 1) := by decide +kernel
theorem dM_held_86 : decode cM_held 86 = .ok (.ireturn, 1) := by decide +kernel
theorem dM_within_0 : decode cM_within 0 = .ok (.iconst 0, 1) := by decide +kernel
theorem dM_within_1 : decode cM_within 1 = .ok (.istore_n 1, 1) := by decide +kernel
theorem dM_within_2 : decode cM_within 2 = .ok (.iload_n 1, 1) := by decide +kernel
theorem dM_within_3 : decode cM_within 3 = .ok (.bipush 32, 2) := by decide +kernel
theorem dM_within_5 : decode cM_within 5 = .ok (.if_icmp .ge 16, 3) := by decide +kernel
theorem dM_within_8 : decode cM_within 8 = .ok (.aload_n 0, 1) := by decide +kernel
theorem dM_within_9 : decode cM_within 9 = .ok (.getfield 23, 3) := by decide +kernel
theorem dM_within_12 : decode cM_within 12 = .ok (.iload_n 1, 1) := by decide +kernel
theorem dM_within_13 : decode cM_within 13 = .ok (.iconst 0, 1) := by decide +kernel
theorem dM_within_14 : decode cM_within 14 = .ok (.bastore, 1) := by decide +kernel
theorem dM_within_15 : decode cM_within 15 = .ok (.iinc 1 1, 3) := by decide +kernel
theorem dM_within_18 : decode cM_within 18 = .ok (.goto (-16), 3) := by decide +kernel
theorem dM_within_21 : decode cM_within 21 = .ok (.iconst 1, 1) := by decide +kernel
theorem dM_within_22 : decode cM_within 22 = .ok (.istore_n 1, 1) := by decide +kernel
theorem dM_within_23 : decode cM_within 23 = .ok (.iload_n 1, 1) := by decide +kernel
theorem dM_within_24 : decode cM_within 24 = .ok (.ifCond .eq 69, 3) := by decide +kernel
theorem dM_within_27 : decode cM_within 27 = .ok (.iconst 0, 1) := by decide +kernel
theorem dM_within_28 : decode cM_within 28 = .ok (.istore_n 1, 1) := by decide +kernel
theorem dM_within_29 : decode cM_within 29 = .ok (.iconst 0, 1) := by decide +kernel
theorem dM_within_30 : decode cM_within 30 = .ok (.istore_n 2, 1) := by decide +kernel
theorem dM_within_31 : decode cM_within 31 = .ok (.iload_n 2, 1) := by decide +kernel
theorem dM_within_32 : decode cM_within 32 = .ok (.bipush 32, 2) := by decide +kernel
theorem dM_within_34 : decode cM_within 34 = .ok (.if_icmp .ge 56, 3) := by decide +kernel
theorem dM_within_37 : decode cM_within 37 = .ok (.aload_n 0, 1) := by decide +kernel
theorem dM_within_38 : decode cM_within 38 = .ok (.getfield 23, 3) := by decide +kernel
theorem dM_within_41 : decode cM_within 41 = .ok (.iload_n 2, 1) := by decide +kernel
theorem dM_within_42 : decode cM_within 42 = .ok (.baload, 1) := by decide +kernel
theorem dM_within_43 : decode cM_within 43 = .ok (.ifCond .ne 41, 3) := by decide +kernel
theorem dM_within_46 : decode cM_within 46 = .ok (.aload_n 0, 1) := by decide +kernel
theorem dM_within_47 : decode cM_within 47 = .ok (.getfield 7, 3) := by decide +kernel
theorem dM_within_50 : decode cM_within 50 = .ok (.iload_n 2, 1) := by decide +kernel
theorem dM_within_51 : decode cM_within 51 = .ok (.baload, 1) := by decide +kernel
theorem dM_within_52 : decode cM_within 52 = .ok (.ifCond .eq 32, 3) := by decide +kernel
theorem dM_within_55 : decode cM_within 55 = .ok (.aload_n 0, 1) := by decide +kernel
theorem dM_within_56 : decode cM_within 56 = .ok (.getfield 26, 3) := by decide +kernel
theorem dM_within_59 : decode cM_within 59 = .ok (.iload_n 2, 1) := by decide +kernel
theorem dM_within_60 : decode cM_within 60 = .ok (.iconst 4, 1) := by decide +kernel
theorem dM_within_61 : decode cM_within 61 = .ok (.idiv, 1) := by decide +kernel
theorem dM_within_62 : decode cM_within 62 = .ok (.iaload, 1) := by decide +kernel
theorem dM_within_63 : decode cM_within 63 = .ok (.iconst 1, 1) := by decide +kernel
theorem dM_within_64 : decode cM_within 64 = .ok (.if_icmp .ne 20, 3) := by decide +kernel
theorem dM_within_67 : decode cM_within 67 = .ok (.aload_n 0, 1) := by decide +kernel
theorem dM_within_68 : decode cM_within 68 = .ok (.iload_n 2, 1) := by decide +kernel
theorem dM_within_69 : decode cM_within 69 = .ok (.invokevirtual 76, 3) := by decide +kernel
theorem dM_within_72 : decode cM_within 72 = .ok (.ifCond .eq 12, 3) := by decide +kernel
theorem dM_within_75 : decode cM_within 75 = .ok (.aload_n 0, 1) := by decide +kernel
theorem dM_within_76 : decode cM_within 76 = .ok (.getfield 23, 3) := by decide +kernel
theorem dM_within_79 : decode cM_within 79 = .ok (.iload_n 2, 1) := by decide +kernel
theorem dM_within_80 : decode cM_within 80 = .ok (.iconst 1, 1) := by decide +kernel
theorem dM_within_81 : decode cM_within 81 = .ok (.bastore, 1) := by decide +kernel
theorem dM_within_82 : decode cM_within 82 = .ok (.iconst 1, 1) := by decide +kernel
theorem dM_within_83 : decode cM_within 83 = .ok (.istore_n 1, 1) := by decide +kernel
theorem dM_within_84 : decode cM_within 84 = .ok (.iinc 2 1, 3) := by decide +kernel
theorem dM_within_87 : decode cM_within 87 = .ok (.goto (-56), 3) := by decide +kernel
theorem dM_within_90 : decode cM_within 90 = .ok (.goto (-67), 3) := by decide +kernel
theorem dM_within_93 : decode cM_within 93 = .ok (.iconst 0, 1) := by decide +kernel
theorem dM_within_94 : decode cM_within 94 = .ok (.istore_n 2, 1) := by decide +kernel
theorem dM_within_95 : decode cM_within 95 = .ok (.iconst 0, 1) := by decide +kernel
theorem dM_within_96 : decode cM_within 96 = .ok (.istore_n 3, 1) := by decide +kernel
theorem dM_within_97 : decode cM_within 97 = .ok (.iload_n 3, 1) := by decide +kernel
theorem dM_within_98 : decode cM_within 98 = .ok (.bipush 32, 2) := by decide +kernel
theorem dM_within_100 : decode cM_within 100 = .ok (.if_icmp .ge 56, 3) := by decide +kernel
theorem dM_within_103 : decode cM_within 103 = .ok (.aload_n 0, 1) := by decide +kernel
theorem dM_within_104 : decode cM_within 104 = .ok (.getfield 7, 3) := by decide +kernel
theorem dM_within_107 : decode cM_within 107 = .ok (.iload_n 3, 1) := by decide +kernel
theorem dM_within_108 : decode cM_within 108 = .ok (.baload, 1) := by decide +kernel
theorem dM_within_109 : decode cM_within 109 = .ok (.ifCond .eq 41, 3) := by decide +kernel
theorem dM_within_112 : decode cM_within 112 = .ok (.aload_n 0, 1) := by decide +kernel
theorem dM_within_113 : decode cM_within 113 = .ok (.getfield 26, 3) := by decide +kernel
theorem dM_within_116 : decode cM_within 116 = .ok (.iload_n 3, 1) := by decide +kernel
theorem dM_within_117 : decode cM_within 117 = .ok (.iconst 4, 1) := by decide +kernel
theorem dM_within_118 : decode cM_within 118 = .ok (.idiv, 1) := by decide +kernel
theorem dM_within_119 : decode cM_within 119 = .ok (.iaload, 1) := by decide +kernel
theorem dM_within_120 : decode cM_within 120 = .ok (.iconst 1, 1) := by decide +kernel
theorem dM_within_121 : decode cM_within 121 = .ok (.if_icmp .ne 29, 3) := by decide +kernel
theorem dM_within_124 : decode cM_within 124 = .ok (.aload_n 0, 1) := by decide +kernel
theorem dM_within_125 : decode cM_within 125 = .ok (.getfield 23, 3) := by decide +kernel
theorem dM_within_128 : decode cM_within 128 = .ok (.iload_n 3, 1) := by decide +kernel
theorem dM_within_129 : decode cM_within 129 = .ok (.baload, 1) := by decide +kernel
theorem dM_within_130 : decode cM_within 130 = .ok (.ifCond .ne 20, 3) := by decide +kernel
theorem dM_within_133 : decode cM_within 133 = .ok (.aload_n 0, 1) := by decide +kernel
theorem dM_within_134 : decode cM_within 134 = .ok (.getfield 7, 3) := by decide +kernel
theorem dM_within_137 : decode cM_within 137 = .ok (.iload_n 3, 1) := by decide +kernel
theorem dM_within_138 : decode cM_within 138 = .ok (.iconst 0, 1) := by decide +kernel
theorem dM_within_139 : decode cM_within 139 = .ok (.bastore, 1) := by decide +kernel
theorem dM_within_140 : decode cM_within 140 = .ok (.aload_n 0, 1) := by decide +kernel
theorem dM_within_141 : decode cM_within 141 = .ok (.getfield 20, 3) := by decide +kernel
theorem dM_within_144 : decode cM_within 144 = .ok (.iload_n 3, 1) := by decide +kernel
theorem dM_within_145 : decode cM_within 145 = .ok (.iconst 0, 1) := by decide +kernel
theorem dM_within_146 : decode cM_within 146 = .ok (.bastore, 1) := by decide +kernel
theorem dM_within_147 : decode cM_within 147 = .ok (.iinc 2 1, 3) := by decide +kernel
theorem dM_within_150 : decode cM_within 150 = .ok (.iinc 3 1, 3) := by decide +kernel
theorem dM_within_153 : decode cM_within 153 = .ok (.goto (-56), 3) := by decide +kernel
theorem dM_within_156 : decode cM_within 156 = .ok (.iconst 0, 1) := by decide +kernel
theorem dM_within_157 : decode cM_within 157 = .ok (.istore_n 3, 1) := by decide +kernel
theorem dM_within_158 : decode cM_within 158 = .ok (.iload_n 3, 1) := by decide +kernel
theorem dM_within_159 : decode cM_within 159 = .ok (.bipush 8, 2) := by decide +kernel
theorem dM_within_161 : decode cM_within 161 = .ok (.if_icmp .ge 88, 3) := by decide +kernel
theorem dM_within_164 : decode cM_within 164 = .ok (.aload_n 0, 1) := by decide +kernel
theorem dM_within_165 : decode cM_within 165 = .ok (.getfield 26, 3) := by decide +kernel
theorem dM_within_168 : decode cM_within 168 = .ok (.iload_n 3, 1) := by decide +kernel
theorem dM_within_169 : decode cM_within 169 = .ok (.iaload, 1) := by decide +kernel
theorem dM_within_170 : decode cM_within 170 = .ok (.iconst 1, 1) := by decide +kernel
theorem dM_within_171 : decode cM_within 171 = .ok (.if_icmp .ne 7, 3) := by decide +kernel
theorem dM_within_174 : decode cM_within 174 = .ok (.iconst 1, 1) := by decide +kernel
theorem dM_within_175 : decode cM_within 175 = .ok (.goto 4, 3) := by decide +kernel
theorem dM_within_178 : decode cM_within 178 = .ok (.iconst 0, 1) := by decide +kernel
theorem dM_within_179 : decode cM_within 179 = .ok (.istore 4, 2) := by decide +kernel
theorem dM_within_181 : decode cM_within 181 = .ok (.iconst 4, 1) := by decide +kernel
theorem dM_within_182 : decode cM_within 182 = .ok (.iload_n 3, 1) := by decide +kernel
theorem dM_within_183 : decode cM_within 183 = .ok (.imul, 1) := by decide +kernel
theorem dM_within_184 : decode cM_within 184 = .ok (.istore 5, 2) := by decide +kernel
theorem dM_within_186 : decode cM_within 186 = .ok (.iload 5, 2) := by decide +kernel
theorem dM_within_188 : decode cM_within 188 = .ok (.iconst 4, 1) := by decide +kernel
theorem dM_within_189 : decode cM_within 189 = .ok (.iload_n 3, 1) := by decide +kernel
theorem dM_within_190 : decode cM_within 190 = .ok (.imul, 1) := by decide +kernel
theorem dM_within_191 : decode cM_within 191 = .ok (.iconst 4, 1) := by decide +kernel
theorem dM_within_192 : decode cM_within 192 = .ok (.iadd, 1) := by decide +kernel
theorem dM_within_193 : decode cM_within 193 = .ok (.if_icmp .ge 31, 3) := by decide +kernel
theorem dM_within_196 : decode cM_within 196 = .ok (.iload 4, 2) := by decide +kernel
theorem dM_within_198 : decode cM_within 198 = .ok (.ifCond .eq 17, 3) := by decide +kernel
theorem dM_within_201 : decode cM_within 201 = .ok (.aload_n 0, 1) := by decide +kernel
theorem dM_within_202 : decode cM_within 202 = .ok (.getfield 7, 3) := by decide +kernel
theorem dM_within_205 : decode cM_within 205 = .ok (.iload 5, 2) := by decide +kernel
theorem dM_within_207 : decode cM_within 207 = .ok (.baload, 1) := by decide +kernel
theorem dM_within_208 : decode cM_within 208 = .ok (.ifCond .ne 7, 3) := by decide +kernel
theorem dM_within_211 : decode cM_within 211 = .ok (.iconst 1, 1) := by decide +kernel
theorem dM_within_212 : decode cM_within 212 = .ok (.goto 4, 3) := by decide +kernel
theorem dM_within_215 : decode cM_within 215 = .ok (.iconst 0, 1) := by decide +kernel
theorem dM_within_216 : decode cM_within 216 = .ok (.istore 4, 2) := by decide +kernel
theorem dM_within_218 : decode cM_within 218 = .ok (.iinc 5 1, 3) := by decide +kernel
theorem dM_within_221 : decode cM_within 221 = .ok (.goto (-35), 3) := by decide +kernel
theorem dM_within_224 : decode cM_within 224 = .ok (.iload 4, 2) := by decide +kernel
theorem dM_within_226 : decode cM_within 226 = .ok (.ifCond .eq 17, 3) := by decide +kernel
theorem dM_within_229 : decode cM_within 229 = .ok (.aload_n 0, 1) := by decide +kernel
theorem dM_within_230 : decode cM_within 230 = .ok (.getfield 26, 3) := by decide +kernel
theorem dM_within_233 : decode cM_within 233 = .ok (.iload_n 3, 1) := by decide +kernel
theorem dM_within_234 : decode cM_within 234 = .ok (.iconst 0, 1) := by decide +kernel
theorem dM_within_235 : decode cM_within 235 = .ok (.iastore, 1) := by decide +kernel
theorem dM_within_236 : decode cM_within 236 = .ok (.aload_n 0, 1) := by decide +kernel
theorem dM_within_237 : decode cM_within 237 = .ok (.getfield 29, 3) := by decide +kernel
theorem dM_within_240 : decode cM_within 240 = .ok (.iload_n 3, 1) := by decide +kernel
theorem dM_within_241 : decode cM_within 241 = .ok (.iconst 0, 1) := by decide +kernel
theorem dM_within_242 : decode cM_within 242 = .ok (.bastore, 1) := by decide +kernel
theorem dM_within_243 : decode cM_within 243 = .ok (.iinc 3 1, 3) := by decide +kernel
theorem dM_within_246 : decode cM_within 246 = .ok (.goto (-88), 3) := by decide +kernel
theorem dM_within_249 : decode cM_within 249 = .ok (.iload_n 2, 1) := by decide +kernel
theorem dM_within_250 : decode cM_within 250 = .ok (.ireturn, 1) := by decide +kernel
theorem dM_all_0 : decode cM_all 0 = .ok (.iconst 0, 1) := by decide +kernel
theorem dM_all_1 : decode cM_all 1 = .ok (.istore_n 1, 1) := by decide +kernel
theorem dM_all_2 : decode cM_all 2 = .ok (.iload_n 1, 1) := by decide +kernel
theorem dM_all_3 : decode cM_all 3 = .ok (.bipush 8, 2) := by decide +kernel
theorem dM_all_5 : decode cM_all 5 = .ok (.if_icmp .ge 36, 3) := by decide +kernel
theorem dM_all_8 : decode cM_all 8 = .ok (.aload_n 0, 1) := by decide +kernel
theorem dM_all_9 : decode cM_all 9 = .ok (.getfield 26, 3) := by decide +kernel
theorem dM_all_12 : decode cM_all 12 = .ok (.iload_n 1, 1) := by decide +kernel
theorem dM_all_13 : decode cM_all 13 = .ok (.iaload, 1) := by decide +kernel
theorem dM_all_14 : decode cM_all 14 = .ok (.iconst 2, 1) := by decide +kernel
theorem dM_all_15 : decode cM_all 15 = .ok (.if_icmp .ne 20, 3) := by decide +kernel
theorem dM_all_18 : decode cM_all 18 = .ok (.aload_n 0, 1) := by decide +kernel
theorem dM_all_19 : decode cM_all 19 = .ok (.getfield 26, 3) := by decide +kernel
theorem dM_all_22 : decode cM_all 22 = .ok (.iload_n 1, 1) := by decide +kernel
theorem dM_all_23 : decode cM_all 23 = .ok (.iconst 1, 1) := by decide +kernel
theorem dM_all_24 : decode cM_all 24 = .ok (.iastore, 1) := by decide +kernel
theorem dM_all_25 : decode cM_all 25 = .ok (.aload_n 0, 1) := by decide +kernel
theorem dM_all_26 : decode cM_all 26 = .ok (.dup, 1) := by decide +kernel
theorem dM_all_27 : decode cM_all 27 = .ok (.getfield 70, 3) := by decide +kernel
theorem dM_all_30 : decode cM_all 30 = .ok (.iconst 1, 1) := by decide +kernel
theorem dM_all_31 : decode cM_all 31 = .ok (.iadd, 1) := by decide +kernel
theorem dM_all_32 : decode cM_all 32 = .ok (.putfield 70, 3) := by decide +kernel
theorem dM_all_35 : decode cM_all 35 = .ok (.iinc 1 1, 3) := by decide +kernel
theorem dM_all_38 : decode cM_all 38 = .ok (.goto (-36), 3) := by decide +kernel
theorem dM_all_41 : decode cM_all 41 = .ok (.iconst 0, 1) := by decide +kernel
theorem dM_all_42 : decode cM_all 42 = .ok (.istore_n 1, 1) := by decide +kernel
theorem dM_all_43 : decode cM_all 43 = .ok (.iload_n 1, 1) := by decide +kernel
theorem dM_all_44 : decode cM_all 44 = .ok (.bipush 32, 2) := by decide +kernel
theorem dM_all_46 : decode cM_all 46 = .ok (.if_icmp .ge 16, 3) := by decide +kernel
theorem dM_all_49 : decode cM_all 49 = .ok (.aload_n 0, 1) := by decide +kernel
theorem dM_all_50 : decode cM_all 50 = .ok (.getfield 20, 3) := by decide +kernel
theorem dM_all_53 : decode cM_all 53 = .ok (.iload_n 1, 1) := by decide +kernel
theorem dM_all_54 : decode cM_all 54 = .ok (.iconst 0, 1) := by decide +kernel
theorem dM_all_55 : decode cM_all 55 = .ok (.bastore, 1) := by decide +kernel
theorem dM_all_56 : decode cM_all 56 = .ok (.iinc 1 1, 3) := by decide +kernel
theorem dM_all_59 : decode cM_all 59 = .ok (.goto (-16), 3) := by decide +kernel
theorem dM_all_62 : decode cM_all 62 = .ok (.aload_n 0, 1) := by decide +kernel
theorem dM_all_63 : decode cM_all 63 = .ok (.invokevirtual 80, 3) := by decide +kernel
theorem dM_all_66 : decode cM_all 66 = .ok (.ireturn, 1) := by decide +kernel
theorem dM_freeOnPagesIn_0 : decode cM_freeOnPagesIn 0 = .ok (.iconst 0, 1) := by decide +kernel
theorem dM_freeOnPagesIn_1 : decode cM_freeOnPagesIn 1 = .ok (.istore_n 1, 1) := by decide +kernel
theorem dM_freeOnPagesIn_2 : decode cM_freeOnPagesIn 2 = .ok (.iload_n 1, 1) := by decide +kernel
theorem dM_freeOnPagesIn_3 : decode cM_freeOnPagesIn 3 = .ok (.bipush 32, 2) := by decide +kernel
theorem dM_freeOnPagesIn_5 : decode cM_freeOnPagesIn 5 = .ok (.if_icmp .ge 32, 3) := by decide +kernel
theorem dM_freeOnPagesIn_8 : decode cM_freeOnPagesIn 8 = .ok (.aload_n 0, 1) := by decide +kernel
theorem dM_freeOnPagesIn_9 : decode cM_freeOnPagesIn 9 = .ok (.getfield 7, 3) := by decide +kernel
theorem dM_freeOnPagesIn_12 : decode cM_freeOnPagesIn 12 = .ok (.iload_n 1, 1) := by decide +kernel
theorem dM_freeOnPagesIn_13 : decode cM_freeOnPagesIn 13 = .ok (.baload, 1) := by decide +kernel
theorem dM_freeOnPagesIn_14 : decode cM_freeOnPagesIn 14 = .ok (.ifCond .ne 17, 3) := by decide +kernel
theorem dM_freeOnPagesIn_17 : decode cM_freeOnPagesIn 17 = .ok (.aload_n 0, 1) := by decide +kernel
theorem dM_freeOnPagesIn_18 : decode cM_freeOnPagesIn 18 = .ok (.getfield 26, 3) := by decide +kernel
theorem dM_freeOnPagesIn_21 : decode cM_freeOnPagesIn 21 = .ok (.iload_n 1, 1) := by decide +kernel
theorem dM_freeOnPagesIn_22 : decode cM_freeOnPagesIn 22 = .ok (.iconst 4, 1) := by decide +kernel
theorem dM_freeOnPagesIn_23 : decode cM_freeOnPagesIn 23 = .ok (.idiv, 1) := by decide +kernel
theorem dM_freeOnPagesIn_24 : decode cM_freeOnPagesIn 24 = .ok (.iaload, 1) := by decide +kernel
theorem dM_freeOnPagesIn_25 : decode cM_freeOnPagesIn 25 = .ok (.iconst 1, 1) := by decide +kernel
theorem dM_freeOnPagesIn_26 : decode cM_freeOnPagesIn 26 = .ok (.if_icmp .ne 5, 3) := by decide +kernel
theorem dM_freeOnPagesIn_29 : decode cM_freeOnPagesIn 29 = .ok (.iload_n 1, 1) := by decide +kernel
theorem dM_freeOnPagesIn_30 : decode cM_freeOnPagesIn 30 = .ok (.ireturn, 1) := by decide +kernel
theorem dM_freeOnPagesIn_31 : decode cM_freeOnPagesIn 31 = .ok (.iinc 1 1, 3) := by decide +kernel
theorem dM_freeOnPagesIn_34 : decode cM_freeOnPagesIn 34 = .ok (.goto (-32), 3) := by decide +kernel
theorem dM_freeOnPagesIn_37 : decode cM_freeOnPagesIn 37 = .ok (.iconst (-1), 1) := by decide +kernel
theorem dM_freeOnPagesIn_38 : decode cM_freeOnPagesIn 38 = .ok (.ireturn, 1) := by decide +kernel
theorem dM_find_0 : decode cM_find 0 = .ok (.aload_n 0, 1) := by decide +kernel
theorem dM_find_1 : decode cM_find 1 = .ok (.invokevirtual 83, 3) := by decide +kernel
theorem dM_find_4 : decode cM_find 4 = .ok (.istore_n 2, 1) := by decide +kernel
theorem dM_find_5 : decode cM_find 5 = .ok (.iconst 0, 1) := by decide +kernel
theorem dM_find_6 : decode cM_find 6 = .ok (.istore_n 3, 1) := by decide +kernel
theorem dM_find_7 : decode cM_find 7 = .ok (.iload_n 3, 1) := by decide +kernel
theorem dM_find_8 : decode cM_find 8 = .ok (.bipush 8, 2) := by decide +kernel
theorem dM_find_10 : decode cM_find 10 = .ok (.if_icmp .ge 53, 3) := by decide +kernel
theorem dM_find_13 : decode cM_find 13 = .ok (.iload_n 2, 1) := by decide +kernel
theorem dM_find_14 : decode cM_find 14 = .ok (.ifCond .ge 49, 3) := by decide +kernel
theorem dM_find_17 : decode cM_find 17 = .ok (.aload_n 0, 1) := by decide +kernel
theorem dM_find_18 : decode cM_find 18 = .ok (.getfield 26, 3) := by decide +kernel
theorem dM_find_21 : decode cM_find 21 = .ok (.iload_n 3, 1) := by decide +kernel
theorem dM_find_22 : decode cM_find 22 = .ok (.iaload, 1) := by decide +kernel
theorem dM_find_23 : decode cM_find 23 = .ok (.ifCond .ne 34, 3) := by decide +kernel
theorem dM_find_26 : decode cM_find 26 = .ok (.iload_n 1, 1) := by decide +kernel
theorem dM_find_27 : decode cM_find 27 = .ok (.ifCond .eq 19, 3) := by decide +kernel
theorem dM_find_30 : decode cM_find 30 = .ok (.aload_n 0, 1) := by decide +kernel
theorem dM_find_31 : decode cM_find 31 = .ok (.invokevirtual 57, 3) := by decide +kernel
theorem dM_find_34 : decode cM_find 34 = .ok (.aload_n 0, 1) := by decide +kernel
theorem dM_find_35 : decode cM_find 35 = .ok (.getfield 35, 3) := by decide +kernel
theorem dM_find_38 : decode cM_find 38 = .ok (.if_icmp .ne 8, 3) := by decide +kernel
theorem dM_find_41 : decode cM_find 41 = .ok (.aload_n 0, 1) := by decide +kernel
theorem dM_find_42 : decode cM_find 42 = .ok (.iconst (-1), 1) := by decide +kernel
theorem dM_find_43 : decode cM_find 43 = .ok (.invokevirtual 61, 3) := by decide +kernel
theorem dM_find_46 : decode cM_find 46 = .ok (.aload_n 0, 1) := by decide +kernel
theorem dM_find_47 : decode cM_find 47 = .ok (.getfield 26, 3) := by decide +kernel
theorem dM_find_50 : decode cM_find 50 = .ok (.iload_n 3, 1) := by decide +kernel
theorem dM_find_51 : decode cM_find 51 = .ok (.iconst 1, 1) := by decide +kernel
theorem dM_find_52 : decode cM_find 52 = .ok (.iastore, 1) := by decide +kernel
theorem dM_find_53 : decode cM_find 53 = .ok (.iconst 4, 1) := by decide +kernel
theorem dM_find_54 : decode cM_find 54 = .ok (.iload_n 3, 1) := by decide +kernel
theorem dM_find_55 : decode cM_find 55 = .ok (.imul, 1) := by decide +kernel
theorem dM_find_56 : decode cM_find 56 = .ok (.istore_n 2, 1) := by decide +kernel
theorem dM_find_57 : decode cM_find 57 = .ok (.iinc 3 1, 3) := by decide +kernel
theorem dM_find_60 : decode cM_find 60 = .ok (.goto (-53), 3) := by decide +kernel
theorem dM_find_63 : decode cM_find 63 = .ok (.iload_n 2, 1) := by decide +kernel
theorem dM_find_64 : decode cM_find 64 = .ok (.ifCond .lt 12, 3) := by decide +kernel
theorem dM_find_67 : decode cM_find 67 = .ok (.aload_n 0, 1) := by decide +kernel
theorem dM_find_68 : decode cM_find 68 = .ok (.getfield 29, 3) := by decide +kernel
theorem dM_find_71 : decode cM_find 71 = .ok (.iload_n 2, 1) := by decide +kernel
theorem dM_find_72 : decode cM_find 72 = .ok (.iconst 4, 1) := by decide +kernel
theorem dM_find_73 : decode cM_find 73 = .ok (.idiv, 1) := by decide +kernel
theorem dM_find_74 : decode cM_find 74 = .ok (.iconst 1, 1) := by decide +kernel
theorem dM_find_75 : decode cM_find 75 = .ok (.bastore, 1) := by decide +kernel
theorem dM_find_76 : decode cM_find 76 = .ok (.iload_n 2, 1) := by decide +kernel
theorem dM_find_77 : decode cM_find 77 = .ok (.ireturn, 1) := by decide +kernel
theorem dM_place_0 : decode cM_place 0 = .ok (.aload_n 0, 1) := by decide +kernel
theorem dM_place_1 : decode cM_place 1 = .ok (.getfield 7, 3) := by decide +kernel
theorem dM_place_4 : decode cM_place 4 = .ok (.iload_n 1, 1) := by decide +kernel
theorem dM_place_5 : decode cM_place 5 = .ok (.iconst 1, 1) := by decide +kernel
theorem dM_place_6 : decode cM_place 6 = .ok (.bastore, 1) := by decide +kernel
theorem dM_place_7 : decode cM_place 7 = .ok (.aload_n 0, 1) := by decide +kernel
theorem dM_place_8 : decode cM_place 8 = .ok (.getfield 13, 3) := by decide +kernel
theorem dM_place_11 : decode cM_place 11 = .ok (.iload_n 1, 1) := by decide +kernel
theorem dM_place_12 : decode cM_place 12 = .ok (.iload_n 2, 1) := by decide +kernel
theorem dM_place_13 : decode cM_place 13 = .ok (.iastore, 1) := by decide +kernel
theorem dM_place_14 : decode cM_place 14 = .ok (.aload_n 0, 1) := by decide +kernel
theorem dM_place_15 : decode cM_place 15 = .ok (.getfield 17, 3) := by decide +kernel
theorem dM_place_18 : decode cM_place 18 = .ok (.iconst 2, 1) := by decide +kernel
theorem dM_place_19 : decode cM_place 19 = .ok (.iload_n 1, 1) := by decide +kernel
theorem dM_place_20 : decode cM_place 20 = .ok (.imul, 1) := by decide +kernel
theorem dM_place_21 : decode cM_place 21 = .ok (.iconst (-1), 1) := by decide +kernel
theorem dM_place_22 : decode cM_place 22 = .ok (.iastore, 1) := by decide +kernel
theorem dM_place_23 : decode cM_place 23 = .ok (.aload_n 0, 1) := by decide +kernel
theorem dM_place_24 : decode cM_place 24 = .ok (.getfield 17, 3) := by decide +kernel
theorem dM_place_27 : decode cM_place 27 = .ok (.iconst 2, 1) := by decide +kernel
theorem dM_place_28 : decode cM_place 28 = .ok (.iload_n 1, 1) := by decide +kernel
theorem dM_place_29 : decode cM_place 29 = .ok (.imul, 1) := by decide +kernel
theorem dM_place_30 : decode cM_place 30 = .ok (.iconst 1, 1) := by decide +kernel
theorem dM_place_31 : decode cM_place 31 = .ok (.iadd, 1) := by decide +kernel
theorem dM_place_32 : decode cM_place 32 = .ok (.iconst (-1), 1) := by decide +kernel
theorem dM_place_33 : decode cM_place 33 = .ok (.iastore, 1) := by decide +kernel
theorem dM_place_34 : decode cM_place 34 = .ok (.aload_n 0, 1) := by decide +kernel
theorem dM_place_35 : decode cM_place 35 = .ok (.getfield 20, 3) := by decide +kernel
theorem dM_place_38 : decode cM_place 38 = .ok (.iload_n 1, 1) := by decide +kernel
theorem dM_place_39 : decode cM_place 39 = .ok (.iconst 0, 1) := by decide +kernel
theorem dM_place_40 : decode cM_place 40 = .ok (.bastore, 1) := by decide +kernel
theorem dM_place_41 : decode cM_place 41 = .ok (.return_, 1) := by decide +kernel
theorem dM_make_0 : decode cM_make 0 = .ok (.aload_n 0, 1) := by decide +kernel
theorem dM_make_1 : decode cM_make 1 = .ok (.iconst 0, 1) := by decide +kernel
theorem dM_make_2 : decode cM_make 2 = .ok (.putfield 39, 3) := by decide +kernel
theorem dM_make_5 : decode cM_make 5 = .ok (.iload_n 1, 1) := by decide +kernel
theorem dM_make_6 : decode cM_make 6 = .ok (.invokestatic 86, 3) := by decide +kernel
theorem dM_make_9 : decode cM_make 9 = .ok (.ifCond .ne 9, 3) := by decide +kernel
theorem dM_make_12 : decode cM_make 12 = .ok (.aload_n 0, 1) := by decide +kernel
theorem dM_make_13 : decode cM_make 13 = .ok (.iconst 1, 1) := by decide +kernel
theorem dM_make_14 : decode cM_make 14 = .ok (.invokevirtual 89, 3) := by decide +kernel
theorem dM_make_17 : decode cM_make 17 = .ok (.ireturn, 1) := by decide +kernel
theorem dM_make_18 : decode cM_make 18 = .ok (.aload_n 0, 1) := by decide +kernel
theorem dM_make_19 : decode cM_make 19 = .ok (.iconst 1, 1) := by decide +kernel
theorem dM_make_20 : decode cM_make 20 = .ok (.invokevirtual 92, 3) := by decide +kernel
theorem dM_make_23 : decode cM_make 23 = .ok (.istore_n 3, 1) := by decide +kernel
theorem dM_make_24 : decode cM_make 24 = .ok (.iload_n 3, 1) := by decide +kernel
theorem dM_make_25 : decode cM_make 25 = .ok (.ifCond .ge 14, 3) := by decide +kernel
theorem dM_make_28 : decode cM_make 28 = .ok (.aload_n 0, 1) := by decide +kernel
theorem dM_make_29 : decode cM_make 29 = .ok (.invokevirtual 80, 3) := by decide +kernel
theorem dM_make_32 : decode cM_make 32 = .ok (.pop, 1) := by decide +kernel
theorem dM_make_33 : decode cM_make 33 = .ok (.aload_n 0, 1) := by decide +kernel
theorem dM_make_34 : decode cM_make 34 = .ok (.iconst 1, 1) := by decide +kernel
theorem dM_make_35 : decode cM_make 35 = .ok (.invokevirtual 92, 3) := by decide +kernel
theorem dM_make_38 : decode cM_make 38 = .ok (.istore_n 3, 1) := by decide +kernel
theorem dM_make_39 : decode cM_make 39 = .ok (.iload_n 3, 1) := by decide +kernel
theorem dM_make_40 : decode cM_make 40 = .ok (.ifCond .ge 7, 3) := by decide +kernel
theorem dM_make_43 : decode cM_make 43 = .ok (.iconst 1, 1) := by decide +kernel
theorem dM_make_44 : decode cM_make 44 = .ok (.goto 4, 3) := by decide +kernel
theorem dM_make_47 : decode cM_make 47 = .ok (.iconst 0, 1) := by decide +kernel
theorem dM_make_48 : decode cM_make 48 = .ok (.istore 4, 2) := by decide +kernel
theorem dM_make_50 : decode cM_make 50 = .ok (.iload 4, 2) := by decide +kernel
theorem dM_make_52 : decode cM_make 52 = .ok (.ifCond .eq 14, 3) := by decide +kernel
theorem dM_make_55 : decode cM_make 55 = .ok (.aload_n 0, 1) := by decide +kernel
theorem dM_make_56 : decode cM_make 56 = .ok (.invokevirtual 96, 3) := by decide +kernel
theorem dM_make_59 : decode cM_make 59 = .ok (.pop, 1) := by decide +kernel
theorem dM_make_60 : decode cM_make 60 = .ok (.aload_n 0, 1) := by decide +kernel
theorem dM_make_61 : decode cM_make 61 = .ok (.iconst 0, 1) := by decide +kernel
theorem dM_make_62 : decode cM_make 62 = .ok (.invokevirtual 92, 3) := by decide +kernel
theorem dM_make_65 : decode cM_make 65 = .ok (.istore_n 3, 1) := by decide +kernel
theorem dM_make_66 : decode cM_make 66 = .ok (.iload_n 3, 1) := by decide +kernel
theorem dM_make_67 : decode cM_make 67 = .ok (.ifCond .lt 9, 3) := by decide +kernel
theorem dM_make_70 : decode cM_make 70 = .ok (.aload_n 0, 1) := by decide +kernel
theorem dM_make_71 : decode cM_make 71 = .ok (.iload_n 3, 1) := by decide +kernel
theorem dM_make_72 : decode cM_make 72 = .ok (.iload_n 2, 1) := by decide +kernel
theorem dM_make_73 : decode cM_make 73 = .ok (.invokevirtual 99, 3) := by decide +kernel
theorem dM_make_76 : decode cM_make 76 = .ok (.iload 4, 2) := by decide +kernel
theorem dM_make_78 : decode cM_make 78 = .ok (.ifCond .eq 19, 3) := by decide +kernel
theorem dM_make_81 : decode cM_make 81 = .ok (.aload_n 0, 1) := by decide +kernel
theorem dM_make_82 : decode cM_make 82 = .ok (.iload_n 3, 1) := by decide +kernel
theorem dM_make_83 : decode cM_make 83 = .ok (.ifCond .ge 7, 3) := by decide +kernel
theorem dM_make_86 : decode cM_make 86 = .ok (.iconst (-1), 1) := by decide +kernel
theorem dM_make_87 : decode cM_make 87 = .ok (.goto 6, 3) := by decide +kernel
theorem dM_make_90 : decode cM_make 90 = .ok (.iload_n 3, 1) := by decide +kernel
theorem dM_make_91 : decode cM_make 91 = .ok (.iconst 4, 1) := by decide +kernel
theorem dM_make_92 : decode cM_make 92 = .ok (.idiv, 1) := by decide +kernel
theorem dM_make_93 : decode cM_make 93 = .ok (.invokevirtual 103, 3) := by decide +kernel
theorem dM_make_96 : decode cM_make 96 = .ok (.pop, 1) := by decide +kernel
theorem dM_make_97 : decode cM_make 97 = .ok (.iload_n 3, 1) := by decide +kernel
theorem dM_make_98 : decode cM_make 98 = .ok (.ifCond .ge 9, 3) := by decide +kernel
theorem dM_make_101 : decode cM_make 101 = .ok (.aload_n 0, 1) := by decide +kernel
theorem dM_make_102 : decode cM_make 102 = .ok (.iconst 2, 1) := by decide +kernel
theorem dM_make_103 : decode cM_make 103 = .ok (.invokevirtual 89, 3) := by decide +kernel
theorem dM_make_106 : decode cM_make 106 = .ok (.ireturn, 1) := by decide +kernel
theorem dM_make_107 : decode cM_make 107 = .ok (.aload_n 0, 1) := by decide +kernel
theorem dM_make_108 : decode cM_make 108 = .ok (.getfield 32, 3) := by decide +kernel
theorem dM_make_111 : decode cM_make 111 = .ok (.iload_n 1, 1) := by decide +kernel
theorem dM_make_112 : decode cM_make 112 = .ok (.iload_n 3, 1) := by decide +kernel
theorem dM_make_113 : decode cM_make 113 = .ok (.iastore, 1) := by decide +kernel
theorem dM_make_114 : decode cM_make 114 = .ok (.iload_n 3, 1) := by decide +kernel
theorem dM_make_115 : decode cM_make 115 = .ok (.ireturn, 1) := by decide +kernel
theorem dM_store_0 : decode cM_store 0 = .ok (.aload_n 0, 1) := by decide +kernel
theorem dM_store_1 : decode cM_store 1 = .ok (.iconst 0, 1) := by decide +kernel
theorem dM_store_2 : decode cM_store 2 = .ok (.putfield 39, 3) := by decide +kernel
theorem dM_store_5 : decode cM_store 5 = .ok (.iload_n 1, 1) := by decide +kernel
theorem dM_store_6 : decode cM_store 6 = .ok (.invokestatic 86, 3) := by decide +kernel
theorem dM_store_9 : decode cM_store 9 = .ok (.ifCond .eq 19, 3) := by decide +kernel
theorem dM_store_12 : decode cM_store 12 = .ok (.iload_n 2, 1) := by decide +kernel
theorem dM_store_13 : decode cM_store 13 = .ok (.ifCond .lt 15, 3) := by decide +kernel
theorem dM_store_16 : decode cM_store 16 = .ok (.iload_n 2, 1) := by decide +kernel
theorem dM_store_17 : decode cM_store 17 = .ok (.iconst 1, 1) := by decide +kernel
theorem dM_store_18 : decode cM_store 18 = .ok (.if_icmp .gt 10, 3) := by decide +kernel
theorem dM_store_21 : decode cM_store 21 = .ok (.iload_n 3, 1) := by decide +kernel
theorem dM_store_22 : decode cM_store 22 = .ok (.invokestatic 86, 3) := by decide +kernel
theorem dM_store_25 : decode cM_store 25 = .ok (.ifCond .ne 9, 3) := by decide +kernel
theorem dM_store_28 : decode cM_store 28 = .ok (.aload_n 0, 1) := by decide +kernel
theorem dM_store_29 : decode cM_store 29 = .ok (.iconst 1, 1) := by decide +kernel
theorem dM_store_30 : decode cM_store 30 = .ok (.invokevirtual 89, 3) := by decide +kernel
theorem dM_store_33 : decode cM_store 33 = .ok (.ireturn, 1) := by decide +kernel
theorem dM_store_34 : decode cM_store 34 = .ok (.aload_n 0, 1) := by decide +kernel
theorem dM_store_35 : decode cM_store 35 = .ok (.getfield 32, 3) := by decide +kernel
theorem dM_store_38 : decode cM_store 38 = .ok (.iload_n 1, 1) := by decide +kernel
theorem dM_store_39 : decode cM_store 39 = .ok (.iaload, 1) := by decide +kernel
theorem dM_store_40 : decode cM_store 40 = .ok (.ifCond .ge 9, 3) := by decide +kernel
theorem dM_store_43 : decode cM_store 43 = .ok (.aload_n 0, 1) := by decide +kernel
theorem dM_store_44 : decode cM_store 44 = .ok (.iconst 2, 1) := by decide +kernel
theorem dM_store_45 : decode cM_store 45 = .ok (.invokevirtual 89, 3) := by decide +kernel
theorem dM_store_48 : decode cM_store 48 = .ok (.ireturn, 1) := by decide +kernel
theorem dM_store_49 : decode cM_store 49 = .ok (.aload_n 0, 1) := by decide +kernel
theorem dM_store_50 : decode cM_store 50 = .ok (.aload_n 0, 1) := by decide +kernel
theorem dM_store_51 : decode cM_store 51 = .ok (.getfield 32, 3) := by decide +kernel
theorem dM_store_54 : decode cM_store 54 = .ok (.iload_n 1, 1) := by decide +kernel
theorem dM_store_55 : decode cM_store 55 = .ok (.iaload, 1) := by decide +kernel
theorem dM_store_56 : decode cM_store 56 = .ok (.iconst 4, 1) := by decide +kernel
theorem dM_store_57 : decode cM_store 57 = .ok (.idiv, 1) := by decide +kernel
theorem dM_store_58 : decode cM_store 58 = .ok (.invokevirtual 106, 3) := by decide +kernel
theorem dM_store_61 : decode cM_store 61 = .ok (.aload_n 0, 1) := by decide +kernel
theorem dM_store_62 : decode cM_store 62 = .ok (.getfield 17, 3) := by decide +kernel
theorem dM_store_65 : decode cM_store 65 = .ok (.iconst 2, 1) := by decide +kernel
theorem dM_store_66 : decode cM_store 66 = .ok (.aload_n 0, 1) := by decide +kernel
theorem dM_store_67 : decode cM_store 67 = .ok (.getfield 32, 3) := by decide +kernel
theorem dM_store_70 : decode cM_store 70 = .ok (.iload_n 1, 1) := by decide +kernel
theorem dM_store_71 : decode cM_store 71 = .ok (.iaload, 1) := by decide +kernel
theorem dM_store_72 : decode cM_store 72 = .ok (.imul, 1) := by decide +kernel
theorem dM_store_73 : decode cM_store 73 = .ok (.iload_n 2, 1) := by decide +kernel
theorem dM_store_74 : decode cM_store 74 = .ok (.iadd, 1) := by decide +kernel
theorem dM_store_75 : decode cM_store 75 = .ok (.aload_n 0, 1) := by decide +kernel
theorem dM_store_76 : decode cM_store 76 = .ok (.getfield 32, 3) := by decide +kernel
theorem dM_store_79 : decode cM_store 79 = .ok (.iload_n 3, 1) := by decide +kernel
theorem dM_store_80 : decode cM_store 80 = .ok (.iaload, 1) := by decide +kernel
theorem dM_store_81 : decode cM_store 81 = .ok (.iastore, 1) := by decide +kernel
theorem dM_store_82 : decode cM_store 82 = .ok (.aload_n 0, 1) := by decide +kernel
theorem dM_store_83 : decode cM_store 83 = .ok (.getfield 70, 3) := by decide +kernel
theorem dM_store_86 : decode cM_store 86 = .ok (.ireturn, 1) := by decide +kernel
theorem dM_load_0 : decode cM_load 0 = .ok (.aload_n 0, 1) := by decide +kernel
theorem dM_load_1 : decode cM_load 1 = .ok (.iconst 0, 1) := by decide +kernel
theorem dM_load_2 : decode cM_load 2 = .ok (.putfield 39, 3) := by decide +kernel
theorem dM_load_5 : decode cM_load 5 = .ok (.iload_n 1, 1) := by decide +kernel
theorem dM_load_6 : decode cM_load 6 = .ok (.invokestatic 86, 3) := by decide +kernel
theorem dM_load_9 : decode cM_load 9 = .ok (.ifCond .eq 19, 3) := by decide +kernel
theorem dM_load_12 : decode cM_load 12 = .ok (.iload_n 2, 1) := by decide +kernel
theorem dM_load_13 : decode cM_load 13 = .ok (.invokestatic 86, 3) := by decide +kernel
theorem dM_load_16 : decode cM_load 16 = .ok (.ifCond .eq 12, 3) := by decide +kernel
theorem dM_load_19 : decode cM_load 19 = .ok (.iload_n 3, 1) := by decide +kernel
theorem dM_load_20 : decode cM_load 20 = .ok (.ifCond .lt 8, 3) := by decide +kernel
theorem dM_load_23 : decode cM_load 23 = .ok (.iload_n 3, 1) := by decide +kernel
theorem dM_load_24 : decode cM_load 24 = .ok (.iconst 1, 1) := by decide +kernel
theorem dM_load_25 : decode cM_load 25 = .ok (.if_icmp .le 9, 3) := by decide +kernel
theorem dM_load_28 : decode cM_load 28 = .ok (.aload_n 0, 1) := by decide +kernel
theorem dM_load_29 : decode cM_load 29 = .ok (.iconst 1, 1) := by decide +kernel
theorem dM_load_30 : decode cM_load 30 = .ok (.invokevirtual 89, 3) := by decide +kernel
theorem dM_load_33 : decode cM_load 33 = .ok (.ireturn, 1) := by decide +kernel
theorem dM_load_34 : decode cM_load 34 = .ok (.aload_n 0, 1) := by decide +kernel
theorem dM_load_35 : decode cM_load 35 = .ok (.getfield 32, 3) := by decide +kernel
theorem dM_load_38 : decode cM_load 38 = .ok (.iload_n 2, 1) := by decide +kernel
theorem dM_load_39 : decode cM_load 39 = .ok (.iaload, 1) := by decide +kernel
theorem dM_load_40 : decode cM_load 40 = .ok (.ifCond .ge 9, 3) := by decide +kernel
theorem dM_load_43 : decode cM_load 43 = .ok (.aload_n 0, 1) := by decide +kernel
theorem dM_load_44 : decode cM_load 44 = .ok (.iconst 2, 1) := by decide +kernel
theorem dM_load_45 : decode cM_load 45 = .ok (.invokevirtual 89, 3) := by decide +kernel
theorem dM_load_48 : decode cM_load 48 = .ok (.ireturn, 1) := by decide +kernel
theorem dM_load_49 : decode cM_load 49 = .ok (.aload_n 0, 1) := by decide +kernel
theorem dM_load_50 : decode cM_load 50 = .ok (.aload_n 0, 1) := by decide +kernel
theorem dM_load_51 : decode cM_load 51 = .ok (.getfield 32, 3) := by decide +kernel
theorem dM_load_54 : decode cM_load 54 = .ok (.iload_n 2, 1) := by decide +kernel
theorem dM_load_55 : decode cM_load 55 = .ok (.iaload, 1) := by decide +kernel
theorem dM_load_56 : decode cM_load 56 = .ok (.iconst 4, 1) := by decide +kernel
theorem dM_load_57 : decode cM_load 57 = .ok (.idiv, 1) := by decide +kernel
theorem dM_load_58 : decode cM_load 58 = .ok (.invokevirtual 106, 3) := by decide +kernel
theorem dM_load_61 : decode cM_load 61 = .ok (.aload_n 0, 1) := by decide +kernel
theorem dM_load_62 : decode cM_load 62 = .ok (.getfield 32, 3) := by decide +kernel
theorem dM_load_65 : decode cM_load 65 = .ok (.iload_n 1, 1) := by decide +kernel
theorem dM_load_66 : decode cM_load 66 = .ok (.aload_n 0, 1) := by decide +kernel
theorem dM_load_67 : decode cM_load 67 = .ok (.getfield 17, 3) := by decide +kernel
theorem dM_load_70 : decode cM_load 70 = .ok (.iconst 2, 1) := by decide +kernel
theorem dM_load_71 : decode cM_load 71 = .ok (.aload_n 0, 1) := by decide +kernel
theorem dM_load_72 : decode cM_load 72 = .ok (.getfield 32, 3) := by decide +kernel
theorem dM_load_75 : decode cM_load 75 = .ok (.iload_n 2, 1) := by decide +kernel
theorem dM_load_76 : decode cM_load 76 = .ok (.iaload, 1) := by decide +kernel
theorem dM_load_77 : decode cM_load 77 = .ok (.imul, 1) := by decide +kernel
theorem dM_load_78 : decode cM_load 78 = .ok (.iload_n 3, 1) := by decide +kernel
theorem dM_load_79 : decode cM_load 79 = .ok (.iadd, 1) := by decide +kernel
theorem dM_load_80 : decode cM_load 80 = .ok (.iaload, 1) := by decide +kernel
theorem dM_load_81 : decode cM_load 81 = .ok (.iastore, 1) := by decide +kernel
theorem dM_load_82 : decode cM_load 82 = .ok (.aload_n 0, 1) := by decide +kernel
theorem dM_load_83 : decode cM_load 83 = .ok (.getfield 70, 3) := by decide +kernel
theorem dM_load_86 : decode cM_load 86 = .ok (.ireturn, 1) := by decide +kernel
theorem dM_value_0 : decode cM_value 0 = .ok (.aload_n 0, 1) := by decide +kernel
theorem dM_value_1 : decode cM_value 1 = .ok (.iconst 0, 1) := by decide +kernel
theorem dM_value_2 : decode cM_value 2 = .ok (.putfield 39, 3) := by decide +kernel
theorem dM_value_5 : decode cM_value 5 = .ok (.iload_n 1, 1) := by decide +kernel
theorem dM_value_6 : decode cM_value 6 = .ok (.invokestatic 86, 3) := by decide +kernel
theorem dM_value_9 : decode cM_value 9 = .ok (.ifCond .ne 9, 3) := by decide +kernel
theorem dM_value_12 : decode cM_value 12 = .ok (.aload_n 0, 1) := by decide +kernel
theorem dM_value_13 : decode cM_value 13 = .ok (.iconst 1, 1) := by decide +kernel
theorem dM_value_14 : decode cM_value 14 = .ok (.invokevirtual 89, 3) := by decide +kernel
theorem dM_value_17 : decode cM_value 17 = .ok (.ireturn, 1) := by decide +kernel
theorem dM_value_18 : decode cM_value 18 = .ok (.aload_n 0, 1) := by decide +kernel
theorem dM_value_19 : decode cM_value 19 = .ok (.getfield 32, 3) := by decide +kernel
theorem dM_value_22 : decode cM_value 22 = .ok (.iload_n 1, 1) := by decide +kernel
theorem dM_value_23 : decode cM_value 23 = .ok (.iaload, 1) := by decide +kernel
theorem dM_value_24 : decode cM_value 24 = .ok (.ifCond .ge 9, 3) := by decide +kernel
theorem dM_value_27 : decode cM_value 27 = .ok (.aload_n 0, 1) := by decide +kernel
theorem dM_value_28 : decode cM_value 28 = .ok (.iconst 2, 1) := by decide +kernel
theorem dM_value_29 : decode cM_value 29 = .ok (.invokevirtual 89, 3) := by decide +kernel
theorem dM_value_32 : decode cM_value 32 = .ok (.ireturn, 1) := by decide +kernel
theorem dM_value_33 : decode cM_value 33 = .ok (.aload_n 0, 1) := by decide +kernel
theorem dM_value_34 : decode cM_value 34 = .ok (.aload_n 0, 1) := by decide +kernel
theorem dM_value_35 : decode cM_value 35 = .ok (.getfield 32, 3) := by decide +kernel
theorem dM_value_38 : decode cM_value 38 = .ok (.iload_n 1, 1) := by decide +kernel
theorem dM_value_39 : decode cM_value 39 = .ok (.iaload, 1) := by decide +kernel
theorem dM_value_40 : decode cM_value 40 = .ok (.iconst 4, 1) := by decide +kernel
theorem dM_value_41 : decode cM_value 41 = .ok (.idiv, 1) := by decide +kernel
theorem dM_value_42 : decode cM_value 42 = .ok (.invokevirtual 106, 3) := by decide +kernel
theorem dM_value_45 : decode cM_value 45 = .ok (.aload_n 0, 1) := by decide +kernel
theorem dM_value_46 : decode cM_value 46 = .ok (.getfield 13, 3) := by decide +kernel
theorem dM_value_49 : decode cM_value 49 = .ok (.aload_n 0, 1) := by decide +kernel
theorem dM_value_50 : decode cM_value 50 = .ok (.getfield 32, 3) := by decide +kernel
theorem dM_value_53 : decode cM_value 53 = .ok (.iload_n 1, 1) := by decide +kernel
theorem dM_value_54 : decode cM_value 54 = .ok (.iaload, 1) := by decide +kernel
theorem dM_value_55 : decode cM_value 55 = .ok (.iaload, 1) := by decide +kernel
theorem dM_value_56 : decode cM_value 56 = .ok (.ireturn, 1) := by decide +kernel
theorem dM_copy_0 : decode cM_copy 0 = .ok (.aload_n 0, 1) := by decide +kernel
theorem dM_copy_1 : decode cM_copy 1 = .ok (.iconst 0, 1) := by decide +kernel
theorem dM_copy_2 : decode cM_copy 2 = .ok (.putfield 39, 3) := by decide +kernel
theorem dM_copy_5 : decode cM_copy 5 = .ok (.iload_n 1, 1) := by decide +kernel
theorem dM_copy_6 : decode cM_copy 6 = .ok (.invokestatic 86, 3) := by decide +kernel
theorem dM_copy_9 : decode cM_copy 9 = .ok (.ifCond .eq 10, 3) := by decide +kernel
theorem dM_copy_12 : decode cM_copy 12 = .ok (.iload_n 2, 1) := by decide +kernel
theorem dM_copy_13 : decode cM_copy 13 = .ok (.invokestatic 86, 3) := by decide +kernel
theorem dM_copy_16 : decode cM_copy 16 = .ok (.ifCond .ne 9, 3) := by decide +kernel
theorem dM_copy_19 : decode cM_copy 19 = .ok (.aload_n 0, 1) := by decide +kernel
theorem dM_copy_20 : decode cM_copy 20 = .ok (.iconst 1, 1) := by decide +kernel
theorem dM_copy_21 : decode cM_copy 21 = .ok (.invokevirtual 89, 3) := by decide +kernel
theorem dM_copy_24 : decode cM_copy 24 = .ok (.ireturn, 1) := by decide +kernel
theorem dM_copy_25 : decode cM_copy 25 = .ok (.aload_n 0, 1) := by decide +kernel
theorem dM_copy_26 : decode cM_copy 26 = .ok (.getfield 32, 3) := by decide +kernel
theorem dM_copy_29 : decode cM_copy 29 = .ok (.iload_n 1, 1) := by decide +kernel
theorem dM_copy_30 : decode cM_copy 30 = .ok (.aload_n 0, 1) := by decide +kernel
theorem dM_copy_31 : decode cM_copy 31 = .ok (.getfield 32, 3) := by decide +kernel
theorem dM_copy_34 : decode cM_copy 34 = .ok (.iload_n 2, 1) := by decide +kernel
theorem dM_copy_35 : decode cM_copy 35 = .ok (.iaload, 1) := by decide +kernel
theorem dM_copy_36 : decode cM_copy 36 = .ok (.iastore, 1) := by decide +kernel
theorem dM_copy_37 : decode cM_copy 37 = .ok (.aload_n 0, 1) := by decide +kernel
theorem dM_copy_38 : decode cM_copy 38 = .ok (.getfield 32, 3) := by decide +kernel
theorem dM_copy_41 : decode cM_copy 41 = .ok (.iload_n 1, 1) := by decide +kernel
theorem dM_copy_42 : decode cM_copy 42 = .ok (.iaload, 1) := by decide +kernel
theorem dM_copy_43 : decode cM_copy 43 = .ok (.ireturn, 1) := by decide +kernel
theorem dM_drop_0 : decode cM_drop 0 = .ok (.aload_n 0, 1) := by decide +kernel
theorem dM_drop_1 : decode cM_drop 1 = .ok (.iconst 0, 1) := by decide +kernel
theorem dM_drop_2 : decode cM_drop 2 = .ok (.putfield 39, 3) := by decide +kernel
theorem dM_drop_5 : decode cM_drop 5 = .ok (.iload_n 1, 1) := by decide +kernel
theorem dM_drop_6 : decode cM_drop 6 = .ok (.invokestatic 86, 3) := by decide +kernel
theorem dM_drop_9 : decode cM_drop 9 = .ok (.ifCond .ne 10, 3) := by decide +kernel
theorem dM_drop_12 : decode cM_drop 12 = .ok (.aload_n 0, 1) := by decide +kernel
theorem dM_drop_13 : decode cM_drop 13 = .ok (.iconst 1, 1) := by decide +kernel
theorem dM_drop_14 : decode cM_drop 14 = .ok (.putfield 39, 3) := by decide +kernel
theorem dM_drop_17 : decode cM_drop 17 = .ok (.iconst 0, 1) := by decide +kernel
theorem dM_drop_18 : decode cM_drop 18 = .ok (.ireturn, 1) := by decide +kernel
theorem dM_drop_19 : decode cM_drop 19 = .ok (.aload_n 0, 1) := by decide +kernel
theorem dM_drop_20 : decode cM_drop 20 = .ok (.getfield 32, 3) := by decide +kernel
theorem dM_drop_23 : decode cM_drop 23 = .ok (.iload_n 1, 1) := by decide +kernel
theorem dM_drop_24 : decode cM_drop 24 = .ok (.iaload, 1) := by decide +kernel
theorem dM_drop_25 : decode cM_drop 25 = .ok (.ifCond .lt 7, 3) := by decide +kernel
theorem dM_drop_28 : decode cM_drop 28 = .ok (.iconst 1, 1) := by decide +kernel
theorem dM_drop_29 : decode cM_drop 29 = .ok (.goto 4, 3) := by decide +kernel
theorem dM_drop_32 : decode cM_drop 32 = .ok (.iconst 0, 1) := by decide +kernel
theorem dM_drop_33 : decode cM_drop 33 = .ok (.istore_n 2, 1) := by decide +kernel
theorem dM_drop_34 : decode cM_drop 34 = .ok (.aload_n 0, 1) := by decide +kernel
theorem dM_drop_35 : decode cM_drop 35 = .ok (.getfield 32, 3) := by decide +kernel
theorem dM_drop_38 : decode cM_drop 38 = .ok (.iload_n 1, 1) := by decide +kernel
theorem dM_drop_39 : decode cM_drop 39 = .ok (.iconst (-1), 1) := by decide +kernel
theorem dM_drop_40 : decode cM_drop 40 = .ok (.iastore, 1) := by decide +kernel
theorem dM_drop_41 : decode cM_drop 41 = .ok (.iload_n 2, 1) := by decide +kernel
theorem dM_drop_42 : decode cM_drop 42 = .ok (.ireturn, 1) := by decide +kernel
theorem dM_budget_0 : decode cM_budget 0 = .ok (.aload_n 0, 1) := by decide +kernel
theorem dM_budget_1 : decode cM_budget 1 = .ok (.iconst 0, 1) := by decide +kernel
theorem dM_budget_2 : decode cM_budget 2 = .ok (.putfield 39, 3) := by decide +kernel
theorem dM_budget_5 : decode cM_budget 5 = .ok (.iload_n 1, 1) := by decide +kernel
theorem dM_budget_6 : decode cM_budget 6 = .ok (.iconst 2, 1) := by decide +kernel
theorem dM_budget_7 : decode cM_budget 7 = .ok (.if_icmp .lt 9, 3) := by decide +kernel
theorem dM_budget_10 : decode cM_budget 10 = .ok (.iload_n 1, 1) := by decide +kernel
theorem dM_budget_11 : decode cM_budget 11 = .ok (.bipush 8, 2) := by decide +kernel
theorem dM_budget_13 : decode cM_budget 13 = .ok (.if_icmp .le 9, 3) := by decide +kernel
theorem dM_budget_16 : decode cM_budget 16 = .ok (.aload_n 0, 1) := by decide +kernel
theorem dM_budget_17 : decode cM_budget 17 = .ok (.iconst 1, 1) := by decide +kernel
theorem dM_budget_18 : decode cM_budget 18 = .ok (.invokevirtual 89, 3) := by decide +kernel
theorem dM_budget_21 : decode cM_budget 21 = .ok (.ireturn, 1) := by decide +kernel
theorem dM_budget_22 : decode cM_budget 22 = .ok (.aload_n 0, 1) := by decide +kernel
theorem dM_budget_23 : decode cM_budget 23 = .ok (.iload_n 1, 1) := by decide +kernel
theorem dM_budget_24 : decode cM_budget 24 = .ok (.putfield 35, 3) := by decide +kernel
theorem dM_budget_27 : decode cM_budget 27 = .ok (.aload_n 0, 1) := by decide +kernel
theorem dM_budget_28 : decode cM_budget 28 = .ok (.iconst (-1), 1) := by decide +kernel
theorem dM_budget_29 : decode cM_budget 29 = .ok (.invokevirtual 103, 3) := by decide +kernel
theorem dM_budget_32 : decode cM_budget 32 = .ok (.ireturn, 1) := by decide +kernel
theorem dM_collect_0 : decode cM_collect 0 = .ok (.aload_n 0, 1) := by decide +kernel
theorem dM_collect_1 : decode cM_collect 1 = .ok (.iconst 0, 1) := by decide +kernel
theorem dM_collect_2 : decode cM_collect 2 = .ok (.putfield 39, 3) := by decide +kernel
theorem dM_collect_5 : decode cM_collect 5 = .ok (.aload_n 0, 1) := by decide +kernel
theorem dM_collect_6 : decode cM_collect 6 = .ok (.invokevirtual 80, 3) := by decide +kernel
theorem dM_collect_9 : decode cM_collect 9 = .ok (.ireturn, 1) := by decide +kernel
theorem dM_thorough_0 : decode cM_thorough 0 = .ok (.aload_n 0, 1) := by decide +kernel
theorem dM_thorough_1 : decode cM_thorough 1 = .ok (.iconst 0, 1) := by decide +kernel
theorem dM_thorough_2 : decode cM_thorough 2 = .ok (.putfield 39, 3) := by decide +kernel
theorem dM_thorough_5 : decode cM_thorough 5 = .ok (.aload_n 0, 1) := by decide +kernel
theorem dM_thorough_6 : decode cM_thorough 6 = .ok (.invokevirtual 96, 3) := by decide +kernel
theorem dM_thorough_9 : decode cM_thorough 9 = .ok (.istore_n 1, 1) := by decide +kernel
theorem dM_thorough_10 : decode cM_thorough 10 = .ok (.aload_n 0, 1) := by decide +kernel
theorem dM_thorough_11 : decode cM_thorough 11 = .ok (.iconst (-1), 1) := by decide +kernel
theorem dM_thorough_12 : decode cM_thorough 12 = .ok (.invokevirtual 103, 3) := by decide +kernel
theorem dM_thorough_15 : decode cM_thorough 15 = .ok (.pop, 1) := by decide +kernel
theorem dM_thorough_16 : decode cM_thorough 16 = .ok (.iload_n 1, 1) := by decide +kernel
theorem dM_thorough_17 : decode cM_thorough 17 = .ok (.ireturn, 1) := by decide +kernel
theorem dM_faults_0 : decode cM_faults 0 = .ok (.aload_n 0, 1) := by decide +kernel
theorem dM_faults_1 : decode cM_faults 1 = .ok (.iconst 0, 1) := by decide +kernel
theorem dM_faults_2 : decode cM_faults 2 = .ok (.putfield 39, 3) := by decide +kernel
theorem dM_faults_5 : decode cM_faults 5 = .ok (.aload_n 0, 1) := by decide +kernel
theorem dM_faults_6 : decode cM_faults 6 = .ok (.getfield 70, 3) := by decide +kernel
theorem dM_faults_9 : decode cM_faults 9 = .ok (.ireturn, 1) := by decide +kernel
theorem dM_objects_0 : decode cM_objects 0 = .ok (.aload_n 0, 1) := by decide +kernel
theorem dM_objects_1 : decode cM_objects 1 = .ok (.iconst 0, 1) := by decide +kernel
theorem dM_objects_2 : decode cM_objects 2 = .ok (.putfield 39, 3) := by decide +kernel
theorem dM_objects_5 : decode cM_objects 5 = .ok (.iconst 0, 1) := by decide +kernel
theorem dM_objects_6 : decode cM_objects 6 = .ok (.istore_n 1, 1) := by decide +kernel
theorem dM_objects_7 : decode cM_objects 7 = .ok (.iconst 0, 1) := by decide +kernel
theorem dM_objects_8 : decode cM_objects 8 = .ok (.istore_n 2, 1) := by decide +kernel
theorem dM_objects_9 : decode cM_objects 9 = .ok (.iload_n 2, 1) := by decide +kernel
theorem dM_objects_10 : decode cM_objects 10 = .ok (.bipush 32, 2) := by decide +kernel
theorem dM_objects_12 : decode cM_objects 12 = .ok (.if_icmp .ge 26, 3) := by decide +kernel
theorem dM_objects_15 : decode cM_objects 15 = .ok (.aload_n 0, 1) := by decide +kernel
theorem dM_objects_16 : decode cM_objects 16 = .ok (.getfield 7, 3) := by decide +kernel
theorem dM_objects_19 : decode cM_objects 19 = .ok (.iload_n 2, 1) := by decide +kernel
theorem dM_objects_20 : decode cM_objects 20 = .ok (.baload, 1) := by decide +kernel
theorem dM_objects_21 : decode cM_objects 21 = .ok (.ifCond .eq 9, 3) := by decide +kernel
theorem dM_objects_24 : decode cM_objects 24 = .ok (.iload_n 1, 1) := by decide +kernel
theorem dM_objects_25 : decode cM_objects 25 = .ok (.iconst 1, 1) := by decide +kernel
theorem dM_objects_26 : decode cM_objects 26 = .ok (.iadd, 1) := by decide +kernel
theorem dM_objects_27 : decode cM_objects 27 = .ok (.goto 4, 3) := by decide +kernel
theorem dM_objects_30 : decode cM_objects 30 = .ok (.iload_n 1, 1) := by decide +kernel
theorem dM_objects_31 : decode cM_objects 31 = .ok (.istore_n 1, 1) := by decide +kernel
theorem dM_objects_32 : decode cM_objects 32 = .ok (.iinc 2 1, 3) := by decide +kernel
theorem dM_objects_35 : decode cM_objects 35 = .ok (.goto (-26), 3) := by decide +kernel
theorem dM_objects_38 : decode cM_objects 38 = .ok (.iload_n 1, 1) := by decide +kernel
theorem dM_objects_39 : decode cM_objects 39 = .ok (.ireturn, 1) := by decide +kernel
theorem dM_isPage_0 : decode cM_isPage 0 = .ok (.iload_n 0, 1) := by decide +kernel
theorem dM_isPage_1 : decode cM_isPage 1 = .ok (.ifCond .lt 13, 3) := by decide +kernel
theorem dM_isPage_4 : decode cM_isPage 4 = .ok (.iload_n 0, 1) := by decide +kernel
theorem dM_isPage_5 : decode cM_isPage 5 = .ok (.bipush 8, 2) := by decide +kernel
theorem dM_isPage_7 : decode cM_isPage 7 = .ok (.if_icmp .ge 7, 3) := by decide +kernel
theorem dM_isPage_10 : decode cM_isPage 10 = .ok (.iconst 1, 1) := by decide +kernel
theorem dM_isPage_11 : decode cM_isPage 11 = .ok (.goto 4, 3) := by decide +kernel
theorem dM_isPage_14 : decode cM_isPage 14 = .ok (.iconst 0, 1) := by decide +kernel
theorem dM_isPage_15 : decode cM_isPage 15 = .ok (.ireturn, 1) := by decide +kernel
theorem dM_page_0 : decode cM_page 0 = .ok (.aload_n 0, 1) := by decide +kernel
theorem dM_page_1 : decode cM_page 1 = .ok (.iconst 0, 1) := by decide +kernel
theorem dM_page_2 : decode cM_page 2 = .ok (.putfield 39, 3) := by decide +kernel
theorem dM_page_5 : decode cM_page 5 = .ok (.iload_n 1, 1) := by decide +kernel
theorem dM_page_6 : decode cM_page 6 = .ok (.invokestatic 109, 3) := by decide +kernel
theorem dM_page_9 : decode cM_page 9 = .ok (.ifCond .ne 5, 3) := by decide +kernel
theorem dM_page_12 : decode cM_page 12 = .ok (.iconst (-1), 1) := by decide +kernel
theorem dM_page_13 : decode cM_page 13 = .ok (.ireturn, 1) := by decide +kernel
theorem dM_page_14 : decode cM_page 14 = .ok (.aload_n 0, 1) := by decide +kernel
theorem dM_page_15 : decode cM_page 15 = .ok (.getfield 26, 3) := by decide +kernel
theorem dM_page_18 : decode cM_page 18 = .ok (.iload_n 1, 1) := by decide +kernel
theorem dM_page_19 : decode cM_page 19 = .ok (.iaload, 1) := by decide +kernel
theorem dM_page_20 : decode cM_page 20 = .ok (.ifCond .ne 7, 3) := by decide +kernel
theorem dM_page_23 : decode cM_page 23 = .ok (.iconst 0, 1) := by decide +kernel
theorem dM_page_24 : decode cM_page 24 = .ok (.goto 31, 3) := by decide +kernel
theorem dM_page_27 : decode cM_page 27 = .ok (.aload_n 0, 1) := by decide +kernel
theorem dM_page_28 : decode cM_page 28 = .ok (.getfield 26, 3) := by decide +kernel
theorem dM_page_31 : decode cM_page 31 = .ok (.iload_n 1, 1) := by decide +kernel
theorem dM_page_32 : decode cM_page 32 = .ok (.iaload, 1) := by decide +kernel
theorem dM_page_33 : decode cM_page 33 = .ok (.iconst 2, 1) := by decide +kernel
theorem dM_page_34 : decode cM_page 34 = .ok (.if_icmp .ne 7, 3) := by decide +kernel
theorem dM_page_37 : decode cM_page 37 = .ok (.iconst 3, 1) := by decide +kernel
theorem dM_page_38 : decode cM_page 38 = .ok (.goto 17, 3) := by decide +kernel
theorem dM_page_41 : decode cM_page 41 = .ok (.aload_n 0, 1) := by decide +kernel
theorem dM_page_42 : decode cM_page 42 = .ok (.getfield 29, 3) := by decide +kernel
theorem dM_page_45 : decode cM_page 45 = .ok (.iload_n 1, 1) := by decide +kernel
theorem dM_page_46 : decode cM_page 46 = .ok (.baload, 1) := by decide +kernel
theorem dM_page_47 : decode cM_page 47 = .ok (.ifCond .eq 7, 3) := by decide +kernel
theorem dM_page_50 : decode cM_page 50 = .ok (.iconst 2, 1) := by decide +kernel
theorem dM_page_51 : decode cM_page 51 = .ok (.goto 4, 3) := by decide +kernel
theorem dM_page_54 : decode cM_page 54 = .ok (.iconst 1, 1) := by decide +kernel
theorem dM_page_55 : decode cM_page 55 = .ok (.ireturn, 1) := by decide +kernel
theorem dM_count_0 : decode cM_count 0 = .ok (.aload_n 0, 1) := by decide +kernel
theorem dM_count_1 : decode cM_count 1 = .ok (.iconst 0, 1) := by decide +kernel
theorem dM_count_2 : decode cM_count 2 = .ok (.putfield 39, 3) := by decide +kernel
theorem dM_count_5 : decode cM_count 5 = .ok (.iload_n 1, 1) := by decide +kernel
theorem dM_count_6 : decode cM_count 6 = .ok (.invokestatic 109, 3) := by decide +kernel
theorem dM_count_9 : decode cM_count 9 = .ok (.ifCond .eq 11, 3) := by decide +kernel
theorem dM_count_12 : decode cM_count 12 = .ok (.aload_n 0, 1) := by decide +kernel
theorem dM_count_13 : decode cM_count 13 = .ok (.iload_n 1, 1) := by decide +kernel
theorem dM_count_14 : decode cM_count 14 = .ok (.invokevirtual 64, 3) := by decide +kernel
theorem dM_count_17 : decode cM_count 17 = .ok (.goto 4, 3) := by decide +kernel
theorem dM_count_20 : decode cM_count 20 = .ok (.iconst (-1), 1) := by decide +kernel
theorem dM_count_21 : decode cM_count 21 = .ok (.ireturn, 1) := by decide +kernel
theorem dM_places_0 : decode cM_places 0 = .ok (.aload_n 0, 1) := by decide +kernel
theorem dM_places_1 : decode cM_places 1 = .ok (.iconst 0, 1) := by decide +kernel
theorem dM_places_2 : decode cM_places 2 = .ok (.putfield 39, 3) := by decide +kernel
theorem dM_places_5 : decode cM_places 5 = .ok (.iload_n 1, 1) := by decide +kernel
theorem dM_places_6 : decode cM_places 6 = .ok (.invokestatic 109, 3) := by decide +kernel
theorem dM_places_9 : decode cM_places 9 = .ok (.ifCond .ne 5, 3) := by decide +kernel
theorem dM_places_12 : decode cM_places 12 = .ok (.iconst (-1), 1) := by decide +kernel
theorem dM_places_13 : decode cM_places 13 = .ok (.ireturn, 1) := by decide +kernel
theorem dM_places_14 : decode cM_places 14 = .ok (.iconst 0, 1) := by decide +kernel
theorem dM_places_15 : decode cM_places 15 = .ok (.istore_n 2, 1) := by decide +kernel
theorem dM_places_16 : decode cM_places 16 = .ok (.iconst 3, 1) := by decide +kernel
theorem dM_places_17 : decode cM_places 17 = .ok (.istore_n 3, 1) := by decide +kernel
theorem dM_places_18 : decode cM_places 18 = .ok (.iload_n 3, 1) := by decide +kernel
theorem dM_places_19 : decode cM_places 19 = .ok (.ifCond .lt 32, 3) := by decide +kernel
theorem dM_places_22 : decode cM_places 22 = .ok (.iconst 2, 1) := by decide +kernel
theorem dM_places_23 : decode cM_places 23 = .ok (.iload_n 2, 1) := by decide +kernel
theorem dM_places_24 : decode cM_places 24 = .ok (.imul, 1) := by decide +kernel
theorem dM_places_25 : decode cM_places 25 = .ok (.aload_n 0, 1) := by decide +kernel
theorem dM_places_26 : decode cM_places 26 = .ok (.getfield 7, 3) := by decide +kernel
theorem dM_places_29 : decode cM_places 29 = .ok (.iconst 4, 1) := by decide +kernel
theorem dM_places_30 : decode cM_places 30 = .ok (.iload_n 1, 1) := by decide +kernel
theorem dM_places_31 : decode cM_places 31 = .ok (.imul, 1) := by decide +kernel
theorem dM_places_32 : decode cM_places 32 = .ok (.iload_n 3, 1) := by decide +kernel
theorem dM_places_33 : decode cM_places 33 = .ok (.iadd, 1) := by decide +kernel
theorem dM_places_34 : decode cM_places 34 = .ok (.baload, 1) := by decide +kernel
theorem dM_places_35 : decode cM_places 35 = .ok (.ifCond .eq 7, 3) := by decide +kernel
theorem dM_places_38 : decode cM_places 38 = .ok (.iconst 1, 1) := by decide +kernel
theorem dM_places_39 : decode cM_places 39 = .ok (.goto 4, 3) := by decide +kernel
theorem dM_places_42 : decode cM_places 42 = .ok (.iconst 0, 1) := by decide +kernel
theorem dM_places_43 : decode cM_places 43 = .ok (.iadd, 1) := by decide +kernel
theorem dM_places_44 : decode cM_places 44 = .ok (.istore_n 2, 1) := by decide +kernel
theorem dM_places_45 : decode cM_places 45 = .ok (.iinc 3 (-1), 3) := by decide +kernel
theorem dM_places_48 : decode cM_places 48 = .ok (.goto (-30), 3) := by decide +kernel
theorem dM_places_51 : decode cM_places 51 = .ok (.iconst 0, 1) := by decide +kernel
theorem dM_places_52 : decode cM_places 52 = .ok (.istore_n 3, 1) := by decide +kernel
theorem dM_places_53 : decode cM_places 53 = .ok (.iload_n 3, 1) := by decide +kernel
theorem dM_places_54 : decode cM_places 54 = .ok (.iconst 4, 1) := by decide +kernel
theorem dM_places_55 : decode cM_places 55 = .ok (.if_icmp .ge 46, 3) := by decide +kernel
theorem dM_places_58 : decode cM_places 58 = .ok (.aload_n 0, 1) := by decide +kernel
theorem dM_places_59 : decode cM_places 59 = .ok (.getfield 7, 3) := by decide +kernel
theorem dM_places_62 : decode cM_places 62 = .ok (.iconst 4, 1) := by decide +kernel
theorem dM_places_63 : decode cM_places 63 = .ok (.iload_n 1, 1) := by decide +kernel
theorem dM_places_64 : decode cM_places 64 = .ok (.imul, 1) := by decide +kernel
theorem dM_places_65 : decode cM_places 65 = .ok (.iload_n 3, 1) := by decide +kernel
theorem dM_places_66 : decode cM_places 66 = .ok (.iadd, 1) := by decide +kernel
theorem dM_places_67 : decode cM_places 67 = .ok (.baload, 1) := by decide +kernel
theorem dM_places_68 : decode cM_places 68 = .ok (.ifCond .eq 25, 3) := by decide +kernel
theorem dM_places_71 : decode cM_places 71 = .ok (.aload_n 0, 1) := by decide +kernel
theorem dM_places_72 : decode cM_places 72 = .ok (.getfield 20, 3) := by decide +kernel
theorem dM_places_75 : decode cM_places 75 = .ok (.iconst 4, 1) := by decide +kernel
theorem dM_places_76 : decode cM_places 76 = .ok (.iload_n 1, 1) := by decide +kernel
theorem dM_places_77 : decode cM_places 77 = .ok (.imul, 1) := by decide +kernel
theorem dM_places_78 : decode cM_places 78 = .ok (.iload_n 3, 1) := by decide +kernel
theorem dM_places_79 : decode cM_places 79 = .ok (.iadd, 1) := by decide +kernel
theorem dM_places_80 : decode cM_places 80 = .ok (.baload, 1) := by decide +kernel
theorem dM_places_81 : decode cM_places 81 = .ok (.ifCond .eq 12, 3) := by decide +kernel
theorem dM_places_84 : decode cM_places 84 = .ok (.iload_n 2, 1) := by decide +kernel
theorem dM_places_85 : decode cM_places 85 = .ok (.bipush 16, 2) := by decide +kernel
theorem dM_places_87 : decode cM_places 87 = .ok (.iload_n 3, 1) := by decide +kernel
theorem dM_places_88 : decode cM_places 88 = .ok (.ishl, 1) := by decide +kernel
theorem dM_places_89 : decode cM_places 89 = .ok (.iadd, 1) := by decide +kernel
theorem dM_places_90 : decode cM_places 90 = .ok (.goto 4, 3) := by decide +kernel
theorem dM_places_93 : decode cM_places 93 = .ok (.iload_n 2, 1) := by decide +kernel
theorem dM_places_94 : decode cM_places 94 = .ok (.istore_n 2, 1) := by decide +kernel
theorem dM_places_95 : decode cM_places 95 = .ok (.iinc 3 1, 3) := by decide +kernel
theorem dM_places_98 : decode cM_places 98 = .ok (.goto (-45), 3) := by decide +kernel
theorem dM_places_101 : decode cM_places 101 = .ok (.iload_n 2, 1) := by decide +kernel
theorem dM_places_102 : decode cM_places 102 = .ok (.ireturn, 1) := by decide +kernel
theorem dM_hand_0 : decode cM_hand 0 = .ok (.aload_n 0, 1) := by decide +kernel
theorem dM_hand_1 : decode cM_hand 1 = .ok (.iconst 0, 1) := by decide +kernel
theorem dM_hand_2 : decode cM_hand 2 = .ok (.putfield 39, 3) := by decide +kernel
theorem dM_hand_5 : decode cM_hand 5 = .ok (.aload_n 0, 1) := by decide +kernel
theorem dM_hand_6 : decode cM_hand 6 = .ok (.getfield 46, 3) := by decide +kernel
theorem dM_hand_9 : decode cM_hand 9 = .ok (.ireturn, 1) := by decide +kernel
