theorem dX10_init_0 : decode cX10_init 0 = .ok (.aload_n 0, 1) := by decide +kernel
theorem dX10_init_1 : decode cX10_init 1 = .ok (.invokespecial 1, 3) := by decide +kernel
theorem dX10_init_4 : decode cX10_init 4 = .ok (.aload_n 0, 1) := by decide +kernel
theorem dX10_init_5 : decode cX10_init 5 = .ok (.sipush 9519, 3) := by decide +kernel
theorem dX10_init_8 : decode cX10_init 8 = .ok (.newarray .int, 2) := by decide +kernel
theorem dX10_init_10 : decode cX10_init 10 = .ok (.putfield 7, 3) := by decide +kernel
theorem dX10_init_13 : decode cX10_init 13 = .ok (.aload_n 0, 1) := by decide +kernel
theorem dX10_init_14 : decode cX10_init 14 = .ok (.sipush 800, 3) := by decide +kernel
theorem dX10_init_17 : decode cX10_init 17 = .ok (.newarray .int, 2) := by decide +kernel
theorem dX10_init_19 : decode cX10_init 19 = .ok (.putfield 13, 3) := by decide +kernel
theorem dX10_init_22 : decode cX10_init 22 = .ok (.aload_n 0, 1) := by decide +kernel
theorem dX10_init_23 : decode cX10_init 23 = .ok (.iconst 3, 1) := by decide +kernel
theorem dX10_init_24 : decode cX10_init 24 = .ok (.newarray .boolean, 2) := by decide +kernel
theorem dX10_init_26 : decode cX10_init 26 = .ok (.putfield 16, 3) := by decide +kernel
theorem dX10_init_29 : decode cX10_init 29 = .ok (.aload_n 0, 1) := by decide +kernel
theorem dX10_init_30 : decode cX10_init 30 = .ok (.iconst (-1), 1) := by decide +kernel
theorem dX10_init_31 : decode cX10_init 31 = .ok (.putfield 20, 3) := by decide +kernel
theorem dX10_init_34 : decode cX10_init 34 = .ok (.aload_n 0, 1) := by decide +kernel
theorem dX10_init_35 : decode cX10_init 35 = .ok (.bipush 9, 2) := by decide +kernel
theorem dX10_init_37 : decode cX10_init 37 = .ok (.newarray .int, 2) := by decide +kernel
theorem dX10_init_39 : decode cX10_init 39 = .ok (.putfield 24, 3) := by decide +kernel
theorem dX10_init_42 : decode cX10_init 42 = .ok (.aload_n 0, 1) := by decide +kernel
theorem dX10_init_43 : decode cX10_init 43 = .ok (.sipush 400, 3) := by decide +kernel
theorem dX10_init_46 : decode cX10_init 46 = .ok (.newarray .int, 2) := by decide +kernel
theorem dX10_init_48 : decode cX10_init 48 = .ok (.putfield 27, 3) := by decide +kernel
theorem dX10_init_51 : decode cX10_init 51 = .ok (.aload_n 0, 1) := by decide +kernel
theorem dX10_init_52 : decode cX10_init 52 = .ok (.sipush 400, 3) := by decide +kernel
theorem dX10_init_55 : decode cX10_init 55 = .ok (.newarray .int, 2) := by decide +kernel
theorem dX10_init_57 : decode cX10_init 57 = .ok (.putfield 30, 3) := by decide +kernel
theorem dX10_init_60 : decode cX10_init 60 = .ok (.aload_n 0, 1) := by decide +kernel
theorem dX10_init_61 : decode cX10_init 61 = .ok (.sipush 400, 3) := by decide +kernel
theorem dX10_init_64 : decode cX10_init 64 = .ok (.newarray .int, 2) := by decide +kernel
theorem dX10_init_66 : decode cX10_init 66 = .ok (.putfield 33, 3) := by decide +kernel
theorem dX10_init_69 : decode cX10_init 69 = .ok (.aload_n 0, 1) := by decide +kernel
theorem dX10_init_70 : decode cX10_init 70 = .ok (.iconst 0, 1) := by decide +kernel
theorem dX10_init_71 : decode cX10_init 71 = .ok (.invokevirtual 36, 3) := by decide +kernel
theorem dX10_init_74 : decode cX10_init 74 = .ok (.return_, 1) := by decide +kernel
theorem dX10_firsts_0 : decode cX10_firsts 0 = .ok (.iconst 0, 1) := by decide +kernel
theorem dX10_firsts_1 : decode cX10_firsts 1 = .ok (.istore_n 2, 1) := by decide +kernel
theorem dX10_firsts_2 : decode cX10_firsts 2 = .ok (.iload_n 2, 1) := by decide +kernel
theorem dX10_firsts_3 : decode cX10_firsts 3 = .ok (.sipush 474, 3) := by decide +kernel
theorem dX10_firsts_6 : decode cX10_firsts 6 = .ok (.if_icmp .ge 18, 3) := by decide +kernel
theorem dX10_firsts_9 : decode cX10_firsts 9 = .ok (.aload_n 0, 1) := by decide +kernel
theorem dX10_firsts_10 : decode cX10_firsts 10 = .ok (.getfield 7, 3) := by decide +kernel
theorem dX10_firsts_13 : decode cX10_firsts 13 = .ok (.iload_n 1, 1) := by decide +kernel
theorem dX10_firsts_14 : decode cX10_firsts 14 = .ok (.iload_n 2, 1) := by decide +kernel
theorem dX10_firsts_15 : decode cX10_firsts 15 = .ok (.iadd, 1) := by decide +kernel
theorem dX10_firsts_16 : decode cX10_firsts 16 = .ok (.iconst 0, 1) := by decide +kernel
theorem dX10_firsts_17 : decode cX10_firsts 17 = .ok (.iastore, 1) := by decide +kernel
theorem dX10_firsts_18 : decode cX10_firsts 18 = .ok (.iinc 2 1, 3) := by decide +kernel
theorem dX10_firsts_21 : decode cX10_firsts 21 = .ok (.goto (-19), 3) := by decide +kernel
theorem dX10_firsts_24 : decode cX10_firsts 24 = .ok (.aload_n 0, 1) := by decide +kernel
theorem dX10_firsts_25 : decode cX10_firsts 25 = .ok (.getfield 7, 3) := by decide +kernel
theorem dX10_firsts_28 : decode cX10_firsts 28 = .ok (.iload_n 1, 1) := by decide +kernel
theorem dX10_firsts_29 : decode cX10_firsts 29 = .ok (.iconst 1, 1) := by decide +kernel
theorem dX10_firsts_30 : decode cX10_firsts 30 = .ok (.iadd, 1) := by decide +kernel
theorem dX10_firsts_31 : decode cX10_firsts 31 = .ok (.iconst 4, 1) := by decide +kernel
theorem dX10_firsts_32 : decode cX10_firsts 32 = .ok (.iastore, 1) := by decide +kernel
theorem dX10_firsts_33 : decode cX10_firsts 33 = .ok (.aload_n 0, 1) := by decide +kernel
theorem dX10_firsts_34 : decode cX10_firsts 34 = .ok (.getfield 7, 3) := by decide +kernel
theorem dX10_firsts_37 : decode cX10_firsts 37 = .ok (.iload_n 1, 1) := by decide +kernel
theorem dX10_firsts_38 : decode cX10_firsts 38 = .ok (.iconst 2, 1) := by decide +kernel
theorem dX10_firsts_39 : decode cX10_firsts 39 = .ok (.iadd, 1) := by decide +kernel
theorem dX10_firsts_40 : decode cX10_firsts 40 = .ok (.bipush 6, 2) := by decide +kernel
theorem dX10_firsts_42 : decode cX10_firsts 42 = .ok (.iastore, 1) := by decide +kernel
theorem dX10_firsts_43 : decode cX10_firsts 43 = .ok (.iconst 0, 1) := by decide +kernel
theorem dX10_firsts_44 : decode cX10_firsts 44 = .ok (.istore_n 2, 1) := by decide +kernel
theorem dX10_firsts_45 : decode cX10_firsts 45 = .ok (.iload_n 2, 1) := by decide +kernel
theorem dX10_firsts_46 : decode cX10_firsts 46 = .ok (.iconst 4, 1) := by decide +kernel
theorem dX10_firsts_47 : decode cX10_firsts 47 = .ok (.if_icmp .ge 20, 3) := by decide +kernel
theorem dX10_firsts_50 : decode cX10_firsts 50 = .ok (.aload_n 0, 1) := by decide +kernel
theorem dX10_firsts_51 : decode cX10_firsts 51 = .ok (.getfield 7, 3) := by decide +kernel
theorem dX10_firsts_54 : decode cX10_firsts 54 = .ok (.iload_n 1, 1) := by decide +kernel
theorem dX10_firsts_55 : decode cX10_firsts 55 = .ok (.iconst 3, 1) := by decide +kernel
theorem dX10_firsts_56 : decode cX10_firsts 56 = .ok (.iadd, 1) := by decide +kernel
theorem dX10_firsts_57 : decode cX10_firsts 57 = .ok (.iload_n 2, 1) := by decide +kernel
theorem dX10_firsts_58 : decode cX10_firsts 58 = .ok (.iadd, 1) := by decide +kernel
theorem dX10_firsts_59 : decode cX10_firsts 59 = .ok (.iconst 1, 1) := by decide +kernel
theorem dX10_firsts_60 : decode cX10_firsts 60 = .ok (.iastore, 1) := by decide +kernel
theorem dX10_firsts_61 : decode cX10_firsts 61 = .ok (.iinc 2 1, 3) := by decide +kernel
theorem dX10_firsts_64 : decode cX10_firsts 64 = .ok (.goto (-19), 3) := by decide +kernel
theorem dX10_firsts_67 : decode cX10_firsts 67 = .ok (.iconst 0, 1) := by decide +kernel
theorem dX10_firsts_68 : decode cX10_firsts 68 = .ok (.istore_n 2, 1) := by decide +kernel
theorem dX10_firsts_69 : decode cX10_firsts 69 = .ok (.iload_n 2, 1) := by decide +kernel
theorem dX10_firsts_70 : decode cX10_firsts 70 = .ok (.bipush 6, 2) := by decide +kernel
theorem dX10_firsts_72 : decode cX10_firsts 72 = .ok (.if_icmp .ge 22, 3) := by decide +kernel
theorem dX10_firsts_75 : decode cX10_firsts 75 = .ok (.aload_n 0, 1) := by decide +kernel
theorem dX10_firsts_76 : decode cX10_firsts 76 = .ok (.getfield 7, 3) := by decide +kernel
theorem dX10_firsts_79 : decode cX10_firsts 79 = .ok (.iload_n 1, 1) := by decide +kernel
theorem dX10_firsts_80 : decode cX10_firsts 80 = .ok (.sipush 240, 3) := by decide +kernel
theorem dX10_firsts_83 : decode cX10_firsts 83 = .ok (.iadd, 1) := by decide +kernel
theorem dX10_firsts_84 : decode cX10_firsts 84 = .ok (.iload_n 2, 1) := by decide +kernel
theorem dX10_firsts_85 : decode cX10_firsts 85 = .ok (.iadd, 1) := by decide +kernel
theorem dX10_firsts_86 : decode cX10_firsts 86 = .ok (.iconst (-1), 1) := by decide +kernel
theorem dX10_firsts_87 : decode cX10_firsts 87 = .ok (.iastore, 1) := by decide +kernel
theorem dX10_firsts_88 : decode cX10_firsts 88 = .ok (.iinc 2 1, 3) := by decide +kernel
theorem dX10_firsts_91 : decode cX10_firsts 91 = .ok (.goto (-22), 3) := by decide +kernel
theorem dX10_firsts_94 : decode cX10_firsts 94 = .ok (.return_, 1) := by decide +kernel
theorem dX10_isIn_0 : decode cX10_isIn 0 = .ok (.iload_n 0, 1) := by decide +kernel
theorem dX10_isIn_1 : decode cX10_isIn 1 = .ok (.iload_n 1, 1) := by decide +kernel
theorem dX10_isIn_2 : decode cX10_isIn 2 = .ok (.if_icmp .lt 12, 3) := by decide +kernel
theorem dX10_isIn_5 : decode cX10_isIn 5 = .ok (.iload_n 0, 1) := by decide +kernel
theorem dX10_isIn_6 : decode cX10_isIn 6 = .ok (.iload_n 2, 1) := by decide +kernel
theorem dX10_isIn_7 : decode cX10_isIn 7 = .ok (.if_icmp .gt 7, 3) := by decide +kernel
theorem dX10_isIn_10 : decode cX10_isIn 10 = .ok (.iconst 1, 1) := by decide +kernel
theorem dX10_isIn_11 : decode cX10_isIn 11 = .ok (.goto 4, 3) := by decide +kernel
theorem dX10_isIn_14 : decode cX10_isIn 14 = .ok (.iconst 0, 1) := by decide +kernel
theorem dX10_isIn_15 : decode cX10_isIn 15 = .ok (.ireturn, 1) := by decide +kernel
theorem dX10_has_0 : decode cX10_has 0 = .ok (.iload_n 0, 1) := by decide +kernel
theorem dX10_has_1 : decode cX10_has 1 = .ok (.iload_n 1, 1) := by decide +kernel
theorem dX10_has_2 : decode cX10_has 2 = .ok (.ishr, 1) := by decide +kernel
theorem dX10_has_3 : decode cX10_has 3 = .ok (.iconst 1, 1) := by decide +kernel
theorem dX10_has_4 : decode cX10_has 4 = .ok (.iand, 1) := by decide +kernel
theorem dX10_has_5 : decode cX10_has 5 = .ok (.iconst 1, 1) := by decide +kernel
theorem dX10_has_6 : decode cX10_has 6 = .ok (.if_icmp .ne 7, 3) := by decide +kernel
theorem dX10_has_9 : decode cX10_has 9 = .ok (.iconst 1, 1) := by decide +kernel
theorem dX10_has_10 : decode cX10_has 10 = .ok (.goto 4, 3) := by decide +kernel
theorem dX10_has_13 : decode cX10_has 13 = .ok (.iconst 0, 1) := by decide +kernel
theorem dX10_has_14 : decode cX10_has 14 = .ok (.ireturn, 1) := by decide +kernel
theorem dX10_copies_0 : decode cX10_copies 0 = .ok (.iconst 0, 1) := by decide +kernel
theorem dX10_copies_1 : decode cX10_copies 1 = .ok (.istore 4, 2) := by decide +kernel
theorem dX10_copies_3 : decode cX10_copies 3 = .ok (.iload 4, 2) := by decide +kernel
theorem dX10_copies_5 : decode cX10_copies 5 = .ok (.iload_n 3, 1) := by decide +kernel
theorem dX10_copies_6 : decode cX10_copies 6 = .ok (.if_icmp .ge 27, 3) := by decide +kernel
theorem dX10_copies_9 : decode cX10_copies 9 = .ok (.aload_n 0, 1) := by decide +kernel
theorem dX10_copies_10 : decode cX10_copies 10 = .ok (.getfield 7, 3) := by decide +kernel
theorem dX10_copies_13 : decode cX10_copies 13 = .ok (.iload_n 2, 1) := by decide +kernel
theorem dX10_copies_14 : decode cX10_copies 14 = .ok (.iload 4, 2) := by decide +kernel
theorem dX10_copies_16 : decode cX10_copies 16 = .ok (.iadd, 1) := by decide +kernel
theorem dX10_copies_17 : decode cX10_copies 17 = .ok (.aload_n 0, 1) := by decide +kernel
theorem dX10_copies_18 : decode cX10_copies 18 = .ok (.getfield 7, 3) := by decide +kernel
theorem dX10_copies_21 : decode cX10_copies 21 = .ok (.iload_n 1, 1) := by decide +kernel
theorem dX10_copies_22 : decode cX10_copies 22 = .ok (.iload 4, 2) := by decide +kernel
theorem dX10_copies_24 : decode cX10_copies 24 = .ok (.iadd, 1) := by decide +kernel
theorem dX10_copies_25 : decode cX10_copies 25 = .ok (.iaload, 1) := by decide +kernel
theorem dX10_copies_26 : decode cX10_copies 26 = .ok (.iastore, 1) := by decide +kernel
theorem dX10_copies_27 : decode cX10_copies 27 = .ok (.iinc 4 1, 3) := by decide +kernel
theorem dX10_copies_30 : decode cX10_copies 30 = .ok (.goto (-27), 3) := by decide +kernel
theorem dX10_copies_33 : decode cX10_copies 33 = .ok (.return_, 1) := by decide +kernel
theorem dX10_workers_0 : decode cX10_workers 0 = .ok (.aload_n 0, 1) := by decide +kernel
theorem dX10_workers_1 : decode cX10_workers 1 = .ok (.getfield 7, 3) := by decide +kernel
theorem dX10_workers_4 : decode cX10_workers 4 = .ok (.aload_n 0, 1) := by decide +kernel
theorem dX10_workers_5 : decode cX10_workers 5 = .ok (.getfield 40, 3) := by decide +kernel
theorem dX10_workers_8 : decode cX10_workers 8 = .ok (.iconst 0, 1) := by decide +kernel
theorem dX10_workers_9 : decode cX10_workers 9 = .ok (.iadd, 1) := by decide +kernel
theorem dX10_workers_10 : decode cX10_workers 10 = .ok (.iaload, 1) := by decide +kernel
theorem dX10_workers_11 : decode cX10_workers 11 = .ok (.ireturn, 1) := by decide +kernel
theorem dX10_isWorker_0 : decode cX10_isWorker 0 = .ok (.iload_n 1, 1) := by decide +kernel
theorem dX10_isWorker_1 : decode cX10_isWorker 1 = .ok (.iconst 0, 1) := by decide +kernel
theorem dX10_isWorker_2 : decode cX10_isWorker 2 = .ok (.aload_n 0, 1) := by decide +kernel
theorem dX10_isWorker_3 : decode cX10_isWorker 3 = .ok (.invokevirtual 43, 3) := by decide +kernel
theorem dX10_isWorker_6 : decode cX10_isWorker 6 = .ok (.iconst 1, 1) := by decide +kernel
theorem dX10_isWorker_7 : decode cX10_isWorker 7 = .ok (.isub, 1) := by decide +kernel
theorem dX10_isWorker_8 : decode cX10_isWorker 8 = .ok (.invokestatic 47, 3) := by decide +kernel
theorem dX10_isWorker_11 : decode cX10_isWorker 11 = .ok (.ireturn, 1) := by decide +kernel
theorem dX10_place_0 : decode cX10_place 0 = .ok (.aload_n 0, 1) := by decide +kernel
theorem dX10_place_1 : decode cX10_place 1 = .ok (.getfield 7, 3) := by decide +kernel
theorem dX10_place_4 : decode cX10_place 4 = .ok (.aload_n 0, 1) := by decide +kernel
theorem dX10_place_5 : decode cX10_place 5 = .ok (.getfield 40, 3) := by decide +kernel
theorem dX10_place_8 : decode cX10_place 8 = .ok (.sipush 208, 3) := by decide +kernel
theorem dX10_place_11 : decode cX10_place 11 = .ok (.iadd, 1) := by decide +kernel
theorem dX10_place_12 : decode cX10_place 12 = .ok (.iload_n 1, 1) := by decide +kernel
theorem dX10_place_13 : decode cX10_place 13 = .ok (.iadd, 1) := by decide +kernel
theorem dX10_place_14 : decode cX10_place 14 = .ok (.iaload, 1) := by decide +kernel
theorem dX10_place_15 : decode cX10_place 15 = .ok (.ireturn, 1) := by decide +kernel
theorem dX10_isEnded_0 : decode cX10_isEnded 0 = .ok (.aload_n 0, 1) := by decide +kernel
theorem dX10_isEnded_1 : decode cX10_isEnded 1 = .ok (.iload_n 1, 1) := by decide +kernel
theorem dX10_isEnded_2 : decode cX10_isEnded 2 = .ok (.invokevirtual 51, 3) := by decide +kernel
theorem dX10_isEnded_5 : decode cX10_isEnded 5 = .ok (.iconst (-1), 1) := by decide +kernel
theorem dX10_isEnded_6 : decode cX10_isEnded 6 = .ok (.if_icmp .ne 7, 3) := by decide +kernel
theorem dX10_isEnded_9 : decode cX10_isEnded 9 = .ok (.iconst 1, 1) := by decide +kernel
theorem dX10_isEnded_10 : decode cX10_isEnded 10 = .ok (.goto 4, 3) := by decide +kernel
theorem dX10_isEnded_13 : decode cX10_isEnded 13 = .ok (.iconst 0, 1) := by decide +kernel
theorem dX10_isEnded_14 : decode cX10_isEnded 14 = .ok (.ireturn, 1) := by decide +kernel
theorem dX10_sort_0 : decode cX10_sort 0 = .ok (.aload_n 0, 1) := by decide +kernel
theorem dX10_sort_1 : decode cX10_sort 1 = .ok (.getfield 7, 3) := by decide +kernel
theorem dX10_sort_4 : decode cX10_sort 4 = .ok (.aload_n 0, 1) := by decide +kernel
theorem dX10_sort_5 : decode cX10_sort 5 = .ok (.getfield 40, 3) := by decide +kernel
theorem dX10_sort_8 : decode cX10_sort 8 = .ok (.bipush 15, 2) := by decide +kernel
theorem dX10_sort_10 : decode cX10_sort 10 = .ok (.iadd, 1) := by decide +kernel
theorem dX10_sort_11 : decode cX10_sort 11 = .ok (.bipush 12, 2) := by decide +kernel
theorem dX10_sort_13 : decode cX10_sort 13 = .ok (.iload_n 1, 1) := by decide +kernel
theorem dX10_sort_14 : decode cX10_sort 14 = .ok (.imul, 1) := by decide +kernel
theorem dX10_sort_15 : decode cX10_sort 15 = .ok (.iadd, 1) := by decide +kernel
theorem dX10_sort_16 : decode cX10_sort 16 = .ok (.iload_n 2, 1) := by decide +kernel
theorem dX10_sort_17 : decode cX10_sort 17 = .ok (.iadd, 1) := by decide +kernel
theorem dX10_sort_18 : decode cX10_sort 18 = .ok (.iaload, 1) := by decide +kernel
theorem dX10_sort_19 : decode cX10_sort 19 = .ok (.ireturn, 1) := by decide +kernel
theorem dX10_number_0 : decode cX10_number 0 = .ok (.aload_n 0, 1) := by decide +kernel
theorem dX10_number_1 : decode cX10_number 1 = .ok (.getfield 7, 3) := by decide +kernel
theorem dX10_number_4 : decode cX10_number 4 = .ok (.aload_n 0, 1) := by decide +kernel
theorem dX10_number_5 : decode cX10_number 5 = .ok (.getfield 40, 3) := by decide +kernel
theorem dX10_number_8 : decode cX10_number 8 = .ok (.bipush 111, 2) := by decide +kernel
theorem dX10_number_10 : decode cX10_number 10 = .ok (.iadd, 1) := by decide +kernel
theorem dX10_number_11 : decode cX10_number 11 = .ok (.bipush 12, 2) := by decide +kernel
theorem dX10_number_13 : decode cX10_number 13 = .ok (.iload_n 1, 1) := by decide +kernel
theorem dX10_number_14 : decode cX10_number 14 = .ok (.imul, 1) := by decide +kernel
theorem dX10_number_15 : decode cX10_number 15 = .ok (.iadd, 1) := by decide +kernel
theorem dX10_number_16 : decode cX10_number 16 = .ok (.iload_n 2, 1) := by decide +kernel
theorem dX10_number_17 : decode cX10_number 17 = .ok (.iadd, 1) := by decide +kernel
theorem dX10_number_18 : decode cX10_number 18 = .ok (.iaload, 1) := by decide +kernel
theorem dX10_number_19 : decode cX10_number 19 = .ok (.ireturn, 1) := by decide +kernel
theorem dX10_sortNow_0 : decode cX10_sortNow 0 = .ok (.aload_n 0, 1) := by decide +kernel
theorem dX10_sortNow_1 : decode cX10_sortNow 1 = .ok (.iload_n 1, 1) := by decide +kernel
theorem dX10_sortNow_2 : decode cX10_sortNow 2 = .ok (.aload_n 0, 1) := by decide +kernel
theorem dX10_sortNow_3 : decode cX10_sortNow 3 = .ok (.iload_n 1, 1) := by decide +kernel
theorem dX10_sortNow_4 : decode cX10_sortNow 4 = .ok (.invokevirtual 51, 3) := by decide +kernel
theorem dX10_sortNow_7 : decode cX10_sortNow 7 = .ok (.invokevirtual 55, 3) := by decide +kernel
theorem dX10_sortNow_10 : decode cX10_sortNow 10 = .ok (.ireturn, 1) := by decide +kernel
theorem dX10_numberNow_0 : decode cX10_numberNow 0 = .ok (.aload_n 0, 1) := by decide +kernel
theorem dX10_numberNow_1 : decode cX10_numberNow 1 = .ok (.iload_n 1, 1) := by decide +kernel
theorem dX10_numberNow_2 : decode cX10_numberNow 2 = .ok (.aload_n 0, 1) := by decide +kernel
theorem dX10_numberNow_3 : decode cX10_numberNow 3 = .ok (.iload_n 1, 1) := by decide +kernel
theorem dX10_numberNow_4 : decode cX10_numberNow 4 = .ok (.invokevirtual 51, 3) := by decide +kernel
theorem dX10_numberNow_7 : decode cX10_numberNow 7 = .ok (.invokevirtual 59, 3) := by decide +kernel
theorem dX10_numberNow_10 : decode cX10_numberNow 10 = .ok (.ireturn, 1) := by decide +kernel
theorem dX10_quiet_0 : decode cX10_quiet 0 = .ok (.aload_n 0, 1) := by decide +kernel
theorem dX10_quiet_1 : decode cX10_quiet 1 = .ok (.getfield 7, 3) := by decide +kernel
theorem dX10_quiet_4 : decode cX10_quiet 4 = .ok (.aload_n 0, 1) := by decide +kernel
theorem dX10_quiet_5 : decode cX10_quiet 5 = .ok (.getfield 40, 3) := by decide +kernel
theorem dX10_quiet_8 : decode cX10_quiet 8 = .ok (.sipush 207, 3) := by decide +kernel
theorem dX10_quiet_11 : decode cX10_quiet 11 = .ok (.iadd, 1) := by decide +kernel
theorem dX10_quiet_12 : decode cX10_quiet 12 = .ok (.iaload, 1) := by decide +kernel
theorem dX10_quiet_13 : decode cX10_quiet 13 = .ok (.aload_n 0, 1) := by decide +kernel
theorem dX10_quiet_14 : decode cX10_quiet 14 = .ok (.getfield 7, 3) := by decide +kernel
theorem dX10_quiet_17 : decode cX10_quiet 17 = .ok (.aload_n 0, 1) := by decide +kernel
theorem dX10_quiet_18 : decode cX10_quiet 18 = .ok (.getfield 40, 3) := by decide +kernel
theorem dX10_quiet_21 : decode cX10_quiet 21 = .ok (.sipush 224, 3) := by decide +kernel
theorem dX10_quiet_24 : decode cX10_quiet 24 = .ok (.iadd, 1) := by decide +kernel
theorem dX10_quiet_25 : decode cX10_quiet 25 = .ok (.iload_n 1, 1) := by decide +kernel
theorem dX10_quiet_26 : decode cX10_quiet 26 = .ok (.iadd, 1) := by decide +kernel
theorem dX10_quiet_27 : decode cX10_quiet 27 = .ok (.iaload, 1) := by decide +kernel
theorem dX10_quiet_28 : decode cX10_quiet 28 = .ok (.isub, 1) := by decide +kernel
theorem dX10_quiet_29 : decode cX10_quiet 29 = .ok (.ireturn, 1) := by decide +kernel
theorem dX10_beats_0 : decode cX10_beats 0 = .ok (.aload_n 0, 1) := by decide +kernel
theorem dX10_beats_1 : decode cX10_beats 1 = .ok (.getfield 7, 3) := by decide +kernel
theorem dX10_beats_4 : decode cX10_beats 4 = .ok (.aload_n 0, 1) := by decide +kernel
theorem dX10_beats_5 : decode cX10_beats 5 = .ok (.getfield 40, 3) := by decide +kernel
theorem dX10_beats_8 : decode cX10_beats 8 = .ok (.sipush 224, 3) := by decide +kernel
theorem dX10_beats_11 : decode cX10_beats 11 = .ok (.iadd, 1) := by decide +kernel
theorem dX10_beats_12 : decode cX10_beats 12 = .ok (.iload_n 1, 1) := by decide +kernel
theorem dX10_beats_13 : decode cX10_beats 13 = .ok (.iadd, 1) := by decide +kernel
theorem dX10_beats_14 : decode cX10_beats 14 = .ok (.aload_n 0, 1) := by decide +kernel
theorem dX10_beats_15 : decode cX10_beats 15 = .ok (.getfield 7, 3) := by decide +kernel
theorem dX10_beats_18 : decode cX10_beats 18 = .ok (.aload_n 0, 1) := by decide +kernel
theorem dX10_beats_19 : decode cX10_beats 19 = .ok (.getfield 40, 3) := by decide +kernel
theorem dX10_beats_22 : decode cX10_beats 22 = .ok (.sipush 207, 3) := by decide +kernel
theorem dX10_beats_25 : decode cX10_beats 25 = .ok (.iadd, 1) := by decide +kernel
theorem dX10_beats_26 : decode cX10_beats 26 = .ok (.iaload, 1) := by decide +kernel
theorem dX10_beats_27 : decode cX10_beats 27 = .ok (.iastore, 1) := by decide +kernel
theorem dX10_beats_28 : decode cX10_beats 28 = .ok (.aload_n 0, 1) := by decide +kernel
theorem dX10_beats_29 : decode cX10_beats 29 = .ok (.getfield 7, 3) := by decide +kernel
theorem dX10_beats_32 : decode cX10_beats 32 = .ok (.aload_n 0, 1) := by decide +kernel
theorem dX10_beats_33 : decode cX10_beats 33 = .ok (.getfield 40, 3) := by decide +kernel
theorem dX10_beats_36 : decode cX10_beats 36 = .ok (.sipush 314, 3) := by decide +kernel
theorem dX10_beats_39 : decode cX10_beats 39 = .ok (.iadd, 1) := by decide +kernel
theorem dX10_beats_40 : decode cX10_beats 40 = .ok (.iload_n 1, 1) := by decide +kernel
theorem dX10_beats_41 : decode cX10_beats 41 = .ok (.iadd, 1) := by decide +kernel
theorem dX10_beats_42 : decode cX10_beats 42 = .ok (.iconst 0, 1) := by decide +kernel
theorem dX10_beats_43 : decode cX10_beats 43 = .ok (.iastore, 1) := by decide +kernel
theorem dX10_beats_44 : decode cX10_beats 44 = .ok (.return_, 1) := by decide +kernel
theorem dX10_goesOn_0 : decode cX10_goesOn 0 = .ok (.aload_n 0, 1) := by decide +kernel
theorem dX10_goesOn_1 : decode cX10_goesOn 1 = .ok (.iload_n 1, 1) := by decide +kernel
theorem dX10_goesOn_2 : decode cX10_goesOn 2 = .ok (.invokevirtual 62, 3) := by decide +kernel
theorem dX10_goesOn_5 : decode cX10_goesOn 5 = .ok (.istore_n 2, 1) := by decide +kernel
theorem dX10_goesOn_6 : decode cX10_goesOn 6 = .ok (.aload_n 0, 1) := by decide +kernel
theorem dX10_goesOn_7 : decode cX10_goesOn 7 = .ok (.getfield 7, 3) := by decide +kernel
theorem dX10_goesOn_10 : decode cX10_goesOn 10 = .ok (.aload_n 0, 1) := by decide +kernel
theorem dX10_goesOn_11 : decode cX10_goesOn 11 = .ok (.getfield 40, 3) := by decide +kernel
theorem dX10_goesOn_14 : decode cX10_goesOn 14 = .ok (.sipush 208, 3) := by decide +kernel
theorem dX10_goesOn_17 : decode cX10_goesOn 17 = .ok (.iadd, 1) := by decide +kernel
theorem dX10_goesOn_18 : decode cX10_goesOn 18 = .ok (.iload_n 1, 1) := by decide +kernel
theorem dX10_goesOn_19 : decode cX10_goesOn 19 = .ok (.iadd, 1) := by decide +kernel
theorem dX10_goesOn_20 : decode cX10_goesOn 20 = .ok (.iload_n 2, 1) := by decide +kernel
theorem dX10_goesOn_21 : decode cX10_goesOn 21 = .ok (.bipush 8, 2) := by decide +kernel
theorem dX10_goesOn_23 : decode cX10_goesOn 23 = .ok (.if_icmp .ne 7, 3) := by decide +kernel
theorem dX10_goesOn_26 : decode cX10_goesOn 26 = .ok (.iconst 0, 1) := by decide +kernel
theorem dX10_goesOn_27 : decode cX10_goesOn 27 = .ok (.goto 44, 3) := by decide +kernel
theorem dX10_goesOn_30 : decode cX10_goesOn 30 = .ok (.iload_n 2, 1) := by decide +kernel
theorem dX10_goesOn_31 : decode cX10_goesOn 31 = .ok (.bipush 9, 2) := by decide +kernel
theorem dX10_goesOn_33 : decode cX10_goesOn 33 = .ok (.if_icmp .eq 27, 3) := by decide +kernel
theorem dX10_goesOn_36 : decode cX10_goesOn 36 = .ok (.aload_n 0, 1) := by decide +kernel
theorem dX10_goesOn_37 : decode cX10_goesOn 37 = .ok (.iload_n 1, 1) := by decide +kernel
theorem dX10_goesOn_38 : decode cX10_goesOn 38 = .ok (.invokevirtual 51, 3) := by decide +kernel
theorem dX10_goesOn_41 : decode cX10_goesOn 41 = .ok (.iconst 1, 1) := by decide +kernel
theorem dX10_goesOn_42 : decode cX10_goesOn 42 = .ok (.iadd, 1) := by decide +kernel
theorem dX10_goesOn_43 : decode cX10_goesOn 43 = .ok (.aload_n 0, 1) := by decide +kernel
theorem dX10_goesOn_44 : decode cX10_goesOn 44 = .ok (.getfield 7, 3) := by decide +kernel
theorem dX10_goesOn_47 : decode cX10_goesOn 47 = .ok (.aload_n 0, 1) := by decide +kernel
theorem dX10_goesOn_48 : decode cX10_goesOn 48 = .ok (.getfield 40, 3) := by decide +kernel
theorem dX10_goesOn_51 : decode cX10_goesOn 51 = .ok (.bipush 7, 2) := by decide +kernel
theorem dX10_goesOn_53 : decode cX10_goesOn 53 = .ok (.iadd, 1) := by decide +kernel
theorem dX10_goesOn_54 : decode cX10_goesOn 54 = .ok (.iload_n 1, 1) := by decide +kernel
theorem dX10_goesOn_55 : decode cX10_goesOn 55 = .ok (.iadd, 1) := by decide +kernel
theorem dX10_goesOn_56 : decode cX10_goesOn 56 = .ok (.iaload, 1) := by decide +kernel
theorem dX10_goesOn_57 : decode cX10_goesOn 57 = .ok (.if_icmp .ne 7, 3) := by decide +kernel
theorem dX10_goesOn_60 : decode cX10_goesOn 60 = .ok (.iconst (-1), 1) := by decide +kernel
theorem dX10_goesOn_61 : decode cX10_goesOn 61 = .ok (.goto 10, 3) := by decide +kernel
theorem dX10_goesOn_64 : decode cX10_goesOn 64 = .ok (.aload_n 0, 1) := by decide +kernel
theorem dX10_goesOn_65 : decode cX10_goesOn 65 = .ok (.iload_n 1, 1) := by decide +kernel
theorem dX10_goesOn_66 : decode cX10_goesOn 66 = .ok (.invokevirtual 51, 3) := by decide +kernel
theorem dX10_goesOn_69 : decode cX10_goesOn 69 = .ok (.iconst 1, 1) := by decide +kernel
theorem dX10_goesOn_70 : decode cX10_goesOn 70 = .ok (.iadd, 1) := by decide +kernel
theorem dX10_goesOn_71 : decode cX10_goesOn 71 = .ok (.iastore, 1) := by decide +kernel
theorem dX10_goesOn_72 : decode cX10_goesOn 72 = .ok (.aload_n 0, 1) := by decide +kernel
theorem dX10_goesOn_73 : decode cX10_goesOn 73 = .ok (.getfield 7, 3) := by decide +kernel
theorem dX10_goesOn_76 : decode cX10_goesOn 76 = .ok (.aload_n 0, 1) := by decide +kernel
theorem dX10_goesOn_77 : decode cX10_goesOn 77 = .ok (.getfield 40, 3) := by decide +kernel
theorem dX10_goesOn_80 : decode cX10_goesOn 80 = .ok (.sipush 216, 3) := by decide +kernel
theorem dX10_goesOn_83 : decode cX10_goesOn 83 = .ok (.iadd, 1) := by decide +kernel
theorem dX10_goesOn_84 : decode cX10_goesOn 84 = .ok (.iload_n 1, 1) := by decide +kernel
theorem dX10_goesOn_85 : decode cX10_goesOn 85 = .ok (.iadd, 1) := by decide +kernel
theorem dX10_goesOn_86 : decode cX10_goesOn 86 = .ok (.iconst 0, 1) := by decide +kernel
theorem dX10_goesOn_87 : decode cX10_goesOn 87 = .ok (.iastore, 1) := by decide +kernel
theorem dX10_goesOn_88 : decode cX10_goesOn 88 = .ok (.aload_n 0, 1) := by decide +kernel
theorem dX10_goesOn_89 : decode cX10_goesOn 89 = .ok (.getfield 7, 3) := by decide +kernel
theorem dX10_goesOn_92 : decode cX10_goesOn 92 = .ok (.aload_n 0, 1) := by decide +kernel
theorem dX10_goesOn_93 : decode cX10_goesOn 93 = .ok (.getfield 40, 3) := by decide +kernel
theorem dX10_goesOn_96 : decode cX10_goesOn 96 = .ok (.sipush 232, 3) := by decide +kernel
theorem dX10_goesOn_99 : decode cX10_goesOn 99 = .ok (.iadd, 1) := by decide +kernel
theorem dX10_goesOn_100 : decode cX10_goesOn 100 = .ok (.iload_n 1, 1) := by decide +kernel
theorem dX10_goesOn_101 : decode cX10_goesOn 101 = .ok (.iadd, 1) := by decide +kernel
theorem dX10_goesOn_102 : decode cX10_goesOn 102 = .ok (.dup2, 1) := by decide +kernel
theorem dX10_goesOn_103 : decode cX10_goesOn 103 = .ok (.iaload, 1) := by decide +kernel
theorem dX10_goesOn_104 : decode cX10_goesOn 104 = .ok (.iconst 1, 1) := by decide +kernel
theorem dX10_goesOn_105 : decode cX10_goesOn 105 = .ok (.iadd, 1) := by decide +kernel
theorem dX10_goesOn_106 : decode cX10_goesOn 106 = .ok (.iastore, 1) := by decide +kernel
theorem dX10_goesOn_107 : decode cX10_goesOn 107 = .ok (.aload_n 0, 1) := by decide +kernel
theorem dX10_goesOn_108 : decode cX10_goesOn 108 = .ok (.iload_n 1, 1) := by decide +kernel
theorem dX10_goesOn_109 : decode cX10_goesOn 109 = .ok (.invokevirtual 65, 3) := by decide +kernel
theorem dX10_goesOn_112 : decode cX10_goesOn 112 = .ok (.return_, 1) := by decide +kernel
theorem dX10_messageAt_0 : decode cX10_messageAt 0 = .ok (.aload_n 0, 1) := by decide +kernel
theorem dX10_messageAt_1 : decode cX10_messageAt 1 = .ok (.getfield 40, 3) := by decide +kernel
theorem dX10_messageAt_4 : decode cX10_messageAt 4 = .ok (.sipush 250, 3) := by decide +kernel
theorem dX10_messageAt_7 : decode cX10_messageAt 7 = .ok (.iadd, 1) := by decide +kernel
theorem dX10_messageAt_8 : decode cX10_messageAt 8 = .ok (.bipush 8, 2) := by decide +kernel
theorem dX10_messageAt_10 : decode cX10_messageAt 10 = .ok (.iload_n 1, 1) := by decide +kernel
theorem dX10_messageAt_11 : decode cX10_messageAt 11 = .ok (.imul, 1) := by decide +kernel
theorem dX10_messageAt_12 : decode cX10_messageAt 12 = .ok (.iadd, 1) := by decide +kernel
theorem dX10_messageAt_13 : decode cX10_messageAt 13 = .ok (.iload_n 2, 1) := by decide +kernel
theorem dX10_messageAt_14 : decode cX10_messageAt 14 = .ok (.iadd, 1) := by decide +kernel
theorem dX10_messageAt_15 : decode cX10_messageAt 15 = .ok (.ireturn, 1) := by decide +kernel
theorem dX10_canBe_0 : decode cX10_canBe 0 = .ok (.aload_n 0, 1) := by decide +kernel
theorem dX10_canBe_1 : decode cX10_canBe 1 = .ok (.iload_n 1, 1) := by decide +kernel
theorem dX10_canBe_2 : decode cX10_canBe 2 = .ok (.invokevirtual 68, 3) := by decide +kernel
theorem dX10_canBe_5 : decode cX10_canBe 5 = .ok (.istore_n 2, 1) := by decide +kernel
theorem dX10_canBe_6 : decode cX10_canBe 6 = .ok (.aload_n 0, 1) := by decide +kernel
theorem dX10_canBe_7 : decode cX10_canBe 7 = .ok (.iload_n 1, 1) := by decide +kernel
theorem dX10_canBe_8 : decode cX10_canBe 8 = .ok (.invokevirtual 62, 3) := by decide +kernel
theorem dX10_canBe_11 : decode cX10_canBe 11 = .ok (.tableswitch 143 1 6 #[37, 143, 62, 99, 143, 123], 37) := by decide +kernel
theorem dX10_canBe_48 : decode cX10_canBe 48 = .ok (.aload_n 0, 1) := by decide +kernel
theorem dX10_canBe_49 : decode cX10_canBe 49 = .ok (.getfield 7, 3) := by decide +kernel
theorem dX10_canBe_52 : decode cX10_canBe 52 = .ok (.aload_n 0, 1) := by decide +kernel
theorem dX10_canBe_53 : decode cX10_canBe 53 = .ok (.getfield 40, 3) := by decide +kernel
theorem dX10_canBe_56 : decode cX10_canBe 56 = .ok (.sipush 240, 3) := by decide +kernel
theorem dX10_canBe_59 : decode cX10_canBe 59 = .ok (.iadd, 1) := by decide +kernel
theorem dX10_canBe_60 : decode cX10_canBe 60 = .ok (.iload_n 2, 1) := by decide +kernel
theorem dX10_canBe_61 : decode cX10_canBe 61 = .ok (.iadd, 1) := by decide +kernel
theorem dX10_canBe_62 : decode cX10_canBe 62 = .ok (.iaload, 1) := by decide +kernel
theorem dX10_canBe_63 : decode cX10_canBe 63 = .ok (.iconst (-1), 1) := by decide +kernel
theorem dX10_canBe_64 : decode cX10_canBe 64 = .ok (.if_icmp .ne 7, 3) := by decide +kernel
theorem dX10_canBe_67 : decode cX10_canBe 67 = .ok (.iconst 1, 1) := by decide +kernel
theorem dX10_canBe_68 : decode cX10_canBe 68 = .ok (.goto 4, 3) := by decide +kernel
theorem dX10_canBe_71 : decode cX10_canBe 71 = .ok (.iconst 0, 1) := by decide +kernel
theorem dX10_canBe_72 : decode cX10_canBe 72 = .ok (.ireturn, 1) := by decide +kernel
theorem dX10_canBe_73 : decode cX10_canBe 73 = .ok (.aload_n 0, 1) := by decide +kernel
theorem dX10_canBe_74 : decode cX10_canBe 74 = .ok (.getfield 7, 3) := by decide +kernel
theorem dX10_canBe_77 : decode cX10_canBe 77 = .ok (.aload_n 0, 1) := by decide +kernel
theorem dX10_canBe_78 : decode cX10_canBe 78 = .ok (.getfield 40, 3) := by decide +kernel
theorem dX10_canBe_81 : decode cX10_canBe 81 = .ok (.sipush 246, 3) := by decide +kernel
theorem dX10_canBe_84 : decode cX10_canBe 84 = .ok (.iadd, 1) := by decide +kernel
theorem dX10_canBe_85 : decode cX10_canBe 85 = .ok (.iload_n 2, 1) := by decide +kernel
theorem dX10_canBe_86 : decode cX10_canBe 86 = .ok (.iadd, 1) := by decide +kernel
theorem dX10_canBe_87 : decode cX10_canBe 87 = .ok (.iaload, 1) := by decide +kernel
theorem dX10_canBe_88 : decode cX10_canBe 88 = .ok (.aload_n 0, 1) := by decide +kernel
theorem dX10_canBe_89 : decode cX10_canBe 89 = .ok (.getfield 7, 3) := by decide +kernel
theorem dX10_canBe_92 : decode cX10_canBe 92 = .ok (.aload_n 0, 1) := by decide +kernel
theorem dX10_canBe_93 : decode cX10_canBe 93 = .ok (.getfield 40, 3) := by decide +kernel
theorem dX10_canBe_96 : decode cX10_canBe 96 = .ok (.iconst 3, 1) := by decide +kernel
theorem dX10_canBe_97 : decode cX10_canBe 97 = .ok (.iadd, 1) := by decide +kernel
theorem dX10_canBe_98 : decode cX10_canBe 98 = .ok (.iload_n 2, 1) := by decide +kernel
theorem dX10_canBe_99 : decode cX10_canBe 99 = .ok (.iadd, 1) := by decide +kernel
theorem dX10_canBe_100 : decode cX10_canBe 100 = .ok (.iaload, 1) := by decide +kernel
theorem dX10_canBe_101 : decode cX10_canBe 101 = .ok (.if_icmp .ge 7, 3) := by decide +kernel
theorem dX10_canBe_104 : decode cX10_canBe 104 = .ok (.iconst 1, 1) := by decide +kernel
theorem dX10_canBe_105 : decode cX10_canBe 105 = .ok (.goto 4, 3) := by decide +kernel
theorem dX10_canBe_108 : decode cX10_canBe 108 = .ok (.iconst 0, 1) := by decide +kernel
theorem dX10_canBe_109 : decode cX10_canBe 109 = .ok (.ireturn, 1) := by decide +kernel
theorem dX10_canBe_110 : decode cX10_canBe 110 = .ok (.aload_n 0, 1) := by decide +kernel
theorem dX10_canBe_111 : decode cX10_canBe 111 = .ok (.getfield 7, 3) := by decide +kernel
theorem dX10_canBe_114 : decode cX10_canBe 114 = .ok (.aload_n 0, 1) := by decide +kernel
theorem dX10_canBe_115 : decode cX10_canBe 115 = .ok (.getfield 40, 3) := by decide +kernel
theorem dX10_canBe_118 : decode cX10_canBe 118 = .ok (.sipush 246, 3) := by decide +kernel
theorem dX10_canBe_121 : decode cX10_canBe 121 = .ok (.iadd, 1) := by decide +kernel
theorem dX10_canBe_122 : decode cX10_canBe 122 = .ok (.iload_n 2, 1) := by decide +kernel
theorem dX10_canBe_123 : decode cX10_canBe 123 = .ok (.iadd, 1) := by decide +kernel
theorem dX10_canBe_124 : decode cX10_canBe 124 = .ok (.iaload, 1) := by decide +kernel
theorem dX10_canBe_125 : decode cX10_canBe 125 = .ok (.ifCond .le 7, 3) := by decide +kernel
theorem dX10_canBe_128 : decode cX10_canBe 128 = .ok (.iconst 1, 1) := by decide +kernel
theorem dX10_canBe_129 : decode cX10_canBe 129 = .ok (.goto 4, 3) := by decide +kernel
theorem dX10_canBe_132 : decode cX10_canBe 132 = .ok (.iconst 0, 1) := by decide +kernel
theorem dX10_canBe_133 : decode cX10_canBe 133 = .ok (.ireturn, 1) := by decide +kernel
theorem dX10_canBe_134 : decode cX10_canBe 134 = .ok (.aload_n 0, 1) := by decide +kernel
theorem dX10_canBe_135 : decode cX10_canBe 135 = .ok (.getfield 7, 3) := by decide +kernel
theorem dX10_canBe_138 : decode cX10_canBe 138 = .ok (.aload_n 0, 1) := by decide +kernel
theorem dX10_canBe_139 : decode cX10_canBe 139 = .ok (.iload_n 1, 1) := by decide +kernel
theorem dX10_canBe_140 : decode cX10_canBe 140 = .ok (.iload_n 2, 1) := by decide +kernel
theorem dX10_canBe_141 : decode cX10_canBe 141 = .ok (.invokevirtual 71, 3) := by decide +kernel
theorem dX10_canBe_144 : decode cX10_canBe 144 = .ok (.iaload, 1) := by decide +kernel
theorem dX10_canBe_145 : decode cX10_canBe 145 = .ok (.ifCond .le 7, 3) := by decide +kernel
theorem dX10_canBe_148 : decode cX10_canBe 148 = .ok (.iconst 1, 1) := by decide +kernel
theorem dX10_canBe_149 : decode cX10_canBe 149 = .ok (.goto 4, 3) := by decide +kernel
theorem dX10_canBe_152 : decode cX10_canBe 152 = .ok (.iconst 0, 1) := by decide +kernel
theorem dX10_canBe_153 : decode cX10_canBe 153 = .ok (.ireturn, 1) := by decide +kernel
theorem dX10_canBe_154 : decode cX10_canBe 154 = .ok (.iconst 1, 1) := by decide +kernel
theorem dX10_canBe_155 : decode cX10_canBe 155 = .ok (.ireturn, 1) := by decide +kernel
theorem dX10_does_0 : decode cX10_does 0 = .ok (.aload_n 0, 1) := by decide +kernel
theorem dX10_does_1 : decode cX10_does 1 = .ok (.iload_n 1, 1) := by decide +kernel
theorem dX10_does_2 : decode cX10_does 2 = .ok (.invokevirtual 68, 3) := by decide +kernel
theorem dX10_does_5 : decode cX10_does 5 = .ok (.istore_n 2, 1) := by decide +kernel
theorem dX10_does_6 : decode cX10_does 6 = .ok (.aload_n 0, 1) := by decide +kernel
theorem dX10_does_7 : decode cX10_does 7 = .ok (.iload_n 1, 1) := by decide +kernel
theorem dX10_does_8 : decode cX10_does 8 = .ok (.invokevirtual 62, 3) := by decide +kernel
theorem dX10_does_11 : decode cX10_does 11 = .ok (.tableswitch 270 0 7 #[45, 97, 125, 163, 194, 225, 243, 45], 45) := by decide +kernel
theorem dX10_does_56 : decode cX10_does 56 = .ok (.aload_n 0, 1) := by decide +kernel
theorem dX10_does_57 : decode cX10_does 57 = .ok (.getfield 7, 3) := by decide +kernel
theorem dX10_does_60 : decode cX10_does 60 = .ok (.aload_n 0, 1) := by decide +kernel
theorem dX10_does_61 : decode cX10_does 61 = .ok (.getfield 40, 3) := by decide +kernel
theorem dX10_does_64 : decode cX10_does 64 = .ok (.sipush 216, 3) := by decide +kernel
theorem dX10_does_67 : decode cX10_does 67 = .ok (.iadd, 1) := by decide +kernel
theorem dX10_does_68 : decode cX10_does 68 = .ok (.iload_n 1, 1) := by decide +kernel
theorem dX10_does_69 : decode cX10_does 69 = .ok (.iadd, 1) := by decide +kernel
theorem dX10_does_70 : decode cX10_does 70 = .ok (.dup2, 1) := by decide +kernel
theorem dX10_does_71 : decode cX10_does 71 = .ok (.iaload, 1) := by decide +kernel
theorem dX10_does_72 : decode cX10_does 72 = .ok (.iconst 1, 1) := by decide +kernel
theorem dX10_does_73 : decode cX10_does 73 = .ok (.iadd, 1) := by decide +kernel
theorem dX10_does_74 : decode cX10_does 74 = .ok (.iastore, 1) := by decide +kernel
theorem dX10_does_75 : decode cX10_does 75 = .ok (.aload_n 0, 1) := by decide +kernel
theorem dX10_does_76 : decode cX10_does 76 = .ok (.iload_n 1, 1) := by decide +kernel
theorem dX10_does_77 : decode cX10_does 77 = .ok (.invokevirtual 62, 3) := by decide +kernel
theorem dX10_does_80 : decode cX10_does 80 = .ok (.ifCond .ne 8, 3) := by decide +kernel
theorem dX10_does_83 : decode cX10_does 83 = .ok (.aload_n 0, 1) := by decide +kernel
theorem dX10_does_84 : decode cX10_does 84 = .ok (.iload_n 1, 1) := by decide +kernel
theorem dX10_does_85 : decode cX10_does 85 = .ok (.invokevirtual 65, 3) := by decide +kernel
theorem dX10_does_88 : decode cX10_does 88 = .ok (.aload_n 0, 1) := by decide +kernel
theorem dX10_does_89 : decode cX10_does 89 = .ok (.getfield 7, 3) := by decide +kernel
theorem dX10_does_92 : decode cX10_does 92 = .ok (.aload_n 0, 1) := by decide +kernel
theorem dX10_does_93 : decode cX10_does 93 = .ok (.getfield 40, 3) := by decide +kernel
theorem dX10_does_96 : decode cX10_does 96 = .ok (.sipush 216, 3) := by decide +kernel
theorem dX10_does_99 : decode cX10_does 99 = .ok (.iadd, 1) := by decide +kernel
theorem dX10_does_100 : decode cX10_does 100 = .ok (.iload_n 1, 1) := by decide +kernel
theorem dX10_does_101 : decode cX10_does 101 = .ok (.iadd, 1) := by decide +kernel
theorem dX10_does_102 : decode cX10_does 102 = .ok (.iaload, 1) := by decide +kernel
theorem dX10_does_103 : decode cX10_does 103 = .ok (.iload_n 2, 1) := by decide +kernel
theorem dX10_does_104 : decode cX10_does 104 = .ok (.if_icmp .ge 177, 3) := by decide +kernel
theorem dX10_does_107 : decode cX10_does 107 = .ok (.return_, 1) := by decide +kernel
theorem dX10_does_108 : decode cX10_does 108 = .ok (.aload_n 0, 1) := by decide +kernel
theorem dX10_does_109 : decode cX10_does 109 = .ok (.iload_n 1, 1) := by decide +kernel
theorem dX10_does_110 : decode cX10_does 110 = .ok (.invokevirtual 74, 3) := by decide +kernel
theorem dX10_does_113 : decode cX10_does 113 = .ok (.ifCond .ne 4, 3) := by decide +kernel
theorem dX10_does_116 : decode cX10_does 116 = .ok (.return_, 1) := by decide +kernel
theorem dX10_does_117 : decode cX10_does 117 = .ok (.aload_n 0, 1) := by decide +kernel
theorem dX10_does_118 : decode cX10_does 118 = .ok (.getfield 7, 3) := by decide +kernel
theorem dX10_does_121 : decode cX10_does 121 = .ok (.aload_n 0, 1) := by decide +kernel
theorem dX10_does_122 : decode cX10_does 122 = .ok (.getfield 40, 3) := by decide +kernel
theorem dX10_does_125 : decode cX10_does 125 = .ok (.sipush 240, 3) := by decide +kernel
theorem dX10_does_128 : decode cX10_does 128 = .ok (.iadd, 1) := by decide +kernel
theorem dX10_does_129 : decode cX10_does 129 = .ok (.iload_n 2, 1) := by decide +kernel
theorem dX10_does_130 : decode cX10_does 130 = .ok (.iadd, 1) := by decide +kernel
theorem dX10_does_131 : decode cX10_does 131 = .ok (.iload_n 1, 1) := by decide +kernel
theorem dX10_does_132 : decode cX10_does 132 = .ok (.iastore, 1) := by decide +kernel
theorem dX10_does_133 : decode cX10_does 133 = .ok (.goto 148, 3) := by decide +kernel
theorem dX10_does_136 : decode cX10_does 136 = .ok (.aload_n 0, 1) := by decide +kernel
theorem dX10_does_137 : decode cX10_does 137 = .ok (.getfield 7, 3) := by decide +kernel
theorem dX10_does_140 : decode cX10_does 140 = .ok (.aload_n 0, 1) := by decide +kernel
theorem dX10_does_141 : decode cX10_does 141 = .ok (.getfield 40, 3) := by decide +kernel
theorem dX10_does_144 : decode cX10_does 144 = .ok (.sipush 240, 3) := by decide +kernel
theorem dX10_does_147 : decode cX10_does 147 = .ok (.iadd, 1) := by decide +kernel
theorem dX10_does_148 : decode cX10_does 148 = .ok (.iload_n 2, 1) := by decide +kernel
theorem dX10_does_149 : decode cX10_does 149 = .ok (.iadd, 1) := by decide +kernel
theorem dX10_does_150 : decode cX10_does 150 = .ok (.iaload, 1) := by decide +kernel
theorem dX10_does_151 : decode cX10_does 151 = .ok (.iload_n 1, 1) := by decide +kernel
theorem dX10_does_152 : decode cX10_does 152 = .ok (.if_icmp .ne 129, 3) := by decide +kernel
theorem dX10_does_155 : decode cX10_does 155 = .ok (.aload_n 0, 1) := by decide +kernel
theorem dX10_does_156 : decode cX10_does 156 = .ok (.getfield 7, 3) := by decide +kernel
theorem dX10_does_159 : decode cX10_does 159 = .ok (.aload_n 0, 1) := by decide +kernel
theorem dX10_does_160 : decode cX10_does 160 = .ok (.getfield 40, 3) := by decide +kernel
theorem dX10_does_163 : decode cX10_does 163 = .ok (.sipush 240, 3) := by decide +kernel
theorem dX10_does_166 : decode cX10_does 166 = .ok (.iadd, 1) := by decide +kernel
theorem dX10_does_167 : decode cX10_does 167 = .ok (.iload_n 2, 1) := by decide +kernel
theorem dX10_does_168 : decode cX10_does 168 = .ok (.iadd, 1) := by decide +kernel
theorem dX10_does_169 : decode cX10_does 169 = .ok (.iconst (-1), 1) := by decide +kernel
theorem dX10_does_170 : decode cX10_does 170 = .ok (.iastore, 1) := by decide +kernel
theorem dX10_does_171 : decode cX10_does 171 = .ok (.goto 110, 3) := by decide +kernel
theorem dX10_does_174 : decode cX10_does 174 = .ok (.aload_n 0, 1) := by decide +kernel
theorem dX10_does_175 : decode cX10_does 175 = .ok (.iload_n 1, 1) := by decide +kernel
theorem dX10_does_176 : decode cX10_does 176 = .ok (.invokevirtual 74, 3) := by decide +kernel
theorem dX10_does_179 : decode cX10_does 179 = .ok (.ifCond .ne 4, 3) := by decide +kernel
theorem dX10_does_182 : decode cX10_does 182 = .ok (.return_, 1) := by decide +kernel
theorem dX10_does_183 : decode cX10_does 183 = .ok (.aload_n 0, 1) := by decide +kernel
theorem dX10_does_184 : decode cX10_does 184 = .ok (.getfield 7, 3) := by decide +kernel
theorem dX10_does_187 : decode cX10_does 187 = .ok (.aload_n 0, 1) := by decide +kernel
theorem dX10_does_188 : decode cX10_does 188 = .ok (.getfield 40, 3) := by decide +kernel
theorem dX10_does_191 : decode cX10_does 191 = .ok (.sipush 246, 3) := by decide +kernel
theorem dX10_does_194 : decode cX10_does 194 = .ok (.iadd, 1) := by decide +kernel
theorem dX10_does_195 : decode cX10_does 195 = .ok (.iload_n 2, 1) := by decide +kernel
theorem dX10_does_196 : decode cX10_does 196 = .ok (.iadd, 1) := by decide +kernel
theorem dX10_does_197 : decode cX10_does 197 = .ok (.dup2, 1) := by decide +kernel
theorem dX10_does_198 : decode cX10_does 198 = .ok (.iaload, 1) := by decide +kernel
theorem dX10_does_199 : decode cX10_does 199 = .ok (.iconst 1, 1) := by decide +kernel
theorem dX10_does_200 : decode cX10_does 200 = .ok (.iadd, 1) := by decide +kernel
theorem dX10_does_201 : decode cX10_does 201 = .ok (.iastore, 1) := by decide +kernel
theorem dX10_does_202 : decode cX10_does 202 = .ok (.goto 79, 3) := by decide +kernel
theorem dX10_does_205 : decode cX10_does 205 = .ok (.aload_n 0, 1) := by decide +kernel
theorem dX10_does_206 : decode cX10_does 206 = .ok (.iload_n 1, 1) := by decide +kernel
theorem dX10_does_207 : decode cX10_does 207 = .ok (.invokevirtual 74, 3) := by decide +kernel
theorem dX10_does_210 : decode cX10_does 210 = .ok (.ifCond .ne 4, 3) := by decide +kernel
theorem dX10_does_213 : decode cX10_does 213 = .ok (.return_, 1) := by decide +kernel
theorem dX10_does_214 : decode cX10_does 214 = .ok (.aload_n 0, 1) := by decide +kernel
theorem dX10_does_215 : decode cX10_does 215 = .ok (.getfield 7, 3) := by decide +kernel
theorem dX10_does_218 : decode cX10_does 218 = .ok (.aload_n 0, 1) := by decide +kernel
theorem dX10_does_219 : decode cX10_does 219 = .ok (.getfield 40, 3) := by decide +kernel
theorem dX10_does_222 : decode cX10_does 222 = .ok (.sipush 246, 3) := by decide +kernel
theorem dX10_does_225 : decode cX10_does 225 = .ok (.iadd, 1) := by decide +kernel
theorem dX10_does_226 : decode cX10_does 226 = .ok (.iload_n 2, 1) := by decide +kernel
theorem dX10_does_227 : decode cX10_does 227 = .ok (.iadd, 1) := by decide +kernel
theorem dX10_does_228 : decode cX10_does 228 = .ok (.dup2, 1) := by decide +kernel
theorem dX10_does_229 : decode cX10_does 229 = .ok (.iaload, 1) := by decide +kernel
theorem dX10_does_230 : decode cX10_does 230 = .ok (.iconst 1, 1) := by decide +kernel
theorem dX10_does_231 : decode cX10_does 231 = .ok (.isub, 1) := by decide +kernel
theorem dX10_does_232 : decode cX10_does 232 = .ok (.iastore, 1) := by decide +kernel
theorem dX10_does_233 : decode cX10_does 233 = .ok (.goto 48, 3) := by decide +kernel
theorem dX10_does_236 : decode cX10_does 236 = .ok (.aload_n 0, 1) := by decide +kernel
theorem dX10_does_237 : decode cX10_does 237 = .ok (.getfield 7, 3) := by decide +kernel
theorem dX10_does_240 : decode cX10_does 240 = .ok (.aload_n 0, 1) := by decide +kernel
theorem dX10_does_241 : decode cX10_does 241 = .ok (.iload_n 2, 1) := by decide +kernel
theorem dX10_does_242 : decode cX10_does 242 = .ok (.iload_n 1, 1) := by decide +kernel
theorem dX10_does_243 : decode cX10_does 243 = .ok (.invokevirtual 71, 3) := by decide +kernel
theorem dX10_does_246 : decode cX10_does 246 = .ok (.dup2, 1) := by decide +kernel
theorem dX10_does_247 : decode cX10_does 247 = .ok (.iaload, 1) := by decide +kernel
theorem dX10_does_248 : decode cX10_does 248 = .ok (.iconst 1, 1) := by decide +kernel
theorem dX10_does_249 : decode cX10_does 249 = .ok (.iadd, 1) := by decide +kernel
theorem dX10_does_250 : decode cX10_does 250 = .ok (.iastore, 1) := by decide +kernel
theorem dX10_does_251 : decode cX10_does 251 = .ok (.goto 30, 3) := by decide +kernel
theorem dX10_does_254 : decode cX10_does 254 = .ok (.aload_n 0, 1) := by decide +kernel
theorem dX10_does_255 : decode cX10_does 255 = .ok (.iload_n 1, 1) := by decide +kernel
theorem dX10_does_256 : decode cX10_does 256 = .ok (.invokevirtual 74, 3) := by decide +kernel
theorem dX10_does_259 : decode cX10_does 259 = .ok (.ifCond .ne 4, 3) := by decide +kernel
theorem dX10_does_262 : decode cX10_does 262 = .ok (.return_, 1) := by decide +kernel
theorem dX10_does_263 : decode cX10_does 263 = .ok (.aload_n 0, 1) := by decide +kernel
theorem dX10_does_264 : decode cX10_does 264 = .ok (.getfield 7, 3) := by decide +kernel
theorem dX10_does_267 : decode cX10_does 267 = .ok (.aload_n 0, 1) := by decide +kernel
theorem dX10_does_268 : decode cX10_does 268 = .ok (.iload_n 1, 1) := by decide +kernel
theorem dX10_does_269 : decode cX10_does 269 = .ok (.iload_n 2, 1) := by decide +kernel
theorem dX10_does_270 : decode cX10_does 270 = .ok (.invokevirtual 71, 3) := by decide +kernel
theorem dX10_does_273 : decode cX10_does 273 = .ok (.dup2, 1) := by decide +kernel
theorem dX10_does_274 : decode cX10_does 274 = .ok (.iaload, 1) := by decide +kernel
theorem dX10_does_275 : decode cX10_does 275 = .ok (.iconst 1, 1) := by decide +kernel
theorem dX10_does_276 : decode cX10_does 276 = .ok (.isub, 1) := by decide +kernel
theorem dX10_does_277 : decode cX10_does 277 = .ok (.iastore, 1) := by decide +kernel
theorem dX10_does_278 : decode cX10_does 278 = .ok (.goto 3, 3) := by decide +kernel
theorem dX10_does_281 : decode cX10_does 281 = .ok (.aload_n 0, 1) := by decide +kernel
theorem dX10_does_282 : decode cX10_does 282 = .ok (.iload_n 1, 1) := by decide +kernel
theorem dX10_does_283 : decode cX10_does 283 = .ok (.invokevirtual 78, 3) := by decide +kernel
theorem dX10_does_286 : decode cX10_does 286 = .ok (.return_, 1) := by decide +kernel
theorem dX10_isHeldUp_0 : decode cX10_isHeldUp 0 = .ok (.aload_n 0, 1) := by decide +kernel
theorem dX10_isHeldUp_1 : decode cX10_isHeldUp 1 = .ok (.iload_n 1, 1) := by decide +kernel
theorem dX10_isHeldUp_2 : decode cX10_isHeldUp 2 = .ok (.invokevirtual 81, 3) := by decide +kernel
theorem dX10_isHeldUp_5 : decode cX10_isHeldUp 5 = .ok (.ifCond .ne 15, 3) := by decide +kernel
theorem dX10_isHeldUp_8 : decode cX10_isHeldUp 8 = .ok (.aload_n 0, 1) := by decide +kernel
theorem dX10_isHeldUp_9 : decode cX10_isHeldUp 9 = .ok (.iload_n 1, 1) := by decide +kernel
theorem dX10_isHeldUp_10 : decode cX10_isHeldUp 10 = .ok (.invokevirtual 74, 3) := by decide +kernel
theorem dX10_isHeldUp_13 : decode cX10_isHeldUp 13 = .ok (.ifCond .ne 7, 3) := by decide +kernel
theorem dX10_isHeldUp_16 : decode cX10_isHeldUp 16 = .ok (.iconst 1, 1) := by decide +kernel
theorem dX10_isHeldUp_17 : decode cX10_isHeldUp 17 = .ok (.goto 4, 3) := by decide +kernel
theorem dX10_isHeldUp_20 : decode cX10_isHeldUp 20 = .ok (.iconst 0, 1) := by decide +kernel
theorem dX10_isHeldUp_21 : decode cX10_isHeldUp 21 = .ok (.ireturn, 1) := by decide +kernel
theorem dX10_can_0 : decode cX10_can 0 = .ok (.aload_n 0, 1) := by decide +kernel
theorem dX10_can_1 : decode cX10_can 1 = .ok (.iload_n 1, 1) := by decide +kernel
theorem dX10_can_2 : decode cX10_can 2 = .ok (.invokevirtual 81, 3) := by decide +kernel
theorem dX10_can_5 : decode cX10_can 5 = .ok (.ifCond .eq 5, 3) := by decide +kernel
theorem dX10_can_8 : decode cX10_can 8 = .ok (.iconst 0, 1) := by decide +kernel
theorem dX10_can_9 : decode cX10_can 9 = .ok (.ireturn, 1) := by decide +kernel
theorem dX10_can_10 : decode cX10_can 10 = .ok (.iconst 0, 1) := by decide +kernel
theorem dX10_can_11 : decode cX10_can 11 = .ok (.istore 4, 2) := by decide +kernel
theorem dX10_can_13 : decode cX10_can 13 = .ok (.aload_n 0, 1) := by decide +kernel
theorem dX10_can_14 : decode cX10_can 14 = .ok (.iload_n 1, 1) := by decide +kernel
theorem dX10_can_15 : decode cX10_can 15 = .ok (.invokevirtual 51, 3) := by decide +kernel
theorem dX10_can_18 : decode cX10_can 18 = .ok (.istore 5, 2) := by decide +kernel
theorem dX10_can_20 : decode cX10_can 20 = .ok (.iload 5, 2) := by decide +kernel
theorem dX10_can_22 : decode cX10_can 22 = .ok (.aload_n 0, 1) := by decide +kernel
theorem dX10_can_23 : decode cX10_can 23 = .ok (.getfield 7, 3) := by decide +kernel
theorem dX10_can_26 : decode cX10_can 26 = .ok (.aload_n 0, 1) := by decide +kernel
theorem dX10_can_27 : decode cX10_can 27 = .ok (.getfield 40, 3) := by decide +kernel
theorem dX10_can_30 : decode cX10_can 30 = .ok (.bipush 7, 2) := by decide +kernel
theorem dX10_can_32 : decode cX10_can 32 = .ok (.iadd, 1) := by decide +kernel
theorem dX10_can_33 : decode cX10_can 33 = .ok (.iload_n 1, 1) := by decide +kernel
theorem dX10_can_34 : decode cX10_can 34 = .ok (.iadd, 1) := by decide +kernel
theorem dX10_can_35 : decode cX10_can 35 = .ok (.iaload, 1) := by decide +kernel
theorem dX10_can_36 : decode cX10_can 36 = .ok (.if_icmp .ge 72, 3) := by decide +kernel
theorem dX10_can_39 : decode cX10_can 39 = .ok (.aload_n 0, 1) := by decide +kernel
theorem dX10_can_40 : decode cX10_can 40 = .ok (.iload_n 1, 1) := by decide +kernel
theorem dX10_can_41 : decode cX10_can 41 = .ok (.iload 5, 2) := by decide +kernel
theorem dX10_can_43 : decode cX10_can 43 = .ok (.invokevirtual 55, 3) := by decide +kernel
theorem dX10_can_46 : decode cX10_can 46 = .ok (.iload_n 2, 1) := by decide +kernel
theorem dX10_can_47 : decode cX10_can 47 = .ok (.if_icmp .ne 16, 3) := by decide +kernel
theorem dX10_can_50 : decode cX10_can 50 = .ok (.aload_n 0, 1) := by decide +kernel
theorem dX10_can_51 : decode cX10_can 51 = .ok (.iload_n 1, 1) := by decide +kernel
theorem dX10_can_52 : decode cX10_can 52 = .ok (.iload 5, 2) := by decide +kernel
theorem dX10_can_54 : decode cX10_can 54 = .ok (.invokevirtual 59, 3) := by decide +kernel
theorem dX10_can_57 : decode cX10_can 57 = .ok (.iload_n 3, 1) := by decide +kernel
theorem dX10_can_58 : decode cX10_can 58 = .ok (.if_icmp .ne 5, 3) := by decide +kernel
theorem dX10_can_61 : decode cX10_can 61 = .ok (.iconst 1, 1) := by decide +kernel
theorem dX10_can_62 : decode cX10_can 62 = .ok (.ireturn, 1) := by decide +kernel
theorem dX10_can_63 : decode cX10_can 63 = .ok (.aload_n 0, 1) := by decide +kernel
theorem dX10_can_64 : decode cX10_can 64 = .ok (.iload_n 1, 1) := by decide +kernel
theorem dX10_can_65 : decode cX10_can 65 = .ok (.iload 5, 2) := by decide +kernel
theorem dX10_can_67 : decode cX10_can 67 = .ok (.invokevirtual 55, 3) := by decide +kernel
theorem dX10_can_70 : decode cX10_can 70 = .ok (.bipush 8, 2) := by decide +kernel
theorem dX10_can_72 : decode cX10_can 72 = .ok (.if_icmp .ne 7, 3) := by decide +kernel
theorem dX10_can_75 : decode cX10_can 75 = .ok (.iconst 1, 1) := by decide +kernel
theorem dX10_can_76 : decode cX10_can 76 = .ok (.goto 4, 3) := by decide +kernel
theorem dX10_can_79 : decode cX10_can 79 = .ok (.iconst 0, 1) := by decide +kernel
theorem dX10_can_80 : decode cX10_can 80 = .ok (.istore 4, 2) := by decide +kernel
theorem dX10_can_82 : decode cX10_can 82 = .ok (.iload 4, 2) := by decide +kernel
theorem dX10_can_84 : decode cX10_can 84 = .ok (.ifCond .ne 24, 3) := by decide +kernel
theorem dX10_can_87 : decode cX10_can 87 = .ok (.aload_n 0, 1) := by decide +kernel
theorem dX10_can_88 : decode cX10_can 88 = .ok (.iload_n 1, 1) := by decide +kernel
theorem dX10_can_89 : decode cX10_can 89 = .ok (.iload 5, 2) := by decide +kernel
theorem dX10_can_91 : decode cX10_can 91 = .ok (.invokevirtual 55, 3) := by decide +kernel
theorem dX10_can_94 : decode cX10_can 94 = .ok (.bipush 9, 2) := by decide +kernel
theorem dX10_can_96 : decode cX10_can 96 = .ok (.if_icmp .ne 6, 3) := by decide +kernel
theorem dX10_can_99 : decode cX10_can 99 = .ok (.goto 9, 3) := by decide +kernel
theorem dX10_can_102 : decode cX10_can 102 = .ok (.iinc 5 1, 3) := by decide +kernel
theorem dX10_can_105 : decode cX10_can 105 = .ok (.goto (-85), 3) := by decide +kernel
theorem dX10_can_108 : decode cX10_can 108 = .ok (.iconst 0, 1) := by decide +kernel
theorem dX10_can_109 : decode cX10_can 109 = .ok (.istore 5, 2) := by decide +kernel
theorem dX10_can_111 : decode cX10_can 111 = .ok (.iload 5, 2) := by decide +kernel
theorem dX10_can_113 : decode cX10_can 113 = .ok (.aload_n 0, 1) := by decide +kernel
theorem dX10_can_114 : decode cX10_can 114 = .ok (.iload_n 1, 1) := by decide +kernel
theorem dX10_can_115 : decode cX10_can 115 = .ok (.invokevirtual 51, 3) := by decide +kernel
theorem dX10_can_118 : decode cX10_can 118 = .ok (.if_icmp .ge 38, 3) := by decide +kernel
theorem dX10_can_121 : decode cX10_can 121 = .ok (.iload 4, 2) := by decide +kernel
theorem dX10_can_123 : decode cX10_can 123 = .ok (.ifCond .eq 33, 3) := by decide +kernel
theorem dX10_can_126 : decode cX10_can 126 = .ok (.aload_n 0, 1) := by decide +kernel
theorem dX10_can_127 : decode cX10_can 127 = .ok (.iload_n 1, 1) := by decide +kernel
theorem dX10_can_128 : decode cX10_can 128 = .ok (.iload 5, 2) := by decide +kernel
theorem dX10_can_130 : decode cX10_can 130 = .ok (.invokevirtual 55, 3) := by decide +kernel
theorem dX10_can_133 : decode cX10_can 133 = .ok (.iload_n 2, 1) := by decide +kernel
theorem dX10_can_134 : decode cX10_can 134 = .ok (.if_icmp .ne 16, 3) := by decide +kernel
theorem dX10_can_137 : decode cX10_can 137 = .ok (.aload_n 0, 1) := by decide +kernel
theorem dX10_can_138 : decode cX10_can 138 = .ok (.iload_n 1, 1) := by decide +kernel
theorem dX10_can_139 : decode cX10_can 139 = .ok (.iload 5, 2) := by decide +kernel
theorem dX10_can_141 : decode cX10_can 141 = .ok (.invokevirtual 59, 3) := by decide +kernel
theorem dX10_can_144 : decode cX10_can 144 = .ok (.iload_n 3, 1) := by decide +kernel
theorem dX10_can_145 : decode cX10_can 145 = .ok (.if_icmp .ne 5, 3) := by decide +kernel
theorem dX10_can_148 : decode cX10_can 148 = .ok (.iconst 1, 1) := by decide +kernel
theorem dX10_can_149 : decode cX10_can 149 = .ok (.ireturn, 1) := by decide +kernel
theorem dX10_can_150 : decode cX10_can 150 = .ok (.iinc 5 1, 3) := by decide +kernel
theorem dX10_can_153 : decode cX10_can 153 = .ok (.goto (-42), 3) := by decide +kernel
theorem dX10_can_156 : decode cX10_can 156 = .ok (.iconst 0, 1) := by decide +kernel
theorem dX10_can_157 : decode cX10_can 157 = .ok (.ireturn, 1) := by decide +kernel
theorem dX10_waitsFor_0 : decode cX10_waitsFor 0 = .ok (.aload_n 0, 1) := by decide +kernel
theorem dX10_waitsFor_1 : decode cX10_waitsFor 1 = .ok (.iload_n 1, 1) := by decide +kernel
theorem dX10_waitsFor_2 : decode cX10_waitsFor 2 = .ok (.invokevirtual 84, 3) := by decide +kernel
theorem dX10_waitsFor_5 : decode cX10_waitsFor 5 = .ok (.ifCond .ne 5, 3) := by decide +kernel
theorem dX10_waitsFor_8 : decode cX10_waitsFor 8 = .ok (.iconst 0, 1) := by decide +kernel
theorem dX10_waitsFor_9 : decode cX10_waitsFor 9 = .ok (.ireturn, 1) := by decide +kernel
theorem dX10_waitsFor_10 : decode cX10_waitsFor 10 = .ok (.aload_n 0, 1) := by decide +kernel
theorem dX10_waitsFor_11 : decode cX10_waitsFor 11 = .ok (.iload_n 1, 1) := by decide +kernel
theorem dX10_waitsFor_12 : decode cX10_waitsFor 12 = .ok (.invokevirtual 62, 3) := by decide +kernel
theorem dX10_waitsFor_15 : decode cX10_waitsFor 15 = .ok (.istore_n 2, 1) := by decide +kernel
theorem dX10_waitsFor_16 : decode cX10_waitsFor 16 = .ok (.aload_n 0, 1) := by decide +kernel
theorem dX10_waitsFor_17 : decode cX10_waitsFor 17 = .ok (.iload_n 1, 1) := by decide +kernel
theorem dX10_waitsFor_18 : decode cX10_waitsFor 18 = .ok (.invokevirtual 68, 3) := by decide +kernel
theorem dX10_waitsFor_21 : decode cX10_waitsFor 21 = .ok (.istore_n 3, 1) := by decide +kernel
theorem dX10_waitsFor_22 : decode cX10_waitsFor 22 = .ok (.iload_n 2, 1) := by decide +kernel
theorem dX10_waitsFor_23 : decode cX10_waitsFor 23 = .ok (.iconst 1, 1) := by decide +kernel
theorem dX10_waitsFor_24 : decode cX10_waitsFor 24 = .ok (.if_icmp .ne 21, 3) := by decide +kernel
theorem dX10_waitsFor_27 : decode cX10_waitsFor 27 = .ok (.iconst 1, 1) := by decide +kernel
theorem dX10_waitsFor_28 : decode cX10_waitsFor 28 = .ok (.aload_n 0, 1) := by decide +kernel
theorem dX10_waitsFor_29 : decode cX10_waitsFor 29 = .ok (.getfield 7, 3) := by decide +kernel
theorem dX10_waitsFor_32 : decode cX10_waitsFor 32 = .ok (.aload_n 0, 1) := by decide +kernel
theorem dX10_waitsFor_33 : decode cX10_waitsFor 33 = .ok (.getfield 40, 3) := by decide +kernel
theorem dX10_waitsFor_36 : decode cX10_waitsFor 36 = .ok (.sipush 240, 3) := by decide +kernel
theorem dX10_waitsFor_39 : decode cX10_waitsFor 39 = .ok (.iadd, 1) := by decide +kernel
theorem dX10_waitsFor_40 : decode cX10_waitsFor 40 = .ok (.iload_n 3, 1) := by decide +kernel
theorem dX10_waitsFor_41 : decode cX10_waitsFor 41 = .ok (.iadd, 1) := by decide +kernel
theorem dX10_waitsFor_42 : decode cX10_waitsFor 42 = .ok (.iaload, 1) := by decide +kernel
theorem dX10_waitsFor_43 : decode cX10_waitsFor 43 = .ok (.ishl, 1) := by decide +kernel
theorem dX10_waitsFor_44 : decode cX10_waitsFor 44 = .ok (.ireturn, 1) := by decide +kernel
theorem dX10_waitsFor_45 : decode cX10_waitsFor 45 = .ok (.iload_n 2, 1) := by decide +kernel
theorem dX10_waitsFor_46 : decode cX10_waitsFor 46 = .ok (.bipush 6, 2) := by decide +kernel
theorem dX10_waitsFor_48 : decode cX10_waitsFor 48 = .ok (.if_icmp .ne 21, 3) := by decide +kernel
theorem dX10_waitsFor_51 : decode cX10_waitsFor 51 = .ok (.aload_n 0, 1) := by decide +kernel
theorem dX10_waitsFor_52 : decode cX10_waitsFor 52 = .ok (.iload_n 3, 1) := by decide +kernel
theorem dX10_waitsFor_53 : decode cX10_waitsFor 53 = .ok (.iconst 5, 1) := by decide +kernel
theorem dX10_waitsFor_54 : decode cX10_waitsFor 54 = .ok (.iload_n 1, 1) := by decide +kernel
theorem dX10_waitsFor_55 : decode cX10_waitsFor 55 = .ok (.invokevirtual 87, 3) := by decide +kernel
theorem dX10_waitsFor_58 : decode cX10_waitsFor 58 = .ok (.ifCond .eq 9, 3) := by decide +kernel
theorem dX10_waitsFor_61 : decode cX10_waitsFor 61 = .ok (.iconst 1, 1) := by decide +kernel
theorem dX10_waitsFor_62 : decode cX10_waitsFor 62 = .ok (.iload_n 3, 1) := by decide +kernel
theorem dX10_waitsFor_63 : decode cX10_waitsFor 63 = .ok (.ishl, 1) := by decide +kernel
theorem dX10_waitsFor_64 : decode cX10_waitsFor 64 = .ok (.goto 4, 3) := by decide +kernel
theorem dX10_waitsFor_67 : decode cX10_waitsFor 67 = .ok (.iconst 0, 1) := by decide +kernel
theorem dX10_waitsFor_68 : decode cX10_waitsFor 68 = .ok (.ireturn, 1) := by decide +kernel
theorem dX10_waitsFor_69 : decode cX10_waitsFor 69 = .ok (.iconst 0, 1) := by decide +kernel
theorem dX10_waitsFor_70 : decode cX10_waitsFor 70 = .ok (.istore 4, 2) := by decide +kernel
theorem dX10_waitsFor_72 : decode cX10_waitsFor 72 = .ok (.iconst 0, 1) := by decide +kernel
theorem dX10_waitsFor_73 : decode cX10_waitsFor 73 = .ok (.istore 5, 2) := by decide +kernel
theorem dX10_waitsFor_75 : decode cX10_waitsFor 75 = .ok (.iload 5, 2) := by decide +kernel
theorem dX10_waitsFor_77 : decode cX10_waitsFor 77 = .ok (.aload_n 0, 1) := by decide +kernel
theorem dX10_waitsFor_78 : decode cX10_waitsFor 78 = .ok (.invokevirtual 43, 3) := by decide +kernel
theorem dX10_waitsFor_81 : decode cX10_waitsFor 81 = .ok (.if_icmp .ge 44, 3) := by decide +kernel
theorem dX10_waitsFor_84 : decode cX10_waitsFor 84 = .ok (.iload 5, 2) := by decide +kernel
theorem dX10_waitsFor_86 : decode cX10_waitsFor 86 = .ok (.iload_n 1, 1) := by decide +kernel
theorem dX10_waitsFor_87 : decode cX10_waitsFor 87 = .ok (.if_icmp .eq 32, 3) := by decide +kernel
theorem dX10_waitsFor_90 : decode cX10_waitsFor 90 = .ok (.aload_n 0, 1) := by decide +kernel
theorem dX10_waitsFor_91 : decode cX10_waitsFor 91 = .ok (.iload 5, 2) := by decide +kernel
theorem dX10_waitsFor_93 : decode cX10_waitsFor 93 = .ok (.iload_n 2, 1) := by decide +kernel
theorem dX10_waitsFor_94 : decode cX10_waitsFor 94 = .ok (.iconst 3, 1) := by decide +kernel
theorem dX10_waitsFor_95 : decode cX10_waitsFor 95 = .ok (.if_icmp .ne 7, 3) := by decide +kernel
theorem dX10_waitsFor_98 : decode cX10_waitsFor 98 = .ok (.iconst 4, 1) := by decide +kernel
theorem dX10_waitsFor_99 : decode cX10_waitsFor 99 = .ok (.goto 4, 3) := by decide +kernel
theorem dX10_waitsFor_102 : decode cX10_waitsFor 102 = .ok (.iconst 3, 1) := by decide +kernel
theorem dX10_waitsFor_103 : decode cX10_waitsFor 103 = .ok (.iload_n 3, 1) := by decide +kernel
theorem dX10_waitsFor_104 : decode cX10_waitsFor 104 = .ok (.invokevirtual 87, 3) := by decide +kernel
theorem dX10_waitsFor_107 : decode cX10_waitsFor 107 = .ok (.ifCond .eq 12, 3) := by decide +kernel
theorem dX10_waitsFor_110 : decode cX10_waitsFor 110 = .ok (.iload 4, 2) := by decide +kernel
theorem dX10_waitsFor_112 : decode cX10_waitsFor 112 = .ok (.iconst 1, 1) := by decide +kernel
theorem dX10_waitsFor_113 : decode cX10_waitsFor 113 = .ok (.iload 5, 2) := by decide +kernel
theorem dX10_waitsFor_115 : decode cX10_waitsFor 115 = .ok (.ishl, 1) := by decide +kernel
theorem dX10_waitsFor_116 : decode cX10_waitsFor 116 = .ok (.ior, 1) := by decide +kernel
theorem dX10_waitsFor_117 : decode cX10_waitsFor 117 = .ok (.istore 4, 2) := by decide +kernel
theorem dX10_waitsFor_119 : decode cX10_waitsFor 119 = .ok (.iinc 5 1, 3) := by decide +kernel
theorem dX10_waitsFor_122 : decode cX10_waitsFor 122 = .ok (.goto (-47), 3) := by decide +kernel
theorem dX10_waitsFor_125 : decode cX10_waitsFor 125 = .ok (.iload 4, 2) := by decide +kernel
theorem dX10_waitsFor_127 : decode cX10_waitsFor 127 = .ok (.ireturn, 1) := by decide +kernel
theorem dX10_freeToGo_0 : decode cX10_freeToGo 0 = .ok (.iconst 0, 1) := by decide +kernel
theorem dX10_freeToGo_1 : decode cX10_freeToGo 1 = .ok (.istore_n 1, 1) := by decide +kernel
theorem dX10_freeToGo_2 : decode cX10_freeToGo 2 = .ok (.iconst 0, 1) := by decide +kernel
theorem dX10_freeToGo_3 : decode cX10_freeToGo 3 = .ok (.istore_n 2, 1) := by decide +kernel
theorem dX10_freeToGo_4 : decode cX10_freeToGo 4 = .ok (.iload_n 2, 1) := by decide +kernel
theorem dX10_freeToGo_5 : decode cX10_freeToGo 5 = .ok (.aload_n 0, 1) := by decide +kernel
theorem dX10_freeToGo_6 : decode cX10_freeToGo 6 = .ok (.invokevirtual 43, 3) := by decide +kernel
theorem dX10_freeToGo_9 : decode cX10_freeToGo 9 = .ok (.if_icmp .ge 31, 3) := by decide +kernel
theorem dX10_freeToGo_12 : decode cX10_freeToGo 12 = .ok (.aload_n 0, 1) := by decide +kernel
theorem dX10_freeToGo_13 : decode cX10_freeToGo 13 = .ok (.iload_n 2, 1) := by decide +kernel
theorem dX10_freeToGo_14 : decode cX10_freeToGo 14 = .ok (.invokevirtual 81, 3) := by decide +kernel
theorem dX10_freeToGo_17 : decode cX10_freeToGo 17 = .ok (.ifCond .ne 17, 3) := by decide +kernel
theorem dX10_freeToGo_20 : decode cX10_freeToGo 20 = .ok (.aload_n 0, 1) := by decide +kernel
theorem dX10_freeToGo_21 : decode cX10_freeToGo 21 = .ok (.iload_n 2, 1) := by decide +kernel
theorem dX10_freeToGo_22 : decode cX10_freeToGo 22 = .ok (.invokevirtual 84, 3) := by decide +kernel
theorem dX10_freeToGo_25 : decode cX10_freeToGo 25 = .ok (.ifCond .ne 9, 3) := by decide +kernel
theorem dX10_freeToGo_28 : decode cX10_freeToGo 28 = .ok (.iload_n 1, 1) := by decide +kernel
theorem dX10_freeToGo_29 : decode cX10_freeToGo 29 = .ok (.iconst 1, 1) := by decide +kernel
theorem dX10_freeToGo_30 : decode cX10_freeToGo 30 = .ok (.iload_n 2, 1) := by decide +kernel
theorem dX10_freeToGo_31 : decode cX10_freeToGo 31 = .ok (.ishl, 1) := by decide +kernel
theorem dX10_freeToGo_32 : decode cX10_freeToGo 32 = .ok (.ior, 1) := by decide +kernel
theorem dX10_freeToGo_33 : decode cX10_freeToGo 33 = .ok (.istore_n 1, 1) := by decide +kernel
theorem dX10_freeToGo_34 : decode cX10_freeToGo 34 = .ok (.iinc 2 1, 3) := by decide +kernel
theorem dX10_freeToGo_37 : decode cX10_freeToGo 37 = .ok (.goto (-33), 3) := by decide +kernel
theorem dX10_freeToGo_40 : decode cX10_freeToGo 40 = .ok (.iconst 0, 1) := by decide +kernel
theorem dX10_freeToGo_41 : decode cX10_freeToGo 41 = .ok (.istore_n 2, 1) := by decide +kernel
theorem dX10_freeToGo_42 : decode cX10_freeToGo 42 = .ok (.iload_n 2, 1) := by decide +kernel
theorem dX10_freeToGo_43 : decode cX10_freeToGo 43 = .ok (.aload_n 0, 1) := by decide +kernel
theorem dX10_freeToGo_44 : decode cX10_freeToGo 44 = .ok (.invokevirtual 43, 3) := by decide +kernel
theorem dX10_freeToGo_47 : decode cX10_freeToGo 47 = .ok (.if_icmp .ge 49, 3) := by decide +kernel
theorem dX10_freeToGo_50 : decode cX10_freeToGo 50 = .ok (.iconst 0, 1) := by decide +kernel
theorem dX10_freeToGo_51 : decode cX10_freeToGo 51 = .ok (.istore_n 3, 1) := by decide +kernel
theorem dX10_freeToGo_52 : decode cX10_freeToGo 52 = .ok (.iload_n 3, 1) := by decide +kernel
theorem dX10_freeToGo_53 : decode cX10_freeToGo 53 = .ok (.aload_n 0, 1) := by decide +kernel
theorem dX10_freeToGo_54 : decode cX10_freeToGo 54 = .ok (.invokevirtual 43, 3) := by decide +kernel
theorem dX10_freeToGo_57 : decode cX10_freeToGo 57 = .ok (.if_icmp .ge 33, 3) := by decide +kernel
theorem dX10_freeToGo_60 : decode cX10_freeToGo 60 = .ok (.aload_n 0, 1) := by decide +kernel
theorem dX10_freeToGo_61 : decode cX10_freeToGo 61 = .ok (.iload_n 3, 1) := by decide +kernel
theorem dX10_freeToGo_62 : decode cX10_freeToGo 62 = .ok (.invokevirtual 81, 3) := by decide +kernel
theorem dX10_freeToGo_65 : decode cX10_freeToGo 65 = .ok (.ifCond .ne 19, 3) := by decide +kernel
theorem dX10_freeToGo_68 : decode cX10_freeToGo 68 = .ok (.aload_n 0, 1) := by decide +kernel
theorem dX10_freeToGo_69 : decode cX10_freeToGo 69 = .ok (.iload_n 3, 1) := by decide +kernel
theorem dX10_freeToGo_70 : decode cX10_freeToGo 70 = .ok (.invokevirtual 90, 3) := by decide +kernel
theorem dX10_freeToGo_73 : decode cX10_freeToGo 73 = .ok (.iload_n 1, 1) := by decide +kernel
theorem dX10_freeToGo_74 : decode cX10_freeToGo 74 = .ok (.iand, 1) := by decide +kernel
theorem dX10_freeToGo_75 : decode cX10_freeToGo 75 = .ok (.ifCond .eq 9, 3) := by decide +kernel
theorem dX10_freeToGo_78 : decode cX10_freeToGo 78 = .ok (.iload_n 1, 1) := by decide +kernel
theorem dX10_freeToGo_79 : decode cX10_freeToGo 79 = .ok (.iconst 1, 1) := by decide +kernel
theorem dX10_freeToGo_80 : decode cX10_freeToGo 80 = .ok (.iload_n 3, 1) := by decide +kernel
theorem dX10_freeToGo_81 : decode cX10_freeToGo 81 = .ok (.ishl, 1) := by decide +kernel
theorem dX10_freeToGo_82 : decode cX10_freeToGo 82 = .ok (.ior, 1) := by decide +kernel
theorem dX10_freeToGo_83 : decode cX10_freeToGo 83 = .ok (.istore_n 1, 1) := by decide +kernel
theorem dX10_freeToGo_84 : decode cX10_freeToGo 84 = .ok (.iinc 3 1, 3) := by decide +kernel
theorem dX10_freeToGo_87 : decode cX10_freeToGo 87 = .ok (.goto (-35), 3) := by decide +kernel
theorem dX10_freeToGo_90 : decode cX10_freeToGo 90 = .ok (.iinc 2 1, 3) := by decide +kernel
theorem dX10_freeToGo_93 : decode cX10_freeToGo 93 = .ok (.goto (-51), 3) := by decide +kernel
theorem dX10_freeToGo_96 : decode cX10_freeToGo 96 = .ok (.iload_n 1, 1) := by decide +kernel
theorem dX10_freeToGo_97 : decode cX10_freeToGo 97 = .ok (.ireturn, 1) := by decide +kernel
theorem dX10_hard_0 : decode cX10_hard 0 = .ok (.iconst 0, 1) := by decide +kernel
theorem dX10_hard_1 : decode cX10_hard 1 = .ok (.istore_n 1, 1) := by decide +kernel
theorem dX10_hard_2 : decode cX10_hard 2 = .ok (.iconst 0, 1) := by decide +kernel
theorem dX10_hard_3 : decode cX10_hard 3 = .ok (.istore_n 2, 1) := by decide +kernel
theorem dX10_hard_4 : decode cX10_hard 4 = .ok (.iload_n 2, 1) := by decide +kernel
theorem dX10_hard_5 : decode cX10_hard 5 = .ok (.aload_n 0, 1) := by decide +kernel
theorem dX10_hard_6 : decode cX10_hard 6 = .ok (.invokevirtual 43, 3) := by decide +kernel
theorem dX10_hard_9 : decode cX10_hard 9 = .ok (.if_icmp .ge 23, 3) := by decide +kernel
theorem dX10_hard_12 : decode cX10_hard 12 = .ok (.aload_n 0, 1) := by decide +kernel
theorem dX10_hard_13 : decode cX10_hard 13 = .ok (.iload_n 2, 1) := by decide +kernel
theorem dX10_hard_14 : decode cX10_hard 14 = .ok (.invokevirtual 81, 3) := by decide +kernel
theorem dX10_hard_17 : decode cX10_hard 17 = .ok (.ifCond .ne 9, 3) := by decide +kernel
theorem dX10_hard_20 : decode cX10_hard 20 = .ok (.iload_n 1, 1) := by decide +kernel
theorem dX10_hard_21 : decode cX10_hard 21 = .ok (.iconst 1, 1) := by decide +kernel
theorem dX10_hard_22 : decode cX10_hard 22 = .ok (.iload_n 2, 1) := by decide +kernel
theorem dX10_hard_23 : decode cX10_hard 23 = .ok (.ishl, 1) := by decide +kernel
theorem dX10_hard_24 : decode cX10_hard 24 = .ok (.ior, 1) := by decide +kernel
theorem dX10_hard_25 : decode cX10_hard 25 = .ok (.istore_n 1, 1) := by decide +kernel
theorem dX10_hard_26 : decode cX10_hard 26 = .ok (.iinc 2 1, 3) := by decide +kernel
theorem dX10_hard_29 : decode cX10_hard 29 = .ok (.goto (-25), 3) := by decide +kernel
theorem dX10_hard_32 : decode cX10_hard 32 = .ok (.iload_n 1, 1) := by decide +kernel
theorem dX10_hard_33 : decode cX10_hard 33 = .ok (.aload_n 0, 1) := by decide +kernel
theorem dX10_hard_34 : decode cX10_hard 34 = .ok (.invokevirtual 93, 3) := by decide +kernel
theorem dX10_hard_37 : decode cX10_hard 37 = .ok (.iconst (-1), 1) := by decide +kernel
theorem dX10_hard_38 : decode cX10_hard 38 = .ok (.ixor, 1) := by decide +kernel
theorem dX10_hard_39 : decode cX10_hard 39 = .ok (.iand, 1) := by decide +kernel
theorem dX10_hard_40 : decode cX10_hard 40 = .ok (.ireturn, 1) := by decide +kernel
theorem dX10_isSoft_0 : decode cX10_isSoft 0 = .ok (.aload_n 0, 1) := by decide +kernel
theorem dX10_isSoft_1 : decode cX10_isSoft 1 = .ok (.iload_n 1, 1) := by decide +kernel
theorem dX10_isSoft_2 : decode cX10_isSoft 2 = .ok (.invokevirtual 84, 3) := by decide +kernel
theorem dX10_isSoft_5 : decode cX10_isSoft 5 = .ok (.ifCond .eq 34, 3) := by decide +kernel
theorem dX10_isSoft_8 : decode cX10_isSoft 8 = .ok (.iload_n 2, 1) := by decide +kernel
theorem dX10_isSoft_9 : decode cX10_isSoft 9 = .ok (.iload_n 1, 1) := by decide +kernel
theorem dX10_isSoft_10 : decode cX10_isSoft 10 = .ok (.invokestatic 96, 3) := by decide +kernel
theorem dX10_isSoft_13 : decode cX10_isSoft 13 = .ok (.ifCond .ne 26, 3) := by decide +kernel
theorem dX10_isSoft_16 : decode cX10_isSoft 16 = .ok (.aload_n 0, 1) := by decide +kernel
theorem dX10_isSoft_17 : decode cX10_isSoft 17 = .ok (.iload_n 1, 1) := by decide +kernel
theorem dX10_isSoft_18 : decode cX10_isSoft 18 = .ok (.invokevirtual 100, 3) := by decide +kernel
theorem dX10_isSoft_21 : decode cX10_isSoft 21 = .ok (.aload_n 0, 1) := by decide +kernel
theorem dX10_isSoft_22 : decode cX10_isSoft 22 = .ok (.getfield 7, 3) := by decide +kernel
theorem dX10_isSoft_25 : decode cX10_isSoft 25 = .ok (.aload_n 0, 1) := by decide +kernel
theorem dX10_isSoft_26 : decode cX10_isSoft 26 = .ok (.getfield 40, 3) := by decide +kernel
theorem dX10_isSoft_29 : decode cX10_isSoft 29 = .ok (.iconst 1, 1) := by decide +kernel
theorem dX10_isSoft_30 : decode cX10_isSoft 30 = .ok (.iadd, 1) := by decide +kernel
theorem dX10_isSoft_31 : decode cX10_isSoft 31 = .ok (.iaload, 1) := by decide +kernel
theorem dX10_isSoft_32 : decode cX10_isSoft 32 = .ok (.if_icmp .lt 7, 3) := by decide +kernel
theorem dX10_isSoft_35 : decode cX10_isSoft 35 = .ok (.iconst 1, 1) := by decide +kernel
theorem dX10_isSoft_36 : decode cX10_isSoft 36 = .ok (.goto 4, 3) := by decide +kernel
theorem dX10_isSoft_39 : decode cX10_isSoft 39 = .ok (.iconst 0, 1) := by decide +kernel
theorem dX10_isSoft_40 : decode cX10_isSoft 40 = .ok (.ireturn, 1) := by decide +kernel
theorem dX10_isSlow_0 : decode cX10_isSlow 0 = .ok (.aload_n 0, 1) := by decide +kernel
theorem dX10_isSlow_1 : decode cX10_isSlow 1 = .ok (.iload_n 1, 1) := by decide +kernel
theorem dX10_isSlow_2 : decode cX10_isSlow 2 = .ok (.invokevirtual 81, 3) := by decide +kernel
theorem dX10_isSlow_5 : decode cX10_isSlow 5 = .ok (.ifCond .ne 48, 3) := by decide +kernel
theorem dX10_isSlow_8 : decode cX10_isSlow 8 = .ok (.aload_n 0, 1) := by decide +kernel
theorem dX10_isSlow_9 : decode cX10_isSlow 9 = .ok (.iload_n 1, 1) := by decide +kernel
theorem dX10_isSlow_10 : decode cX10_isSlow 10 = .ok (.invokevirtual 62, 3) := by decide +kernel
theorem dX10_isSlow_13 : decode cX10_isSlow 13 = .ok (.bipush 7, 2) := by decide +kernel
theorem dX10_isSlow_15 : decode cX10_isSlow 15 = .ok (.if_icmp .ne 38, 3) := by decide +kernel
theorem dX10_isSlow_18 : decode cX10_isSlow 18 = .ok (.aload_n 0, 1) := by decide +kernel
theorem dX10_isSlow_19 : decode cX10_isSlow 19 = .ok (.iload_n 1, 1) := by decide +kernel
theorem dX10_isSlow_20 : decode cX10_isSlow 20 = .ok (.invokevirtual 100, 3) := by decide +kernel
theorem dX10_isSlow_23 : decode cX10_isSlow 23 = .ok (.aload_n 0, 1) := by decide +kernel
theorem dX10_isSlow_24 : decode cX10_isSlow 24 = .ok (.getfield 7, 3) := by decide +kernel
theorem dX10_isSlow_27 : decode cX10_isSlow 27 = .ok (.aload_n 0, 1) := by decide +kernel
theorem dX10_isSlow_28 : decode cX10_isSlow 28 = .ok (.getfield 40, 3) := by decide +kernel
theorem dX10_isSlow_31 : decode cX10_isSlow 31 = .ok (.iconst 1, 1) := by decide +kernel
theorem dX10_isSlow_32 : decode cX10_isSlow 32 = .ok (.iadd, 1) := by decide +kernel
theorem dX10_isSlow_33 : decode cX10_isSlow 33 = .ok (.iaload, 1) := by decide +kernel
theorem dX10_isSlow_34 : decode cX10_isSlow 34 = .ok (.aload_n 0, 1) := by decide +kernel
theorem dX10_isSlow_35 : decode cX10_isSlow 35 = .ok (.getfield 7, 3) := by decide +kernel
theorem dX10_isSlow_38 : decode cX10_isSlow 38 = .ok (.aload_n 0, 1) := by decide +kernel
theorem dX10_isSlow_39 : decode cX10_isSlow 39 = .ok (.getfield 40, 3) := by decide +kernel
theorem dX10_isSlow_42 : decode cX10_isSlow 42 = .ok (.iconst 2, 1) := by decide +kernel
theorem dX10_isSlow_43 : decode cX10_isSlow 43 = .ok (.iadd, 1) := by decide +kernel
theorem dX10_isSlow_44 : decode cX10_isSlow 44 = .ok (.iaload, 1) := by decide +kernel
theorem dX10_isSlow_45 : decode cX10_isSlow 45 = .ok (.iadd, 1) := by decide +kernel
theorem dX10_isSlow_46 : decode cX10_isSlow 46 = .ok (.if_icmp .lt 7, 3) := by decide +kernel
theorem dX10_isSlow_49 : decode cX10_isSlow 49 = .ok (.iconst 1, 1) := by decide +kernel
theorem dX10_isSlow_50 : decode cX10_isSlow 50 = .ok (.goto 4, 3) := by decide +kernel
theorem dX10_isSlow_53 : decode cX10_isSlow 53 = .ok (.iconst 0, 1) := by decide +kernel
theorem dX10_isSlow_54 : decode cX10_isSlow 54 = .ok (.ireturn, 1) := by decide +kernel
theorem dX10_neighbour_0 : decode cX10_neighbour 0 = .ok (.iconst 1, 1) := by decide +kernel
theorem dX10_neighbour_1 : decode cX10_neighbour 1 = .ok (.istore_n 3, 1) := by decide +kernel
theorem dX10_neighbour_2 : decode cX10_neighbour 2 = .ok (.iload_n 3, 1) := by decide +kernel
theorem dX10_neighbour_3 : decode cX10_neighbour 3 = .ok (.aload_n 0, 1) := by decide +kernel
theorem dX10_neighbour_4 : decode cX10_neighbour 4 = .ok (.invokevirtual 43, 3) := by decide +kernel
theorem dX10_neighbour_7 : decode cX10_neighbour 7 = .ok (.if_icmp .ge 40, 3) := by decide +kernel
theorem dX10_neighbour_10 : decode cX10_neighbour 10 = .ok (.iload_n 1, 1) := by decide +kernel
theorem dX10_neighbour_11 : decode cX10_neighbour 11 = .ok (.iload_n 3, 1) := by decide +kernel
theorem dX10_neighbour_12 : decode cX10_neighbour 12 = .ok (.iadd, 1) := by decide +kernel
theorem dX10_neighbour_13 : decode cX10_neighbour 13 = .ok (.aload_n 0, 1) := by decide +kernel
theorem dX10_neighbour_14 : decode cX10_neighbour 14 = .ok (.invokevirtual 43, 3) := by decide +kernel
theorem dX10_neighbour_17 : decode cX10_neighbour 17 = .ok (.irem, 1) := by decide +kernel
theorem dX10_neighbour_18 : decode cX10_neighbour 18 = .ok (.istore 4, 2) := by decide +kernel
theorem dX10_neighbour_20 : decode cX10_neighbour 20 = .ok (.aload_n 0, 1) := by decide +kernel
theorem dX10_neighbour_21 : decode cX10_neighbour 21 = .ok (.iload 4, 2) := by decide +kernel
theorem dX10_neighbour_23 : decode cX10_neighbour 23 = .ok (.invokevirtual 81, 3) := by decide +kernel
theorem dX10_neighbour_26 : decode cX10_neighbour 26 = .ok (.ifCond .ne 15, 3) := by decide +kernel
theorem dX10_neighbour_29 : decode cX10_neighbour 29 = .ok (.iload_n 2, 1) := by decide +kernel
theorem dX10_neighbour_30 : decode cX10_neighbour 30 = .ok (.iload 4, 2) := by decide +kernel
theorem dX10_neighbour_32 : decode cX10_neighbour 32 = .ok (.invokestatic 96, 3) := by decide +kernel
theorem dX10_neighbour_35 : decode cX10_neighbour 35 = .ok (.ifCond .ne 6, 3) := by decide +kernel
theorem dX10_neighbour_38 : decode cX10_neighbour 38 = .ok (.iload 4, 2) := by decide +kernel
theorem dX10_neighbour_40 : decode cX10_neighbour 40 = .ok (.ireturn, 1) := by decide +kernel
theorem dX10_neighbour_41 : decode cX10_neighbour 41 = .ok (.iinc 3 1, 3) := by decide +kernel
theorem dX10_neighbour_44 : decode cX10_neighbour 44 = .ok (.goto (-42), 3) := by decide +kernel
theorem dX10_neighbour_47 : decode cX10_neighbour 47 = .ok (.iconst (-1), 1) := by decide +kernel
theorem dX10_neighbour_48 : decode cX10_neighbour 48 = .ok (.ireturn, 1) := by decide +kernel
theorem dX10_letsGo_0 : decode cX10_letsGo 0 = .ok (.aload_n 0, 1) := by decide +kernel
theorem dX10_letsGo_1 : decode cX10_letsGo 1 = .ok (.iload_n 1, 1) := by decide +kernel
theorem dX10_letsGo_2 : decode cX10_letsGo 2 = .ok (.invokevirtual 62, 3) := by decide +kernel
theorem dX10_letsGo_5 : decode cX10_letsGo 5 = .ok (.iconst 1, 1) := by decide +kernel
theorem dX10_letsGo_6 : decode cX10_letsGo 6 = .ok (.if_icmp .ne 23, 3) := by decide +kernel
theorem dX10_letsGo_9 : decode cX10_letsGo 9 = .ok (.aload_n 0, 1) := by decide +kernel
theorem dX10_letsGo_10 : decode cX10_letsGo 10 = .ok (.getfield 7, 3) := by decide +kernel
theorem dX10_letsGo_13 : decode cX10_letsGo 13 = .ok (.aload_n 0, 1) := by decide +kernel
theorem dX10_letsGo_14 : decode cX10_letsGo 14 = .ok (.getfield 40, 3) := by decide +kernel
theorem dX10_letsGo_17 : decode cX10_letsGo 17 = .ok (.sipush 240, 3) := by decide +kernel
theorem dX10_letsGo_20 : decode cX10_letsGo 20 = .ok (.iadd, 1) := by decide +kernel
theorem dX10_letsGo_21 : decode cX10_letsGo 21 = .ok (.aload_n 0, 1) := by decide +kernel
theorem dX10_letsGo_22 : decode cX10_letsGo 22 = .ok (.iload_n 1, 1) := by decide +kernel
theorem dX10_letsGo_23 : decode cX10_letsGo 23 = .ok (.invokevirtual 68, 3) := by decide +kernel
theorem dX10_letsGo_26 : decode cX10_letsGo 26 = .ok (.iadd, 1) := by decide +kernel
theorem dX10_letsGo_27 : decode cX10_letsGo 27 = .ok (.iload_n 1, 1) := by decide +kernel
theorem dX10_letsGo_28 : decode cX10_letsGo 28 = .ok (.iastore, 1) := by decide +kernel
theorem dX10_letsGo_29 : decode cX10_letsGo 29 = .ok (.aload_n 0, 1) := by decide +kernel
theorem dX10_letsGo_30 : decode cX10_letsGo 30 = .ok (.iload_n 1, 1) := by decide +kernel
theorem dX10_letsGo_31 : decode cX10_letsGo 31 = .ok (.invokevirtual 78, 3) := by decide +kernel
theorem dX10_letsGo_34 : decode cX10_letsGo 34 = .ok (.return_, 1) := by decide +kernel
theorem dX10_bits_0 : decode cX10_bits 0 = .ok (.iconst 0, 1) := by decide +kernel
theorem dX10_bits_1 : decode cX10_bits 1 = .ok (.istore_n 1, 1) := by decide +kernel
theorem dX10_bits_2 : decode cX10_bits 2 = .ok (.iconst 0, 1) := by decide +kernel
theorem dX10_bits_3 : decode cX10_bits 3 = .ok (.istore_n 2, 1) := by decide +kernel
theorem dX10_bits_4 : decode cX10_bits 4 = .ok (.iload_n 2, 1) := by decide +kernel
theorem dX10_bits_5 : decode cX10_bits 5 = .ok (.bipush 8, 2) := by decide +kernel
theorem dX10_bits_7 : decode cX10_bits 7 = .ok (.if_icmp .ge 17, 3) := by decide +kernel
theorem dX10_bits_10 : decode cX10_bits 10 = .ok (.iload_n 1, 1) := by decide +kernel
theorem dX10_bits_11 : decode cX10_bits 11 = .ok (.iload_n 0, 1) := by decide +kernel
theorem dX10_bits_12 : decode cX10_bits 12 = .ok (.iload_n 2, 1) := by decide +kernel
theorem dX10_bits_13 : decode cX10_bits 13 = .ok (.ishr, 1) := by decide +kernel
theorem dX10_bits_14 : decode cX10_bits 14 = .ok (.iconst 1, 1) := by decide +kernel
theorem dX10_bits_15 : decode cX10_bits 15 = .ok (.iand, 1) := by decide +kernel
theorem dX10_bits_16 : decode cX10_bits 16 = .ok (.iadd, 1) := by decide +kernel
theorem dX10_bits_17 : decode cX10_bits 17 = .ok (.istore_n 1, 1) := by decide +kernel
theorem dX10_bits_18 : decode cX10_bits 18 = .ok (.iinc 2 1, 3) := by decide +kernel
theorem dX10_bits_21 : decode cX10_bits 21 = .ok (.goto (-17), 3) := by decide +kernel
theorem dX10_bits_24 : decode cX10_bits 24 = .ok (.iload_n 1, 1) := by decide +kernel
theorem dX10_bits_25 : decode cX10_bits 25 = .ok (.ireturn, 1) := by decide +kernel
theorem dX10_freedBy_0 : decode cX10_freedBy 0 = .ok (.aload_n 0, 1) := by decide +kernel
theorem dX10_freedBy_1 : decode cX10_freedBy 1 = .ok (.getfield 40, 3) := by decide +kernel
theorem dX10_freedBy_4 : decode cX10_freedBy 4 = .ok (.istore_n 3, 1) := by decide +kernel
theorem dX10_freedBy_5 : decode cX10_freedBy 5 = .ok (.aload_n 0, 1) := by decide +kernel
theorem dX10_freedBy_6 : decode cX10_freedBy 6 = .ok (.aload_n 0, 1) := by decide +kernel
theorem dX10_freedBy_7 : decode cX10_freedBy 7 = .ok (.getfield 40, 3) := by decide +kernel
theorem dX10_freedBy_10 : decode cX10_freedBy 10 = .ok (.sipush 948, 3) := by decide +kernel
theorem dX10_freedBy_13 : decode cX10_freedBy 13 = .ok (.sipush 474, 3) := by decide +kernel
theorem dX10_freedBy_16 : decode cX10_freedBy 16 = .ok (.invokevirtual 103, 3) := by decide +kernel
theorem dX10_freedBy_19 : decode cX10_freedBy 19 = .ok (.aload_n 0, 1) := by decide +kernel
theorem dX10_freedBy_20 : decode cX10_freedBy 20 = .ok (.sipush 948, 3) := by decide +kernel
theorem dX10_freedBy_23 : decode cX10_freedBy 23 = .ok (.putfield 40, 3) := by decide +kernel
theorem dX10_freedBy_26 : decode cX10_freedBy 26 = .ok (.aload_n 0, 1) := by decide +kernel
theorem dX10_freedBy_27 : decode cX10_freedBy 27 = .ok (.iload_n 1, 1) := by decide +kernel
theorem dX10_freedBy_28 : decode cX10_freedBy 28 = .ok (.invokevirtual 107, 3) := by decide +kernel
theorem dX10_freedBy_31 : decode cX10_freedBy 31 = .ok (.aload_n 0, 1) := by decide +kernel
theorem dX10_freedBy_32 : decode cX10_freedBy 32 = .ok (.invokevirtual 110, 3) := by decide +kernel
theorem dX10_freedBy_35 : decode cX10_freedBy 35 = .ok (.istore 4, 2) := by decide +kernel
theorem dX10_freedBy_37 : decode cX10_freedBy 37 = .ok (.aload_n 0, 1) := by decide +kernel
theorem dX10_freedBy_38 : decode cX10_freedBy 38 = .ok (.iload_n 3, 1) := by decide +kernel
theorem dX10_freedBy_39 : decode cX10_freedBy 39 = .ok (.putfield 40, 3) := by decide +kernel
theorem dX10_freedBy_42 : decode cX10_freedBy 42 = .ok (.iload_n 2, 1) := by decide +kernel
theorem dX10_freedBy_43 : decode cX10_freedBy 43 = .ok (.iload 4, 2) := by decide +kernel
theorem dX10_freedBy_45 : decode cX10_freedBy 45 = .ok (.iconst (-1), 1) := by decide +kernel
theorem dX10_freedBy_46 : decode cX10_freedBy 46 = .ok (.ixor, 1) := by decide +kernel
theorem dX10_freedBy_47 : decode cX10_freedBy 47 = .ok (.iand, 1) := by decide +kernel
theorem dX10_freedBy_48 : decode cX10_freedBy 48 = .ok (.invokestatic 113, 3) := by decide +kernel
theorem dX10_freedBy_51 : decode cX10_freedBy 51 = .ok (.ireturn, 1) := by decide +kernel
theorem dX10_blocker_0 : decode cX10_blocker 0 = .ok (.aload_n 0, 1) := by decide +kernel
theorem dX10_blocker_1 : decode cX10_blocker 1 = .ok (.iload_n 1, 1) := by decide +kernel
theorem dX10_blocker_2 : decode cX10_blocker 2 = .ok (.invokevirtual 84, 3) := by decide +kernel
theorem dX10_blocker_5 : decode cX10_blocker 5 = .ok (.ifCond .ne 5, 3) := by decide +kernel
theorem dX10_blocker_8 : decode cX10_blocker 8 = .ok (.iconst (-1), 1) := by decide +kernel
theorem dX10_blocker_9 : decode cX10_blocker 9 = .ok (.ireturn, 1) := by decide +kernel
theorem dX10_blocker_10 : decode cX10_blocker 10 = .ok (.iconst (-1), 1) := by decide +kernel
theorem dX10_blocker_11 : decode cX10_blocker 11 = .ok (.istore_n 3, 1) := by decide +kernel
theorem dX10_blocker_12 : decode cX10_blocker 12 = .ok (.iconst 0, 1) := by decide +kernel
theorem dX10_blocker_13 : decode cX10_blocker 13 = .ok (.istore 4, 2) := by decide +kernel
theorem dX10_blocker_15 : decode cX10_blocker 15 = .ok (.iconst 0, 1) := by decide +kernel
theorem dX10_blocker_16 : decode cX10_blocker 16 = .ok (.istore 5, 2) := by decide +kernel
theorem dX10_blocker_18 : decode cX10_blocker 18 = .ok (.iload 5, 2) := by decide +kernel
theorem dX10_blocker_20 : decode cX10_blocker 20 = .ok (.aload_n 0, 1) := by decide +kernel
theorem dX10_blocker_21 : decode cX10_blocker 21 = .ok (.invokevirtual 43, 3) := by decide +kernel
theorem dX10_blocker_24 : decode cX10_blocker 24 = .ok (.if_icmp .ge 90, 3) := by decide +kernel
theorem dX10_blocker_27 : decode cX10_blocker 27 = .ok (.aload_n 0, 1) := by decide +kernel
theorem dX10_blocker_28 : decode cX10_blocker 28 = .ok (.iload 5, 2) := by decide +kernel
theorem dX10_blocker_30 : decode cX10_blocker 30 = .ok (.invokevirtual 84, 3) := by decide +kernel
theorem dX10_blocker_33 : decode cX10_blocker 33 = .ok (.ifCond .eq 75, 3) := by decide +kernel
theorem dX10_blocker_36 : decode cX10_blocker 36 = .ok (.iload_n 2, 1) := by decide +kernel
theorem dX10_blocker_37 : decode cX10_blocker 37 = .ok (.iload_n 1, 1) := by decide +kernel
theorem dX10_blocker_38 : decode cX10_blocker 38 = .ok (.invokestatic 96, 3) := by decide +kernel
theorem dX10_blocker_41 : decode cX10_blocker 41 = .ok (.ifCond .eq 15, 3) := by decide +kernel
theorem dX10_blocker_44 : decode cX10_blocker 44 = .ok (.iload_n 2, 1) := by decide +kernel
theorem dX10_blocker_45 : decode cX10_blocker 45 = .ok (.iload 5, 2) := by decide +kernel
theorem dX10_blocker_47 : decode cX10_blocker 47 = .ok (.invokestatic 96, 3) := by decide +kernel
theorem dX10_blocker_50 : decode cX10_blocker 50 = .ok (.ifCond .ne 6, 3) := by decide +kernel
theorem dX10_blocker_53 : decode cX10_blocker 53 = .ok (.goto 55, 3) := by decide +kernel
theorem dX10_blocker_56 : decode cX10_blocker 56 = .ok (.aload_n 0, 1) := by decide +kernel
theorem dX10_blocker_57 : decode cX10_blocker 57 = .ok (.iload 5, 2) := by decide +kernel
theorem dX10_blocker_59 : decode cX10_blocker 59 = .ok (.iload_n 2, 1) := by decide +kernel
theorem dX10_blocker_60 : decode cX10_blocker 60 = .ok (.invokevirtual 116, 3) := by decide +kernel
theorem dX10_blocker_63 : decode cX10_blocker 63 = .ok (.istore 6, 2) := by decide +kernel
theorem dX10_blocker_65 : decode cX10_blocker 65 = .ok (.iload_n 3, 1) := by decide +kernel
theorem dX10_blocker_66 : decode cX10_blocker 66 = .ok (.iconst (-1), 1) := by decide +kernel
theorem dX10_blocker_67 : decode cX10_blocker 67 = .ok (.if_icmp .eq 34, 3) := by decide +kernel
theorem dX10_blocker_70 : decode cX10_blocker 70 = .ok (.iload 6, 2) := by decide +kernel
theorem dX10_blocker_72 : decode cX10_blocker 72 = .ok (.iload 4, 2) := by decide +kernel
theorem dX10_blocker_74 : decode cX10_blocker 74 = .ok (.if_icmp .lt 34, 3) := by decide +kernel
theorem dX10_blocker_77 : decode cX10_blocker 77 = .ok (.iload 6, 2) := by decide +kernel
theorem dX10_blocker_79 : decode cX10_blocker 79 = .ok (.iload 4, 2) := by decide +kernel
theorem dX10_blocker_81 : decode cX10_blocker 81 = .ok (.if_icmp .ne 20, 3) := by decide +kernel
theorem dX10_blocker_84 : decode cX10_blocker 84 = .ok (.aload_n 0, 1) := by decide +kernel
theorem dX10_blocker_85 : decode cX10_blocker 85 = .ok (.iload 5, 2) := by decide +kernel
theorem dX10_blocker_87 : decode cX10_blocker 87 = .ok (.invokevirtual 100, 3) := by decide +kernel
theorem dX10_blocker_90 : decode cX10_blocker 90 = .ok (.aload_n 0, 1) := by decide +kernel
theorem dX10_blocker_91 : decode cX10_blocker 91 = .ok (.iload_n 3, 1) := by decide +kernel
theorem dX10_blocker_92 : decode cX10_blocker 92 = .ok (.invokevirtual 100, 3) := by decide +kernel
theorem dX10_blocker_95 : decode cX10_blocker 95 = .ok (.if_icmp .gt 6, 3) := by decide +kernel
theorem dX10_blocker_98 : decode cX10_blocker 98 = .ok (.goto 10, 3) := by decide +kernel
theorem dX10_blocker_101 : decode cX10_blocker 101 = .ok (.iload 5, 2) := by decide +kernel
theorem dX10_blocker_103 : decode cX10_blocker 103 = .ok (.istore_n 3, 1) := by decide +kernel
theorem dX10_blocker_104 : decode cX10_blocker 104 = .ok (.iload 6, 2) := by decide +kernel
theorem dX10_blocker_106 : decode cX10_blocker 106 = .ok (.istore 4, 2) := by decide +kernel
theorem dX10_blocker_108 : decode cX10_blocker 108 = .ok (.iinc 5 1, 3) := by decide +kernel
theorem dX10_blocker_111 : decode cX10_blocker 111 = .ok (.goto (-93), 3) := by decide +kernel
theorem dX10_blocker_114 : decode cX10_blocker 114 = .ok (.iload_n 3, 1) := by decide +kernel
theorem dX10_blocker_115 : decode cX10_blocker 115 = .ok (.ireturn, 1) := by decide +kernel
theorem dX10_keepsStall_0 : decode cX10_keepsStall 0 = .ok (.aload_n 0, 1) := by decide +kernel
theorem dX10_keepsStall_1 : decode cX10_keepsStall 1 = .ok (.getfield 7, 3) := by decide +kernel
theorem dX10_keepsStall_4 : decode cX10_keepsStall 4 = .ok (.aload_n 0, 1) := by decide +kernel
theorem dX10_keepsStall_5 : decode cX10_keepsStall 5 = .ok (.getfield 40, 3) := by decide +kernel
theorem dX10_keepsStall_8 : decode cX10_keepsStall 8 = .ok (.sipush 322, 3) := by decide +kernel
theorem dX10_keepsStall_11 : decode cX10_keepsStall 11 = .ok (.iadd, 1) := by decide +kernel
theorem dX10_keepsStall_12 : decode cX10_keepsStall 12 = .ok (.iaload, 1) := by decide +kernel
theorem dX10_keepsStall_13 : decode cX10_keepsStall 13 = .ok (.bipush 30, 2) := by decide +kernel
theorem dX10_keepsStall_15 : decode cX10_keepsStall 15 = .ok (.if_icmp .ne 45, 3) := by decide +kernel
theorem dX10_keepsStall_18 : decode cX10_keepsStall 18 = .ok (.aload_n 0, 1) := by decide +kernel
theorem dX10_keepsStall_19 : decode cX10_keepsStall 19 = .ok (.aload_n 0, 1) := by decide +kernel
theorem dX10_keepsStall_20 : decode cX10_keepsStall 20 = .ok (.getfield 40, 3) := by decide +kernel
theorem dX10_keepsStall_23 : decode cX10_keepsStall 23 = .ok (.sipush 324, 3) := by decide +kernel
theorem dX10_keepsStall_26 : decode cX10_keepsStall 26 = .ok (.iadd, 1) := by decide +kernel
theorem dX10_keepsStall_27 : decode cX10_keepsStall 27 = .ok (.iconst 5, 1) := by decide +kernel
theorem dX10_keepsStall_28 : decode cX10_keepsStall 28 = .ok (.iadd, 1) := by decide +kernel
theorem dX10_keepsStall_29 : decode cX10_keepsStall 29 = .ok (.aload_n 0, 1) := by decide +kernel
theorem dX10_keepsStall_30 : decode cX10_keepsStall 30 = .ok (.getfield 40, 3) := by decide +kernel
theorem dX10_keepsStall_33 : decode cX10_keepsStall 33 = .ok (.sipush 324, 3) := by decide +kernel
theorem dX10_keepsStall_36 : decode cX10_keepsStall 36 = .ok (.iadd, 1) := by decide +kernel
theorem dX10_keepsStall_37 : decode cX10_keepsStall 37 = .ok (.sipush 145, 3) := by decide +kernel
theorem dX10_keepsStall_40 : decode cX10_keepsStall 40 = .ok (.invokevirtual 103, 3) := by decide +kernel
theorem dX10_keepsStall_43 : decode cX10_keepsStall 43 = .ok (.aload_n 0, 1) := by decide +kernel
theorem dX10_keepsStall_44 : decode cX10_keepsStall 44 = .ok (.getfield 7, 3) := by decide +kernel
theorem dX10_keepsStall_47 : decode cX10_keepsStall 47 = .ok (.aload_n 0, 1) := by decide +kernel
theorem dX10_keepsStall_48 : decode cX10_keepsStall 48 = .ok (.getfield 40, 3) := by decide +kernel
theorem dX10_keepsStall_51 : decode cX10_keepsStall 51 = .ok (.sipush 322, 3) := by decide +kernel
theorem dX10_keepsStall_54 : decode cX10_keepsStall 54 = .ok (.iadd, 1) := by decide +kernel
theorem dX10_keepsStall_55 : decode cX10_keepsStall 55 = .ok (.dup2, 1) := by decide +kernel
theorem dX10_keepsStall_56 : decode cX10_keepsStall 56 = .ok (.iaload, 1) := by decide +kernel
theorem dX10_keepsStall_57 : decode cX10_keepsStall 57 = .ok (.iconst 1, 1) := by decide +kernel
theorem dX10_keepsStall_58 : decode cX10_keepsStall 58 = .ok (.isub, 1) := by decide +kernel
theorem dX10_keepsStall_59 : decode cX10_keepsStall 59 = .ok (.iastore, 1) := by decide +kernel
theorem dX10_keepsStall_60 : decode cX10_keepsStall 60 = .ok (.aload_n 0, 1) := by decide +kernel
theorem dX10_keepsStall_61 : decode cX10_keepsStall 61 = .ok (.getfield 40, 3) := by decide +kernel
theorem dX10_keepsStall_64 : decode cX10_keepsStall 64 = .ok (.sipush 324, 3) := by decide +kernel
theorem dX10_keepsStall_67 : decode cX10_keepsStall 67 = .ok (.iadd, 1) := by decide +kernel
theorem dX10_keepsStall_68 : decode cX10_keepsStall 68 = .ok (.iconst 5, 1) := by decide +kernel
theorem dX10_keepsStall_69 : decode cX10_keepsStall 69 = .ok (.aload_n 0, 1) := by decide +kernel
theorem dX10_keepsStall_70 : decode cX10_keepsStall 70 = .ok (.getfield 7, 3) := by decide +kernel
theorem dX10_keepsStall_73 : decode cX10_keepsStall 73 = .ok (.aload_n 0, 1) := by decide +kernel
theorem dX10_keepsStall_74 : decode cX10_keepsStall 74 = .ok (.getfield 40, 3) := by decide +kernel
theorem dX10_keepsStall_77 : decode cX10_keepsStall 77 = .ok (.sipush 322, 3) := by decide +kernel
theorem dX10_keepsStall_80 : decode cX10_keepsStall 80 = .ok (.iadd, 1) := by decide +kernel
theorem dX10_keepsStall_81 : decode cX10_keepsStall 81 = .ok (.iaload, 1) := by decide +kernel
theorem dX10_keepsStall_82 : decode cX10_keepsStall 82 = .ok (.imul, 1) := by decide +kernel
theorem dX10_keepsStall_83 : decode cX10_keepsStall 83 = .ok (.iadd, 1) := by decide +kernel
theorem dX10_keepsStall_84 : decode cX10_keepsStall 84 = .ok (.istore 4, 2) := by decide +kernel
theorem dX10_keepsStall_86 : decode cX10_keepsStall 86 = .ok (.aload_n 0, 1) := by decide +kernel
theorem dX10_keepsStall_87 : decode cX10_keepsStall 87 = .ok (.getfield 7, 3) := by decide +kernel
theorem dX10_keepsStall_90 : decode cX10_keepsStall 90 = .ok (.iload 4, 2) := by decide +kernel
theorem dX10_keepsStall_92 : decode cX10_keepsStall 92 = .ok (.aload_n 0, 1) := by decide +kernel
theorem dX10_keepsStall_93 : decode cX10_keepsStall 93 = .ok (.getfield 7, 3) := by decide +kernel
theorem dX10_keepsStall_96 : decode cX10_keepsStall 96 = .ok (.aload_n 0, 1) := by decide +kernel
theorem dX10_keepsStall_97 : decode cX10_keepsStall 97 = .ok (.getfield 40, 3) := by decide +kernel
theorem dX10_keepsStall_100 : decode cX10_keepsStall 100 = .ok (.sipush 207, 3) := by decide +kernel
theorem dX10_keepsStall_103 : decode cX10_keepsStall 103 = .ok (.iadd, 1) := by decide +kernel
theorem dX10_keepsStall_104 : decode cX10_keepsStall 104 = .ok (.iaload, 1) := by decide +kernel
theorem dX10_keepsStall_105 : decode cX10_keepsStall 105 = .ok (.iastore, 1) := by decide +kernel
theorem dX10_keepsStall_106 : decode cX10_keepsStall 106 = .ok (.aload_n 0, 1) := by decide +kernel
theorem dX10_keepsStall_107 : decode cX10_keepsStall 107 = .ok (.getfield 7, 3) := by decide +kernel
theorem dX10_keepsStall_110 : decode cX10_keepsStall 110 = .ok (.iload 4, 2) := by decide +kernel
theorem dX10_keepsStall_112 : decode cX10_keepsStall 112 = .ok (.iconst 1, 1) := by decide +kernel
theorem dX10_keepsStall_113 : decode cX10_keepsStall 113 = .ok (.iadd, 1) := by decide +kernel
theorem dX10_keepsStall_114 : decode cX10_keepsStall 114 = .ok (.iload_n 1, 1) := by decide +kernel
theorem dX10_keepsStall_115 : decode cX10_keepsStall 115 = .ok (.iastore, 1) := by decide +kernel
theorem dX10_keepsStall_116 : decode cX10_keepsStall 116 = .ok (.aload_n 0, 1) := by decide +kernel
theorem dX10_keepsStall_117 : decode cX10_keepsStall 117 = .ok (.getfield 7, 3) := by decide +kernel
theorem dX10_keepsStall_120 : decode cX10_keepsStall 120 = .ok (.iload 4, 2) := by decide +kernel
theorem dX10_keepsStall_122 : decode cX10_keepsStall 122 = .ok (.iconst 2, 1) := by decide +kernel
theorem dX10_keepsStall_123 : decode cX10_keepsStall 123 = .ok (.iadd, 1) := by decide +kernel
theorem dX10_keepsStall_124 : decode cX10_keepsStall 124 = .ok (.iload_n 2, 1) := by decide +kernel
theorem dX10_keepsStall_125 : decode cX10_keepsStall 125 = .ok (.iastore, 1) := by decide +kernel
theorem dX10_keepsStall_126 : decode cX10_keepsStall 126 = .ok (.aload_n 0, 1) := by decide +kernel
theorem dX10_keepsStall_127 : decode cX10_keepsStall 127 = .ok (.getfield 7, 3) := by decide +kernel
theorem dX10_keepsStall_130 : decode cX10_keepsStall 130 = .ok (.iload 4, 2) := by decide +kernel
theorem dX10_keepsStall_132 : decode cX10_keepsStall 132 = .ok (.iconst 3, 1) := by decide +kernel
theorem dX10_keepsStall_133 : decode cX10_keepsStall 133 = .ok (.iadd, 1) := by decide +kernel
theorem dX10_keepsStall_134 : decode cX10_keepsStall 134 = .ok (.aload_n 0, 1) := by decide +kernel
theorem dX10_keepsStall_135 : decode cX10_keepsStall 135 = .ok (.iload_n 1, 1) := by decide +kernel
theorem dX10_keepsStall_136 : decode cX10_keepsStall 136 = .ok (.iload_n 3, 1) := by decide +kernel
theorem dX10_keepsStall_137 : decode cX10_keepsStall 137 = .ok (.invokevirtual 119, 3) := by decide +kernel
theorem dX10_keepsStall_140 : decode cX10_keepsStall 140 = .ok (.iastore, 1) := by decide +kernel
theorem dX10_keepsStall_141 : decode cX10_keepsStall 141 = .ok (.aload_n 0, 1) := by decide +kernel
theorem dX10_keepsStall_142 : decode cX10_keepsStall 142 = .ok (.getfield 7, 3) := by decide +kernel
theorem dX10_keepsStall_145 : decode cX10_keepsStall 145 = .ok (.iload 4, 2) := by decide +kernel
theorem dX10_keepsStall_147 : decode cX10_keepsStall 147 = .ok (.iconst 4, 1) := by decide +kernel
theorem dX10_keepsStall_148 : decode cX10_keepsStall 148 = .ok (.iadd, 1) := by decide +kernel
theorem dX10_keepsStall_149 : decode cX10_keepsStall 149 = .ok (.aload_n 0, 1) := by decide +kernel
theorem dX10_keepsStall_150 : decode cX10_keepsStall 150 = .ok (.iload_n 1, 1) := by decide +kernel
theorem dX10_keepsStall_151 : decode cX10_keepsStall 151 = .ok (.iload_n 3, 1) := by decide +kernel
theorem dX10_keepsStall_152 : decode cX10_keepsStall 152 = .ok (.invokevirtual 122, 3) := by decide +kernel
theorem dX10_keepsStall_155 : decode cX10_keepsStall 155 = .ok (.iastore, 1) := by decide +kernel
theorem dX10_keepsStall_156 : decode cX10_keepsStall 156 = .ok (.aload_n 0, 1) := by decide +kernel
theorem dX10_keepsStall_157 : decode cX10_keepsStall 157 = .ok (.getfield 7, 3) := by decide +kernel
theorem dX10_keepsStall_160 : decode cX10_keepsStall 160 = .ok (.aload_n 0, 1) := by decide +kernel
theorem dX10_keepsStall_161 : decode cX10_keepsStall 161 = .ok (.getfield 40, 3) := by decide +kernel
theorem dX10_keepsStall_164 : decode cX10_keepsStall 164 = .ok (.sipush 322, 3) := by decide +kernel
theorem dX10_keepsStall_167 : decode cX10_keepsStall 167 = .ok (.iadd, 1) := by decide +kernel
theorem dX10_keepsStall_168 : decode cX10_keepsStall 168 = .ok (.dup2, 1) := by decide +kernel
theorem dX10_keepsStall_169 : decode cX10_keepsStall 169 = .ok (.iaload, 1) := by decide +kernel
theorem dX10_keepsStall_170 : decode cX10_keepsStall 170 = .ok (.iconst 1, 1) := by decide +kernel
theorem dX10_keepsStall_171 : decode cX10_keepsStall 171 = .ok (.iadd, 1) := by decide +kernel
theorem dX10_keepsStall_172 : decode cX10_keepsStall 172 = .ok (.iastore, 1) := by decide +kernel
theorem dX10_keepsStall_173 : decode cX10_keepsStall 173 = .ok (.aload_n 0, 1) := by decide +kernel
theorem dX10_keepsStall_174 : decode cX10_keepsStall 174 = .ok (.getfield 7, 3) := by decide +kernel
theorem dX10_keepsStall_177 : decode cX10_keepsStall 177 = .ok (.aload_n 0, 1) := by decide +kernel
theorem dX10_keepsStall_178 : decode cX10_keepsStall 178 = .ok (.getfield 40, 3) := by decide +kernel
theorem dX10_keepsStall_181 : decode cX10_keepsStall 181 = .ok (.sipush 323, 3) := by decide +kernel
theorem dX10_keepsStall_184 : decode cX10_keepsStall 184 = .ok (.iadd, 1) := by decide +kernel
theorem dX10_keepsStall_185 : decode cX10_keepsStall 185 = .ok (.dup2, 1) := by decide +kernel
theorem dX10_keepsStall_186 : decode cX10_keepsStall 186 = .ok (.iaload, 1) := by decide +kernel
theorem dX10_keepsStall_187 : decode cX10_keepsStall 187 = .ok (.iconst 1, 1) := by decide +kernel
theorem dX10_keepsStall_188 : decode cX10_keepsStall 188 = .ok (.iadd, 1) := by decide +kernel
theorem dX10_keepsStall_189 : decode cX10_keepsStall 189 = .ok (.iastore, 1) := by decide +kernel
theorem dX10_keepsStall_190 : decode cX10_keepsStall 190 = .ok (.aload_n 0, 1) := by decide +kernel
theorem dX10_keepsStall_191 : decode cX10_keepsStall 191 = .ok (.getfield 7, 3) := by decide +kernel
theorem dX10_keepsStall_194 : decode cX10_keepsStall 194 = .ok (.aload_n 0, 1) := by decide +kernel
theorem dX10_keepsStall_195 : decode cX10_keepsStall 195 = .ok (.getfield 40, 3) := by decide +kernel
theorem dX10_keepsStall_198 : decode cX10_keepsStall 198 = .ok (.sipush 314, 3) := by decide +kernel
theorem dX10_keepsStall_201 : decode cX10_keepsStall 201 = .ok (.iadd, 1) := by decide +kernel
theorem dX10_keepsStall_202 : decode cX10_keepsStall 202 = .ok (.iload_n 1, 1) := by decide +kernel
theorem dX10_keepsStall_203 : decode cX10_keepsStall 203 = .ok (.iadd, 1) := by decide +kernel
theorem dX10_keepsStall_204 : decode cX10_keepsStall 204 = .ok (.dup2, 1) := by decide +kernel
theorem dX10_keepsStall_205 : decode cX10_keepsStall 205 = .ok (.iaload, 1) := by decide +kernel
theorem dX10_keepsStall_206 : decode cX10_keepsStall 206 = .ok (.iconst 1, 1) := by decide +kernel
theorem dX10_keepsStall_207 : decode cX10_keepsStall 207 = .ok (.iload_n 2, 1) := by decide +kernel
theorem dX10_keepsStall_208 : decode cX10_keepsStall 208 = .ok (.ishl, 1) := by decide +kernel
theorem dX10_keepsStall_209 : decode cX10_keepsStall 209 = .ok (.ior, 1) := by decide +kernel
theorem dX10_keepsStall_210 : decode cX10_keepsStall 210 = .ok (.iastore, 1) := by decide +kernel
theorem dX10_keepsStall_211 : decode cX10_keepsStall 211 = .ok (.return_, 1) := by decide +kernel
theorem dX10_kindOf_0 : decode cX10_kindOf 0 = .ok (.iload_n 2, 1) := by decide +kernel
theorem dX10_kindOf_1 : decode cX10_kindOf 1 = .ok (.iload_n 1, 1) := by decide +kernel
theorem dX10_kindOf_2 : decode cX10_kindOf 2 = .ok (.invokestatic 96, 3) := by decide +kernel
theorem dX10_kindOf_5 : decode cX10_kindOf 5 = .ok (.ifCond .eq 28, 3) := by decide +kernel
theorem dX10_kindOf_8 : decode cX10_kindOf 8 = .ok (.aload_n 0, 1) := by decide +kernel
theorem dX10_kindOf_9 : decode cX10_kindOf 9 = .ok (.iload_n 1, 1) := by decide +kernel
theorem dX10_kindOf_10 : decode cX10_kindOf 10 = .ok (.invokevirtual 100, 3) := by decide +kernel
theorem dX10_kindOf_13 : decode cX10_kindOf 13 = .ok (.aload_n 0, 1) := by decide +kernel
theorem dX10_kindOf_14 : decode cX10_kindOf 14 = .ok (.getfield 7, 3) := by decide +kernel
theorem dX10_kindOf_17 : decode cX10_kindOf 17 = .ok (.aload_n 0, 1) := by decide +kernel
theorem dX10_kindOf_18 : decode cX10_kindOf 18 = .ok (.getfield 40, 3) := by decide +kernel
theorem dX10_kindOf_21 : decode cX10_kindOf 21 = .ok (.iconst 1, 1) := by decide +kernel
theorem dX10_kindOf_22 : decode cX10_kindOf 22 = .ok (.iadd, 1) := by decide +kernel
theorem dX10_kindOf_23 : decode cX10_kindOf 23 = .ok (.iaload, 1) := by decide +kernel
theorem dX10_kindOf_24 : decode cX10_kindOf 24 = .ok (.if_icmp .lt 7, 3) := by decide +kernel
theorem dX10_kindOf_27 : decode cX10_kindOf 27 = .ok (.iconst 0, 1) := by decide +kernel
theorem dX10_kindOf_28 : decode cX10_kindOf 28 = .ok (.goto 4, 3) := by decide +kernel
theorem dX10_kindOf_31 : decode cX10_kindOf 31 = .ok (.iconst (-1), 1) := by decide +kernel
theorem dX10_kindOf_32 : decode cX10_kindOf 32 = .ok (.ireturn, 1) := by decide +kernel
theorem dX10_kindOf_33 : decode cX10_kindOf 33 = .ok (.aload_n 0, 1) := by decide +kernel
theorem dX10_kindOf_34 : decode cX10_kindOf 34 = .ok (.iload_n 1, 1) := by decide +kernel
theorem dX10_kindOf_35 : decode cX10_kindOf 35 = .ok (.iload_n 2, 1) := by decide +kernel
theorem dX10_kindOf_36 : decode cX10_kindOf 36 = .ok (.invokevirtual 125, 3) := by decide +kernel
theorem dX10_kindOf_39 : decode cX10_kindOf 39 = .ok (.ifCond .eq 7, 3) := by decide +kernel
theorem dX10_kindOf_42 : decode cX10_kindOf 42 = .ok (.iconst 1, 1) := by decide +kernel
theorem dX10_kindOf_43 : decode cX10_kindOf 43 = .ok (.goto 16, 3) := by decide +kernel
theorem dX10_kindOf_46 : decode cX10_kindOf 46 = .ok (.aload_n 0, 1) := by decide +kernel
theorem dX10_kindOf_47 : decode cX10_kindOf 47 = .ok (.iload_n 1, 1) := by decide +kernel
theorem dX10_kindOf_48 : decode cX10_kindOf 48 = .ok (.invokevirtual 128, 3) := by decide +kernel
theorem dX10_kindOf_51 : decode cX10_kindOf 51 = .ok (.ifCond .eq 7, 3) := by decide +kernel
theorem dX10_kindOf_54 : decode cX10_kindOf 54 = .ok (.iconst 2, 1) := by decide +kernel
theorem dX10_kindOf_55 : decode cX10_kindOf 55 = .ok (.goto 4, 3) := by decide +kernel
theorem dX10_kindOf_58 : decode cX10_kindOf 58 = .ok (.iconst (-1), 1) := by decide +kernel
theorem dX10_kindOf_59 : decode cX10_kindOf 59 = .ok (.ireturn, 1) := by decide +kernel
theorem dX10_ticksOnce_0 : decode cX10_ticksOnce 0 = .ok (.aload_n 0, 1) := by decide +kernel
theorem dX10_ticksOnce_1 : decode cX10_ticksOnce 1 = .ok (.getfield 7, 3) := by decide +kernel
theorem dX10_ticksOnce_4 : decode cX10_ticksOnce 4 = .ok (.aload_n 0, 1) := by decide +kernel
theorem dX10_ticksOnce_5 : decode cX10_ticksOnce 5 = .ok (.getfield 40, 3) := by decide +kernel
theorem dX10_ticksOnce_8 : decode cX10_ticksOnce 8 = .ok (.sipush 207, 3) := by decide +kernel
theorem dX10_ticksOnce_11 : decode cX10_ticksOnce 11 = .ok (.iadd, 1) := by decide +kernel
theorem dX10_ticksOnce_12 : decode cX10_ticksOnce 12 = .ok (.dup2, 1) := by decide +kernel
theorem dX10_ticksOnce_13 : decode cX10_ticksOnce 13 = .ok (.iaload, 1) := by decide +kernel
theorem dX10_ticksOnce_14 : decode cX10_ticksOnce 14 = .ok (.iconst 1, 1) := by decide +kernel
theorem dX10_ticksOnce_15 : decode cX10_ticksOnce 15 = .ok (.iadd, 1) := by decide +kernel
theorem dX10_ticksOnce_16 : decode cX10_ticksOnce 16 = .ok (.iastore, 1) := by decide +kernel
theorem dX10_ticksOnce_17 : decode cX10_ticksOnce 17 = .ok (.iconst 0, 1) := by decide +kernel
theorem dX10_ticksOnce_18 : decode cX10_ticksOnce 18 = .ok (.istore_n 1, 1) := by decide +kernel
theorem dX10_ticksOnce_19 : decode cX10_ticksOnce 19 = .ok (.iload_n 1, 1) := by decide +kernel
theorem dX10_ticksOnce_20 : decode cX10_ticksOnce 20 = .ok (.aload_n 0, 1) := by decide +kernel
theorem dX10_ticksOnce_21 : decode cX10_ticksOnce 21 = .ok (.invokevirtual 43, 3) := by decide +kernel
theorem dX10_ticksOnce_24 : decode cX10_ticksOnce 24 = .ok (.if_icmp .ge 22, 3) := by decide +kernel
theorem dX10_ticksOnce_27 : decode cX10_ticksOnce 27 = .ok (.aload_n 0, 1) := by decide +kernel
theorem dX10_ticksOnce_28 : decode cX10_ticksOnce 28 = .ok (.iload_n 1, 1) := by decide +kernel
theorem dX10_ticksOnce_29 : decode cX10_ticksOnce 29 = .ok (.invokevirtual 81, 3) := by decide +kernel
theorem dX10_ticksOnce_32 : decode cX10_ticksOnce 32 = .ok (.ifCond .ne 8, 3) := by decide +kernel
theorem dX10_ticksOnce_35 : decode cX10_ticksOnce 35 = .ok (.aload_n 0, 1) := by decide +kernel
theorem dX10_ticksOnce_36 : decode cX10_ticksOnce 36 = .ok (.iload_n 1, 1) := by decide +kernel
theorem dX10_ticksOnce_37 : decode cX10_ticksOnce 37 = .ok (.invokevirtual 131, 3) := by decide +kernel
theorem dX10_ticksOnce_40 : decode cX10_ticksOnce 40 = .ok (.iinc 1 1, 3) := by decide +kernel
theorem dX10_ticksOnce_43 : decode cX10_ticksOnce 43 = .ok (.goto (-24), 3) := by decide +kernel
theorem dX10_ticksOnce_46 : decode cX10_ticksOnce 46 = .ok (.aload_n 0, 1) := by decide +kernel
theorem dX10_ticksOnce_47 : decode cX10_ticksOnce 47 = .ok (.invokevirtual 110, 3) := by decide +kernel
theorem dX10_ticksOnce_50 : decode cX10_ticksOnce 50 = .ok (.istore_n 1, 1) := by decide +kernel
theorem dX10_ticksOnce_51 : decode cX10_ticksOnce 51 = .ok (.iconst 0, 1) := by decide +kernel
theorem dX10_ticksOnce_52 : decode cX10_ticksOnce 52 = .ok (.istore_n 2, 1) := by decide +kernel
theorem dX10_ticksOnce_53 : decode cX10_ticksOnce 53 = .ok (.iload_n 2, 1) := by decide +kernel
theorem dX10_ticksOnce_54 : decode cX10_ticksOnce 54 = .ok (.aload_n 0, 1) := by decide +kernel
theorem dX10_ticksOnce_55 : decode cX10_ticksOnce 55 = .ok (.invokevirtual 43, 3) := by decide +kernel
theorem dX10_ticksOnce_58 : decode cX10_ticksOnce 58 = .ok (.if_icmp .ge 62, 3) := by decide +kernel
theorem dX10_ticksOnce_61 : decode cX10_ticksOnce 61 = .ok (.aload_n 0, 1) := by decide +kernel
theorem dX10_ticksOnce_62 : decode cX10_ticksOnce 62 = .ok (.iload_n 2, 1) := by decide +kernel
theorem dX10_ticksOnce_63 : decode cX10_ticksOnce 63 = .ok (.invokevirtual 81, 3) := by decide +kernel
theorem dX10_ticksOnce_66 : decode cX10_ticksOnce 66 = .ok (.ifCond .eq 7, 3) := by decide +kernel
theorem dX10_ticksOnce_69 : decode cX10_ticksOnce 69 = .ok (.iconst (-1), 1) := by decide +kernel
theorem dX10_ticksOnce_70 : decode cX10_ticksOnce 70 = .ok (.goto 9, 3) := by decide +kernel
theorem dX10_ticksOnce_73 : decode cX10_ticksOnce 73 = .ok (.aload_n 0, 1) := by decide +kernel
theorem dX10_ticksOnce_74 : decode cX10_ticksOnce 74 = .ok (.iload_n 2, 1) := by decide +kernel
theorem dX10_ticksOnce_75 : decode cX10_ticksOnce 75 = .ok (.iload_n 1, 1) := by decide +kernel
theorem dX10_ticksOnce_76 : decode cX10_ticksOnce 76 = .ok (.invokevirtual 134, 3) := by decide +kernel
theorem dX10_ticksOnce_79 : decode cX10_ticksOnce 79 = .ok (.istore_n 3, 1) := by decide +kernel
theorem dX10_ticksOnce_80 : decode cX10_ticksOnce 80 = .ok (.iload_n 3, 1) := by decide +kernel
theorem dX10_ticksOnce_81 : decode cX10_ticksOnce 81 = .ok (.iconst (-1), 1) := by decide +kernel
theorem dX10_ticksOnce_82 : decode cX10_ticksOnce 82 = .ok (.if_icmp .eq 32, 3) := by decide +kernel
theorem dX10_ticksOnce_85 : decode cX10_ticksOnce 85 = .ok (.aload_n 0, 1) := by decide +kernel
theorem dX10_ticksOnce_86 : decode cX10_ticksOnce 86 = .ok (.getfield 7, 3) := by decide +kernel
theorem dX10_ticksOnce_89 : decode cX10_ticksOnce 89 = .ok (.aload_n 0, 1) := by decide +kernel
theorem dX10_ticksOnce_90 : decode cX10_ticksOnce 90 = .ok (.getfield 40, 3) := by decide +kernel
theorem dX10_ticksOnce_93 : decode cX10_ticksOnce 93 = .ok (.sipush 314, 3) := by decide +kernel
theorem dX10_ticksOnce_96 : decode cX10_ticksOnce 96 = .ok (.iadd, 1) := by decide +kernel
theorem dX10_ticksOnce_97 : decode cX10_ticksOnce 97 = .ok (.iload_n 2, 1) := by decide +kernel
theorem dX10_ticksOnce_98 : decode cX10_ticksOnce 98 = .ok (.iadd, 1) := by decide +kernel
theorem dX10_ticksOnce_99 : decode cX10_ticksOnce 99 = .ok (.iaload, 1) := by decide +kernel
theorem dX10_ticksOnce_100 : decode cX10_ticksOnce 100 = .ok (.iload_n 3, 1) := by decide +kernel
theorem dX10_ticksOnce_101 : decode cX10_ticksOnce 101 = .ok (.invokestatic 96, 3) := by decide +kernel
theorem dX10_ticksOnce_104 : decode cX10_ticksOnce 104 = .ok (.ifCond .ne 10, 3) := by decide +kernel
theorem dX10_ticksOnce_107 : decode cX10_ticksOnce 107 = .ok (.aload_n 0, 1) := by decide +kernel
theorem dX10_ticksOnce_108 : decode cX10_ticksOnce 108 = .ok (.iload_n 2, 1) := by decide +kernel
theorem dX10_ticksOnce_109 : decode cX10_ticksOnce 109 = .ok (.iload_n 3, 1) := by decide +kernel
theorem dX10_ticksOnce_110 : decode cX10_ticksOnce 110 = .ok (.iload_n 1, 1) := by decide +kernel
theorem dX10_ticksOnce_111 : decode cX10_ticksOnce 111 = .ok (.invokevirtual 137, 3) := by decide +kernel
theorem dX10_ticksOnce_114 : decode cX10_ticksOnce 114 = .ok (.iinc 2 1, 3) := by decide +kernel
theorem dX10_ticksOnce_117 : decode cX10_ticksOnce 117 = .ok (.goto (-64), 3) := by decide +kernel
theorem dX10_ticksOnce_120 : decode cX10_ticksOnce 120 = .ok (.return_, 1) := by decide +kernel
theorem dX10_ticksOf_0 : decode cX10_ticksOf 0 = .ok (.aload_n 0, 1) := by decide +kernel
theorem dX10_ticksOf_1 : decode cX10_ticksOf 1 = .ok (.getfield 7, 3) := by decide +kernel
theorem dX10_ticksOf_4 : decode cX10_ticksOf 4 = .ok (.aload_n 0, 1) := by decide +kernel
theorem dX10_ticksOf_5 : decode cX10_ticksOf 5 = .ok (.getfield 40, 3) := by decide +kernel
theorem dX10_ticksOf_8 : decode cX10_ticksOf 8 = .ok (.sipush 323, 3) := by decide +kernel
theorem dX10_ticksOf_11 : decode cX10_ticksOf 11 = .ok (.iadd, 1) := by decide +kernel
theorem dX10_ticksOf_12 : decode cX10_ticksOf 12 = .ok (.iaload, 1) := by decide +kernel
theorem dX10_ticksOf_13 : decode cX10_ticksOf 13 = .ok (.istore_n 2, 1) := by decide +kernel
theorem dX10_ticksOf_14 : decode cX10_ticksOf 14 = .ok (.iconst 0, 1) := by decide +kernel
theorem dX10_ticksOf_15 : decode cX10_ticksOf 15 = .ok (.istore_n 3, 1) := by decide +kernel
theorem dX10_ticksOf_16 : decode cX10_ticksOf 16 = .ok (.iload_n 3, 1) := by decide +kernel
theorem dX10_ticksOf_17 : decode cX10_ticksOf 17 = .ok (.iload_n 1, 1) := by decide +kernel
theorem dX10_ticksOf_18 : decode cX10_ticksOf 18 = .ok (.if_icmp .ge 13, 3) := by decide +kernel
theorem dX10_ticksOf_21 : decode cX10_ticksOf 21 = .ok (.aload_n 0, 1) := by decide +kernel
theorem dX10_ticksOf_22 : decode cX10_ticksOf 22 = .ok (.invokevirtual 140, 3) := by decide +kernel
theorem dX10_ticksOf_25 : decode cX10_ticksOf 25 = .ok (.iinc 3 1, 3) := by decide +kernel
theorem dX10_ticksOf_28 : decode cX10_ticksOf 28 = .ok (.goto (-12), 3) := by decide +kernel
theorem dX10_ticksOf_31 : decode cX10_ticksOf 31 = .ok (.aload_n 0, 1) := by decide +kernel
theorem dX10_ticksOf_32 : decode cX10_ticksOf 32 = .ok (.getfield 7, 3) := by decide +kernel
theorem dX10_ticksOf_35 : decode cX10_ticksOf 35 = .ok (.aload_n 0, 1) := by decide +kernel
theorem dX10_ticksOf_36 : decode cX10_ticksOf 36 = .ok (.getfield 40, 3) := by decide +kernel
theorem dX10_ticksOf_39 : decode cX10_ticksOf 39 = .ok (.sipush 323, 3) := by decide +kernel
theorem dX10_ticksOf_42 : decode cX10_ticksOf 42 = .ok (.iadd, 1) := by decide +kernel
theorem dX10_ticksOf_43 : decode cX10_ticksOf 43 = .ok (.iaload, 1) := by decide +kernel
theorem dX10_ticksOf_44 : decode cX10_ticksOf 44 = .ok (.iload_n 2, 1) := by decide +kernel
theorem dX10_ticksOf_45 : decode cX10_ticksOf 45 = .ok (.isub, 1) := by decide +kernel
theorem dX10_ticksOf_46 : decode cX10_ticksOf 46 = .ok (.ireturn, 1) := by decide +kernel
theorem dX10_ended_0 : decode cX10_ended 0 = .ok (.iconst 0, 1) := by decide +kernel
theorem dX10_ended_1 : decode cX10_ended 1 = .ok (.istore_n 1, 1) := by decide +kernel
theorem dX10_ended_2 : decode cX10_ended 2 = .ok (.iconst 0, 1) := by decide +kernel
theorem dX10_ended_3 : decode cX10_ended 3 = .ok (.istore_n 2, 1) := by decide +kernel
theorem dX10_ended_4 : decode cX10_ended 4 = .ok (.iload_n 2, 1) := by decide +kernel
theorem dX10_ended_5 : decode cX10_ended 5 = .ok (.aload_n 0, 1) := by decide +kernel
theorem dX10_ended_6 : decode cX10_ended 6 = .ok (.invokevirtual 43, 3) := by decide +kernel
theorem dX10_ended_9 : decode cX10_ended 9 = .ok (.if_icmp .ge 25, 3) := by decide +kernel
theorem dX10_ended_12 : decode cX10_ended 12 = .ok (.iload_n 1, 1) := by decide +kernel
theorem dX10_ended_13 : decode cX10_ended 13 = .ok (.aload_n 0, 1) := by decide +kernel
theorem dX10_ended_14 : decode cX10_ended 14 = .ok (.iload_n 2, 1) := by decide +kernel
theorem dX10_ended_15 : decode cX10_ended 15 = .ok (.invokevirtual 81, 3) := by decide +kernel
theorem dX10_ended_18 : decode cX10_ended 18 = .ok (.ifCond .eq 7, 3) := by decide +kernel
theorem dX10_ended_21 : decode cX10_ended 21 = .ok (.iconst 1, 1) := by decide +kernel
theorem dX10_ended_22 : decode cX10_ended 22 = .ok (.goto 4, 3) := by decide +kernel
theorem dX10_ended_25 : decode cX10_ended 25 = .ok (.iconst 0, 1) := by decide +kernel
theorem dX10_ended_26 : decode cX10_ended 26 = .ok (.iadd, 1) := by decide +kernel
theorem dX10_ended_27 : decode cX10_ended 27 = .ok (.istore_n 1, 1) := by decide +kernel
theorem dX10_ended_28 : decode cX10_ended 28 = .ok (.iinc 2 1, 3) := by decide +kernel
theorem dX10_ended_31 : decode cX10_ended 31 = .ok (.goto (-27), 3) := by decide +kernel
theorem dX10_ended_34 : decode cX10_ended 34 = .ok (.iload_n 1, 1) := by decide +kernel
theorem dX10_ended_35 : decode cX10_ended 35 = .ok (.ireturn, 1) := by decide +kernel
theorem dX10_keeps_0 : decode cX10_keeps 0 = .ok (.aload_n 0, 1) := by decide +kernel
theorem dX10_keeps_1 : decode cX10_keeps 1 = .ok (.getfield 143, 3) := by decide +kernel
theorem dX10_keeps_4 : decode cX10_keeps 4 = .ok (.bipush 8, 2) := by decide +kernel
theorem dX10_keeps_6 : decode cX10_keeps 6 = .ok (.if_icmp .ne 26, 3) := by decide +kernel
theorem dX10_keeps_9 : decode cX10_keeps 9 = .ok (.aload_n 0, 1) := by decide +kernel
theorem dX10_keeps_10 : decode cX10_keeps 10 = .ok (.sipush 2370, 3) := by decide +kernel
theorem dX10_keeps_13 : decode cX10_keeps 13 = .ok (.sipush 1896, 3) := by decide +kernel
theorem dX10_keeps_16 : decode cX10_keeps 16 = .ok (.sipush 3318, 3) := by decide +kernel
theorem dX10_keeps_19 : decode cX10_keeps 19 = .ok (.invokevirtual 103, 3) := by decide +kernel
theorem dX10_keeps_22 : decode cX10_keeps 22 = .ok (.aload_n 0, 1) := by decide +kernel
theorem dX10_keeps_23 : decode cX10_keeps 23 = .ok (.dup, 1) := by decide +kernel
theorem dX10_keeps_24 : decode cX10_keeps 24 = .ok (.getfield 143, 3) := by decide +kernel
theorem dX10_keeps_27 : decode cX10_keeps 27 = .ok (.iconst 1, 1) := by decide +kernel
theorem dX10_keeps_28 : decode cX10_keeps 28 = .ok (.isub, 1) := by decide +kernel
theorem dX10_keeps_29 : decode cX10_keeps 29 = .ok (.putfield 143, 3) := by decide +kernel
theorem dX10_keeps_32 : decode cX10_keeps 32 = .ok (.aload_n 0, 1) := by decide +kernel
theorem dX10_keeps_33 : decode cX10_keeps 33 = .ok (.iconst 0, 1) := by decide +kernel
theorem dX10_keeps_34 : decode cX10_keeps 34 = .ok (.sipush 1896, 3) := by decide +kernel
theorem dX10_keeps_37 : decode cX10_keeps 37 = .ok (.sipush 474, 3) := by decide +kernel
theorem dX10_keeps_40 : decode cX10_keeps 40 = .ok (.aload_n 0, 1) := by decide +kernel
theorem dX10_keeps_41 : decode cX10_keeps 41 = .ok (.getfield 143, 3) := by decide +kernel
theorem dX10_keeps_44 : decode cX10_keeps 44 = .ok (.imul, 1) := by decide +kernel
theorem dX10_keeps_45 : decode cX10_keeps 45 = .ok (.iadd, 1) := by decide +kernel
theorem dX10_keeps_46 : decode cX10_keeps 46 = .ok (.sipush 474, 3) := by decide +kernel
theorem dX10_keeps_49 : decode cX10_keeps 49 = .ok (.invokevirtual 103, 3) := by decide +kernel
theorem dX10_keeps_52 : decode cX10_keeps 52 = .ok (.aload_n 0, 1) := by decide +kernel
theorem dX10_keeps_53 : decode cX10_keeps 53 = .ok (.dup, 1) := by decide +kernel
theorem dX10_keeps_54 : decode cX10_keeps 54 = .ok (.getfield 143, 3) := by decide +kernel
theorem dX10_keeps_57 : decode cX10_keeps 57 = .ok (.iconst 1, 1) := by decide +kernel
theorem dX10_keeps_58 : decode cX10_keeps 58 = .ok (.iadd, 1) := by decide +kernel
theorem dX10_keeps_59 : decode cX10_keeps 59 = .ok (.putfield 143, 3) := by decide +kernel
theorem dX10_keeps_62 : decode cX10_keeps 62 = .ok (.return_, 1) := by decide +kernel
theorem dX10_ticks_0 : decode cX10_ticks 0 = .ok (.iload_n 1, 1) := by decide +kernel
theorem dX10_ticks_1 : decode cX10_ticks 1 = .ok (.iconst 1, 1) := by decide +kernel
theorem dX10_ticks_2 : decode cX10_ticks 2 = .ok (.sipush 200, 3) := by decide +kernel
theorem dX10_ticks_5 : decode cX10_ticks 5 = .ok (.invokestatic 47, 3) := by decide +kernel
theorem dX10_ticks_8 : decode cX10_ticks 8 = .ok (.ifCond .ne 5, 3) := by decide +kernel
theorem dX10_ticks_11 : decode cX10_ticks 11 = .ok (.iconst (-1), 1) := by decide +kernel
theorem dX10_ticks_12 : decode cX10_ticks 12 = .ok (.ireturn, 1) := by decide +kernel
theorem dX10_ticks_13 : decode cX10_ticks 13 = .ok (.aload_n 0, 1) := by decide +kernel
theorem dX10_ticks_14 : decode cX10_ticks 14 = .ok (.invokevirtual 146, 3) := by decide +kernel
theorem dX10_ticks_17 : decode cX10_ticks 17 = .ok (.aload_n 0, 1) := by decide +kernel
theorem dX10_ticks_18 : decode cX10_ticks 18 = .ok (.iload_n 1, 1) := by decide +kernel
theorem dX10_ticks_19 : decode cX10_ticks 19 = .ok (.invokevirtual 149, 3) := by decide +kernel
theorem dX10_ticks_22 : decode cX10_ticks 22 = .ok (.ireturn, 1) := by decide +kernel
theorem dX10_watch_0 : decode cX10_watch 0 = .ok (.aload_n 0, 1) := by decide +kernel
theorem dX10_watch_1 : decode cX10_watch 1 = .ok (.invokevirtual 152, 3) := by decide +kernel
theorem dX10_watch_4 : decode cX10_watch 4 = .ok (.aload_n 0, 1) := by decide +kernel
theorem dX10_watch_5 : decode cX10_watch 5 = .ok (.invokevirtual 43, 3) := by decide +kernel
theorem dX10_watch_8 : decode cX10_watch 8 = .ok (.if_icmp .ne 5, 3) := by decide +kernel
theorem dX10_watch_11 : decode cX10_watch 11 = .ok (.iconst (-1), 1) := by decide +kernel
theorem dX10_watch_12 : decode cX10_watch 12 = .ok (.ireturn, 1) := by decide +kernel
theorem dX10_watch_13 : decode cX10_watch 13 = .ok (.aload_n 0, 1) := by decide +kernel
theorem dX10_watch_14 : decode cX10_watch 14 = .ok (.invokevirtual 146, 3) := by decide +kernel
theorem dX10_watch_17 : decode cX10_watch 17 = .ok (.iconst 0, 1) := by decide +kernel
theorem dX10_watch_18 : decode cX10_watch 18 = .ok (.istore_n 1, 1) := by decide +kernel
theorem dX10_watch_19 : decode cX10_watch 19 = .ok (.aload_n 0, 1) := by decide +kernel
theorem dX10_watch_20 : decode cX10_watch 20 = .ok (.getfield 7, 3) := by decide +kernel
theorem dX10_watch_23 : decode cX10_watch 23 = .ok (.sipush 323, 3) := by decide +kernel
theorem dX10_watch_26 : decode cX10_watch 26 = .ok (.iaload, 1) := by decide +kernel
theorem dX10_watch_27 : decode cX10_watch 27 = .ok (.istore_n 2, 1) := by decide +kernel
theorem dX10_watch_28 : decode cX10_watch 28 = .ok (.iload_n 1, 1) := by decide +kernel
theorem dX10_watch_29 : decode cX10_watch 29 = .ok (.sipush 200, 3) := by decide +kernel
theorem dX10_watch_32 : decode cX10_watch 32 = .ok (.if_icmp .ge 25, 3) := by decide +kernel
theorem dX10_watch_35 : decode cX10_watch 35 = .ok (.aload_n 0, 1) := by decide +kernel
theorem dX10_watch_36 : decode cX10_watch 36 = .ok (.getfield 7, 3) := by decide +kernel
theorem dX10_watch_39 : decode cX10_watch 39 = .ok (.sipush 323, 3) := by decide +kernel
theorem dX10_watch_42 : decode cX10_watch 42 = .ok (.iaload, 1) := by decide +kernel
theorem dX10_watch_43 : decode cX10_watch 43 = .ok (.iload_n 2, 1) := by decide +kernel
theorem dX10_watch_44 : decode cX10_watch 44 = .ok (.if_icmp .ne 13, 3) := by decide +kernel
theorem dX10_watch_47 : decode cX10_watch 47 = .ok (.aload_n 0, 1) := by decide +kernel
theorem dX10_watch_48 : decode cX10_watch 48 = .ok (.invokevirtual 140, 3) := by decide +kernel
theorem dX10_watch_51 : decode cX10_watch 51 = .ok (.iinc 1 1, 3) := by decide +kernel
theorem dX10_watch_54 : decode cX10_watch 54 = .ok (.goto (-26), 3) := by decide +kernel
theorem dX10_watch_57 : decode cX10_watch 57 = .ok (.iload_n 1, 1) := by decide +kernel
theorem dX10_watch_58 : decode cX10_watch 58 = .ok (.ireturn, 1) := by decide +kernel
theorem dX10_free_0 : decode cX10_free 0 = .ok (.aload_n 0, 1) := by decide +kernel
theorem dX10_free_1 : decode cX10_free 1 = .ok (.iload_n 1, 1) := by decide +kernel
theorem dX10_free_2 : decode cX10_free 2 = .ok (.invokevirtual 155, 3) := by decide +kernel
theorem dX10_free_5 : decode cX10_free 5 = .ok (.ifCond .eq 11, 3) := by decide +kernel
theorem dX10_free_8 : decode cX10_free 8 = .ok (.aload_n 0, 1) := by decide +kernel
theorem dX10_free_9 : decode cX10_free 9 = .ok (.iload_n 1, 1) := by decide +kernel
theorem dX10_free_10 : decode cX10_free 10 = .ok (.invokevirtual 84, 3) := by decide +kernel
theorem dX10_free_13 : decode cX10_free 13 = .ok (.ifCond .ne 5, 3) := by decide +kernel
theorem dX10_free_16 : decode cX10_free 16 = .ok (.iconst 0, 1) := by decide +kernel
theorem dX10_free_17 : decode cX10_free 17 = .ok (.ireturn, 1) := by decide +kernel
theorem dX10_free_18 : decode cX10_free 18 = .ok (.aload_n 0, 1) := by decide +kernel
theorem dX10_free_19 : decode cX10_free 19 = .ok (.invokevirtual 146, 3) := by decide +kernel
theorem dX10_free_22 : decode cX10_free 22 = .ok (.aload_n 0, 1) := by decide +kernel
theorem dX10_free_23 : decode cX10_free 23 = .ok (.iload_n 1, 1) := by decide +kernel
theorem dX10_free_24 : decode cX10_free 24 = .ok (.invokevirtual 107, 3) := by decide +kernel
theorem dX10_free_27 : decode cX10_free 27 = .ok (.iconst 1, 1) := by decide +kernel
theorem dX10_free_28 : decode cX10_free 28 = .ok (.ireturn, 1) := by decide +kernel
theorem dX10_within_0 : decode cX10_within 0 = .ok (.iload_n 1, 1) := by decide +kernel
theorem dX10_within_1 : decode cX10_within 1 = .ok (.ifCond .eq 7, 3) := by decide +kernel
theorem dX10_within_4 : decode cX10_within 4 = .ok (.iconst 2, 1) := by decide +kernel
theorem dX10_within_5 : decode cX10_within 5 = .ok (.goto 4, 3) := by decide +kernel
theorem dX10_within_8 : decode cX10_within 8 = .ok (.iconst 1, 1) := by decide +kernel
theorem dX10_within_9 : decode cX10_within 9 = .ok (.istore_n 3, 1) := by decide +kernel
theorem dX10_within_10 : decode cX10_within 10 = .ok (.iload_n 2, 1) := by decide +kernel
theorem dX10_within_11 : decode cX10_within 11 = .ok (.iload_n 1, 1) := by decide +kernel
theorem dX10_within_12 : decode cX10_within 12 = .ok (.ifCond .eq 7, 3) := by decide +kernel
theorem dX10_within_15 : decode cX10_within 15 = .ok (.iconst 0, 1) := by decide +kernel
theorem dX10_within_16 : decode cX10_within 16 = .ok (.goto 4, 3) := by decide +kernel
theorem dX10_within_19 : decode cX10_within 19 = .ok (.iconst 1, 1) := by decide +kernel
theorem dX10_within_20 : decode cX10_within 20 = .ok (.bipush 50, 2) := by decide +kernel
theorem dX10_within_22 : decode cX10_within 22 = .ok (.invokestatic 47, 3) := by decide +kernel
theorem dX10_within_25 : decode cX10_within 25 = .ok (.ifCond .eq 13, 3) := by decide +kernel
theorem dX10_within_28 : decode cX10_within 28 = .ok (.aload_n 0, 1) := by decide +kernel
theorem dX10_within_29 : decode cX10_within 29 = .ok (.getfield 7, 3) := by decide +kernel
theorem dX10_within_32 : decode cX10_within 32 = .ok (.iload_n 3, 1) := by decide +kernel
theorem dX10_within_33 : decode cX10_within 33 = .ok (.iaload, 1) := by decide +kernel
theorem dX10_within_34 : decode cX10_within 34 = .ok (.iload_n 2, 1) := by decide +kernel
theorem dX10_within_35 : decode cX10_within 35 = .ok (.if_icmp .ne 5, 3) := by decide +kernel
theorem dX10_within_38 : decode cX10_within 38 = .ok (.iconst 0, 1) := by decide +kernel
theorem dX10_within_39 : decode cX10_within 39 = .ok (.ireturn, 1) := by decide +kernel
theorem dX10_within_40 : decode cX10_within 40 = .ok (.aload_n 0, 1) := by decide +kernel
theorem dX10_within_41 : decode cX10_within 41 = .ok (.invokevirtual 146, 3) := by decide +kernel
theorem dX10_within_44 : decode cX10_within 44 = .ok (.aload_n 0, 1) := by decide +kernel
theorem dX10_within_45 : decode cX10_within 45 = .ok (.getfield 7, 3) := by decide +kernel
theorem dX10_within_48 : decode cX10_within 48 = .ok (.iload_n 3, 1) := by decide +kernel
theorem dX10_within_49 : decode cX10_within 49 = .ok (.iload_n 2, 1) := by decide +kernel
theorem dX10_within_50 : decode cX10_within 50 = .ok (.iastore, 1) := by decide +kernel
theorem dX10_within_51 : decode cX10_within 51 = .ok (.iconst 1, 1) := by decide +kernel
theorem dX10_within_52 : decode cX10_within 52 = .ok (.ireturn, 1) := by decide +kernel
theorem dX10_undo_0 : decode cX10_undo 0 = .ok (.aload_n 0, 1) := by decide +kernel
theorem dX10_undo_1 : decode cX10_undo 1 = .ok (.getfield 143, 3) := by decide +kernel
theorem dX10_undo_4 : decode cX10_undo 4 = .ok (.ifCond .ne 5, 3) := by decide +kernel
theorem dX10_undo_7 : decode cX10_undo 7 = .ok (.iconst (-1), 1) := by decide +kernel
theorem dX10_undo_8 : decode cX10_undo 8 = .ok (.ireturn, 1) := by decide +kernel
theorem dX10_undo_9 : decode cX10_undo 9 = .ok (.aload_n 0, 1) := by decide +kernel
theorem dX10_undo_10 : decode cX10_undo 10 = .ok (.dup, 1) := by decide +kernel
theorem dX10_undo_11 : decode cX10_undo 11 = .ok (.getfield 143, 3) := by decide +kernel
theorem dX10_undo_14 : decode cX10_undo 14 = .ok (.iconst 1, 1) := by decide +kernel
theorem dX10_undo_15 : decode cX10_undo 15 = .ok (.isub, 1) := by decide +kernel
theorem dX10_undo_16 : decode cX10_undo 16 = .ok (.putfield 143, 3) := by decide +kernel
theorem dX10_undo_19 : decode cX10_undo 19 = .ok (.aload_n 0, 1) := by decide +kernel
theorem dX10_undo_20 : decode cX10_undo 20 = .ok (.sipush 1896, 3) := by decide +kernel
theorem dX10_undo_23 : decode cX10_undo 23 = .ok (.sipush 474, 3) := by decide +kernel
theorem dX10_undo_26 : decode cX10_undo 26 = .ok (.aload_n 0, 1) := by decide +kernel
theorem dX10_undo_27 : decode cX10_undo 27 = .ok (.getfield 143, 3) := by decide +kernel
theorem dX10_undo_30 : decode cX10_undo 30 = .ok (.imul, 1) := by decide +kernel
theorem dX10_undo_31 : decode cX10_undo 31 = .ok (.iadd, 1) := by decide +kernel
theorem dX10_undo_32 : decode cX10_undo 32 = .ok (.iconst 0, 1) := by decide +kernel
theorem dX10_undo_33 : decode cX10_undo 33 = .ok (.sipush 474, 3) := by decide +kernel
theorem dX10_undo_36 : decode cX10_undo 36 = .ok (.invokevirtual 103, 3) := by decide +kernel
theorem dX10_undo_39 : decode cX10_undo 39 = .ok (.aload_n 0, 1) := by decide +kernel
theorem dX10_undo_40 : decode cX10_undo 40 = .ok (.getfield 143, 3) := by decide +kernel
theorem dX10_undo_43 : decode cX10_undo 43 = .ok (.ireturn, 1) := by decide +kernel
theorem dX10_counted_0 : decode cX10_counted 0 = .ok (.aload_n 0, 1) := by decide +kernel
theorem dX10_counted_1 : decode cX10_counted 1 = .ok (.invokevirtual 110, 3) := by decide +kernel
theorem dX10_counted_4 : decode cX10_counted 4 = .ok (.istore_n 2, 1) := by decide +kernel
theorem dX10_counted_5 : decode cX10_counted 5 = .ok (.iconst 0, 1) := by decide +kernel
theorem dX10_counted_6 : decode cX10_counted 6 = .ok (.istore_n 3, 1) := by decide +kernel
theorem dX10_counted_7 : decode cX10_counted 7 = .ok (.iconst 0, 1) := by decide +kernel
theorem dX10_counted_8 : decode cX10_counted 8 = .ok (.istore 4, 2) := by decide +kernel
theorem dX10_counted_10 : decode cX10_counted 10 = .ok (.iload 4, 2) := by decide +kernel
theorem dX10_counted_12 : decode cX10_counted 12 = .ok (.aload_n 0, 1) := by decide +kernel
theorem dX10_counted_13 : decode cX10_counted 13 = .ok (.invokevirtual 43, 3) := by decide +kernel
theorem dX10_counted_16 : decode cX10_counted 16 = .ok (.if_icmp .ge 110, 3) := by decide +kernel
theorem dX10_counted_19 : decode cX10_counted 19 = .ok (.aload_n 0, 1) := by decide +kernel
theorem dX10_counted_20 : decode cX10_counted 20 = .ok (.iload 4, 2) := by decide +kernel
theorem dX10_counted_22 : decode cX10_counted 22 = .ok (.invokevirtual 81, 3) := by decide +kernel
theorem dX10_counted_25 : decode cX10_counted 25 = .ok (.ifCond .eq 6, 3) := by decide +kernel
theorem dX10_counted_28 : decode cX10_counted 28 = .ok (.goto 92, 3) := by decide +kernel
theorem dX10_counted_31 : decode cX10_counted 31 = .ok (.iload_n 1, 1) := by decide +kernel
theorem dX10_counted_32 : decode cX10_counted 32 = .ok (.iconst 5, 1) := by decide +kernel
theorem dX10_counted_33 : decode cX10_counted 33 = .ok (.if_icmp .ne 12, 3) := by decide +kernel
theorem dX10_counted_36 : decode cX10_counted 36 = .ok (.aload_n 0, 1) := by decide +kernel
theorem dX10_counted_37 : decode cX10_counted 37 = .ok (.iload 4, 2) := by decide +kernel
theorem dX10_counted_39 : decode cX10_counted 39 = .ok (.invokevirtual 84, 3) := by decide +kernel
theorem dX10_counted_42 : decode cX10_counted 42 = .ok (.goto 63, 3) := by decide +kernel
theorem dX10_counted_45 : decode cX10_counted 45 = .ok (.iload_n 1, 1) := by decide +kernel
theorem dX10_counted_46 : decode cX10_counted 46 = .ok (.bipush 6, 2) := by decide +kernel
theorem dX10_counted_48 : decode cX10_counted 48 = .ok (.if_icmp .ne 20, 3) := by decide +kernel
theorem dX10_counted_51 : decode cX10_counted 51 = .ok (.iload_n 2, 1) := by decide +kernel
theorem dX10_counted_52 : decode cX10_counted 52 = .ok (.iload 4, 2) := by decide +kernel
theorem dX10_counted_54 : decode cX10_counted 54 = .ok (.invokestatic 96, 3) := by decide +kernel
theorem dX10_counted_57 : decode cX10_counted 57 = .ok (.ifCond .ne 7, 3) := by decide +kernel
theorem dX10_counted_60 : decode cX10_counted 60 = .ok (.iconst 1, 1) := by decide +kernel
theorem dX10_counted_61 : decode cX10_counted 61 = .ok (.goto 44, 3) := by decide +kernel
theorem dX10_counted_64 : decode cX10_counted 64 = .ok (.iconst 0, 1) := by decide +kernel
theorem dX10_counted_65 : decode cX10_counted 65 = .ok (.goto 40, 3) := by decide +kernel
theorem dX10_counted_68 : decode cX10_counted 68 = .ok (.iload_n 1, 1) := by decide +kernel
theorem dX10_counted_69 : decode cX10_counted 69 = .ok (.bipush 7, 2) := by decide +kernel
theorem dX10_counted_71 : decode cX10_counted 71 = .ok (.if_icmp .ne 12, 3) := by decide +kernel
theorem dX10_counted_74 : decode cX10_counted 74 = .ok (.iload_n 2, 1) := by decide +kernel
theorem dX10_counted_75 : decode cX10_counted 75 = .ok (.iload 4, 2) := by decide +kernel
theorem dX10_counted_77 : decode cX10_counted 77 = .ok (.invokestatic 96, 3) := by decide +kernel
theorem dX10_counted_80 : decode cX10_counted 80 = .ok (.goto 25, 3) := by decide +kernel
theorem dX10_counted_83 : decode cX10_counted 83 = .ok (.iload_n 1, 1) := by decide +kernel
theorem dX10_counted_84 : decode cX10_counted 84 = .ok (.bipush 8, 2) := by decide +kernel
theorem dX10_counted_86 : decode cX10_counted 86 = .ok (.if_icmp .ne 13, 3) := by decide +kernel
theorem dX10_counted_89 : decode cX10_counted 89 = .ok (.aload_n 0, 1) := by decide +kernel
theorem dX10_counted_90 : decode cX10_counted 90 = .ok (.iload 4, 2) := by decide +kernel
theorem dX10_counted_92 : decode cX10_counted 92 = .ok (.iload_n 2, 1) := by decide +kernel
theorem dX10_counted_93 : decode cX10_counted 93 = .ok (.invokevirtual 125, 3) := by decide +kernel
theorem dX10_counted_96 : decode cX10_counted 96 = .ok (.goto 9, 3) := by decide +kernel
theorem dX10_counted_99 : decode cX10_counted 99 = .ok (.aload_n 0, 1) := by decide +kernel
theorem dX10_counted_100 : decode cX10_counted 100 = .ok (.iload 4, 2) := by decide +kernel
theorem dX10_counted_102 : decode cX10_counted 102 = .ok (.invokevirtual 128, 3) := by decide +kernel
theorem dX10_counted_105 : decode cX10_counted 105 = .ok (.istore 5, 2) := by decide +kernel
theorem dX10_counted_107 : decode cX10_counted 107 = .ok (.iload_n 3, 1) := by decide +kernel
theorem dX10_counted_108 : decode cX10_counted 108 = .ok (.iload 5, 2) := by decide +kernel
theorem dX10_counted_110 : decode cX10_counted 110 = .ok (.ifCond .eq 7, 3) := by decide +kernel
theorem dX10_counted_113 : decode cX10_counted 113 = .ok (.iconst 1, 1) := by decide +kernel
theorem dX10_counted_114 : decode cX10_counted 114 = .ok (.goto 4, 3) := by decide +kernel
theorem dX10_counted_117 : decode cX10_counted 117 = .ok (.iconst 0, 1) := by decide +kernel
theorem dX10_counted_118 : decode cX10_counted 118 = .ok (.iadd, 1) := by decide +kernel
theorem dX10_counted_119 : decode cX10_counted 119 = .ok (.istore_n 3, 1) := by decide +kernel
theorem dX10_counted_120 : decode cX10_counted 120 = .ok (.iinc 4 1, 3) := by decide +kernel
theorem dX10_counted_123 : decode cX10_counted 123 = .ok (.goto (-113), 3) := by decide +kernel
theorem dX10_counted_126 : decode cX10_counted 126 = .ok (.iload_n 3, 1) := by decide +kernel
theorem dX10_counted_127 : decode cX10_counted 127 = .ok (.ireturn, 1) := by decide +kernel
theorem dX10_count_0 : decode cX10_count 0 = .ok (.iload_n 1, 1) := by decide +kernel
theorem dX10_count_1 : decode cX10_count 1 = .ok (.tableswitch 132 0 13 #[71, 76, 81, 90, 97, 132, 132, 132, 132, 132, 104, 113, 122, 127], 71) := by decide +kernel
theorem dX10_count_72 : decode cX10_count 72 = .ok (.aload_n 0, 1) := by decide +kernel
theorem dX10_count_73 : decode cX10_count 73 = .ok (.invokevirtual 43, 3) := by decide +kernel
theorem dX10_count_76 : decode cX10_count 76 = .ok (.ireturn, 1) := by decide +kernel
theorem dX10_count_77 : decode cX10_count 77 = .ok (.aload_n 0, 1) := by decide +kernel
theorem dX10_count_78 : decode cX10_count 78 = .ok (.invokevirtual 152, 3) := by decide +kernel
theorem dX10_count_81 : decode cX10_count 81 = .ok (.ireturn, 1) := by decide +kernel
theorem dX10_count_82 : decode cX10_count 82 = .ok (.aload_n 0, 1) := by decide +kernel
theorem dX10_count_83 : decode cX10_count 83 = .ok (.getfield 7, 3) := by decide +kernel
theorem dX10_count_86 : decode cX10_count 86 = .ok (.sipush 207, 3) := by decide +kernel
theorem dX10_count_89 : decode cX10_count 89 = .ok (.iaload, 1) := by decide +kernel
theorem dX10_count_90 : decode cX10_count 90 = .ok (.ireturn, 1) := by decide +kernel
theorem dX10_count_91 : decode cX10_count 91 = .ok (.aload_n 0, 1) := by decide +kernel
theorem dX10_count_92 : decode cX10_count 92 = .ok (.getfield 7, 3) := by decide +kernel
theorem dX10_count_95 : decode cX10_count 95 = .ok (.iconst 1, 1) := by decide +kernel
theorem dX10_count_96 : decode cX10_count 96 = .ok (.iaload, 1) := by decide +kernel
theorem dX10_count_97 : decode cX10_count 97 = .ok (.ireturn, 1) := by decide +kernel
theorem dX10_count_98 : decode cX10_count 98 = .ok (.aload_n 0, 1) := by decide +kernel
theorem dX10_count_99 : decode cX10_count 99 = .ok (.getfield 7, 3) := by decide +kernel
theorem dX10_count_102 : decode cX10_count 102 = .ok (.iconst 2, 1) := by decide +kernel
theorem dX10_count_103 : decode cX10_count 103 = .ok (.iaload, 1) := by decide +kernel
theorem dX10_count_104 : decode cX10_count 104 = .ok (.ireturn, 1) := by decide +kernel
theorem dX10_count_105 : decode cX10_count 105 = .ok (.aload_n 0, 1) := by decide +kernel
theorem dX10_count_106 : decode cX10_count 106 = .ok (.getfield 7, 3) := by decide +kernel
theorem dX10_count_109 : decode cX10_count 109 = .ok (.sipush 322, 3) := by decide +kernel
theorem dX10_count_112 : decode cX10_count 112 = .ok (.iaload, 1) := by decide +kernel
theorem dX10_count_113 : decode cX10_count 113 = .ok (.ireturn, 1) := by decide +kernel
theorem dX10_count_114 : decode cX10_count 114 = .ok (.aload_n 0, 1) := by decide +kernel
theorem dX10_count_115 : decode cX10_count 115 = .ok (.getfield 7, 3) := by decide +kernel
theorem dX10_count_118 : decode cX10_count 118 = .ok (.sipush 323, 3) := by decide +kernel
theorem dX10_count_121 : decode cX10_count 121 = .ok (.iaload, 1) := by decide +kernel
theorem dX10_count_122 : decode cX10_count 122 = .ok (.ireturn, 1) := by decide +kernel
theorem dX10_count_123 : decode cX10_count 123 = .ok (.aload_n 0, 1) := by decide +kernel
theorem dX10_count_124 : decode cX10_count 124 = .ok (.getfield 143, 3) := by decide +kernel
theorem dX10_count_127 : decode cX10_count 127 = .ok (.ireturn, 1) := by decide +kernel
theorem dX10_count_128 : decode cX10_count 128 = .ok (.aload_n 0, 1) := by decide +kernel
theorem dX10_count_129 : decode cX10_count 129 = .ok (.getfield 158, 3) := by decide +kernel
theorem dX10_count_132 : decode cX10_count 132 = .ok (.ireturn, 1) := by decide +kernel
