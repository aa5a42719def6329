theorem dX0_init_0 : decode cX0_init 0 = .ok (.aload_n 0, 1) := by decide +kernel
theorem dX0_init_1 : decode cX0_init 1 = .ok (.invokespecial 3, 3) := by decide +kernel
theorem dX0_init_4 : decode cX0_init 4 = .ok (.aload_n 0, 1) := by decide +kernel
theorem dX0_init_5 : decode cX0_init 5 = .ok (.bipush 8, 2) := by decide +kernel
theorem dX0_init_7 : decode cX0_init 7 = .ok (.anewarray 9, 3) := by decide +kernel
theorem dX0_init_10 : decode cX0_init 10 = .ok (.putfield 11, 3) := by decide +kernel
theorem dX0_init_13 : decode cX0_init 13 = .ok (.aload_n 0, 1) := by decide +kernel
theorem dX0_init_14 : decode cX0_init 14 = .ok (.bipush 8, 2) := by decide +kernel
theorem dX0_init_16 : decode cX0_init 16 = .ok (.anewarray 17, 3) := by decide +kernel
theorem dX0_init_19 : decode cX0_init 19 = .ok (.putfield 19, 3) := by decide +kernel
theorem dX0_init_22 : decode cX0_init 22 = .ok (.aload_n 0, 1) := by decide +kernel
theorem dX0_init_23 : decode cX0_init 23 = .ok (.iconst 0, 1) := by decide +kernel
theorem dX0_init_24 : decode cX0_init 24 = .ok (.putfield 23, 3) := by decide +kernel
theorem dX0_init_27 : decode cX0_init 27 = .ok (.aload_n 0, 1) := by decide +kernel
theorem dX0_init_28 : decode cX0_init 28 = .ok (.iconst 0, 1) := by decide +kernel
theorem dX0_init_29 : decode cX0_init 29 = .ok (.putfield 27, 3) := by decide +kernel
theorem dX0_init_32 : decode cX0_init 32 = .ok (.iconst 0, 1) := by decide +kernel
theorem dX0_init_33 : decode cX0_init 33 = .ok (.istore_n 1, 1) := by decide +kernel
theorem dX0_init_34 : decode cX0_init 34 = .ok (.iload_n 1, 1) := by decide +kernel
theorem dX0_init_35 : decode cX0_init 35 = .ok (.bipush 8, 2) := by decide +kernel
theorem dX0_init_37 : decode cX0_init 37 = .ok (.if_icmp .ge 35, 3) := by decide +kernel
theorem dX0_init_40 : decode cX0_init 40 = .ok (.aload_n 0, 1) := by decide +kernel
theorem dX0_init_41 : decode cX0_init 41 = .ok (.getfield 11, 3) := by decide +kernel
theorem dX0_init_44 : decode cX0_init 44 = .ok (.iload_n 1, 1) := by decide +kernel
theorem dX0_init_45 : decode cX0_init 45 = .ok (.new 9, 3) := by decide +kernel
theorem dX0_init_48 : decode cX0_init 48 = .ok (.dup, 1) := by decide +kernel
theorem dX0_init_49 : decode cX0_init 49 = .ok (.invokespecial 30, 3) := by decide +kernel
theorem dX0_init_52 : decode cX0_init 52 = .ok (.aastore, 1) := by decide +kernel
theorem dX0_init_53 : decode cX0_init 53 = .ok (.aload_n 0, 1) := by decide +kernel
theorem dX0_init_54 : decode cX0_init 54 = .ok (.getfield 19, 3) := by decide +kernel
theorem dX0_init_57 : decode cX0_init 57 = .ok (.iload_n 1, 1) := by decide +kernel
theorem dX0_init_58 : decode cX0_init 58 = .ok (.new 17, 3) := by decide +kernel
theorem dX0_init_61 : decode cX0_init 61 = .ok (.dup, 1) := by decide +kernel
theorem dX0_init_62 : decode cX0_init 62 = .ok (.invokespecial 31, 3) := by decide +kernel
theorem dX0_init_65 : decode cX0_init 65 = .ok (.aastore, 1) := by decide +kernel
theorem dX0_init_66 : decode cX0_init 66 = .ok (.iinc 1 1, 3) := by decide +kernel
theorem dX0_init_69 : decode cX0_init 69 = .ok (.goto (-35), 3) := by decide +kernel
theorem dX0_init_72 : decode cX0_init 72 = .ok (.return_, 1) := by decide +kernel
theorem dX0_clear_0 : decode cX0_clear 0 = .ok (.aload_n 0, 1) := by decide +kernel
theorem dX0_clear_1 : decode cX0_clear 1 = .ok (.iconst 0, 1) := by decide +kernel
theorem dX0_clear_2 : decode cX0_clear 2 = .ok (.putfield 23, 3) := by decide +kernel
theorem dX0_clear_5 : decode cX0_clear 5 = .ok (.aload_n 0, 1) := by decide +kernel
theorem dX0_clear_6 : decode cX0_clear 6 = .ok (.iconst 0, 1) := by decide +kernel
theorem dX0_clear_7 : decode cX0_clear 7 = .ok (.putfield 27, 3) := by decide +kernel
theorem dX0_clear_10 : decode cX0_clear 10 = .ok (.return_, 1) := by decide +kernel
theorem dX0_push_0 : decode cX0_push 0 = .ok (.aload_n 0, 1) := by decide +kernel
theorem dX0_push_1 : decode cX0_push 1 = .ok (.getfield 11, 3) := by decide +kernel
theorem dX0_push_4 : decode cX0_push 4 = .ok (.aload_n 0, 1) := by decide +kernel
theorem dX0_push_5 : decode cX0_push 5 = .ok (.getfield 23, 3) := by decide +kernel
theorem dX0_push_8 : decode cX0_push 8 = .ok (.aaload, 1) := by decide +kernel
theorem dX0_push_9 : decode cX0_push 9 = .ok (.aload_n 1, 1) := by decide +kernel
theorem dX0_push_10 : decode cX0_push 10 = .ok (.getfield 32, 3) := by decide +kernel
theorem dX0_push_13 : decode cX0_push 13 = .ok (.invokevirtual 38, 3) := by decide +kernel
theorem dX0_push_16 : decode cX0_push 16 = .ok (.aload_n 0, 1) := by decide +kernel
theorem dX0_push_17 : decode cX0_push 17 = .ok (.getfield 19, 3) := by decide +kernel
theorem dX0_push_20 : decode cX0_push 20 = .ok (.aload_n 0, 1) := by decide +kernel
theorem dX0_push_21 : decode cX0_push 21 = .ok (.getfield 23, 3) := by decide +kernel
theorem dX0_push_24 : decode cX0_push 24 = .ok (.aaload, 1) := by decide +kernel
theorem dX0_push_25 : decode cX0_push 25 = .ok (.aload_n 1, 1) := by decide +kernel
theorem dX0_push_26 : decode cX0_push 26 = .ok (.getfield 42, 3) := by decide +kernel
theorem dX0_push_29 : decode cX0_push 29 = .ok (.invokevirtual 45, 3) := by decide +kernel
theorem dX0_push_32 : decode cX0_push 32 = .ok (.aload_n 0, 1) := by decide +kernel
theorem dX0_push_33 : decode cX0_push 33 = .ok (.aload_n 0, 1) := by decide +kernel
theorem dX0_push_34 : decode cX0_push 34 = .ok (.getfield 23, 3) := by decide +kernel
theorem dX0_push_37 : decode cX0_push 37 = .ok (.iconst 1, 1) := by decide +kernel
theorem dX0_push_38 : decode cX0_push 38 = .ok (.iadd, 1) := by decide +kernel
theorem dX0_push_39 : decode cX0_push 39 = .ok (.bipush 8, 2) := by decide +kernel
theorem dX0_push_41 : decode cX0_push 41 = .ok (.irem, 1) := by decide +kernel
theorem dX0_push_42 : decode cX0_push 42 = .ok (.putfield 23, 3) := by decide +kernel
theorem dX0_push_45 : decode cX0_push 45 = .ok (.aload_n 0, 1) := by decide +kernel
theorem dX0_push_46 : decode cX0_push 46 = .ok (.aload_n 0, 1) := by decide +kernel
theorem dX0_push_47 : decode cX0_push 47 = .ok (.getfield 27, 3) := by decide +kernel
theorem dX0_push_50 : decode cX0_push 50 = .ok (.iconst 1, 1) := by decide +kernel
theorem dX0_push_51 : decode cX0_push 51 = .ok (.iadd, 1) := by decide +kernel
theorem dX0_push_52 : decode cX0_push 52 = .ok (.bipush 8, 2) := by decide +kernel
theorem dX0_push_54 : decode cX0_push 54 = .ok (.invokestatic 48, 3) := by decide +kernel
theorem dX0_push_57 : decode cX0_push 57 = .ok (.putfield 27, 3) := by decide +kernel
theorem dX0_push_60 : decode cX0_push 60 = .ok (.return_, 1) := by decide +kernel
theorem dX0_pop_0 : decode cX0_pop 0 = .ok (.aload_n 0, 1) := by decide +kernel
theorem dX0_pop_1 : decode cX0_pop 1 = .ok (.getfield 27, 3) := by decide +kernel
theorem dX0_pop_4 : decode cX0_pop 4 = .ok (.ifCond .le 61, 3) := by decide +kernel
theorem dX0_pop_7 : decode cX0_pop 7 = .ok (.aload_n 0, 1) := by decide +kernel
theorem dX0_pop_8 : decode cX0_pop 8 = .ok (.dup, 1) := by decide +kernel
theorem dX0_pop_9 : decode cX0_pop 9 = .ok (.getfield 27, 3) := by decide +kernel
theorem dX0_pop_12 : decode cX0_pop 12 = .ok (.iconst 1, 1) := by decide +kernel
theorem dX0_pop_13 : decode cX0_pop 13 = .ok (.isub, 1) := by decide +kernel
theorem dX0_pop_14 : decode cX0_pop 14 = .ok (.putfield 27, 3) := by decide +kernel
theorem dX0_pop_17 : decode cX0_pop 17 = .ok (.aload_n 0, 1) := by decide +kernel
theorem dX0_pop_18 : decode cX0_pop 18 = .ok (.aload_n 0, 1) := by decide +kernel
theorem dX0_pop_19 : decode cX0_pop 19 = .ok (.getfield 23, 3) := by decide +kernel
theorem dX0_pop_22 : decode cX0_pop 22 = .ok (.bipush 8, 2) := by decide +kernel
theorem dX0_pop_24 : decode cX0_pop 24 = .ok (.iadd, 1) := by decide +kernel
theorem dX0_pop_25 : decode cX0_pop 25 = .ok (.iconst 1, 1) := by decide +kernel
theorem dX0_pop_26 : decode cX0_pop 26 = .ok (.isub, 1) := by decide +kernel
theorem dX0_pop_27 : decode cX0_pop 27 = .ok (.bipush 8, 2) := by decide +kernel
theorem dX0_pop_29 : decode cX0_pop 29 = .ok (.irem, 1) := by decide +kernel
theorem dX0_pop_30 : decode cX0_pop 30 = .ok (.putfield 23, 3) := by decide +kernel
theorem dX0_pop_33 : decode cX0_pop 33 = .ok (.aload_n 1, 1) := by decide +kernel
theorem dX0_pop_34 : decode cX0_pop 34 = .ok (.getfield 32, 3) := by decide +kernel
theorem dX0_pop_37 : decode cX0_pop 37 = .ok (.aload_n 0, 1) := by decide +kernel
theorem dX0_pop_38 : decode cX0_pop 38 = .ok (.getfield 11, 3) := by decide +kernel
theorem dX0_pop_41 : decode cX0_pop 41 = .ok (.aload_n 0, 1) := by decide +kernel
theorem dX0_pop_42 : decode cX0_pop 42 = .ok (.getfield 23, 3) := by decide +kernel
theorem dX0_pop_45 : decode cX0_pop 45 = .ok (.aaload, 1) := by decide +kernel
theorem dX0_pop_46 : decode cX0_pop 46 = .ok (.invokevirtual 38, 3) := by decide +kernel
theorem dX0_pop_49 : decode cX0_pop 49 = .ok (.aload_n 1, 1) := by decide +kernel
theorem dX0_pop_50 : decode cX0_pop 50 = .ok (.getfield 42, 3) := by decide +kernel
theorem dX0_pop_53 : decode cX0_pop 53 = .ok (.aload_n 0, 1) := by decide +kernel
theorem dX0_pop_54 : decode cX0_pop 54 = .ok (.getfield 19, 3) := by decide +kernel
theorem dX0_pop_57 : decode cX0_pop 57 = .ok (.aload_n 0, 1) := by decide +kernel
theorem dX0_pop_58 : decode cX0_pop 58 = .ok (.getfield 23, 3) := by decide +kernel
theorem dX0_pop_61 : decode cX0_pop 61 = .ok (.aaload, 1) := by decide +kernel
theorem dX0_pop_62 : decode cX0_pop 62 = .ok (.invokevirtual 45, 3) := by decide +kernel
theorem dX0_pop_65 : decode cX0_pop 65 = .ok (.return_, 1) := by decide +kernel
theorem dX1_init_0 : decode cX1_init 0 = .ok (.aload_n 0, 1) := by decide +kernel
theorem dX1_init_1 : decode cX1_init 1 = .ok (.invokespecial 3, 3) := by decide +kernel
theorem dX1_init_4 : decode cX1_init 4 = .ok (.aload_n 0, 1) := by decide +kernel
theorem dX1_init_5 : decode cX1_init 5 = .ok (.iconst 0, 1) := by decide +kernel
theorem dX1_init_6 : decode cX1_init 6 = .ok (.putfield 9, 3) := by decide +kernel
theorem dX1_init_9 : decode cX1_init 9 = .ok (.aload_n 0, 1) := by decide +kernel
theorem dX1_init_10 : decode cX1_init 10 = .ok (.iconst 4, 1) := by decide +kernel
theorem dX1_init_11 : decode cX1_init 11 = .ok (.putfield 15, 3) := by decide +kernel
theorem dX1_init_14 : decode cX1_init 14 = .ok (.aload_n 0, 1) := by decide +kernel
theorem dX1_init_15 : decode cX1_init 15 = .ok (.bipush 6, 2) := by decide +kernel
theorem dX1_init_17 : decode cX1_init 17 = .ok (.putfield 18, 3) := by decide +kernel
theorem dX1_init_20 : decode cX1_init 20 = .ok (.aload_n 0, 1) := by decide +kernel
theorem dX1_init_21 : decode cX1_init 21 = .ok (.bipush 8, 2) := by decide +kernel
theorem dX1_init_23 : decode cX1_init 23 = .ok (.newarray .int, 2) := by decide +kernel
theorem dX1_init_25 : decode cX1_init 25 = .ok (.putfield 21, 3) := by decide +kernel
theorem dX1_init_28 : decode cX1_init 28 = .ok (.aload_n 0, 1) := by decide +kernel
theorem dX1_init_29 : decode cX1_init 29 = .ok (.bipush 96, 2) := by decide +kernel
theorem dX1_init_31 : decode cX1_init 31 = .ok (.newarray .int, 2) := by decide +kernel
theorem dX1_init_33 : decode cX1_init 33 = .ok (.putfield 25, 3) := by decide +kernel
theorem dX1_init_36 : decode cX1_init 36 = .ok (.aload_n 0, 1) := by decide +kernel
theorem dX1_init_37 : decode cX1_init 37 = .ok (.bipush 96, 2) := by decide +kernel
theorem dX1_init_39 : decode cX1_init 39 = .ok (.newarray .int, 2) := by decide +kernel
theorem dX1_init_41 : decode cX1_init 41 = .ok (.putfield 28, 3) := by decide +kernel
theorem dX1_init_44 : decode cX1_init 44 = .ok (.aload_n 0, 1) := by decide +kernel
theorem dX1_init_45 : decode cX1_init 45 = .ok (.bipush 96, 2) := by decide +kernel
theorem dX1_init_47 : decode cX1_init 47 = .ok (.newarray .int, 2) := by decide +kernel
theorem dX1_init_49 : decode cX1_init 49 = .ok (.putfield 31, 3) := by decide +kernel
theorem dX1_init_52 : decode cX1_init 52 = .ok (.aload_n 0, 1) := by decide +kernel
theorem dX1_init_53 : decode cX1_init 53 = .ok (.iconst 4, 1) := by decide +kernel
theorem dX1_init_54 : decode cX1_init 54 = .ok (.newarray .int, 2) := by decide +kernel
theorem dX1_init_56 : decode cX1_init 56 = .ok (.putfield 34, 3) := by decide +kernel
theorem dX1_init_59 : decode cX1_init 59 = .ok (.aload_n 0, 1) := by decide +kernel
theorem dX1_init_60 : decode cX1_init 60 = .ok (.getfield 34, 3) := by decide +kernel
theorem dX1_init_63 : decode cX1_init 63 = .ok (.iconst 1, 1) := by decide +kernel
theorem dX1_init_64 : decode cX1_init 64 = .ok (.invokestatic 37, 3) := by decide +kernel
theorem dX1_init_67 : decode cX1_init 67 = .ok (.return_, 1) := by decide +kernel
theorem dX1_clear_0 : decode cX1_clear 0 = .ok (.aload_n 0, 1) := by decide +kernel
theorem dX1_clear_1 : decode cX1_clear 1 = .ok (.iconst 0, 1) := by decide +kernel
theorem dX1_clear_2 : decode cX1_clear 2 = .ok (.putfield 9, 3) := by decide +kernel
theorem dX1_clear_5 : decode cX1_clear 5 = .ok (.aload_n 0, 1) := by decide +kernel
theorem dX1_clear_6 : decode cX1_clear 6 = .ok (.iconst 4, 1) := by decide +kernel
theorem dX1_clear_7 : decode cX1_clear 7 = .ok (.putfield 15, 3) := by decide +kernel
theorem dX1_clear_10 : decode cX1_clear 10 = .ok (.aload_n 0, 1) := by decide +kernel
theorem dX1_clear_11 : decode cX1_clear 11 = .ok (.bipush 6, 2) := by decide +kernel
theorem dX1_clear_13 : decode cX1_clear 13 = .ok (.putfield 18, 3) := by decide +kernel
theorem dX1_clear_16 : decode cX1_clear 16 = .ok (.aload_n 0, 1) := by decide +kernel
theorem dX1_clear_17 : decode cX1_clear 17 = .ok (.getfield 21, 3) := by decide +kernel
theorem dX1_clear_20 : decode cX1_clear 20 = .ok (.iconst 0, 1) := by decide +kernel
theorem dX1_clear_21 : decode cX1_clear 21 = .ok (.invokestatic 37, 3) := by decide +kernel
theorem dX1_clear_24 : decode cX1_clear 24 = .ok (.aload_n 0, 1) := by decide +kernel
theorem dX1_clear_25 : decode cX1_clear 25 = .ok (.getfield 34, 3) := by decide +kernel
theorem dX1_clear_28 : decode cX1_clear 28 = .ok (.iconst 1, 1) := by decide +kernel
theorem dX1_clear_29 : decode cX1_clear 29 = .ok (.invokestatic 37, 3) := by decide +kernel
theorem dX1_clear_32 : decode cX1_clear 32 = .ok (.return_, 1) := by decide +kernel
theorem dX1_take_0 : decode cX1_take 0 = .ok (.aload_n 0, 1) := by decide +kernel
theorem dX1_take_1 : decode cX1_take 1 = .ok (.aload_n 1, 1) := by decide +kernel
theorem dX1_take_2 : decode cX1_take 2 = .ok (.getfield 9, 3) := by decide +kernel
theorem dX1_take_5 : decode cX1_take 5 = .ok (.putfield 9, 3) := by decide +kernel
theorem dX1_take_8 : decode cX1_take 8 = .ok (.aload_n 0, 1) := by decide +kernel
theorem dX1_take_9 : decode cX1_take 9 = .ok (.aload_n 1, 1) := by decide +kernel
theorem dX1_take_10 : decode cX1_take 10 = .ok (.getfield 15, 3) := by decide +kernel
theorem dX1_take_13 : decode cX1_take 13 = .ok (.putfield 15, 3) := by decide +kernel
theorem dX1_take_16 : decode cX1_take 16 = .ok (.aload_n 0, 1) := by decide +kernel
theorem dX1_take_17 : decode cX1_take 17 = .ok (.aload_n 1, 1) := by decide +kernel
theorem dX1_take_18 : decode cX1_take 18 = .ok (.getfield 18, 3) := by decide +kernel
theorem dX1_take_21 : decode cX1_take 21 = .ok (.putfield 18, 3) := by decide +kernel
theorem dX1_take_24 : decode cX1_take 24 = .ok (.aload_n 1, 1) := by decide +kernel
theorem dX1_take_25 : decode cX1_take 25 = .ok (.getfield 21, 3) := by decide +kernel
theorem dX1_take_28 : decode cX1_take 28 = .ok (.aload_n 0, 1) := by decide +kernel
theorem dX1_take_29 : decode cX1_take 29 = .ok (.getfield 21, 3) := by decide +kernel
theorem dX1_take_32 : decode cX1_take 32 = .ok (.invokestatic 43, 3) := by decide +kernel
theorem dX1_take_35 : decode cX1_take 35 = .ok (.aload_n 1, 1) := by decide +kernel
theorem dX1_take_36 : decode cX1_take 36 = .ok (.getfield 25, 3) := by decide +kernel
theorem dX1_take_39 : decode cX1_take 39 = .ok (.aload_n 0, 1) := by decide +kernel
theorem dX1_take_40 : decode cX1_take 40 = .ok (.getfield 25, 3) := by decide +kernel
theorem dX1_take_43 : decode cX1_take 43 = .ok (.invokestatic 43, 3) := by decide +kernel
theorem dX1_take_46 : decode cX1_take 46 = .ok (.aload_n 1, 1) := by decide +kernel
theorem dX1_take_47 : decode cX1_take 47 = .ok (.getfield 28, 3) := by decide +kernel
theorem dX1_take_50 : decode cX1_take 50 = .ok (.aload_n 0, 1) := by decide +kernel
theorem dX1_take_51 : decode cX1_take 51 = .ok (.getfield 28, 3) := by decide +kernel
theorem dX1_take_54 : decode cX1_take 54 = .ok (.invokestatic 43, 3) := by decide +kernel
theorem dX1_take_57 : decode cX1_take 57 = .ok (.aload_n 1, 1) := by decide +kernel
theorem dX1_take_58 : decode cX1_take 58 = .ok (.getfield 31, 3) := by decide +kernel
theorem dX1_take_61 : decode cX1_take 61 = .ok (.aload_n 0, 1) := by decide +kernel
theorem dX1_take_62 : decode cX1_take 62 = .ok (.getfield 31, 3) := by decide +kernel
theorem dX1_take_65 : decode cX1_take 65 = .ok (.invokestatic 43, 3) := by decide +kernel
theorem dX1_take_68 : decode cX1_take 68 = .ok (.aload_n 1, 1) := by decide +kernel
theorem dX1_take_69 : decode cX1_take 69 = .ok (.getfield 34, 3) := by decide +kernel
theorem dX1_take_72 : decode cX1_take 72 = .ok (.aload_n 0, 1) := by decide +kernel
theorem dX1_take_73 : decode cX1_take 73 = .ok (.getfield 34, 3) := by decide +kernel
theorem dX1_take_76 : decode cX1_take 76 = .ok (.invokestatic 43, 3) := by decide +kernel
theorem dX1_take_79 : decode cX1_take 79 = .ok (.return_, 1) := by decide +kernel
theorem dX1_addWorker_0 : decode cX1_addWorker 0 = .ok (.aload_n 0, 1) := by decide +kernel
theorem dX1_addWorker_1 : decode cX1_addWorker 1 = .ok (.getfield 9, 3) := by decide +kernel
theorem dX1_addWorker_4 : decode cX1_addWorker 4 = .ok (.bipush 8, 2) := by decide +kernel
theorem dX1_addWorker_6 : decode cX1_addWorker 6 = .ok (.if_icmp .lt 5, 3) := by decide +kernel
theorem dX1_addWorker_9 : decode cX1_addWorker 9 = .ok (.iconst 0, 1) := by decide +kernel
theorem dX1_addWorker_10 : decode cX1_addWorker 10 = .ok (.ireturn, 1) := by decide +kernel
theorem dX1_addWorker_11 : decode cX1_addWorker 11 = .ok (.aload_n 0, 1) := by decide +kernel
theorem dX1_addWorker_12 : decode cX1_addWorker 12 = .ok (.dup, 1) := by decide +kernel
theorem dX1_addWorker_13 : decode cX1_addWorker 13 = .ok (.getfield 9, 3) := by decide +kernel
theorem dX1_addWorker_16 : decode cX1_addWorker 16 = .ok (.iconst 1, 1) := by decide +kernel
theorem dX1_addWorker_17 : decode cX1_addWorker 17 = .ok (.iadd, 1) := by decide +kernel
theorem dX1_addWorker_18 : decode cX1_addWorker 18 = .ok (.putfield 9, 3) := by decide +kernel
theorem dX1_addWorker_21 : decode cX1_addWorker 21 = .ok (.iconst 1, 1) := by decide +kernel
theorem dX1_addWorker_22 : decode cX1_addWorker 22 = .ok (.ireturn, 1) := by decide +kernel
theorem dX1_addStep_0 : decode cX1_addStep 0 = .ok (.aload_n 0, 1) := by decide +kernel
theorem dX1_addStep_1 : decode cX1_addStep 1 = .ok (.getfield 9, 3) := by decide +kernel
theorem dX1_addStep_4 : decode cX1_addStep 4 = .ok (.iconst 1, 1) := by decide +kernel
theorem dX1_addStep_5 : decode cX1_addStep 5 = .ok (.isub, 1) := by decide +kernel
theorem dX1_addStep_6 : decode cX1_addStep 6 = .ok (.istore_n 2, 1) := by decide +kernel
theorem dX1_addStep_7 : decode cX1_addStep 7 = .ok (.iload_n 2, 1) := by decide +kernel
theorem dX1_addStep_8 : decode cX1_addStep 8 = .ok (.ifCond .lt 20, 3) := by decide +kernel
theorem dX1_addStep_11 : decode cX1_addStep 11 = .ok (.iload_n 2, 1) := by decide +kernel
theorem dX1_addStep_12 : decode cX1_addStep 12 = .ok (.bipush 8, 2) := by decide +kernel
theorem dX1_addStep_14 : decode cX1_addStep 14 = .ok (.if_icmp .ge 14, 3) := by decide +kernel
theorem dX1_addStep_17 : decode cX1_addStep 17 = .ok (.aload_n 0, 1) := by decide +kernel
theorem dX1_addStep_18 : decode cX1_addStep 18 = .ok (.getfield 21, 3) := by decide +kernel
theorem dX1_addStep_21 : decode cX1_addStep 21 = .ok (.iload_n 2, 1) := by decide +kernel
theorem dX1_addStep_22 : decode cX1_addStep 22 = .ok (.iaload, 1) := by decide +kernel
theorem dX1_addStep_23 : decode cX1_addStep 23 = .ok (.bipush 12, 2) := by decide +kernel
theorem dX1_addStep_25 : decode cX1_addStep 25 = .ok (.if_icmp .lt 5, 3) := by decide +kernel
theorem dX1_addStep_28 : decode cX1_addStep 28 = .ok (.iconst (-1), 1) := by decide +kernel
theorem dX1_addStep_29 : decode cX1_addStep 29 = .ok (.ireturn, 1) := by decide +kernel
theorem dX1_addStep_30 : decode cX1_addStep 30 = .ok (.iload_n 2, 1) := by decide +kernel
theorem dX1_addStep_31 : decode cX1_addStep 31 = .ok (.bipush 12, 2) := by decide +kernel
theorem dX1_addStep_33 : decode cX1_addStep 33 = .ok (.imul, 1) := by decide +kernel
theorem dX1_addStep_34 : decode cX1_addStep 34 = .ok (.aload_n 0, 1) := by decide +kernel
theorem dX1_addStep_35 : decode cX1_addStep 35 = .ok (.getfield 21, 3) := by decide +kernel
theorem dX1_addStep_38 : decode cX1_addStep 38 = .ok (.iload_n 2, 1) := by decide +kernel
theorem dX1_addStep_39 : decode cX1_addStep 39 = .ok (.iaload, 1) := by decide +kernel
theorem dX1_addStep_40 : decode cX1_addStep 40 = .ok (.iadd, 1) := by decide +kernel
theorem dX1_addStep_41 : decode cX1_addStep 41 = .ok (.istore_n 3, 1) := by decide +kernel
theorem dX1_addStep_42 : decode cX1_addStep 42 = .ok (.aload_n 0, 1) := by decide +kernel
theorem dX1_addStep_43 : decode cX1_addStep 43 = .ok (.getfield 21, 3) := by decide +kernel
theorem dX1_addStep_46 : decode cX1_addStep 46 = .ok (.iload_n 2, 1) := by decide +kernel
theorem dX1_addStep_47 : decode cX1_addStep 47 = .ok (.dup2, 1) := by decide +kernel
theorem dX1_addStep_48 : decode cX1_addStep 48 = .ok (.iaload, 1) := by decide +kernel
theorem dX1_addStep_49 : decode cX1_addStep 49 = .ok (.iconst 1, 1) := by decide +kernel
theorem dX1_addStep_50 : decode cX1_addStep 50 = .ok (.iadd, 1) := by decide +kernel
theorem dX1_addStep_51 : decode cX1_addStep 51 = .ok (.iastore, 1) := by decide +kernel
theorem dX1_addStep_52 : decode cX1_addStep 52 = .ok (.aload_n 0, 1) := by decide +kernel
theorem dX1_addStep_53 : decode cX1_addStep 53 = .ok (.getfield 25, 3) := by decide +kernel
theorem dX1_addStep_56 : decode cX1_addStep 56 = .ok (.iload_n 3, 1) := by decide +kernel
theorem dX1_addStep_57 : decode cX1_addStep 57 = .ok (.iload_n 1, 1) := by decide +kernel
theorem dX1_addStep_58 : decode cX1_addStep 58 = .ok (.iastore, 1) := by decide +kernel
theorem dX1_addStep_59 : decode cX1_addStep 59 = .ok (.aload_n 0, 1) := by decide +kernel
theorem dX1_addStep_60 : decode cX1_addStep 60 = .ok (.getfield 28, 3) := by decide +kernel
theorem dX1_addStep_63 : decode cX1_addStep 63 = .ok (.iload_n 3, 1) := by decide +kernel
theorem dX1_addStep_64 : decode cX1_addStep 64 = .ok (.iconst (-1), 1) := by decide +kernel
theorem dX1_addStep_65 : decode cX1_addStep 65 = .ok (.iastore, 1) := by decide +kernel
theorem dX1_addStep_66 : decode cX1_addStep 66 = .ok (.iload_n 3, 1) := by decide +kernel
theorem dX1_addStep_67 : decode cX1_addStep 67 = .ok (.ireturn, 1) := by decide +kernel
theorem dX1_cellOf_0 : decode cX1_cellOf 0 = .ok (.iload_n 1, 1) := by decide +kernel
theorem dX1_cellOf_1 : decode cX1_cellOf 1 = .ok (.ifCond .lt 25, 3) := by decide +kernel
theorem dX1_cellOf_4 : decode cX1_cellOf 4 = .ok (.iload_n 1, 1) := by decide +kernel
theorem dX1_cellOf_5 : decode cX1_cellOf 5 = .ok (.aload_n 0, 1) := by decide +kernel
theorem dX1_cellOf_6 : decode cX1_cellOf 6 = .ok (.getfield 9, 3) := by decide +kernel
theorem dX1_cellOf_9 : decode cX1_cellOf 9 = .ok (.if_icmp .ge 17, 3) := by decide +kernel
theorem dX1_cellOf_12 : decode cX1_cellOf 12 = .ok (.iload_n 2, 1) := by decide +kernel
theorem dX1_cellOf_13 : decode cX1_cellOf 13 = .ok (.ifCond .lt 13, 3) := by decide +kernel
theorem dX1_cellOf_16 : decode cX1_cellOf 16 = .ok (.iload_n 2, 1) := by decide +kernel
theorem dX1_cellOf_17 : decode cX1_cellOf 17 = .ok (.aload_n 0, 1) := by decide +kernel
theorem dX1_cellOf_18 : decode cX1_cellOf 18 = .ok (.getfield 21, 3) := by decide +kernel
theorem dX1_cellOf_21 : decode cX1_cellOf 21 = .ok (.iload_n 1, 1) := by decide +kernel
theorem dX1_cellOf_22 : decode cX1_cellOf 22 = .ok (.iaload, 1) := by decide +kernel
theorem dX1_cellOf_23 : decode cX1_cellOf 23 = .ok (.if_icmp .lt 5, 3) := by decide +kernel
theorem dX1_cellOf_26 : decode cX1_cellOf 26 = .ok (.iconst (-1), 1) := by decide +kernel
theorem dX1_cellOf_27 : decode cX1_cellOf 27 = .ok (.ireturn, 1) := by decide +kernel
theorem dX1_cellOf_28 : decode cX1_cellOf 28 = .ok (.iload_n 1, 1) := by decide +kernel
theorem dX1_cellOf_29 : decode cX1_cellOf 29 = .ok (.bipush 12, 2) := by decide +kernel
theorem dX1_cellOf_31 : decode cX1_cellOf 31 = .ok (.imul, 1) := by decide +kernel
theorem dX1_cellOf_32 : decode cX1_cellOf 32 = .ok (.iload_n 2, 1) := by decide +kernel
theorem dX1_cellOf_33 : decode cX1_cellOf 33 = .ok (.iadd, 1) := by decide +kernel
theorem dX1_cellOf_34 : decode cX1_cellOf 34 = .ok (.ireturn, 1) := by decide +kernel
theorem dX1_kindAt_0 : decode cX1_kindAt 0 = .ok (.aload_n 0, 1) := by decide +kernel
theorem dX1_kindAt_1 : decode cX1_kindAt 1 = .ok (.getfield 25, 3) := by decide +kernel
theorem dX1_kindAt_4 : decode cX1_kindAt 4 = .ok (.aload_n 0, 1) := by decide +kernel
theorem dX1_kindAt_5 : decode cX1_kindAt 5 = .ok (.iload_n 1, 1) := by decide +kernel
theorem dX1_kindAt_6 : decode cX1_kindAt 6 = .ok (.iload_n 2, 1) := by decide +kernel
theorem dX1_kindAt_7 : decode cX1_kindAt 7 = .ok (.invokevirtual 47, 3) := by decide +kernel
theorem dX1_kindAt_10 : decode cX1_kindAt 10 = .ok (.invokestatic 51, 3) := by decide +kernel
theorem dX1_kindAt_13 : decode cX1_kindAt 13 = .ok (.ireturn, 1) := by decide +kernel
theorem dX1_numberAt_0 : decode cX1_numberAt 0 = .ok (.aload_n 0, 1) := by decide +kernel
theorem dX1_numberAt_1 : decode cX1_numberAt 1 = .ok (.getfield 28, 3) := by decide +kernel
theorem dX1_numberAt_4 : decode cX1_numberAt 4 = .ok (.aload_n 0, 1) := by decide +kernel
theorem dX1_numberAt_5 : decode cX1_numberAt 5 = .ok (.iload_n 1, 1) := by decide +kernel
theorem dX1_numberAt_6 : decode cX1_numberAt 6 = .ok (.iload_n 2, 1) := by decide +kernel
theorem dX1_numberAt_7 : decode cX1_numberAt 7 = .ok (.invokevirtual 47, 3) := by decide +kernel
theorem dX1_numberAt_10 : decode cX1_numberAt 10 = .ok (.invokestatic 51, 3) := by decide +kernel
theorem dX1_numberAt_13 : decode cX1_numberAt 13 = .ok (.ireturn, 1) := by decide +kernel
theorem dX1_reachAt_0 : decode cX1_reachAt 0 = .ok (.aload_n 0, 1) := by decide +kernel
theorem dX1_reachAt_1 : decode cX1_reachAt 1 = .ok (.iload_n 1, 1) := by decide +kernel
theorem dX1_reachAt_2 : decode cX1_reachAt 2 = .ok (.iload_n 2, 1) := by decide +kernel
theorem dX1_reachAt_3 : decode cX1_reachAt 3 = .ok (.invokevirtual 47, 3) := by decide +kernel
theorem dX1_reachAt_6 : decode cX1_reachAt 6 = .ok (.istore_n 3, 1) := by decide +kernel
theorem dX1_reachAt_7 : decode cX1_reachAt 7 = .ok (.iload_n 3, 1) := by decide +kernel
theorem dX1_reachAt_8 : decode cX1_reachAt 8 = .ok (.iconst (-1), 1) := by decide +kernel
theorem dX1_reachAt_9 : decode cX1_reachAt 9 = .ok (.if_icmp .ne 7, 3) := by decide +kernel
theorem dX1_reachAt_12 : decode cX1_reachAt 12 = .ok (.iconst 0, 1) := by decide +kernel
theorem dX1_reachAt_13 : decode cX1_reachAt 13 = .ok (.goto 11, 3) := by decide +kernel
theorem dX1_reachAt_16 : decode cX1_reachAt 16 = .ok (.aload_n 0, 1) := by decide +kernel
theorem dX1_reachAt_17 : decode cX1_reachAt 17 = .ok (.getfield 31, 3) := by decide +kernel
theorem dX1_reachAt_20 : decode cX1_reachAt 20 = .ok (.iload_n 3, 1) := by decide +kernel
theorem dX1_reachAt_21 : decode cX1_reachAt 21 = .ok (.invokestatic 51, 3) := by decide +kernel
theorem dX1_reachAt_24 : decode cX1_reachAt 24 = .ok (.ireturn, 1) := by decide +kernel
theorem dX1_bitOf_0 : decode cX1_bitOf 0 = .ok (.iload_n 0, 1) := by decide +kernel
theorem dX1_bitOf_1 : decode cX1_bitOf 1 = .ok (.tableswitch 44 3 5 #[31, 27, 37], 27) := by decide +kernel
theorem dX1_bitOf_28 : decode cX1_bitOf 28 = .ok (.iconst 1, 1) := by decide +kernel
theorem dX1_bitOf_29 : decode cX1_bitOf 29 = .ok (.iload_n 1, 1) := by decide +kernel
theorem dX1_bitOf_30 : decode cX1_bitOf 30 = .ok (.ishl, 1) := by decide +kernel
theorem dX1_bitOf_31 : decode cX1_bitOf 31 = .ok (.ireturn, 1) := by decide +kernel
theorem dX1_bitOf_32 : decode cX1_bitOf 32 = .ok (.iconst 1, 1) := by decide +kernel
theorem dX1_bitOf_33 : decode cX1_bitOf 33 = .ok (.iconst 4, 1) := by decide +kernel
theorem dX1_bitOf_34 : decode cX1_bitOf 34 = .ok (.iload_n 1, 1) := by decide +kernel
theorem dX1_bitOf_35 : decode cX1_bitOf 35 = .ok (.iadd, 1) := by decide +kernel
theorem dX1_bitOf_36 : decode cX1_bitOf 36 = .ok (.ishl, 1) := by decide +kernel
theorem dX1_bitOf_37 : decode cX1_bitOf 37 = .ok (.ireturn, 1) := by decide +kernel
theorem dX1_bitOf_38 : decode cX1_bitOf 38 = .ok (.iconst 1, 1) := by decide +kernel
theorem dX1_bitOf_39 : decode cX1_bitOf 39 = .ok (.bipush 8, 2) := by decide +kernel
theorem dX1_bitOf_41 : decode cX1_bitOf 41 = .ok (.iload_n 1, 1) := by decide +kernel
theorem dX1_bitOf_42 : decode cX1_bitOf 42 = .ok (.iadd, 1) := by decide +kernel
theorem dX1_bitOf_43 : decode cX1_bitOf 43 = .ok (.ishl, 1) := by decide +kernel
theorem dX1_bitOf_44 : decode cX1_bitOf 44 = .ok (.ireturn, 1) := by decide +kernel
theorem dX1_bitOf_45 : decode cX1_bitOf 45 = .ok (.iconst 0, 1) := by decide +kernel
theorem dX1_bitOf_46 : decode cX1_bitOf 46 = .ok (.ireturn, 1) := by decide +kernel
theorem dX1_findReach_0 : decode cX1_findReach 0 = .ok (.iconst 0, 1) := by decide +kernel
theorem dX1_findReach_1 : decode cX1_findReach 1 = .ok (.istore_n 1, 1) := by decide +kernel
theorem dX1_findReach_2 : decode cX1_findReach 2 = .ok (.iload_n 1, 1) := by decide +kernel
theorem dX1_findReach_3 : decode cX1_findReach 3 = .ok (.aload_n 0, 1) := by decide +kernel
theorem dX1_findReach_4 : decode cX1_findReach 4 = .ok (.getfield 9, 3) := by decide +kernel
theorem dX1_findReach_7 : decode cX1_findReach 7 = .ok (.if_icmp .ge 44, 3) := by decide +kernel
theorem dX1_findReach_10 : decode cX1_findReach 10 = .ok (.iconst 0, 1) := by decide +kernel
theorem dX1_findReach_11 : decode cX1_findReach 11 = .ok (.istore_n 2, 1) := by decide +kernel
theorem dX1_findReach_12 : decode cX1_findReach 12 = .ok (.iload_n 2, 1) := by decide +kernel
theorem dX1_findReach_13 : decode cX1_findReach 13 = .ok (.aload_n 0, 1) := by decide +kernel
theorem dX1_findReach_14 : decode cX1_findReach 14 = .ok (.getfield 21, 3) := by decide +kernel
theorem dX1_findReach_17 : decode cX1_findReach 17 = .ok (.iload_n 1, 1) := by decide +kernel
theorem dX1_findReach_18 : decode cX1_findReach 18 = .ok (.iaload, 1) := by decide +kernel
theorem dX1_findReach_19 : decode cX1_findReach 19 = .ok (.if_icmp .ge 26, 3) := by decide +kernel
theorem dX1_findReach_22 : decode cX1_findReach 22 = .ok (.aload_n 0, 1) := by decide +kernel
theorem dX1_findReach_23 : decode cX1_findReach 23 = .ok (.getfield 31, 3) := by decide +kernel
theorem dX1_findReach_26 : decode cX1_findReach 26 = .ok (.iload_n 1, 1) := by decide +kernel
theorem dX1_findReach_27 : decode cX1_findReach 27 = .ok (.bipush 12, 2) := by decide +kernel
theorem dX1_findReach_29 : decode cX1_findReach 29 = .ok (.imul, 1) := by decide +kernel
theorem dX1_findReach_30 : decode cX1_findReach 30 = .ok (.iload_n 2, 1) := by decide +kernel
theorem dX1_findReach_31 : decode cX1_findReach 31 = .ok (.iadd, 1) := by decide +kernel
theorem dX1_findReach_32 : decode cX1_findReach 32 = .ok (.aload_n 0, 1) := by decide +kernel
theorem dX1_findReach_33 : decode cX1_findReach 33 = .ok (.iload_n 1, 1) := by decide +kernel
theorem dX1_findReach_34 : decode cX1_findReach 34 = .ok (.iload_n 2, 1) := by decide +kernel
theorem dX1_findReach_35 : decode cX1_findReach 35 = .ok (.invokevirtual 55, 3) := by decide +kernel
theorem dX1_findReach_38 : decode cX1_findReach 38 = .ok (.iastore, 1) := by decide +kernel
theorem dX1_findReach_39 : decode cX1_findReach 39 = .ok (.iinc 2 1, 3) := by decide +kernel
theorem dX1_findReach_42 : decode cX1_findReach 42 = .ok (.goto (-30), 3) := by decide +kernel
theorem dX1_findReach_45 : decode cX1_findReach 45 = .ok (.iinc 1 1, 3) := by decide +kernel
theorem dX1_findReach_48 : decode cX1_findReach 48 = .ok (.goto (-46), 3) := by decide +kernel
theorem dX1_findReach_51 : decode cX1_findReach 51 = .ok (.return_, 1) := by decide +kernel
theorem dX1_reachFrom_0 : decode cX1_reachFrom 0 = .ok (.iconst 0, 1) := by decide +kernel
theorem dX1_reachFrom_1 : decode cX1_reachFrom 1 = .ok (.istore_n 3, 1) := by decide +kernel
theorem dX1_reachFrom_2 : decode cX1_reachFrom 2 = .ok (.iload_n 2, 1) := by decide +kernel
theorem dX1_reachFrom_3 : decode cX1_reachFrom 3 = .ok (.istore 4, 2) := by decide +kernel
theorem dX1_reachFrom_5 : decode cX1_reachFrom 5 = .ok (.iload 4, 2) := by decide +kernel
theorem dX1_reachFrom_7 : decode cX1_reachFrom 7 = .ok (.aload_n 0, 1) := by decide +kernel
theorem dX1_reachFrom_8 : decode cX1_reachFrom 8 = .ok (.getfield 21, 3) := by decide +kernel
theorem dX1_reachFrom_11 : decode cX1_reachFrom 11 = .ok (.iload_n 1, 1) := by decide +kernel
theorem dX1_reachFrom_12 : decode cX1_reachFrom 12 = .ok (.iaload, 1) := by decide +kernel
theorem dX1_reachFrom_13 : decode cX1_reachFrom 13 = .ok (.if_icmp .ge 59, 3) := by decide +kernel
theorem dX1_reachFrom_16 : decode cX1_reachFrom 16 = .ok (.aload_n 0, 1) := by decide +kernel
theorem dX1_reachFrom_17 : decode cX1_reachFrom 17 = .ok (.iload_n 1, 1) := by decide +kernel
theorem dX1_reachFrom_18 : decode cX1_reachFrom 18 = .ok (.iload 4, 2) := by decide +kernel
theorem dX1_reachFrom_20 : decode cX1_reachFrom 20 = .ok (.invokevirtual 58, 3) := by decide +kernel
theorem dX1_reachFrom_23 : decode cX1_reachFrom 23 = .ok (.istore 5, 2) := by decide +kernel
theorem dX1_reachFrom_25 : decode cX1_reachFrom 25 = .ok (.iload 5, 2) := by decide +kernel
theorem dX1_reachFrom_27 : decode cX1_reachFrom 27 = .ok (.bipush 9, 2) := by decide +kernel
theorem dX1_reachFrom_29 : decode cX1_reachFrom 29 = .ok (.if_icmp .ne 5, 3) := by decide +kernel
theorem dX1_reachFrom_32 : decode cX1_reachFrom 32 = .ok (.iload_n 3, 1) := by decide +kernel
theorem dX1_reachFrom_33 : decode cX1_reachFrom 33 = .ok (.ireturn, 1) := by decide +kernel
theorem dX1_reachFrom_34 : decode cX1_reachFrom 34 = .ok (.iload 5, 2) := by decide +kernel
theorem dX1_reachFrom_36 : decode cX1_reachFrom 36 = .ok (.bipush 8, 2) := by decide +kernel
theorem dX1_reachFrom_38 : decode cX1_reachFrom 38 = .ok (.if_icmp .ne 14, 3) := by decide +kernel
theorem dX1_reachFrom_41 : decode cX1_reachFrom 41 = .ok (.iload_n 3, 1) := by decide +kernel
theorem dX1_reachFrom_42 : decode cX1_reachFrom 42 = .ok (.aload_n 0, 1) := by decide +kernel
theorem dX1_reachFrom_43 : decode cX1_reachFrom 43 = .ok (.iload_n 1, 1) := by decide +kernel
theorem dX1_reachFrom_44 : decode cX1_reachFrom 44 = .ok (.iconst 0, 1) := by decide +kernel
theorem dX1_reachFrom_45 : decode cX1_reachFrom 45 = .ok (.iload 4, 2) := by decide +kernel
theorem dX1_reachFrom_47 : decode cX1_reachFrom 47 = .ok (.invokevirtual 61, 3) := by decide +kernel
theorem dX1_reachFrom_50 : decode cX1_reachFrom 50 = .ok (.ior, 1) := by decide +kernel
theorem dX1_reachFrom_51 : decode cX1_reachFrom 51 = .ok (.ireturn, 1) := by decide +kernel
theorem dX1_reachFrom_52 : decode cX1_reachFrom 52 = .ok (.iload_n 3, 1) := by decide +kernel
theorem dX1_reachFrom_53 : decode cX1_reachFrom 53 = .ok (.aload_n 0, 1) := by decide +kernel
theorem dX1_reachFrom_54 : decode cX1_reachFrom 54 = .ok (.iload_n 1, 1) := by decide +kernel
theorem dX1_reachFrom_55 : decode cX1_reachFrom 55 = .ok (.iload 4, 2) := by decide +kernel
theorem dX1_reachFrom_57 : decode cX1_reachFrom 57 = .ok (.iload 4, 2) := by decide +kernel
theorem dX1_reachFrom_59 : decode cX1_reachFrom 59 = .ok (.iconst 1, 1) := by decide +kernel
theorem dX1_reachFrom_60 : decode cX1_reachFrom 60 = .ok (.iadd, 1) := by decide +kernel
theorem dX1_reachFrom_61 : decode cX1_reachFrom 61 = .ok (.invokevirtual 61, 3) := by decide +kernel
theorem dX1_reachFrom_64 : decode cX1_reachFrom 64 = .ok (.ior, 1) := by decide +kernel
theorem dX1_reachFrom_65 : decode cX1_reachFrom 65 = .ok (.istore_n 3, 1) := by decide +kernel
theorem dX1_reachFrom_66 : decode cX1_reachFrom 66 = .ok (.iinc 4 1, 3) := by decide +kernel
theorem dX1_reachFrom_69 : decode cX1_reachFrom 69 = .ok (.goto (-64), 3) := by decide +kernel
theorem dX1_reachFrom_72 : decode cX1_reachFrom 72 = .ok (.iload_n 3, 1) := by decide +kernel
theorem dX1_reachFrom_73 : decode cX1_reachFrom 73 = .ok (.ireturn, 1) := by decide +kernel
theorem dX1_reachBetween_0 : decode cX1_reachBetween 0 = .ok (.iconst 0, 1) := by decide +kernel
theorem dX1_reachBetween_1 : decode cX1_reachBetween 1 = .ok (.istore 4, 2) := by decide +kernel
theorem dX1_reachBetween_3 : decode cX1_reachBetween 3 = .ok (.iload_n 2, 1) := by decide +kernel
theorem dX1_reachBetween_4 : decode cX1_reachBetween 4 = .ok (.istore 5, 2) := by decide +kernel
theorem dX1_reachBetween_6 : decode cX1_reachBetween 6 = .ok (.iload 5, 2) := by decide +kernel
theorem dX1_reachBetween_8 : decode cX1_reachBetween 8 = .ok (.iload_n 3, 1) := by decide +kernel
theorem dX1_reachBetween_9 : decode cX1_reachBetween 9 = .ok (.if_icmp .ge 31, 3) := by decide +kernel
theorem dX1_reachBetween_12 : decode cX1_reachBetween 12 = .ok (.iload 4, 2) := by decide +kernel
theorem dX1_reachBetween_14 : decode cX1_reachBetween 14 = .ok (.aload_n 0, 1) := by decide +kernel
theorem dX1_reachBetween_15 : decode cX1_reachBetween 15 = .ok (.iload_n 1, 1) := by decide +kernel
theorem dX1_reachBetween_16 : decode cX1_reachBetween 16 = .ok (.iload 5, 2) := by decide +kernel
theorem dX1_reachBetween_18 : decode cX1_reachBetween 18 = .ok (.invokevirtual 58, 3) := by decide +kernel
theorem dX1_reachBetween_21 : decode cX1_reachBetween 21 = .ok (.aload_n 0, 1) := by decide +kernel
theorem dX1_reachBetween_22 : decode cX1_reachBetween 22 = .ok (.iload_n 1, 1) := by decide +kernel
theorem dX1_reachBetween_23 : decode cX1_reachBetween 23 = .ok (.iload 5, 2) := by decide +kernel
theorem dX1_reachBetween_25 : decode cX1_reachBetween 25 = .ok (.invokevirtual 65, 3) := by decide +kernel
theorem dX1_reachBetween_28 : decode cX1_reachBetween 28 = .ok (.invokestatic 68, 3) := by decide +kernel
theorem dX1_reachBetween_31 : decode cX1_reachBetween 31 = .ok (.ior, 1) := by decide +kernel
theorem dX1_reachBetween_32 : decode cX1_reachBetween 32 = .ok (.istore 4, 2) := by decide +kernel
theorem dX1_reachBetween_34 : decode cX1_reachBetween 34 = .ok (.iinc 5 1, 3) := by decide +kernel
theorem dX1_reachBetween_37 : decode cX1_reachBetween 37 = .ok (.goto (-31), 3) := by decide +kernel
theorem dX1_reachBetween_40 : decode cX1_reachBetween 40 = .ok (.iload 4, 2) := by decide +kernel
theorem dX1_reachBetween_42 : decode cX1_reachBetween 42 = .ok (.ireturn, 1) := by decide +kernel
theorem dX2_init_0 : decode cX2_init 0 = .ok (.aload_n 0, 1) := by decide +kernel
theorem dX2_init_1 : decode cX2_init 1 = .ok (.invokespecial 3, 3) := by decide +kernel
theorem dX2_init_4 : decode cX2_init 4 = .ok (.aload_n 0, 1) := by decide +kernel
theorem dX2_init_5 : decode cX2_init 5 = .ok (.new 9, 3) := by decide +kernel
theorem dX2_init_8 : decode cX2_init 8 = .ok (.dup, 1) := by decide +kernel
theorem dX2_init_9 : decode cX2_init 9 = .ok (.invokespecial 11, 3) := by decide +kernel
theorem dX2_init_12 : decode cX2_init 12 = .ok (.putfield 12, 3) := by decide +kernel
theorem dX2_init_15 : decode cX2_init 15 = .ok (.aload_n 0, 1) := by decide +kernel
theorem dX2_init_16 : decode cX2_init 16 = .ok (.bipush 96, 2) := by decide +kernel
theorem dX2_init_18 : decode cX2_init 18 = .ok (.newarray .int, 2) := by decide +kernel
theorem dX2_init_20 : decode cX2_init 20 = .ok (.putfield 18, 3) := by decide +kernel
theorem dX2_init_23 : decode cX2_init 23 = .ok (.aload_n 0, 1) := by decide +kernel
theorem dX2_init_24 : decode cX2_init 24 = .ok (.iconst 0, 1) := by decide +kernel
theorem dX2_init_25 : decode cX2_init 25 = .ok (.putfield 22, 3) := by decide +kernel
theorem dX2_init_28 : decode cX2_init 28 = .ok (.aload_n 0, 1) := by decide +kernel
theorem dX2_init_29 : decode cX2_init 29 = .ok (.iconst (-1), 1) := by decide +kernel
theorem dX2_init_30 : decode cX2_init 30 = .ok (.putfield 26, 3) := by decide +kernel
theorem dX2_init_33 : decode cX2_init 33 = .ok (.aload_n 0, 1) := by decide +kernel
theorem dX2_init_34 : decode cX2_init 34 = .ok (.iconst 0, 1) := by decide +kernel
theorem dX2_init_35 : decode cX2_init 35 = .ok (.putfield 29, 3) := by decide +kernel
theorem dX2_init_38 : decode cX2_init 38 = .ok (.aload_n 0, 1) := by decide +kernel
theorem dX2_init_39 : decode cX2_init 39 = .ok (.iconst 0, 1) := by decide +kernel
theorem dX2_init_40 : decode cX2_init 40 = .ok (.putfield 32, 3) := by decide +kernel
theorem dX2_init_43 : decode cX2_init 43 = .ok (.aload_n 0, 1) := by decide +kernel
theorem dX2_init_44 : decode cX2_init 44 = .ok (.iconst 0, 1) := by decide +kernel
theorem dX2_init_45 : decode cX2_init 45 = .ok (.putfield 35, 3) := by decide +kernel
theorem dX2_init_48 : decode cX2_init 48 = .ok (.aload_n 0, 1) := by decide +kernel
theorem dX2_init_49 : decode cX2_init 49 = .ok (.iconst 0, 1) := by decide +kernel
theorem dX2_init_50 : decode cX2_init 50 = .ok (.putfield 38, 3) := by decide +kernel
theorem dX2_init_53 : decode cX2_init 53 = .ok (.aload_n 0, 1) := by decide +kernel
theorem dX2_init_54 : decode cX2_init 54 = .ok (.iconst (-1), 1) := by decide +kernel
theorem dX2_init_55 : decode cX2_init 55 = .ok (.putfield 41, 3) := by decide +kernel
theorem dX2_init_58 : decode cX2_init 58 = .ok (.aload_n 0, 1) := by decide +kernel
theorem dX2_init_59 : decode cX2_init 59 = .ok (.iconst (-1), 1) := by decide +kernel
theorem dX2_init_60 : decode cX2_init 60 = .ok (.putfield 44, 3) := by decide +kernel
theorem dX2_init_63 : decode cX2_init 63 = .ok (.aload_n 0, 1) := by decide +kernel
theorem dX2_init_64 : decode cX2_init 64 = .ok (.iconst (-1), 1) := by decide +kernel
theorem dX2_init_65 : decode cX2_init 65 = .ok (.putfield 47, 3) := by decide +kernel
theorem dX2_init_68 : decode cX2_init 68 = .ok (.return_, 1) := by decide +kernel
theorem dX2_read_0 : decode cX2_read 0 = .ok (.aload_n 0, 1) := by decide +kernel
theorem dX2_read_1 : decode cX2_read 1 = .ok (.getfield 12, 3) := by decide +kernel
theorem dX2_read_4 : decode cX2_read 4 = .ok (.invokevirtual 50, 3) := by decide +kernel
theorem dX2_read_7 : decode cX2_read 7 = .ok (.aload_n 0, 1) := by decide +kernel
theorem dX2_read_8 : decode cX2_read 8 = .ok (.iconst 0, 1) := by decide +kernel
theorem dX2_read_9 : decode cX2_read 9 = .ok (.putfield 22, 3) := by decide +kernel
theorem dX2_read_12 : decode cX2_read 12 = .ok (.aload_n 0, 1) := by decide +kernel
theorem dX2_read_13 : decode cX2_read 13 = .ok (.iconst (-1), 1) := by decide +kernel
theorem dX2_read_14 : decode cX2_read 14 = .ok (.putfield 26, 3) := by decide +kernel
theorem dX2_read_17 : decode cX2_read 17 = .ok (.aload_n 0, 1) := by decide +kernel
theorem dX2_read_18 : decode cX2_read 18 = .ok (.iconst 0, 1) := by decide +kernel
theorem dX2_read_19 : decode cX2_read 19 = .ok (.putfield 38, 3) := by decide +kernel
theorem dX2_read_22 : decode cX2_read 22 = .ok (.iconst 0, 1) := by decide +kernel
theorem dX2_read_23 : decode cX2_read 23 = .ok (.istore_n 2, 1) := by decide +kernel
theorem dX2_read_24 : decode cX2_read 24 = .ok (.iconst 1, 1) := by decide +kernel
theorem dX2_read_25 : decode cX2_read 25 = .ok (.istore_n 3, 1) := by decide +kernel
theorem dX2_read_26 : decode cX2_read 26 = .ok (.iconst 0, 1) := by decide +kernel
theorem dX2_read_27 : decode cX2_read 27 = .ok (.istore 4, 2) := by decide +kernel
theorem dX2_read_29 : decode cX2_read 29 = .ok (.iload 4, 2) := by decide +kernel
theorem dX2_read_31 : decode cX2_read 31 = .ok (.sipush 800, 3) := by decide +kernel
theorem dX2_read_34 : decode cX2_read 34 = .ok (.if_icmp .gt 65, 3) := by decide +kernel
theorem dX2_read_37 : decode cX2_read 37 = .ok (.iload_n 3, 1) := by decide +kernel
theorem dX2_read_38 : decode cX2_read 38 = .ok (.ifCond .eq 61, 3) := by decide +kernel
theorem dX2_read_41 : decode cX2_read 41 = .ok (.aload_n 0, 1) := by decide +kernel
theorem dX2_read_42 : decode cX2_read 42 = .ok (.aload_n 1, 1) := by decide +kernel
theorem dX2_read_43 : decode cX2_read 43 = .ok (.invokevirtual 53, 3) := by decide +kernel
theorem dX2_read_46 : decode cX2_read 46 = .ok (.aload_n 0, 1) := by decide +kernel
theorem dX2_read_47 : decode cX2_read 47 = .ok (.getfield 29, 3) := by decide +kernel
theorem dX2_read_50 : decode cX2_read 50 = .ok (.ifCond .ne 7, 3) := by decide +kernel
theorem dX2_read_53 : decode cX2_read 53 = .ok (.iload_n 2, 1) := by decide +kernel
theorem dX2_read_54 : decode cX2_read 54 = .ok (.ifCond .eq 7, 3) := by decide +kernel
theorem dX2_read_57 : decode cX2_read 57 = .ok (.iconst 1, 1) := by decide +kernel
theorem dX2_read_58 : decode cX2_read 58 = .ok (.goto 4, 3) := by decide +kernel
theorem dX2_read_61 : decode cX2_read 61 = .ok (.iconst 0, 1) := by decide +kernel
theorem dX2_read_62 : decode cX2_read 62 = .ok (.istore_n 3, 1) := by decide +kernel
theorem dX2_read_63 : decode cX2_read 63 = .ok (.iload_n 3, 1) := by decide +kernel
theorem dX2_read_64 : decode cX2_read 64 = .ok (.ifCond .eq 9, 3) := by decide +kernel
theorem dX2_read_67 : decode cX2_read 67 = .ok (.aload_n 0, 1) := by decide +kernel
theorem dX2_read_68 : decode cX2_read 68 = .ok (.iload_n 2, 1) := by decide +kernel
theorem dX2_read_69 : decode cX2_read 69 = .ok (.invokevirtual 57, 3) := by decide +kernel
theorem dX2_read_72 : decode cX2_read 72 = .ok (.istore_n 2, 1) := by decide +kernel
theorem dX2_read_73 : decode cX2_read 73 = .ok (.iload_n 2, 1) := by decide +kernel
theorem dX2_read_74 : decode cX2_read 74 = .ok (.iconst (-1), 1) := by decide +kernel
theorem dX2_read_75 : decode cX2_read 75 = .ok (.if_icmp .ne 18, 3) := by decide +kernel
theorem dX2_read_78 : decode cX2_read 78 = .ok (.aload_n 0, 1) := by decide +kernel
theorem dX2_read_79 : decode cX2_read 79 = .ok (.iconst 1, 1) := by decide +kernel
theorem dX2_read_80 : decode cX2_read 80 = .ok (.putfield 22, 3) := by decide +kernel
theorem dX2_read_83 : decode cX2_read 83 = .ok (.aload_n 0, 1) := by decide +kernel
theorem dX2_read_84 : decode cX2_read 84 = .ok (.aload_n 0, 1) := by decide +kernel
theorem dX2_read_85 : decode cX2_read 85 = .ok (.getfield 32, 3) := by decide +kernel
theorem dX2_read_88 : decode cX2_read 88 = .ok (.putfield 26, 3) := by decide +kernel
theorem dX2_read_91 : decode cX2_read 91 = .ok (.iconst 0, 1) := by decide +kernel
theorem dX2_read_92 : decode cX2_read 92 = .ok (.istore_n 3, 1) := by decide +kernel
theorem dX2_read_93 : decode cX2_read 93 = .ok (.iinc 4 1, 3) := by decide +kernel
theorem dX2_read_96 : decode cX2_read 96 = .ok (.goto (-67), 3) := by decide +kernel
theorem dX2_read_99 : decode cX2_read 99 = .ok (.aload_n 0, 1) := by decide +kernel
theorem dX2_read_100 : decode cX2_read 100 = .ok (.getfield 22, 3) := by decide +kernel
theorem dX2_read_103 : decode cX2_read 103 = .ok (.ifCond .ne 7, 3) := by decide +kernel
theorem dX2_read_106 : decode cX2_read 106 = .ok (.aload_n 0, 1) := by decide +kernel
theorem dX2_read_107 : decode cX2_read 107 = .ok (.invokevirtual 61, 3) := by decide +kernel
theorem dX2_read_110 : decode cX2_read 110 = .ok (.return_, 1) := by decide +kernel
theorem dX2_note_0 : decode cX2_note 0 = .ok (.aload_n 0, 1) := by decide +kernel
theorem dX2_note_1 : decode cX2_note 1 = .ok (.getfield 22, 3) := by decide +kernel
theorem dX2_note_4 : decode cX2_note 4 = .ok (.ifCond .ne 16, 3) := by decide +kernel
theorem dX2_note_7 : decode cX2_note 7 = .ok (.aload_n 0, 1) := by decide +kernel
theorem dX2_note_8 : decode cX2_note 8 = .ok (.iload_n 1, 1) := by decide +kernel
theorem dX2_note_9 : decode cX2_note 9 = .ok (.putfield 22, 3) := by decide +kernel
theorem dX2_note_12 : decode cX2_note 12 = .ok (.aload_n 0, 1) := by decide +kernel
theorem dX2_note_13 : decode cX2_note 13 = .ok (.aload_n 0, 1) := by decide +kernel
theorem dX2_note_14 : decode cX2_note 14 = .ok (.getfield 32, 3) := by decide +kernel
theorem dX2_note_17 : decode cX2_note 17 = .ok (.putfield 26, 3) := by decide +kernel
theorem dX2_note_20 : decode cX2_note 20 = .ok (.return_, 1) := by decide +kernel
theorem dX2_seekStrangers_0 : decode cX2_seekStrangers 0 = .ok (.iconst 0, 1) := by decide +kernel
theorem dX2_seekStrangers_1 : decode cX2_seekStrangers 1 = .ok (.istore_n 1, 1) := by decide +kernel
theorem dX2_seekStrangers_2 : decode cX2_seekStrangers 2 = .ok (.iload_n 1, 1) := by decide +kernel
theorem dX2_seekStrangers_3 : decode cX2_seekStrangers 3 = .ok (.aload_n 0, 1) := by decide +kernel
theorem dX2_seekStrangers_4 : decode cX2_seekStrangers 4 = .ok (.getfield 12, 3) := by decide +kernel
theorem dX2_seekStrangers_7 : decode cX2_seekStrangers 7 = .ok (.getfield 64, 3) := by decide +kernel
theorem dX2_seekStrangers_10 : decode cX2_seekStrangers 10 = .ok (.if_icmp .ge 124, 3) := by decide +kernel
theorem dX2_seekStrangers_13 : decode cX2_seekStrangers 13 = .ok (.iconst 0, 1) := by decide +kernel
theorem dX2_seekStrangers_14 : decode cX2_seekStrangers 14 = .ok (.istore_n 2, 1) := by decide +kernel
theorem dX2_seekStrangers_15 : decode cX2_seekStrangers 15 = .ok (.iload_n 2, 1) := by decide +kernel
theorem dX2_seekStrangers_16 : decode cX2_seekStrangers 16 = .ok (.aload_n 0, 1) := by decide +kernel
theorem dX2_seekStrangers_17 : decode cX2_seekStrangers 17 = .ok (.getfield 12, 3) := by decide +kernel
theorem dX2_seekStrangers_20 : decode cX2_seekStrangers 20 = .ok (.getfield 67, 3) := by decide +kernel
theorem dX2_seekStrangers_23 : decode cX2_seekStrangers 23 = .ok (.iload_n 1, 1) := by decide +kernel
theorem dX2_seekStrangers_24 : decode cX2_seekStrangers 24 = .ok (.iaload, 1) := by decide +kernel
theorem dX2_seekStrangers_25 : decode cX2_seekStrangers 25 = .ok (.if_icmp .ge 103, 3) := by decide +kernel
theorem dX2_seekStrangers_28 : decode cX2_seekStrangers 28 = .ok (.aload_n 0, 1) := by decide +kernel
theorem dX2_seekStrangers_29 : decode cX2_seekStrangers 29 = .ok (.getfield 22, 3) := by decide +kernel
theorem dX2_seekStrangers_32 : decode cX2_seekStrangers 32 = .ok (.ifCond .ne 96, 3) := by decide +kernel
theorem dX2_seekStrangers_35 : decode cX2_seekStrangers 35 = .ok (.aload_n 0, 1) := by decide +kernel
theorem dX2_seekStrangers_36 : decode cX2_seekStrangers 36 = .ok (.getfield 12, 3) := by decide +kernel
theorem dX2_seekStrangers_39 : decode cX2_seekStrangers 39 = .ok (.iload_n 1, 1) := by decide +kernel
theorem dX2_seekStrangers_40 : decode cX2_seekStrangers 40 = .ok (.iload_n 2, 1) := by decide +kernel
theorem dX2_seekStrangers_41 : decode cX2_seekStrangers 41 = .ok (.invokevirtual 70, 3) := by decide +kernel
theorem dX2_seekStrangers_44 : decode cX2_seekStrangers 44 = .ok (.istore_n 3, 1) := by decide +kernel
theorem dX2_seekStrangers_45 : decode cX2_seekStrangers 45 = .ok (.aload_n 0, 1) := by decide +kernel
theorem dX2_seekStrangers_46 : decode cX2_seekStrangers 46 = .ok (.getfield 12, 3) := by decide +kernel
theorem dX2_seekStrangers_49 : decode cX2_seekStrangers 49 = .ok (.iload_n 1, 1) := by decide +kernel
theorem dX2_seekStrangers_50 : decode cX2_seekStrangers 50 = .ok (.iload_n 2, 1) := by decide +kernel
theorem dX2_seekStrangers_51 : decode cX2_seekStrangers 51 = .ok (.invokevirtual 74, 3) := by decide +kernel
theorem dX2_seekStrangers_54 : decode cX2_seekStrangers 54 = .ok (.istore 4, 2) := by decide +kernel
theorem dX2_seekStrangers_56 : decode cX2_seekStrangers 56 = .ok (.iload_n 3, 1) := by decide +kernel
theorem dX2_seekStrangers_57 : decode cX2_seekStrangers 57 = .ok (.iconst 5, 1) := by decide +kernel
theorem dX2_seekStrangers_58 : decode cX2_seekStrangers 58 = .ok (.if_icmp .eq 9, 3) := by decide +kernel
theorem dX2_seekStrangers_61 : decode cX2_seekStrangers 61 = .ok (.iload_n 3, 1) := by decide +kernel
theorem dX2_seekStrangers_62 : decode cX2_seekStrangers 62 = .ok (.bipush 6, 2) := by decide +kernel
theorem dX2_seekStrangers_64 : decode cX2_seekStrangers 64 = .ok (.if_icmp .ne 7, 3) := by decide +kernel
theorem dX2_seekStrangers_67 : decode cX2_seekStrangers 67 = .ok (.iconst 1, 1) := by decide +kernel
theorem dX2_seekStrangers_68 : decode cX2_seekStrangers 68 = .ok (.goto 4, 3) := by decide +kernel
theorem dX2_seekStrangers_71 : decode cX2_seekStrangers 71 = .ok (.iconst 0, 1) := by decide +kernel
theorem dX2_seekStrangers_72 : decode cX2_seekStrangers 72 = .ok (.istore 5, 2) := by decide +kernel
theorem dX2_seekStrangers_74 : decode cX2_seekStrangers 74 = .ok (.iload 5, 2) := by decide +kernel
theorem dX2_seekStrangers_76 : decode cX2_seekStrangers 76 = .ok (.ifCond .eq 46, 3) := by decide +kernel
theorem dX2_seekStrangers_79 : decode cX2_seekStrangers 79 = .ok (.iload 4, 2) := by decide +kernel
theorem dX2_seekStrangers_81 : decode cX2_seekStrangers 81 = .ok (.iload_n 1, 1) := by decide +kernel
theorem dX2_seekStrangers_82 : decode cX2_seekStrangers 82 = .ok (.if_icmp .eq 15, 3) := by decide +kernel
theorem dX2_seekStrangers_85 : decode cX2_seekStrangers 85 = .ok (.iload 4, 2) := by decide +kernel
theorem dX2_seekStrangers_87 : decode cX2_seekStrangers 87 = .ok (.aload_n 0, 1) := by decide +kernel
theorem dX2_seekStrangers_88 : decode cX2_seekStrangers 88 = .ok (.getfield 12, 3) := by decide +kernel
theorem dX2_seekStrangers_91 : decode cX2_seekStrangers 91 = .ok (.getfield 64, 3) := by decide +kernel
theorem dX2_seekStrangers_94 : decode cX2_seekStrangers 94 = .ok (.if_icmp .lt 28, 3) := by decide +kernel
theorem dX2_seekStrangers_97 : decode cX2_seekStrangers 97 = .ok (.aload_n 0, 1) := by decide +kernel
theorem dX2_seekStrangers_98 : decode cX2_seekStrangers 98 = .ok (.iconst 5, 1) := by decide +kernel
theorem dX2_seekStrangers_99 : decode cX2_seekStrangers 99 = .ok (.putfield 22, 3) := by decide +kernel
theorem dX2_seekStrangers_102 : decode cX2_seekStrangers 102 = .ok (.aload_n 0, 1) := by decide +kernel
theorem dX2_seekStrangers_103 : decode cX2_seekStrangers 103 = .ok (.aload_n 0, 1) := by decide +kernel
theorem dX2_seekStrangers_104 : decode cX2_seekStrangers 104 = .ok (.getfield 18, 3) := by decide +kernel
theorem dX2_seekStrangers_107 : decode cX2_seekStrangers 107 = .ok (.aload_n 0, 1) := by decide +kernel
theorem dX2_seekStrangers_108 : decode cX2_seekStrangers 108 = .ok (.getfield 12, 3) := by decide +kernel
theorem dX2_seekStrangers_111 : decode cX2_seekStrangers 111 = .ok (.iload_n 1, 1) := by decide +kernel
theorem dX2_seekStrangers_112 : decode cX2_seekStrangers 112 = .ok (.iload_n 2, 1) := by decide +kernel
theorem dX2_seekStrangers_113 : decode cX2_seekStrangers 113 = .ok (.invokevirtual 77, 3) := by decide +kernel
theorem dX2_seekStrangers_116 : decode cX2_seekStrangers 116 = .ok (.invokestatic 80, 3) := by decide +kernel
theorem dX2_seekStrangers_119 : decode cX2_seekStrangers 119 = .ok (.putfield 26, 3) := by decide +kernel
theorem dX2_seekStrangers_122 : decode cX2_seekStrangers 122 = .ok (.iinc 2 1, 3) := by decide +kernel
theorem dX2_seekStrangers_125 : decode cX2_seekStrangers 125 = .ok (.goto (-110), 3) := by decide +kernel
theorem dX2_seekStrangers_128 : decode cX2_seekStrangers 128 = .ok (.iinc 1 1, 3) := by decide +kernel
theorem dX2_seekStrangers_131 : decode cX2_seekStrangers 131 = .ok (.goto (-129), 3) := by decide +kernel
theorem dX2_seekStrangers_134 : decode cX2_seekStrangers 134 = .ok (.return_, 1) := by decide +kernel
theorem dX2_follow_0 : decode cX2_follow 0 = .ok (.iload_n 1, 1) := by decide +kernel
theorem dX2_follow_1 : decode cX2_follow 1 = .ok (.tableswitch 124 0 4 #[35, 52, 69, 86, 100], 35) := by decide +kernel
theorem dX2_follow_36 : decode cX2_follow 36 = .ok (.aload_n 0, 1) := by decide +kernel
theorem dX2_follow_37 : decode cX2_follow 37 = .ok (.getfield 29, 3) := by decide +kernel
theorem dX2_follow_40 : decode cX2_follow 40 = .ok (.iconst 1, 1) := by decide +kernel
theorem dX2_follow_41 : decode cX2_follow 41 = .ok (.if_icmp .ne 10, 3) := by decide +kernel
theorem dX2_follow_44 : decode cX2_follow 44 = .ok (.aload_n 0, 1) := by decide +kernel
theorem dX2_follow_45 : decode cX2_follow 45 = .ok (.invokevirtual 84, 3) := by decide +kernel
theorem dX2_follow_48 : decode cX2_follow 48 = .ok (.goto 4, 3) := by decide +kernel
theorem dX2_follow_51 : decode cX2_follow 51 = .ok (.iconst (-1), 1) := by decide +kernel
theorem dX2_follow_52 : decode cX2_follow 52 = .ok (.ireturn, 1) := by decide +kernel
theorem dX2_follow_53 : decode cX2_follow 53 = .ok (.aload_n 0, 1) := by decide +kernel
theorem dX2_follow_54 : decode cX2_follow 54 = .ok (.getfield 29, 3) := by decide +kernel
theorem dX2_follow_57 : decode cX2_follow 57 = .ok (.iconst 1, 1) := by decide +kernel
theorem dX2_follow_58 : decode cX2_follow 58 = .ok (.if_icmp .ne 10, 3) := by decide +kernel
theorem dX2_follow_61 : decode cX2_follow 61 = .ok (.aload_n 0, 1) := by decide +kernel
theorem dX2_follow_62 : decode cX2_follow 62 = .ok (.invokevirtual 88, 3) := by decide +kernel
theorem dX2_follow_65 : decode cX2_follow 65 = .ok (.goto 4, 3) := by decide +kernel
theorem dX2_follow_68 : decode cX2_follow 68 = .ok (.iconst (-1), 1) := by decide +kernel
theorem dX2_follow_69 : decode cX2_follow 69 = .ok (.ireturn, 1) := by decide +kernel
theorem dX2_follow_70 : decode cX2_follow 70 = .ok (.aload_n 0, 1) := by decide +kernel
theorem dX2_follow_71 : decode cX2_follow 71 = .ok (.getfield 29, 3) := by decide +kernel
theorem dX2_follow_74 : decode cX2_follow 74 = .ok (.iconst 2, 1) := by decide +kernel
theorem dX2_follow_75 : decode cX2_follow 75 = .ok (.if_icmp .ne 10, 3) := by decide +kernel
theorem dX2_follow_78 : decode cX2_follow 78 = .ok (.aload_n 0, 1) := by decide +kernel
theorem dX2_follow_79 : decode cX2_follow 79 = .ok (.invokevirtual 91, 3) := by decide +kernel
theorem dX2_follow_82 : decode cX2_follow 82 = .ok (.goto 4, 3) := by decide +kernel
theorem dX2_follow_85 : decode cX2_follow 85 = .ok (.iconst (-1), 1) := by decide +kernel
theorem dX2_follow_86 : decode cX2_follow 86 = .ok (.ireturn, 1) := by decide +kernel
theorem dX2_follow_87 : decode cX2_follow 87 = .ok (.aload_n 0, 1) := by decide +kernel
theorem dX2_follow_88 : decode cX2_follow 88 = .ok (.getfield 29, 3) := by decide +kernel
theorem dX2_follow_91 : decode cX2_follow 91 = .ok (.iconst 3, 1) := by decide +kernel
theorem dX2_follow_92 : decode cX2_follow 92 = .ok (.if_icmp .ne 7, 3) := by decide +kernel
theorem dX2_follow_95 : decode cX2_follow 95 = .ok (.iconst 0, 1) := by decide +kernel
theorem dX2_follow_96 : decode cX2_follow 96 = .ok (.goto 4, 3) := by decide +kernel
theorem dX2_follow_99 : decode cX2_follow 99 = .ok (.iconst (-1), 1) := by decide +kernel
theorem dX2_follow_100 : decode cX2_follow 100 = .ok (.ireturn, 1) := by decide +kernel
theorem dX2_follow_101 : decode cX2_follow 101 = .ok (.aload_n 0, 1) := by decide +kernel
theorem dX2_follow_102 : decode cX2_follow 102 = .ok (.getfield 29, 3) := by decide +kernel
theorem dX2_follow_105 : decode cX2_follow 105 = .ok (.iconst 4, 1) := by decide +kernel
theorem dX2_follow_106 : decode cX2_follow 106 = .ok (.if_icmp .ne 5, 3) := by decide +kernel
theorem dX2_follow_109 : decode cX2_follow 109 = .ok (.iconst 1, 1) := by decide +kernel
theorem dX2_follow_110 : decode cX2_follow 110 = .ok (.ireturn, 1) := by decide +kernel
theorem dX2_follow_111 : decode cX2_follow 111 = .ok (.aload_n 0, 1) := by decide +kernel
theorem dX2_follow_112 : decode cX2_follow 112 = .ok (.getfield 29, 3) := by decide +kernel
theorem dX2_follow_115 : decode cX2_follow 115 = .ok (.iconst 3, 1) := by decide +kernel
theorem dX2_follow_116 : decode cX2_follow 116 = .ok (.if_icmp .ne 7, 3) := by decide +kernel
theorem dX2_follow_119 : decode cX2_follow 119 = .ok (.iconst 0, 1) := by decide +kernel
theorem dX2_follow_120 : decode cX2_follow 120 = .ok (.goto 4, 3) := by decide +kernel
theorem dX2_follow_123 : decode cX2_follow 123 = .ok (.iconst (-1), 1) := by decide +kernel
theorem dX2_follow_124 : decode cX2_follow 124 = .ok (.ireturn, 1) := by decide +kernel
theorem dX2_follow_125 : decode cX2_follow 125 = .ok (.iconst (-1), 1) := by decide +kernel
theorem dX2_follow_126 : decode cX2_follow 126 = .ok (.ireturn, 1) := by decide +kernel
theorem dX2_openLine_0 : decode cX2_openLine 0 = .ok (.aload_n 0, 1) := by decide +kernel
theorem dX2_openLine_1 : decode cX2_openLine 1 = .ok (.aload_n 0, 1) := by decide +kernel
theorem dX2_openLine_2 : decode cX2_openLine 2 = .ok (.getfield 35, 3) := by decide +kernel
theorem dX2_openLine_5 : decode cX2_openLine 5 = .ok (.putfield 41, 3) := by decide +kernel
theorem dX2_openLine_8 : decode cX2_openLine 8 = .ok (.aload_n 0, 1) := by decide +kernel
theorem dX2_openLine_9 : decode cX2_openLine 9 = .ok (.getfield 41, 3) := by decide +kernel
theorem dX2_openLine_12 : decode cX2_openLine 12 = .ok (.tableswitch 51 10 13 #[32, 32, 32, 34], 32) := by decide +kernel
theorem dX2_openLine_44 : decode cX2_openLine 44 = .ok (.iconst 2, 1) := by decide +kernel
theorem dX2_openLine_45 : decode cX2_openLine 45 = .ok (.ireturn, 1) := by decide +kernel
theorem dX2_openLine_46 : decode cX2_openLine 46 = .ok (.aload_n 0, 1) := by decide +kernel
theorem dX2_openLine_47 : decode cX2_openLine 47 = .ok (.getfield 12, 3) := by decide +kernel
theorem dX2_openLine_50 : decode cX2_openLine 50 = .ok (.invokevirtual 94, 3) := by decide +kernel
theorem dX2_openLine_53 : decode cX2_openLine 53 = .ok (.ifCond .ne 8, 3) := by decide +kernel
theorem dX2_openLine_56 : decode cX2_openLine 56 = .ok (.aload_n 0, 1) := by decide +kernel
theorem dX2_openLine_57 : decode cX2_openLine 57 = .ok (.iconst 4, 1) := by decide +kernel
theorem dX2_openLine_58 : decode cX2_openLine 58 = .ok (.invokevirtual 98, 3) := by decide +kernel
theorem dX2_openLine_61 : decode cX2_openLine 61 = .ok (.iconst 1, 1) := by decide +kernel
theorem dX2_openLine_62 : decode cX2_openLine 62 = .ok (.ireturn, 1) := by decide +kernel
theorem dX2_openLine_63 : decode cX2_openLine 63 = .ok (.iconst (-1), 1) := by decide +kernel
theorem dX2_openLine_64 : decode cX2_openLine 64 = .ok (.ireturn, 1) := by decide +kernel
theorem dX2_openStep_0 : decode cX2_openStep 0 = .ok (.aload_n 0, 1) := by decide +kernel
theorem dX2_openStep_1 : decode cX2_openStep 1 = .ok (.aload_n 0, 1) := by decide +kernel
theorem dX2_openStep_2 : decode cX2_openStep 2 = .ok (.getfield 35, 3) := by decide +kernel
theorem dX2_openStep_5 : decode cX2_openStep 5 = .ok (.putfield 41, 3) := by decide +kernel
theorem dX2_openStep_8 : decode cX2_openStep 8 = .ok (.aload_n 0, 1) := by decide +kernel
theorem dX2_openStep_9 : decode cX2_openStep 9 = .ok (.getfield 41, 3) := by decide +kernel
theorem dX2_openStep_12 : decode cX2_openStep 12 = .ok (.ifCond .lt 12, 3) := by decide +kernel
theorem dX2_openStep_15 : decode cX2_openStep 15 = .ok (.aload_n 0, 1) := by decide +kernel
theorem dX2_openStep_16 : decode cX2_openStep 16 = .ok (.getfield 41, 3) := by decide +kernel
theorem dX2_openStep_19 : decode cX2_openStep 19 = .ok (.bipush 9, 2) := by decide +kernel
theorem dX2_openStep_21 : decode cX2_openStep 21 = .ok (.if_icmp .le 5, 3) := by decide +kernel
theorem dX2_openStep_24 : decode cX2_openStep 24 = .ok (.iconst (-1), 1) := by decide +kernel
theorem dX2_openStep_25 : decode cX2_openStep 25 = .ok (.ireturn, 1) := by decide +kernel
theorem dX2_openStep_26 : decode cX2_openStep 26 = .ok (.aload_n 0, 1) := by decide +kernel
theorem dX2_openStep_27 : decode cX2_openStep 27 = .ok (.aload_n 0, 1) := by decide +kernel
theorem dX2_openStep_28 : decode cX2_openStep 28 = .ok (.getfield 12, 3) := by decide +kernel
theorem dX2_openStep_31 : decode cX2_openStep 31 = .ok (.aload_n 0, 1) := by decide +kernel
theorem dX2_openStep_32 : decode cX2_openStep 32 = .ok (.getfield 41, 3) := by decide +kernel
theorem dX2_openStep_35 : decode cX2_openStep 35 = .ok (.invokevirtual 102, 3) := by decide +kernel
theorem dX2_openStep_38 : decode cX2_openStep 38 = .ok (.putfield 44, 3) := by decide +kernel
theorem dX2_openStep_41 : decode cX2_openStep 41 = .ok (.aload_n 0, 1) := by decide +kernel
theorem dX2_openStep_42 : decode cX2_openStep 42 = .ok (.getfield 44, 3) := by decide +kernel
theorem dX2_openStep_45 : decode cX2_openStep 45 = .ok (.iconst (-1), 1) := by decide +kernel
theorem dX2_openStep_46 : decode cX2_openStep 46 = .ok (.if_icmp .ne 8, 3) := by decide +kernel
theorem dX2_openStep_49 : decode cX2_openStep 49 = .ok (.aload_n 0, 1) := by decide +kernel
theorem dX2_openStep_50 : decode cX2_openStep 50 = .ok (.iconst 3, 1) := by decide +kernel
theorem dX2_openStep_51 : decode cX2_openStep 51 = .ok (.invokevirtual 98, 3) := by decide +kernel
theorem dX2_openStep_54 : decode cX2_openStep 54 = .ok (.aload_n 0, 1) := by decide +kernel
theorem dX2_openStep_55 : decode cX2_openStep 55 = .ok (.getfield 41, 3) := by decide +kernel
theorem dX2_openStep_58 : decode cX2_openStep 58 = .ok (.bipush 8, 2) := by decide +kernel
theorem dX2_openStep_60 : decode cX2_openStep 60 = .ok (.if_icmp .eq 12, 3) := by decide +kernel
theorem dX2_openStep_63 : decode cX2_openStep 63 = .ok (.aload_n 0, 1) := by decide +kernel
theorem dX2_openStep_64 : decode cX2_openStep 64 = .ok (.getfield 41, 3) := by decide +kernel
theorem dX2_openStep_67 : decode cX2_openStep 67 = .ok (.bipush 9, 2) := by decide +kernel
theorem dX2_openStep_69 : decode cX2_openStep 69 = .ok (.if_icmp .ne 7, 3) := by decide +kernel
theorem dX2_openStep_72 : decode cX2_openStep 72 = .ok (.iconst 4, 1) := by decide +kernel
theorem dX2_openStep_73 : decode cX2_openStep 73 = .ok (.goto 4, 3) := by decide +kernel
theorem dX2_openStep_76 : decode cX2_openStep 76 = .ok (.iconst 2, 1) := by decide +kernel
theorem dX2_openStep_77 : decode cX2_openStep 77 = .ok (.ireturn, 1) := by decide +kernel
theorem dX2_takeNumber_0 : decode cX2_takeNumber 0 = .ok (.aload_n 0, 1) := by decide +kernel
theorem dX2_takeNumber_1 : decode cX2_takeNumber 1 = .ok (.getfield 35, 3) := by decide +kernel
theorem dX2_takeNumber_4 : decode cX2_takeNumber 4 = .ok (.getstatic 105, 3) := by decide +kernel
theorem dX2_takeNumber_7 : decode cX2_takeNumber 7 = .ok (.aload_n 0, 1) := by decide +kernel
theorem dX2_takeNumber_8 : decode cX2_takeNumber 8 = .ok (.getfield 41, 3) := by decide +kernel
theorem dX2_takeNumber_11 : decode cX2_takeNumber 11 = .ok (.invokestatic 80, 3) := by decide +kernel
theorem dX2_takeNumber_14 : decode cX2_takeNumber 14 = .ok (.if_icmp .lt 20, 3) := by decide +kernel
theorem dX2_takeNumber_17 : decode cX2_takeNumber 17 = .ok (.aload_n 0, 1) := by decide +kernel
theorem dX2_takeNumber_18 : decode cX2_takeNumber 18 = .ok (.getfield 35, 3) := by decide +kernel
theorem dX2_takeNumber_21 : decode cX2_takeNumber 21 = .ok (.getstatic 108, 3) := by decide +kernel
theorem dX2_takeNumber_24 : decode cX2_takeNumber 24 = .ok (.aload_n 0, 1) := by decide +kernel
theorem dX2_takeNumber_25 : decode cX2_takeNumber 25 = .ok (.getfield 41, 3) := by decide +kernel
theorem dX2_takeNumber_28 : decode cX2_takeNumber 28 = .ok (.invokestatic 80, 3) := by decide +kernel
theorem dX2_takeNumber_31 : decode cX2_takeNumber 31 = .ok (.if_icmp .le 8, 3) := by decide +kernel
theorem dX2_takeNumber_34 : decode cX2_takeNumber 34 = .ok (.aload_n 0, 1) := by decide +kernel
theorem dX2_takeNumber_35 : decode cX2_takeNumber 35 = .ok (.iconst 2, 1) := by decide +kernel
theorem dX2_takeNumber_36 : decode cX2_takeNumber 36 = .ok (.invokevirtual 98, 3) := by decide +kernel
theorem dX2_takeNumber_39 : decode cX2_takeNumber 39 = .ok (.aload_n 0, 1) := by decide +kernel
theorem dX2_takeNumber_40 : decode cX2_takeNumber 40 = .ok (.getfield 41, 3) := by decide +kernel
theorem dX2_takeNumber_43 : decode cX2_takeNumber 43 = .ok (.tableswitch 95 10 14 #[33, 46, 59, 95, 75], 33) := by decide +kernel
theorem dX2_takeNumber_76 : decode cX2_takeNumber 76 = .ok (.aload_n 0, 1) := by decide +kernel
theorem dX2_takeNumber_77 : decode cX2_takeNumber 77 = .ok (.getfield 12, 3) := by decide +kernel
theorem dX2_takeNumber_80 : decode cX2_takeNumber 80 = .ok (.aload_n 0, 1) := by decide +kernel
theorem dX2_takeNumber_81 : decode cX2_takeNumber 81 = .ok (.getfield 35, 3) := by decide +kernel
theorem dX2_takeNumber_84 : decode cX2_takeNumber 84 = .ok (.putfield 111, 3) := by decide +kernel
theorem dX2_takeNumber_87 : decode cX2_takeNumber 87 = .ok (.iconst 3, 1) := by decide +kernel
theorem dX2_takeNumber_88 : decode cX2_takeNumber 88 = .ok (.ireturn, 1) := by decide +kernel
theorem dX2_takeNumber_89 : decode cX2_takeNumber 89 = .ok (.aload_n 0, 1) := by decide +kernel
theorem dX2_takeNumber_90 : decode cX2_takeNumber 90 = .ok (.getfield 12, 3) := by decide +kernel
theorem dX2_takeNumber_93 : decode cX2_takeNumber 93 = .ok (.aload_n 0, 1) := by decide +kernel
theorem dX2_takeNumber_94 : decode cX2_takeNumber 94 = .ok (.getfield 35, 3) := by decide +kernel
theorem dX2_takeNumber_97 : decode cX2_takeNumber 97 = .ok (.putfield 114, 3) := by decide +kernel
theorem dX2_takeNumber_100 : decode cX2_takeNumber 100 = .ok (.iconst 3, 1) := by decide +kernel
theorem dX2_takeNumber_101 : decode cX2_takeNumber 101 = .ok (.ireturn, 1) := by decide +kernel
theorem dX2_takeNumber_102 : decode cX2_takeNumber 102 = .ok (.aload_n 0, 1) := by decide +kernel
theorem dX2_takeNumber_103 : decode cX2_takeNumber 103 = .ok (.aload_n 0, 1) := by decide +kernel
theorem dX2_takeNumber_104 : decode cX2_takeNumber 104 = .ok (.getfield 35, 3) := by decide +kernel
theorem dX2_takeNumber_107 : decode cX2_takeNumber 107 = .ok (.putfield 47, 3) := by decide +kernel
theorem dX2_takeNumber_110 : decode cX2_takeNumber 110 = .ok (.aload_n 0, 1) := by decide +kernel
theorem dX2_takeNumber_111 : decode cX2_takeNumber 111 = .ok (.bipush 14, 2) := by decide +kernel
theorem dX2_takeNumber_113 : decode cX2_takeNumber 113 = .ok (.putfield 41, 3) := by decide +kernel
theorem dX2_takeNumber_116 : decode cX2_takeNumber 116 = .ok (.iconst 2, 1) := by decide +kernel
theorem dX2_takeNumber_117 : decode cX2_takeNumber 117 = .ok (.ireturn, 1) := by decide +kernel
theorem dX2_takeNumber_118 : decode cX2_takeNumber 118 = .ok (.aload_n 0, 1) := by decide +kernel
theorem dX2_takeNumber_119 : decode cX2_takeNumber 119 = .ok (.getfield 12, 3) := by decide +kernel
theorem dX2_takeNumber_122 : decode cX2_takeNumber 122 = .ok (.getfield 117, 3) := by decide +kernel
theorem dX2_takeNumber_125 : decode cX2_takeNumber 125 = .ok (.aload_n 0, 1) := by decide +kernel
theorem dX2_takeNumber_126 : decode cX2_takeNumber 126 = .ok (.getfield 47, 3) := by decide +kernel
theorem dX2_takeNumber_129 : decode cX2_takeNumber 129 = .ok (.aload_n 0, 1) := by decide +kernel
theorem dX2_takeNumber_130 : decode cX2_takeNumber 130 = .ok (.getfield 35, 3) := by decide +kernel
theorem dX2_takeNumber_133 : decode cX2_takeNumber 133 = .ok (.invokestatic 120, 3) := by decide +kernel
theorem dX2_takeNumber_136 : decode cX2_takeNumber 136 = .ok (.iconst 3, 1) := by decide +kernel
theorem dX2_takeNumber_137 : decode cX2_takeNumber 137 = .ok (.ireturn, 1) := by decide +kernel
theorem dX2_takeNumber_138 : decode cX2_takeNumber 138 = .ok (.aload_n 0, 1) := by decide +kernel
theorem dX2_takeNumber_139 : decode cX2_takeNumber 139 = .ok (.getfield 12, 3) := by decide +kernel
theorem dX2_takeNumber_142 : decode cX2_takeNumber 142 = .ok (.getfield 124, 3) := by decide +kernel
theorem dX2_takeNumber_145 : decode cX2_takeNumber 145 = .ok (.aload_n 0, 1) := by decide +kernel
theorem dX2_takeNumber_146 : decode cX2_takeNumber 146 = .ok (.getfield 44, 3) := by decide +kernel
theorem dX2_takeNumber_149 : decode cX2_takeNumber 149 = .ok (.aload_n 0, 1) := by decide +kernel
theorem dX2_takeNumber_150 : decode cX2_takeNumber 150 = .ok (.getfield 35, 3) := by decide +kernel
theorem dX2_takeNumber_153 : decode cX2_takeNumber 153 = .ok (.invokestatic 120, 3) := by decide +kernel
theorem dX2_takeNumber_156 : decode cX2_takeNumber 156 = .ok (.aload_n 0, 1) := by decide +kernel
theorem dX2_takeNumber_157 : decode cX2_takeNumber 157 = .ok (.getfield 18, 3) := by decide +kernel
theorem dX2_takeNumber_160 : decode cX2_takeNumber 160 = .ok (.aload_n 0, 1) := by decide +kernel
theorem dX2_takeNumber_161 : decode cX2_takeNumber 161 = .ok (.getfield 44, 3) := by decide +kernel
theorem dX2_takeNumber_164 : decode cX2_takeNumber 164 = .ok (.aload_n 0, 1) := by decide +kernel
theorem dX2_takeNumber_165 : decode cX2_takeNumber 165 = .ok (.getfield 32, 3) := by decide +kernel
theorem dX2_takeNumber_168 : decode cX2_takeNumber 168 = .ok (.invokestatic 120, 3) := by decide +kernel
theorem dX2_takeNumber_171 : decode cX2_takeNumber 171 = .ok (.iconst 4, 1) := by decide +kernel
theorem dX2_takeNumber_172 : decode cX2_takeNumber 172 = .ok (.ireturn, 1) := by decide +kernel
theorem dX2_scan_0 : decode cX2_scan 0 = .ok (.aload_n 0, 1) := by decide +kernel
theorem dX2_scan_1 : decode cX2_scan 1 = .ok (.getfield 38, 3) := by decide +kernel
theorem dX2_scan_4 : decode cX2_scan 4 = .ok (.aload_n 1, 1) := by decide +kernel
theorem dX2_scan_5 : decode cX2_scan 5 = .ok (.getfield 127, 3) := by decide +kernel
theorem dX2_scan_8 : decode cX2_scan 8 = .ok (.if_icmp .ge 30, 3) := by decide +kernel
theorem dX2_scan_11 : decode cX2_scan 11 = .ok (.aload_n 1, 1) := by decide +kernel
theorem dX2_scan_12 : decode cX2_scan 12 = .ok (.aload_n 0, 1) := by decide +kernel
theorem dX2_scan_13 : decode cX2_scan 13 = .ok (.getfield 38, 3) := by decide +kernel
theorem dX2_scan_16 : decode cX2_scan 16 = .ok (.invokevirtual 132, 3) := by decide +kernel
theorem dX2_scan_19 : decode cX2_scan 19 = .ok (.invokestatic 135, 3) := by decide +kernel
theorem dX2_scan_22 : decode cX2_scan 22 = .ok (.ifCond .eq 16, 3) := by decide +kernel
theorem dX2_scan_25 : decode cX2_scan 25 = .ok (.aload_n 0, 1) := by decide +kernel
theorem dX2_scan_26 : decode cX2_scan 26 = .ok (.dup, 1) := by decide +kernel
theorem dX2_scan_27 : decode cX2_scan 27 = .ok (.getfield 38, 3) := by decide +kernel
theorem dX2_scan_30 : decode cX2_scan 30 = .ok (.iconst 1, 1) := by decide +kernel
theorem dX2_scan_31 : decode cX2_scan 31 = .ok (.iadd, 1) := by decide +kernel
theorem dX2_scan_32 : decode cX2_scan 32 = .ok (.putfield 38, 3) := by decide +kernel
theorem dX2_scan_35 : decode cX2_scan 35 = .ok (.goto (-35), 3) := by decide +kernel
theorem dX2_scan_38 : decode cX2_scan 38 = .ok (.aload_n 0, 1) := by decide +kernel
theorem dX2_scan_39 : decode cX2_scan 39 = .ok (.aload_n 0, 1) := by decide +kernel
theorem dX2_scan_40 : decode cX2_scan 40 = .ok (.getfield 38, 3) := by decide +kernel
theorem dX2_scan_43 : decode cX2_scan 43 = .ok (.putfield 32, 3) := by decide +kernel
theorem dX2_scan_46 : decode cX2_scan 46 = .ok (.aload_n 1, 1) := by decide +kernel
theorem dX2_scan_47 : decode cX2_scan 47 = .ok (.aload_n 0, 1) := by decide +kernel
theorem dX2_scan_48 : decode cX2_scan 48 = .ok (.getfield 32, 3) := by decide +kernel
theorem dX2_scan_51 : decode cX2_scan 51 = .ok (.invokevirtual 132, 3) := by decide +kernel
theorem dX2_scan_54 : decode cX2_scan 54 = .ok (.istore_n 2, 1) := by decide +kernel
theorem dX2_scan_55 : decode cX2_scan 55 = .ok (.aload_n 0, 1) := by decide +kernel
theorem dX2_scan_56 : decode cX2_scan 56 = .ok (.getfield 32, 3) := by decide +kernel
theorem dX2_scan_59 : decode cX2_scan 59 = .ok (.aload_n 1, 1) := by decide +kernel
theorem dX2_scan_60 : decode cX2_scan 60 = .ok (.getfield 127, 3) := by decide +kernel
theorem dX2_scan_63 : decode cX2_scan 63 = .ok (.if_icmp .lt 11, 3) := by decide +kernel
theorem dX2_scan_66 : decode cX2_scan 66 = .ok (.aload_n 0, 1) := by decide +kernel
theorem dX2_scan_67 : decode cX2_scan 67 = .ok (.iconst 0, 1) := by decide +kernel
theorem dX2_scan_68 : decode cX2_scan 68 = .ok (.putfield 29, 3) := by decide +kernel
theorem dX2_scan_71 : decode cX2_scan 71 = .ok (.goto 68, 3) := by decide +kernel
theorem dX2_scan_74 : decode cX2_scan 74 = .ok (.iload_n 2, 1) := by decide +kernel
theorem dX2_scan_75 : decode cX2_scan 75 = .ok (.invokestatic 139, 3) := by decide +kernel
theorem dX2_scan_78 : decode cX2_scan 78 = .ok (.ifCond .eq 11, 3) := by decide +kernel
theorem dX2_scan_81 : decode cX2_scan 81 = .ok (.aload_n 0, 1) := by decide +kernel
theorem dX2_scan_82 : decode cX2_scan 82 = .ok (.aload_n 1, 1) := by decide +kernel
theorem dX2_scan_83 : decode cX2_scan 83 = .ok (.invokevirtual 142, 3) := by decide +kernel
theorem dX2_scan_86 : decode cX2_scan 86 = .ok (.goto 53, 3) := by decide +kernel
theorem dX2_scan_89 : decode cX2_scan 89 = .ok (.iload_n 2, 1) := by decide +kernel
theorem dX2_scan_90 : decode cX2_scan 90 = .ok (.invokestatic 145, 3) := by decide +kernel
theorem dX2_scan_93 : decode cX2_scan 93 = .ok (.ifCond .eq 11, 3) := by decide +kernel
theorem dX2_scan_96 : decode cX2_scan 96 = .ok (.aload_n 0, 1) := by decide +kernel
theorem dX2_scan_97 : decode cX2_scan 97 = .ok (.aload_n 1, 1) := by decide +kernel
theorem dX2_scan_98 : decode cX2_scan 98 = .ok (.invokevirtual 148, 3) := by decide +kernel
theorem dX2_scan_101 : decode cX2_scan 101 = .ok (.goto 38, 3) := by decide +kernel
theorem dX2_scan_104 : decode cX2_scan 104 = .ok (.aload_n 0, 1) := by decide +kernel
theorem dX2_scan_105 : decode cX2_scan 105 = .ok (.dup, 1) := by decide +kernel
theorem dX2_scan_106 : decode cX2_scan 106 = .ok (.getfield 38, 3) := by decide +kernel
theorem dX2_scan_109 : decode cX2_scan 109 = .ok (.iconst 1, 1) := by decide +kernel
theorem dX2_scan_110 : decode cX2_scan 110 = .ok (.iadd, 1) := by decide +kernel
theorem dX2_scan_111 : decode cX2_scan 111 = .ok (.putfield 38, 3) := by decide +kernel
theorem dX2_scan_114 : decode cX2_scan 114 = .ok (.aload_n 0, 1) := by decide +kernel
theorem dX2_scan_115 : decode cX2_scan 115 = .ok (.iload_n 2, 1) := by decide +kernel
theorem dX2_scan_116 : decode cX2_scan 116 = .ok (.bipush 59, 2) := by decide +kernel
theorem dX2_scan_118 : decode cX2_scan 118 = .ok (.if_icmp .ne 7, 3) := by decide +kernel
theorem dX2_scan_121 : decode cX2_scan 121 = .ok (.iconst 3, 1) := by decide +kernel
theorem dX2_scan_122 : decode cX2_scan 122 = .ok (.goto 14, 3) := by decide +kernel
theorem dX2_scan_125 : decode cX2_scan 125 = .ok (.iload_n 2, 1) := by decide +kernel
theorem dX2_scan_126 : decode cX2_scan 126 = .ok (.bipush 44, 2) := by decide +kernel
theorem dX2_scan_128 : decode cX2_scan 128 = .ok (.if_icmp .ne 7, 3) := by decide +kernel
theorem dX2_scan_131 : decode cX2_scan 131 = .ok (.iconst 4, 1) := by decide +kernel
theorem dX2_scan_132 : decode cX2_scan 132 = .ok (.goto 4, 3) := by decide +kernel
theorem dX2_scan_135 : decode cX2_scan 135 = .ok (.iconst 5, 1) := by decide +kernel
theorem dX2_scan_136 : decode cX2_scan 136 = .ok (.putfield 29, 3) := by decide +kernel
theorem dX2_scan_139 : decode cX2_scan 139 = .ok (.return_, 1) := by decide +kernel
theorem dX2_scanWord_0 : decode cX2_scanWord 0 = .ok (.aload_n 0, 1) := by decide +kernel
theorem dX2_scanWord_1 : decode cX2_scanWord 1 = .ok (.getfield 38, 3) := by decide +kernel
theorem dX2_scanWord_4 : decode cX2_scanWord 4 = .ok (.aload_n 1, 1) := by decide +kernel
theorem dX2_scanWord_5 : decode cX2_scanWord 5 = .ok (.getfield 127, 3) := by decide +kernel
theorem dX2_scanWord_8 : decode cX2_scanWord 8 = .ok (.if_icmp .ge 30, 3) := by decide +kernel
theorem dX2_scanWord_11 : decode cX2_scanWord 11 = .ok (.aload_n 1, 1) := by decide +kernel
theorem dX2_scanWord_12 : decode cX2_scanWord 12 = .ok (.aload_n 0, 1) := by decide +kernel
theorem dX2_scanWord_13 : decode cX2_scanWord 13 = .ok (.getfield 38, 3) := by decide +kernel
theorem dX2_scanWord_16 : decode cX2_scanWord 16 = .ok (.invokevirtual 132, 3) := by decide +kernel
theorem dX2_scanWord_19 : decode cX2_scanWord 19 = .ok (.invokestatic 139, 3) := by decide +kernel
theorem dX2_scanWord_22 : decode cX2_scanWord 22 = .ok (.ifCond .eq 16, 3) := by decide +kernel
theorem dX2_scanWord_25 : decode cX2_scanWord 25 = .ok (.aload_n 0, 1) := by decide +kernel
theorem dX2_scanWord_26 : decode cX2_scanWord 26 = .ok (.dup, 1) := by decide +kernel
theorem dX2_scanWord_27 : decode cX2_scanWord 27 = .ok (.getfield 38, 3) := by decide +kernel
theorem dX2_scanWord_30 : decode cX2_scanWord 30 = .ok (.iconst 1, 1) := by decide +kernel
theorem dX2_scanWord_31 : decode cX2_scanWord 31 = .ok (.iadd, 1) := by decide +kernel
theorem dX2_scanWord_32 : decode cX2_scanWord 32 = .ok (.putfield 38, 3) := by decide +kernel
theorem dX2_scanWord_35 : decode cX2_scanWord 35 = .ok (.goto (-35), 3) := by decide +kernel
theorem dX2_scanWord_38 : decode cX2_scanWord 38 = .ok (.aload_n 0, 1) := by decide +kernel
theorem dX2_scanWord_39 : decode cX2_scanWord 39 = .ok (.iconst 1, 1) := by decide +kernel
theorem dX2_scanWord_40 : decode cX2_scanWord 40 = .ok (.putfield 29, 3) := by decide +kernel
theorem dX2_scanWord_43 : decode cX2_scanWord 43 = .ok (.aload_n 0, 1) := by decide +kernel
theorem dX2_scanWord_44 : decode cX2_scanWord 44 = .ok (.iconst (-1), 1) := by decide +kernel
theorem dX2_scanWord_45 : decode cX2_scanWord 45 = .ok (.putfield 35, 3) := by decide +kernel
theorem dX2_scanWord_48 : decode cX2_scanWord 48 = .ok (.iconst 0, 1) := by decide +kernel
theorem dX2_scanWord_49 : decode cX2_scanWord 49 = .ok (.istore_n 2, 1) := by decide +kernel
theorem dX2_scanWord_50 : decode cX2_scanWord 50 = .ok (.iload_n 2, 1) := by decide +kernel
theorem dX2_scanWord_51 : decode cX2_scanWord 51 = .ok (.bipush 14, 2) := by decide +kernel
theorem dX2_scanWord_53 : decode cX2_scanWord 53 = .ok (.if_icmp .ge 23, 3) := by decide +kernel
theorem dX2_scanWord_56 : decode cX2_scanWord 56 = .ok (.aload_n 0, 1) := by decide +kernel
theorem dX2_scanWord_57 : decode cX2_scanWord 57 = .ok (.aload_n 1, 1) := by decide +kernel
theorem dX2_scanWord_58 : decode cX2_scanWord 58 = .ok (.iload_n 2, 1) := by decide +kernel
theorem dX2_scanWord_59 : decode cX2_scanWord 59 = .ok (.invokevirtual 151, 3) := by decide +kernel
theorem dX2_scanWord_62 : decode cX2_scanWord 62 = .ok (.ifCond .eq 8, 3) := by decide +kernel
theorem dX2_scanWord_65 : decode cX2_scanWord 65 = .ok (.aload_n 0, 1) := by decide +kernel
theorem dX2_scanWord_66 : decode cX2_scanWord 66 = .ok (.iload_n 2, 1) := by decide +kernel
theorem dX2_scanWord_67 : decode cX2_scanWord 67 = .ok (.putfield 35, 3) := by decide +kernel
theorem dX2_scanWord_70 : decode cX2_scanWord 70 = .ok (.iinc 2 1, 3) := by decide +kernel
theorem dX2_scanWord_73 : decode cX2_scanWord 73 = .ok (.goto (-23), 3) := by decide +kernel
theorem dX2_scanWord_76 : decode cX2_scanWord 76 = .ok (.return_, 1) := by decide +kernel
theorem dX2_scanNumber_0 : decode cX2_scanNumber 0 = .ok (.aload_n 0, 1) := by decide +kernel
theorem dX2_scanNumber_1 : decode cX2_scanNumber 1 = .ok (.iconst 0, 1) := by decide +kernel
theorem dX2_scanNumber_2 : decode cX2_scanNumber 2 = .ok (.putfield 35, 3) := by decide +kernel
theorem dX2_scanNumber_5 : decode cX2_scanNumber 5 = .ok (.aload_n 0, 1) := by decide +kernel
theorem dX2_scanNumber_6 : decode cX2_scanNumber 6 = .ok (.getfield 38, 3) := by decide +kernel
theorem dX2_scanNumber_9 : decode cX2_scanNumber 9 = .ok (.aload_n 1, 1) := by decide +kernel
theorem dX2_scanNumber_10 : decode cX2_scanNumber 10 = .ok (.getfield 127, 3) := by decide +kernel
theorem dX2_scanNumber_13 : decode cX2_scanNumber 13 = .ok (.if_icmp .ge 53, 3) := by decide +kernel
theorem dX2_scanNumber_16 : decode cX2_scanNumber 16 = .ok (.aload_n 1, 1) := by decide +kernel
theorem dX2_scanNumber_17 : decode cX2_scanNumber 17 = .ok (.aload_n 0, 1) := by decide +kernel
theorem dX2_scanNumber_18 : decode cX2_scanNumber 18 = .ok (.getfield 38, 3) := by decide +kernel
theorem dX2_scanNumber_21 : decode cX2_scanNumber 21 = .ok (.invokevirtual 132, 3) := by decide +kernel
theorem dX2_scanNumber_24 : decode cX2_scanNumber 24 = .ok (.invokestatic 145, 3) := by decide +kernel
theorem dX2_scanNumber_27 : decode cX2_scanNumber 27 = .ok (.ifCond .eq 39, 3) := by decide +kernel
theorem dX2_scanNumber_30 : decode cX2_scanNumber 30 = .ok (.aload_n 0, 1) := by decide +kernel
theorem dX2_scanNumber_31 : decode cX2_scanNumber 31 = .ok (.aload_n 0, 1) := by decide +kernel
theorem dX2_scanNumber_32 : decode cX2_scanNumber 32 = .ok (.getfield 35, 3) := by decide +kernel
theorem dX2_scanNumber_35 : decode cX2_scanNumber 35 = .ok (.bipush 10, 2) := by decide +kernel
theorem dX2_scanNumber_37 : decode cX2_scanNumber 37 = .ok (.imul, 1) := by decide +kernel
theorem dX2_scanNumber_38 : decode cX2_scanNumber 38 = .ok (.aload_n 1, 1) := by decide +kernel
theorem dX2_scanNumber_39 : decode cX2_scanNumber 39 = .ok (.aload_n 0, 1) := by decide +kernel
theorem dX2_scanNumber_40 : decode cX2_scanNumber 40 = .ok (.getfield 38, 3) := by decide +kernel
theorem dX2_scanNumber_43 : decode cX2_scanNumber 43 = .ok (.invokevirtual 132, 3) := by decide +kernel
theorem dX2_scanNumber_46 : decode cX2_scanNumber 46 = .ok (.iadd, 1) := by decide +kernel
theorem dX2_scanNumber_47 : decode cX2_scanNumber 47 = .ok (.bipush 48, 2) := by decide +kernel
theorem dX2_scanNumber_49 : decode cX2_scanNumber 49 = .ok (.isub, 1) := by decide +kernel
theorem dX2_scanNumber_50 : decode cX2_scanNumber 50 = .ok (.putfield 35, 3) := by decide +kernel
theorem dX2_scanNumber_53 : decode cX2_scanNumber 53 = .ok (.aload_n 0, 1) := by decide +kernel
theorem dX2_scanNumber_54 : decode cX2_scanNumber 54 = .ok (.dup, 1) := by decide +kernel
theorem dX2_scanNumber_55 : decode cX2_scanNumber 55 = .ok (.getfield 38, 3) := by decide +kernel
theorem dX2_scanNumber_58 : decode cX2_scanNumber 58 = .ok (.iconst 1, 1) := by decide +kernel
theorem dX2_scanNumber_59 : decode cX2_scanNumber 59 = .ok (.iadd, 1) := by decide +kernel
theorem dX2_scanNumber_60 : decode cX2_scanNumber 60 = .ok (.putfield 38, 3) := by decide +kernel
theorem dX2_scanNumber_63 : decode cX2_scanNumber 63 = .ok (.goto (-58), 3) := by decide +kernel
theorem dX2_scanNumber_66 : decode cX2_scanNumber 66 = .ok (.aload_n 0, 1) := by decide +kernel
theorem dX2_scanNumber_67 : decode cX2_scanNumber 67 = .ok (.aload_n 0, 1) := by decide +kernel
theorem dX2_scanNumber_68 : decode cX2_scanNumber 68 = .ok (.getfield 38, 3) := by decide +kernel
theorem dX2_scanNumber_71 : decode cX2_scanNumber 71 = .ok (.aload_n 0, 1) := by decide +kernel
theorem dX2_scanNumber_72 : decode cX2_scanNumber 72 = .ok (.getfield 32, 3) := by decide +kernel
theorem dX2_scanNumber_75 : decode cX2_scanNumber 75 = .ok (.isub, 1) := by decide +kernel
theorem dX2_scanNumber_76 : decode cX2_scanNumber 76 = .ok (.iconst 2, 1) := by decide +kernel
theorem dX2_scanNumber_77 : decode cX2_scanNumber 77 = .ok (.if_icmp .gt 7, 3) := by decide +kernel
theorem dX2_scanNumber_80 : decode cX2_scanNumber 80 = .ok (.iconst 2, 1) := by decide +kernel
theorem dX2_scanNumber_81 : decode cX2_scanNumber 81 = .ok (.goto 4, 3) := by decide +kernel
theorem dX2_scanNumber_84 : decode cX2_scanNumber 84 = .ok (.iconst 5, 1) := by decide +kernel
theorem dX2_scanNumber_85 : decode cX2_scanNumber 85 = .ok (.putfield 29, 3) := by decide +kernel
theorem dX2_scanNumber_88 : decode cX2_scanNumber 88 = .ok (.return_, 1) := by decide +kernel
theorem dX2_isWord_0 : decode cX2_isWord 0 = .ok (.aload_n 0, 1) := by decide +kernel
theorem dX2_isWord_1 : decode cX2_isWord 1 = .ok (.getfield 38, 3) := by decide +kernel
theorem dX2_isWord_4 : decode cX2_isWord 4 = .ok (.aload_n 0, 1) := by decide +kernel
theorem dX2_isWord_5 : decode cX2_isWord 5 = .ok (.getfield 32, 3) := by decide +kernel
theorem dX2_isWord_8 : decode cX2_isWord 8 = .ok (.isub, 1) := by decide +kernel
theorem dX2_isWord_9 : decode cX2_isWord 9 = .ok (.bipush 6, 2) := by decide +kernel
theorem dX2_isWord_11 : decode cX2_isWord 11 = .ok (.if_icmp .le 5, 3) := by decide +kernel
theorem dX2_isWord_14 : decode cX2_isWord 14 = .ok (.iconst 0, 1) := by decide +kernel
theorem dX2_isWord_15 : decode cX2_isWord 15 = .ok (.ireturn, 1) := by decide +kernel
theorem dX2_isWord_16 : decode cX2_isWord 16 = .ok (.iconst 0, 1) := by decide +kernel
theorem dX2_isWord_17 : decode cX2_isWord 17 = .ok (.istore_n 3, 1) := by decide +kernel
theorem dX2_isWord_18 : decode cX2_isWord 18 = .ok (.iload_n 3, 1) := by decide +kernel
theorem dX2_isWord_19 : decode cX2_isWord 19 = .ok (.bipush 6, 2) := by decide +kernel
theorem dX2_isWord_21 : decode cX2_isWord 21 = .ok (.if_icmp .ge 76, 3) := by decide +kernel
theorem dX2_isWord_24 : decode cX2_isWord 24 = .ok (.aload_n 0, 1) := by decide +kernel
theorem dX2_isWord_25 : decode cX2_isWord 25 = .ok (.getfield 32, 3) := by decide +kernel
theorem dX2_isWord_28 : decode cX2_isWord 28 = .ok (.iload_n 3, 1) := by decide +kernel
theorem dX2_isWord_29 : decode cX2_isWord 29 = .ok (.iadd, 1) := by decide +kernel
theorem dX2_isWord_30 : decode cX2_isWord 30 = .ok (.aload_n 0, 1) := by decide +kernel
theorem dX2_isWord_31 : decode cX2_isWord 31 = .ok (.getfield 38, 3) := by decide +kernel
theorem dX2_isWord_34 : decode cX2_isWord 34 = .ok (.if_icmp .ge 16, 3) := by decide +kernel
theorem dX2_isWord_37 : decode cX2_isWord 37 = .ok (.aload_n 1, 1) := by decide +kernel
theorem dX2_isWord_38 : decode cX2_isWord 38 = .ok (.aload_n 0, 1) := by decide +kernel
theorem dX2_isWord_39 : decode cX2_isWord 39 = .ok (.getfield 32, 3) := by decide +kernel
theorem dX2_isWord_42 : decode cX2_isWord 42 = .ok (.iload_n 3, 1) := by decide +kernel
theorem dX2_isWord_43 : decode cX2_isWord 43 = .ok (.iadd, 1) := by decide +kernel
theorem dX2_isWord_44 : decode cX2_isWord 44 = .ok (.invokevirtual 132, 3) := by decide +kernel
theorem dX2_isWord_47 : decode cX2_isWord 47 = .ok (.goto 5, 3) := by decide +kernel
theorem dX2_isWord_50 : decode cX2_isWord 50 = .ok (.bipush 32, 2) := by decide +kernel
theorem dX2_isWord_52 : decode cX2_isWord 52 = .ok (.istore 4, 2) := by decide +kernel
theorem dX2_isWord_54 : decode cX2_isWord 54 = .ok (.iload_n 2, 1) := by decide +kernel
theorem dX2_isWord_55 : decode cX2_isWord 55 = .ok (.bipush 6, 2) := by decide +kernel
theorem dX2_isWord_57 : decode cX2_isWord 57 = .ok (.imul, 1) := by decide +kernel
theorem dX2_isWord_58 : decode cX2_isWord 58 = .ok (.iload_n 3, 1) := by decide +kernel
theorem dX2_isWord_59 : decode cX2_isWord 59 = .ok (.iadd, 1) := by decide +kernel
theorem dX2_isWord_60 : decode cX2_isWord 60 = .ok (.istore 5, 2) := by decide +kernel
theorem dX2_isWord_62 : decode cX2_isWord 62 = .ok (.iload 5, 2) := by decide +kernel
theorem dX2_isWord_64 : decode cX2_isWord 64 = .ok (.ifCond .lt 25, 3) := by decide +kernel
theorem dX2_isWord_67 : decode cX2_isWord 67 = .ok (.iload 5, 2) := by decide +kernel
theorem dX2_isWord_69 : decode cX2_isWord 69 = .ok (.ldc 155, 2) := by decide +kernel
theorem dX2_isWord_71 : decode cX2_isWord 71 = .ok (.invokevirtual 157, 3) := by decide +kernel
theorem dX2_isWord_74 : decode cX2_isWord 74 = .ok (.if_icmp .ge 15, 3) := by decide +kernel
theorem dX2_isWord_77 : decode cX2_isWord 77 = .ok (.ldc 155, 2) := by decide +kernel
theorem dX2_isWord_79 : decode cX2_isWord 79 = .ok (.iload 5, 2) := by decide +kernel
theorem dX2_isWord_81 : decode cX2_isWord 81 = .ok (.invokevirtual 161, 3) := by decide +kernel
theorem dX2_isWord_84 : decode cX2_isWord 84 = .ok (.iload 4, 2) := by decide +kernel
theorem dX2_isWord_86 : decode cX2_isWord 86 = .ok (.if_icmp .eq 5, 3) := by decide +kernel
theorem dX2_isWord_89 : decode cX2_isWord 89 = .ok (.iconst 0, 1) := by decide +kernel
theorem dX2_isWord_90 : decode cX2_isWord 90 = .ok (.ireturn, 1) := by decide +kernel
theorem dX2_isWord_91 : decode cX2_isWord 91 = .ok (.iinc 3 1, 3) := by decide +kernel
theorem dX2_isWord_94 : decode cX2_isWord 94 = .ok (.goto (-76), 3) := by decide +kernel
theorem dX2_isWord_97 : decode cX2_isWord 97 = .ok (.iconst 1, 1) := by decide +kernel
theorem dX2_isWord_98 : decode cX2_isWord 98 = .ok (.ireturn, 1) := by decide +kernel
theorem dX2_isBlank_0 : decode cX2_isBlank 0 = .ok (.iload_n 0, 1) := by decide +kernel
theorem dX2_isBlank_1 : decode cX2_isBlank 1 = .ok (.bipush 32, 2) := by decide +kernel
theorem dX2_isBlank_3 : decode cX2_isBlank 3 = .ok (.if_icmp .eq 9, 3) := by decide +kernel
theorem dX2_isBlank_6 : decode cX2_isBlank 6 = .ok (.iload_n 0, 1) := by decide +kernel
theorem dX2_isBlank_7 : decode cX2_isBlank 7 = .ok (.bipush 10, 2) := by decide +kernel
theorem dX2_isBlank_9 : decode cX2_isBlank 9 = .ok (.if_icmp .ne 7, 3) := by decide +kernel
theorem dX2_isBlank_12 : decode cX2_isBlank 12 = .ok (.iconst 1, 1) := by decide +kernel
theorem dX2_isBlank_13 : decode cX2_isBlank 13 = .ok (.goto 4, 3) := by decide +kernel
theorem dX2_isBlank_16 : decode cX2_isBlank 16 = .ok (.iconst 0, 1) := by decide +kernel
theorem dX2_isBlank_17 : decode cX2_isBlank 17 = .ok (.ireturn, 1) := by decide +kernel
theorem dX2_isLetter_0 : decode cX2_isLetter 0 = .ok (.iload_n 0, 1) := by decide +kernel
theorem dX2_isLetter_1 : decode cX2_isLetter 1 = .ok (.bipush 97, 2) := by decide +kernel
theorem dX2_isLetter_3 : decode cX2_isLetter 3 = .ok (.if_icmp .lt 13, 3) := by decide +kernel
theorem dX2_isLetter_6 : decode cX2_isLetter 6 = .ok (.iload_n 0, 1) := by decide +kernel
theorem dX2_isLetter_7 : decode cX2_isLetter 7 = .ok (.bipush 122, 2) := by decide +kernel
theorem dX2_isLetter_9 : decode cX2_isLetter 9 = .ok (.if_icmp .gt 7, 3) := by decide +kernel
theorem dX2_isLetter_12 : decode cX2_isLetter 12 = .ok (.iconst 1, 1) := by decide +kernel
theorem dX2_isLetter_13 : decode cX2_isLetter 13 = .ok (.goto 4, 3) := by decide +kernel
theorem dX2_isLetter_16 : decode cX2_isLetter 16 = .ok (.iconst 0, 1) := by decide +kernel
theorem dX2_isLetter_17 : decode cX2_isLetter 17 = .ok (.ireturn, 1) := by decide +kernel
theorem dX2_isDigit_0 : decode cX2_isDigit 0 = .ok (.iload_n 0, 1) := by decide +kernel
theorem dX2_isDigit_1 : decode cX2_isDigit 1 = .ok (.bipush 48, 2) := by decide +kernel
theorem dX2_isDigit_3 : decode cX2_isDigit 3 = .ok (.if_icmp .lt 13, 3) := by decide +kernel
theorem dX2_isDigit_6 : decode cX2_isDigit 6 = .ok (.iload_n 0, 1) := by decide +kernel
theorem dX2_isDigit_7 : decode cX2_isDigit 7 = .ok (.bipush 57, 2) := by decide +kernel
theorem dX2_isDigit_9 : decode cX2_isDigit 9 = .ok (.if_icmp .gt 7, 3) := by decide +kernel
theorem dX2_isDigit_12 : decode cX2_isDigit 12 = .ok (.iconst 1, 1) := by decide +kernel
theorem dX2_isDigit_13 : decode cX2_isDigit 13 = .ok (.goto 4, 3) := by decide +kernel
theorem dX2_isDigit_16 : decode cX2_isDigit 16 = .ok (.iconst 0, 1) := by decide +kernel
theorem dX2_isDigit_17 : decode cX2_isDigit 17 = .ok (.ireturn, 1) := by decide +kernel
theorem dX3_init_0 : decode cX3_init 0 = .ok (.aload_n 0, 1) := by decide +kernel
theorem dX3_init_1 : decode cX3_init 1 = .ok (.invokespecial 3, 3) := by decide +kernel
theorem dX3_init_4 : decode cX3_init 4 = .ok (.aload_n 0, 1) := by decide +kernel
theorem dX3_init_5 : decode cX3_init 5 = .ok (.iconst 0, 1) := by decide +kernel
theorem dX3_init_6 : decode cX3_init 6 = .ok (.putfield 9, 3) := by decide +kernel
theorem dX3_init_9 : decode cX3_init 9 = .ok (.aload_n 0, 1) := by decide +kernel
theorem dX3_init_10 : decode cX3_init 10 = .ok (.iconst 4, 1) := by decide +kernel
theorem dX3_init_11 : decode cX3_init 11 = .ok (.putfield 15, 3) := by decide +kernel
theorem dX3_init_14 : decode cX3_init 14 = .ok (.aload_n 0, 1) := by decide +kernel
theorem dX3_init_15 : decode cX3_init 15 = .ok (.bipush 6, 2) := by decide +kernel
theorem dX3_init_17 : decode cX3_init 17 = .ok (.putfield 18, 3) := by decide +kernel
theorem dX3_init_20 : decode cX3_init 20 = .ok (.aload_n 0, 1) := by decide +kernel
theorem dX3_init_21 : decode cX3_init 21 = .ok (.bipush 8, 2) := by decide +kernel
theorem dX3_init_23 : decode cX3_init 23 = .ok (.newarray .int, 2) := by decide +kernel
theorem dX3_init_25 : decode cX3_init 25 = .ok (.putfield 21, 3) := by decide +kernel
theorem dX3_init_28 : decode cX3_init 28 = .ok (.aload_n 0, 1) := by decide +kernel
theorem dX3_init_29 : decode cX3_init 29 = .ok (.bipush 8, 2) := by decide +kernel
theorem dX3_init_31 : decode cX3_init 31 = .ok (.newarray .int, 2) := by decide +kernel
theorem dX3_init_33 : decode cX3_init 33 = .ok (.putfield 25, 3) := by decide +kernel
theorem dX3_init_36 : decode cX3_init 36 = .ok (.aload_n 0, 1) := by decide +kernel
theorem dX3_init_37 : decode cX3_init 37 = .ok (.bipush 8, 2) := by decide +kernel
theorem dX3_init_39 : decode cX3_init 39 = .ok (.newarray .int, 2) := by decide +kernel
theorem dX3_init_41 : decode cX3_init 41 = .ok (.putfield 28, 3) := by decide +kernel
theorem dX3_init_44 : decode cX3_init 44 = .ok (.aload_n 0, 1) := by decide +kernel
theorem dX3_init_45 : decode cX3_init 45 = .ok (.bipush 8, 2) := by decide +kernel
theorem dX3_init_47 : decode cX3_init 47 = .ok (.newarray .int, 2) := by decide +kernel
theorem dX3_init_49 : decode cX3_init 49 = .ok (.putfield 31, 3) := by decide +kernel
theorem dX3_init_52 : decode cX3_init 52 = .ok (.aload_n 0, 1) := by decide +kernel
theorem dX3_init_53 : decode cX3_init 53 = .ok (.bipush 8, 2) := by decide +kernel
theorem dX3_init_55 : decode cX3_init 55 = .ok (.newarray .int, 2) := by decide +kernel
theorem dX3_init_57 : decode cX3_init 57 = .ok (.putfield 34, 3) := by decide +kernel
theorem dX3_init_60 : decode cX3_init 60 = .ok (.aload_n 0, 1) := by decide +kernel
theorem dX3_init_61 : decode cX3_init 61 = .ok (.bipush 6, 2) := by decide +kernel
theorem dX3_init_63 : decode cX3_init 63 = .ok (.newarray .int, 2) := by decide +kernel
theorem dX3_init_65 : decode cX3_init 65 = .ok (.putfield 37, 3) := by decide +kernel
theorem dX3_init_68 : decode cX3_init 68 = .ok (.aload_n 0, 1) := by decide +kernel
theorem dX3_init_69 : decode cX3_init 69 = .ok (.iconst 4, 1) := by decide +kernel
theorem dX3_init_70 : decode cX3_init 70 = .ok (.newarray .int, 2) := by decide +kernel
theorem dX3_init_72 : decode cX3_init 72 = .ok (.putfield 40, 3) := by decide +kernel
theorem dX3_init_75 : decode cX3_init 75 = .ok (.aload_n 0, 1) := by decide +kernel
theorem dX3_init_76 : decode cX3_init 76 = .ok (.bipush 64, 2) := by decide +kernel
theorem dX3_init_78 : decode cX3_init 78 = .ok (.newarray .int, 2) := by decide +kernel
theorem dX3_init_80 : decode cX3_init 80 = .ok (.putfield 43, 3) := by decide +kernel
theorem dX3_init_83 : decode cX3_init 83 = .ok (.aload_n 0, 1) := by decide +kernel
theorem dX3_init_84 : decode cX3_init 84 = .ok (.getfield 37, 3) := by decide +kernel
theorem dX3_init_87 : decode cX3_init 87 = .ok (.iconst (-1), 1) := by decide +kernel
theorem dX3_init_88 : decode cX3_init 88 = .ok (.invokestatic 46, 3) := by decide +kernel
theorem dX3_init_91 : decode cX3_init 91 = .ok (.return_, 1) := by decide +kernel
theorem dX3_begin_0 : decode cX3_begin 0 = .ok (.aload_n 0, 1) := by decide +kernel
theorem dX3_begin_1 : decode cX3_begin 1 = .ok (.iconst 0, 1) := by decide +kernel
theorem dX3_begin_2 : decode cX3_begin 2 = .ok (.putfield 9, 3) := by decide +kernel
theorem dX3_begin_5 : decode cX3_begin 5 = .ok (.aload_n 0, 1) := by decide +kernel
theorem dX3_begin_6 : decode cX3_begin 6 = .ok (.aload_n 1, 1) := by decide +kernel
theorem dX3_begin_7 : decode cX3_begin 7 = .ok (.getfield 52, 3) := by decide +kernel
theorem dX3_begin_10 : decode cX3_begin 10 = .ok (.putfield 15, 3) := by decide +kernel
theorem dX3_begin_13 : decode cX3_begin 13 = .ok (.aload_n 0, 1) := by decide +kernel
theorem dX3_begin_14 : decode cX3_begin 14 = .ok (.aload_n 1, 1) := by decide +kernel
theorem dX3_begin_15 : decode cX3_begin 15 = .ok (.getfield 55, 3) := by decide +kernel
theorem dX3_begin_18 : decode cX3_begin 18 = .ok (.putfield 18, 3) := by decide +kernel
theorem dX3_begin_21 : decode cX3_begin 21 = .ok (.aload_n 0, 1) := by decide +kernel
theorem dX3_begin_22 : decode cX3_begin 22 = .ok (.getfield 21, 3) := by decide +kernel
theorem dX3_begin_25 : decode cX3_begin 25 = .ok (.iconst 0, 1) := by decide +kernel
theorem dX3_begin_26 : decode cX3_begin 26 = .ok (.invokestatic 46, 3) := by decide +kernel
theorem dX3_begin_29 : decode cX3_begin 29 = .ok (.aload_n 0, 1) := by decide +kernel
theorem dX3_begin_30 : decode cX3_begin 30 = .ok (.getfield 25, 3) := by decide +kernel
theorem dX3_begin_33 : decode cX3_begin 33 = .ok (.iconst 0, 1) := by decide +kernel
theorem dX3_begin_34 : decode cX3_begin 34 = .ok (.invokestatic 46, 3) := by decide +kernel
theorem dX3_begin_37 : decode cX3_begin 37 = .ok (.aload_n 0, 1) := by decide +kernel
theorem dX3_begin_38 : decode cX3_begin 38 = .ok (.getfield 28, 3) := by decide +kernel
theorem dX3_begin_41 : decode cX3_begin 41 = .ok (.iconst 0, 1) := by decide +kernel
theorem dX3_begin_42 : decode cX3_begin 42 = .ok (.invokestatic 46, 3) := by decide +kernel
theorem dX3_begin_45 : decode cX3_begin 45 = .ok (.aload_n 0, 1) := by decide +kernel
theorem dX3_begin_46 : decode cX3_begin 46 = .ok (.getfield 31, 3) := by decide +kernel
theorem dX3_begin_49 : decode cX3_begin 49 = .ok (.iconst 0, 1) := by decide +kernel
theorem dX3_begin_50 : decode cX3_begin 50 = .ok (.invokestatic 46, 3) := by decide +kernel
theorem dX3_begin_53 : decode cX3_begin 53 = .ok (.aload_n 0, 1) := by decide +kernel
theorem dX3_begin_54 : decode cX3_begin 54 = .ok (.getfield 34, 3) := by decide +kernel
theorem dX3_begin_57 : decode cX3_begin 57 = .ok (.iconst 0, 1) := by decide +kernel
theorem dX3_begin_58 : decode cX3_begin 58 = .ok (.invokestatic 46, 3) := by decide +kernel
theorem dX3_begin_61 : decode cX3_begin 61 = .ok (.aload_n 0, 1) := by decide +kernel
theorem dX3_begin_62 : decode cX3_begin 62 = .ok (.getfield 37, 3) := by decide +kernel
theorem dX3_begin_65 : decode cX3_begin 65 = .ok (.iconst (-1), 1) := by decide +kernel
theorem dX3_begin_66 : decode cX3_begin 66 = .ok (.invokestatic 46, 3) := by decide +kernel
theorem dX3_begin_69 : decode cX3_begin 69 = .ok (.aload_n 0, 1) := by decide +kernel
theorem dX3_begin_70 : decode cX3_begin 70 = .ok (.getfield 40, 3) := by decide +kernel
theorem dX3_begin_73 : decode cX3_begin 73 = .ok (.iconst 0, 1) := by decide +kernel
theorem dX3_begin_74 : decode cX3_begin 74 = .ok (.invokestatic 46, 3) := by decide +kernel
theorem dX3_begin_77 : decode cX3_begin 77 = .ok (.aload_n 0, 1) := by decide +kernel
theorem dX3_begin_78 : decode cX3_begin 78 = .ok (.getfield 43, 3) := by decide +kernel
theorem dX3_begin_81 : decode cX3_begin 81 = .ok (.iconst 0, 1) := by decide +kernel
theorem dX3_begin_82 : decode cX3_begin 82 = .ok (.invokestatic 46, 3) := by decide +kernel
theorem dX3_begin_85 : decode cX3_begin 85 = .ok (.return_, 1) := by decide +kernel
theorem dX3_take_0 : decode cX3_take 0 = .ok (.aload_n 0, 1) := by decide +kernel
theorem dX3_take_1 : decode cX3_take 1 = .ok (.aload_n 1, 1) := by decide +kernel
theorem dX3_take_2 : decode cX3_take 2 = .ok (.getfield 9, 3) := by decide +kernel
theorem dX3_take_5 : decode cX3_take 5 = .ok (.putfield 9, 3) := by decide +kernel
theorem dX3_take_8 : decode cX3_take 8 = .ok (.aload_n 0, 1) := by decide +kernel
theorem dX3_take_9 : decode cX3_take 9 = .ok (.aload_n 1, 1) := by decide +kernel
theorem dX3_take_10 : decode cX3_take 10 = .ok (.getfield 15, 3) := by decide +kernel
theorem dX3_take_13 : decode cX3_take 13 = .ok (.putfield 15, 3) := by decide +kernel
theorem dX3_take_16 : decode cX3_take 16 = .ok (.aload_n 0, 1) := by decide +kernel
theorem dX3_take_17 : decode cX3_take 17 = .ok (.aload_n 1, 1) := by decide +kernel
theorem dX3_take_18 : decode cX3_take 18 = .ok (.getfield 18, 3) := by decide +kernel
theorem dX3_take_21 : decode cX3_take 21 = .ok (.putfield 18, 3) := by decide +kernel
theorem dX3_take_24 : decode cX3_take 24 = .ok (.aload_n 1, 1) := by decide +kernel
theorem dX3_take_25 : decode cX3_take 25 = .ok (.getfield 21, 3) := by decide +kernel
theorem dX3_take_28 : decode cX3_take 28 = .ok (.aload_n 0, 1) := by decide +kernel
theorem dX3_take_29 : decode cX3_take 29 = .ok (.getfield 21, 3) := by decide +kernel
theorem dX3_take_32 : decode cX3_take 32 = .ok (.invokestatic 56, 3) := by decide +kernel
theorem dX3_take_35 : decode cX3_take 35 = .ok (.aload_n 1, 1) := by decide +kernel
theorem dX3_take_36 : decode cX3_take 36 = .ok (.getfield 25, 3) := by decide +kernel
theorem dX3_take_39 : decode cX3_take 39 = .ok (.aload_n 0, 1) := by decide +kernel
theorem dX3_take_40 : decode cX3_take 40 = .ok (.getfield 25, 3) := by decide +kernel
theorem dX3_take_43 : decode cX3_take 43 = .ok (.invokestatic 56, 3) := by decide +kernel
theorem dX3_take_46 : decode cX3_take 46 = .ok (.aload_n 1, 1) := by decide +kernel
theorem dX3_take_47 : decode cX3_take 47 = .ok (.getfield 28, 3) := by decide +kernel
theorem dX3_take_50 : decode cX3_take 50 = .ok (.aload_n 0, 1) := by decide +kernel
theorem dX3_take_51 : decode cX3_take 51 = .ok (.getfield 28, 3) := by decide +kernel
theorem dX3_take_54 : decode cX3_take 54 = .ok (.invokestatic 56, 3) := by decide +kernel
theorem dX3_take_57 : decode cX3_take 57 = .ok (.aload_n 1, 1) := by decide +kernel
theorem dX3_take_58 : decode cX3_take 58 = .ok (.getfield 31, 3) := by decide +kernel
theorem dX3_take_61 : decode cX3_take 61 = .ok (.aload_n 0, 1) := by decide +kernel
theorem dX3_take_62 : decode cX3_take 62 = .ok (.getfield 31, 3) := by decide +kernel
theorem dX3_take_65 : decode cX3_take 65 = .ok (.invokestatic 56, 3) := by decide +kernel
theorem dX3_take_68 : decode cX3_take 68 = .ok (.aload_n 1, 1) := by decide +kernel
theorem dX3_take_69 : decode cX3_take 69 = .ok (.getfield 34, 3) := by decide +kernel
theorem dX3_take_72 : decode cX3_take 72 = .ok (.aload_n 0, 1) := by decide +kernel
theorem dX3_take_73 : decode cX3_take 73 = .ok (.getfield 34, 3) := by decide +kernel
theorem dX3_take_76 : decode cX3_take 76 = .ok (.invokestatic 56, 3) := by decide +kernel
theorem dX3_take_79 : decode cX3_take 79 = .ok (.aload_n 1, 1) := by decide +kernel
theorem dX3_take_80 : decode cX3_take 80 = .ok (.getfield 37, 3) := by decide +kernel
theorem dX3_take_83 : decode cX3_take 83 = .ok (.aload_n 0, 1) := by decide +kernel
theorem dX3_take_84 : decode cX3_take 84 = .ok (.getfield 37, 3) := by decide +kernel
theorem dX3_take_87 : decode cX3_take 87 = .ok (.invokestatic 56, 3) := by decide +kernel
theorem dX3_take_90 : decode cX3_take 90 = .ok (.aload_n 1, 1) := by decide +kernel
theorem dX3_take_91 : decode cX3_take 91 = .ok (.getfield 40, 3) := by decide +kernel
theorem dX3_take_94 : decode cX3_take 94 = .ok (.aload_n 0, 1) := by decide +kernel
theorem dX3_take_95 : decode cX3_take 95 = .ok (.getfield 40, 3) := by decide +kernel
theorem dX3_take_98 : decode cX3_take 98 = .ok (.invokestatic 56, 3) := by decide +kernel
theorem dX3_take_101 : decode cX3_take 101 = .ok (.aload_n 1, 1) := by decide +kernel
theorem dX3_take_102 : decode cX3_take 102 = .ok (.getfield 43, 3) := by decide +kernel
theorem dX3_take_105 : decode cX3_take 105 = .ok (.aload_n 0, 1) := by decide +kernel
theorem dX3_take_106 : decode cX3_take 106 = .ok (.getfield 43, 3) := by decide +kernel
theorem dX3_take_109 : decode cX3_take 109 = .ok (.invokestatic 56, 3) := by decide +kernel
theorem dX3_take_112 : decode cX3_take 112 = .ok (.return_, 1) := by decide +kernel
theorem dX3_allEnded_0 : decode cX3_allEnded 0 = .ok (.iconst 0, 1) := by decide +kernel
theorem dX3_allEnded_1 : decode cX3_allEnded 1 = .ok (.istore_n 2, 1) := by decide +kernel
theorem dX3_allEnded_2 : decode cX3_allEnded 2 = .ok (.iload_n 2, 1) := by decide +kernel
theorem dX3_allEnded_3 : decode cX3_allEnded 3 = .ok (.aload_n 1, 1) := by decide +kernel
theorem dX3_allEnded_4 : decode cX3_allEnded 4 = .ok (.getfield 60, 3) := by decide +kernel
theorem dX3_allEnded_7 : decode cX3_allEnded 7 = .ok (.if_icmp .ge 21, 3) := by decide +kernel
theorem dX3_allEnded_10 : decode cX3_allEnded 10 = .ok (.aload_n 0, 1) := by decide +kernel
theorem dX3_allEnded_11 : decode cX3_allEnded 11 = .ok (.getfield 21, 3) := by decide +kernel
theorem dX3_allEnded_14 : decode cX3_allEnded 14 = .ok (.iload_n 2, 1) := by decide +kernel
theorem dX3_allEnded_15 : decode cX3_allEnded 15 = .ok (.iaload, 1) := by decide +kernel
theorem dX3_allEnded_16 : decode cX3_allEnded 16 = .ok (.iconst (-1), 1) := by decide +kernel
theorem dX3_allEnded_17 : decode cX3_allEnded 17 = .ok (.if_icmp .eq 5, 3) := by decide +kernel
theorem dX3_allEnded_20 : decode cX3_allEnded 20 = .ok (.iconst 0, 1) := by decide +kernel
theorem dX3_allEnded_21 : decode cX3_allEnded 21 = .ok (.ireturn, 1) := by decide +kernel
theorem dX3_allEnded_22 : decode cX3_allEnded 22 = .ok (.iinc 2 1, 3) := by decide +kernel
theorem dX3_allEnded_25 : decode cX3_allEnded 25 = .ok (.goto (-23), 3) := by decide +kernel
theorem dX3_allEnded_28 : decode cX3_allEnded 28 = .ok (.iconst 1, 1) := by decide +kernel
theorem dX3_allEnded_29 : decode cX3_allEnded 29 = .ok (.ireturn, 1) := by decide +kernel
theorem dX3_quiet_0 : decode cX3_quiet 0 = .ok (.aload_n 0, 1) := by decide +kernel
theorem dX3_quiet_1 : decode cX3_quiet 1 = .ok (.getfield 9, 3) := by decide +kernel
theorem dX3_quiet_4 : decode cX3_quiet 4 = .ok (.aload_n 0, 1) := by decide +kernel
theorem dX3_quiet_5 : decode cX3_quiet 5 = .ok (.getfield 28, 3) := by decide +kernel
theorem dX3_quiet_8 : decode cX3_quiet 8 = .ok (.iload_n 1, 1) := by decide +kernel
theorem dX3_quiet_9 : decode cX3_quiet 9 = .ok (.iaload, 1) := by decide +kernel
theorem dX3_quiet_10 : decode cX3_quiet 10 = .ok (.isub, 1) := by decide +kernel
theorem dX3_quiet_11 : decode cX3_quiet 11 = .ok (.ireturn, 1) := by decide +kernel
theorem dX3_anyQuiet_0 : decode cX3_anyQuiet 0 = .ok (.iconst 0, 1) := by decide +kernel
theorem dX3_anyQuiet_1 : decode cX3_anyQuiet 1 = .ok (.istore_n 2, 1) := by decide +kernel
theorem dX3_anyQuiet_2 : decode cX3_anyQuiet 2 = .ok (.iload_n 2, 1) := by decide +kernel
theorem dX3_anyQuiet_3 : decode cX3_anyQuiet 3 = .ok (.aload_n 1, 1) := by decide +kernel
theorem dX3_anyQuiet_4 : decode cX3_anyQuiet 4 = .ok (.getfield 60, 3) := by decide +kernel
theorem dX3_anyQuiet_7 : decode cX3_anyQuiet 7 = .ok (.if_icmp .ge 33, 3) := by decide +kernel
theorem dX3_anyQuiet_10 : decode cX3_anyQuiet 10 = .ok (.aload_n 0, 1) := by decide +kernel
theorem dX3_anyQuiet_11 : decode cX3_anyQuiet 11 = .ok (.getfield 21, 3) := by decide +kernel
theorem dX3_anyQuiet_14 : decode cX3_anyQuiet 14 = .ok (.iload_n 2, 1) := by decide +kernel
theorem dX3_anyQuiet_15 : decode cX3_anyQuiet 15 = .ok (.iaload, 1) := by decide +kernel
theorem dX3_anyQuiet_16 : decode cX3_anyQuiet 16 = .ok (.iconst (-1), 1) := by decide +kernel
theorem dX3_anyQuiet_17 : decode cX3_anyQuiet 17 = .ok (.if_icmp .eq 17, 3) := by decide +kernel
theorem dX3_anyQuiet_20 : decode cX3_anyQuiet 20 = .ok (.aload_n 0, 1) := by decide +kernel
theorem dX3_anyQuiet_21 : decode cX3_anyQuiet 21 = .ok (.iload_n 2, 1) := by decide +kernel
theorem dX3_anyQuiet_22 : decode cX3_anyQuiet 22 = .ok (.invokevirtual 63, 3) := by decide +kernel
theorem dX3_anyQuiet_25 : decode cX3_anyQuiet 25 = .ok (.aload_n 0, 1) := by decide +kernel
theorem dX3_anyQuiet_26 : decode cX3_anyQuiet 26 = .ok (.getfield 15, 3) := by decide +kernel
theorem dX3_anyQuiet_29 : decode cX3_anyQuiet 29 = .ok (.if_icmp .lt 5, 3) := by decide +kernel
theorem dX3_anyQuiet_32 : decode cX3_anyQuiet 32 = .ok (.iconst 1, 1) := by decide +kernel
theorem dX3_anyQuiet_33 : decode cX3_anyQuiet 33 = .ok (.ireturn, 1) := by decide +kernel
theorem dX3_anyQuiet_34 : decode cX3_anyQuiet 34 = .ok (.iinc 2 1, 3) := by decide +kernel
theorem dX3_anyQuiet_37 : decode cX3_anyQuiet 37 = .ok (.goto (-35), 3) := by decide +kernel
theorem dX3_anyQuiet_40 : decode cX3_anyQuiet 40 = .ok (.iconst 0, 1) := by decide +kernel
theorem dX3_anyQuiet_41 : decode cX3_anyQuiet 41 = .ok (.ireturn, 1) := by decide +kernel
theorem dX3_locksOf_0 : decode cX3_locksOf 0 = .ok (.iconst 0, 1) := by decide +kernel
theorem dX3_locksOf_1 : decode cX3_locksOf 1 = .ok (.istore_n 2, 1) := by decide +kernel
theorem dX3_locksOf_2 : decode cX3_locksOf 2 = .ok (.iconst 0, 1) := by decide +kernel
theorem dX3_locksOf_3 : decode cX3_locksOf 3 = .ok (.istore_n 3, 1) := by decide +kernel
theorem dX3_locksOf_4 : decode cX3_locksOf 4 = .ok (.iload_n 3, 1) := by decide +kernel
theorem dX3_locksOf_5 : decode cX3_locksOf 5 = .ok (.bipush 6, 2) := by decide +kernel
theorem dX3_locksOf_7 : decode cX3_locksOf 7 = .ok (.if_icmp .ge 25, 3) := by decide +kernel
theorem dX3_locksOf_10 : decode cX3_locksOf 10 = .ok (.aload_n 0, 1) := by decide +kernel
theorem dX3_locksOf_11 : decode cX3_locksOf 11 = .ok (.getfield 37, 3) := by decide +kernel
theorem dX3_locksOf_14 : decode cX3_locksOf 14 = .ok (.iload_n 3, 1) := by decide +kernel
theorem dX3_locksOf_15 : decode cX3_locksOf 15 = .ok (.iaload, 1) := by decide +kernel
theorem dX3_locksOf_16 : decode cX3_locksOf 16 = .ok (.iload_n 1, 1) := by decide +kernel
theorem dX3_locksOf_17 : decode cX3_locksOf 17 = .ok (.if_icmp .ne 9, 3) := by decide +kernel
theorem dX3_locksOf_20 : decode cX3_locksOf 20 = .ok (.iload_n 2, 1) := by decide +kernel
theorem dX3_locksOf_21 : decode cX3_locksOf 21 = .ok (.iconst 1, 1) := by decide +kernel
theorem dX3_locksOf_22 : decode cX3_locksOf 22 = .ok (.iload_n 3, 1) := by decide +kernel
theorem dX3_locksOf_23 : decode cX3_locksOf 23 = .ok (.ishl, 1) := by decide +kernel
theorem dX3_locksOf_24 : decode cX3_locksOf 24 = .ok (.ior, 1) := by decide +kernel
theorem dX3_locksOf_25 : decode cX3_locksOf 25 = .ok (.istore_n 2, 1) := by decide +kernel
theorem dX3_locksOf_26 : decode cX3_locksOf 26 = .ok (.iinc 3 1, 3) := by decide +kernel
theorem dX3_locksOf_29 : decode cX3_locksOf 29 = .ok (.goto (-25), 3) := by decide +kernel
theorem dX3_locksOf_32 : decode cX3_locksOf 32 = .ok (.iload_n 2, 1) := by decide +kernel
theorem dX3_locksOf_33 : decode cX3_locksOf 33 = .ok (.ireturn, 1) := by decide +kernel
theorem dX3_canDo_0 : decode cX3_canDo 0 = .ok (.aload_n 1, 1) := by decide +kernel
theorem dX3_canDo_1 : decode cX3_canDo 1 = .ok (.iload_n 2, 1) := by decide +kernel
theorem dX3_canDo_2 : decode cX3_canDo 2 = .ok (.aload_n 0, 1) := by decide +kernel
theorem dX3_canDo_3 : decode cX3_canDo 3 = .ok (.getfield 21, 3) := by decide +kernel
theorem dX3_canDo_6 : decode cX3_canDo 6 = .ok (.iload_n 2, 1) := by decide +kernel
theorem dX3_canDo_7 : decode cX3_canDo 7 = .ok (.iaload, 1) := by decide +kernel
theorem dX3_canDo_8 : decode cX3_canDo 8 = .ok (.invokevirtual 67, 3) := by decide +kernel
theorem dX3_canDo_11 : decode cX3_canDo 11 = .ok (.istore_n 3, 1) := by decide +kernel
theorem dX3_canDo_12 : decode cX3_canDo 12 = .ok (.aload_n 1, 1) := by decide +kernel
theorem dX3_canDo_13 : decode cX3_canDo 13 = .ok (.iload_n 2, 1) := by decide +kernel
theorem dX3_canDo_14 : decode cX3_canDo 14 = .ok (.aload_n 0, 1) := by decide +kernel
theorem dX3_canDo_15 : decode cX3_canDo 15 = .ok (.getfield 21, 3) := by decide +kernel
theorem dX3_canDo_18 : decode cX3_canDo 18 = .ok (.iload_n 2, 1) := by decide +kernel
theorem dX3_canDo_19 : decode cX3_canDo 19 = .ok (.iaload, 1) := by decide +kernel
theorem dX3_canDo_20 : decode cX3_canDo 20 = .ok (.invokevirtual 71, 3) := by decide +kernel
theorem dX3_canDo_23 : decode cX3_canDo 23 = .ok (.tableswitch 119 1 6 #[37, 119, 55, 80, 119, 97], 37) := by decide +kernel
theorem dX3_canDo_60 : decode cX3_canDo 60 = .ok (.aload_n 0, 1) := by decide +kernel
theorem dX3_canDo_61 : decode cX3_canDo 61 = .ok (.getfield 37, 3) := by decide +kernel
theorem dX3_canDo_64 : decode cX3_canDo 64 = .ok (.iload_n 3, 1) := by decide +kernel
theorem dX3_canDo_65 : decode cX3_canDo 65 = .ok (.invokestatic 74, 3) := by decide +kernel
theorem dX3_canDo_68 : decode cX3_canDo 68 = .ok (.iconst (-1), 1) := by decide +kernel
theorem dX3_canDo_69 : decode cX3_canDo 69 = .ok (.if_icmp .ne 7, 3) := by decide +kernel
theorem dX3_canDo_72 : decode cX3_canDo 72 = .ok (.iconst 1, 1) := by decide +kernel
theorem dX3_canDo_73 : decode cX3_canDo 73 = .ok (.goto 4, 3) := by decide +kernel
theorem dX3_canDo_76 : decode cX3_canDo 76 = .ok (.iconst 0, 1) := by decide +kernel
theorem dX3_canDo_77 : decode cX3_canDo 77 = .ok (.ireturn, 1) := by decide +kernel
theorem dX3_canDo_78 : decode cX3_canDo 78 = .ok (.aload_n 0, 1) := by decide +kernel
theorem dX3_canDo_79 : decode cX3_canDo 79 = .ok (.getfield 40, 3) := by decide +kernel
