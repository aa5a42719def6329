theorem dX9_init_0 : decode cX9_init 0 = .ok (.aload_n 0, 1) := by decide +kernel
theorem dX9_init_1 : decode cX9_init 1 = .ok (.invokespecial 1, 3) := by decide +kernel
theorem dX9_init_4 : decode cX9_init 4 = .ok (.aload_n 0, 1) := by decide +kernel
theorem dX9_init_5 : decode cX9_init 5 = .ok (.new 7, 3) := by decide +kernel
theorem dX9_init_8 : decode cX9_init 8 = .ok (.dup, 1) := by decide +kernel
theorem dX9_init_9 : decode cX9_init 9 = .ok (.invokespecial 9, 3) := by decide +kernel
theorem dX9_init_12 : decode cX9_init 12 = .ok (.putfield 10, 3) := by decide +kernel
theorem dX9_init_15 : decode cX9_init 15 = .ok (.aload_n 0, 1) := by decide +kernel
theorem dX9_init_16 : decode cX9_init 16 = .ok (.iconst 3, 1) := by decide +kernel
theorem dX9_init_17 : decode cX9_init 17 = .ok (.anewarray 7, 3) := by decide +kernel
theorem dX9_init_20 : decode cX9_init 20 = .ok (.putfield 16, 3) := by decide +kernel
theorem dX9_init_23 : decode cX9_init 23 = .ok (.aload_n 0, 1) := by decide +kernel
theorem dX9_init_24 : decode cX9_init 24 = .ok (.new 20, 3) := by decide +kernel
theorem dX9_init_27 : decode cX9_init 27 = .ok (.dup, 1) := by decide +kernel
theorem dX9_init_28 : decode cX9_init 28 = .ok (.invokespecial 22, 3) := by decide +kernel
theorem dX9_init_31 : decode cX9_init 31 = .ok (.putfield 23, 3) := by decide +kernel
theorem dX9_init_34 : decode cX9_init 34 = .ok (.aload_n 0, 1) := by decide +kernel
theorem dX9_init_35 : decode cX9_init 35 = .ok (.new 27, 3) := by decide +kernel
theorem dX9_init_38 : decode cX9_init 38 = .ok (.dup, 1) := by decide +kernel
theorem dX9_init_39 : decode cX9_init 39 = .ok (.invokespecial 29, 3) := by decide +kernel
theorem dX9_init_42 : decode cX9_init 42 = .ok (.putfield 30, 3) := by decide +kernel
theorem dX9_init_45 : decode cX9_init 45 = .ok (.aload_n 0, 1) := by decide +kernel
theorem dX9_init_46 : decode cX9_init 46 = .ok (.new 34, 3) := by decide +kernel
theorem dX9_init_49 : decode cX9_init 49 = .ok (.dup, 1) := by decide +kernel
theorem dX9_init_50 : decode cX9_init 50 = .ok (.invokespecial 36, 3) := by decide +kernel
theorem dX9_init_53 : decode cX9_init 53 = .ok (.putfield 37, 3) := by decide +kernel
theorem dX9_init_56 : decode cX9_init 56 = .ok (.aload_n 0, 1) := by decide +kernel
theorem dX9_init_57 : decode cX9_init 57 = .ok (.new 41, 3) := by decide +kernel
theorem dX9_init_60 : decode cX9_init 60 = .ok (.dup, 1) := by decide +kernel
theorem dX9_init_61 : decode cX9_init 61 = .ok (.invokespecial 43, 3) := by decide +kernel
theorem dX9_init_64 : decode cX9_init 64 = .ok (.putfield 44, 3) := by decide +kernel
theorem dX9_init_67 : decode cX9_init 67 = .ok (.aload_n 0, 1) := by decide +kernel
theorem dX9_init_68 : decode cX9_init 68 = .ok (.new 48, 3) := by decide +kernel
theorem dX9_init_71 : decode cX9_init 71 = .ok (.dup, 1) := by decide +kernel
theorem dX9_init_72 : decode cX9_init 72 = .ok (.invokespecial 50, 3) := by decide +kernel
theorem dX9_init_75 : decode cX9_init 75 = .ok (.putfield 51, 3) := by decide +kernel
theorem dX9_init_78 : decode cX9_init 78 = .ok (.return_, 1) := by decide +kernel
theorem dX9_feed_0 : decode cX9_feed 0 = .ok (.aload_n 0, 1) := by decide +kernel
theorem dX9_feed_1 : decode cX9_feed 1 = .ok (.getfield 10, 3) := by decide +kernel
theorem dX9_feed_4 : decode cX9_feed 4 = .ok (.getfield 55, 3) := by decide +kernel
theorem dX9_feed_7 : decode cX9_feed 7 = .ok (.astore 6, 2) := by decide +kernel
theorem dX9_feed_9 : decode cX9_feed 9 = .ok (.aload 6, 2) := by decide +kernel
theorem dX9_feed_11 : decode cX9_feed 11 = .ok (.getfield 59, 3) := by decide +kernel
theorem dX9_feed_14 : decode cX9_feed 14 = .ok (.bipush 20, 2) := by decide +kernel
theorem dX9_feed_16 : decode cX9_feed 16 = .ok (.iadd, 1) := by decide +kernel
theorem dX9_feed_17 : decode cX9_feed 17 = .ok (.sipush 800, 3) := by decide +kernel
theorem dX9_feed_20 : decode cX9_feed 20 = .ok (.if_icmp .le 5, 3) := by decide +kernel
theorem dX9_feed_23 : decode cX9_feed 23 = .ok (.iconst (-1), 1) := by decide +kernel
theorem dX9_feed_24 : decode cX9_feed 24 = .ok (.ireturn, 1) := by decide +kernel
theorem dX9_feed_25 : decode cX9_feed 25 = .ok (.aload 6, 2) := by decide +kernel
theorem dX9_feed_27 : decode cX9_feed 27 = .ok (.iload_n 1, 1) := by decide +kernel
theorem dX9_feed_28 : decode cX9_feed 28 = .ok (.invokevirtual 65, 3) := by decide +kernel
theorem dX9_feed_31 : decode cX9_feed 31 = .ok (.aload 6, 2) := by decide +kernel
theorem dX9_feed_33 : decode cX9_feed 33 = .ok (.iload_n 2, 1) := by decide +kernel
theorem dX9_feed_34 : decode cX9_feed 34 = .ok (.invokevirtual 65, 3) := by decide +kernel
theorem dX9_feed_37 : decode cX9_feed 37 = .ok (.aload 6, 2) := by decide +kernel
theorem dX9_feed_39 : decode cX9_feed 39 = .ok (.iload_n 3, 1) := by decide +kernel
theorem dX9_feed_40 : decode cX9_feed 40 = .ok (.invokevirtual 65, 3) := by decide +kernel
theorem dX9_feed_43 : decode cX9_feed 43 = .ok (.aload 6, 2) := by decide +kernel
theorem dX9_feed_45 : decode cX9_feed 45 = .ok (.iload 4, 2) := by decide +kernel
theorem dX9_feed_47 : decode cX9_feed 47 = .ok (.invokevirtual 65, 3) := by decide +kernel
theorem dX9_feed_50 : decode cX9_feed 50 = .ok (.aload 6, 2) := by decide +kernel
theorem dX9_feed_52 : decode cX9_feed 52 = .ok (.iload 5, 2) := by decide +kernel
theorem dX9_feed_54 : decode cX9_feed 54 = .ok (.invokevirtual 65, 3) := by decide +kernel
theorem dX9_feed_57 : decode cX9_feed 57 = .ok (.aload 6, 2) := by decide +kernel
theorem dX9_feed_59 : decode cX9_feed 59 = .ok (.getfield 59, 3) := by decide +kernel
theorem dX9_feed_62 : decode cX9_feed 62 = .ok (.ireturn, 1) := by decide +kernel
theorem dX9_end_0 : decode cX9_end 0 = .ok (.iload_n 1, 1) := by decide +kernel
theorem dX9_end_1 : decode cX9_end 1 = .ok (.ifCond .lt 17, 3) := by decide +kernel
theorem dX9_end_4 : decode cX9_end 4 = .ok (.iload_n 1, 1) := by decide +kernel
theorem dX9_end_5 : decode cX9_end 5 = .ok (.aload_n 0, 1) := by decide +kernel
theorem dX9_end_6 : decode cX9_end 6 = .ok (.getfield 10, 3) := by decide +kernel
theorem dX9_end_9 : decode cX9_end 9 = .ok (.getfield 55, 3) := by decide +kernel
theorem dX9_end_12 : decode cX9_end 12 = .ok (.getfield 59, 3) := by decide +kernel
theorem dX9_end_15 : decode cX9_end 15 = .ok (.if_icmp .le 5, 3) := by decide +kernel
theorem dX9_end_18 : decode cX9_end 18 = .ok (.iconst (-1), 1) := by decide +kernel
theorem dX9_end_19 : decode cX9_end 19 = .ok (.ireturn, 1) := by decide +kernel
theorem dX9_end_20 : decode cX9_end 20 = .ok (.aload_n 0, 1) := by decide +kernel
theorem dX9_end_21 : decode cX9_end 21 = .ok (.getfield 10, 3) := by decide +kernel
theorem dX9_end_24 : decode cX9_end 24 = .ok (.getfield 55, 3) := by decide +kernel
theorem dX9_end_27 : decode cX9_end 27 = .ok (.iload_n 1, 1) := by decide +kernel
theorem dX9_end_28 : decode cX9_end 28 = .ok (.putfield 59, 3) := by decide +kernel
theorem dX9_end_31 : decode cX9_end 31 = .ok (.iload_n 1, 1) := by decide +kernel
theorem dX9_end_32 : decode cX9_end 32 = .ok (.ireturn, 1) := by decide +kernel
theorem dX9_text_0 : decode cX9_text 0 = .ok (.aload_n 0, 1) := by decide +kernel
theorem dX9_text_1 : decode cX9_text 1 = .ok (.getfield 30, 3) := by decide +kernel
theorem dX9_text_4 : decode cX9_text 4 = .ok (.aload_n 0, 1) := by decide +kernel
theorem dX9_text_5 : decode cX9_text 5 = .ok (.getfield 10, 3) := by decide +kernel
theorem dX9_text_8 : decode cX9_text 8 = .ok (.getfield 55, 3) := by decide +kernel
theorem dX9_text_11 : decode cX9_text 11 = .ok (.invokevirtual 69, 3) := by decide +kernel
theorem dX9_text_14 : decode cX9_text 14 = .ok (.aload_n 0, 1) := by decide +kernel
theorem dX9_text_15 : decode cX9_text 15 = .ok (.getfield 10, 3) := by decide +kernel
theorem dX9_text_18 : decode cX9_text 18 = .ok (.getfield 55, 3) := by decide +kernel
theorem dX9_text_21 : decode cX9_text 21 = .ok (.iconst 0, 1) := by decide +kernel
theorem dX9_text_22 : decode cX9_text 22 = .ok (.putfield 59, 3) := by decide +kernel
theorem dX9_text_25 : decode cX9_text 25 = .ok (.aload_n 0, 1) := by decide +kernel
theorem dX9_text_26 : decode cX9_text 26 = .ok (.getfield 10, 3) := by decide +kernel
theorem dX9_text_29 : decode cX9_text 29 = .ok (.aload_n 0, 1) := by decide +kernel
theorem dX9_text_30 : decode cX9_text 30 = .ok (.getfield 30, 3) := by decide +kernel
theorem dX9_text_33 : decode cX9_text 33 = .ok (.getfield 73, 3) := by decide +kernel
theorem dX9_text_36 : decode cX9_text 36 = .ok (.putfield 76, 3) := by decide +kernel
theorem dX9_text_39 : decode cX9_text 39 = .ok (.aload_n 0, 1) := by decide +kernel
theorem dX9_text_40 : decode cX9_text 40 = .ok (.getfield 10, 3) := by decide +kernel
theorem dX9_text_43 : decode cX9_text 43 = .ok (.aload_n 0, 1) := by decide +kernel
theorem dX9_text_44 : decode cX9_text 44 = .ok (.getfield 30, 3) := by decide +kernel
theorem dX9_text_47 : decode cX9_text 47 = .ok (.getfield 77, 3) := by decide +kernel
theorem dX9_text_50 : decode cX9_text 50 = .ok (.putfield 80, 3) := by decide +kernel
theorem dX9_text_53 : decode cX9_text 53 = .ok (.aload_n 0, 1) := by decide +kernel
theorem dX9_text_54 : decode cX9_text 54 = .ok (.getfield 30, 3) := by decide +kernel
theorem dX9_text_57 : decode cX9_text 57 = .ok (.getfield 73, 3) := by decide +kernel
theorem dX9_text_60 : decode cX9_text 60 = .ok (.ifCond .eq 5, 3) := by decide +kernel
theorem dX9_text_63 : decode cX9_text 63 = .ok (.iconst (-1), 1) := by decide +kernel
theorem dX9_text_64 : decode cX9_text 64 = .ok (.ireturn, 1) := by decide +kernel
theorem dX9_text_65 : decode cX9_text 65 = .ok (.aload_n 0, 1) := by decide +kernel
theorem dX9_text_66 : decode cX9_text 66 = .ok (.getfield 10, 3) := by decide +kernel
theorem dX9_text_69 : decode cX9_text 69 = .ok (.getfield 81, 3) := by decide +kernel
theorem dX9_text_72 : decode cX9_text 72 = .ok (.aload_n 0, 1) := by decide +kernel
theorem dX9_text_73 : decode cX9_text 73 = .ok (.getfield 30, 3) := by decide +kernel
theorem dX9_text_76 : decode cX9_text 76 = .ok (.getfield 85, 3) := by decide +kernel
theorem dX9_text_79 : decode cX9_text 79 = .ok (.invokevirtual 88, 3) := by decide +kernel
theorem dX9_text_82 : decode cX9_text 82 = .ok (.aload_n 0, 1) := by decide +kernel
theorem dX9_text_83 : decode cX9_text 83 = .ok (.getfield 10, 3) := by decide +kernel
theorem dX9_text_86 : decode cX9_text 86 = .ok (.getfield 81, 3) := by decide +kernel
theorem dX9_text_89 : decode cX9_text 89 = .ok (.invokevirtual 94, 3) := by decide +kernel
theorem dX9_text_92 : decode cX9_text 92 = .ok (.aload_n 0, 1) := by decide +kernel
theorem dX9_text_93 : decode cX9_text 93 = .ok (.getfield 10, 3) := by decide +kernel
theorem dX9_text_96 : decode cX9_text 96 = .ok (.getfield 97, 3) := by decide +kernel
theorem dX9_text_99 : decode cX9_text 99 = .ok (.aload_n 0, 1) := by decide +kernel
theorem dX9_text_100 : decode cX9_text 100 = .ok (.getfield 10, 3) := by decide +kernel
theorem dX9_text_103 : decode cX9_text 103 = .ok (.getfield 81, 3) := by decide +kernel
theorem dX9_text_106 : decode cX9_text 106 = .ok (.invokevirtual 100, 3) := by decide +kernel
theorem dX9_text_109 : decode cX9_text 109 = .ok (.aload_n 0, 1) := by decide +kernel
theorem dX9_text_110 : decode cX9_text 110 = .ok (.getfield 10, 3) := by decide +kernel
theorem dX9_text_113 : decode cX9_text 113 = .ok (.getfield 103, 3) := by decide +kernel
theorem dX9_text_116 : decode cX9_text 116 = .ok (.invokevirtual 107, 3) := by decide +kernel
theorem dX9_text_119 : decode cX9_text 119 = .ok (.aload_n 0, 1) := by decide +kernel
theorem dX9_text_120 : decode cX9_text 120 = .ok (.getfield 23, 3) := by decide +kernel
theorem dX9_text_123 : decode cX9_text 123 = .ok (.invokevirtual 112, 3) := by decide +kernel
theorem dX9_text_126 : decode cX9_text 126 = .ok (.aload_n 0, 1) := by decide +kernel
theorem dX9_text_127 : decode cX9_text 127 = .ok (.getfield 10, 3) := by decide +kernel
theorem dX9_text_130 : decode cX9_text 130 = .ok (.getfield 81, 3) := by decide +kernel
theorem dX9_text_133 : decode cX9_text 133 = .ok (.getfield 113, 3) := by decide +kernel
theorem dX9_text_136 : decode cX9_text 136 = .ok (.ireturn, 1) := by decide +kernel
theorem dX9_fault_0 : decode cX9_fault 0 = .ok (.iload_n 1, 1) := by decide +kernel
theorem dX9_fault_1 : decode cX9_fault 1 = .ok (.lookupswitch 43 #[(0, 27), (1, 35)], 27) := by decide +kernel
theorem dX9_fault_28 : decode cX9_fault 28 = .ok (.aload_n 0, 1) := by decide +kernel
theorem dX9_fault_29 : decode cX9_fault 29 = .ok (.getfield 10, 3) := by decide +kernel
theorem dX9_fault_32 : decode cX9_fault 32 = .ok (.getfield 76, 3) := by decide +kernel
theorem dX9_fault_35 : decode cX9_fault 35 = .ok (.ireturn, 1) := by decide +kernel
theorem dX9_fault_36 : decode cX9_fault 36 = .ok (.aload_n 0, 1) := by decide +kernel
theorem dX9_fault_37 : decode cX9_fault 37 = .ok (.getfield 10, 3) := by decide +kernel
theorem dX9_fault_40 : decode cX9_fault 40 = .ok (.getfield 80, 3) := by decide +kernel
theorem dX9_fault_43 : decode cX9_fault 43 = .ok (.ireturn, 1) := by decide +kernel
theorem dX9_fault_44 : decode cX9_fault 44 = .ok (.iconst (-1), 1) := by decide +kernel
theorem dX9_fault_45 : decode cX9_fault 45 = .ok (.ireturn, 1) := by decide +kernel
theorem dX9_ticks_0 : decode cX9_ticks 0 = .ok (.iload_n 1, 1) := by decide +kernel
theorem dX9_ticks_1 : decode cX9_ticks 1 = .ok (.iconst 1, 1) := by decide +kernel
theorem dX9_ticks_2 : decode cX9_ticks 2 = .ok (.if_icmp .lt 10, 3) := by decide +kernel
theorem dX9_ticks_5 : decode cX9_ticks 5 = .ok (.iload_n 1, 1) := by decide +kernel
theorem dX9_ticks_6 : decode cX9_ticks 6 = .ok (.sipush 200, 3) := by decide +kernel
theorem dX9_ticks_9 : decode cX9_ticks 9 = .ok (.if_icmp .le 5, 3) := by decide +kernel
theorem dX9_ticks_12 : decode cX9_ticks 12 = .ok (.iconst (-1), 1) := by decide +kernel
theorem dX9_ticks_13 : decode cX9_ticks 13 = .ok (.ireturn, 1) := by decide +kernel
theorem dX9_ticks_14 : decode cX9_ticks 14 = .ok (.aload_n 0, 1) := by decide +kernel
theorem dX9_ticks_15 : decode cX9_ticks 15 = .ok (.getfield 23, 3) := by decide +kernel
theorem dX9_ticks_18 : decode cX9_ticks 18 = .ok (.aload_n 0, 1) := by decide +kernel
theorem dX9_ticks_19 : decode cX9_ticks 19 = .ok (.getfield 10, 3) := by decide +kernel
theorem dX9_ticks_22 : decode cX9_ticks 22 = .ok (.invokevirtual 116, 3) := by decide +kernel
theorem dX9_ticks_25 : decode cX9_ticks 25 = .ok (.iconst 0, 1) := by decide +kernel
theorem dX9_ticks_26 : decode cX9_ticks 26 = .ok (.istore_n 2, 1) := by decide +kernel
theorem dX9_ticks_27 : decode cX9_ticks 27 = .ok (.iconst 0, 1) := by decide +kernel
theorem dX9_ticks_28 : decode cX9_ticks 28 = .ok (.istore_n 3, 1) := by decide +kernel
theorem dX9_ticks_29 : decode cX9_ticks 29 = .ok (.iload_n 3, 1) := by decide +kernel
theorem dX9_ticks_30 : decode cX9_ticks 30 = .ok (.iload_n 1, 1) := by decide +kernel
theorem dX9_ticks_31 : decode cX9_ticks 31 = .ok (.if_icmp .ge 16, 3) := by decide +kernel
theorem dX9_ticks_34 : decode cX9_ticks 34 = .ok (.iload_n 2, 1) := by decide +kernel
theorem dX9_ticks_35 : decode cX9_ticks 35 = .ok (.aload_n 0, 1) := by decide +kernel
theorem dX9_ticks_36 : decode cX9_ticks 36 = .ok (.invokevirtual 120, 3) := by decide +kernel
theorem dX9_ticks_39 : decode cX9_ticks 39 = .ok (.iadd, 1) := by decide +kernel
theorem dX9_ticks_40 : decode cX9_ticks 40 = .ok (.istore_n 2, 1) := by decide +kernel
theorem dX9_ticks_41 : decode cX9_ticks 41 = .ok (.iinc 3 1, 3) := by decide +kernel
theorem dX9_ticks_44 : decode cX9_ticks 44 = .ok (.goto (-15), 3) := by decide +kernel
theorem dX9_ticks_47 : decode cX9_ticks 47 = .ok (.iload_n 2, 1) := by decide +kernel
theorem dX9_ticks_48 : decode cX9_ticks 48 = .ok (.ireturn, 1) := by decide +kernel
theorem dX9_watch_0 : decode cX9_watch 0 = .ok (.aload_n 0, 1) := by decide +kernel
theorem dX9_watch_1 : decode cX9_watch 1 = .ok (.getfield 10, 3) := by decide +kernel
theorem dX9_watch_4 : decode cX9_watch 4 = .ok (.getfield 97, 3) := by decide +kernel
theorem dX9_watch_7 : decode cX9_watch 7 = .ok (.aload_n 0, 1) := by decide +kernel
theorem dX9_watch_8 : decode cX9_watch 8 = .ok (.getfield 10, 3) := by decide +kernel
theorem dX9_watch_11 : decode cX9_watch 11 = .ok (.getfield 81, 3) := by decide +kernel
theorem dX9_watch_14 : decode cX9_watch 14 = .ok (.invokevirtual 124, 3) := by decide +kernel
theorem dX9_watch_17 : decode cX9_watch 17 = .ok (.ifCond .eq 5, 3) := by decide +kernel
theorem dX9_watch_20 : decode cX9_watch 20 = .ok (.iconst (-1), 1) := by decide +kernel
theorem dX9_watch_21 : decode cX9_watch 21 = .ok (.ireturn, 1) := by decide +kernel
theorem dX9_watch_22 : decode cX9_watch 22 = .ok (.aload_n 0, 1) := by decide +kernel
theorem dX9_watch_23 : decode cX9_watch 23 = .ok (.getfield 23, 3) := by decide +kernel
theorem dX9_watch_26 : decode cX9_watch 26 = .ok (.aload_n 0, 1) := by decide +kernel
theorem dX9_watch_27 : decode cX9_watch 27 = .ok (.getfield 10, 3) := by decide +kernel
theorem dX9_watch_30 : decode cX9_watch 30 = .ok (.invokevirtual 116, 3) := by decide +kernel
theorem dX9_watch_33 : decode cX9_watch 33 = .ok (.iconst 1, 1) := by decide +kernel
theorem dX9_watch_34 : decode cX9_watch 34 = .ok (.istore_n 1, 1) := by decide +kernel
theorem dX9_watch_35 : decode cX9_watch 35 = .ok (.iload_n 1, 1) := by decide +kernel
theorem dX9_watch_36 : decode cX9_watch 36 = .ok (.sipush 200, 3) := by decide +kernel
theorem dX9_watch_39 : decode cX9_watch 39 = .ok (.if_icmp .gt 18, 3) := by decide +kernel
theorem dX9_watch_42 : decode cX9_watch 42 = .ok (.aload_n 0, 1) := by decide +kernel
theorem dX9_watch_43 : decode cX9_watch 43 = .ok (.invokevirtual 120, 3) := by decide +kernel
theorem dX9_watch_46 : decode cX9_watch 46 = .ok (.ifCond .le 5, 3) := by decide +kernel
theorem dX9_watch_49 : decode cX9_watch 49 = .ok (.iload_n 1, 1) := by decide +kernel
theorem dX9_watch_50 : decode cX9_watch 50 = .ok (.ireturn, 1) := by decide +kernel
theorem dX9_watch_51 : decode cX9_watch 51 = .ok (.iinc 1 1, 3) := by decide +kernel
theorem dX9_watch_54 : decode cX9_watch 54 = .ok (.goto (-19), 3) := by decide +kernel
theorem dX9_watch_57 : decode cX9_watch 57 = .ok (.sipush 200, 3) := by decide +kernel
theorem dX9_watch_60 : decode cX9_watch 60 = .ok (.ireturn, 1) := by decide +kernel
theorem dX9_free_0 : decode cX9_free 0 = .ok (.aload_n 0, 1) := by decide +kernel
theorem dX9_free_1 : decode cX9_free 1 = .ok (.invokevirtual 128, 3) := by decide +kernel
theorem dX9_free_4 : decode cX9_free 4 = .ok (.aload_n 0, 1) := by decide +kernel
theorem dX9_free_5 : decode cX9_free 5 = .ok (.getfield 37, 3) := by decide +kernel
theorem dX9_free_8 : decode cX9_free 8 = .ok (.getfield 131, 3) := by decide +kernel
theorem dX9_free_11 : decode cX9_free 11 = .ok (.iload_n 1, 1) := by decide +kernel
theorem dX9_free_12 : decode cX9_free 12 = .ok (.invokestatic 134, 3) := by decide +kernel
theorem dX9_free_15 : decode cX9_free 15 = .ok (.ifCond .ne 5, 3) := by decide +kernel
theorem dX9_free_18 : decode cX9_free 18 = .ok (.iconst 0, 1) := by decide +kernel
theorem dX9_free_19 : decode cX9_free 19 = .ok (.ireturn, 1) := by decide +kernel
theorem dX9_free_20 : decode cX9_free 20 = .ok (.aload_n 0, 1) := by decide +kernel
theorem dX9_free_21 : decode cX9_free 21 = .ok (.getfield 23, 3) := by decide +kernel
theorem dX9_free_24 : decode cX9_free 24 = .ok (.aload_n 0, 1) := by decide +kernel
theorem dX9_free_25 : decode cX9_free 25 = .ok (.getfield 10, 3) := by decide +kernel
theorem dX9_free_28 : decode cX9_free 28 = .ok (.invokevirtual 116, 3) := by decide +kernel
theorem dX9_free_31 : decode cX9_free 31 = .ok (.aload_n 0, 1) := by decide +kernel
theorem dX9_free_32 : decode cX9_free 32 = .ok (.getfield 10, 3) := by decide +kernel
theorem dX9_free_35 : decode cX9_free 35 = .ok (.getfield 97, 3) := by decide +kernel
theorem dX9_free_38 : decode cX9_free 38 = .ok (.aload_n 0, 1) := by decide +kernel
theorem dX9_free_39 : decode cX9_free 39 = .ok (.getfield 10, 3) := by decide +kernel
theorem dX9_free_42 : decode cX9_free 42 = .ok (.getfield 81, 3) := by decide +kernel
theorem dX9_free_45 : decode cX9_free 45 = .ok (.iload_n 1, 1) := by decide +kernel
theorem dX9_free_46 : decode cX9_free 46 = .ok (.invokevirtual 138, 3) := by decide +kernel
theorem dX9_free_49 : decode cX9_free 49 = .ok (.iconst 1, 1) := by decide +kernel
theorem dX9_free_50 : decode cX9_free 50 = .ok (.ireturn, 1) := by decide +kernel
theorem dX9_within_0 : decode cX9_within 0 = .ok (.iload_n 1, 1) := by decide +kernel
theorem dX9_within_1 : decode cX9_within 1 = .ok (.ifCond .eq 7, 3) := by decide +kernel
theorem dX9_within_4 : decode cX9_within 4 = .ok (.iconst 0, 1) := by decide +kernel
theorem dX9_within_5 : decode cX9_within 5 = .ok (.goto 4, 3) := by decide +kernel
theorem dX9_within_8 : decode cX9_within 8 = .ok (.iconst 1, 1) := by decide +kernel
theorem dX9_within_9 : decode cX9_within 9 = .ok (.istore_n 3, 1) := by decide +kernel
theorem dX9_within_10 : decode cX9_within 10 = .ok (.iload_n 1, 1) := by decide +kernel
theorem dX9_within_11 : decode cX9_within 11 = .ok (.ifCond .eq 8, 3) := by decide +kernel
theorem dX9_within_14 : decode cX9_within 14 = .ok (.bipush 50, 2) := by decide +kernel
theorem dX9_within_16 : decode cX9_within 16 = .ok (.goto 5, 3) := by decide +kernel
theorem dX9_within_19 : decode cX9_within 19 = .ok (.bipush 50, 2) := by decide +kernel
theorem dX9_within_21 : decode cX9_within 21 = .ok (.istore 4, 2) := by decide +kernel
theorem dX9_within_23 : decode cX9_within 23 = .ok (.iload_n 1, 1) := by decide +kernel
theorem dX9_within_24 : decode cX9_within 24 = .ok (.ifCond .eq 16, 3) := by decide +kernel
theorem dX9_within_27 : decode cX9_within 27 = .ok (.aload_n 0, 1) := by decide +kernel
theorem dX9_within_28 : decode cX9_within 28 = .ok (.getfield 10, 3) := by decide +kernel
theorem dX9_within_31 : decode cX9_within 31 = .ok (.getfield 97, 3) := by decide +kernel
theorem dX9_within_34 : decode cX9_within 34 = .ok (.getfield 142, 3) := by decide +kernel
theorem dX9_within_37 : decode cX9_within 37 = .ok (.goto 13, 3) := by decide +kernel
theorem dX9_within_40 : decode cX9_within 40 = .ok (.aload_n 0, 1) := by decide +kernel
theorem dX9_within_41 : decode cX9_within 41 = .ok (.getfield 10, 3) := by decide +kernel
theorem dX9_within_44 : decode cX9_within 44 = .ok (.getfield 97, 3) := by decide +kernel
theorem dX9_within_47 : decode cX9_within 47 = .ok (.getfield 145, 3) := by decide +kernel
theorem dX9_within_50 : decode cX9_within 50 = .ok (.istore 5, 2) := by decide +kernel
theorem dX9_within_52 : decode cX9_within 52 = .ok (.iload_n 2, 1) := by decide +kernel
theorem dX9_within_53 : decode cX9_within 53 = .ok (.iload_n 3, 1) := by decide +kernel
theorem dX9_within_54 : decode cX9_within 54 = .ok (.if_icmp .lt 15, 3) := by decide +kernel
theorem dX9_within_57 : decode cX9_within 57 = .ok (.iload_n 2, 1) := by decide +kernel
theorem dX9_within_58 : decode cX9_within 58 = .ok (.iload 4, 2) := by decide +kernel
theorem dX9_within_60 : decode cX9_within 60 = .ok (.if_icmp .gt 9, 3) := by decide +kernel
theorem dX9_within_63 : decode cX9_within 63 = .ok (.iload_n 2, 1) := by decide +kernel
theorem dX9_within_64 : decode cX9_within 64 = .ok (.iload 5, 2) := by decide +kernel
theorem dX9_within_66 : decode cX9_within 66 = .ok (.if_icmp .ne 5, 3) := by decide +kernel
theorem dX9_within_69 : decode cX9_within 69 = .ok (.iconst 0, 1) := by decide +kernel
theorem dX9_within_70 : decode cX9_within 70 = .ok (.ireturn, 1) := by decide +kernel
theorem dX9_within_71 : decode cX9_within 71 = .ok (.aload_n 0, 1) := by decide +kernel
theorem dX9_within_72 : decode cX9_within 72 = .ok (.getfield 23, 3) := by decide +kernel
theorem dX9_within_75 : decode cX9_within 75 = .ok (.aload_n 0, 1) := by decide +kernel
theorem dX9_within_76 : decode cX9_within 76 = .ok (.getfield 10, 3) := by decide +kernel
theorem dX9_within_79 : decode cX9_within 79 = .ok (.invokevirtual 116, 3) := by decide +kernel
theorem dX9_within_82 : decode cX9_within 82 = .ok (.iload_n 1, 1) := by decide +kernel
theorem dX9_within_83 : decode cX9_within 83 = .ok (.ifCond .eq 17, 3) := by decide +kernel
theorem dX9_within_86 : decode cX9_within 86 = .ok (.aload_n 0, 1) := by decide +kernel
theorem dX9_within_87 : decode cX9_within 87 = .ok (.getfield 10, 3) := by decide +kernel
theorem dX9_within_90 : decode cX9_within 90 = .ok (.getfield 97, 3) := by decide +kernel
theorem dX9_within_93 : decode cX9_within 93 = .ok (.iload_n 2, 1) := by decide +kernel
theorem dX9_within_94 : decode cX9_within 94 = .ok (.putfield 142, 3) := by decide +kernel
theorem dX9_within_97 : decode cX9_within 97 = .ok (.goto 14, 3) := by decide +kernel
theorem dX9_within_100 : decode cX9_within 100 = .ok (.aload_n 0, 1) := by decide +kernel
theorem dX9_within_101 : decode cX9_within 101 = .ok (.getfield 10, 3) := by decide +kernel
theorem dX9_within_104 : decode cX9_within 104 = .ok (.getfield 97, 3) := by decide +kernel
theorem dX9_within_107 : decode cX9_within 107 = .ok (.iload_n 2, 1) := by decide +kernel
theorem dX9_within_108 : decode cX9_within 108 = .ok (.putfield 145, 3) := by decide +kernel
theorem dX9_within_111 : decode cX9_within 111 = .ok (.iconst 1, 1) := by decide +kernel
theorem dX9_within_112 : decode cX9_within 112 = .ok (.ireturn, 1) := by decide +kernel
theorem dX9_undo_0 : decode cX9_undo 0 = .ok (.aload_n 0, 1) := by decide +kernel
theorem dX9_undo_1 : decode cX9_undo 1 = .ok (.getfield 23, 3) := by decide +kernel
theorem dX9_undo_4 : decode cX9_undo 4 = .ok (.getfield 148, 3) := by decide +kernel
theorem dX9_undo_7 : decode cX9_undo 7 = .ok (.ifCond .ne 5, 3) := by decide +kernel
theorem dX9_undo_10 : decode cX9_undo 10 = .ok (.iconst (-1), 1) := by decide +kernel
theorem dX9_undo_11 : decode cX9_undo 11 = .ok (.ireturn, 1) := by decide +kernel
theorem dX9_undo_12 : decode cX9_undo 12 = .ok (.aload_n 0, 1) := by decide +kernel
theorem dX9_undo_13 : decode cX9_undo 13 = .ok (.getfield 23, 3) := by decide +kernel
theorem dX9_undo_16 : decode cX9_undo 16 = .ok (.aload_n 0, 1) := by decide +kernel
theorem dX9_undo_17 : decode cX9_undo 17 = .ok (.getfield 10, 3) := by decide +kernel
theorem dX9_undo_20 : decode cX9_undo 20 = .ok (.invokevirtual 151, 3) := by decide +kernel
theorem dX9_undo_23 : decode cX9_undo 23 = .ok (.aload_n 0, 1) := by decide +kernel
theorem dX9_undo_24 : decode cX9_undo 24 = .ok (.getfield 23, 3) := by decide +kernel
theorem dX9_undo_27 : decode cX9_undo 27 = .ok (.getfield 148, 3) := by decide +kernel
theorem dX9_undo_30 : decode cX9_undo 30 = .ok (.ireturn, 1) := by decide +kernel
theorem dX9_count_0 : decode cX9_count 0 = .ok (.iload_n 1, 1) := by decide +kernel
theorem dX9_count_1 : decode cX9_count 1 = .ok (.tableswitch 156 0 13 #[71, 156, 82, 93, 104, 156, 156, 156, 156, 156, 115, 126, 137, 145], 71) := by decide +kernel
theorem dX9_count_72 : decode cX9_count 72 = .ok (.aload_n 0, 1) := by decide +kernel
theorem dX9_count_73 : decode cX9_count 73 = .ok (.getfield 10, 3) := by decide +kernel
theorem dX9_count_76 : decode cX9_count 76 = .ok (.getfield 81, 3) := by decide +kernel
theorem dX9_count_79 : decode cX9_count 79 = .ok (.getfield 113, 3) := by decide +kernel
theorem dX9_count_82 : decode cX9_count 82 = .ok (.ireturn, 1) := by decide +kernel
theorem dX9_count_83 : decode cX9_count 83 = .ok (.aload_n 0, 1) := by decide +kernel
theorem dX9_count_84 : decode cX9_count 84 = .ok (.getfield 10, 3) := by decide +kernel
theorem dX9_count_87 : decode cX9_count 87 = .ok (.getfield 97, 3) := by decide +kernel
theorem dX9_count_90 : decode cX9_count 90 = .ok (.getfield 154, 3) := by decide +kernel
theorem dX9_count_93 : decode cX9_count 93 = .ok (.ireturn, 1) := by decide +kernel
theorem dX9_count_94 : decode cX9_count 94 = .ok (.aload_n 0, 1) := by decide +kernel
theorem dX9_count_95 : decode cX9_count 95 = .ok (.getfield 10, 3) := by decide +kernel
theorem dX9_count_98 : decode cX9_count 98 = .ok (.getfield 97, 3) := by decide +kernel
theorem dX9_count_101 : decode cX9_count 101 = .ok (.getfield 145, 3) := by decide +kernel
theorem dX9_count_104 : decode cX9_count 104 = .ok (.ireturn, 1) := by decide +kernel
theorem dX9_count_105 : decode cX9_count 105 = .ok (.aload_n 0, 1) := by decide +kernel
theorem dX9_count_106 : decode cX9_count 106 = .ok (.getfield 10, 3) := by decide +kernel
theorem dX9_count_109 : decode cX9_count 109 = .ok (.getfield 97, 3) := by decide +kernel
theorem dX9_count_112 : decode cX9_count 112 = .ok (.getfield 142, 3) := by decide +kernel
theorem dX9_count_115 : decode cX9_count 115 = .ok (.ireturn, 1) := by decide +kernel
theorem dX9_count_116 : decode cX9_count 116 = .ok (.aload_n 0, 1) := by decide +kernel
theorem dX9_count_117 : decode cX9_count 117 = .ok (.getfield 10, 3) := by decide +kernel
theorem dX9_count_120 : decode cX9_count 120 = .ok (.getfield 103, 3) := by decide +kernel
theorem dX9_count_123 : decode cX9_count 123 = .ok (.getfield 157, 3) := by decide +kernel
theorem dX9_count_126 : decode cX9_count 126 = .ok (.ireturn, 1) := by decide +kernel
theorem dX9_count_127 : decode cX9_count 127 = .ok (.aload_n 0, 1) := by decide +kernel
theorem dX9_count_128 : decode cX9_count 128 = .ok (.getfield 10, 3) := by decide +kernel
theorem dX9_count_131 : decode cX9_count 131 = .ok (.getfield 103, 3) := by decide +kernel
theorem dX9_count_134 : decode cX9_count 134 = .ok (.getfield 160, 3) := by decide +kernel
theorem dX9_count_137 : decode cX9_count 137 = .ok (.ireturn, 1) := by decide +kernel
theorem dX9_count_138 : decode cX9_count 138 = .ok (.aload_n 0, 1) := by decide +kernel
theorem dX9_count_139 : decode cX9_count 139 = .ok (.getfield 23, 3) := by decide +kernel
theorem dX9_count_142 : decode cX9_count 142 = .ok (.getfield 148, 3) := by decide +kernel
theorem dX9_count_145 : decode cX9_count 145 = .ok (.ireturn, 1) := by decide +kernel
theorem dX9_count_146 : decode cX9_count 146 = .ok (.aload_n 0, 1) := by decide +kernel
theorem dX9_count_147 : decode cX9_count 147 = .ok (.getfield 10, 3) := by decide +kernel
theorem dX9_count_150 : decode cX9_count 150 = .ok (.getfield 55, 3) := by decide +kernel
theorem dX9_count_153 : decode cX9_count 153 = .ok (.getfield 59, 3) := by decide +kernel
theorem dX9_count_156 : decode cX9_count 156 = .ok (.ireturn, 1) := by decide +kernel
theorem dX9_count_157 : decode cX9_count 157 = .ok (.aload_n 0, 1) := by decide +kernel
theorem dX9_count_158 : decode cX9_count 158 = .ok (.invokevirtual 128, 3) := by decide +kernel
theorem dX9_count_161 : decode cX9_count 161 = .ok (.aload_n 0, 1) := by decide +kernel
theorem dX9_count_162 : decode cX9_count 162 = .ok (.getfield 37, 3) := by decide +kernel
theorem dX9_count_165 : decode cX9_count 165 = .ok (.iload_n 1, 1) := by decide +kernel
theorem dX9_count_166 : decode cX9_count 166 = .ok (.invokevirtual 163, 3) := by decide +kernel
theorem dX9_count_169 : decode cX9_count 169 = .ok (.ireturn, 1) := by decide +kernel
theorem dX9_worker_0 : decode cX9_worker 0 = .ok (.aload_n 0, 1) := by decide +kernel
theorem dX9_worker_1 : decode cX9_worker 1 = .ok (.iload_n 1, 1) := by decide +kernel
theorem dX9_worker_2 : decode cX9_worker 2 = .ok (.invokevirtual 167, 3) := by decide +kernel
theorem dX9_worker_5 : decode cX9_worker 5 = .ok (.ifCond .ne 5, 3) := by decide +kernel
theorem dX9_worker_8 : decode cX9_worker 8 = .ok (.iconst (-1), 1) := by decide +kernel
theorem dX9_worker_9 : decode cX9_worker 9 = .ok (.ireturn, 1) := by decide +kernel
theorem dX9_worker_10 : decode cX9_worker 10 = .ok (.aload_n 0, 1) := by decide +kernel
theorem dX9_worker_11 : decode cX9_worker 11 = .ok (.getfield 10, 3) := by decide +kernel
theorem dX9_worker_14 : decode cX9_worker 14 = .ok (.getfield 81, 3) := by decide +kernel
theorem dX9_worker_17 : decode cX9_worker 17 = .ok (.astore_n 3, 1) := by decide +kernel
theorem dX9_worker_18 : decode cX9_worker 18 = .ok (.aload_n 0, 1) := by decide +kernel
theorem dX9_worker_19 : decode cX9_worker 19 = .ok (.getfield 10, 3) := by decide +kernel
theorem dX9_worker_22 : decode cX9_worker 22 = .ok (.getfield 97, 3) := by decide +kernel
theorem dX9_worker_25 : decode cX9_worker 25 = .ok (.astore 4, 2) := by decide +kernel
theorem dX9_worker_27 : decode cX9_worker 27 = .ok (.aload 4, 2) := by decide +kernel
theorem dX9_worker_29 : decode cX9_worker 29 = .ok (.getfield 171, 3) := by decide +kernel
theorem dX9_worker_32 : decode cX9_worker 32 = .ok (.iload_n 1, 1) := by decide +kernel
theorem dX9_worker_33 : decode cX9_worker 33 = .ok (.iaload, 1) := by decide +kernel
theorem dX9_worker_34 : decode cX9_worker 34 = .ok (.istore 5, 2) := by decide +kernel
theorem dX9_worker_36 : decode cX9_worker 36 = .ok (.iload_n 2, 1) := by decide +kernel
theorem dX9_worker_37 : decode cX9_worker 37 = .ok (.tableswitch 137 0 13 #[71, 74, 82, 90, 108, 115, 137, 137, 137, 137, 137, 137, 123, 130], 71) := by decide +kernel
theorem dX9_worker_108 : decode cX9_worker 108 = .ok (.iload 5, 2) := by decide +kernel
theorem dX9_worker_110 : decode cX9_worker 110 = .ok (.ireturn, 1) := by decide +kernel
theorem dX9_worker_111 : decode cX9_worker 111 = .ok (.aload_n 3, 1) := by decide +kernel
theorem dX9_worker_112 : decode cX9_worker 112 = .ok (.iload_n 1, 1) := by decide +kernel
theorem dX9_worker_113 : decode cX9_worker 113 = .ok (.iload 5, 2) := by decide +kernel
theorem dX9_worker_115 : decode cX9_worker 115 = .ok (.invokevirtual 175, 3) := by decide +kernel
theorem dX9_worker_118 : decode cX9_worker 118 = .ok (.ireturn, 1) := by decide +kernel
theorem dX9_worker_119 : decode cX9_worker 119 = .ok (.aload_n 3, 1) := by decide +kernel
theorem dX9_worker_120 : decode cX9_worker 120 = .ok (.iload_n 1, 1) := by decide +kernel
theorem dX9_worker_121 : decode cX9_worker 121 = .ok (.iload 5, 2) := by decide +kernel
theorem dX9_worker_123 : decode cX9_worker 123 = .ok (.invokevirtual 179, 3) := by decide +kernel
theorem dX9_worker_126 : decode cX9_worker 126 = .ok (.ireturn, 1) := by decide +kernel
theorem dX9_worker_127 : decode cX9_worker 127 = .ok (.iload 5, 2) := by decide +kernel
theorem dX9_worker_129 : decode cX9_worker 129 = .ok (.iconst (-1), 1) := by decide +kernel
theorem dX9_worker_130 : decode cX9_worker 130 = .ok (.if_icmp .ne 7, 3) := by decide +kernel
theorem dX9_worker_133 : decode cX9_worker 133 = .ok (.iconst (-1), 1) := by decide +kernel
theorem dX9_worker_134 : decode cX9_worker 134 = .ok (.goto 10, 3) := by decide +kernel
theorem dX9_worker_137 : decode cX9_worker 137 = .ok (.aload 4, 2) := by decide +kernel
theorem dX9_worker_139 : decode cX9_worker 139 = .ok (.getfield 182, 3) := by decide +kernel
theorem dX9_worker_142 : decode cX9_worker 142 = .ok (.iload_n 1, 1) := by decide +kernel
theorem dX9_worker_143 : decode cX9_worker 143 = .ok (.iaload, 1) := by decide +kernel
theorem dX9_worker_144 : decode cX9_worker 144 = .ok (.ireturn, 1) := by decide +kernel
theorem dX9_worker_145 : decode cX9_worker 145 = .ok (.aload 4, 2) := by decide +kernel
theorem dX9_worker_147 : decode cX9_worker 147 = .ok (.iload_n 1, 1) := by decide +kernel
theorem dX9_worker_148 : decode cX9_worker 148 = .ok (.invokevirtual 185, 3) := by decide +kernel
theorem dX9_worker_151 : decode cX9_worker 151 = .ok (.ireturn, 1) := by decide +kernel
theorem dX9_worker_152 : decode cX9_worker 152 = .ok (.aload 4, 2) := by decide +kernel
theorem dX9_worker_154 : decode cX9_worker 154 = .ok (.getfield 188, 3) := by decide +kernel
theorem dX9_worker_157 : decode cX9_worker 157 = .ok (.iload_n 1, 1) := by decide +kernel
theorem dX9_worker_158 : decode cX9_worker 158 = .ok (.iaload, 1) := by decide +kernel
theorem dX9_worker_159 : decode cX9_worker 159 = .ok (.ireturn, 1) := by decide +kernel
theorem dX9_worker_160 : decode cX9_worker 160 = .ok (.aload 4, 2) := by decide +kernel
theorem dX9_worker_162 : decode cX9_worker 162 = .ok (.iload_n 1, 1) := by decide +kernel
theorem dX9_worker_163 : decode cX9_worker 163 = .ok (.invokevirtual 191, 3) := by decide +kernel
theorem dX9_worker_166 : decode cX9_worker 166 = .ok (.ireturn, 1) := by decide +kernel
theorem dX9_worker_167 : decode cX9_worker 167 = .ok (.aload_n 3, 1) := by decide +kernel
theorem dX9_worker_168 : decode cX9_worker 168 = .ok (.getfield 194, 3) := by decide +kernel
theorem dX9_worker_171 : decode cX9_worker 171 = .ok (.iload_n 1, 1) := by decide +kernel
theorem dX9_worker_172 : decode cX9_worker 172 = .ok (.iaload, 1) := by decide +kernel
theorem dX9_worker_173 : decode cX9_worker 173 = .ok (.ireturn, 1) := by decide +kernel
theorem dX9_worker_174 : decode cX9_worker 174 = .ok (.aload_n 0, 1) := by decide +kernel
theorem dX9_worker_175 : decode cX9_worker 175 = .ok (.iload_n 1, 1) := by decide +kernel
theorem dX9_worker_176 : decode cX9_worker 176 = .ok (.iload_n 2, 1) := by decide +kernel
theorem dX9_worker_177 : decode cX9_worker 177 = .ok (.invokevirtual 197, 3) := by decide +kernel
theorem dX9_worker_180 : decode cX9_worker 180 = .ok (.ireturn, 1) := by decide +kernel
theorem dX9_step_0 : decode cX9_step 0 = .ok (.iload_n 3, 1) := by decide +kernel
theorem dX9_step_1 : decode cX9_step 1 = .ok (.ifCond .eq 18, 3) := by decide +kernel
theorem dX9_step_4 : decode cX9_step 4 = .ok (.aload_n 0, 1) := by decide +kernel
theorem dX9_step_5 : decode cX9_step 5 = .ok (.getfield 10, 3) := by decide +kernel
theorem dX9_step_8 : decode cX9_step 8 = .ok (.getfield 81, 3) := by decide +kernel
theorem dX9_step_11 : decode cX9_step 11 = .ok (.iload_n 1, 1) := by decide +kernel
theorem dX9_step_12 : decode cX9_step 12 = .ok (.iload_n 2, 1) := by decide +kernel
theorem dX9_step_13 : decode cX9_step 13 = .ok (.invokevirtual 179, 3) := by decide +kernel
theorem dX9_step_16 : decode cX9_step 16 = .ok (.goto 15, 3) := by decide +kernel
theorem dX9_step_19 : decode cX9_step 19 = .ok (.aload_n 0, 1) := by decide +kernel
theorem dX9_step_20 : decode cX9_step 20 = .ok (.getfield 10, 3) := by decide +kernel
theorem dX9_step_23 : decode cX9_step 23 = .ok (.getfield 81, 3) := by decide +kernel
theorem dX9_step_26 : decode cX9_step 26 = .ok (.iload_n 1, 1) := by decide +kernel
theorem dX9_step_27 : decode cX9_step 27 = .ok (.iload_n 2, 1) := by decide +kernel
theorem dX9_step_28 : decode cX9_step 28 = .ok (.invokevirtual 175, 3) := by decide +kernel
theorem dX9_step_31 : decode cX9_step 31 = .ok (.ireturn, 1) := by decide +kernel
theorem dX9_holder_0 : decode cX9_holder 0 = .ok (.aload_n 0, 1) := by decide +kernel
theorem dX9_holder_1 : decode cX9_holder 1 = .ok (.getfield 10, 3) := by decide +kernel
theorem dX9_holder_4 : decode cX9_holder 4 = .ok (.getfield 97, 3) := by decide +kernel
theorem dX9_holder_7 : decode cX9_holder 7 = .ok (.getfield 200, 3) := by decide +kernel
theorem dX9_holder_10 : decode cX9_holder 10 = .ok (.iload_n 1, 1) := by decide +kernel
theorem dX9_holder_11 : decode cX9_holder 11 = .ok (.invokestatic 203, 3) := by decide +kernel
theorem dX9_holder_14 : decode cX9_holder 14 = .ok (.ireturn, 1) := by decide +kernel
theorem dX9_pipe_0 : decode cX9_pipe 0 = .ok (.iload_n 2, 1) := by decide +kernel
theorem dX9_pipe_1 : decode cX9_pipe 1 = .ok (.ifCond .eq 16, 3) := by decide +kernel
theorem dX9_pipe_4 : decode cX9_pipe 4 = .ok (.aload_n 0, 1) := by decide +kernel
theorem dX9_pipe_5 : decode cX9_pipe 5 = .ok (.getfield 10, 3) := by decide +kernel
theorem dX9_pipe_8 : decode cX9_pipe 8 = .ok (.getfield 81, 3) := by decide +kernel
theorem dX9_pipe_11 : decode cX9_pipe 11 = .ok (.getfield 207, 3) := by decide +kernel
theorem dX9_pipe_14 : decode cX9_pipe 14 = .ok (.goto 13, 3) := by decide +kernel
theorem dX9_pipe_17 : decode cX9_pipe 17 = .ok (.aload_n 0, 1) := by decide +kernel
theorem dX9_pipe_18 : decode cX9_pipe 18 = .ok (.getfield 10, 3) := by decide +kernel
theorem dX9_pipe_21 : decode cX9_pipe 21 = .ok (.getfield 97, 3) := by decide +kernel
theorem dX9_pipe_24 : decode cX9_pipe 24 = .ok (.getfield 210, 3) := by decide +kernel
theorem dX9_pipe_27 : decode cX9_pipe 27 = .ok (.iload_n 1, 1) := by decide +kernel
theorem dX9_pipe_28 : decode cX9_pipe 28 = .ok (.invokestatic 203, 3) := by decide +kernel
theorem dX9_pipe_31 : decode cX9_pipe 31 = .ok (.ireturn, 1) := by decide +kernel
theorem dX9_messages_0 : decode cX9_messages 0 = .ok (.aload_n 0, 1) := by decide +kernel
theorem dX9_messages_1 : decode cX9_messages 1 = .ok (.iload_n 1, 1) := by decide +kernel
theorem dX9_messages_2 : decode cX9_messages 2 = .ok (.invokevirtual 167, 3) := by decide +kernel
theorem dX9_messages_5 : decode cX9_messages 5 = .ok (.ifCond .eq 11, 3) := by decide +kernel
theorem dX9_messages_8 : decode cX9_messages 8 = .ok (.aload_n 0, 1) := by decide +kernel
theorem dX9_messages_9 : decode cX9_messages 9 = .ok (.iload_n 2, 1) := by decide +kernel
theorem dX9_messages_10 : decode cX9_messages 10 = .ok (.invokevirtual 167, 3) := by decide +kernel
theorem dX9_messages_13 : decode cX9_messages 13 = .ok (.ifCond .ne 5, 3) := by decide +kernel
theorem dX9_messages_16 : decode cX9_messages 16 = .ok (.iconst (-1), 1) := by decide +kernel
theorem dX9_messages_17 : decode cX9_messages 17 = .ok (.ireturn, 1) := by decide +kernel
theorem dX9_messages_18 : decode cX9_messages 18 = .ok (.aload_n 0, 1) := by decide +kernel
theorem dX9_messages_19 : decode cX9_messages 19 = .ok (.getfield 10, 3) := by decide +kernel
theorem dX9_messages_22 : decode cX9_messages 22 = .ok (.getfield 97, 3) := by decide +kernel
theorem dX9_messages_25 : decode cX9_messages 25 = .ok (.getfield 213, 3) := by decide +kernel
theorem dX9_messages_28 : decode cX9_messages 28 = .ok (.iload_n 1, 1) := by decide +kernel
theorem dX9_messages_29 : decode cX9_messages 29 = .ok (.bipush 8, 2) := by decide +kernel
theorem dX9_messages_31 : decode cX9_messages 31 = .ok (.imul, 1) := by decide +kernel
theorem dX9_messages_32 : decode cX9_messages 32 = .ok (.iload_n 2, 1) := by decide +kernel
theorem dX9_messages_33 : decode cX9_messages 33 = .ok (.iadd, 1) := by decide +kernel
theorem dX9_messages_34 : decode cX9_messages 34 = .ok (.iaload, 1) := by decide +kernel
theorem dX9_messages_35 : decode cX9_messages 35 = .ok (.ireturn, 1) := by decide +kernel
theorem dX9_waits_0 : decode cX9_waits 0 = .ok (.aload_n 0, 1) := by decide +kernel
theorem dX9_waits_1 : decode cX9_waits 1 = .ok (.iload_n 1, 1) := by decide +kernel
theorem dX9_waits_2 : decode cX9_waits 2 = .ok (.invokevirtual 167, 3) := by decide +kernel
theorem dX9_waits_5 : decode cX9_waits 5 = .ok (.ifCond .ne 5, 3) := by decide +kernel
theorem dX9_waits_8 : decode cX9_waits 8 = .ok (.iconst (-1), 1) := by decide +kernel
theorem dX9_waits_9 : decode cX9_waits 9 = .ok (.ireturn, 1) := by decide +kernel
theorem dX9_waits_10 : decode cX9_waits 10 = .ok (.aload_n 0, 1) := by decide +kernel
theorem dX9_waits_11 : decode cX9_waits 11 = .ok (.invokevirtual 128, 3) := by decide +kernel
theorem dX9_waits_14 : decode cX9_waits 14 = .ok (.aload_n 0, 1) := by decide +kernel
theorem dX9_waits_15 : decode cX9_waits 15 = .ok (.getfield 37, 3) := by decide +kernel
theorem dX9_waits_18 : decode cX9_waits 18 = .ok (.getfield 216, 3) := by decide +kernel
theorem dX9_waits_21 : decode cX9_waits 21 = .ok (.iload_n 1, 1) := by decide +kernel
theorem dX9_waits_22 : decode cX9_waits 22 = .ok (.iaload, 1) := by decide +kernel
theorem dX9_waits_23 : decode cX9_waits 23 = .ok (.ireturn, 1) := by decide +kernel
theorem dX9_way_0 : decode cX9_way 0 = .ok (.aload_n 0, 1) := by decide +kernel
theorem dX9_way_1 : decode cX9_way 1 = .ok (.invokevirtual 128, 3) := by decide +kernel
theorem dX9_way_4 : decode cX9_way 4 = .ok (.aload_n 0, 1) := by decide +kernel
theorem dX9_way_5 : decode cX9_way 5 = .ok (.getfield 37, 3) := by decide +kernel
theorem dX9_way_8 : decode cX9_way 8 = .ok (.getfield 131, 3) := by decide +kernel
theorem dX9_way_11 : decode cX9_way 11 = .ok (.iload_n 1, 1) := by decide +kernel
theorem dX9_way_12 : decode cX9_way 12 = .ok (.invokestatic 134, 3) := by decide +kernel
theorem dX9_way_15 : decode cX9_way 15 = .ok (.ifCond .ne 5, 3) := by decide +kernel
theorem dX9_way_18 : decode cX9_way 18 = .ok (.iconst (-1), 1) := by decide +kernel
theorem dX9_way_19 : decode cX9_way 19 = .ok (.ireturn, 1) := by decide +kernel
theorem dX9_way_20 : decode cX9_way 20 = .ok (.aload_n 0, 1) := by decide +kernel
theorem dX9_way_21 : decode cX9_way 21 = .ok (.getfield 37, 3) := by decide +kernel
theorem dX9_way_24 : decode cX9_way 24 = .ok (.iload_n 1, 1) := by decide +kernel
theorem dX9_way_25 : decode cX9_way 25 = .ok (.invokevirtual 219, 3) := by decide +kernel
theorem dX9_way_28 : decode cX9_way 28 = .ok (.iload_n 2, 1) := by decide +kernel
theorem dX9_way_29 : decode cX9_way 29 = .ok (.iconst (-1), 1) := by decide +kernel
theorem dX9_way_30 : decode cX9_way 30 = .ok (.if_icmp .ne 11, 3) := by decide +kernel
theorem dX9_way_33 : decode cX9_way 33 = .ok (.aload_n 0, 1) := by decide +kernel
theorem dX9_way_34 : decode cX9_way 34 = .ok (.getfield 37, 3) := by decide +kernel
theorem dX9_way_37 : decode cX9_way 37 = .ok (.getfield 222, 3) := by decide +kernel
theorem dX9_way_40 : decode cX9_way 40 = .ok (.ireturn, 1) := by decide +kernel
theorem dX9_way_41 : decode cX9_way 41 = .ok (.iload_n 2, 1) := by decide +kernel
theorem dX9_way_42 : decode cX9_way 42 = .ok (.aload_n 0, 1) := by decide +kernel
theorem dX9_way_43 : decode cX9_way 43 = .ok (.getfield 37, 3) := by decide +kernel
theorem dX9_way_46 : decode cX9_way 46 = .ok (.getfield 222, 3) := by decide +kernel
theorem dX9_way_49 : decode cX9_way 49 = .ok (.if_icmp .ge 17, 3) := by decide +kernel
theorem dX9_way_52 : decode cX9_way 52 = .ok (.aload_n 0, 1) := by decide +kernel
theorem dX9_way_53 : decode cX9_way 53 = .ok (.getfield 37, 3) := by decide +kernel
theorem dX9_way_56 : decode cX9_way 56 = .ok (.getfield 225, 3) := by decide +kernel
theorem dX9_way_59 : decode cX9_way 59 = .ok (.iload_n 2, 1) := by decide +kernel
theorem dX9_way_60 : decode cX9_way 60 = .ok (.invokestatic 203, 3) := by decide +kernel
theorem dX9_way_63 : decode cX9_way 63 = .ok (.goto 4, 3) := by decide +kernel
theorem dX9_way_66 : decode cX9_way 66 = .ok (.iconst (-1), 1) := by decide +kernel
theorem dX9_way_67 : decode cX9_way 67 = .ok (.ireturn, 1) := by decide +kernel
theorem dX9_ring_0 : decode cX9_ring 0 = .ok (.aload_n 0, 1) := by decide +kernel
theorem dX9_ring_1 : decode cX9_ring 1 = .ok (.invokevirtual 128, 3) := by decide +kernel
theorem dX9_ring_4 : decode cX9_ring 4 = .ok (.aload_n 0, 1) := by decide +kernel
theorem dX9_ring_5 : decode cX9_ring 5 = .ok (.getfield 37, 3) := by decide +kernel
theorem dX9_ring_8 : decode cX9_ring 8 = .ok (.getfield 131, 3) := by decide +kernel
theorem dX9_ring_11 : decode cX9_ring 11 = .ok (.iload_n 1, 1) := by decide +kernel
theorem dX9_ring_12 : decode cX9_ring 12 = .ok (.invokestatic 134, 3) := by decide +kernel
theorem dX9_ring_15 : decode cX9_ring 15 = .ok (.ifCond .ne 5, 3) := by decide +kernel
theorem dX9_ring_18 : decode cX9_ring 18 = .ok (.iconst (-1), 1) := by decide +kernel
theorem dX9_ring_19 : decode cX9_ring 19 = .ok (.ireturn, 1) := by decide +kernel
theorem dX9_ring_20 : decode cX9_ring 20 = .ok (.aload_n 0, 1) := by decide +kernel
theorem dX9_ring_21 : decode cX9_ring 21 = .ok (.getfield 37, 3) := by decide +kernel
theorem dX9_ring_24 : decode cX9_ring 24 = .ok (.iload_n 1, 1) := by decide +kernel
theorem dX9_ring_25 : decode cX9_ring 25 = .ok (.invokevirtual 219, 3) := by decide +kernel
theorem dX9_ring_28 : decode cX9_ring 28 = .ok (.aload_n 0, 1) := by decide +kernel
theorem dX9_ring_29 : decode cX9_ring 29 = .ok (.getfield 37, 3) := by decide +kernel
theorem dX9_ring_32 : decode cX9_ring 32 = .ok (.getfield 228, 3) := by decide +kernel
theorem dX9_ring_35 : decode cX9_ring 35 = .ok (.ireturn, 1) := by decide +kernel
theorem dX9_stall_0 : decode cX9_stall 0 = .ok (.aload_n 0, 1) := by decide +kernel
theorem dX9_stall_1 : decode cX9_stall 1 = .ok (.getfield 10, 3) := by decide +kernel
theorem dX9_stall_4 : decode cX9_stall 4 = .ok (.getfield 103, 3) := by decide +kernel
theorem dX9_stall_7 : decode cX9_stall 7 = .ok (.iload_n 1, 1) := by decide +kernel
theorem dX9_stall_8 : decode cX9_stall 8 = .ok (.iload_n 2, 1) := by decide +kernel
theorem dX9_stall_9 : decode cX9_stall 9 = .ok (.invokevirtual 231, 3) := by decide +kernel
theorem dX9_stall_12 : decode cX9_stall 12 = .ok (.ireturn, 1) := by decide +kernel
theorem dX9_freed_0 : decode cX9_freed 0 = .ok (.aload_n 0, 1) := by decide +kernel
theorem dX9_freed_1 : decode cX9_freed 1 = .ok (.invokevirtual 128, 3) := by decide +kernel
theorem dX9_freed_4 : decode cX9_freed 4 = .ok (.aload_n 0, 1) := by decide +kernel
theorem dX9_freed_5 : decode cX9_freed 5 = .ok (.getfield 37, 3) := by decide +kernel
theorem dX9_freed_8 : decode cX9_freed 8 = .ok (.getfield 131, 3) := by decide +kernel
theorem dX9_freed_11 : decode cX9_freed 11 = .ok (.iload_n 1, 1) := by decide +kernel
theorem dX9_freed_12 : decode cX9_freed 12 = .ok (.invokestatic 134, 3) := by decide +kernel
theorem dX9_freed_15 : decode cX9_freed 15 = .ok (.ifCond .ne 5, 3) := by decide +kernel
theorem dX9_freed_18 : decode cX9_freed 18 = .ok (.iconst (-1), 1) := by decide +kernel
theorem dX9_freed_19 : decode cX9_freed 19 = .ok (.ireturn, 1) := by decide +kernel
theorem dX9_freed_20 : decode cX9_freed 20 = .ok (.aload_n 0, 1) := by decide +kernel
theorem dX9_freed_21 : decode cX9_freed 21 = .ok (.getfield 44, 3) := by decide +kernel
theorem dX9_freed_24 : decode cX9_freed 24 = .ok (.aload_n 0, 1) := by decide +kernel
theorem dX9_freed_25 : decode cX9_freed 25 = .ok (.getfield 10, 3) := by decide +kernel
theorem dX9_freed_28 : decode cX9_freed 28 = .ok (.getfield 81, 3) := by decide +kernel
theorem dX9_freed_31 : decode cX9_freed 31 = .ok (.aload_n 0, 1) := by decide +kernel
theorem dX9_freed_32 : decode cX9_freed 32 = .ok (.getfield 10, 3) := by decide +kernel
theorem dX9_freed_35 : decode cX9_freed 35 = .ok (.getfield 97, 3) := by decide +kernel
theorem dX9_freed_38 : decode cX9_freed 38 = .ok (.aload_n 0, 1) := by decide +kernel
theorem dX9_freed_39 : decode cX9_freed 39 = .ok (.getfield 37, 3) := by decide +kernel
theorem dX9_freed_42 : decode cX9_freed 42 = .ok (.invokevirtual 234, 3) := by decide +kernel
theorem dX9_freed_45 : decode cX9_freed 45 = .ok (.aload_n 0, 1) := by decide +kernel
theorem dX9_freed_46 : decode cX9_freed 46 = .ok (.getfield 44, 3) := by decide +kernel
theorem dX9_freed_49 : decode cX9_freed 49 = .ok (.getfield 238, 3) := by decide +kernel
theorem dX9_freed_52 : decode cX9_freed 52 = .ok (.iload_n 1, 1) := by decide +kernel
theorem dX9_freed_53 : decode cX9_freed 53 = .ok (.iaload, 1) := by decide +kernel
theorem dX9_freed_54 : decode cX9_freed 54 = .ok (.ireturn, 1) := by decide +kernel
theorem dX9_later_0 : decode cX9_later 0 = .ok (.iload_n 2, 1) := by decide +kernel
theorem dX9_later_1 : decode cX9_later 1 = .ok (.iconst 1, 1) := by decide +kernel
theorem dX9_later_2 : decode cX9_later 2 = .ok (.if_icmp .eq 14, 3) := by decide +kernel
theorem dX9_later_5 : decode cX9_later 5 = .ok (.iload_n 2, 1) := by decide +kernel
theorem dX9_later_6 : decode cX9_later 6 = .ok (.iconst 5, 1) := by decide +kernel
theorem dX9_later_7 : decode cX9_later 7 = .ok (.if_icmp .lt 13, 3) := by decide +kernel
theorem dX9_later_10 : decode cX9_later 10 = .ok (.iload_n 2, 1) := by decide +kernel
theorem dX9_later_11 : decode cX9_later 11 = .ok (.bipush 9, 2) := by decide +kernel
theorem dX9_later_13 : decode cX9_later 13 = .ok (.if_icmp .gt 7, 3) := by decide +kernel
theorem dX9_later_16 : decode cX9_later 16 = .ok (.iconst 1, 1) := by decide +kernel
theorem dX9_later_17 : decode cX9_later 17 = .ok (.goto 4, 3) := by decide +kernel
theorem dX9_later_20 : decode cX9_later 20 = .ok (.iconst 0, 1) := by decide +kernel
theorem dX9_later_21 : decode cX9_later 21 = .ok (.istore_n 3, 1) := by decide +kernel
theorem dX9_later_22 : decode cX9_later 22 = .ok (.iload_n 1, 1) := by decide +kernel
theorem dX9_later_23 : decode cX9_later 23 = .ok (.ifCond .lt 14, 3) := by decide +kernel
theorem dX9_later_26 : decode cX9_later 26 = .ok (.iload_n 1, 1) := by decide +kernel
theorem dX9_later_27 : decode cX9_later 27 = .ok (.sipush 200, 3) := by decide +kernel
theorem dX9_later_30 : decode cX9_later 30 = .ok (.if_icmp .gt 7, 3) := by decide +kernel
theorem dX9_later_33 : decode cX9_later 33 = .ok (.iload_n 3, 1) := by decide +kernel
theorem dX9_later_34 : decode cX9_later 34 = .ok (.ifCond .ne 5, 3) := by decide +kernel
theorem dX9_later_37 : decode cX9_later 37 = .ok (.iconst (-1), 1) := by decide +kernel
theorem dX9_later_38 : decode cX9_later 38 = .ok (.ireturn, 1) := by decide +kernel
theorem dX9_later_39 : decode cX9_later 39 = .ok (.aload_n 0, 1) := by decide +kernel
theorem dX9_later_40 : decode cX9_later 40 = .ok (.getfield 51, 3) := by decide +kernel
theorem dX9_later_43 : decode cX9_later 43 = .ok (.aload_n 0, 1) := by decide +kernel
theorem dX9_later_44 : decode cX9_later 44 = .ok (.getfield 10, 3) := by decide +kernel
theorem dX9_later_47 : decode cX9_later 47 = .ok (.getfield 97, 3) := by decide +kernel
theorem dX9_later_50 : decode cX9_later 50 = .ok (.invokevirtual 241, 3) := by decide +kernel
theorem dX9_later_53 : decode cX9_later 53 = .ok (.iconst 0, 1) := by decide +kernel
theorem dX9_later_54 : decode cX9_later 54 = .ok (.istore 4, 2) := by decide +kernel
theorem dX9_later_56 : decode cX9_later 56 = .ok (.iload 4, 2) := by decide +kernel
theorem dX9_later_58 : decode cX9_later 58 = .ok (.iload_n 1, 1) := by decide +kernel
theorem dX9_later_59 : decode cX9_later 59 = .ok (.if_icmp .ge 23, 3) := by decide +kernel
theorem dX9_later_62 : decode cX9_later 62 = .ok (.aload_n 0, 1) := by decide +kernel
theorem dX9_later_63 : decode cX9_later 63 = .ok (.getfield 51, 3) := by decide +kernel
theorem dX9_later_66 : decode cX9_later 66 = .ok (.aload_n 0, 1) := by decide +kernel
theorem dX9_later_67 : decode cX9_later 67 = .ok (.getfield 10, 3) := by decide +kernel
theorem dX9_later_70 : decode cX9_later 70 = .ok (.getfield 81, 3) := by decide +kernel
theorem dX9_later_73 : decode cX9_later 73 = .ok (.invokevirtual 244, 3) := by decide +kernel
theorem dX9_later_76 : decode cX9_later 76 = .ok (.iinc 4 1, 3) := by decide +kernel
theorem dX9_later_79 : decode cX9_later 79 = .ok (.goto (-23), 3) := by decide +kernel
theorem dX9_later_82 : decode cX9_later 82 = .ok (.aload_n 0, 1) := by decide +kernel
theorem dX9_later_83 : decode cX9_later 83 = .ok (.getfield 37, 3) := by decide +kernel
theorem dX9_later_86 : decode cX9_later 86 = .ok (.aload_n 0, 1) := by decide +kernel
theorem dX9_later_87 : decode cX9_later 87 = .ok (.getfield 10, 3) := by decide +kernel
theorem dX9_later_90 : decode cX9_later 90 = .ok (.getfield 81, 3) := by decide +kernel
theorem dX9_later_93 : decode cX9_later 93 = .ok (.aload_n 0, 1) := by decide +kernel
theorem dX9_later_94 : decode cX9_later 94 = .ok (.getfield 51, 3) := by decide +kernel
theorem dX9_later_97 : decode cX9_later 97 = .ok (.invokevirtual 247, 3) := by decide +kernel
theorem dX9_later_100 : decode cX9_later 100 = .ok (.aload_n 0, 1) := by decide +kernel
theorem dX9_later_101 : decode cX9_later 101 = .ok (.getfield 37, 3) := by decide +kernel
theorem dX9_later_104 : decode cX9_later 104 = .ok (.iload_n 2, 1) := by decide +kernel
theorem dX9_later_105 : decode cX9_later 105 = .ok (.invokevirtual 163, 3) := by decide +kernel
theorem dX9_later_108 : decode cX9_later 108 = .ok (.ireturn, 1) := by decide +kernel
theorem dX9_ends_0 : decode cX9_ends 0 = .ok (.aload_n 0, 1) := by decide +kernel
theorem dX9_ends_1 : decode cX9_ends 1 = .ok (.iload_n 1, 1) := by decide +kernel
theorem dX9_ends_2 : decode cX9_ends 2 = .ok (.invokevirtual 167, 3) := by decide +kernel
theorem dX9_ends_5 : decode cX9_ends 5 = .ok (.ifCond .ne 5, 3) := by decide +kernel
theorem dX9_ends_8 : decode cX9_ends 8 = .ok (.iconst (-1), 1) := by decide +kernel
theorem dX9_ends_9 : decode cX9_ends 9 = .ok (.ireturn, 1) := by decide +kernel
theorem dX9_ends_10 : decode cX9_ends 10 = .ok (.aload_n 0, 1) := by decide +kernel
theorem dX9_ends_11 : decode cX9_ends 11 = .ok (.getfield 51, 3) := by decide +kernel
theorem dX9_ends_14 : decode cX9_ends 14 = .ok (.aload_n 0, 1) := by decide +kernel
theorem dX9_ends_15 : decode cX9_ends 15 = .ok (.getfield 10, 3) := by decide +kernel
theorem dX9_ends_18 : decode cX9_ends 18 = .ok (.getfield 97, 3) := by decide +kernel
theorem dX9_ends_21 : decode cX9_ends 21 = .ok (.invokevirtual 241, 3) := by decide +kernel
theorem dX9_ends_24 : decode cX9_ends 24 = .ok (.iconst 0, 1) := by decide +kernel
theorem dX9_ends_25 : decode cX9_ends 25 = .ok (.istore_n 2, 1) := by decide +kernel
theorem dX9_ends_26 : decode cX9_ends 26 = .ok (.iload_n 2, 1) := by decide +kernel
theorem dX9_ends_27 : decode cX9_ends 27 = .ok (.sipush 200, 3) := by decide +kernel
theorem dX9_ends_30 : decode cX9_ends 30 = .ok (.if_icmp .gt 38, 3) := by decide +kernel
theorem dX9_ends_33 : decode cX9_ends 33 = .ok (.aload_n 0, 1) := by decide +kernel
theorem dX9_ends_34 : decode cX9_ends 34 = .ok (.getfield 51, 3) := by decide +kernel
theorem dX9_ends_37 : decode cX9_ends 37 = .ok (.getfield 171, 3) := by decide +kernel
theorem dX9_ends_40 : decode cX9_ends 40 = .ok (.iload_n 1, 1) := by decide +kernel
theorem dX9_ends_41 : decode cX9_ends 41 = .ok (.iaload, 1) := by decide +kernel
theorem dX9_ends_42 : decode cX9_ends 42 = .ok (.iconst (-1), 1) := by decide +kernel
theorem dX9_ends_43 : decode cX9_ends 43 = .ok (.if_icmp .ne 5, 3) := by decide +kernel
theorem dX9_ends_46 : decode cX9_ends 46 = .ok (.iload_n 2, 1) := by decide +kernel
theorem dX9_ends_47 : decode cX9_ends 47 = .ok (.ireturn, 1) := by decide +kernel
theorem dX9_ends_48 : decode cX9_ends 48 = .ok (.aload_n 0, 1) := by decide +kernel
theorem dX9_ends_49 : decode cX9_ends 49 = .ok (.getfield 51, 3) := by decide +kernel
theorem dX9_ends_52 : decode cX9_ends 52 = .ok (.aload_n 0, 1) := by decide +kernel
theorem dX9_ends_53 : decode cX9_ends 53 = .ok (.getfield 10, 3) := by decide +kernel
theorem dX9_ends_56 : decode cX9_ends 56 = .ok (.getfield 81, 3) := by decide +kernel
theorem dX9_ends_59 : decode cX9_ends 59 = .ok (.invokevirtual 244, 3) := by decide +kernel
theorem dX9_ends_62 : decode cX9_ends 62 = .ok (.iinc 2 1, 3) := by decide +kernel
theorem dX9_ends_65 : decode cX9_ends 65 = .ok (.goto (-39), 3) := by decide +kernel
theorem dX9_ends_68 : decode cX9_ends 68 = .ok (.iconst (-1), 1) := by decide +kernel
theorem dX9_ends_69 : decode cX9_ends 69 = .ok (.ireturn, 1) := by decide +kernel
theorem dX9_told_0 : decode cX9_told 0 = .ok (.iload_n 1, 1) := by decide +kernel
theorem dX9_told_1 : decode cX9_told 1 = .ok (.iconst 1, 1) := by decide +kernel
theorem dX9_told_2 : decode cX9_told 2 = .ok (.if_icmp .lt 21, 3) := by decide +kernel
theorem dX9_told_5 : decode cX9_told 5 = .ok (.iload_n 1, 1) := by decide +kernel
theorem dX9_told_6 : decode cX9_told 6 = .ok (.sipush 200, 3) := by decide +kernel
theorem dX9_told_9 : decode cX9_told 9 = .ok (.if_icmp .gt 14, 3) := by decide +kernel
theorem dX9_told_12 : decode cX9_told 12 = .ok (.iload_n 2, 1) := by decide +kernel
theorem dX9_told_13 : decode cX9_told 13 = .ok (.iconst 1, 1) := by decide +kernel
theorem dX9_told_14 : decode cX9_told 14 = .ok (.if_icmp .lt 9, 3) := by decide +kernel
theorem dX9_told_17 : decode cX9_told 17 = .ok (.iload_n 2, 1) := by decide +kernel
theorem dX9_told_18 : decode cX9_told 18 = .ok (.bipush 50, 2) := by decide +kernel
theorem dX9_told_20 : decode cX9_told 20 = .ok (.if_icmp .le 5, 3) := by decide +kernel
theorem dX9_told_23 : decode cX9_told 23 = .ok (.iconst (-1), 1) := by decide +kernel
theorem dX9_told_24 : decode cX9_told 24 = .ok (.ireturn, 1) := by decide +kernel
theorem dX9_told_25 : decode cX9_told 25 = .ok (.aload_n 0, 1) := by decide +kernel
theorem dX9_told_26 : decode cX9_told 26 = .ok (.getfield 51, 3) := by decide +kernel
theorem dX9_told_29 : decode cX9_told 29 = .ok (.aload_n 0, 1) := by decide +kernel
theorem dX9_told_30 : decode cX9_told 30 = .ok (.getfield 10, 3) := by decide +kernel
theorem dX9_told_33 : decode cX9_told 33 = .ok (.getfield 97, 3) := by decide +kernel
theorem dX9_told_36 : decode cX9_told 36 = .ok (.invokevirtual 241, 3) := by decide +kernel
theorem dX9_told_39 : decode cX9_told 39 = .ok (.aload_n 0, 1) := by decide +kernel
theorem dX9_told_40 : decode cX9_told 40 = .ok (.getfield 51, 3) := by decide +kernel
theorem dX9_told_43 : decode cX9_told 43 = .ok (.iload_n 2, 1) := by decide +kernel
theorem dX9_told_44 : decode cX9_told 44 = .ok (.putfield 145, 3) := by decide +kernel
theorem dX9_told_47 : decode cX9_told 47 = .ok (.iconst 0, 1) := by decide +kernel
theorem dX9_told_48 : decode cX9_told 48 = .ok (.istore_n 3, 1) := by decide +kernel
theorem dX9_told_49 : decode cX9_told 49 = .ok (.iconst 0, 1) := by decide +kernel
theorem dX9_told_50 : decode cX9_told 50 = .ok (.istore 4, 2) := by decide +kernel
theorem dX9_told_52 : decode cX9_told 52 = .ok (.iload 4, 2) := by decide +kernel
theorem dX9_told_54 : decode cX9_told 54 = .ok (.iload_n 1, 1) := by decide +kernel
theorem dX9_told_55 : decode cX9_told 55 = .ok (.if_icmp .ge 37, 3) := by decide +kernel
theorem dX9_told_58 : decode cX9_told 58 = .ok (.aload_n 0, 1) := by decide +kernel
theorem dX9_told_59 : decode cX9_told 59 = .ok (.getfield 51, 3) := by decide +kernel
theorem dX9_told_62 : decode cX9_told 62 = .ok (.aload_n 0, 1) := by decide +kernel
theorem dX9_told_63 : decode cX9_told 63 = .ok (.getfield 10, 3) := by decide +kernel
theorem dX9_told_66 : decode cX9_told 66 = .ok (.getfield 81, 3) := by decide +kernel
theorem dX9_told_69 : decode cX9_told 69 = .ok (.invokevirtual 244, 3) := by decide +kernel
theorem dX9_told_72 : decode cX9_told 72 = .ok (.iload_n 3, 1) := by decide +kernel
theorem dX9_told_73 : decode cX9_told 73 = .ok (.aload_n 0, 1) := by decide +kernel
theorem dX9_told_74 : decode cX9_told 74 = .ok (.aload_n 0, 1) := by decide +kernel
theorem dX9_told_75 : decode cX9_told 75 = .ok (.getfield 51, 3) := by decide +kernel
theorem dX9_told_78 : decode cX9_told 78 = .ok (.invokevirtual 251, 3) := by decide +kernel
theorem dX9_told_81 : decode cX9_told 81 = .ok (.invokestatic 255, 3) := by decide +kernel
theorem dX9_told_84 : decode cX9_told 84 = .ok (.iadd, 1) := by decide +kernel
theorem dX9_told_85 : decode cX9_told 85 = .ok (.istore_n 3, 1) := by decide +kernel
theorem dX9_told_86 : decode cX9_told 86 = .ok (.iinc 4 1, 3) := by decide +kernel
theorem dX9_told_89 : decode cX9_told 89 = .ok (.goto (-37), 3) := by decide +kernel
theorem dX9_told_92 : decode cX9_told 92 = .ok (.iload_n 3, 1) := by decide +kernel
theorem dX9_told_93 : decode cX9_told 93 = .ok (.ireturn, 1) := by decide +kernel
theorem dX9_fewest_0 : decode cX9_fewest 0 = .ok (.aload_n 0, 1) := by decide +kernel
theorem dX9_fewest_1 : decode cX9_fewest 1 = .ok (.invokevirtual 128, 3) := by decide +kernel
theorem dX9_fewest_4 : decode cX9_fewest 4 = .ok (.aload_n 0, 1) := by decide +kernel
theorem dX9_fewest_5 : decode cX9_fewest 5 = .ok (.getfield 44, 3) := by decide +kernel
theorem dX9_fewest_8 : decode cX9_fewest 8 = .ok (.aload_n 0, 1) := by decide +kernel
theorem dX9_fewest_9 : decode cX9_fewest 9 = .ok (.getfield 10, 3) := by decide +kernel
theorem dX9_fewest_12 : decode cX9_fewest 12 = .ok (.getfield 81, 3) := by decide +kernel
theorem dX9_fewest_15 : decode cX9_fewest 15 = .ok (.aload_n 0, 1) := by decide +kernel
theorem dX9_fewest_16 : decode cX9_fewest 16 = .ok (.getfield 10, 3) := by decide +kernel
theorem dX9_fewest_19 : decode cX9_fewest 19 = .ok (.getfield 97, 3) := by decide +kernel
theorem dX9_fewest_22 : decode cX9_fewest 22 = .ok (.aload_n 0, 1) := by decide +kernel
theorem dX9_fewest_23 : decode cX9_fewest 23 = .ok (.getfield 37, 3) := by decide +kernel
theorem dX9_fewest_26 : decode cX9_fewest 26 = .ok (.getfield 131, 3) := by decide +kernel
theorem dX9_fewest_29 : decode cX9_fewest 29 = .ok (.invokevirtual 260, 3) := by decide +kernel
theorem dX9_fewest_32 : decode cX9_fewest 32 = .ok (.istore_n 2, 1) := by decide +kernel
theorem dX9_fewest_33 : decode cX9_fewest 33 = .ok (.iload_n 2, 1) := by decide +kernel
theorem dX9_fewest_34 : decode cX9_fewest 34 = .ok (.iconst (-1), 1) := by decide +kernel
theorem dX9_fewest_35 : decode cX9_fewest 35 = .ok (.if_icmp .eq 7, 3) := by decide +kernel
theorem dX9_fewest_38 : decode cX9_fewest 38 = .ok (.iload_n 1, 1) := by decide +kernel
theorem dX9_fewest_39 : decode cX9_fewest 39 = .ok (.ifCond .eq 5, 3) := by decide +kernel
theorem dX9_fewest_42 : decode cX9_fewest 42 = .ok (.iload_n 2, 1) := by decide +kernel
theorem dX9_fewest_43 : decode cX9_fewest 43 = .ok (.ireturn, 1) := by decide +kernel
theorem dX9_fewest_44 : decode cX9_fewest 44 = .ok (.iload_n 2, 1) := by decide +kernel
theorem dX9_fewest_45 : decode cX9_fewest 45 = .ok (.invokestatic 255, 3) := by decide +kernel
theorem dX9_fewest_48 : decode cX9_fewest 48 = .ok (.ireturn, 1) := by decide +kernel
theorem dX9_image_0 : decode cX9_image 0 = .ok (.iload_n 1, 1) := by decide +kernel
theorem dX9_image_1 : decode cX9_image 1 = .ok (.ifCond .lt 8, 3) := by decide +kernel
theorem dX9_image_4 : decode cX9_image 4 = .ok (.iload_n 1, 1) := by decide +kernel
theorem dX9_image_5 : decode cX9_image 5 = .ok (.iconst 3, 1) := by decide +kernel
theorem dX9_image_6 : decode cX9_image 6 = .ok (.if_icmp .lt 5, 3) := by decide +kernel
theorem dX9_image_9 : decode cX9_image 9 = .ok (.iconst 0, 1) := by decide +kernel
theorem dX9_image_10 : decode cX9_image 10 = .ok (.ireturn, 1) := by decide +kernel
theorem dX9_image_11 : decode cX9_image 11 = .ok (.aload_n 0, 1) := by decide +kernel
theorem dX9_image_12 : decode cX9_image 12 = .ok (.getfield 16, 3) := by decide +kernel
theorem dX9_image_15 : decode cX9_image 15 = .ok (.iload_n 1, 1) := by decide +kernel
theorem dX9_image_16 : decode cX9_image 16 = .ok (.aaload, 1) := by decide +kernel
theorem dX9_image_17 : decode cX9_image 17 = .ok (.ifnonnull 16, 3) := by decide +kernel
theorem dX9_image_20 : decode cX9_image 20 = .ok (.aload_n 0, 1) := by decide +kernel
theorem dX9_image_21 : decode cX9_image 21 = .ok (.getfield 16, 3) := by decide +kernel
theorem dX9_image_24 : decode cX9_image 24 = .ok (.iload_n 1, 1) := by decide +kernel
theorem dX9_image_25 : decode cX9_image 25 = .ok (.new 7, 3) := by decide +kernel
theorem dX9_image_28 : decode cX9_image 28 = .ok (.dup, 1) := by decide +kernel
theorem dX9_image_29 : decode cX9_image 29 = .ok (.invokespecial 9, 3) := by decide +kernel
theorem dX9_image_32 : decode cX9_image 32 = .ok (.aastore, 1) := by decide +kernel
theorem dX9_image_33 : decode cX9_image 33 = .ok (.aload_n 0, 1) := by decide +kernel
theorem dX9_image_34 : decode cX9_image 34 = .ok (.getfield 16, 3) := by decide +kernel
theorem dX9_image_37 : decode cX9_image 37 = .ok (.iload_n 1, 1) := by decide +kernel
theorem dX9_image_38 : decode cX9_image 38 = .ok (.aaload, 1) := by decide +kernel
theorem dX9_image_39 : decode cX9_image 39 = .ok (.aload_n 0, 1) := by decide +kernel
theorem dX9_image_40 : decode cX9_image 40 = .ok (.getfield 10, 3) := by decide +kernel
theorem dX9_image_43 : decode cX9_image 43 = .ok (.invokevirtual 264, 3) := by decide +kernel
theorem dX9_image_46 : decode cX9_image 46 = .ok (.iconst 1, 1) := by decide +kernel
theorem dX9_image_47 : decode cX9_image 47 = .ok (.ireturn, 1) := by decide +kernel
theorem dX9_again_0 : decode cX9_again 0 = .ok (.iload_n 1, 1) := by decide +kernel
theorem dX9_again_1 : decode cX9_again 1 = .ok (.ifCond .lt 17, 3) := by decide +kernel
theorem dX9_again_4 : decode cX9_again 4 = .ok (.iload_n 1, 1) := by decide +kernel
theorem dX9_again_5 : decode cX9_again 5 = .ok (.iconst 3, 1) := by decide +kernel
theorem dX9_again_6 : decode cX9_again 6 = .ok (.if_icmp .ge 12, 3) := by decide +kernel
theorem dX9_again_9 : decode cX9_again 9 = .ok (.aload_n 0, 1) := by decide +kernel
theorem dX9_again_10 : decode cX9_again 10 = .ok (.getfield 16, 3) := by decide +kernel
theorem dX9_again_13 : decode cX9_again 13 = .ok (.iload_n 1, 1) := by decide +kernel
theorem dX9_again_14 : decode cX9_again 14 = .ok (.aaload, 1) := by decide +kernel
theorem dX9_again_15 : decode cX9_again 15 = .ok (.ifnonnull 5, 3) := by decide +kernel
theorem dX9_again_18 : decode cX9_again 18 = .ok (.iconst 0, 1) := by decide +kernel
theorem dX9_again_19 : decode cX9_again 19 = .ok (.ireturn, 1) := by decide +kernel
theorem dX9_again_20 : decode cX9_again 20 = .ok (.aload_n 0, 1) := by decide +kernel
theorem dX9_again_21 : decode cX9_again 21 = .ok (.getfield 10, 3) := by decide +kernel
theorem dX9_again_24 : decode cX9_again 24 = .ok (.aload_n 0, 1) := by decide +kernel
theorem dX9_again_25 : decode cX9_again 25 = .ok (.getfield 16, 3) := by decide +kernel
theorem dX9_again_28 : decode cX9_again 28 = .ok (.iload_n 1, 1) := by decide +kernel
theorem dX9_again_29 : decode cX9_again 29 = .ok (.aaload, 1) := by decide +kernel
theorem dX9_again_30 : decode cX9_again 30 = .ok (.invokevirtual 264, 3) := by decide +kernel
theorem dX9_again_33 : decode cX9_again 33 = .ok (.aload_n 0, 1) := by decide +kernel
theorem dX9_again_34 : decode cX9_again 34 = .ok (.getfield 23, 3) := by decide +kernel
theorem dX9_again_37 : decode cX9_again 37 = .ok (.invokevirtual 112, 3) := by decide +kernel
theorem dX9_again_40 : decode cX9_again 40 = .ok (.iconst 1, 1) := by decide +kernel
theorem dX9_again_41 : decode cX9_again 41 = .ok (.ireturn, 1) := by decide +kernel
theorem dX9_isWorker_0 : decode cX9_isWorker 0 = .ok (.iload_n 1, 1) := by decide +kernel
theorem dX9_isWorker_1 : decode cX9_isWorker 1 = .ok (.ifCond .lt 21, 3) := by decide +kernel
theorem dX9_isWorker_4 : decode cX9_isWorker 4 = .ok (.iload_n 1, 1) := by decide +kernel
theorem dX9_isWorker_5 : decode cX9_isWorker 5 = .ok (.aload_n 0, 1) := by decide +kernel
theorem dX9_isWorker_6 : decode cX9_isWorker 6 = .ok (.getfield 10, 3) := by decide +kernel
theorem dX9_isWorker_9 : decode cX9_isWorker 9 = .ok (.getfield 81, 3) := by decide +kernel
theorem dX9_isWorker_12 : decode cX9_isWorker 12 = .ok (.getfield 113, 3) := by decide +kernel
theorem dX9_isWorker_15 : decode cX9_isWorker 15 = .ok (.if_icmp .ge 7, 3) := by decide +kernel
theorem dX9_isWorker_18 : decode cX9_isWorker 18 = .ok (.iconst 1, 1) := by decide +kernel
theorem dX9_isWorker_19 : decode cX9_isWorker 19 = .ok (.goto 4, 3) := by decide +kernel
theorem dX9_isWorker_22 : decode cX9_isWorker 22 = .ok (.iconst 0, 1) := by decide +kernel
theorem dX9_isWorker_23 : decode cX9_isWorker 23 = .ok (.ireturn, 1) := by decide +kernel
theorem dX9_lookNow_0 : decode cX9_lookNow 0 = .ok (.aload_n 0, 1) := by decide +kernel
theorem dX9_lookNow_1 : decode cX9_lookNow 1 = .ok (.getfield 37, 3) := by decide +kernel
theorem dX9_lookNow_4 : decode cX9_lookNow 4 = .ok (.aload_n 0, 1) := by decide +kernel
theorem dX9_lookNow_5 : decode cX9_lookNow 5 = .ok (.getfield 10, 3) := by decide +kernel
theorem dX9_lookNow_8 : decode cX9_lookNow 8 = .ok (.getfield 81, 3) := by decide +kernel
theorem dX9_lookNow_11 : decode cX9_lookNow 11 = .ok (.aload_n 0, 1) := by decide +kernel
theorem dX9_lookNow_12 : decode cX9_lookNow 12 = .ok (.getfield 10, 3) := by decide +kernel
theorem dX9_lookNow_15 : decode cX9_lookNow 15 = .ok (.getfield 97, 3) := by decide +kernel
theorem dX9_lookNow_18 : decode cX9_lookNow 18 = .ok (.invokevirtual 247, 3) := by decide +kernel
theorem dX9_lookNow_21 : decode cX9_lookNow 21 = .ok (.return_, 1) := by decide +kernel
theorem dX9_seen_0 : decode cX9_seen 0 = .ok (.aload_n 0, 1) := by decide +kernel
theorem dX9_seen_1 : decode cX9_seen 1 = .ok (.invokevirtual 128, 3) := by decide +kernel
theorem dX9_seen_4 : decode cX9_seen 4 = .ok (.iload_n 2, 1) := by decide +kernel
theorem dX9_seen_5 : decode cX9_seen 5 = .ok (.tableswitch 173 6 11 #[39, 59, 79, 99, 119, 164], 39) := by decide +kernel
theorem dX9_seen_44 : decode cX9_seen 44 = .ok (.aload_n 0, 1) := by decide +kernel
theorem dX9_seen_45 : decode cX9_seen 45 = .ok (.getfield 37, 3) := by decide +kernel
theorem dX9_seen_48 : decode cX9_seen 48 = .ok (.getfield 131, 3) := by decide +kernel
theorem dX9_seen_51 : decode cX9_seen 51 = .ok (.iload_n 1, 1) := by decide +kernel
theorem dX9_seen_52 : decode cX9_seen 52 = .ok (.invokestatic 134, 3) := by decide +kernel
theorem dX9_seen_55 : decode cX9_seen 55 = .ok (.ifCond .eq 7, 3) := by decide +kernel
theorem dX9_seen_58 : decode cX9_seen 58 = .ok (.iconst 1, 1) := by decide +kernel
theorem dX9_seen_59 : decode cX9_seen 59 = .ok (.goto 4, 3) := by decide +kernel
theorem dX9_seen_62 : decode cX9_seen 62 = .ok (.iconst 0, 1) := by decide +kernel
theorem dX9_seen_63 : decode cX9_seen 63 = .ok (.ireturn, 1) := by decide +kernel
theorem dX9_seen_64 : decode cX9_seen 64 = .ok (.aload_n 0, 1) := by decide +kernel
theorem dX9_seen_65 : decode cX9_seen 65 = .ok (.getfield 37, 3) := by decide +kernel
theorem dX9_seen_68 : decode cX9_seen 68 = .ok (.getfield 266, 3) := by decide +kernel
theorem dX9_seen_71 : decode cX9_seen 71 = .ok (.iload_n 1, 1) := by decide +kernel
theorem dX9_seen_72 : decode cX9_seen 72 = .ok (.invokestatic 134, 3) := by decide +kernel
theorem dX9_seen_75 : decode cX9_seen 75 = .ok (.ifCond .eq 7, 3) := by decide +kernel
theorem dX9_seen_78 : decode cX9_seen 78 = .ok (.iconst 1, 1) := by decide +kernel
theorem dX9_seen_79 : decode cX9_seen 79 = .ok (.goto 4, 3) := by decide +kernel
theorem dX9_seen_82 : decode cX9_seen 82 = .ok (.iconst 0, 1) := by decide +kernel
theorem dX9_seen_83 : decode cX9_seen 83 = .ok (.ireturn, 1) := by decide +kernel
theorem dX9_seen_84 : decode cX9_seen 84 = .ok (.aload_n 0, 1) := by decide +kernel
theorem dX9_seen_85 : decode cX9_seen 85 = .ok (.getfield 37, 3) := by decide +kernel
theorem dX9_seen_88 : decode cX9_seen 88 = .ok (.getfield 269, 3) := by decide +kernel
theorem dX9_seen_91 : decode cX9_seen 91 = .ok (.iload_n 1, 1) := by decide +kernel
theorem dX9_seen_92 : decode cX9_seen 92 = .ok (.invokestatic 134, 3) := by decide +kernel
theorem dX9_seen_95 : decode cX9_seen 95 = .ok (.ifCond .eq 7, 3) := by decide +kernel
theorem dX9_seen_98 : decode cX9_seen 98 = .ok (.iconst 1, 1) := by decide +kernel
theorem dX9_seen_99 : decode cX9_seen 99 = .ok (.goto 4, 3) := by decide +kernel
theorem dX9_seen_102 : decode cX9_seen 102 = .ok (.iconst 0, 1) := by decide +kernel
theorem dX9_seen_103 : decode cX9_seen 103 = .ok (.ireturn, 1) := by decide +kernel
theorem dX9_seen_104 : decode cX9_seen 104 = .ok (.aload_n 0, 1) := by decide +kernel
theorem dX9_seen_105 : decode cX9_seen 105 = .ok (.getfield 37, 3) := by decide +kernel
theorem dX9_seen_108 : decode cX9_seen 108 = .ok (.getfield 272, 3) := by decide +kernel
theorem dX9_seen_111 : decode cX9_seen 111 = .ok (.iload_n 1, 1) := by decide +kernel
theorem dX9_seen_112 : decode cX9_seen 112 = .ok (.invokestatic 134, 3) := by decide +kernel
theorem dX9_seen_115 : decode cX9_seen 115 = .ok (.ifCond .eq 7, 3) := by decide +kernel
theorem dX9_seen_118 : decode cX9_seen 118 = .ok (.iconst 1, 1) := by decide +kernel
theorem dX9_seen_119 : decode cX9_seen 119 = .ok (.goto 4, 3) := by decide +kernel
theorem dX9_seen_122 : decode cX9_seen 122 = .ok (.iconst 0, 1) := by decide +kernel
theorem dX9_seen_123 : decode cX9_seen 123 = .ok (.ireturn, 1) := by decide +kernel
theorem dX9_seen_124 : decode cX9_seen 124 = .ok (.aload_n 0, 1) := by decide +kernel
theorem dX9_seen_125 : decode cX9_seen 125 = .ok (.getfield 44, 3) := by decide +kernel
theorem dX9_seen_128 : decode cX9_seen 128 = .ok (.aload_n 0, 1) := by decide +kernel
theorem dX9_seen_129 : decode cX9_seen 129 = .ok (.getfield 10, 3) := by decide +kernel
theorem dX9_seen_132 : decode cX9_seen 132 = .ok (.getfield 81, 3) := by decide +kernel
theorem dX9_seen_135 : decode cX9_seen 135 = .ok (.aload_n 0, 1) := by decide +kernel
theorem dX9_seen_136 : decode cX9_seen 136 = .ok (.getfield 10, 3) := by decide +kernel
theorem dX9_seen_139 : decode cX9_seen 139 = .ok (.getfield 97, 3) := by decide +kernel
theorem dX9_seen_142 : decode cX9_seen 142 = .ok (.aload_n 0, 1) := by decide +kernel
theorem dX9_seen_143 : decode cX9_seen 143 = .ok (.getfield 37, 3) := by decide +kernel
theorem dX9_seen_146 : decode cX9_seen 146 = .ok (.invokevirtual 234, 3) := by decide +kernel
theorem dX9_seen_149 : decode cX9_seen 149 = .ok (.aload_n 0, 1) := by decide +kernel
theorem dX9_seen_150 : decode cX9_seen 150 = .ok (.getfield 44, 3) := by decide +kernel
theorem dX9_seen_153 : decode cX9_seen 153 = .ok (.aload_n 0, 1) := by decide +kernel
theorem dX9_seen_154 : decode cX9_seen 154 = .ok (.getfield 10, 3) := by decide +kernel
theorem dX9_seen_157 : decode cX9_seen 157 = .ok (.getfield 97, 3) := by decide +kernel
theorem dX9_seen_160 : decode cX9_seen 160 = .ok (.aload_n 0, 1) := by decide +kernel
theorem dX9_seen_161 : decode cX9_seen 161 = .ok (.getfield 37, 3) := by decide +kernel
theorem dX9_seen_164 : decode cX9_seen 164 = .ok (.iload_n 1, 1) := by decide +kernel
theorem dX9_seen_165 : decode cX9_seen 165 = .ok (.invokevirtual 275, 3) := by decide +kernel
theorem dX9_seen_168 : decode cX9_seen 168 = .ok (.ireturn, 1) := by decide +kernel
theorem dX9_seen_169 : decode cX9_seen 169 = .ok (.aload_n 0, 1) := by decide +kernel
theorem dX9_seen_170 : decode cX9_seen 170 = .ok (.getfield 37, 3) := by decide +kernel
theorem dX9_seen_173 : decode cX9_seen 173 = .ok (.iload_n 1, 1) := by decide +kernel
theorem dX9_seen_174 : decode cX9_seen 174 = .ok (.invokevirtual 279, 3) := by decide +kernel
theorem dX9_seen_177 : decode cX9_seen 177 = .ok (.ireturn, 1) := by decide +kernel
theorem dX9_seen_178 : decode cX9_seen 178 = .ok (.iconst (-1), 1) := by decide +kernel
theorem dX9_seen_179 : decode cX9_seen 179 = .ok (.ireturn, 1) := by decide +kernel
theorem dX9_passTick_0 : decode cX9_passTick 0 = .ok (.aload_n 0, 1) := by decide +kernel
theorem dX9_passTick_1 : decode cX9_passTick 1 = .ok (.getfield 10, 3) := by decide +kernel
theorem dX9_passTick_4 : decode cX9_passTick 4 = .ok (.getfield 97, 3) := by decide +kernel
theorem dX9_passTick_7 : decode cX9_passTick 7 = .ok (.aload_n 0, 1) := by decide +kernel
theorem dX9_passTick_8 : decode cX9_passTick 8 = .ok (.getfield 10, 3) := by decide +kernel
theorem dX9_passTick_11 : decode cX9_passTick 11 = .ok (.getfield 81, 3) := by decide +kernel
theorem dX9_passTick_14 : decode cX9_passTick 14 = .ok (.invokevirtual 244, 3) := by decide +kernel
theorem dX9_passTick_17 : decode cX9_passTick 17 = .ok (.aload_n 0, 1) := by decide +kernel
theorem dX9_passTick_18 : decode cX9_passTick 18 = .ok (.aload_n 0, 1) := by decide +kernel
theorem dX9_passTick_19 : decode cX9_passTick 19 = .ok (.getfield 10, 3) := by decide +kernel
theorem dX9_passTick_22 : decode cX9_passTick 22 = .ok (.getfield 97, 3) := by decide +kernel
theorem dX9_passTick_25 : decode cX9_passTick 25 = .ok (.invokevirtual 251, 3) := by decide +kernel
theorem dX9_passTick_28 : decode cX9_passTick 28 = .ok (.istore_n 1, 1) := by decide +kernel
theorem dX9_passTick_29 : decode cX9_passTick 29 = .ok (.iload_n 1, 1) := by decide +kernel
theorem dX9_passTick_30 : decode cX9_passTick 30 = .ok (.ifCond .eq 33, 3) := by decide +kernel
theorem dX9_passTick_33 : decode cX9_passTick 33 = .ok (.aload_n 0, 1) := by decide +kernel
theorem dX9_passTick_34 : decode cX9_passTick 34 = .ok (.getfield 44, 3) := by decide +kernel
theorem dX9_passTick_37 : decode cX9_passTick 37 = .ok (.aload_n 0, 1) := by decide +kernel
theorem dX9_passTick_38 : decode cX9_passTick 38 = .ok (.getfield 10, 3) := by decide +kernel
theorem dX9_passTick_41 : decode cX9_passTick 41 = .ok (.getfield 81, 3) := by decide +kernel
theorem dX9_passTick_44 : decode cX9_passTick 44 = .ok (.aload_n 0, 1) := by decide +kernel
theorem dX9_passTick_45 : decode cX9_passTick 45 = .ok (.getfield 10, 3) := by decide +kernel
theorem dX9_passTick_48 : decode cX9_passTick 48 = .ok (.getfield 97, 3) := by decide +kernel
theorem dX9_passTick_51 : decode cX9_passTick 51 = .ok (.aload_n 0, 1) := by decide +kernel
theorem dX9_passTick_52 : decode cX9_passTick 52 = .ok (.getfield 37, 3) := by decide +kernel
theorem dX9_passTick_55 : decode cX9_passTick 55 = .ok (.invokevirtual 234, 3) := by decide +kernel
theorem dX9_passTick_58 : decode cX9_passTick 58 = .ok (.aload_n 0, 1) := by decide +kernel
theorem dX9_passTick_59 : decode cX9_passTick 59 = .ok (.iload_n 1, 1) := by decide +kernel
theorem dX9_passTick_60 : decode cX9_passTick 60 = .ok (.invokevirtual 282, 3) := by decide +kernel
theorem dX9_passTick_63 : decode cX9_passTick 63 = .ok (.iload_n 1, 1) := by decide +kernel
theorem dX9_passTick_64 : decode cX9_passTick 64 = .ok (.invokestatic 255, 3) := by decide +kernel
theorem dX9_passTick_67 : decode cX9_passTick 67 = .ok (.ireturn, 1) := by decide +kernel
theorem dX9_markStalls_0 : decode cX9_markStalls 0 = .ok (.aload_n 1, 1) := by decide +kernel
theorem dX9_markStalls_1 : decode cX9_markStalls 1 = .ok (.aload_n 0, 1) := by decide +kernel
theorem dX9_markStalls_2 : decode cX9_markStalls 2 = .ok (.getfield 10, 3) := by decide +kernel
theorem dX9_markStalls_5 : decode cX9_markStalls 5 = .ok (.getfield 81, 3) := by decide +kernel
theorem dX9_markStalls_8 : decode cX9_markStalls 8 = .ok (.invokevirtual 285, 3) := by decide +kernel
theorem dX9_markStalls_11 : decode cX9_markStalls 11 = .ok (.ifCond .ne 5, 3) := by decide +kernel
theorem dX9_markStalls_14 : decode cX9_markStalls 14 = .ok (.iconst 0, 1) := by decide +kernel
theorem dX9_markStalls_15 : decode cX9_markStalls 15 = .ok (.ireturn, 1) := by decide +kernel
theorem dX9_markStalls_16 : decode cX9_markStalls 16 = .ok (.aload_n 0, 1) := by decide +kernel
theorem dX9_markStalls_17 : decode cX9_markStalls 17 = .ok (.getfield 37, 3) := by decide +kernel
theorem dX9_markStalls_20 : decode cX9_markStalls 20 = .ok (.aload_n 0, 1) := by decide +kernel
theorem dX9_markStalls_21 : decode cX9_markStalls 21 = .ok (.getfield 10, 3) := by decide +kernel
theorem dX9_markStalls_24 : decode cX9_markStalls 24 = .ok (.getfield 81, 3) := by decide +kernel
theorem dX9_markStalls_27 : decode cX9_markStalls 27 = .ok (.aload_n 1, 1) := by decide +kernel
theorem dX9_markStalls_28 : decode cX9_markStalls 28 = .ok (.invokevirtual 247, 3) := by decide +kernel
theorem dX9_markStalls_31 : decode cX9_markStalls 31 = .ok (.iconst 0, 1) := by decide +kernel
theorem dX9_markStalls_32 : decode cX9_markStalls 32 = .ok (.istore_n 2, 1) := by decide +kernel
theorem dX9_markStalls_33 : decode cX9_markStalls 33 = .ok (.iconst 0, 1) := by decide +kernel
theorem dX9_markStalls_34 : decode cX9_markStalls 34 = .ok (.istore_n 3, 1) := by decide +kernel
theorem dX9_markStalls_35 : decode cX9_markStalls 35 = .ok (.iload_n 3, 1) := by decide +kernel
theorem dX9_markStalls_36 : decode cX9_markStalls 36 = .ok (.aload_n 0, 1) := by decide +kernel
theorem dX9_markStalls_37 : decode cX9_markStalls 37 = .ok (.getfield 10, 3) := by decide +kernel
theorem dX9_markStalls_40 : decode cX9_markStalls 40 = .ok (.getfield 81, 3) := by decide +kernel
theorem dX9_markStalls_43 : decode cX9_markStalls 43 = .ok (.getfield 113, 3) := by decide +kernel
theorem dX9_markStalls_46 : decode cX9_markStalls 46 = .ok (.if_icmp .ge 41, 3) := by decide +kernel
theorem dX9_markStalls_49 : decode cX9_markStalls 49 = .ok (.aload_n 0, 1) := by decide +kernel
theorem dX9_markStalls_50 : decode cX9_markStalls 50 = .ok (.getfield 37, 3) := by decide +kernel
theorem dX9_markStalls_53 : decode cX9_markStalls 53 = .ok (.iload_n 3, 1) := by decide +kernel
theorem dX9_markStalls_54 : decode cX9_markStalls 54 = .ok (.invokevirtual 288, 3) := by decide +kernel
theorem dX9_markStalls_57 : decode cX9_markStalls 57 = .ok (.istore 4, 2) := by decide +kernel
theorem dX9_markStalls_59 : decode cX9_markStalls 59 = .ok (.iload 4, 2) := by decide +kernel
theorem dX9_markStalls_61 : decode cX9_markStalls 61 = .ok (.iconst (-1), 1) := by decide +kernel
theorem dX9_markStalls_62 : decode cX9_markStalls 62 = .ok (.if_icmp .eq 19, 3) := by decide +kernel
theorem dX9_markStalls_65 : decode cX9_markStalls 65 = .ok (.aload_n 1, 1) := by decide +kernel
theorem dX9_markStalls_66 : decode cX9_markStalls 66 = .ok (.iload_n 3, 1) := by decide +kernel
theorem dX9_markStalls_67 : decode cX9_markStalls 67 = .ok (.iload 4, 2) := by decide +kernel
theorem dX9_markStalls_69 : decode cX9_markStalls 69 = .ok (.invokevirtual 291, 3) := by decide +kernel
theorem dX9_markStalls_72 : decode cX9_markStalls 72 = .ok (.ifCond .eq 9, 3) := by decide +kernel
theorem dX9_markStalls_75 : decode cX9_markStalls 75 = .ok (.iload_n 2, 1) := by decide +kernel
theorem dX9_markStalls_76 : decode cX9_markStalls 76 = .ok (.iconst 1, 1) := by decide +kernel
theorem dX9_markStalls_77 : decode cX9_markStalls 77 = .ok (.iload_n 3, 1) := by decide +kernel
theorem dX9_markStalls_78 : decode cX9_markStalls 78 = .ok (.ishl, 1) := by decide +kernel
theorem dX9_markStalls_79 : decode cX9_markStalls 79 = .ok (.ior, 1) := by decide +kernel
theorem dX9_markStalls_80 : decode cX9_markStalls 80 = .ok (.istore_n 2, 1) := by decide +kernel
theorem dX9_markStalls_81 : decode cX9_markStalls 81 = .ok (.iinc 3 1, 3) := by decide +kernel
theorem dX9_markStalls_84 : decode cX9_markStalls 84 = .ok (.goto (-49), 3) := by decide +kernel
theorem dX9_markStalls_87 : decode cX9_markStalls 87 = .ok (.iload_n 2, 1) := by decide +kernel
theorem dX9_markStalls_88 : decode cX9_markStalls 88 = .ok (.ireturn, 1) := by decide +kernel
theorem dX9_keepStalls_0 : decode cX9_keepStalls 0 = .ok (.aload_n 0, 1) := by decide +kernel
theorem dX9_keepStalls_1 : decode cX9_keepStalls 1 = .ok (.getfield 10, 3) := by decide +kernel
theorem dX9_keepStalls_4 : decode cX9_keepStalls 4 = .ok (.getfield 97, 3) := by decide +kernel
theorem dX9_keepStalls_7 : decode cX9_keepStalls 7 = .ok (.astore_n 2, 1) := by decide +kernel
theorem dX9_keepStalls_8 : decode cX9_keepStalls 8 = .ok (.iconst 0, 1) := by decide +kernel
theorem dX9_keepStalls_9 : decode cX9_keepStalls 9 = .ok (.istore_n 3, 1) := by decide +kernel
theorem dX9_keepStalls_10 : decode cX9_keepStalls 10 = .ok (.iload_n 3, 1) := by decide +kernel
theorem dX9_keepStalls_11 : decode cX9_keepStalls 11 = .ok (.aload_n 0, 1) := by decide +kernel
theorem dX9_keepStalls_12 : decode cX9_keepStalls 12 = .ok (.getfield 10, 3) := by decide +kernel
theorem dX9_keepStalls_15 : decode cX9_keepStalls 15 = .ok (.getfield 81, 3) := by decide +kernel
theorem dX9_keepStalls_18 : decode cX9_keepStalls 18 = .ok (.getfield 113, 3) := by decide +kernel
theorem dX9_keepStalls_21 : decode cX9_keepStalls 21 = .ok (.if_icmp .ge 65, 3) := by decide +kernel
theorem dX9_keepStalls_24 : decode cX9_keepStalls 24 = .ok (.iload_n 1, 1) := by decide +kernel
theorem dX9_keepStalls_25 : decode cX9_keepStalls 25 = .ok (.iload_n 3, 1) := by decide +kernel
theorem dX9_keepStalls_26 : decode cX9_keepStalls 26 = .ok (.invokestatic 134, 3) := by decide +kernel
theorem dX9_keepStalls_29 : decode cX9_keepStalls 29 = .ok (.ifCond .eq 51, 3) := by decide +kernel
theorem dX9_keepStalls_32 : decode cX9_keepStalls 32 = .ok (.aload_n 0, 1) := by decide +kernel
theorem dX9_keepStalls_33 : decode cX9_keepStalls 33 = .ok (.getfield 44, 3) := by decide +kernel
theorem dX9_keepStalls_36 : decode cX9_keepStalls 36 = .ok (.aload_n 2, 1) := by decide +kernel
theorem dX9_keepStalls_37 : decode cX9_keepStalls 37 = .ok (.aload_n 0, 1) := by decide +kernel
theorem dX9_keepStalls_38 : decode cX9_keepStalls 38 = .ok (.getfield 37, 3) := by decide +kernel
theorem dX9_keepStalls_41 : decode cX9_keepStalls 41 = .ok (.iload_n 3, 1) := by decide +kernel
theorem dX9_keepStalls_42 : decode cX9_keepStalls 42 = .ok (.invokevirtual 275, 3) := by decide +kernel
theorem dX9_keepStalls_45 : decode cX9_keepStalls 45 = .ok (.istore 4, 2) := by decide +kernel
theorem dX9_keepStalls_47 : decode cX9_keepStalls 47 = .ok (.aload_n 0, 1) := by decide +kernel
theorem dX9_keepStalls_48 : decode cX9_keepStalls 48 = .ok (.getfield 10, 3) := by decide +kernel
theorem dX9_keepStalls_51 : decode cX9_keepStalls 51 = .ok (.getfield 103, 3) := by decide +kernel
theorem dX9_keepStalls_54 : decode cX9_keepStalls 54 = .ok (.aload_n 2, 1) := by decide +kernel
theorem dX9_keepStalls_55 : decode cX9_keepStalls 55 = .ok (.getfield 154, 3) := by decide +kernel
theorem dX9_keepStalls_58 : decode cX9_keepStalls 58 = .ok (.iload_n 3, 1) := by decide +kernel
theorem dX9_keepStalls_59 : decode cX9_keepStalls 59 = .ok (.aload_n 0, 1) := by decide +kernel
theorem dX9_keepStalls_60 : decode cX9_keepStalls 60 = .ok (.getfield 37, 3) := by decide +kernel
theorem dX9_keepStalls_63 : decode cX9_keepStalls 63 = .ok (.iload_n 3, 1) := by decide +kernel
theorem dX9_keepStalls_64 : decode cX9_keepStalls 64 = .ok (.invokevirtual 288, 3) := by decide +kernel
theorem dX9_keepStalls_67 : decode cX9_keepStalls 67 = .ok (.iload 4, 2) := by decide +kernel
theorem dX9_keepStalls_69 : decode cX9_keepStalls 69 = .ok (.aload_n 0, 1) := by decide +kernel
theorem dX9_keepStalls_70 : decode cX9_keepStalls 70 = .ok (.getfield 37, 3) := by decide +kernel
theorem dX9_keepStalls_73 : decode cX9_keepStalls 73 = .ok (.iload_n 3, 1) := by decide +kernel
theorem dX9_keepStalls_74 : decode cX9_keepStalls 74 = .ok (.invokevirtual 279, 3) := by decide +kernel
theorem dX9_keepStalls_77 : decode cX9_keepStalls 77 = .ok (.invokevirtual 294, 3) := by decide +kernel
theorem dX9_keepStalls_80 : decode cX9_keepStalls 80 = .ok (.iinc 3 1, 3) := by decide +kernel
theorem dX9_keepStalls_83 : decode cX9_keepStalls 83 = .ok (.goto (-73), 3) := by decide +kernel
theorem dX9_keepStalls_86 : decode cX9_keepStalls 86 = .ok (.return_, 1) := by decide +kernel
theorem dX9_at_0 : decode cX9_at 0 = .ok (.iload_n 1, 1) := by decide +kernel
theorem dX9_at_1 : decode cX9_at 1 = .ok (.ifCond .lt 15, 3) := by decide +kernel
theorem dX9_at_4 : decode cX9_at 4 = .ok (.iload_n 1, 1) := by decide +kernel
theorem dX9_at_5 : decode cX9_at 5 = .ok (.aload_n 0, 1) := by decide +kernel
theorem dX9_at_6 : decode cX9_at 6 = .ok (.arraylength, 1) := by decide +kernel
theorem dX9_at_7 : decode cX9_at 7 = .ok (.if_icmp .ge 9, 3) := by decide +kernel
theorem dX9_at_10 : decode cX9_at 10 = .ok (.aload_n 0, 1) := by decide +kernel
theorem dX9_at_11 : decode cX9_at 11 = .ok (.iload_n 1, 1) := by decide +kernel
theorem dX9_at_12 : decode cX9_at 12 = .ok (.iaload, 1) := by decide +kernel
theorem dX9_at_13 : decode cX9_at 13 = .ok (.goto 4, 3) := by decide +kernel
theorem dX9_at_16 : decode cX9_at 16 = .ok (.iconst (-1), 1) := by decide +kernel
theorem dX9_at_17 : decode cX9_at 17 = .ok (.ireturn, 1) := by decide +kernel
theorem dX9_add_0 : decode cX9_add 0 = .ok (.iload_n 1, 1) := by decide +kernel
theorem dX9_add_1 : decode cX9_add 1 = .ok (.ifCond .lt 16, 3) := by decide +kernel
theorem dX9_add_4 : decode cX9_add 4 = .ok (.iload_n 1, 1) := by decide +kernel
theorem dX9_add_5 : decode cX9_add 5 = .ok (.aload_n 0, 1) := by decide +kernel
theorem dX9_add_6 : decode cX9_add 6 = .ok (.arraylength, 1) := by decide +kernel
theorem dX9_add_7 : decode cX9_add 7 = .ok (.if_icmp .ge 10, 3) := by decide +kernel
theorem dX9_add_10 : decode cX9_add 10 = .ok (.aload_n 0, 1) := by decide +kernel
theorem dX9_add_11 : decode cX9_add 11 = .ok (.iload_n 1, 1) := by decide +kernel
theorem dX9_add_12 : decode cX9_add 12 = .ok (.dup2, 1) := by decide +kernel
theorem dX9_add_13 : decode cX9_add 13 = .ok (.iaload, 1) := by decide +kernel
theorem dX9_add_14 : decode cX9_add 14 = .ok (.iload_n 2, 1) := by decide +kernel
theorem dX9_add_15 : decode cX9_add 15 = .ok (.iadd, 1) := by decide +kernel
theorem dX9_add_16 : decode cX9_add 16 = .ok (.iastore, 1) := by decide +kernel
theorem dX9_add_17 : decode cX9_add 17 = .ok (.return_, 1) := by decide +kernel
theorem dX9_set_0 : decode cX9_set 0 = .ok (.iload_n 1, 1) := by decide +kernel
theorem dX9_set_1 : decode cX9_set 1 = .ok (.ifCond .lt 13, 3) := by decide +kernel
theorem dX9_set_4 : decode cX9_set 4 = .ok (.iload_n 1, 1) := by decide +kernel
theorem dX9_set_5 : decode cX9_set 5 = .ok (.aload_n 0, 1) := by decide +kernel
theorem dX9_set_6 : decode cX9_set 6 = .ok (.arraylength, 1) := by decide +kernel
theorem dX9_set_7 : decode cX9_set 7 = .ok (.if_icmp .ge 7, 3) := by decide +kernel
theorem dX9_set_10 : decode cX9_set 10 = .ok (.aload_n 0, 1) := by decide +kernel
theorem dX9_set_11 : decode cX9_set 11 = .ok (.iload_n 1, 1) := by decide +kernel
theorem dX9_set_12 : decode cX9_set 12 = .ok (.iload_n 2, 1) := by decide +kernel
theorem dX9_set_13 : decode cX9_set 13 = .ok (.iastore, 1) := by decide +kernel
theorem dX9_set_14 : decode cX9_set 14 = .ok (.return_, 1) := by decide +kernel
theorem dX9_has_0 : decode cX9_has 0 = .ok (.iload_n 1, 1) := by decide +kernel
theorem dX9_has_1 : decode cX9_has 1 = .ok (.ifCond .lt 22, 3) := by decide +kernel
theorem dX9_has_4 : decode cX9_has 4 = .ok (.iload_n 1, 1) := by decide +kernel
theorem dX9_has_5 : decode cX9_has 5 = .ok (.bipush 8, 2) := by decide +kernel
theorem dX9_has_7 : decode cX9_has 7 = .ok (.if_icmp .ge 16, 3) := by decide +kernel
theorem dX9_has_10 : decode cX9_has 10 = .ok (.iload_n 0, 1) := by decide +kernel
theorem dX9_has_11 : decode cX9_has 11 = .ok (.iload_n 1, 1) := by decide +kernel
theorem dX9_has_12 : decode cX9_has 12 = .ok (.ishr, 1) := by decide +kernel
theorem dX9_has_13 : decode cX9_has 13 = .ok (.iconst 1, 1) := by decide +kernel
theorem dX9_has_14 : decode cX9_has 14 = .ok (.iand, 1) := by decide +kernel
theorem dX9_has_15 : decode cX9_has 15 = .ok (.iconst 1, 1) := by decide +kernel
theorem dX9_has_16 : decode cX9_has 16 = .ok (.if_icmp .ne 7, 3) := by decide +kernel
theorem dX9_has_19 : decode cX9_has 19 = .ok (.iconst 1, 1) := by decide +kernel
theorem dX9_has_20 : decode cX9_has 20 = .ok (.goto 4, 3) := by decide +kernel
theorem dX9_has_23 : decode cX9_has 23 = .ok (.iconst 0, 1) := by decide +kernel
theorem dX9_has_24 : decode cX9_has 24 = .ok (.ireturn, 1) := by decide +kernel
theorem dX9_copy_0 : decode cX9_copy 0 = .ok (.aload_n 0, 1) := by decide +kernel
theorem dX9_copy_1 : decode cX9_copy 1 = .ok (.iconst 0, 1) := by decide +kernel
theorem dX9_copy_2 : decode cX9_copy 2 = .ok (.aload_n 1, 1) := by decide +kernel
theorem dX9_copy_3 : decode cX9_copy 3 = .ok (.iconst 0, 1) := by decide +kernel
theorem dX9_copy_4 : decode cX9_copy 4 = .ok (.aload_n 0, 1) := by decide +kernel
theorem dX9_copy_5 : decode cX9_copy 5 = .ok (.arraylength, 1) := by decide +kernel
theorem dX9_copy_6 : decode cX9_copy 6 = .ok (.aload_n 1, 1) := by decide +kernel
theorem dX9_copy_7 : decode cX9_copy 7 = .ok (.arraylength, 1) := by decide +kernel
theorem dX9_copy_8 : decode cX9_copy 8 = .ok (.invokestatic 298, 3) := by decide +kernel
theorem dX9_copy_11 : decode cX9_copy 11 = .ok (.invokestatic 303, 3) := by decide +kernel
theorem dX9_copy_14 : decode cX9_copy 14 = .ok (.return_, 1) := by decide +kernel
