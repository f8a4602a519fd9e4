theorem dX9_step_64 : decode cX9_step 64 = .ok (.aload 7, 2) := by decide +kernel
theorem dX9_step_66 : decode cX9_step 66 = .ok (.getfield 57, 3) := by decide +kernel
theorem dX9_step_69 : decode cX9_step 69 = .ok (.ireturn, 1) := by decide +kernel
theorem dX9_empty_0 : decode cX9_empty 0 = .ok (.aload_n 0, 1) := by decide +kernel
theorem dX9_empty_1 : decode cX9_empty 1 = .ok (.iload_n 1, 1) := by decide +kernel
theorem dX9_empty_2 : decode cX9_empty 2 = .ok (.iload_n 2, 1) := by decide +kernel
theorem dX9_empty_3 : decode cX9_empty 3 = .ok (.invokevirtual 43, 3) := by decide +kernel
theorem dX9_empty_6 : decode cX9_empty 6 = .ok (.istore_n 3, 1) := by decide +kernel
theorem dX9_empty_7 : decode cX9_empty 7 = .ok (.iload_n 3, 1) := by decide +kernel
theorem dX9_empty_8 : decode cX9_empty 8 = .ok (.ifCond .eq 5, 3) := by decide +kernel
theorem dX9_empty_11 : decode cX9_empty 11 = .ok (.iload_n 3, 1) := by decide +kernel
theorem dX9_empty_12 : decode cX9_empty 12 = .ok (.ireturn, 1) := by decide +kernel
theorem dX9_empty_13 : decode cX9_empty 13 = .ok (.aload_n 0, 1) := by decide +kernel
theorem dX9_empty_14 : decode cX9_empty 14 = .ok (.getfield 10, 3) := by decide +kernel
theorem dX9_empty_17 : decode cX9_empty 17 = .ok (.iload_n 1, 1) := by decide +kernel
theorem dX9_empty_18 : decode cX9_empty 18 = .ok (.iload_n 2, 1) := by decide +kernel
theorem dX9_empty_19 : decode cX9_empty 19 = .ok (.invokevirtual 53, 3) := by decide +kernel
theorem dX9_empty_22 : decode cX9_empty 22 = .ok (.astore 4, 2) := by decide +kernel
theorem dX9_empty_24 : decode cX9_empty 24 = .ok (.aload 4, 2) := by decide +kernel
theorem dX9_empty_26 : decode cX9_empty 26 = .ok (.getfield 57, 3) := by decide +kernel
theorem dX9_empty_29 : decode cX9_empty 29 = .ok (.istore 5, 2) := by decide +kernel
theorem dX9_empty_31 : decode cX9_empty 31 = .ok (.aload 4, 2) := by decide +kernel
theorem dX9_empty_33 : decode cX9_empty 33 = .ok (.iconst 0, 1) := by decide +kernel
theorem dX9_empty_34 : decode cX9_empty 34 = .ok (.putfield 57, 3) := by decide +kernel
theorem dX9_empty_37 : decode cX9_empty 37 = .ok (.iload 5, 2) := by decide +kernel
theorem dX9_empty_39 : decode cX9_empty 39 = .ok (.ireturn, 1) := by decide +kernel
theorem dX9_guard_0 : decode cX9_guard 0 = .ok (.aload_n 0, 1) := by decide +kernel
theorem dX9_guard_1 : decode cX9_guard 1 = .ok (.iload_n 1, 1) := by decide +kernel
theorem dX9_guard_2 : decode cX9_guard 2 = .ok (.iload_n 2, 1) := by decide +kernel
theorem dX9_guard_3 : decode cX9_guard 3 = .ok (.invokevirtual 43, 3) := by decide +kernel
theorem dX9_guard_6 : decode cX9_guard 6 = .ok (.istore 4, 2) := by decide +kernel
theorem dX9_guard_8 : decode cX9_guard 8 = .ok (.iload 4, 2) := by decide +kernel
theorem dX9_guard_10 : decode cX9_guard 10 = .ok (.ifCond .eq 6, 3) := by decide +kernel
theorem dX9_guard_13 : decode cX9_guard 13 = .ok (.iload 4, 2) := by decide +kernel
theorem dX9_guard_15 : decode cX9_guard 15 = .ok (.ireturn, 1) := by decide +kernel
theorem dX9_guard_16 : decode cX9_guard 16 = .ok (.aload_n 0, 1) := by decide +kernel
theorem dX9_guard_17 : decode cX9_guard 17 = .ok (.getfield 10, 3) := by decide +kernel
theorem dX9_guard_20 : decode cX9_guard 20 = .ok (.iload_n 1, 1) := by decide +kernel
theorem dX9_guard_21 : decode cX9_guard 21 = .ok (.iload_n 2, 1) := by decide +kernel
theorem dX9_guard_22 : decode cX9_guard 22 = .ok (.invokevirtual 53, 3) := by decide +kernel
theorem dX9_guard_25 : decode cX9_guard 25 = .ok (.astore 5, 2) := by decide +kernel
theorem dX9_guard_27 : decode cX9_guard 27 = .ok (.aload 5, 2) := by decide +kernel
theorem dX9_guard_29 : decode cX9_guard 29 = .ok (.getfield 66, 3) := by decide +kernel
theorem dX9_guard_32 : decode cX9_guard 32 = .ok (.ifCond .eq 7, 3) := by decide +kernel
theorem dX9_guard_35 : decode cX9_guard 35 = .ok (.iconst 1, 1) := by decide +kernel
theorem dX9_guard_36 : decode cX9_guard 36 = .ok (.goto 4, 3) := by decide +kernel
theorem dX9_guard_39 : decode cX9_guard 39 = .ok (.iconst 0, 1) := by decide +kernel
theorem dX9_guard_40 : decode cX9_guard 40 = .ok (.istore 6, 2) := by decide +kernel
theorem dX9_guard_42 : decode cX9_guard 42 = .ok (.aload 5, 2) := by decide +kernel
theorem dX9_guard_44 : decode cX9_guard 44 = .ok (.iload_n 3, 1) := by decide +kernel
theorem dX9_guard_45 : decode cX9_guard 45 = .ok (.putfield 66, 3) := by decide +kernel
theorem dX9_guard_48 : decode cX9_guard 48 = .ok (.iload 6, 2) := by decide +kernel
theorem dX9_guard_50 : decode cX9_guard 50 = .ok (.ireturn, 1) := by decide +kernel
theorem dX9_call_0 : decode cX9_call 0 = .ok (.aload_n 0, 1) := by decide +kernel
theorem dX9_call_1 : decode cX9_call 1 = .ok (.iload_n 1, 1) := by decide +kernel
theorem dX9_call_2 : decode cX9_call 2 = .ok (.iload_n 2, 1) := by decide +kernel
theorem dX9_call_3 : decode cX9_call 3 = .ok (.iload_n 3, 1) := by decide +kernel
theorem dX9_call_4 : decode cX9_call 4 = .ok (.iload 5, 2) := by decide +kernel
theorem dX9_call_6 : decode cX9_call 6 = .ok (.iload 6, 2) := by decide +kernel
theorem dX9_call_8 : decode cX9_call 8 = .ok (.invokevirtual 70, 3) := by decide +kernel
theorem dX9_call_11 : decode cX9_call 11 = .ok (.istore 7, 2) := by decide +kernel
theorem dX9_call_13 : decode cX9_call 13 = .ok (.iload 7, 2) := by decide +kernel
theorem dX9_call_15 : decode cX9_call 15 = .ok (.ifCond .eq 6, 3) := by decide +kernel
theorem dX9_call_18 : decode cX9_call 18 = .ok (.iload 7, 2) := by decide +kernel
theorem dX9_call_20 : decode cX9_call 20 = .ok (.ireturn, 1) := by decide +kernel
theorem dX9_call_21 : decode cX9_call 21 = .ok (.aload_n 0, 1) := by decide +kernel
theorem dX9_call_22 : decode cX9_call 22 = .ok (.getfield 35, 3) := by decide +kernel
theorem dX9_call_25 : decode cX9_call 25 = .ok (.iload_n 1, 1) := by decide +kernel
theorem dX9_call_26 : decode cX9_call 26 = .ok (.iload_n 2, 1) := by decide +kernel
theorem dX9_call_27 : decode cX9_call 27 = .ok (.iload_n 3, 1) := by decide +kernel
theorem dX9_call_28 : decode cX9_call 28 = .ok (.iload 4, 2) := by decide +kernel
theorem dX9_call_30 : decode cX9_call 30 = .ok (.iload 5, 2) := by decide +kernel
theorem dX9_call_32 : decode cX9_call 32 = .ok (.iload 6, 2) := by decide +kernel
theorem dX9_call_34 : decode cX9_call 34 = .ok (.invokevirtual 74, 3) := by decide +kernel
theorem dX9_call_37 : decode cX9_call 37 = .ok (.aload_n 0, 1) := by decide +kernel
theorem dX9_call_38 : decode cX9_call 38 = .ok (.getfield 26, 3) := by decide +kernel
theorem dX9_call_41 : decode cX9_call 41 = .ok (.getfield 78, 3) := by decide +kernel
theorem dX9_call_44 : decode cX9_call 44 = .ok (.ifCond .eq 7, 3) := by decide +kernel
theorem dX9_call_47 : decode cX9_call 47 = .ok (.iconst 0, 1) := by decide +kernel
theorem dX9_call_48 : decode cX9_call 48 = .ok (.goto 4, 3) := by decide +kernel
theorem dX9_call_51 : decode cX9_call 51 = .ok (.iconst 1, 1) := by decide +kernel
theorem dX9_call_52 : decode cX9_call 52 = .ok (.ireturn, 1) := by decide +kernel
theorem dX9_told_0 : decode cX9_told 0 = .ok (.iload_n 1, 1) := by decide +kernel
theorem dX9_told_1 : decode cX9_told 1 = .ok (.iconst 0, 1) := by decide +kernel
theorem dX9_told_2 : decode cX9_told 2 = .ok (.iconst 5, 1) := by decide +kernel
theorem dX9_told_3 : decode cX9_told 3 = .ok (.invokestatic 81, 3) := by decide +kernel
theorem dX9_told_6 : decode cX9_told 6 = .ok (.ifCond .ne 6, 3) := by decide +kernel
theorem dX9_told_9 : decode cX9_told 9 = .ok (.bipush (-102), 2) := by decide +kernel
theorem dX9_told_11 : decode cX9_told 11 = .ok (.ireturn, 1) := by decide +kernel
theorem dX9_told_12 : decode cX9_told 12 = .ok (.aload_n 0, 1) := by decide +kernel
theorem dX9_told_13 : decode cX9_told 13 = .ok (.getfield 26, 3) := by decide +kernel
theorem dX9_told_16 : decode cX9_told 16 = .ok (.getfield 84, 3) := by decide +kernel
theorem dX9_told_19 : decode cX9_told 19 = .ok (.ifCond .ne 6, 3) := by decide +kernel
theorem dX9_told_22 : decode cX9_told 22 = .ok (.bipush (-103), 2) := by decide +kernel
theorem dX9_told_24 : decode cX9_told 24 = .ok (.ireturn, 1) := by decide +kernel
theorem dX9_told_25 : decode cX9_told 25 = .ok (.iload_n 1, 1) := by decide +kernel
theorem dX9_told_26 : decode cX9_told 26 = .ok (.tableswitch 74 0 4 #[34, 42, 50, 58, 66], 34) := by decide +kernel
theorem dX9_told_60 : decode cX9_told 60 = .ok (.aload_n 0, 1) := by decide +kernel
theorem dX9_told_61 : decode cX9_told 61 = .ok (.getfield 26, 3) := by decide +kernel
theorem dX9_told_64 : decode cX9_told 64 = .ok (.getfield 87, 3) := by decide +kernel
theorem dX9_told_67 : decode cX9_told 67 = .ok (.ireturn, 1) := by decide +kernel
theorem dX9_told_68 : decode cX9_told 68 = .ok (.aload_n 0, 1) := by decide +kernel
theorem dX9_told_69 : decode cX9_told 69 = .ok (.getfield 26, 3) := by decide +kernel
theorem dX9_told_72 : decode cX9_told 72 = .ok (.getfield 90, 3) := by decide +kernel
theorem dX9_told_75 : decode cX9_told 75 = .ok (.ireturn, 1) := by decide +kernel
theorem dX9_told_76 : decode cX9_told 76 = .ok (.aload_n 0, 1) := by decide +kernel
theorem dX9_told_77 : decode cX9_told 77 = .ok (.getfield 26, 3) := by decide +kernel
theorem dX9_told_80 : decode cX9_told 80 = .ok (.getfield 93, 3) := by decide +kernel
theorem dX9_told_83 : decode cX9_told 83 = .ok (.ireturn, 1) := by decide +kernel
theorem dX9_told_84 : decode cX9_told 84 = .ok (.aload_n 0, 1) := by decide +kernel
theorem dX9_told_85 : decode cX9_told 85 = .ok (.getfield 26, 3) := by decide +kernel
theorem dX9_told_88 : decode cX9_told 88 = .ok (.getfield 96, 3) := by decide +kernel
theorem dX9_told_91 : decode cX9_told 91 = .ok (.ireturn, 1) := by decide +kernel
theorem dX9_told_92 : decode cX9_told 92 = .ok (.aload_n 0, 1) := by decide +kernel
theorem dX9_told_93 : decode cX9_told 93 = .ok (.getfield 26, 3) := by decide +kernel
theorem dX9_told_96 : decode cX9_told 96 = .ok (.getfield 99, 3) := by decide +kernel
theorem dX9_told_99 : decode cX9_told 99 = .ok (.ireturn, 1) := by decide +kernel
theorem dX9_told_100 : decode cX9_told 100 = .ok (.aload_n 0, 1) := by decide +kernel
theorem dX9_told_101 : decode cX9_told 101 = .ok (.getfield 19, 3) := by decide +kernel
theorem dX9_told_104 : decode cX9_told 104 = .ok (.getfield 102, 3) := by decide +kernel
theorem dX9_told_107 : decode cX9_told 107 = .ok (.ireturn, 1) := by decide +kernel
theorem dX9_frame_0 : decode cX9_frame 0 = .ok (.iload_n 2, 1) := by decide +kernel
theorem dX9_frame_1 : decode cX9_frame 1 = .ok (.iconst 0, 1) := by decide +kernel
theorem dX9_frame_2 : decode cX9_frame 2 = .ok (.bipush 6, 2) := by decide +kernel
theorem dX9_frame_4 : decode cX9_frame 4 = .ok (.invokestatic 81, 3) := by decide +kernel
theorem dX9_frame_7 : decode cX9_frame 7 = .ok (.ifCond .ne 6, 3) := by decide +kernel
theorem dX9_frame_10 : decode cX9_frame 10 = .ok (.bipush (-102), 2) := by decide +kernel
theorem dX9_frame_12 : decode cX9_frame 12 = .ok (.ireturn, 1) := by decide +kernel
theorem dX9_frame_13 : decode cX9_frame 13 = .ok (.iload_n 1, 1) := by decide +kernel
theorem dX9_frame_14 : decode cX9_frame 14 = .ok (.iconst 0, 1) := by decide +kernel
theorem dX9_frame_15 : decode cX9_frame 15 = .ok (.aload_n 0, 1) := by decide +kernel
theorem dX9_frame_16 : decode cX9_frame 16 = .ok (.getfield 26, 3) := by decide +kernel
theorem dX9_frame_19 : decode cX9_frame 19 = .ok (.invokevirtual 105, 3) := by decide +kernel
theorem dX9_frame_22 : decode cX9_frame 22 = .ok (.iconst 1, 1) := by decide +kernel
theorem dX9_frame_23 : decode cX9_frame 23 = .ok (.isub, 1) := by decide +kernel
theorem dX9_frame_24 : decode cX9_frame 24 = .ok (.invokestatic 81, 3) := by decide +kernel
theorem dX9_frame_27 : decode cX9_frame 27 = .ok (.ifCond .ne 6, 3) := by decide +kernel
theorem dX9_frame_30 : decode cX9_frame 30 = .ok (.bipush (-109), 2) := by decide +kernel
theorem dX9_frame_32 : decode cX9_frame 32 = .ok (.ireturn, 1) := by decide +kernel
theorem dX9_frame_33 : decode cX9_frame 33 = .ok (.aload_n 0, 1) := by decide +kernel
theorem dX9_frame_34 : decode cX9_frame 34 = .ok (.getfield 26, 3) := by decide +kernel
theorem dX9_frame_37 : decode cX9_frame 37 = .ok (.getfield 109, 3) := by decide +kernel
theorem dX9_frame_40 : decode cX9_frame 40 = .ok (.iload_n 1, 1) := by decide +kernel
theorem dX9_frame_41 : decode cX9_frame 41 = .ok (.bipush 7, 2) := by decide +kernel
theorem dX9_frame_43 : decode cX9_frame 43 = .ok (.imul, 1) := by decide +kernel
theorem dX9_frame_44 : decode cX9_frame 44 = .ok (.iload_n 2, 1) := by decide +kernel
theorem dX9_frame_45 : decode cX9_frame 45 = .ok (.iadd, 1) := by decide +kernel
theorem dX9_frame_46 : decode cX9_frame 46 = .ok (.iaload, 1) := by decide +kernel
theorem dX9_frame_47 : decode cX9_frame 47 = .ok (.ireturn, 1) := by decide +kernel
theorem dX9_event_0 : decode cX9_event 0 = .ok (.iload_n 2, 1) := by decide +kernel
theorem dX9_event_1 : decode cX9_event 1 = .ok (.iconst 0, 1) := by decide +kernel
theorem dX9_event_2 : decode cX9_event 2 = .ok (.iconst 3, 1) := by decide +kernel
theorem dX9_event_3 : decode cX9_event 3 = .ok (.invokestatic 81, 3) := by decide +kernel
theorem dX9_event_6 : decode cX9_event 6 = .ok (.ifCond .ne 6, 3) := by decide +kernel
theorem dX9_event_9 : decode cX9_event 9 = .ok (.bipush (-102), 2) := by decide +kernel
theorem dX9_event_11 : decode cX9_event 11 = .ok (.ireturn, 1) := by decide +kernel
theorem dX9_event_12 : decode cX9_event 12 = .ok (.iload_n 1, 1) := by decide +kernel
theorem dX9_event_13 : decode cX9_event 13 = .ok (.iconst 0, 1) := by decide +kernel
theorem dX9_event_14 : decode cX9_event 14 = .ok (.aload_n 0, 1) := by decide +kernel
theorem dX9_event_15 : decode cX9_event 15 = .ok (.getfield 19, 3) := by decide +kernel
theorem dX9_event_18 : decode cX9_event 18 = .ok (.getfield 102, 3) := by decide +kernel
theorem dX9_event_21 : decode cX9_event 21 = .ok (.iconst 1, 1) := by decide +kernel
theorem dX9_event_22 : decode cX9_event 22 = .ok (.isub, 1) := by decide +kernel
theorem dX9_event_23 : decode cX9_event 23 = .ok (.invokestatic 81, 3) := by decide +kernel
theorem dX9_event_26 : decode cX9_event 26 = .ok (.ifCond .ne 6, 3) := by decide +kernel
theorem dX9_event_29 : decode cX9_event 29 = .ok (.bipush (-109), 2) := by decide +kernel
theorem dX9_event_31 : decode cX9_event 31 = .ok (.ireturn, 1) := by decide +kernel
theorem dX9_event_32 : decode cX9_event 32 = .ok (.aload_n 0, 1) := by decide +kernel
theorem dX9_event_33 : decode cX9_event 33 = .ok (.getfield 19, 3) := by decide +kernel
theorem dX9_event_36 : decode cX9_event 36 = .ok (.getfield 113, 3) := by decide +kernel
theorem dX9_event_39 : decode cX9_event 39 = .ok (.iload_n 1, 1) := by decide +kernel
theorem dX9_event_40 : decode cX9_event 40 = .ok (.iconst 4, 1) := by decide +kernel
theorem dX9_event_41 : decode cX9_event 41 = .ok (.imul, 1) := by decide +kernel
theorem dX9_event_42 : decode cX9_event 42 = .ok (.iload_n 2, 1) := by decide +kernel
theorem dX9_event_43 : decode cX9_event 43 = .ok (.iadd, 1) := by decide +kernel
theorem dX9_event_44 : decode cX9_event 44 = .ok (.iaload, 1) := by decide +kernel
theorem dX9_event_45 : decode cX9_event 45 = .ok (.ireturn, 1) := by decide +kernel
theorem dX9_store_0 : decode cX9_store 0 = .ok (.aload_n 0, 1) := by decide +kernel
theorem dX9_store_1 : decode cX9_store 1 = .ok (.getfield 10, 3) := by decide +kernel
theorem dX9_store_4 : decode cX9_store 4 = .ok (.iload_n 1, 1) := by decide +kernel
theorem dX9_store_5 : decode cX9_store 5 = .ok (.invokevirtual 116, 3) := by decide +kernel
theorem dX9_store_8 : decode cX9_store 8 = .ok (.ifCond .ne 6, 3) := by decide +kernel
theorem dX9_store_11 : decode cX9_store 11 = .ok (.bipush (-101), 2) := by decide +kernel
theorem dX9_store_13 : decode cX9_store 13 = .ok (.ireturn, 1) := by decide +kernel
theorem dX9_store_14 : decode cX9_store 14 = .ok (.iload_n 2, 1) := by decide +kernel
theorem dX9_store_15 : decode cX9_store 15 = .ok (.iconst 0, 1) := by decide +kernel
theorem dX9_store_16 : decode cX9_store 16 = .ok (.bipush 7, 2) := by decide +kernel
theorem dX9_store_18 : decode cX9_store 18 = .ok (.invokestatic 81, 3) := by decide +kernel
theorem dX9_store_21 : decode cX9_store 21 = .ok (.ifCond .ne 6, 3) := by decide +kernel
theorem dX9_store_24 : decode cX9_store 24 = .ok (.bipush (-109), 2) := by decide +kernel
theorem dX9_store_26 : decode cX9_store 26 = .ok (.ireturn, 1) := by decide +kernel
theorem dX9_store_27 : decode cX9_store 27 = .ok (.aload_n 0, 1) := by decide +kernel
theorem dX9_store_28 : decode cX9_store 28 = .ok (.getfield 19, 3) := by decide +kernel
theorem dX9_store_31 : decode cX9_store 31 = .ok (.getfield 120, 3) := by decide +kernel
theorem dX9_store_34 : decode cX9_store 34 = .ok (.iload_n 1, 1) := by decide +kernel
theorem dX9_store_35 : decode cX9_store 35 = .ok (.bipush 8, 2) := by decide +kernel
theorem dX9_store_37 : decode cX9_store 37 = .ok (.imul, 1) := by decide +kernel
theorem dX9_store_38 : decode cX9_store 38 = .ok (.iload_n 2, 1) := by decide +kernel
theorem dX9_store_39 : decode cX9_store 39 = .ok (.iadd, 1) := by decide +kernel
theorem dX9_store_40 : decode cX9_store 40 = .ok (.iaload, 1) := by decide +kernel
theorem dX9_store_41 : decode cX9_store 41 = .ok (.ireturn, 1) := by decide +kernel
theorem dX9_coins_0 : decode cX9_coins 0 = .ok (.iload_n 1, 1) := by decide +kernel
theorem dX9_coins_1 : decode cX9_coins 1 = .ok (.tableswitch 89 0 2 #[27, 53, 78], 27) := by decide +kernel
theorem dX9_coins_28 : decode cX9_coins 28 = .ok (.aload_n 0, 1) := by decide +kernel
theorem dX9_coins_29 : decode cX9_coins 29 = .ok (.getfield 10, 3) := by decide +kernel
theorem dX9_coins_32 : decode cX9_coins 32 = .ok (.iload_n 2, 1) := by decide +kernel
theorem dX9_coins_33 : decode cX9_coins 33 = .ok (.invokevirtual 116, 3) := by decide +kernel
theorem dX9_coins_36 : decode cX9_coins 36 = .ok (.ifCond .eq 15, 3) := by decide +kernel
theorem dX9_coins_39 : decode cX9_coins 39 = .ok (.aload_n 0, 1) := by decide +kernel
theorem dX9_coins_40 : decode cX9_coins 40 = .ok (.getfield 19, 3) := by decide +kernel
theorem dX9_coins_43 : decode cX9_coins 43 = .ok (.getfield 123, 3) := by decide +kernel
theorem dX9_coins_46 : decode cX9_coins 46 = .ok (.iload_n 2, 1) := by decide +kernel
theorem dX9_coins_47 : decode cX9_coins 47 = .ok (.iaload, 1) := by decide +kernel
theorem dX9_coins_48 : decode cX9_coins 48 = .ok (.goto 5, 3) := by decide +kernel
theorem dX9_coins_51 : decode cX9_coins 51 = .ok (.bipush (-101), 2) := by decide +kernel
theorem dX9_coins_53 : decode cX9_coins 53 = .ok (.ireturn, 1) := by decide +kernel
theorem dX9_coins_54 : decode cX9_coins 54 = .ok (.iload_n 2, 1) := by decide +kernel
theorem dX9_coins_55 : decode cX9_coins 55 = .ok (.invokestatic 126, 3) := by decide +kernel
theorem dX9_coins_58 : decode cX9_coins 58 = .ok (.ifCond .eq 18, 3) := by decide +kernel
theorem dX9_coins_61 : decode cX9_coins 61 = .ok (.aload_n 0, 1) := by decide +kernel
theorem dX9_coins_62 : decode cX9_coins 62 = .ok (.getfield 19, 3) := by decide +kernel
theorem dX9_coins_65 : decode cX9_coins 65 = .ok (.getfield 123, 3) := by decide +kernel
theorem dX9_coins_68 : decode cX9_coins 68 = .ok (.bipush 8, 2) := by decide +kernel
theorem dX9_coins_70 : decode cX9_coins 70 = .ok (.iload_n 2, 1) := by decide +kernel
theorem dX9_coins_71 : decode cX9_coins 71 = .ok (.iadd, 1) := by decide +kernel
theorem dX9_coins_72 : decode cX9_coins 72 = .ok (.iaload, 1) := by decide +kernel
theorem dX9_coins_73 : decode cX9_coins 73 = .ok (.goto 5, 3) := by decide +kernel
theorem dX9_coins_76 : decode cX9_coins 76 = .ok (.bipush (-101), 2) := by decide +kernel
theorem dX9_coins_78 : decode cX9_coins 78 = .ok (.ireturn, 1) := by decide +kernel
theorem dX9_coins_79 : decode cX9_coins 79 = .ok (.aload_n 0, 1) := by decide +kernel
theorem dX9_coins_80 : decode cX9_coins 80 = .ok (.getfield 19, 3) := by decide +kernel
theorem dX9_coins_83 : decode cX9_coins 83 = .ok (.getfield 123, 3) := by decide +kernel
theorem dX9_coins_86 : decode cX9_coins 86 = .ok (.bipush 12, 2) := by decide +kernel
theorem dX9_coins_88 : decode cX9_coins 88 = .ok (.iaload, 1) := by decide +kernel
theorem dX9_coins_89 : decode cX9_coins 89 = .ok (.ireturn, 1) := by decide +kernel
theorem dX9_coins_90 : decode cX9_coins 90 = .ok (.bipush (-102), 2) := by decide +kernel
theorem dX9_coins_92 : decode cX9_coins 92 = .ok (.ireturn, 1) := by decide +kernel
theorem dX9_count_0 : decode cX9_count 0 = .ok (.iload_n 1, 1) := by decide +kernel
theorem dX9_count_1 : decode cX9_count 1 = .ok (.tableswitch 63 0 3 #[31, 39, 47, 55], 31) := by decide +kernel
theorem dX9_count_32 : decode cX9_count 32 = .ok (.aload_n 0, 1) := by decide +kernel
theorem dX9_count_33 : decode cX9_count 33 = .ok (.getfield 10, 3) := by decide +kernel
theorem dX9_count_36 : decode cX9_count 36 = .ok (.getfield 39, 3) := by decide +kernel
theorem dX9_count_39 : decode cX9_count 39 = .ok (.ireturn, 1) := by decide +kernel
theorem dX9_count_40 : decode cX9_count 40 = .ok (.aload_n 0, 1) := by decide +kernel
theorem dX9_count_41 : decode cX9_count 41 = .ok (.getfield 26, 3) := by decide +kernel
theorem dX9_count_44 : decode cX9_count 44 = .ok (.getfield 129, 3) := by decide +kernel
theorem dX9_count_47 : decode cX9_count 47 = .ok (.ireturn, 1) := by decide +kernel
theorem dX9_count_48 : decode cX9_count 48 = .ok (.aload_n 0, 1) := by decide +kernel
theorem dX9_count_49 : decode cX9_count 49 = .ok (.getfield 26, 3) := by decide +kernel
theorem dX9_count_52 : decode cX9_count 52 = .ok (.getfield 132, 3) := by decide +kernel
theorem dX9_count_55 : decode cX9_count 55 = .ok (.ireturn, 1) := by decide +kernel
theorem dX9_count_56 : decode cX9_count 56 = .ok (.aload_n 0, 1) := by decide +kernel
theorem dX9_count_57 : decode cX9_count 57 = .ok (.getfield 10, 3) := by decide +kernel
theorem dX9_count_60 : decode cX9_count 60 = .ok (.invokevirtual 135, 3) := by decide +kernel
theorem dX9_count_63 : decode cX9_count 63 = .ok (.ireturn, 1) := by decide +kernel
theorem dX9_count_64 : decode cX9_count 64 = .ok (.bipush (-102), 2) := by decide +kernel
theorem dX9_count_66 : decode cX9_count 66 = .ok (.ireturn, 1) := by decide +kernel
theorem dX9_clear_0 : decode cX9_clear 0 = .ok (.aload_n 0, 1) := by decide +kernel
theorem dX9_clear_1 : decode cX9_clear 1 = .ok (.getfield 10, 3) := by decide +kernel
theorem dX9_clear_4 : decode cX9_clear 4 = .ok (.getfield 39, 3) := by decide +kernel
theorem dX9_clear_7 : decode cX9_clear 7 = .ok (.istore_n 1, 1) := by decide +kernel
theorem dX9_clear_8 : decode cX9_clear 8 = .ok (.aload_n 0, 1) := by decide +kernel
theorem dX9_clear_9 : decode cX9_clear 9 = .ok (.getfield 10, 3) := by decide +kernel
theorem dX9_clear_12 : decode cX9_clear 12 = .ok (.invokevirtual 138, 3) := by decide +kernel
theorem dX9_clear_15 : decode cX9_clear 15 = .ok (.aload_n 0, 1) := by decide +kernel
theorem dX9_clear_16 : decode cX9_clear 16 = .ok (.getfield 19, 3) := by decide +kernel
theorem dX9_clear_19 : decode cX9_clear 19 = .ok (.invokevirtual 141, 3) := by decide +kernel
theorem dX9_clear_22 : decode cX9_clear 22 = .ok (.aload_n 0, 1) := by decide +kernel
theorem dX9_clear_23 : decode cX9_clear 23 = .ok (.getfield 26, 3) := by decide +kernel
theorem dX9_clear_26 : decode cX9_clear 26 = .ok (.invokevirtual 142, 3) := by decide +kernel
theorem dX9_clear_29 : decode cX9_clear 29 = .ok (.iload_n 1, 1) := by decide +kernel
theorem dX9_clear_30 : decode cX9_clear 30 = .ok (.ireturn, 1) := by decide +kernel
theorem dX9_refusedMember_0 : decode cX9_refusedMember 0 = .ok (.aload_n 0, 1) := by decide +kernel
theorem dX9_refusedMember_1 : decode cX9_refusedMember 1 = .ok (.getfield 10, 3) := by decide +kernel
theorem dX9_refusedMember_4 : decode cX9_refusedMember 4 = .ok (.iload_n 1, 1) := by decide +kernel
theorem dX9_refusedMember_5 : decode cX9_refusedMember 5 = .ok (.invokevirtual 116, 3) := by decide +kernel
theorem dX9_refusedMember_8 : decode cX9_refusedMember 8 = .ok (.ifCond .ne 6, 3) := by decide +kernel
theorem dX9_refusedMember_11 : decode cX9_refusedMember 11 = .ok (.bipush (-101), 2) := by decide +kernel
theorem dX9_refusedMember_13 : decode cX9_refusedMember 13 = .ok (.ireturn, 1) := by decide +kernel
theorem dX9_refusedMember_14 : decode cX9_refusedMember 14 = .ok (.iload_n 2, 1) := by decide +kernel
theorem dX9_refusedMember_15 : decode cX9_refusedMember 15 = .ok (.iconst 0, 1) := by decide +kernel
theorem dX9_refusedMember_16 : decode cX9_refusedMember 16 = .ok (.iconst 3, 1) := by decide +kernel
theorem dX9_refusedMember_17 : decode cX9_refusedMember 17 = .ok (.invokestatic 81, 3) := by decide +kernel
theorem dX9_refusedMember_20 : decode cX9_refusedMember 20 = .ok (.ifCond .eq 7, 3) := by decide +kernel
theorem dX9_refusedMember_23 : decode cX9_refusedMember 23 = .ok (.iconst 0, 1) := by decide +kernel
theorem dX9_refusedMember_24 : decode cX9_refusedMember 24 = .ok (.goto 5, 3) := by decide +kernel
theorem dX9_refusedMember_27 : decode cX9_refusedMember 27 = .ok (.bipush (-102), 2) := by decide +kernel
theorem dX9_refusedMember_29 : decode cX9_refusedMember 29 = .ok (.ireturn, 1) := by decide +kernel
theorem dX9_refusedCall_0 : decode cX9_refusedCall 0 = .ok (.iload_n 1, 1) := by decide +kernel
theorem dX9_refusedCall_1 : decode cX9_refusedCall 1 = .ok (.invokestatic 126, 3) := by decide +kernel
theorem dX9_refusedCall_4 : decode cX9_refusedCall 4 = .ok (.ifCond .ne 6, 3) := by decide +kernel
theorem dX9_refusedCall_7 : decode cX9_refusedCall 7 = .ok (.bipush (-101), 2) := by decide +kernel
theorem dX9_refusedCall_9 : decode cX9_refusedCall 9 = .ok (.ireturn, 1) := by decide +kernel
theorem dX9_refusedCall_10 : decode cX9_refusedCall 10 = .ok (.aload_n 0, 1) := by decide +kernel
theorem dX9_refusedCall_11 : decode cX9_refusedCall 11 = .ok (.iload_n 2, 1) := by decide +kernel
theorem dX9_refusedCall_12 : decode cX9_refusedCall 12 = .ok (.iload_n 3, 1) := by decide +kernel
theorem dX9_refusedCall_13 : decode cX9_refusedCall 13 = .ok (.invokevirtual 43, 3) := by decide +kernel
theorem dX9_refusedCall_16 : decode cX9_refusedCall 16 = .ok (.istore 6, 2) := by decide +kernel
theorem dX9_refusedCall_18 : decode cX9_refusedCall 18 = .ok (.iload 6, 2) := by decide +kernel
theorem dX9_refusedCall_20 : decode cX9_refusedCall 20 = .ok (.ifCond .eq 6, 3) := by decide +kernel
theorem dX9_refusedCall_23 : decode cX9_refusedCall 23 = .ok (.iload 6, 2) := by decide +kernel
theorem dX9_refusedCall_25 : decode cX9_refusedCall 25 = .ok (.ireturn, 1) := by decide +kernel
theorem dX9_refusedCall_26 : decode cX9_refusedCall 26 = .ok (.iload 4, 2) := by decide +kernel
theorem dX9_refusedCall_28 : decode cX9_refusedCall 28 = .ok (.iconst 0, 1) := by decide +kernel
theorem dX9_refusedCall_29 : decode cX9_refusedCall 29 = .ok (.sipush 10000, 3) := by decide +kernel
theorem dX9_refusedCall_32 : decode cX9_refusedCall 32 = .ok (.invokestatic 81, 3) := by decide +kernel
theorem dX9_refusedCall_35 : decode cX9_refusedCall 35 = .ok (.ifCond .eq 15, 3) := by decide +kernel
theorem dX9_refusedCall_38 : decode cX9_refusedCall 38 = .ok (.iload 5, 2) := by decide +kernel
theorem dX9_refusedCall_40 : decode cX9_refusedCall 40 = .ok (.iconst 1, 1) := by decide +kernel
theorem dX9_refusedCall_41 : decode cX9_refusedCall 41 = .ok (.sipush 1000, 3) := by decide +kernel
theorem dX9_refusedCall_44 : decode cX9_refusedCall 44 = .ok (.invokestatic 81, 3) := by decide +kernel
theorem dX9_refusedCall_47 : decode cX9_refusedCall 47 = .ok (.ifCond .ne 6, 3) := by decide +kernel
theorem dX9_refusedCall_50 : decode cX9_refusedCall 50 = .ok (.bipush (-102), 2) := by decide +kernel
theorem dX9_refusedCall_52 : decode cX9_refusedCall 52 = .ok (.ireturn, 1) := by decide +kernel
theorem dX9_refusedCall_53 : decode cX9_refusedCall 53 = .ok (.aload_n 0, 1) := by decide +kernel
theorem dX9_refusedCall_54 : decode cX9_refusedCall 54 = .ok (.getfield 19, 3) := by decide +kernel
theorem dX9_refusedCall_57 : decode cX9_refusedCall 57 = .ok (.getfield 123, 3) := by decide +kernel
theorem dX9_refusedCall_60 : decode cX9_refusedCall 60 = .ok (.bipush 8, 2) := by decide +kernel
theorem dX9_refusedCall_62 : decode cX9_refusedCall 62 = .ok (.iload_n 1, 1) := by decide +kernel
theorem dX9_refusedCall_63 : decode cX9_refusedCall 63 = .ok (.iadd, 1) := by decide +kernel
theorem dX9_refusedCall_64 : decode cX9_refusedCall 64 = .ok (.iaload, 1) := by decide +kernel
theorem dX9_refusedCall_65 : decode cX9_refusedCall 65 = .ok (.iload 4, 2) := by decide +kernel
theorem dX9_refusedCall_67 : decode cX9_refusedCall 67 = .ok (.iload 5, 2) := by decide +kernel
theorem dX9_refusedCall_69 : decode cX9_refusedCall 69 = .ok (.iadd, 1) := by decide +kernel
theorem dX9_refusedCall_70 : decode cX9_refusedCall 70 = .ok (.if_icmp .ge 7, 3) := by decide +kernel
theorem dX9_refusedCall_73 : decode cX9_refusedCall 73 = .ok (.iconst 1, 1) := by decide +kernel
theorem dX9_refusedCall_74 : decode cX9_refusedCall 74 = .ok (.goto 4, 3) := by decide +kernel
theorem dX9_refusedCall_77 : decode cX9_refusedCall 77 = .ok (.iconst 0, 1) := by decide +kernel
theorem dX9_refusedCall_78 : decode cX9_refusedCall 78 = .ok (.istore 7, 2) := by decide +kernel
theorem dX9_refusedCall_80 : decode cX9_refusedCall 80 = .ok (.iload 7, 2) := by decide +kernel
theorem dX9_refusedCall_82 : decode cX9_refusedCall 82 = .ok (.ifCond .ne 18, 3) := by decide +kernel
theorem dX9_refusedCall_85 : decode cX9_refusedCall 85 = .ok (.aload_n 0, 1) := by decide +kernel
theorem dX9_refusedCall_86 : decode cX9_refusedCall 86 = .ok (.getfield 10, 3) := by decide +kernel
theorem dX9_refusedCall_89 : decode cX9_refusedCall 89 = .ok (.iload_n 2, 1) := by decide +kernel
theorem dX9_refusedCall_90 : decode cX9_refusedCall 90 = .ok (.iload_n 3, 1) := by decide +kernel
theorem dX9_refusedCall_91 : decode cX9_refusedCall 91 = .ok (.invokevirtual 53, 3) := by decide +kernel
theorem dX9_refusedCall_94 : decode cX9_refusedCall 94 = .ok (.getfield 57, 3) := by decide +kernel
theorem dX9_refusedCall_97 : decode cX9_refusedCall 97 = .ok (.ifCond .ne 8, 3) := by decide +kernel
theorem dX9_refusedCall_100 : decode cX9_refusedCall 100 = .ok (.bipush (-103), 2) := by decide +kernel
theorem dX9_refusedCall_102 : decode cX9_refusedCall 102 = .ok (.goto 4, 3) := by decide +kernel
theorem dX9_refusedCall_105 : decode cX9_refusedCall 105 = .ok (.iconst 0, 1) := by decide +kernel
theorem dX9_refusedCall_106 : decode cX9_refusedCall 106 = .ok (.ireturn, 1) := by decide +kernel
theorem dX9_isUser_0 : decode cX9_isUser 0 = .ok (.iload_n 0, 1) := by decide +kernel
theorem dX9_isUser_1 : decode cX9_isUser 1 = .ok (.iconst 0, 1) := by decide +kernel
theorem dX9_isUser_2 : decode cX9_isUser 2 = .ok (.iconst 3, 1) := by decide +kernel
theorem dX9_isUser_3 : decode cX9_isUser 3 = .ok (.invokestatic 81, 3) := by decide +kernel
theorem dX9_isUser_6 : decode cX9_isUser 6 = .ok (.ireturn, 1) := by decide +kernel
theorem dX9_within_0 : decode cX9_within 0 = .ok (.iload_n 0, 1) := by decide +kernel
theorem dX9_within_1 : decode cX9_within 1 = .ok (.iload_n 1, 1) := by decide +kernel
theorem dX9_within_2 : decode cX9_within 2 = .ok (.if_icmp .lt 12, 3) := by decide +kernel
theorem dX9_within_5 : decode cX9_within 5 = .ok (.iload_n 0, 1) := by decide +kernel
theorem dX9_within_6 : decode cX9_within 6 = .ok (.iload_n 2, 1) := by decide +kernel
theorem dX9_within_7 : decode cX9_within 7 = .ok (.if_icmp .gt 7, 3) := by decide +kernel
theorem dX9_within_10 : decode cX9_within 10 = .ok (.iconst 1, 1) := by decide +kernel
theorem dX9_within_11 : decode cX9_within 11 = .ok (.goto 4, 3) := by decide +kernel
theorem dX9_within_14 : decode cX9_within 14 = .ok (.iconst 0, 1) := by decide +kernel
theorem dX9_within_15 : decode cX9_within 15 = .ok (.ireturn, 1) := by decide +kernel
theorem dX10_init_0 : decode cX10_init 0 = .ok (.aload_n 0, 1) := by decide +kernel
theorem dX10_init_1 : decode cX10_init 1 = .ok (.invokespecial 1, 3) := by decide +kernel
theorem dX10_init_4 : decode cX10_init 4 = .ok (.aload_n 0, 1) := by decide +kernel
theorem dX10_init_5 : decode cX10_init 5 = .ok (.iconst 4, 1) := by decide +kernel
theorem dX10_init_6 : decode cX10_init 6 = .ok (.newarray .int, 2) := by decide +kernel
theorem dX10_init_8 : decode cX10_init 8 = .ok (.putfield 7, 3) := by decide +kernel
theorem dX10_init_11 : decode cX10_init 11 = .ok (.aload_n 0, 1) := by decide +kernel
theorem dX10_init_12 : decode cX10_init 12 = .ok (.bipush 8, 2) := by decide +kernel
theorem dX10_init_14 : decode cX10_init 14 = .ok (.newarray .int, 2) := by decide +kernel
theorem dX10_init_16 : decode cX10_init 16 = .ok (.putfield 13, 3) := by decide +kernel
theorem dX10_init_19 : decode cX10_init 19 = .ok (.aload_n 0, 1) := by decide +kernel
theorem dX10_init_20 : decode cX10_init 20 = .ok (.bipush 64, 2) := by decide +kernel
theorem dX10_init_22 : decode cX10_init 22 = .ok (.newarray .int, 2) := by decide +kernel
theorem dX10_init_24 : decode cX10_init 24 = .ok (.putfield 16, 3) := by decide +kernel
theorem dX10_init_27 : decode cX10_init 27 = .ok (.aload_n 0, 1) := by decide +kernel
theorem dX10_init_28 : decode cX10_init 28 = .ok (.bipush 32, 2) := by decide +kernel
theorem dX10_init_30 : decode cX10_init 30 = .ok (.newarray .int, 2) := by decide +kernel
theorem dX10_init_32 : decode cX10_init 32 = .ok (.putfield 19, 3) := by decide +kernel
theorem dX10_init_35 : decode cX10_init 35 = .ok (.aload_n 0, 1) := by decide +kernel
theorem dX10_init_36 : decode cX10_init 36 = .ok (.bipush 32, 2) := by decide +kernel
theorem dX10_init_38 : decode cX10_init 38 = .ok (.newarray .boolean, 2) := by decide +kernel
theorem dX10_init_40 : decode cX10_init 40 = .ok (.putfield 22, 3) := by decide +kernel
theorem dX10_init_43 : decode cX10_init 43 = .ok (.aload_n 0, 1) := by decide +kernel
theorem dX10_init_44 : decode cX10_init 44 = .ok (.sipush 640, 3) := by decide +kernel
theorem dX10_init_47 : decode cX10_init 47 = .ok (.newarray .int, 2) := by decide +kernel
theorem dX10_init_49 : decode cX10_init 49 = .ok (.putfield 26, 3) := by decide +kernel
theorem dX10_init_52 : decode cX10_init 52 = .ok (.aload_n 0, 1) := by decide +kernel
theorem dX10_init_53 : decode cX10_init 53 = .ok (.sipush 640, 3) := by decide +kernel
theorem dX10_init_56 : decode cX10_init 56 = .ok (.newarray .int, 2) := by decide +kernel
theorem dX10_init_58 : decode cX10_init 58 = .ok (.putfield 29, 3) := by decide +kernel
theorem dX10_init_61 : decode cX10_init 61 = .ok (.aload_n 0, 1) := by decide +kernel
theorem dX10_init_62 : decode cX10_init 62 = .ok (.sipush 640, 3) := by decide +kernel
theorem dX10_init_65 : decode cX10_init 65 = .ok (.newarray .int, 2) := by decide +kernel
theorem dX10_init_67 : decode cX10_init 67 = .ok (.putfield 32, 3) := by decide +kernel
theorem dX10_init_70 : decode cX10_init 70 = .ok (.aload_n 0, 1) := by decide +kernel
theorem dX10_init_71 : decode cX10_init 71 = .ok (.bipush 8, 2) := by decide +kernel
theorem dX10_init_73 : decode cX10_init 73 = .ok (.newarray .int, 2) := by decide +kernel
theorem dX10_init_75 : decode cX10_init 75 = .ok (.putfield 35, 3) := by decide +kernel
theorem dX10_init_78 : decode cX10_init 78 = .ok (.aload_n 0, 1) := by decide +kernel
theorem dX10_init_79 : decode cX10_init 79 = .ok (.bipush 8, 2) := by decide +kernel
theorem dX10_init_81 : decode cX10_init 81 = .ok (.newarray .int, 2) := by decide +kernel
theorem dX10_init_83 : decode cX10_init 83 = .ok (.putfield 38, 3) := by decide +kernel
theorem dX10_init_86 : decode cX10_init 86 = .ok (.aload_n 0, 1) := by decide +kernel
theorem dX10_init_87 : decode cX10_init 87 = .ok (.bipush 8, 2) := by decide +kernel
theorem dX10_init_89 : decode cX10_init 89 = .ok (.newarray .int, 2) := by decide +kernel
theorem dX10_init_91 : decode cX10_init 91 = .ok (.putfield 41, 3) := by decide +kernel
theorem dX10_init_94 : decode cX10_init 94 = .ok (.aload_n 0, 1) := by decide +kernel
theorem dX10_init_95 : decode cX10_init 95 = .ok (.bipush 8, 2) := by decide +kernel
theorem dX10_init_97 : decode cX10_init 97 = .ok (.newarray .int, 2) := by decide +kernel
theorem dX10_init_99 : decode cX10_init 99 = .ok (.putfield 44, 3) := by decide +kernel
theorem dX10_init_102 : decode cX10_init 102 = .ok (.aload_n 0, 1) := by decide +kernel
theorem dX10_init_103 : decode cX10_init 103 = .ok (.bipush 8, 2) := by decide +kernel
theorem dX10_init_105 : decode cX10_init 105 = .ok (.newarray .int, 2) := by decide +kernel
theorem dX10_init_107 : decode cX10_init 107 = .ok (.putfield 47, 3) := by decide +kernel
theorem dX10_init_110 : decode cX10_init 110 = .ok (.aload_n 0, 1) := by decide +kernel
theorem dX10_init_111 : decode cX10_init 111 = .ok (.bipush 8, 2) := by decide +kernel
theorem dX10_init_113 : decode cX10_init 113 = .ok (.newarray .int, 2) := by decide +kernel
theorem dX10_init_115 : decode cX10_init 115 = .ok (.putfield 50, 3) := by decide +kernel
theorem dX10_init_118 : decode cX10_init 118 = .ok (.aload_n 0, 1) := by decide +kernel
theorem dX10_init_119 : decode cX10_init 119 = .ok (.bipush 8, 2) := by decide +kernel
theorem dX10_init_121 : decode cX10_init 121 = .ok (.newarray .int, 2) := by decide +kernel
theorem dX10_init_123 : decode cX10_init 123 = .ok (.putfield 53, 3) := by decide +kernel
theorem dX10_init_126 : decode cX10_init 126 = .ok (.aload_n 0, 1) := by decide +kernel
theorem dX10_init_127 : decode cX10_init 127 = .ok (.bipush 8, 2) := by decide +kernel
theorem dX10_init_129 : decode cX10_init 129 = .ok (.newarray .int, 2) := by decide +kernel
theorem dX10_init_131 : decode cX10_init 131 = .ok (.putfield 56, 3) := by decide +kernel
theorem dX10_init_134 : decode cX10_init 134 = .ok (.aload_n 0, 1) := by decide +kernel
theorem dX10_init_135 : decode cX10_init 135 = .ok (.bipush 8, 2) := by decide +kernel
theorem dX10_init_137 : decode cX10_init 137 = .ok (.newarray .int, 2) := by decide +kernel
theorem dX10_init_139 : decode cX10_init 139 = .ok (.putfield 59, 3) := by decide +kernel
theorem dX10_init_142 : decode cX10_init 142 = .ok (.aload_n 0, 1) := by decide +kernel
theorem dX10_init_143 : decode cX10_init 143 = .ok (.bipush 8, 2) := by decide +kernel
theorem dX10_init_145 : decode cX10_init 145 = .ok (.newarray .int, 2) := by decide +kernel
theorem dX10_init_147 : decode cX10_init 147 = .ok (.putfield 62, 3) := by decide +kernel
theorem dX10_init_150 : decode cX10_init 150 = .ok (.aload_n 0, 1) := by decide +kernel
theorem dX10_init_151 : decode cX10_init 151 = .ok (.bipush 8, 2) := by decide +kernel
theorem dX10_init_153 : decode cX10_init 153 = .ok (.newarray .boolean, 2) := by decide +kernel
theorem dX10_init_155 : decode cX10_init 155 = .ok (.putfield 65, 3) := by decide +kernel
theorem dX10_init_158 : decode cX10_init 158 = .ok (.aload_n 0, 1) := by decide +kernel
theorem dX10_init_159 : decode cX10_init 159 = .ok (.bipush 64, 2) := by decide +kernel
theorem dX10_init_161 : decode cX10_init 161 = .ok (.newarray .int, 2) := by decide +kernel
theorem dX10_init_163 : decode cX10_init 163 = .ok (.putfield 68, 3) := by decide +kernel
theorem dX10_init_166 : decode cX10_init 166 = .ok (.aload_n 0, 1) := by decide +kernel
theorem dX10_init_167 : decode cX10_init 167 = .ok (.sipush 512, 3) := by decide +kernel
theorem dX10_init_170 : decode cX10_init 170 = .ok (.newarray .int, 2) := by decide +kernel
theorem dX10_init_172 : decode cX10_init 172 = .ok (.putfield 71, 3) := by decide +kernel
theorem dX10_init_175 : decode cX10_init 175 = .ok (.aload_n 0, 1) := by decide +kernel
theorem dX10_init_176 : decode cX10_init 176 = .ok (.bipush 32, 2) := by decide +kernel
theorem dX10_init_178 : decode cX10_init 178 = .ok (.newarray .int, 2) := by decide +kernel
theorem dX10_init_180 : decode cX10_init 180 = .ok (.putfield 74, 3) := by decide +kernel
theorem dX10_init_183 : decode cX10_init 183 = .ok (.aload_n 0, 1) := by decide +kernel
theorem dX10_init_184 : decode cX10_init 184 = .ok (.bipush 64, 2) := by decide +kernel
theorem dX10_init_186 : decode cX10_init 186 = .ok (.newarray .int, 2) := by decide +kernel
theorem dX10_init_188 : decode cX10_init 188 = .ok (.putfield 77, 3) := by decide +kernel
theorem dX10_init_191 : decode cX10_init 191 = .ok (.aload_n 0, 1) := by decide +kernel
theorem dX10_init_192 : decode cX10_init 192 = .ok (.bipush 8, 2) := by decide +kernel
theorem dX10_init_194 : decode cX10_init 194 = .ok (.newarray .int, 2) := by decide +kernel
theorem dX10_init_196 : decode cX10_init 196 = .ok (.putfield 80, 3) := by decide +kernel
theorem dX10_init_199 : decode cX10_init 199 = .ok (.aload_n 0, 1) := by decide +kernel
theorem dX10_init_200 : decode cX10_init 200 = .ok (.bipush 8, 2) := by decide +kernel
theorem dX10_init_202 : decode cX10_init 202 = .ok (.newarray .int, 2) := by decide +kernel
theorem dX10_init_204 : decode cX10_init 204 = .ok (.putfield 83, 3) := by decide +kernel
theorem dX10_init_207 : decode cX10_init 207 = .ok (.aload_n 0, 1) := by decide +kernel
theorem dX10_init_208 : decode cX10_init 208 = .ok (.bipush 60, 2) := by decide +kernel
theorem dX10_init_210 : decode cX10_init 210 = .ok (.newarray .int, 2) := by decide +kernel
theorem dX10_init_212 : decode cX10_init 212 = .ok (.putfield 86, 3) := by decide +kernel
theorem dX10_init_215 : decode cX10_init 215 = .ok (.aload_n 0, 1) := by decide +kernel
theorem dX10_init_216 : decode cX10_init 216 = .ok (.bipush 60, 2) := by decide +kernel
theorem dX10_init_218 : decode cX10_init 218 = .ok (.newarray .int, 2) := by decide +kernel
theorem dX10_init_220 : decode cX10_init 220 = .ok (.putfield 89, 3) := by decide +kernel
theorem dX10_init_223 : decode cX10_init 223 = .ok (.aload_n 0, 1) := by decide +kernel
theorem dX10_init_224 : decode cX10_init 224 = .ok (.bipush 60, 2) := by decide +kernel
theorem dX10_init_226 : decode cX10_init 226 = .ok (.newarray .int, 2) := by decide +kernel
theorem dX10_init_228 : decode cX10_init 228 = .ok (.putfield 92, 3) := by decide +kernel
theorem dX10_init_231 : decode cX10_init 231 = .ok (.aload_n 0, 1) := by decide +kernel
theorem dX10_init_232 : decode cX10_init 232 = .ok (.bipush 60, 2) := by decide +kernel
theorem dX10_init_234 : decode cX10_init 234 = .ok (.newarray .int, 2) := by decide +kernel
theorem dX10_init_236 : decode cX10_init 236 = .ok (.putfield 95, 3) := by decide +kernel
theorem dX10_init_239 : decode cX10_init 239 = .ok (.aload_n 0, 1) := by decide +kernel
theorem dX10_init_240 : decode cX10_init 240 = .ok (.bipush 40, 2) := by decide +kernel
theorem dX10_init_242 : decode cX10_init 242 = .ok (.newarray .int, 2) := by decide +kernel
theorem dX10_init_244 : decode cX10_init 244 = .ok (.putfield 98, 3) := by decide +kernel
theorem dX10_init_247 : decode cX10_init 247 = .ok (.aload_n 0, 1) := by decide +kernel
theorem dX10_init_248 : decode cX10_init 248 = .ok (.bipush 40, 2) := by decide +kernel
theorem dX10_init_250 : decode cX10_init 250 = .ok (.newarray .int, 2) := by decide +kernel
theorem dX10_init_252 : decode cX10_init 252 = .ok (.putfield 101, 3) := by decide +kernel
theorem dX10_init_255 : decode cX10_init 255 = .ok (.aload_n 0, 1) := by decide +kernel
theorem dX10_init_256 : decode cX10_init 256 = .ok (.bipush 40, 2) := by decide +kernel
theorem dX10_init_258 : decode cX10_init 258 = .ok (.newarray .int, 2) := by decide +kernel
theorem dX10_init_260 : decode cX10_init 260 = .ok (.putfield 104, 3) := by decide +kernel
theorem dX10_init_263 : decode cX10_init 263 = .ok (.aload_n 0, 1) := by decide +kernel
theorem dX10_init_264 : decode cX10_init 264 = .ok (.bipush 40, 2) := by decide +kernel
theorem dX10_init_266 : decode cX10_init 266 = .ok (.newarray .int, 2) := by decide +kernel
theorem dX10_init_268 : decode cX10_init 268 = .ok (.putfield 107, 3) := by decide +kernel
theorem dX10_init_271 : decode cX10_init 271 = .ok (.aload_n 0, 1) := by decide +kernel
theorem dX10_init_272 : decode cX10_init 272 = .ok (.bipush 40, 2) := by decide +kernel
theorem dX10_init_274 : decode cX10_init 274 = .ok (.newarray .int, 2) := by decide +kernel
theorem dX10_init_276 : decode cX10_init 276 = .ok (.putfield 110, 3) := by decide +kernel
theorem dX10_init_279 : decode cX10_init 279 = .ok (.aload_n 0, 1) := by decide +kernel
theorem dX10_init_280 : decode cX10_init 280 = .ok (.bipush 40, 2) := by decide +kernel
theorem dX10_init_282 : decode cX10_init 282 = .ok (.newarray .boolean, 2) := by decide +kernel
theorem dX10_init_284 : decode cX10_init 284 = .ok (.putfield 113, 3) := by decide +kernel
theorem dX10_init_287 : decode cX10_init 287 = .ok (.aload_n 0, 1) := by decide +kernel
theorem dX10_init_288 : decode cX10_init 288 = .ok (.invokevirtual 116, 3) := by decide +kernel
theorem dX10_init_291 : decode cX10_init 291 = .ok (.return_, 1) := by decide +kernel
theorem dX10_in_0 : decode cX10_in 0 = .ok (.iload_n 0, 1) := by decide +kernel
theorem dX10_in_1 : decode cX10_in 1 = .ok (.iload_n 1, 1) := by decide +kernel
theorem dX10_in_2 : decode cX10_in 2 = .ok (.if_icmp .lt 12, 3) := by decide +kernel
theorem dX10_in_5 : decode cX10_in 5 = .ok (.iload_n 0, 1) := by decide +kernel
theorem dX10_in_6 : decode cX10_in 6 = .ok (.iload_n 2, 1) := by decide +kernel
theorem dX10_in_7 : decode cX10_in 7 = .ok (.if_icmp .gt 7, 3) := by decide +kernel
theorem dX10_in_10 : decode cX10_in 10 = .ok (.iconst 1, 1) := by decide +kernel
theorem dX10_in_11 : decode cX10_in 11 = .ok (.goto 4, 3) := by decide +kernel
theorem dX10_in_14 : decode cX10_in 14 = .ok (.iconst 0, 1) := by decide +kernel
theorem dX10_in_15 : decode cX10_in 15 = .ok (.ireturn, 1) := by decide +kernel
theorem dX10_begin_0 : decode cX10_begin 0 = .ok (.aload_n 0, 1) := by decide +kernel
theorem dX10_begin_1 : decode cX10_begin 1 = .ok (.iconst 0, 1) := by decide +kernel
theorem dX10_begin_2 : decode cX10_begin 2 = .ok (.putfield 119, 3) := by decide +kernel
theorem dX10_begin_5 : decode cX10_begin 5 = .ok (.aload_n 0, 1) := by decide +kernel
theorem dX10_begin_6 : decode cX10_begin 6 = .ok (.iconst 0, 1) := by decide +kernel
theorem dX10_begin_7 : decode cX10_begin 7 = .ok (.putfield 123, 3) := by decide +kernel
theorem dX10_begin_10 : decode cX10_begin 10 = .ok (.aload_n 0, 1) := by decide +kernel
theorem dX10_begin_11 : decode cX10_begin 11 = .ok (.iconst 0, 1) := by decide +kernel
theorem dX10_begin_12 : decode cX10_begin 12 = .ok (.putfield 126, 3) := by decide +kernel
theorem dX10_begin_15 : decode cX10_begin 15 = .ok (.aload_n 0, 1) := by decide +kernel
theorem dX10_begin_16 : decode cX10_begin 16 = .ok (.iconst 0, 1) := by decide +kernel
theorem dX10_begin_17 : decode cX10_begin 17 = .ok (.putfield 129, 3) := by decide +kernel
theorem dX10_begin_20 : decode cX10_begin 20 = .ok (.aload_n 0, 1) := by decide +kernel
theorem dX10_begin_21 : decode cX10_begin 21 = .ok (.iconst 0, 1) := by decide +kernel
theorem dX10_begin_22 : decode cX10_begin 22 = .ok (.putfield 132, 3) := by decide +kernel
theorem dX10_begin_25 : decode cX10_begin 25 = .ok (.aload_n 0, 1) := by decide +kernel
theorem dX10_begin_26 : decode cX10_begin 26 = .ok (.iconst 0, 1) := by decide +kernel
theorem dX10_begin_27 : decode cX10_begin 27 = .ok (.putfield 136, 3) := by decide +kernel
theorem dX10_begin_30 : decode cX10_begin 30 = .ok (.aload_n 0, 1) := by decide +kernel
theorem dX10_begin_31 : decode cX10_begin 31 = .ok (.iconst 0, 1) := by decide +kernel
theorem dX10_begin_32 : decode cX10_begin 32 = .ok (.putfield 139, 3) := by decide +kernel
theorem dX10_begin_35 : decode cX10_begin 35 = .ok (.iconst 0, 1) := by decide +kernel
theorem dX10_begin_36 : decode cX10_begin 36 = .ok (.istore_n 1, 1) := by decide +kernel
theorem dX10_begin_37 : decode cX10_begin 37 = .ok (.iload_n 1, 1) := by decide +kernel
theorem dX10_begin_38 : decode cX10_begin 38 = .ok (.iconst 4, 1) := by decide +kernel
theorem dX10_begin_39 : decode cX10_begin 39 = .ok (.if_icmp .ge 18, 3) := by decide +kernel
theorem dX10_begin_42 : decode cX10_begin 42 = .ok (.aload_n 0, 1) := by decide +kernel
theorem dX10_begin_43 : decode cX10_begin 43 = .ok (.getfield 7, 3) := by decide +kernel
theorem dX10_begin_46 : decode cX10_begin 46 = .ok (.iload_n 1, 1) := by decide +kernel
theorem dX10_begin_47 : decode cX10_begin 47 = .ok (.sipush 10000, 3) := by decide +kernel
theorem dX10_begin_50 : decode cX10_begin 50 = .ok (.iastore, 1) := by decide +kernel
theorem dX10_begin_51 : decode cX10_begin 51 = .ok (.iinc 1 1, 3) := by decide +kernel
theorem dX10_begin_54 : decode cX10_begin 54 = .ok (.goto (-17), 3) := by decide +kernel
theorem dX10_begin_57 : decode cX10_begin 57 = .ok (.return_, 1) := by decide +kernel
theorem dX10_contract_0 : decode cX10_contract 0 = .ok (.aload_n 0, 1) := by decide +kernel
theorem dX10_contract_1 : decode cX10_contract 1 = .ok (.getfield 119, 3) := by decide +kernel
theorem dX10_contract_4 : decode cX10_contract 4 = .ok (.bipush 8, 2) := by decide +kernel
theorem dX10_contract_6 : decode cX10_contract 6 = .ok (.if_icmp .ne 6, 3) := by decide +kernel
theorem dX10_contract_9 : decode cX10_contract 9 = .ok (.bipush (-104), 2) := by decide +kernel
theorem dX10_contract_11 : decode cX10_contract 11 = .ok (.ireturn, 1) := by decide +kernel
theorem dX10_contract_12 : decode cX10_contract 12 = .ok (.aload_n 0, 1) := by decide +kernel
theorem dX10_contract_13 : decode cX10_contract 13 = .ok (.getfield 119, 3) := by decide +kernel
theorem dX10_contract_16 : decode cX10_contract 16 = .ok (.istore_n 1, 1) := by decide +kernel
theorem dX10_contract_17 : decode cX10_contract 17 = .ok (.aload_n 0, 1) := by decide +kernel
theorem dX10_contract_18 : decode cX10_contract 18 = .ok (.getfield 13, 3) := by decide +kernel
theorem dX10_contract_21 : decode cX10_contract 21 = .ok (.iload_n 1, 1) := by decide +kernel
theorem dX10_contract_22 : decode cX10_contract 22 = .ok (.iconst 0, 1) := by decide +kernel
theorem dX10_contract_23 : decode cX10_contract 23 = .ok (.iastore, 1) := by decide +kernel
theorem dX10_contract_24 : decode cX10_contract 24 = .ok (.iconst 0, 1) := by decide +kernel
theorem dX10_contract_25 : decode cX10_contract 25 = .ok (.istore_n 2, 1) := by decide +kernel
theorem dX10_contract_26 : decode cX10_contract 26 = .ok (.iload_n 2, 1) := by decide +kernel
theorem dX10_contract_27 : decode cX10_contract 27 = .ok (.bipush 8, 2) := by decide +kernel
theorem dX10_contract_29 : decode cX10_contract 29 = .ok (.if_icmp .ge 21, 3) := by decide +kernel
theorem dX10_contract_32 : decode cX10_contract 32 = .ok (.aload_n 0, 1) := by decide +kernel
theorem dX10_contract_33 : decode cX10_contract 33 = .ok (.getfield 16, 3) := by decide +kernel
theorem dX10_contract_36 : decode cX10_contract 36 = .ok (.bipush 8, 2) := by decide +kernel
theorem dX10_contract_38 : decode cX10_contract 38 = .ok (.iload_n 1, 1) := by decide +kernel
theorem dX10_contract_39 : decode cX10_contract 39 = .ok (.imul, 1) := by decide +kernel
theorem dX10_contract_40 : decode cX10_contract 40 = .ok (.iload_n 2, 1) := by decide +kernel
theorem dX10_contract_41 : decode cX10_contract 41 = .ok (.iadd, 1) := by decide +kernel
theorem dX10_contract_42 : decode cX10_contract 42 = .ok (.iconst 0, 1) := by decide +kernel
theorem dX10_contract_43 : decode cX10_contract 43 = .ok (.iastore, 1) := by decide +kernel
theorem dX10_contract_44 : decode cX10_contract 44 = .ok (.iinc 2 1, 3) := by decide +kernel
theorem dX10_contract_47 : decode cX10_contract 47 = .ok (.goto (-21), 3) := by decide +kernel
theorem dX10_contract_50 : decode cX10_contract 50 = .ok (.iconst 0, 1) := by decide +kernel
theorem dX10_contract_51 : decode cX10_contract 51 = .ok (.istore_n 2, 1) := by decide +kernel
theorem dX10_contract_52 : decode cX10_contract 52 = .ok (.iload_n 2, 1) := by decide +kernel
theorem dX10_contract_53 : decode cX10_contract 53 = .ok (.iconst 4, 1) := by decide +kernel
theorem dX10_contract_54 : decode cX10_contract 54 = .ok (.if_icmp .ge 31, 3) := by decide +kernel
theorem dX10_contract_57 : decode cX10_contract 57 = .ok (.aload_n 0, 1) := by decide +kernel
theorem dX10_contract_58 : decode cX10_contract 58 = .ok (.getfield 19, 3) := by decide +kernel
theorem dX10_contract_61 : decode cX10_contract 61 = .ok (.iconst 4, 1) := by decide +kernel
theorem dX10_contract_62 : decode cX10_contract 62 = .ok (.iload_n 1, 1) := by decide +kernel
theorem dX10_contract_63 : decode cX10_contract 63 = .ok (.imul, 1) := by decide +kernel
theorem dX10_contract_64 : decode cX10_contract 64 = .ok (.iload_n 2, 1) := by decide +kernel
theorem dX10_contract_65 : decode cX10_contract 65 = .ok (.iadd, 1) := by decide +kernel
theorem dX10_contract_66 : decode cX10_contract 66 = .ok (.iconst 0, 1) := by decide +kernel
theorem dX10_contract_67 : decode cX10_contract 67 = .ok (.iastore, 1) := by decide +kernel
theorem dX10_contract_68 : decode cX10_contract 68 = .ok (.aload_n 0, 1) := by decide +kernel
theorem dX10_contract_69 : decode cX10_contract 69 = .ok (.getfield 22, 3) := by decide +kernel
theorem dX10_contract_72 : decode cX10_contract 72 = .ok (.iconst 4, 1) := by decide +kernel
theorem dX10_contract_73 : decode cX10_contract 73 = .ok (.iload_n 1, 1) := by decide +kernel
theorem dX10_contract_74 : decode cX10_contract 74 = .ok (.imul, 1) := by decide +kernel
theorem dX10_contract_75 : decode cX10_contract 75 = .ok (.iload_n 2, 1) := by decide +kernel
theorem dX10_contract_76 : decode cX10_contract 76 = .ok (.iadd, 1) := by decide +kernel
theorem dX10_contract_77 : decode cX10_contract 77 = .ok (.iconst 0, 1) := by decide +kernel
theorem dX10_contract_78 : decode cX10_contract 78 = .ok (.bastore, 1) := by decide +kernel
theorem dX10_contract_79 : decode cX10_contract 79 = .ok (.iinc 2 1, 3) := by decide +kernel
theorem dX10_contract_82 : decode cX10_contract 82 = .ok (.goto (-30), 3) := by decide +kernel
theorem dX10_contract_85 : decode cX10_contract 85 = .ok (.aload_n 0, 1) := by decide +kernel
theorem dX10_contract_86 : decode cX10_contract 86 = .ok (.dup, 1) := by decide +kernel
theorem dX10_contract_87 : decode cX10_contract 87 = .ok (.getfield 119, 3) := by decide +kernel
theorem dX10_contract_90 : decode cX10_contract 90 = .ok (.iconst 1, 1) := by decide +kernel
theorem dX10_contract_91 : decode cX10_contract 91 = .ok (.iadd, 1) := by decide +kernel
theorem dX10_contract_92 : decode cX10_contract 92 = .ok (.putfield 119, 3) := by decide +kernel
theorem dX10_contract_95 : decode cX10_contract 95 = .ok (.iload_n 1, 1) := by decide +kernel
theorem dX10_contract_96 : decode cX10_contract 96 = .ok (.ireturn, 1) := by decide +kernel
theorem dX10_noContract_0 : decode cX10_noContract 0 = .ok (.iload_n 1, 1) := by decide +kernel
theorem dX10_noContract_1 : decode cX10_noContract 1 = .ok (.iconst 0, 1) := by decide +kernel
theorem dX10_noContract_2 : decode cX10_noContract 2 = .ok (.aload_n 0, 1) := by decide +kernel
theorem dX10_noContract_3 : decode cX10_noContract 3 = .ok (.getfield 119, 3) := by decide +kernel
theorem dX10_noContract_6 : decode cX10_noContract 6 = .ok (.iconst 1, 1) := by decide +kernel
theorem dX10_noContract_7 : decode cX10_noContract 7 = .ok (.isub, 1) := by decide +kernel
theorem dX10_noContract_8 : decode cX10_noContract 8 = .ok (.invokestatic 142, 3) := by decide +kernel
theorem dX10_noContract_11 : decode cX10_noContract 11 = .ok (.ifCond .ne 7, 3) := by decide +kernel
theorem dX10_noContract_14 : decode cX10_noContract 14 = .ok (.iconst 1, 1) := by decide +kernel
theorem dX10_noContract_15 : decode cX10_noContract 15 = .ok (.goto 4, 3) := by decide +kernel
theorem dX10_noContract_18 : decode cX10_noContract 18 = .ok (.iconst 0, 1) := by decide +kernel
theorem dX10_noContract_19 : decode cX10_noContract 19 = .ok (.ireturn, 1) := by decide +kernel
theorem dX10_isCode_0 : decode cX10_isCode 0 = .ok (.iload_n 0, 1) := by decide +kernel
theorem dX10_isCode_1 : decode cX10_isCode 1 = .ok (.iconst 0, 1) := by decide +kernel
theorem dX10_isCode_2 : decode cX10_isCode 2 = .ok (.bipush 25, 2) := by decide +kernel
theorem dX10_isCode_4 : decode cX10_isCode 4 = .ok (.invokestatic 142, 3) := by decide +kernel
theorem dX10_isCode_7 : decode cX10_isCode 7 = .ok (.ifCond .ne 5, 3) := by decide +kernel
theorem dX10_isCode_10 : decode cX10_isCode 10 = .ok (.iconst 0, 1) := by decide +kernel
theorem dX10_isCode_11 : decode cX10_isCode 11 = .ok (.ireturn, 1) := by decide +kernel
theorem dX10_isCode_12 : decode cX10_isCode 12 = .ok (.iload_n 0, 1) := by decide +kernel
theorem dX10_isCode_13 : decode cX10_isCode 13 = .ok (.bipush 6, 2) := by decide +kernel
theorem dX10_isCode_15 : decode cX10_isCode 15 = .ok (.if_icmp .eq 9, 3) := by decide +kernel
theorem dX10_isCode_18 : decode cX10_isCode 18 = .ok (.iload_n 0, 1) := by decide +kernel
theorem dX10_isCode_19 : decode cX10_isCode 19 = .ok (.bipush 7, 2) := by decide +kernel
theorem dX10_isCode_21 : decode cX10_isCode 21 = .ok (.if_icmp .ne 11, 3) := by decide +kernel
theorem dX10_isCode_24 : decode cX10_isCode 24 = .ok (.iload_n 1, 1) := by decide +kernel
theorem dX10_isCode_25 : decode cX10_isCode 25 = .ok (.iconst 0, 1) := by decide +kernel
theorem dX10_isCode_26 : decode cX10_isCode 26 = .ok (.bipush 7, 2) := by decide +kernel
theorem dX10_isCode_28 : decode cX10_isCode 28 = .ok (.invokestatic 142, 3) := by decide +kernel
theorem dX10_isCode_31 : decode cX10_isCode 31 = .ok (.ireturn, 1) := by decide +kernel
theorem dX10_isCode_32 : decode cX10_isCode 32 = .ok (.iload_n 0, 1) := by decide +kernel
theorem dX10_isCode_33 : decode cX10_isCode 33 = .ok (.bipush 14, 2) := by decide +kernel
theorem dX10_isCode_35 : decode cX10_isCode 35 = .ok (.if_icmp .eq 9, 3) := by decide +kernel
theorem dX10_isCode_38 : decode cX10_isCode 38 = .ok (.iload_n 0, 1) := by decide +kernel
theorem dX10_isCode_39 : decode cX10_isCode 39 = .ok (.bipush 15, 2) := by decide +kernel
theorem dX10_isCode_41 : decode cX10_isCode 41 = .ok (.if_icmp .ne 11, 3) := by decide +kernel
theorem dX10_isCode_44 : decode cX10_isCode 44 = .ok (.iload_n 1, 1) := by decide +kernel
theorem dX10_isCode_45 : decode cX10_isCode 45 = .ok (.iconst 1, 1) := by decide +kernel
theorem dX10_isCode_46 : decode cX10_isCode 46 = .ok (.bipush 20, 2) := by decide +kernel
theorem dX10_isCode_48 : decode cX10_isCode 48 = .ok (.invokestatic 142, 3) := by decide +kernel
theorem dX10_isCode_51 : decode cX10_isCode 51 = .ok (.ireturn, 1) := by decide +kernel
theorem dX10_isCode_52 : decode cX10_isCode 52 = .ok (.iload_n 0, 1) := by decide +kernel
theorem dX10_isCode_53 : decode cX10_isCode 53 = .ok (.bipush 19, 2) := by decide +kernel
theorem dX10_isCode_55 : decode cX10_isCode 55 = .ok (.bipush 21, 2) := by decide +kernel
theorem dX10_isCode_57 : decode cX10_isCode 57 = .ok (.invokestatic 142, 3) := by decide +kernel
theorem dX10_isCode_60 : decode cX10_isCode 60 = .ok (.ifCond .eq 28, 3) := by decide +kernel
theorem dX10_isCode_63 : decode cX10_isCode 63 = .ok (.iload_n 1, 1) := by decide +kernel
theorem dX10_isCode_64 : decode cX10_isCode 64 = .ok (.iconst 0, 1) := by decide +kernel
theorem dX10_isCode_65 : decode cX10_isCode 65 = .ok (.bipush 7, 2) := by decide +kernel
theorem dX10_isCode_67 : decode cX10_isCode 67 = .ok (.invokestatic 142, 3) := by decide +kernel
theorem dX10_isCode_70 : decode cX10_isCode 70 = .ok (.ifCond .eq 16, 3) := by decide +kernel
theorem dX10_isCode_73 : decode cX10_isCode 73 = .ok (.iload_n 2, 1) := by decide +kernel
theorem dX10_isCode_74 : decode cX10_isCode 74 = .ok (.iconst 0, 1) := by decide +kernel
theorem dX10_isCode_75 : decode cX10_isCode 75 = .ok (.iconst 3, 1) := by decide +kernel
theorem dX10_isCode_76 : decode cX10_isCode 76 = .ok (.invokestatic 142, 3) := by decide +kernel
theorem dX10_isCode_79 : decode cX10_isCode 79 = .ok (.ifCond .eq 7, 3) := by decide +kernel
theorem dX10_isCode_82 : decode cX10_isCode 82 = .ok (.iconst 1, 1) := by decide +kernel
theorem dX10_isCode_83 : decode cX10_isCode 83 = .ok (.goto 4, 3) := by decide +kernel
theorem dX10_isCode_86 : decode cX10_isCode 86 = .ok (.iconst 0, 1) := by decide +kernel
theorem dX10_isCode_87 : decode cX10_isCode 87 = .ok (.ireturn, 1) := by decide +kernel
theorem dX10_isCode_88 : decode cX10_isCode 88 = .ok (.iload_n 0, 1) := by decide +kernel
theorem dX10_isCode_89 : decode cX10_isCode 89 = .ok (.bipush 23, 2) := by decide +kernel
theorem dX10_isCode_91 : decode cX10_isCode 91 = .ok (.if_icmp .ne 12, 3) := by decide +kernel
theorem dX10_isCode_94 : decode cX10_isCode 94 = .ok (.iload_n 1, 1) := by decide +kernel
theorem dX10_isCode_95 : decode cX10_isCode 95 = .ok (.iconst 0, 1) := by decide +kernel
theorem dX10_isCode_96 : decode cX10_isCode 96 = .ok (.iconst 3, 1) := by decide +kernel
theorem dX10_isCode_97 : decode cX10_isCode 97 = .ok (.invokestatic 142, 3) := by decide +kernel
theorem dX10_isCode_100 : decode cX10_isCode 100 = .ok (.goto 25, 3) := by decide +kernel
theorem dX10_isCode_103 : decode cX10_isCode 103 = .ok (.iload_n 0, 1) := by decide +kernel
theorem dX10_isCode_104 : decode cX10_isCode 104 = .ok (.bipush 25, 2) := by decide +kernel
theorem dX10_isCode_106 : decode cX10_isCode 106 = .ok (.if_icmp .ne 14, 3) := by decide +kernel
theorem dX10_isCode_109 : decode cX10_isCode 109 = .ok (.iload_n 1, 1) := by decide +kernel
theorem dX10_isCode_110 : decode cX10_isCode 110 = .ok (.bipush 10, 2) := by decide +kernel
theorem dX10_isCode_112 : decode cX10_isCode 112 = .ok (.bipush 99, 2) := by decide +kernel
theorem dX10_isCode_114 : decode cX10_isCode 114 = .ok (.invokestatic 142, 3) := by decide +kernel
theorem dX10_isCode_117 : decode cX10_isCode 117 = .ok (.ifCond .eq 7, 3) := by decide +kernel
theorem dX10_isCode_120 : decode cX10_isCode 120 = .ok (.iconst 1, 1) := by decide +kernel
theorem dX10_isCode_121 : decode cX10_isCode 121 = .ok (.goto 4, 3) := by decide +kernel
theorem dX10_isCode_124 : decode cX10_isCode 124 = .ok (.iconst 0, 1) := by decide +kernel
theorem dX10_isCode_125 : decode cX10_isCode 125 = .ok (.ireturn, 1) := by decide +kernel
theorem dX10_step_0 : decode cX10_step 0 = .ok (.aload_n 0, 1) := by decide +kernel
theorem dX10_step_1 : decode cX10_step 1 = .ok (.iload_n 1, 1) := by decide +kernel
theorem dX10_step_2 : decode cX10_step 2 = .ok (.invokevirtual 146, 3) := by decide +kernel
theorem dX10_step_5 : decode cX10_step 5 = .ok (.ifCond .eq 6, 3) := by decide +kernel
theorem dX10_step_8 : decode cX10_step 8 = .ok (.bipush (-101), 2) := by decide +kernel
theorem dX10_step_10 : decode cX10_step 10 = .ok (.ireturn, 1) := by decide +kernel
theorem dX10_step_11 : decode cX10_step 11 = .ok (.iload_n 2, 1) := by decide +kernel
theorem dX10_step_12 : decode cX10_step 12 = .ok (.iconst 0, 1) := by decide +kernel
theorem dX10_step_13 : decode cX10_step 13 = .ok (.iconst 3, 1) := by decide +kernel
theorem dX10_step_14 : decode cX10_step 14 = .ok (.invokestatic 142, 3) := by decide +kernel
theorem dX10_step_17 : decode cX10_step 17 = .ok (.ifCond .eq 14, 3) := by decide +kernel
theorem dX10_step_20 : decode cX10_step 20 = .ok (.iload_n 3, 1) := by decide +kernel
theorem dX10_step_21 : decode cX10_step 21 = .ok (.iload 4, 2) := by decide +kernel
theorem dX10_step_23 : decode cX10_step 23 = .ok (.iload 5, 2) := by decide +kernel
theorem dX10_step_25 : decode cX10_step 25 = .ok (.invokestatic 150, 3) := by decide +kernel
theorem dX10_step_28 : decode cX10_step 28 = .ok (.ifCond .ne 6, 3) := by decide +kernel
theorem dX10_step_31 : decode cX10_step 31 = .ok (.bipush (-102), 2) := by decide +kernel
theorem dX10_step_33 : decode cX10_step 33 = .ok (.ireturn, 1) := by decide +kernel
theorem dX10_step_34 : decode cX10_step 34 = .ok (.iconst 4, 1) := by decide +kernel
theorem dX10_step_35 : decode cX10_step 35 = .ok (.iload_n 1, 1) := by decide +kernel
theorem dX10_step_36 : decode cX10_step 36 = .ok (.imul, 1) := by decide +kernel
theorem dX10_step_37 : decode cX10_step 37 = .ok (.iload_n 2, 1) := by decide +kernel
theorem dX10_step_38 : decode cX10_step 38 = .ok (.iadd, 1) := by decide +kernel
theorem dX10_step_39 : decode cX10_step 39 = .ok (.istore 6, 2) := by decide +kernel
theorem dX10_step_41 : decode cX10_step 41 = .ok (.aload_n 0, 1) := by decide +kernel
theorem dX10_step_42 : decode cX10_step 42 = .ok (.getfield 19, 3) := by decide +kernel
theorem dX10_step_45 : decode cX10_step 45 = .ok (.iload 6, 2) := by decide +kernel
theorem dX10_step_47 : decode cX10_step 47 = .ok (.iaload, 1) := by decide +kernel
theorem dX10_step_48 : decode cX10_step 48 = .ok (.bipush 20, 2) := by decide +kernel
theorem dX10_step_50 : decode cX10_step 50 = .ok (.if_icmp .ne 6, 3) := by decide +kernel
theorem dX10_step_53 : decode cX10_step 53 = .ok (.bipush (-104), 2) := by decide +kernel
theorem dX10_step_55 : decode cX10_step 55 = .ok (.ireturn, 1) := by decide +kernel
theorem dX10_step_56 : decode cX10_step 56 = .ok (.bipush 20, 2) := by decide +kernel
theorem dX10_step_58 : decode cX10_step 58 = .ok (.iload 6, 2) := by decide +kernel
theorem dX10_step_60 : decode cX10_step 60 = .ok (.imul, 1) := by decide +kernel
theorem dX10_step_61 : decode cX10_step 61 = .ok (.aload_n 0, 1) := by decide +kernel
theorem dX10_step_62 : decode cX10_step 62 = .ok (.getfield 19, 3) := by decide +kernel
theorem dX10_step_65 : decode cX10_step 65 = .ok (.iload 6, 2) := by decide +kernel
theorem dX10_step_67 : decode cX10_step 67 = .ok (.iaload, 1) := by decide +kernel
theorem dX10_step_68 : decode cX10_step 68 = .ok (.iadd, 1) := by decide +kernel
theorem dX10_step_69 : decode cX10_step 69 = .ok (.istore 7, 2) := by decide +kernel
theorem dX10_step_71 : decode cX10_step 71 = .ok (.aload_n 0, 1) := by decide +kernel
theorem dX10_step_72 : decode cX10_step 72 = .ok (.getfield 26, 3) := by decide +kernel
theorem dX10_step_75 : decode cX10_step 75 = .ok (.iload 7, 2) := by decide +kernel
theorem dX10_step_77 : decode cX10_step 77 = .ok (.iload_n 3, 1) := by decide +kernel
theorem dX10_step_78 : decode cX10_step 78 = .ok (.iastore, 1) := by decide +kernel
theorem dX10_step_79 : decode cX10_step 79 = .ok (.aload_n 0, 1) := by decide +kernel
theorem dX10_step_80 : decode cX10_step 80 = .ok (.getfield 29, 3) := by decide +kernel
theorem dX10_step_83 : decode cX10_step 83 = .ok (.iload 7, 2) := by decide +kernel
theorem dX10_step_85 : decode cX10_step 85 = .ok (.iload 4, 2) := by decide +kernel
theorem dX10_step_87 : decode cX10_step 87 = .ok (.iastore, 1) := by decide +kernel
theorem dX10_step_88 : decode cX10_step 88 = .ok (.aload_n 0, 1) := by decide +kernel
theorem dX10_step_89 : decode cX10_step 89 = .ok (.getfield 32, 3) := by decide +kernel
theorem dX10_step_92 : decode cX10_step 92 = .ok (.iload 7, 2) := by decide +kernel
theorem dX10_step_94 : decode cX10_step 94 = .ok (.iload 5, 2) := by decide +kernel
theorem dX10_step_96 : decode cX10_step 96 = .ok (.iastore, 1) := by decide +kernel
theorem dX10_step_97 : decode cX10_step 97 = .ok (.aload_n 0, 1) := by decide +kernel
theorem dX10_step_98 : decode cX10_step 98 = .ok (.getfield 19, 3) := by decide +kernel
theorem dX10_step_101 : decode cX10_step 101 = .ok (.iload 6, 2) := by decide +kernel
theorem dX10_step_103 : decode cX10_step 103 = .ok (.dup2, 1) := by decide +kernel
theorem dX10_step_104 : decode cX10_step 104 = .ok (.iaload, 1) := by decide +kernel
theorem dX10_step_105 : decode cX10_step 105 = .ok (.iconst 1, 1) := by decide +kernel
theorem dX10_step_106 : decode cX10_step 106 = .ok (.iadd, 1) := by decide +kernel
theorem dX10_step_107 : decode cX10_step 107 = .ok (.iastore, 1) := by decide +kernel
theorem dX10_step_108 : decode cX10_step 108 = .ok (.aload_n 0, 1) := by decide +kernel
theorem dX10_step_109 : decode cX10_step 109 = .ok (.getfield 19, 3) := by decide +kernel
theorem dX10_step_112 : decode cX10_step 112 = .ok (.iload 6, 2) := by decide +kernel
theorem dX10_step_114 : decode cX10_step 114 = .ok (.iaload, 1) := by decide +kernel
theorem dX10_step_115 : decode cX10_step 115 = .ok (.ireturn, 1) := by decide +kernel
theorem dX10_empty_0 : decode cX10_empty 0 = .ok (.aload_n 0, 1) := by decide +kernel
theorem dX10_empty_1 : decode cX10_empty 1 = .ok (.iload_n 1, 1) := by decide +kernel
theorem dX10_empty_2 : decode cX10_empty 2 = .ok (.invokevirtual 146, 3) := by decide +kernel
theorem dX10_empty_5 : decode cX10_empty 5 = .ok (.ifCond .eq 6, 3) := by decide +kernel
theorem dX10_empty_8 : decode cX10_empty 8 = .ok (.bipush (-101), 2) := by decide +kernel
theorem dX10_empty_10 : decode cX10_empty 10 = .ok (.ireturn, 1) := by decide +kernel
theorem dX10_empty_11 : decode cX10_empty 11 = .ok (.iload_n 2, 1) := by decide +kernel
theorem dX10_empty_12 : decode cX10_empty 12 = .ok (.iconst 0, 1) := by decide +kernel
theorem dX10_empty_13 : decode cX10_empty 13 = .ok (.iconst 3, 1) := by decide +kernel
theorem dX10_empty_14 : decode cX10_empty 14 = .ok (.invokestatic 142, 3) := by decide +kernel
theorem dX10_empty_17 : decode cX10_empty 17 = .ok (.ifCond .ne 6, 3) := by decide +kernel
theorem dX10_empty_20 : decode cX10_empty 20 = .ok (.bipush (-102), 2) := by decide +kernel
theorem dX10_empty_22 : decode cX10_empty 22 = .ok (.ireturn, 1) := by decide +kernel
theorem dX10_empty_23 : decode cX10_empty 23 = .ok (.aload_n 0, 1) := by decide +kernel
theorem dX10_empty_24 : decode cX10_empty 24 = .ok (.getfield 19, 3) := by decide +kernel
theorem dX10_empty_27 : decode cX10_empty 27 = .ok (.iconst 4, 1) := by decide +kernel
theorem dX10_empty_28 : decode cX10_empty 28 = .ok (.iload_n 1, 1) := by decide +kernel
theorem dX10_empty_29 : decode cX10_empty 29 = .ok (.imul, 1) := by decide +kernel
theorem dX10_empty_30 : decode cX10_empty 30 = .ok (.iload_n 2, 1) := by decide +kernel
theorem dX10_empty_31 : decode cX10_empty 31 = .ok (.iadd, 1) := by decide +kernel
theorem dX10_empty_32 : decode cX10_empty 32 = .ok (.iaload, 1) := by decide +kernel
theorem dX10_empty_33 : decode cX10_empty 33 = .ok (.istore_n 3, 1) := by decide +kernel
theorem dX10_empty_34 : decode cX10_empty 34 = .ok (.aload_n 0, 1) := by decide +kernel
theorem dX10_empty_35 : decode cX10_empty 35 = .ok (.getfield 19, 3) := by decide +kernel
theorem dX10_empty_38 : decode cX10_empty 38 = .ok (.iconst 4, 1) := by decide +kernel
theorem dX10_empty_39 : decode cX10_empty 39 = .ok (.iload_n 1, 1) := by decide +kernel
theorem dX10_empty_40 : decode cX10_empty 40 = .ok (.imul, 1) := by decide +kernel
theorem dX10_empty_41 : decode cX10_empty 41 = .ok (.iload_n 2, 1) := by decide +kernel
theorem dX10_empty_42 : decode cX10_empty 42 = .ok (.iadd, 1) := by decide +kernel
theorem dX10_empty_43 : decode cX10_empty 43 = .ok (.iconst 0, 1) := by decide +kernel
theorem dX10_empty_44 : decode cX10_empty 44 = .ok (.iastore, 1) := by decide +kernel
theorem dX10_empty_45 : decode cX10_empty 45 = .ok (.iload_n 3, 1) := by decide +kernel
theorem dX10_empty_46 : decode cX10_empty 46 = .ok (.ireturn, 1) := by decide +kernel
theorem dX10_guard_0 : decode cX10_guard 0 = .ok (.aload_n 0, 1) := by decide +kernel
theorem dX10_guard_1 : decode cX10_guard 1 = .ok (.iload_n 1, 1) := by decide +kernel
theorem dX10_guard_2 : decode cX10_guard 2 = .ok (.invokevirtual 146, 3) := by decide +kernel
theorem dX10_guard_5 : decode cX10_guard 5 = .ok (.ifCond .eq 6, 3) := by decide +kernel
theorem dX10_guard_8 : decode cX10_guard 8 = .ok (.bipush (-101), 2) := by decide +kernel
theorem dX10_guard_10 : decode cX10_guard 10 = .ok (.ireturn, 1) := by decide +kernel
theorem dX10_guard_11 : decode cX10_guard 11 = .ok (.iload_n 2, 1) := by decide +kernel
theorem dX10_guard_12 : decode cX10_guard 12 = .ok (.iconst 0, 1) := by decide +kernel
theorem dX10_guard_13 : decode cX10_guard 13 = .ok (.iconst 3, 1) := by decide +kernel
theorem dX10_guard_14 : decode cX10_guard 14 = .ok (.invokestatic 142, 3) := by decide +kernel
theorem dX10_guard_17 : decode cX10_guard 17 = .ok (.ifCond .ne 6, 3) := by decide +kernel
theorem dX10_guard_20 : decode cX10_guard 20 = .ok (.bipush (-102), 2) := by decide +kernel
theorem dX10_guard_22 : decode cX10_guard 22 = .ok (.ireturn, 1) := by decide +kernel
theorem dX10_guard_23 : decode cX10_guard 23 = .ok (.aload_n 0, 1) := by decide +kernel
theorem dX10_guard_24 : decode cX10_guard 24 = .ok (.getfield 22, 3) := by decide +kernel
theorem dX10_guard_27 : decode cX10_guard 27 = .ok (.iconst 4, 1) := by decide +kernel
theorem dX10_guard_28 : decode cX10_guard 28 = .ok (.iload_n 1, 1) := by decide +kernel
theorem dX10_guard_29 : decode cX10_guard 29 = .ok (.imul, 1) := by decide +kernel
theorem dX10_guard_30 : decode cX10_guard 30 = .ok (.iload_n 2, 1) := by decide +kernel
theorem dX10_guard_31 : decode cX10_guard 31 = .ok (.iadd, 1) := by decide +kernel
theorem dX10_guard_32 : decode cX10_guard 32 = .ok (.baload, 1) := by decide +kernel
theorem dX10_guard_33 : decode cX10_guard 33 = .ok (.ifCond .eq 7, 3) := by decide +kernel
theorem dX10_guard_36 : decode cX10_guard 36 = .ok (.iconst 1, 1) := by decide +kernel
theorem dX10_guard_37 : decode cX10_guard 37 = .ok (.goto 4, 3) := by decide +kernel
theorem dX10_guard_40 : decode cX10_guard 40 = .ok (.iconst 0, 1) := by decide +kernel
theorem dX10_guard_41 : decode cX10_guard 41 = .ok (.istore 4, 2) := by decide +kernel
theorem dX10_guard_43 : decode cX10_guard 43 = .ok (.aload_n 0, 1) := by decide +kernel
theorem dX10_guard_44 : decode cX10_guard 44 = .ok (.getfield 22, 3) := by decide +kernel
theorem dX10_guard_47 : decode cX10_guard 47 = .ok (.iconst 4, 1) := by decide +kernel
theorem dX10_guard_48 : decode cX10_guard 48 = .ok (.iload_n 1, 1) := by decide +kernel
theorem dX10_guard_49 : decode cX10_guard 49 = .ok (.imul, 1) := by decide +kernel
theorem dX10_guard_50 : decode cX10_guard 50 = .ok (.iload_n 2, 1) := by decide +kernel
theorem dX10_guard_51 : decode cX10_guard 51 = .ok (.iadd, 1) := by decide +kernel
theorem dX10_guard_52 : decode cX10_guard 52 = .ok (.iload_n 3, 1) := by decide +kernel
theorem dX10_guard_53 : decode cX10_guard 53 = .ok (.bastore, 1) := by decide +kernel
theorem dX10_guard_54 : decode cX10_guard 54 = .ok (.iload 4, 2) := by decide +kernel
theorem dX10_guard_56 : decode cX10_guard 56 = .ok (.ireturn, 1) := by decide +kernel
theorem dX10_hold_0 : decode cX10_hold 0 = .ok (.iconst 0, 1) := by decide +kernel
theorem dX10_hold_1 : decode cX10_hold 1 = .ok (.istore_n 2, 1) := by decide +kernel
theorem dX10_hold_2 : decode cX10_hold 2 = .ok (.iload_n 2, 1) := by decide +kernel
theorem dX10_hold_3 : decode cX10_hold 3 = .ok (.bipush 64, 2) := by decide +kernel
theorem dX10_hold_5 : decode cX10_hold 5 = .ok (.if_icmp .ge 26, 3) := by decide +kernel
theorem dX10_hold_8 : decode cX10_hold 8 = .ok (.aload_n 0, 1) := by decide +kernel
theorem dX10_hold_9 : decode cX10_hold 9 = .ok (.getfield 71, 3) := by decide +kernel
theorem dX10_hold_12 : decode cX10_hold 12 = .ok (.bipush 64, 2) := by decide +kernel
theorem dX10_hold_14 : decode cX10_hold 14 = .ok (.iload_n 1, 1) := by decide +kernel
theorem dX10_hold_15 : decode cX10_hold 15 = .ok (.imul, 1) := by decide +kernel
theorem dX10_hold_16 : decode cX10_hold 16 = .ok (.iload_n 2, 1) := by decide +kernel
theorem dX10_hold_17 : decode cX10_hold 17 = .ok (.iadd, 1) := by decide +kernel
theorem dX10_hold_18 : decode cX10_hold 18 = .ok (.aload_n 0, 1) := by decide +kernel
theorem dX10_hold_19 : decode cX10_hold 19 = .ok (.getfield 16, 3) := by decide +kernel
theorem dX10_hold_22 : decode cX10_hold 22 = .ok (.iload_n 2, 1) := by decide +kernel
theorem dX10_hold_23 : decode cX10_hold 23 = .ok (.iaload, 1) := by decide +kernel
theorem dX10_hold_24 : decode cX10_hold 24 = .ok (.iastore, 1) := by decide +kernel
theorem dX10_hold_25 : decode cX10_hold 25 = .ok (.iinc 2 1, 3) := by decide +kernel
theorem dX10_hold_28 : decode cX10_hold 28 = .ok (.goto (-26), 3) := by decide +kernel
theorem dX10_hold_31 : decode cX10_hold 31 = .ok (.iconst 0, 1) := by decide +kernel
theorem dX10_hold_32 : decode cX10_hold 32 = .ok (.istore_n 2, 1) := by decide +kernel
theorem dX10_hold_33 : decode cX10_hold 33 = .ok (.iload_n 2, 1) := by decide +kernel
theorem dX10_hold_34 : decode cX10_hold 34 = .ok (.bipush 8, 2) := by decide +kernel
theorem dX10_hold_36 : decode cX10_hold 36 = .ok (.if_icmp .ge 26, 3) := by decide +kernel
theorem dX10_hold_39 : decode cX10_hold 39 = .ok (.aload_n 0, 1) := by decide +kernel
theorem dX10_hold_40 : decode cX10_hold 40 = .ok (.getfield 77, 3) := by decide +kernel
theorem dX10_hold_43 : decode cX10_hold 43 = .ok (.bipush 8, 2) := by decide +kernel
theorem dX10_hold_45 : decode cX10_hold 45 = .ok (.iload_n 1, 1) := by decide +kernel
theorem dX10_hold_46 : decode cX10_hold 46 = .ok (.imul, 1) := by decide +kernel
theorem dX10_hold_47 : decode cX10_hold 47 = .ok (.iload_n 2, 1) := by decide +kernel
theorem dX10_hold_48 : decode cX10_hold 48 = .ok (.iadd, 1) := by decide +kernel
theorem dX10_hold_49 : decode cX10_hold 49 = .ok (.aload_n 0, 1) := by decide +kernel
theorem dX10_hold_50 : decode cX10_hold 50 = .ok (.getfield 13, 3) := by decide +kernel
theorem dX10_hold_53 : decode cX10_hold 53 = .ok (.iload_n 2, 1) := by decide +kernel
theorem dX10_hold_54 : decode cX10_hold 54 = .ok (.iaload, 1) := by decide +kernel
theorem dX10_hold_55 : decode cX10_hold 55 = .ok (.iastore, 1) := by decide +kernel
theorem dX10_hold_56 : decode cX10_hold 56 = .ok (.iinc 2 1, 3) := by decide +kernel
theorem dX10_hold_59 : decode cX10_hold 59 = .ok (.goto (-26), 3) := by decide +kernel
theorem dX10_hold_62 : decode cX10_hold 62 = .ok (.iconst 0, 1) := by decide +kernel
theorem dX10_hold_63 : decode cX10_hold 63 = .ok (.istore_n 2, 1) := by decide +kernel
theorem dX10_hold_64 : decode cX10_hold 64 = .ok (.iload_n 2, 1) := by decide +kernel
theorem dX10_hold_65 : decode cX10_hold 65 = .ok (.iconst 4, 1) := by decide +kernel
theorem dX10_hold_66 : decode cX10_hold 66 = .ok (.if_icmp .ge 25, 3) := by decide +kernel
theorem dX10_hold_69 : decode cX10_hold 69 = .ok (.aload_n 0, 1) := by decide +kernel
theorem dX10_hold_70 : decode cX10_hold 70 = .ok (.getfield 74, 3) := by decide +kernel
theorem dX10_hold_73 : decode cX10_hold 73 = .ok (.iconst 4, 1) := by decide +kernel
theorem dX10_hold_74 : decode cX10_hold 74 = .ok (.iload_n 1, 1) := by decide +kernel
theorem dX10_hold_75 : decode cX10_hold 75 = .ok (.imul, 1) := by decide +kernel
theorem dX10_hold_76 : decode cX10_hold 76 = .ok (.iload_n 2, 1) := by decide +kernel
theorem dX10_hold_77 : decode cX10_hold 77 = .ok (.iadd, 1) := by decide +kernel
theorem dX10_hold_78 : decode cX10_hold 78 = .ok (.aload_n 0, 1) := by decide +kernel
theorem dX10_hold_79 : decode cX10_hold 79 = .ok (.getfield 7, 3) := by decide +kernel
theorem dX10_hold_82 : decode cX10_hold 82 = .ok (.iload_n 2, 1) := by decide +kernel
theorem dX10_hold_83 : decode cX10_hold 83 = .ok (.iaload, 1) := by decide +kernel
theorem dX10_hold_84 : decode cX10_hold 84 = .ok (.iastore, 1) := by decide +kernel
theorem dX10_hold_85 : decode cX10_hold 85 = .ok (.iinc 2 1, 3) := by decide +kernel
theorem dX10_hold_88 : decode cX10_hold 88 = .ok (.goto (-24), 3) := by decide +kernel
theorem dX10_hold_91 : decode cX10_hold 91 = .ok (.aload_n 0, 1) := by decide +kernel
theorem dX10_hold_92 : decode cX10_hold 92 = .ok (.getfield 80, 3) := by decide +kernel
theorem dX10_hold_95 : decode cX10_hold 95 = .ok (.iload_n 1, 1) := by decide +kernel
theorem dX10_hold_96 : decode cX10_hold 96 = .ok (.aload_n 0, 1) := by decide +kernel
theorem dX10_hold_97 : decode cX10_hold 97 = .ok (.getfield 136, 3) := by decide +kernel
theorem dX10_hold_100 : decode cX10_hold 100 = .ok (.iastore, 1) := by decide +kernel
theorem dX10_hold_101 : decode cX10_hold 101 = .ok (.aload_n 0, 1) := by decide +kernel
theorem dX10_hold_102 : decode cX10_hold 102 = .ok (.getfield 83, 3) := by decide +kernel
theorem dX10_hold_105 : decode cX10_hold 105 = .ok (.iload_n 1, 1) := by decide +kernel
theorem dX10_hold_106 : decode cX10_hold 106 = .ok (.aload_n 0, 1) := by decide +kernel
theorem dX10_hold_107 : decode cX10_hold 107 = .ok (.getfield 153, 3) := by decide +kernel
theorem dX10_hold_110 : decode cX10_hold 110 = .ok (.iastore, 1) := by decide +kernel
theorem dX10_hold_111 : decode cX10_hold 111 = .ok (.return_, 1) := by decide +kernel
theorem dX10_undo_0 : decode cX10_undo 0 = .ok (.iconst 0, 1) := by decide +kernel
theorem dX10_undo_1 : decode cX10_undo 1 = .ok (.istore_n 2, 1) := by decide +kernel
theorem dX10_undo_2 : decode cX10_undo 2 = .ok (.iload_n 2, 1) := by decide +kernel
theorem dX10_undo_3 : decode cX10_undo 3 = .ok (.bipush 64, 2) := by decide +kernel
theorem dX10_undo_5 : decode cX10_undo 5 = .ok (.if_icmp .ge 26, 3) := by decide +kernel
theorem dX10_undo_8 : decode cX10_undo 8 = .ok (.aload_n 0, 1) := by decide +kernel
theorem dX10_undo_9 : decode cX10_undo 9 = .ok (.getfield 16, 3) := by decide +kernel
theorem dX10_undo_12 : decode cX10_undo 12 = .ok (.iload_n 2, 1) := by decide +kernel
theorem dX10_undo_13 : decode cX10_undo 13 = .ok (.aload_n 0, 1) := by decide +kernel
theorem dX10_undo_14 : decode cX10_undo 14 = .ok (.getfield 71, 3) := by decide +kernel
theorem dX10_undo_17 : decode cX10_undo 17 = .ok (.bipush 64, 2) := by decide +kernel
theorem dX10_undo_19 : decode cX10_undo 19 = .ok (.iload_n 1, 1) := by decide +kernel
theorem dX10_undo_20 : decode cX10_undo 20 = .ok (.imul, 1) := by decide +kernel
theorem dX10_undo_21 : decode cX10_undo 21 = .ok (.iload_n 2, 1) := by decide +kernel
theorem dX10_undo_22 : decode cX10_undo 22 = .ok (.iadd, 1) := by decide +kernel
theorem dX10_undo_23 : decode cX10_undo 23 = .ok (.iaload, 1) := by decide +kernel
theorem dX10_undo_24 : decode cX10_undo 24 = .ok (.iastore, 1) := by decide +kernel
theorem dX10_undo_25 : decode cX10_undo 25 = .ok (.iinc 2 1, 3) := by decide +kernel
theorem dX10_undo_28 : decode cX10_undo 28 = .ok (.goto (-26), 3) := by decide +kernel
theorem dX10_undo_31 : decode cX10_undo 31 = .ok (.iconst 0, 1) := by decide +kernel
theorem dX10_undo_32 : decode cX10_undo 32 = .ok (.istore_n 2, 1) := by decide +kernel
theorem dX10_undo_33 : decode cX10_undo 33 = .ok (.iload_n 2, 1) := by decide +kernel
theorem dX10_undo_34 : decode cX10_undo 34 = .ok (.bipush 8, 2) := by decide +kernel
theorem dX10_undo_36 : decode cX10_undo 36 = .ok (.if_icmp .ge 26, 3) := by decide +kernel
theorem dX10_undo_39 : decode cX10_undo 39 = .ok (.aload_n 0, 1) := by decide +kernel
theorem dX10_undo_40 : decode cX10_undo 40 = .ok (.getfield 13, 3) := by decide +kernel
theorem dX10_undo_43 : decode cX10_undo 43 = .ok (.iload_n 2, 1) := by decide +kernel
theorem dX10_undo_44 : decode cX10_undo 44 = .ok (.aload_n 0, 1) := by decide +kernel
theorem dX10_undo_45 : decode cX10_undo 45 = .ok (.getfield 77, 3) := by decide +kernel
theorem dX10_undo_48 : decode cX10_undo 48 = .ok (.bipush 8, 2) := by decide +kernel
theorem dX10_undo_50 : decode cX10_undo 50 = .ok (.iload_n 1, 1) := by decide +kernel
theorem dX10_undo_51 : decode cX10_undo 51 = .ok (.imul, 1) := by decide +kernel
theorem dX10_undo_52 : decode cX10_undo 52 = .ok (.iload_n 2, 1) := by decide +kernel
theorem dX10_undo_53 : decode cX10_undo 53 = .ok (.iadd, 1) := by decide +kernel
theorem dX10_undo_54 : decode cX10_undo 54 = .ok (.iaload, 1) := by decide +kernel
theorem dX10_undo_55 : decode cX10_undo 55 = .ok (.iastore, 1) := by decide +kernel
theorem dX10_undo_56 : decode cX10_undo 56 = .ok (.iinc 2 1, 3) := by decide +kernel
theorem dX10_undo_59 : decode cX10_undo 59 = .ok (.goto (-26), 3) := by decide +kernel
theorem dX10_undo_62 : decode cX10_undo 62 = .ok (.iconst 0, 1) := by decide +kernel
theorem dX10_undo_63 : decode cX10_undo 63 = .ok (.istore_n 2, 1) := by decide +kernel
theorem dX10_undo_64 : decode cX10_undo 64 = .ok (.iload_n 2, 1) := by decide +kernel
theorem dX10_undo_65 : decode cX10_undo 65 = .ok (.iconst 4, 1) := by decide +kernel
theorem dX10_undo_66 : decode cX10_undo 66 = .ok (.if_icmp .ge 25, 3) := by decide +kernel
theorem dX10_undo_69 : decode cX10_undo 69 = .ok (.aload_n 0, 1) := by decide +kernel
theorem dX10_undo_70 : decode cX10_undo 70 = .ok (.getfield 7, 3) := by decide +kernel
theorem dX10_undo_73 : decode cX10_undo 73 = .ok (.iload_n 2, 1) := by decide +kernel
theorem dX10_undo_74 : decode cX10_undo 74 = .ok (.aload_n 0, 1) := by decide +kernel
theorem dX10_undo_75 : decode cX10_undo 75 = .ok (.getfield 74, 3) := by decide +kernel
theorem dX10_undo_78 : decode cX10_undo 78 = .ok (.iconst 4, 1) := by decide +kernel
theorem dX10_undo_79 : decode cX10_undo 79 = .ok (.iload_n 1, 1) := by decide +kernel
theorem dX10_undo_80 : decode cX10_undo 80 = .ok (.imul, 1) := by decide +kernel
theorem dX10_undo_81 : decode cX10_undo 81 = .ok (.iload_n 2, 1) := by decide +kernel
theorem dX10_undo_82 : decode cX10_undo 82 = .ok (.iadd, 1) := by decide +kernel
theorem dX10_undo_83 : decode cX10_undo 83 = .ok (.iaload, 1) := by decide +kernel
theorem dX10_undo_84 : decode cX10_undo 84 = .ok (.iastore, 1) := by decide +kernel
theorem dX10_undo_85 : decode cX10_undo 85 = .ok (.iinc 2 1, 3) := by decide +kernel
theorem dX10_undo_88 : decode cX10_undo 88 = .ok (.goto (-24), 3) := by decide +kernel
theorem dX10_undo_91 : decode cX10_undo 91 = .ok (.aload_n 0, 1) := by decide +kernel
theorem dX10_undo_92 : decode cX10_undo 92 = .ok (.aload_n 0, 1) := by decide +kernel
theorem dX10_undo_93 : decode cX10_undo 93 = .ok (.getfield 80, 3) := by decide +kernel
theorem dX10_undo_96 : decode cX10_undo 96 = .ok (.iload_n 1, 1) := by decide +kernel
theorem dX10_undo_97 : decode cX10_undo 97 = .ok (.iaload, 1) := by decide +kernel
theorem dX10_undo_98 : decode cX10_undo 98 = .ok (.putfield 136, 3) := by decide +kernel
theorem dX10_undo_101 : decode cX10_undo 101 = .ok (.aload_n 0, 1) := by decide +kernel
theorem dX10_undo_102 : decode cX10_undo 102 = .ok (.aload_n 0, 1) := by decide +kernel
theorem dX10_undo_103 : decode cX10_undo 103 = .ok (.getfield 83, 3) := by decide +kernel
theorem dX10_undo_106 : decode cX10_undo 106 = .ok (.iload_n 1, 1) := by decide +kernel
theorem dX10_undo_107 : decode cX10_undo 107 = .ok (.iaload, 1) := by decide +kernel
theorem dX10_undo_108 : decode cX10_undo 108 = .ok (.putfield 153, 3) := by decide +kernel
theorem dX10_undo_111 : decode cX10_undo 111 = .ok (.return_, 1) := by decide +kernel
theorem dX10_enter_0 : decode cX10_enter 0 = .ok (.aload_n 0, 1) := by decide +kernel
theorem dX10_enter_1 : decode cX10_enter 1 = .ok (.getfield 156, 3) := by decide +kernel
theorem dX10_enter_4 : decode cX10_enter 4 = .ok (.istore 8, 2) := by decide +kernel
theorem dX10_enter_6 : decode cX10_enter 6 = .ok (.aload_n 0, 1) := by decide +kernel
theorem dX10_enter_7 : decode cX10_enter 7 = .ok (.iload 8, 2) := by decide +kernel
theorem dX10_enter_9 : decode cX10_enter 9 = .ok (.invokevirtual 159, 3) := by decide +kernel
theorem dX10_enter_12 : decode cX10_enter 12 = .ok (.aload_n 0, 1) := by decide +kernel
theorem dX10_enter_13 : decode cX10_enter 13 = .ok (.getfield 35, 3) := by decide +kernel
theorem dX10_enter_16 : decode cX10_enter 16 = .ok (.iload 8, 2) := by decide +kernel
theorem dX10_enter_18 : decode cX10_enter 18 = .ok (.iload_n 1, 1) := by decide +kernel
theorem dX10_enter_19 : decode cX10_enter 19 = .ok (.iastore, 1) := by decide +kernel
theorem dX10_enter_20 : decode cX10_enter 20 = .ok (.aload_n 0, 1) := by decide +kernel
theorem dX10_enter_21 : decode cX10_enter 21 = .ok (.getfield 38, 3) := by decide +kernel
theorem dX10_enter_24 : decode cX10_enter 24 = .ok (.iload 8, 2) := by decide +kernel
theorem dX10_enter_26 : decode cX10_enter 26 = .ok (.iload_n 2, 1) := by decide +kernel
theorem dX10_enter_27 : decode cX10_enter 27 = .ok (.iastore, 1) := by decide +kernel
theorem dX10_enter_28 : decode cX10_enter 28 = .ok (.aload_n 0, 1) := by decide +kernel
theorem dX10_enter_29 : decode cX10_enter 29 = .ok (.getfield 41, 3) := by decide +kernel
theorem dX10_enter_32 : decode cX10_enter 32 = .ok (.iload 8, 2) := by decide +kernel
theorem dX10_enter_34 : decode cX10_enter 34 = .ok (.iload_n 3, 1) := by decide +kernel
theorem dX10_enter_35 : decode cX10_enter 35 = .ok (.iastore, 1) := by decide +kernel
theorem dX10_enter_36 : decode cX10_enter 36 = .ok (.aload_n 0, 1) := by decide +kernel
theorem dX10_enter_37 : decode cX10_enter 37 = .ok (.getfield 44, 3) := by decide +kernel
theorem dX10_enter_40 : decode cX10_enter 40 = .ok (.iload 8, 2) := by decide +kernel
theorem dX10_enter_42 : decode cX10_enter 42 = .ok (.iload 4, 2) := by decide +kernel
theorem dX10_enter_44 : decode cX10_enter 44 = .ok (.iastore, 1) := by decide +kernel
theorem dX10_enter_45 : decode cX10_enter 45 = .ok (.aload_n 0, 1) := by decide +kernel
theorem dX10_enter_46 : decode cX10_enter 46 = .ok (.getfield 47, 3) := by decide +kernel
theorem dX10_enter_49 : decode cX10_enter 49 = .ok (.iload 8, 2) := by decide +kernel
theorem dX10_enter_51 : decode cX10_enter 51 = .ok (.iload 5, 2) := by decide +kernel
theorem dX10_enter_53 : decode cX10_enter 53 = .ok (.iastore, 1) := by decide +kernel
theorem dX10_enter_54 : decode cX10_enter 54 = .ok (.aload_n 0, 1) := by decide +kernel
theorem dX10_enter_55 : decode cX10_enter 55 = .ok (.getfield 50, 3) := by decide +kernel
theorem dX10_enter_58 : decode cX10_enter 58 = .ok (.iload 8, 2) := by decide +kernel
theorem dX10_enter_60 : decode cX10_enter 60 = .ok (.iconst 0, 1) := by decide +kernel
theorem dX10_enter_61 : decode cX10_enter 61 = .ok (.iastore, 1) := by decide +kernel
theorem dX10_enter_62 : decode cX10_enter 62 = .ok (.aload_n 0, 1) := by decide +kernel
theorem dX10_enter_63 : decode cX10_enter 63 = .ok (.getfield 53, 3) := by decide +kernel
theorem dX10_enter_66 : decode cX10_enter 66 = .ok (.iload 8, 2) := by decide +kernel
theorem dX10_enter_68 : decode cX10_enter 68 = .ok (.iconst 0, 1) := by decide +kernel
theorem dX10_enter_69 : decode cX10_enter 69 = .ok (.iastore, 1) := by decide +kernel
theorem dX10_enter_70 : decode cX10_enter 70 = .ok (.aload_n 0, 1) := by decide +kernel
theorem dX10_enter_71 : decode cX10_enter 71 = .ok (.getfield 56, 3) := by decide +kernel
theorem dX10_enter_74 : decode cX10_enter 74 = .ok (.iload 8, 2) := by decide +kernel
theorem dX10_enter_76 : decode cX10_enter 76 = .ok (.iconst 0, 1) := by decide +kernel
theorem dX10_enter_77 : decode cX10_enter 77 = .ok (.iastore, 1) := by decide +kernel
theorem dX10_enter_78 : decode cX10_enter 78 = .ok (.aload_n 0, 1) := by decide +kernel
theorem dX10_enter_79 : decode cX10_enter 79 = .ok (.getfield 59, 3) := by decide +kernel
theorem dX10_enter_82 : decode cX10_enter 82 = .ok (.iload 8, 2) := by decide +kernel
theorem dX10_enter_84 : decode cX10_enter 84 = .ok (.iload 6, 2) := by decide +kernel
theorem dX10_enter_86 : decode cX10_enter 86 = .ok (.iastore, 1) := by decide +kernel
theorem dX10_enter_87 : decode cX10_enter 87 = .ok (.aload_n 0, 1) := by decide +kernel
theorem dX10_enter_88 : decode cX10_enter 88 = .ok (.getfield 65, 3) := by decide +kernel
theorem dX10_enter_91 : decode cX10_enter 91 = .ok (.iload 8, 2) := by decide +kernel
theorem dX10_enter_93 : decode cX10_enter 93 = .ok (.iload 7, 2) := by decide +kernel
theorem dX10_enter_95 : decode cX10_enter 95 = .ok (.bastore, 1) := by decide +kernel
theorem dX10_enter_96 : decode cX10_enter 96 = .ok (.aload_n 0, 1) := by decide +kernel
theorem dX10_enter_97 : decode cX10_enter 97 = .ok (.getfield 62, 3) := by decide +kernel
theorem dX10_enter_100 : decode cX10_enter 100 = .ok (.iload 8, 2) := by decide +kernel
theorem dX10_enter_102 : decode cX10_enter 102 = .ok (.aload_n 0, 1) := by decide +kernel
theorem dX10_enter_103 : decode cX10_enter 103 = .ok (.getfield 139, 3) := by decide +kernel
theorem dX10_enter_106 : decode cX10_enter 106 = .ok (.iastore, 1) := by decide +kernel
theorem dX10_enter_107 : decode cX10_enter 107 = .ok (.aload_n 0, 1) := by decide +kernel
theorem dX10_enter_108 : decode cX10_enter 108 = .ok (.getfield 13, 3) := by decide +kernel
theorem dX10_enter_111 : decode cX10_enter 111 = .ok (.iload_n 1, 1) := by decide +kernel
theorem dX10_enter_112 : decode cX10_enter 112 = .ok (.iconst 4, 1) := by decide +kernel
theorem dX10_enter_113 : decode cX10_enter 113 = .ok (.idiv, 1) := by decide +kernel
theorem dX10_enter_114 : decode cX10_enter 114 = .ok (.dup2, 1) := by decide +kernel
theorem dX10_enter_115 : decode cX10_enter 115 = .ok (.iaload, 1) := by decide +kernel
theorem dX10_enter_116 : decode cX10_enter 116 = .ok (.iload_n 3, 1) := by decide +kernel
theorem dX10_enter_117 : decode cX10_enter 117 = .ok (.iadd, 1) := by decide +kernel
theorem dX10_enter_118 : decode cX10_enter 118 = .ok (.iastore, 1) := by decide +kernel
theorem dX10_enter_119 : decode cX10_enter 119 = .ok (.iload 4, 2) := by decide +kernel
theorem dX10_enter_121 : decode cX10_enter 121 = .ok (.bipush 100, 2) := by decide +kernel
theorem dX10_enter_123 : decode cX10_enter 123 = .ok (.if_icmp .lt 20, 3) := by decide +kernel
theorem dX10_enter_126 : decode cX10_enter 126 = .ok (.aload_n 0, 1) := by decide +kernel
theorem dX10_enter_127 : decode cX10_enter 127 = .ok (.getfield 7, 3) := by decide +kernel
theorem dX10_enter_130 : decode cX10_enter 130 = .ok (.iload 4, 2) := by decide +kernel
theorem dX10_enter_132 : decode cX10_enter 132 = .ok (.bipush 100, 2) := by decide +kernel
theorem dX10_enter_134 : decode cX10_enter 134 = .ok (.isub, 1) := by decide +kernel
theorem dX10_enter_135 : decode cX10_enter 135 = .ok (.dup2, 1) := by decide +kernel
theorem dX10_enter_136 : decode cX10_enter 136 = .ok (.iaload, 1) := by decide +kernel
theorem dX10_enter_137 : decode cX10_enter 137 = .ok (.iload_n 3, 1) := by decide +kernel
theorem dX10_enter_138 : decode cX10_enter 138 = .ok (.isub, 1) := by decide +kernel
theorem dX10_enter_139 : decode cX10_enter 139 = .ok (.iastore, 1) := by decide +kernel
theorem dX10_enter_140 : decode cX10_enter 140 = .ok (.goto 14, 3) := by decide +kernel
theorem dX10_enter_143 : decode cX10_enter 143 = .ok (.aload_n 0, 1) := by decide +kernel
theorem dX10_enter_144 : decode cX10_enter 144 = .ok (.getfield 13, 3) := by decide +kernel
theorem dX10_enter_147 : decode cX10_enter 147 = .ok (.iload 4, 2) := by decide +kernel
theorem dX10_enter_149 : decode cX10_enter 149 = .ok (.dup2, 1) := by decide +kernel
theorem dX10_enter_150 : decode cX10_enter 150 = .ok (.iaload, 1) := by decide +kernel
theorem dX10_enter_151 : decode cX10_enter 151 = .ok (.iload_n 3, 1) := by decide +kernel
theorem dX10_enter_152 : decode cX10_enter 152 = .ok (.isub, 1) := by decide +kernel
theorem dX10_enter_153 : decode cX10_enter 153 = .ok (.iastore, 1) := by decide +kernel
theorem dX10_enter_154 : decode cX10_enter 154 = .ok (.aload_n 0, 1) := by decide +kernel
theorem dX10_enter_155 : decode cX10_enter 155 = .ok (.dup, 1) := by decide +kernel
theorem dX10_enter_156 : decode cX10_enter 156 = .ok (.getfield 156, 3) := by decide +kernel
theorem dX10_enter_159 : decode cX10_enter 159 = .ok (.iconst 1, 1) := by decide +kernel
theorem dX10_enter_160 : decode cX10_enter 160 = .ok (.iadd, 1) := by decide +kernel
theorem dX10_enter_161 : decode cX10_enter 161 = .ok (.putfield 156, 3) := by decide +kernel
theorem dX10_enter_164 : decode cX10_enter 164 = .ok (.aload_n 0, 1) := by decide +kernel
theorem dX10_enter_165 : decode cX10_enter 165 = .ok (.aload_n 0, 1) := by decide +kernel
theorem dX10_enter_166 : decode cX10_enter 166 = .ok (.getfield 156, 3) := by decide +kernel
theorem dX10_enter_169 : decode cX10_enter 169 = .ok (.aload_n 0, 1) := by decide +kernel
theorem dX10_enter_170 : decode cX10_enter 170 = .ok (.getfield 163, 3) := by decide +kernel
theorem dX10_enter_173 : decode cX10_enter 173 = .ok (.if_icmp .le 10, 3) := by decide +kernel
theorem dX10_enter_176 : decode cX10_enter 176 = .ok (.aload_n 0, 1) := by decide +kernel
theorem dX10_enter_177 : decode cX10_enter 177 = .ok (.getfield 156, 3) := by decide +kernel
theorem dX10_enter_180 : decode cX10_enter 180 = .ok (.goto 7, 3) := by decide +kernel
theorem dX10_enter_183 : decode cX10_enter 183 = .ok (.aload_n 0, 1) := by decide +kernel
theorem dX10_enter_184 : decode cX10_enter 184 = .ok (.getfield 163, 3) := by decide +kernel
theorem dX10_enter_187 : decode cX10_enter 187 = .ok (.putfield 163, 3) := by decide +kernel
theorem dX10_enter_190 : decode cX10_enter 190 = .ok (.aload_n 0, 1) := by decide +kernel
theorem dX10_enter_191 : decode cX10_enter 191 = .ok (.getfield 139, 3) := by decide +kernel
theorem dX10_enter_194 : decode cX10_enter 194 = .ok (.bipush 40, 2) := by decide +kernel
theorem dX10_enter_196 : decode cX10_enter 196 = .ok (.if_icmp .ge 37, 3) := by decide +kernel
theorem dX10_enter_199 : decode cX10_enter 199 = .ok (.aload_n 0, 1) := by decide +kernel
theorem dX10_enter_200 : decode cX10_enter 200 = .ok (.getfield 98, 3) := by decide +kernel
theorem dX10_enter_203 : decode cX10_enter 203 = .ok (.aload_n 0, 1) := by decide +kernel
theorem dX10_enter_204 : decode cX10_enter 204 = .ok (.getfield 139, 3) := by decide +kernel
theorem dX10_enter_207 : decode cX10_enter 207 = .ok (.iload_n 1, 1) := by decide +kernel
theorem dX10_enter_208 : decode cX10_enter 208 = .ok (.iastore, 1) := by decide +kernel
theorem dX10_enter_209 : decode cX10_enter 209 = .ok (.aload_n 0, 1) := by decide +kernel
theorem dX10_enter_210 : decode cX10_enter 210 = .ok (.getfield 101, 3) := by decide +kernel
theorem dX10_enter_213 : decode cX10_enter 213 = .ok (.aload_n 0, 1) := by decide +kernel
theorem dX10_enter_214 : decode cX10_enter 214 = .ok (.getfield 139, 3) := by decide +kernel
theorem dX10_enter_217 : decode cX10_enter 217 = .ok (.aload_n 0, 1) := by decide +kernel
theorem dX10_enter_218 : decode cX10_enter 218 = .ok (.getfield 156, 3) := by decide +kernel
theorem dX10_enter_221 : decode cX10_enter 221 = .ok (.iastore, 1) := by decide +kernel
theorem dX10_enter_222 : decode cX10_enter 222 = .ok (.aload_n 0, 1) := by decide +kernel
theorem dX10_enter_223 : decode cX10_enter 223 = .ok (.getfield 113, 3) := by decide +kernel
theorem dX10_enter_226 : decode cX10_enter 226 = .ok (.aload_n 0, 1) := by decide +kernel
theorem dX10_enter_227 : decode cX10_enter 227 = .ok (.getfield 139, 3) := by decide +kernel
theorem dX10_enter_230 : decode cX10_enter 230 = .ok (.iload 7, 2) := by decide +kernel
theorem dX10_enter_232 : decode cX10_enter 232 = .ok (.bastore, 1) := by decide +kernel
theorem dX10_enter_233 : decode cX10_enter 233 = .ok (.aload_n 0, 1) := by decide +kernel
theorem dX10_enter_234 : decode cX10_enter 234 = .ok (.dup, 1) := by decide +kernel
theorem dX10_enter_235 : decode cX10_enter 235 = .ok (.getfield 139, 3) := by decide +kernel
theorem dX10_enter_238 : decode cX10_enter 238 = .ok (.iconst 1, 1) := by decide +kernel
theorem dX10_enter_239 : decode cX10_enter 239 = .ok (.iadd, 1) := by decide +kernel
theorem dX10_enter_240 : decode cX10_enter 240 = .ok (.putfield 139, 3) := by decide +kernel
theorem dX10_enter_243 : decode cX10_enter 243 = .ok (.return_, 1) := by decide +kernel
theorem dX10_push_0 : decode cX10_push 0 = .ok (.aload_n 0, 1) := by decide +kernel
theorem dX10_push_1 : decode cX10_push 1 = .ok (.getfield 68, 3) := by decide +kernel
theorem dX10_push_4 : decode cX10_push 4 = .ok (.bipush 8, 2) := by decide +kernel
theorem dX10_push_6 : decode cX10_push 6 = .ok (.iload_n 1, 1) := by decide +kernel
theorem dX10_push_7 : decode cX10_push 7 = .ok (.imul, 1) := by decide +kernel
theorem dX10_push_8 : decode cX10_push 8 = .ok (.aload_n 0, 1) := by decide +kernel
theorem dX10_push_9 : decode cX10_push 9 = .ok (.getfield 56, 3) := by decide +kernel
theorem dX10_push_12 : decode cX10_push 12 = .ok (.iload_n 1, 1) := by decide +kernel
theorem dX10_push_13 : decode cX10_push 13 = .ok (.iaload, 1) := by decide +kernel
theorem dX10_push_14 : decode cX10_push 14 = .ok (.iadd, 1) := by decide +kernel
theorem dX10_push_15 : decode cX10_push 15 = .ok (.iload_n 2, 1) := by decide +kernel
theorem dX10_push_16 : decode cX10_push 16 = .ok (.iastore, 1) := by decide +kernel
theorem dX10_push_17 : decode cX10_push 17 = .ok (.aload_n 0, 1) := by decide +kernel
theorem dX10_push_18 : decode cX10_push 18 = .ok (.getfield 56, 3) := by decide +kernel
theorem dX10_push_21 : decode cX10_push 21 = .ok (.iload_n 1, 1) := by decide +kernel
theorem dX10_push_22 : decode cX10_push 22 = .ok (.dup2, 1) := by decide +kernel
theorem dX10_push_23 : decode cX10_push 23 = .ok (.iaload, 1) := by decide +kernel
theorem dX10_push_24 : decode cX10_push 24 = .ok (.iconst 1, 1) := by decide +kernel
theorem dX10_push_25 : decode cX10_push 25 = .ok (.iadd, 1) := by decide +kernel
theorem dX10_push_26 : decode cX10_push 26 = .ok (.iastore, 1) := by decide +kernel
theorem dX10_push_27 : decode cX10_push 27 = .ok (.return_, 1) := by decide +kernel
theorem dX10_pop_0 : decode cX10_pop 0 = .ok (.aload_n 0, 1) := by decide +kernel
theorem dX10_pop_1 : decode cX10_pop 1 = .ok (.getfield 56, 3) := by decide +kernel
theorem dX10_pop_4 : decode cX10_pop 4 = .ok (.iload_n 1, 1) := by decide +kernel
theorem dX10_pop_5 : decode cX10_pop 5 = .ok (.dup2, 1) := by decide +kernel
theorem dX10_pop_6 : decode cX10_pop 6 = .ok (.iaload, 1) := by decide +kernel
theorem dX10_pop_7 : decode cX10_pop 7 = .ok (.iconst 1, 1) := by decide +kernel
theorem dX10_pop_8 : decode cX10_pop 8 = .ok (.isub, 1) := by decide +kernel
theorem dX10_pop_9 : decode cX10_pop 9 = .ok (.iastore, 1) := by decide +kernel
theorem dX10_pop_10 : decode cX10_pop 10 = .ok (.aload_n 0, 1) := by decide +kernel
theorem dX10_pop_11 : decode cX10_pop 11 = .ok (.getfield 68, 3) := by decide +kernel
theorem dX10_pop_14 : decode cX10_pop 14 = .ok (.bipush 8, 2) := by decide +kernel
theorem dX10_pop_16 : decode cX10_pop 16 = .ok (.iload_n 1, 1) := by decide +kernel
theorem dX10_pop_17 : decode cX10_pop 17 = .ok (.imul, 1) := by decide +kernel
theorem dX10_pop_18 : decode cX10_pop 18 = .ok (.aload_n 0, 1) := by decide +kernel
theorem dX10_pop_19 : decode cX10_pop 19 = .ok (.getfield 56, 3) := by decide +kernel
theorem dX10_pop_22 : decode cX10_pop 22 = .ok (.iload_n 1, 1) := by decide +kernel
theorem dX10_pop_23 : decode cX10_pop 23 = .ok (.iaload, 1) := by decide +kernel
theorem dX10_pop_24 : decode cX10_pop 24 = .ok (.iadd, 1) := by decide +kernel
theorem dX10_pop_25 : decode cX10_pop 25 = .ok (.iaload, 1) := by decide +kernel
theorem dX10_pop_26 : decode cX10_pop 26 = .ok (.ireturn, 1) := by decide +kernel
theorem dX10_takes_0 : decode cX10_takes 0 = .ok (.iload_n 0, 1) := by decide +kernel
theorem dX10_takes_1 : decode cX10_takes 1 = .ok (.tableswitch 93 7 24 #[87, 89, 89, 89, 89, 89, 89, 87, 87, 87, 87, 89, 91, 91, 89, 87, 87, 87], 87) := by decide +kernel
theorem dX10_takes_88 : decode cX10_takes 88 = .ok (.iconst 1, 1) := by decide +kernel
theorem dX10_takes_89 : decode cX10_takes 89 = .ok (.ireturn, 1) := by decide +kernel
theorem dX10_takes_90 : decode cX10_takes 90 = .ok (.iconst 2, 1) := by decide +kernel
theorem dX10_takes_91 : decode cX10_takes 91 = .ok (.ireturn, 1) := by decide +kernel
theorem dX10_takes_92 : decode cX10_takes 92 = .ok (.iconst 3, 1) := by decide +kernel
theorem dX10_takes_93 : decode cX10_takes 93 = .ok (.ireturn, 1) := by decide +kernel
theorem dX10_takes_94 : decode cX10_takes 94 = .ok (.iconst 0, 1) := by decide +kernel
theorem dX10_takes_95 : decode cX10_takes 95 = .ok (.ireturn, 1) := by decide +kernel
theorem dX10_leaves_0 : decode cX10_leaves 0 = .ok (.iload_n 0, 1) := by decide +kernel
theorem dX10_leaves_1 : decode cX10_leaves 1 = .ok (.bipush 7, 2) := by decide +kernel
theorem dX10_leaves_3 : decode cX10_leaves 3 = .ok (.if_icmp .ge 5, 3) := by decide +kernel
theorem dX10_leaves_6 : decode cX10_leaves 6 = .ok (.iconst 1, 1) := by decide +kernel
theorem dX10_leaves_7 : decode cX10_leaves 7 = .ok (.ireturn, 1) := by decide +kernel
theorem dX10_leaves_8 : decode cX10_leaves 8 = .ok (.iload_n 0, 1) := by decide +kernel
theorem dX10_leaves_9 : decode cX10_leaves 9 = .ok (.bipush 16, 2) := by decide +kernel
theorem dX10_leaves_11 : decode cX10_leaves 11 = .ok (.if_icmp .eq 15, 3) := by decide +kernel
theorem dX10_leaves_14 : decode cX10_leaves 14 = .ok (.iload_n 0, 1) := by decide +kernel
theorem dX10_leaves_15 : decode cX10_leaves 15 = .ok (.bipush 18, 2) := by decide +kernel
theorem dX10_leaves_17 : decode cX10_leaves 17 = .ok (.if_icmp .eq 9, 3) := by decide +kernel
theorem dX10_leaves_20 : decode cX10_leaves 20 = .ok (.iload_n 0, 1) := by decide +kernel
theorem dX10_leaves_21 : decode cX10_leaves 21 = .ok (.bipush 20, 2) := by decide +kernel
theorem dX10_leaves_23 : decode cX10_leaves 23 = .ok (.if_icmp .ne 7, 3) := by decide +kernel
theorem dX10_leaves_26 : decode cX10_leaves 26 = .ok (.iconst 2, 1) := by decide +kernel
theorem dX10_leaves_27 : decode cX10_leaves 27 = .ok (.goto 31, 3) := by decide +kernel
theorem dX10_leaves_30 : decode cX10_leaves 30 = .ok (.iload_n 0, 1) := by decide +kernel
theorem dX10_leaves_31 : decode cX10_leaves 31 = .ok (.bipush 8, 2) := by decide +kernel
theorem dX10_leaves_33 : decode cX10_leaves 33 = .ok (.bipush 13, 2) := by decide +kernel
theorem dX10_leaves_35 : decode cX10_leaves 35 = .ok (.invokestatic 142, 3) := by decide +kernel
theorem dX10_leaves_38 : decode cX10_leaves 38 = .ok (.ifCond .ne 15, 3) := by decide +kernel
theorem dX10_leaves_41 : decode cX10_leaves 41 = .ok (.iload_n 0, 1) := by decide +kernel
theorem dX10_leaves_42 : decode cX10_leaves 42 = .ok (.bipush 19, 2) := by decide +kernel
theorem dX10_leaves_44 : decode cX10_leaves 44 = .ok (.if_icmp .eq 9, 3) := by decide +kernel
theorem dX10_leaves_47 : decode cX10_leaves 47 = .ok (.iload_n 0, 1) := by decide +kernel
theorem dX10_leaves_48 : decode cX10_leaves 48 = .ok (.bipush 21, 2) := by decide +kernel
theorem dX10_leaves_50 : decode cX10_leaves 50 = .ok (.if_icmp .ne 7, 3) := by decide +kernel
theorem dX10_leaves_53 : decode cX10_leaves 53 = .ok (.iconst 1, 1) := by decide +kernel
theorem dX10_leaves_54 : decode cX10_leaves 54 = .ok (.goto 4, 3) := by decide +kernel
theorem dX10_leaves_57 : decode cX10_leaves 57 = .ok (.iconst 0, 1) := by decide +kernel
theorem dX10_leaves_58 : decode cX10_leaves 58 = .ok (.ireturn, 1) := by decide +kernel
theorem dX10_ends_0 : decode cX10_ends 0 = .ok (.iload_n 1, 1) := by decide +kernel
theorem dX10_ends_1 : decode cX10_ends 1 = .ok (.istore_n 3, 1) := by decide +kernel
theorem dX10_ends_2 : decode cX10_ends 2 = .ok (.iload_n 2, 1) := by decide +kernel
theorem dX10_ends_3 : decode cX10_ends 3 = .ok (.istore 4, 2) := by decide +kernel
theorem dX10_ends_5 : decode cX10_ends 5 = .ok (.iconst 1, 1) := by decide +kernel
theorem dX10_ends_6 : decode cX10_ends 6 = .ok (.istore 5, 2) := by decide +kernel
theorem dX10_ends_8 : decode cX10_ends 8 = .ok (.iload 5, 2) := by decide +kernel
theorem dX10_ends_10 : decode cX10_ends 10 = .ok (.ifCond .eq 235, 3) := by decide +kernel
theorem dX10_ends_13 : decode cX10_ends 13 = .ok (.aload_n 0, 1) := by decide +kernel
theorem dX10_ends_14 : decode cX10_ends 14 = .ok (.dup, 1) := by decide +kernel
theorem dX10_ends_15 : decode cX10_ends 15 = .ok (.getfield 156, 3) := by decide +kernel
theorem dX10_ends_18 : decode cX10_ends 18 = .ok (.iconst 1, 1) := by decide +kernel
theorem dX10_ends_19 : decode cX10_ends 19 = .ok (.isub, 1) := by decide +kernel
theorem dX10_ends_20 : decode cX10_ends 20 = .ok (.putfield 156, 3) := by decide +kernel
theorem dX10_ends_23 : decode cX10_ends 23 = .ok (.aload_n 0, 1) := by decide +kernel
theorem dX10_ends_24 : decode cX10_ends 24 = .ok (.getfield 156, 3) := by decide +kernel
theorem dX10_ends_27 : decode cX10_ends 27 = .ok (.istore 6, 2) := by decide +kernel
theorem dX10_ends_29 : decode cX10_ends 29 = .ok (.iload_n 3, 1) := by decide +kernel
theorem dX10_ends_30 : decode cX10_ends 30 = .ok (.ifCond .eq 9, 3) := by decide +kernel
theorem dX10_ends_33 : decode cX10_ends 33 = .ok (.aload_n 0, 1) := by decide +kernel
theorem dX10_ends_34 : decode cX10_ends 34 = .ok (.iload 6, 2) := by decide +kernel
theorem dX10_ends_36 : decode cX10_ends 36 = .ok (.invokevirtual 166, 3) := by decide +kernel
theorem dX10_ends_39 : decode cX10_ends 39 = .ok (.aload_n 0, 1) := by decide +kernel
theorem dX10_ends_40 : decode cX10_ends 40 = .ok (.getfield 62, 3) := by decide +kernel
theorem dX10_ends_43 : decode cX10_ends 43 = .ok (.iload 6, 2) := by decide +kernel
theorem dX10_ends_45 : decode cX10_ends 45 = .ok (.iaload, 1) := by decide +kernel
theorem dX10_ends_46 : decode cX10_ends 46 = .ok (.istore 7, 2) := by decide +kernel
theorem dX10_ends_48 : decode cX10_ends 48 = .ok (.iload 7, 2) := by decide +kernel
theorem dX10_ends_50 : decode cX10_ends 50 = .ok (.bipush 40, 2) := by decide +kernel
theorem dX10_ends_52 : decode cX10_ends 52 = .ok (.if_icmp .ge 42, 3) := by decide +kernel
theorem dX10_ends_55 : decode cX10_ends 55 = .ok (.aload_n 0, 1) := by decide +kernel
theorem dX10_ends_56 : decode cX10_ends 56 = .ok (.getfield 104, 3) := by decide +kernel
theorem dX10_ends_59 : decode cX10_ends 59 = .ok (.iload 7, 2) := by decide +kernel
theorem dX10_ends_61 : decode cX10_ends 61 = .ok (.aload_n 0, 1) := by decide +kernel
theorem dX10_ends_62 : decode cX10_ends 62 = .ok (.getfield 50, 3) := by decide +kernel
theorem dX10_ends_65 : decode cX10_ends 65 = .ok (.iload 6, 2) := by decide +kernel
theorem dX10_ends_67 : decode cX10_ends 67 = .ok (.iaload, 1) := by decide +kernel
theorem dX10_ends_68 : decode cX10_ends 68 = .ok (.iastore, 1) := by decide +kernel
theorem dX10_ends_69 : decode cX10_ends 69 = .ok (.aload_n 0, 1) := by decide +kernel
theorem dX10_ends_70 : decode cX10_ends 70 = .ok (.getfield 107, 3) := by decide +kernel
theorem dX10_ends_73 : decode cX10_ends 73 = .ok (.iload 7, 2) := by decide +kernel
theorem dX10_ends_75 : decode cX10_ends 75 = .ok (.iload_n 3, 1) := by decide +kernel
theorem dX10_ends_76 : decode cX10_ends 76 = .ok (.iastore, 1) := by decide +kernel
theorem dX10_ends_77 : decode cX10_ends 77 = .ok (.aload_n 0, 1) := by decide +kernel
theorem dX10_ends_78 : decode cX10_ends 78 = .ok (.getfield 110, 3) := by decide +kernel
theorem dX10_ends_81 : decode cX10_ends 81 = .ok (.iload 7, 2) := by decide +kernel
theorem dX10_ends_83 : decode cX10_ends 83 = .ok (.iload_n 3, 1) := by decide +kernel
theorem dX10_ends_84 : decode cX10_ends 84 = .ok (.ifCond .ne 8, 3) := by decide +kernel
theorem dX10_ends_87 : decode cX10_ends 87 = .ok (.iload 4, 2) := by decide +kernel
theorem dX10_ends_89 : decode cX10_ends 89 = .ok (.goto 4, 3) := by decide +kernel
theorem dX10_ends_92 : decode cX10_ends 92 = .ok (.iconst 0, 1) := by decide +kernel
theorem dX10_ends_93 : decode cX10_ends 93 = .ok (.iastore, 1) := by decide +kernel
theorem dX10_ends_94 : decode cX10_ends 94 = .ok (.iload 6, 2) := by decide +kernel
theorem dX10_ends_96 : decode cX10_ends 96 = .ok (.ifCond .ne 33, 3) := by decide +kernel
theorem dX10_ends_99 : decode cX10_ends 99 = .ok (.aload_n 0, 1) := by decide +kernel
theorem dX10_ends_100 : decode cX10_ends 100 = .ok (.aload_n 0, 1) := by decide +kernel
theorem dX10_ends_101 : decode cX10_ends 101 = .ok (.getfield 50, 3) := by decide +kernel
theorem dX10_ends_104 : decode cX10_ends 104 = .ok (.iconst 0, 1) := by decide +kernel
theorem dX10_ends_105 : decode cX10_ends 105 = .ok (.iaload, 1) := by decide +kernel
theorem dX10_ends_106 : decode cX10_ends 106 = .ok (.putfield 169, 3) := by decide +kernel
theorem dX10_ends_109 : decode cX10_ends 109 = .ok (.aload_n 0, 1) := by decide +kernel
theorem dX10_ends_110 : decode cX10_ends 110 = .ok (.iload_n 3, 1) := by decide +kernel
theorem dX10_ends_111 : decode cX10_ends 111 = .ok (.putfield 172, 3) := by decide +kernel
theorem dX10_ends_114 : decode cX10_ends 114 = .ok (.aload_n 0, 1) := by decide +kernel
theorem dX10_ends_115 : decode cX10_ends 115 = .ok (.iload_n 3, 1) := by decide +kernel
theorem dX10_ends_116 : decode cX10_ends 116 = .ok (.ifCond .ne 8, 3) := by decide +kernel
theorem dX10_ends_119 : decode cX10_ends 119 = .ok (.iload 4, 2) := by decide +kernel
theorem dX10_ends_121 : decode cX10_ends 121 = .ok (.goto 4, 3) := by decide +kernel
theorem dX10_ends_124 : decode cX10_ends 124 = .ok (.iload_n 3, 1) := by decide +kernel
theorem dX10_ends_125 : decode cX10_ends 125 = .ok (.putfield 175, 3) := by decide +kernel
theorem dX10_ends_128 : decode cX10_ends 128 = .ok (.return_, 1) := by decide +kernel
theorem dX10_ends_129 : decode cX10_ends 129 = .ok (.aload_n 0, 1) := by decide +kernel
theorem dX10_ends_130 : decode cX10_ends 130 = .ok (.getfield 50, 3) := by decide +kernel
theorem dX10_ends_133 : decode cX10_ends 133 = .ok (.iload 6, 2) := by decide +kernel
theorem dX10_ends_135 : decode cX10_ends 135 = .ok (.iconst 1, 1) := by decide +kernel
theorem dX10_ends_136 : decode cX10_ends 136 = .ok (.isub, 1) := by decide +kernel
theorem dX10_ends_137 : decode cX10_ends 137 = .ok (.dup2, 1) := by decide +kernel
theorem dX10_ends_138 : decode cX10_ends 138 = .ok (.iaload, 1) := by decide +kernel
theorem dX10_ends_139 : decode cX10_ends 139 = .ok (.aload_n 0, 1) := by decide +kernel
theorem dX10_ends_140 : decode cX10_ends 140 = .ok (.getfield 50, 3) := by decide +kernel
theorem dX10_ends_143 : decode cX10_ends 143 = .ok (.iload 6, 2) := by decide +kernel
theorem dX10_ends_145 : decode cX10_ends 145 = .ok (.iaload, 1) := by decide +kernel
theorem dX10_ends_146 : decode cX10_ends 146 = .ok (.iadd, 1) := by decide +kernel
theorem dX10_ends_147 : decode cX10_ends 147 = .ok (.iastore, 1) := by decide +kernel
theorem dX10_ends_148 : decode cX10_ends 148 = .ok (.aload_n 0, 1) := by decide +kernel
theorem dX10_ends_149 : decode cX10_ends 149 = .ok (.getfield 47, 3) := by decide +kernel
theorem dX10_ends_152 : decode cX10_ends 152 = .ok (.iload 6, 2) := by decide +kernel
theorem dX10_ends_154 : decode cX10_ends 154 = .ok (.iconst 1, 1) := by decide +kernel
theorem dX10_ends_155 : decode cX10_ends 155 = .ok (.isub, 1) := by decide +kernel
theorem dX10_ends_156 : decode cX10_ends 156 = .ok (.dup2, 1) := by decide +kernel
theorem dX10_ends_157 : decode cX10_ends 157 = .ok (.iaload, 1) := by decide +kernel
theorem dX10_ends_158 : decode cX10_ends 158 = .ok (.aload_n 0, 1) := by decide +kernel
theorem dX10_ends_159 : decode cX10_ends 159 = .ok (.getfield 50, 3) := by decide +kernel
theorem dX10_ends_162 : decode cX10_ends 162 = .ok (.iload 6, 2) := by decide +kernel
theorem dX10_ends_164 : decode cX10_ends 164 = .ok (.iaload, 1) := by decide +kernel
theorem dX10_ends_165 : decode cX10_ends 165 = .ok (.isub, 1) := by decide +kernel
theorem dX10_ends_166 : decode cX10_ends 166 = .ok (.iastore, 1) := by decide +kernel
theorem dX10_ends_167 : decode cX10_ends 167 = .ok (.iload_n 3, 1) := by decide +kernel
theorem dX10_ends_168 : decode cX10_ends 168 = .ok (.ifCond .eq 19, 3) := by decide +kernel
theorem dX10_ends_171 : decode cX10_ends 171 = .ok (.aload_n 0, 1) := by decide +kernel
theorem dX10_ends_172 : decode cX10_ends 172 = .ok (.getfield 59, 3) := by decide +kernel
theorem dX10_ends_175 : decode cX10_ends 175 = .ok (.iload 6, 2) := by decide +kernel
theorem dX10_ends_177 : decode cX10_ends 177 = .ok (.iaload, 1) := by decide +kernel
theorem dX10_ends_178 : decode cX10_ends 178 = .ok (.bipush 20, 2) := by decide +kernel
theorem dX10_ends_180 : decode cX10_ends 180 = .ok (.if_icmp .eq 7, 3) := by decide +kernel
theorem dX10_ends_183 : decode cX10_ends 183 = .ok (.iconst 1, 1) := by decide +kernel
theorem dX10_ends_184 : decode cX10_ends 184 = .ok (.goto 4, 3) := by decide +kernel
theorem dX10_ends_187 : decode cX10_ends 187 = .ok (.iconst 0, 1) := by decide +kernel
theorem dX10_ends_188 : decode cX10_ends 188 = .ok (.istore 5, 2) := by decide +kernel
theorem dX10_ends_190 : decode cX10_ends 190 = .ok (.iload 5, 2) := by decide +kernel
theorem dX10_ends_192 : decode cX10_ends 192 = .ok (.ifCond .ne 50, 3) := by decide +kernel
theorem dX10_ends_195 : decode cX10_ends 195 = .ok (.aload_n 0, 1) := by decide +kernel
theorem dX10_ends_196 : decode cX10_ends 196 = .ok (.iload 6, 2) := by decide +kernel
theorem dX10_ends_198 : decode cX10_ends 198 = .ok (.iconst 1, 1) := by decide +kernel
theorem dX10_ends_199 : decode cX10_ends 199 = .ok (.isub, 1) := by decide +kernel
theorem dX10_ends_200 : decode cX10_ends 200 = .ok (.iload_n 3, 1) := by decide +kernel
theorem dX10_ends_201 : decode cX10_ends 201 = .ok (.ifCond .ne 8, 3) := by decide +kernel
theorem dX10_ends_204 : decode cX10_ends 204 = .ok (.iload 4, 2) := by decide +kernel
theorem dX10_ends_206 : decode cX10_ends 206 = .ok (.goto 4, 3) := by decide +kernel
theorem dX10_ends_209 : decode cX10_ends 209 = .ok (.iload_n 3, 1) := by decide +kernel
theorem dX10_ends_210 : decode cX10_ends 210 = .ok (.invokevirtual 178, 3) := by decide +kernel
theorem dX10_ends_213 : decode cX10_ends 213 = .ok (.aload_n 0, 1) := by decide +kernel
theorem dX10_ends_214 : decode cX10_ends 214 = .ok (.getfield 59, 3) := by decide +kernel
theorem dX10_ends_217 : decode cX10_ends 217 = .ok (.iload 6, 2) := by decide +kernel
theorem dX10_ends_219 : decode cX10_ends 219 = .ok (.iaload, 1) := by decide +kernel
theorem dX10_ends_220 : decode cX10_ends 220 = .ok (.bipush 20, 2) := by decide +kernel
theorem dX10_ends_222 : decode cX10_ends 222 = .ok (.if_icmp .ne 20, 3) := by decide +kernel
theorem dX10_ends_225 : decode cX10_ends 225 = .ok (.aload_n 0, 1) := by decide +kernel
theorem dX10_ends_226 : decode cX10_ends 226 = .ok (.iload 6, 2) := by decide +kernel
theorem dX10_ends_228 : decode cX10_ends 228 = .ok (.iconst 1, 1) := by decide +kernel
theorem dX10_ends_229 : decode cX10_ends 229 = .ok (.isub, 1) := by decide +kernel
theorem dX10_ends_230 : decode cX10_ends 230 = .ok (.iload_n 3, 1) := by decide +kernel
theorem dX10_ends_231 : decode cX10_ends 231 = .ok (.ifCond .ne 7, 3) := by decide +kernel
theorem dX10_ends_234 : decode cX10_ends 234 = .ok (.iconst 1, 1) := by decide +kernel
theorem dX10_ends_235 : decode cX10_ends 235 = .ok (.goto 4, 3) := by decide +kernel
theorem dX10_ends_238 : decode cX10_ends 238 = .ok (.iconst 0, 1) := by decide +kernel
theorem dX10_ends_239 : decode cX10_ends 239 = .ok (.invokevirtual 178, 3) := by decide +kernel
theorem dX10_ends_242 : decode cX10_ends 242 = .ok (.goto (-234), 3) := by decide +kernel
theorem dX10_ends_245 : decode cX10_ends 245 = .ok (.return_, 1) := by decide +kernel
theorem dX10_gives_0 : decode cX10_gives 0 = .ok (.aload_n 0, 1) := by decide +kernel
theorem dX10_gives_1 : decode cX10_gives 1 = .ok (.getfield 35, 3) := by decide +kernel
theorem dX10_gives_4 : decode cX10_gives 4 = .ok (.iload_n 1, 1) := by decide +kernel
theorem dX10_gives_5 : decode cX10_gives 5 = .ok (.iaload, 1) := by decide +kernel
theorem dX10_gives_6 : decode cX10_gives 6 = .ok (.iconst 4, 1) := by decide +kernel
theorem dX10_gives_7 : decode cX10_gives 7 = .ok (.idiv, 1) := by decide +kernel
theorem dX10_gives_8 : decode cX10_gives 8 = .ok (.istore 4, 2) := by decide +kernel
theorem dX10_gives_10 : decode cX10_gives 10 = .ok (.iload_n 2, 1) := by decide +kernel
theorem dX10_gives_11 : decode cX10_gives 11 = .ok (.tableswitch 71 0 5 #[37, 39, 46, 53, 60, 68], 37) := by decide +kernel
theorem dX10_gives_48 : decode cX10_gives 48 = .ok (.iload_n 3, 1) := by decide +kernel
theorem dX10_gives_49 : decode cX10_gives 49 = .ok (.ireturn, 1) := by decide +kernel
theorem dX10_gives_50 : decode cX10_gives 50 = .ok (.aload_n 0, 1) := by decide +kernel
theorem dX10_gives_51 : decode cX10_gives 51 = .ok (.getfield 38, 3) := by decide +kernel
theorem dX10_gives_54 : decode cX10_gives 54 = .ok (.iload_n 1, 1) := by decide +kernel
theorem dX10_gives_55 : decode cX10_gives 55 = .ok (.iaload, 1) := by decide +kernel
theorem dX10_gives_56 : decode cX10_gives 56 = .ok (.ireturn, 1) := by decide +kernel
theorem dX10_gives_57 : decode cX10_gives 57 = .ok (.aload_n 0, 1) := by decide +kernel
theorem dX10_gives_58 : decode cX10_gives 58 = .ok (.getfield 41, 3) := by decide +kernel
theorem dX10_gives_61 : decode cX10_gives 61 = .ok (.iload_n 1, 1) := by decide +kernel
theorem dX10_gives_62 : decode cX10_gives 62 = .ok (.iaload, 1) := by decide +kernel
theorem dX10_gives_63 : decode cX10_gives 63 = .ok (.ireturn, 1) := by decide +kernel
theorem dX10_gives_64 : decode cX10_gives 64 = .ok (.aload_n 0, 1) := by decide +kernel
theorem dX10_gives_65 : decode cX10_gives 65 = .ok (.getfield 44, 3) := by decide +kernel
theorem dX10_gives_68 : decode cX10_gives 68 = .ok (.iload_n 1, 1) := by decide +kernel
theorem dX10_gives_69 : decode cX10_gives 69 = .ok (.iaload, 1) := by decide +kernel
theorem dX10_gives_70 : decode cX10_gives 70 = .ok (.ireturn, 1) := by decide +kernel
theorem dX10_gives_71 : decode cX10_gives 71 = .ok (.aload_n 0, 1) := by decide +kernel
theorem dX10_gives_72 : decode cX10_gives 72 = .ok (.getfield 13, 3) := by decide +kernel
theorem dX10_gives_75 : decode cX10_gives 75 = .ok (.iload 4, 2) := by decide +kernel
theorem dX10_gives_77 : decode cX10_gives 77 = .ok (.iaload, 1) := by decide +kernel
theorem dX10_gives_78 : decode cX10_gives 78 = .ok (.ireturn, 1) := by decide +kernel
theorem dX10_gives_79 : decode cX10_gives 79 = .ok (.iload 4, 2) := by decide +kernel
theorem dX10_gives_81 : decode cX10_gives 81 = .ok (.ireturn, 1) := by decide +kernel
theorem dX10_gives_82 : decode cX10_gives 82 = .ok (.aload_n 0, 1) := by decide +kernel
theorem dX10_gives_83 : decode cX10_gives 83 = .ok (.getfield 16, 3) := by decide +kernel
theorem dX10_gives_86 : decode cX10_gives 86 = .ok (.bipush 8, 2) := by decide +kernel
theorem dX10_gives_88 : decode cX10_gives 88 = .ok (.iload 4, 2) := by decide +kernel
theorem dX10_gives_90 : decode cX10_gives 90 = .ok (.imul, 1) := by decide +kernel
theorem dX10_gives_91 : decode cX10_gives 91 = .ok (.iload_n 3, 1) := by decide +kernel
theorem dX10_gives_92 : decode cX10_gives 92 = .ok (.iadd, 1) := by decide +kernel
theorem dX10_gives_93 : decode cX10_gives 93 = .ok (.iaload, 1) := by decide +kernel
theorem dX10_gives_94 : decode cX10_gives 94 = .ok (.ireturn, 1) := by decide +kernel
theorem dX10_reckon_0 : decode cX10_reckon 0 = .ok (.aload_n 0, 1) := by decide +kernel
theorem dX10_reckon_1 : decode cX10_reckon 1 = .ok (.iload_n 1, 1) := by decide +kernel
theorem dX10_reckon_2 : decode cX10_reckon 2 = .ok (.invokevirtual 182, 3) := by decide +kernel
theorem dX10_reckon_5 : decode cX10_reckon 5 = .ok (.istore_n 3, 1) := by decide +kernel
theorem dX10_reckon_6 : decode cX10_reckon 6 = .ok (.aload_n 0, 1) := by decide +kernel
theorem dX10_reckon_7 : decode cX10_reckon 7 = .ok (.iload_n 1, 1) := by decide +kernel
theorem dX10_reckon_8 : decode cX10_reckon 8 = .ok (.invokevirtual 182, 3) := by decide +kernel
theorem dX10_reckon_11 : decode cX10_reckon 11 = .ok (.istore 4, 2) := by decide +kernel
theorem dX10_reckon_13 : decode cX10_reckon 13 = .ok (.iload_n 2, 1) := by decide +kernel
theorem dX10_reckon_14 : decode cX10_reckon 14 = .ok (.bipush 11, 2) := by decide +kernel
theorem dX10_reckon_16 : decode cX10_reckon 16 = .ok (.if_icmp .ne 14, 3) := by decide +kernel
theorem dX10_reckon_19 : decode cX10_reckon 19 = .ok (.iload_n 3, 1) := by decide +kernel
theorem dX10_reckon_20 : decode cX10_reckon 20 = .ok (.ifCond .ne 10, 3) := by decide +kernel
theorem dX10_reckon_23 : decode cX10_reckon 23 = .ok (.aload_n 0, 1) := by decide +kernel
theorem dX10_reckon_24 : decode cX10_reckon 24 = .ok (.iconst 3, 1) := by decide +kernel
theorem dX10_reckon_25 : decode cX10_reckon 25 = .ok (.iconst 0, 1) := by decide +kernel
theorem dX10_reckon_26 : decode cX10_reckon 26 = .ok (.invokevirtual 186, 3) := by decide +kernel
theorem dX10_reckon_29 : decode cX10_reckon 29 = .ok (.return_, 1) := by decide +kernel
theorem dX10_reckon_30 : decode cX10_reckon 30 = .ok (.iload_n 2, 1) := by decide +kernel
theorem dX10_reckon_31 : decode cX10_reckon 31 = .ok (.tableswitch 126 8 13 #[37, 49, 61, 73, 88, 107], 37) := by decide +kernel
theorem dX10_reckon_68 : decode cX10_reckon 68 = .ok (.aload_n 0, 1) := by decide +kernel
theorem dX10_reckon_69 : decode cX10_reckon 69 = .ok (.iload_n 1, 1) := by decide +kernel
theorem dX10_reckon_70 : decode cX10_reckon 70 = .ok (.iload 4, 2) := by decide +kernel
theorem dX10_reckon_72 : decode cX10_reckon 72 = .ok (.iload_n 3, 1) := by decide +kernel
theorem dX10_reckon_73 : decode cX10_reckon 73 = .ok (.iadd, 1) := by decide +kernel
theorem dX10_reckon_74 : decode cX10_reckon 74 = .ok (.invokevirtual 178, 3) := by decide +kernel
theorem dX10_reckon_77 : decode cX10_reckon 77 = .ok (.goto 93, 3) := by decide +kernel
theorem dX10_reckon_80 : decode cX10_reckon 80 = .ok (.aload_n 0, 1) := by decide +kernel
theorem dX10_reckon_81 : decode cX10_reckon 81 = .ok (.iload_n 1, 1) := by decide +kernel
theorem dX10_reckon_82 : decode cX10_reckon 82 = .ok (.iload 4, 2) := by decide +kernel
theorem dX10_reckon_84 : decode cX10_reckon 84 = .ok (.iload_n 3, 1) := by decide +kernel
theorem dX10_reckon_85 : decode cX10_reckon 85 = .ok (.isub, 1) := by decide +kernel
theorem dX10_reckon_86 : decode cX10_reckon 86 = .ok (.invokevirtual 178, 3) := by decide +kernel
theorem dX10_reckon_89 : decode cX10_reckon 89 = .ok (.goto 81, 3) := by decide +kernel
theorem dX10_reckon_92 : decode cX10_reckon 92 = .ok (.aload_n 0, 1) := by decide +kernel
theorem dX10_reckon_93 : decode cX10_reckon 93 = .ok (.iload_n 1, 1) := by decide +kernel
theorem dX10_reckon_94 : decode cX10_reckon 94 = .ok (.iload 4, 2) := by decide +kernel
theorem dX10_reckon_96 : decode cX10_reckon 96 = .ok (.iload_n 3, 1) := by decide +kernel
theorem dX10_reckon_97 : decode cX10_reckon 97 = .ok (.imul, 1) := by decide +kernel
theorem dX10_reckon_98 : decode cX10_reckon 98 = .ok (.invokevirtual 178, 3) := by decide +kernel
theorem dX10_reckon_101 : decode cX10_reckon 101 = .ok (.goto 69, 3) := by decide +kernel
theorem dX10_reckon_104 : decode cX10_reckon 104 = .ok (.aload_n 0, 1) := by decide +kernel
theorem dX10_reckon_105 : decode cX10_reckon 105 = .ok (.iload_n 1, 1) := by decide +kernel
theorem dX10_reckon_106 : decode cX10_reckon 106 = .ok (.iload 4, 2) := by decide +kernel
theorem dX10_reckon_108 : decode cX10_reckon 108 = .ok (.i2l, 1) := by decide +kernel
theorem dX10_reckon_109 : decode cX10_reckon 109 = .ok (.iload_n 3, 1) := by decide +kernel
theorem dX10_reckon_110 : decode cX10_reckon 110 = .ok (.i2l, 1) := by decide +kernel
theorem dX10_reckon_111 : decode cX10_reckon 111 = .ok (.ldiv, 1) := by decide +kernel
theorem dX10_reckon_112 : decode cX10_reckon 112 = .ok (.l2i, 1) := by decide +kernel
theorem dX10_reckon_113 : decode cX10_reckon 113 = .ok (.invokevirtual 178, 3) := by decide +kernel
theorem dX10_reckon_116 : decode cX10_reckon 116 = .ok (.goto 54, 3) := by decide +kernel
theorem dX10_reckon_119 : decode cX10_reckon 119 = .ok (.aload_n 0, 1) := by decide +kernel
theorem dX10_reckon_120 : decode cX10_reckon 120 = .ok (.iload_n 1, 1) := by decide +kernel
theorem dX10_reckon_121 : decode cX10_reckon 121 = .ok (.iload 4, 2) := by decide +kernel
theorem dX10_reckon_123 : decode cX10_reckon 123 = .ok (.iload_n 3, 1) := by decide +kernel
theorem dX10_reckon_124 : decode cX10_reckon 124 = .ok (.if_icmp .ge 7, 3) := by decide +kernel
theorem dX10_reckon_127 : decode cX10_reckon 127 = .ok (.iconst 1, 1) := by decide +kernel
theorem dX10_reckon_128 : decode cX10_reckon 128 = .ok (.goto 4, 3) := by decide +kernel
theorem dX10_reckon_131 : decode cX10_reckon 131 = .ok (.iconst 0, 1) := by decide +kernel
theorem dX10_reckon_132 : decode cX10_reckon 132 = .ok (.invokevirtual 178, 3) := by decide +kernel
theorem dX10_reckon_135 : decode cX10_reckon 135 = .ok (.goto 35, 3) := by decide +kernel
theorem dX10_reckon_138 : decode cX10_reckon 138 = .ok (.aload_n 0, 1) := by decide +kernel
theorem dX10_reckon_139 : decode cX10_reckon 139 = .ok (.iload_n 1, 1) := by decide +kernel
theorem dX10_reckon_140 : decode cX10_reckon 140 = .ok (.iload 4, 2) := by decide +kernel
theorem dX10_reckon_142 : decode cX10_reckon 142 = .ok (.iload_n 3, 1) := by decide +kernel
theorem dX10_reckon_143 : decode cX10_reckon 143 = .ok (.if_icmp .ne 7, 3) := by decide +kernel
theorem dX10_reckon_146 : decode cX10_reckon 146 = .ok (.iconst 1, 1) := by decide +kernel
theorem dX10_reckon_147 : decode cX10_reckon 147 = .ok (.goto 4, 3) := by decide +kernel
theorem dX10_reckon_150 : decode cX10_reckon 150 = .ok (.iconst 0, 1) := by decide +kernel
theorem dX10_reckon_151 : decode cX10_reckon 151 = .ok (.invokevirtual 178, 3) := by decide +kernel
theorem dX10_reckon_154 : decode cX10_reckon 154 = .ok (.goto 16, 3) := by decide +kernel
theorem dX10_reckon_157 : decode cX10_reckon 157 = .ok (.aload_n 0, 1) := by decide +kernel
theorem dX10_reckon_158 : decode cX10_reckon 158 = .ok (.iload_n 1, 1) := by decide +kernel
theorem dX10_reckon_159 : decode cX10_reckon 159 = .ok (.iload_n 3, 1) := by decide +kernel
theorem dX10_reckon_160 : decode cX10_reckon 160 = .ok (.invokevirtual 178, 3) := by decide +kernel
theorem dX10_reckon_163 : decode cX10_reckon 163 = .ok (.aload_n 0, 1) := by decide +kernel
theorem dX10_reckon_164 : decode cX10_reckon 164 = .ok (.iload_n 1, 1) := by decide +kernel
