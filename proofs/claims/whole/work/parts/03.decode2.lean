theorem dX10_reckon_165 : decode cX10_reckon 165 = .ok (.iload 4, 2) := by decide +kernel
theorem dX10_reckon_167 : decode cX10_reckon 167 = .ok (.invokevirtual 178, 3) := by decide +kernel
theorem dX10_reckon_170 : decode cX10_reckon 170 = .ok (.return_, 1) := by decide +kernel
theorem dX10_save_0 : decode cX10_save 0 = .ok (.aload_n 0, 1) := by decide +kernel
theorem dX10_save_1 : decode cX10_save 1 = .ok (.iload_n 1, 1) := by decide +kernel
theorem dX10_save_2 : decode cX10_save 2 = .ok (.invokevirtual 182, 3) := by decide +kernel
theorem dX10_save_5 : decode cX10_save 5 = .ok (.istore_n 3, 1) := by decide +kernel
theorem dX10_save_6 : decode cX10_save 6 = .ok (.bipush 8, 2) := by decide +kernel
theorem dX10_save_8 : decode cX10_save 8 = .ok (.aload_n 0, 1) := by decide +kernel
theorem dX10_save_9 : decode cX10_save 9 = .ok (.getfield 35, 3) := by decide +kernel
theorem dX10_save_12 : decode cX10_save 12 = .ok (.iload_n 1, 1) := by decide +kernel
theorem dX10_save_13 : decode cX10_save 13 = .ok (.iaload, 1) := by decide +kernel
theorem dX10_save_14 : decode cX10_save 14 = .ok (.iconst 4, 1) := by decide +kernel
theorem dX10_save_15 : decode cX10_save 15 = .ok (.idiv, 1) := by decide +kernel
theorem dX10_save_16 : decode cX10_save 16 = .ok (.imul, 1) := by decide +kernel
theorem dX10_save_17 : decode cX10_save 17 = .ok (.iload_n 2, 1) := by decide +kernel
theorem dX10_save_18 : decode cX10_save 18 = .ok (.iadd, 1) := by decide +kernel
theorem dX10_save_19 : decode cX10_save 19 = .ok (.istore 4, 2) := by decide +kernel
theorem dX10_save_21 : decode cX10_save 21 = .ok (.aload_n 0, 1) := by decide +kernel
theorem dX10_save_22 : decode cX10_save 22 = .ok (.dup, 1) := by decide +kernel
theorem dX10_save_23 : decode cX10_save 23 = .ok (.getfield 153, 3) := by decide +kernel
theorem dX10_save_26 : decode cX10_save 26 = .ok (.iload_n 3, 1) := by decide +kernel
theorem dX10_save_27 : decode cX10_save 27 = .ok (.ifCond .ne 17, 3) := by decide +kernel
theorem dX10_save_30 : decode cX10_save 30 = .ok (.aload_n 0, 1) := by decide +kernel
theorem dX10_save_31 : decode cX10_save 31 = .ok (.getfield 16, 3) := by decide +kernel
theorem dX10_save_34 : decode cX10_save 34 = .ok (.iload 4, 2) := by decide +kernel
theorem dX10_save_36 : decode cX10_save 36 = .ok (.iaload, 1) := by decide +kernel
theorem dX10_save_37 : decode cX10_save 37 = .ok (.ifCond .eq 7, 3) := by decide +kernel
theorem dX10_save_40 : decode cX10_save 40 = .ok (.iconst 1, 1) := by decide +kernel
theorem dX10_save_41 : decode cX10_save 41 = .ok (.goto 4, 3) := by decide +kernel
theorem dX10_save_44 : decode cX10_save 44 = .ok (.iconst 0, 1) := by decide +kernel
theorem dX10_save_45 : decode cX10_save 45 = .ok (.iadd, 1) := by decide +kernel
theorem dX10_save_46 : decode cX10_save 46 = .ok (.putfield 153, 3) := by decide +kernel
theorem dX10_save_49 : decode cX10_save 49 = .ok (.aload_n 0, 1) := by decide +kernel
theorem dX10_save_50 : decode cX10_save 50 = .ok (.getfield 16, 3) := by decide +kernel
theorem dX10_save_53 : decode cX10_save 53 = .ok (.iload 4, 2) := by decide +kernel
theorem dX10_save_55 : decode cX10_save 55 = .ok (.iload_n 3, 1) := by decide +kernel
theorem dX10_save_56 : decode cX10_save 56 = .ok (.iastore, 1) := by decide +kernel
theorem dX10_save_57 : decode cX10_save 57 = .ok (.return_, 1) := by decide +kernel
theorem dX10_tell_0 : decode cX10_tell 0 = .ok (.aload_n 0, 1) := by decide +kernel
theorem dX10_tell_1 : decode cX10_tell 1 = .ok (.iload_n 1, 1) := by decide +kernel
theorem dX10_tell_2 : decode cX10_tell 2 = .ok (.invokevirtual 182, 3) := by decide +kernel
theorem dX10_tell_5 : decode cX10_tell 5 = .ok (.istore_n 3, 1) := by decide +kernel
theorem dX10_tell_6 : decode cX10_tell 6 = .ok (.aload_n 0, 1) := by decide +kernel
theorem dX10_tell_7 : decode cX10_tell 7 = .ok (.getfield 136, 3) := by decide +kernel
theorem dX10_tell_10 : decode cX10_tell 10 = .ok (.bipush 60, 2) := by decide +kernel
theorem dX10_tell_12 : decode cX10_tell 12 = .ok (.if_icmp .ne 11, 3) := by decide +kernel
theorem dX10_tell_15 : decode cX10_tell 15 = .ok (.aload_n 0, 1) := by decide +kernel
theorem dX10_tell_16 : decode cX10_tell 16 = .ok (.bipush 9, 2) := by decide +kernel
theorem dX10_tell_18 : decode cX10_tell 18 = .ok (.iconst 0, 1) := by decide +kernel
theorem dX10_tell_19 : decode cX10_tell 19 = .ok (.invokevirtual 186, 3) := by decide +kernel
theorem dX10_tell_22 : decode cX10_tell 22 = .ok (.return_, 1) := by decide +kernel
theorem dX10_tell_23 : decode cX10_tell 23 = .ok (.aload_n 0, 1) := by decide +kernel
theorem dX10_tell_24 : decode cX10_tell 24 = .ok (.getfield 86, 3) := by decide +kernel
theorem dX10_tell_27 : decode cX10_tell 27 = .ok (.aload_n 0, 1) := by decide +kernel
theorem dX10_tell_28 : decode cX10_tell 28 = .ok (.getfield 136, 3) := by decide +kernel
theorem dX10_tell_31 : decode cX10_tell 31 = .ok (.aload_n 0, 1) := by decide +kernel
theorem dX10_tell_32 : decode cX10_tell 32 = .ok (.getfield 35, 3) := by decide +kernel
theorem dX10_tell_35 : decode cX10_tell 35 = .ok (.iload_n 1, 1) := by decide +kernel
theorem dX10_tell_36 : decode cX10_tell 36 = .ok (.iaload, 1) := by decide +kernel
theorem dX10_tell_37 : decode cX10_tell 37 = .ok (.iconst 4, 1) := by decide +kernel
theorem dX10_tell_38 : decode cX10_tell 38 = .ok (.idiv, 1) := by decide +kernel
theorem dX10_tell_39 : decode cX10_tell 39 = .ok (.iastore, 1) := by decide +kernel
theorem dX10_tell_40 : decode cX10_tell 40 = .ok (.aload_n 0, 1) := by decide +kernel
theorem dX10_tell_41 : decode cX10_tell 41 = .ok (.getfield 89, 3) := by decide +kernel
theorem dX10_tell_44 : decode cX10_tell 44 = .ok (.aload_n 0, 1) := by decide +kernel
theorem dX10_tell_45 : decode cX10_tell 45 = .ok (.getfield 136, 3) := by decide +kernel
theorem dX10_tell_48 : decode cX10_tell 48 = .ok (.iload_n 2, 1) := by decide +kernel
theorem dX10_tell_49 : decode cX10_tell 49 = .ok (.iastore, 1) := by decide +kernel
theorem dX10_tell_50 : decode cX10_tell 50 = .ok (.aload_n 0, 1) := by decide +kernel
theorem dX10_tell_51 : decode cX10_tell 51 = .ok (.getfield 92, 3) := by decide +kernel
theorem dX10_tell_54 : decode cX10_tell 54 = .ok (.aload_n 0, 1) := by decide +kernel
theorem dX10_tell_55 : decode cX10_tell 55 = .ok (.getfield 136, 3) := by decide +kernel
theorem dX10_tell_58 : decode cX10_tell 58 = .ok (.iload_n 3, 1) := by decide +kernel
theorem dX10_tell_59 : decode cX10_tell 59 = .ok (.iastore, 1) := by decide +kernel
theorem dX10_tell_60 : decode cX10_tell 60 = .ok (.aload_n 0, 1) := by decide +kernel
theorem dX10_tell_61 : decode cX10_tell 61 = .ok (.getfield 95, 3) := by decide +kernel
theorem dX10_tell_64 : decode cX10_tell 64 = .ok (.aload_n 0, 1) := by decide +kernel
theorem dX10_tell_65 : decode cX10_tell 65 = .ok (.getfield 136, 3) := by decide +kernel
theorem dX10_tell_68 : decode cX10_tell 68 = .ok (.iload_n 1, 1) := by decide +kernel
theorem dX10_tell_69 : decode cX10_tell 69 = .ok (.iconst 1, 1) := by decide +kernel
theorem dX10_tell_70 : decode cX10_tell 70 = .ok (.iadd, 1) := by decide +kernel
theorem dX10_tell_71 : decode cX10_tell 71 = .ok (.iastore, 1) := by decide +kernel
theorem dX10_tell_72 : decode cX10_tell 72 = .ok (.aload_n 0, 1) := by decide +kernel
theorem dX10_tell_73 : decode cX10_tell 73 = .ok (.dup, 1) := by decide +kernel
theorem dX10_tell_74 : decode cX10_tell 74 = .ok (.getfield 136, 3) := by decide +kernel
theorem dX10_tell_77 : decode cX10_tell 77 = .ok (.iconst 1, 1) := by decide +kernel
theorem dX10_tell_78 : decode cX10_tell 78 = .ok (.iadd, 1) := by decide +kernel
theorem dX10_tell_79 : decode cX10_tell 79 = .ok (.putfield 136, 3) := by decide +kernel
theorem dX10_tell_82 : decode cX10_tell 82 = .ok (.return_, 1) := by decide +kernel
theorem dX10_send_0 : decode cX10_send 0 = .ok (.aload_n 0, 1) := by decide +kernel
theorem dX10_send_1 : decode cX10_send 1 = .ok (.iload_n 1, 1) := by decide +kernel
theorem dX10_send_2 : decode cX10_send 2 = .ok (.invokevirtual 182, 3) := by decide +kernel
theorem dX10_send_5 : decode cX10_send 5 = .ok (.istore_n 3, 1) := by decide +kernel
theorem dX10_send_6 : decode cX10_send 6 = .ok (.aload_n 0, 1) := by decide +kernel
theorem dX10_send_7 : decode cX10_send 7 = .ok (.getfield 35, 3) := by decide +kernel
theorem dX10_send_10 : decode cX10_send 10 = .ok (.iload_n 1, 1) := by decide +kernel
theorem dX10_send_11 : decode cX10_send 11 = .ok (.iaload, 1) := by decide +kernel
theorem dX10_send_12 : decode cX10_send 12 = .ok (.iconst 4, 1) := by decide +kernel
theorem dX10_send_13 : decode cX10_send 13 = .ok (.idiv, 1) := by decide +kernel
theorem dX10_send_14 : decode cX10_send 14 = .ok (.istore 4, 2) := by decide +kernel
theorem dX10_send_16 : decode cX10_send 16 = .ok (.iload_n 3, 1) := by decide +kernel
theorem dX10_send_17 : decode cX10_send 17 = .ok (.ifCond .lt 14, 3) := by decide +kernel
theorem dX10_send_20 : decode cX10_send 20 = .ok (.iload_n 3, 1) := by decide +kernel
theorem dX10_send_21 : decode cX10_send 21 = .ok (.aload_n 0, 1) := by decide +kernel
theorem dX10_send_22 : decode cX10_send 22 = .ok (.getfield 13, 3) := by decide +kernel
theorem dX10_send_25 : decode cX10_send 25 = .ok (.iload 4, 2) := by decide +kernel
theorem dX10_send_27 : decode cX10_send 27 = .ok (.iaload, 1) := by decide +kernel
theorem dX10_send_28 : decode cX10_send 28 = .ok (.if_icmp .le 11, 3) := by decide +kernel
theorem dX10_send_31 : decode cX10_send 31 = .ok (.aload_n 0, 1) := by decide +kernel
theorem dX10_send_32 : decode cX10_send 32 = .ok (.bipush 7, 2) := by decide +kernel
theorem dX10_send_34 : decode cX10_send 34 = .ok (.iconst 0, 1) := by decide +kernel
theorem dX10_send_35 : decode cX10_send 35 = .ok (.invokevirtual 186, 3) := by decide +kernel
theorem dX10_send_38 : decode cX10_send 38 = .ok (.return_, 1) := by decide +kernel
theorem dX10_send_39 : decode cX10_send 39 = .ok (.aload_n 0, 1) := by decide +kernel
theorem dX10_send_40 : decode cX10_send 40 = .ok (.getfield 13, 3) := by decide +kernel
theorem dX10_send_43 : decode cX10_send 43 = .ok (.iload 4, 2) := by decide +kernel
theorem dX10_send_45 : decode cX10_send 45 = .ok (.dup2, 1) := by decide +kernel
theorem dX10_send_46 : decode cX10_send 46 = .ok (.iaload, 1) := by decide +kernel
theorem dX10_send_47 : decode cX10_send 47 = .ok (.iload_n 3, 1) := by decide +kernel
theorem dX10_send_48 : decode cX10_send 48 = .ok (.isub, 1) := by decide +kernel
theorem dX10_send_49 : decode cX10_send 49 = .ok (.iastore, 1) := by decide +kernel
theorem dX10_send_50 : decode cX10_send 50 = .ok (.aload_n 0, 1) := by decide +kernel
theorem dX10_send_51 : decode cX10_send 51 = .ok (.getfield 7, 3) := by decide +kernel
theorem dX10_send_54 : decode cX10_send 54 = .ok (.iload_n 2, 1) := by decide +kernel
theorem dX10_send_55 : decode cX10_send 55 = .ok (.dup2, 1) := by decide +kernel
theorem dX10_send_56 : decode cX10_send 56 = .ok (.iaload, 1) := by decide +kernel
theorem dX10_send_57 : decode cX10_send 57 = .ok (.iload_n 3, 1) := by decide +kernel
theorem dX10_send_58 : decode cX10_send 58 = .ok (.iadd, 1) := by decide +kernel
theorem dX10_send_59 : decode cX10_send 59 = .ok (.iastore, 1) := by decide +kernel
theorem dX10_send_60 : decode cX10_send 60 = .ok (.return_, 1) := by decide +kernel
theorem dX10_shut_0 : decode cX10_shut 0 = .ok (.aload_n 0, 1) := by decide +kernel
theorem dX10_shut_1 : decode cX10_shut 1 = .ok (.iload_n 2, 1) := by decide +kernel
theorem dX10_shut_2 : decode cX10_shut 2 = .ok (.invokevirtual 146, 3) := by decide +kernel
theorem dX10_shut_5 : decode cX10_shut 5 = .ok (.ifCond .ne 16, 3) := by decide +kernel
theorem dX10_shut_8 : decode cX10_shut 8 = .ok (.aload_n 0, 1) := by decide +kernel
theorem dX10_shut_9 : decode cX10_shut 9 = .ok (.getfield 19, 3) := by decide +kernel
theorem dX10_shut_12 : decode cX10_shut 12 = .ok (.iconst 4, 1) := by decide +kernel
theorem dX10_shut_13 : decode cX10_shut 13 = .ok (.iload_n 2, 1) := by decide +kernel
theorem dX10_shut_14 : decode cX10_shut 14 = .ok (.imul, 1) := by decide +kernel
theorem dX10_shut_15 : decode cX10_shut 15 = .ok (.iload_n 3, 1) := by decide +kernel
theorem dX10_shut_16 : decode cX10_shut 16 = .ok (.iadd, 1) := by decide +kernel
theorem dX10_shut_17 : decode cX10_shut 17 = .ok (.iaload, 1) := by decide +kernel
theorem dX10_shut_18 : decode cX10_shut 18 = .ok (.ifCond .ne 5, 3) := by decide +kernel
theorem dX10_shut_21 : decode cX10_shut 21 = .ok (.iconst 1, 1) := by decide +kernel
theorem dX10_shut_22 : decode cX10_shut 22 = .ok (.ireturn, 1) := by decide +kernel
theorem dX10_shut_23 : decode cX10_shut 23 = .ok (.aload_n 0, 1) := by decide +kernel
theorem dX10_shut_24 : decode cX10_shut 24 = .ok (.getfield 156, 3) := by decide +kernel
theorem dX10_shut_27 : decode cX10_shut 27 = .ok (.bipush 8, 2) := by decide +kernel
theorem dX10_shut_29 : decode cX10_shut 29 = .ok (.if_icmp .ne 5, 3) := by decide +kernel
theorem dX10_shut_32 : decode cX10_shut 32 = .ok (.iconst 5, 1) := by decide +kernel
theorem dX10_shut_33 : decode cX10_shut 33 = .ok (.ireturn, 1) := by decide +kernel
theorem dX10_shut_34 : decode cX10_shut 34 = .ok (.iconst 0, 1) := by decide +kernel
theorem dX10_shut_35 : decode cX10_shut 35 = .ok (.istore 5, 2) := by decide +kernel
theorem dX10_shut_37 : decode cX10_shut 37 = .ok (.iload 5, 2) := by decide +kernel
theorem dX10_shut_39 : decode cX10_shut 39 = .ok (.aload_n 0, 1) := by decide +kernel
theorem dX10_shut_40 : decode cX10_shut 40 = .ok (.getfield 156, 3) := by decide +kernel
theorem dX10_shut_43 : decode cX10_shut 43 = .ok (.if_icmp .ge 52, 3) := by decide +kernel
theorem dX10_shut_46 : decode cX10_shut 46 = .ok (.aload_n 0, 1) := by decide +kernel
theorem dX10_shut_47 : decode cX10_shut 47 = .ok (.getfield 22, 3) := by decide +kernel
theorem dX10_shut_50 : decode cX10_shut 50 = .ok (.iconst 4, 1) := by decide +kernel
theorem dX10_shut_51 : decode cX10_shut 51 = .ok (.iload_n 2, 1) := by decide +kernel
theorem dX10_shut_52 : decode cX10_shut 52 = .ok (.imul, 1) := by decide +kernel
theorem dX10_shut_53 : decode cX10_shut 53 = .ok (.iload_n 3, 1) := by decide +kernel
theorem dX10_shut_54 : decode cX10_shut 54 = .ok (.iadd, 1) := by decide +kernel
theorem dX10_shut_55 : decode cX10_shut 55 = .ok (.baload, 1) := by decide +kernel
theorem dX10_shut_56 : decode cX10_shut 56 = .ok (.ifCond .eq 33, 3) := by decide +kernel
theorem dX10_shut_59 : decode cX10_shut 59 = .ok (.aload_n 0, 1) := by decide +kernel
theorem dX10_shut_60 : decode cX10_shut 60 = .ok (.getfield 35, 3) := by decide +kernel
theorem dX10_shut_63 : decode cX10_shut 63 = .ok (.iload 5, 2) := by decide +kernel
theorem dX10_shut_65 : decode cX10_shut 65 = .ok (.iaload, 1) := by decide +kernel
theorem dX10_shut_66 : decode cX10_shut 66 = .ok (.iconst 4, 1) := by decide +kernel
theorem dX10_shut_67 : decode cX10_shut 67 = .ok (.idiv, 1) := by decide +kernel
theorem dX10_shut_68 : decode cX10_shut 68 = .ok (.iload_n 2, 1) := by decide +kernel
theorem dX10_shut_69 : decode cX10_shut 69 = .ok (.if_icmp .ne 20, 3) := by decide +kernel
theorem dX10_shut_72 : decode cX10_shut 72 = .ok (.aload_n 0, 1) := by decide +kernel
theorem dX10_shut_73 : decode cX10_shut 73 = .ok (.getfield 22, 3) := by decide +kernel
theorem dX10_shut_76 : decode cX10_shut 76 = .ok (.aload_n 0, 1) := by decide +kernel
theorem dX10_shut_77 : decode cX10_shut 77 = .ok (.getfield 35, 3) := by decide +kernel
theorem dX10_shut_80 : decode cX10_shut 80 = .ok (.iload 5, 2) := by decide +kernel
theorem dX10_shut_82 : decode cX10_shut 82 = .ok (.iaload, 1) := by decide +kernel
theorem dX10_shut_83 : decode cX10_shut 83 = .ok (.baload, 1) := by decide +kernel
theorem dX10_shut_84 : decode cX10_shut 84 = .ok (.ifCond .eq 5, 3) := by decide +kernel
theorem dX10_shut_87 : decode cX10_shut 87 = .ok (.iconst 4, 1) := by decide +kernel
theorem dX10_shut_88 : decode cX10_shut 88 = .ok (.ireturn, 1) := by decide +kernel
theorem dX10_shut_89 : decode cX10_shut 89 = .ok (.iinc 5 1, 3) := by decide +kernel
theorem dX10_shut_92 : decode cX10_shut 92 = .ok (.goto (-55), 3) := by decide +kernel
theorem dX10_shut_95 : decode cX10_shut 95 = .ok (.iload 4, 2) := by decide +kernel
theorem dX10_shut_97 : decode cX10_shut 97 = .ok (.ifCond .eq 14, 3) := by decide +kernel
theorem dX10_shut_100 : decode cX10_shut 100 = .ok (.aload_n 0, 1) := by decide +kernel
theorem dX10_shut_101 : decode cX10_shut 101 = .ok (.getfield 65, 3) := by decide +kernel
theorem dX10_shut_104 : decode cX10_shut 104 = .ok (.iload_n 1, 1) := by decide +kernel
theorem dX10_shut_105 : decode cX10_shut 105 = .ok (.baload, 1) := by decide +kernel
theorem dX10_shut_106 : decode cX10_shut 106 = .ok (.ifCond .eq 5, 3) := by decide +kernel
theorem dX10_shut_109 : decode cX10_shut 109 = .ok (.iconst 2, 1) := by decide +kernel
theorem dX10_shut_110 : decode cX10_shut 110 = .ok (.ireturn, 1) := by decide +kernel
theorem dX10_shut_111 : decode cX10_shut 111 = .ok (.iload 4, 2) := by decide +kernel
theorem dX10_shut_113 : decode cX10_shut 113 = .ok (.ifCond .lt 21, 3) := by decide +kernel
theorem dX10_shut_116 : decode cX10_shut 116 = .ok (.iload 4, 2) := by decide +kernel
theorem dX10_shut_118 : decode cX10_shut 118 = .ok (.aload_n 0, 1) := by decide +kernel
theorem dX10_shut_119 : decode cX10_shut 119 = .ok (.getfield 13, 3) := by decide +kernel
theorem dX10_shut_122 : decode cX10_shut 122 = .ok (.aload_n 0, 1) := by decide +kernel
theorem dX10_shut_123 : decode cX10_shut 123 = .ok (.getfield 35, 3) := by decide +kernel
theorem dX10_shut_126 : decode cX10_shut 126 = .ok (.iload_n 1, 1) := by decide +kernel
theorem dX10_shut_127 : decode cX10_shut 127 = .ok (.iaload, 1) := by decide +kernel
theorem dX10_shut_128 : decode cX10_shut 128 = .ok (.iconst 4, 1) := by decide +kernel
theorem dX10_shut_129 : decode cX10_shut 129 = .ok (.idiv, 1) := by decide +kernel
theorem dX10_shut_130 : decode cX10_shut 130 = .ok (.iaload, 1) := by decide +kernel
theorem dX10_shut_131 : decode cX10_shut 131 = .ok (.if_icmp .le 8, 3) := by decide +kernel
theorem dX10_shut_134 : decode cX10_shut 134 = .ok (.bipush 7, 2) := by decide +kernel
theorem dX10_shut_136 : decode cX10_shut 136 = .ok (.goto 4, 3) := by decide +kernel
theorem dX10_shut_139 : decode cX10_shut 139 = .ok (.iconst 0, 1) := by decide +kernel
theorem dX10_shut_140 : decode cX10_shut 140 = .ok (.ireturn, 1) := by decide +kernel
theorem dX10_callOut_0 : decode cX10_callOut 0 = .ok (.aload_n 0, 1) := by decide +kernel
theorem dX10_callOut_1 : decode cX10_callOut 1 = .ok (.iload_n 1, 1) := by decide +kernel
theorem dX10_callOut_2 : decode cX10_callOut 2 = .ok (.invokevirtual 182, 3) := by decide +kernel
theorem dX10_callOut_5 : decode cX10_callOut 5 = .ok (.istore 5, 2) := by decide +kernel
theorem dX10_callOut_7 : decode cX10_callOut 7 = .ok (.iload_n 2, 1) := by decide +kernel
theorem dX10_callOut_8 : decode cX10_callOut 8 = .ok (.bipush 21, 2) := by decide +kernel
theorem dX10_callOut_10 : decode cX10_callOut 10 = .ok (.if_icmp .ne 7, 3) := by decide +kernel
theorem dX10_callOut_13 : decode cX10_callOut 13 = .ok (.iconst 0, 1) := by decide +kernel
theorem dX10_callOut_14 : decode cX10_callOut 14 = .ok (.goto 8, 3) := by decide +kernel
theorem dX10_callOut_17 : decode cX10_callOut 17 = .ok (.aload_n 0, 1) := by decide +kernel
theorem dX10_callOut_18 : decode cX10_callOut 18 = .ok (.iload_n 1, 1) := by decide +kernel
theorem dX10_callOut_19 : decode cX10_callOut 19 = .ok (.invokevirtual 182, 3) := by decide +kernel
theorem dX10_callOut_22 : decode cX10_callOut 22 = .ok (.istore 6, 2) := by decide +kernel
theorem dX10_callOut_24 : decode cX10_callOut 24 = .ok (.aload_n 0, 1) := by decide +kernel
theorem dX10_callOut_25 : decode cX10_callOut 25 = .ok (.iload_n 1, 1) := by decide +kernel
theorem dX10_callOut_26 : decode cX10_callOut 26 = .ok (.invokevirtual 182, 3) := by decide +kernel
theorem dX10_callOut_29 : decode cX10_callOut 29 = .ok (.istore 7, 2) := by decide +kernel
theorem dX10_callOut_31 : decode cX10_callOut 31 = .ok (.aload_n 0, 1) := by decide +kernel
theorem dX10_callOut_32 : decode cX10_callOut 32 = .ok (.iload_n 1, 1) := by decide +kernel
theorem dX10_callOut_33 : decode cX10_callOut 33 = .ok (.iload_n 3, 1) := by decide +kernel
theorem dX10_callOut_34 : decode cX10_callOut 34 = .ok (.iload 4, 2) := by decide +kernel
theorem dX10_callOut_36 : decode cX10_callOut 36 = .ok (.iload 6, 2) := by decide +kernel
theorem dX10_callOut_38 : decode cX10_callOut 38 = .ok (.invokevirtual 189, 3) := by decide +kernel
theorem dX10_callOut_41 : decode cX10_callOut 41 = .ok (.istore 8, 2) := by decide +kernel
theorem dX10_callOut_43 : decode cX10_callOut 43 = .ok (.iload 8, 2) := by decide +kernel
theorem dX10_callOut_45 : decode cX10_callOut 45 = .ok (.ifCond .ne 84, 3) := by decide +kernel
theorem dX10_callOut_48 : decode cX10_callOut 48 = .ok (.iload 7, 2) := by decide +kernel
theorem dX10_callOut_50 : decode cX10_callOut 50 = .ok (.ifCond .ge 7, 3) := by decide +kernel
theorem dX10_callOut_53 : decode cX10_callOut 53 = .ok (.iconst 0, 1) := by decide +kernel
theorem dX10_callOut_54 : decode cX10_callOut 54 = .ok (.goto 25, 3) := by decide +kernel
theorem dX10_callOut_57 : decode cX10_callOut 57 = .ok (.iload 7, 2) := by decide +kernel
theorem dX10_callOut_59 : decode cX10_callOut 59 = .ok (.aload_n 0, 1) := by decide +kernel
theorem dX10_callOut_60 : decode cX10_callOut 60 = .ok (.getfield 47, 3) := by decide +kernel
theorem dX10_callOut_63 : decode cX10_callOut 63 = .ok (.iload_n 1, 1) := by decide +kernel
theorem dX10_callOut_64 : decode cX10_callOut 64 = .ok (.iaload, 1) := by decide +kernel
theorem dX10_callOut_65 : decode cX10_callOut 65 = .ok (.if_icmp .ge 8, 3) := by decide +kernel
theorem dX10_callOut_68 : decode cX10_callOut 68 = .ok (.iload 7, 2) := by decide +kernel
theorem dX10_callOut_70 : decode cX10_callOut 70 = .ok (.goto 9, 3) := by decide +kernel
theorem dX10_callOut_73 : decode cX10_callOut 73 = .ok (.aload_n 0, 1) := by decide +kernel
theorem dX10_callOut_74 : decode cX10_callOut 74 = .ok (.getfield 47, 3) := by decide +kernel
theorem dX10_callOut_77 : decode cX10_callOut 77 = .ok (.iload_n 1, 1) := by decide +kernel
theorem dX10_callOut_78 : decode cX10_callOut 78 = .ok (.iaload, 1) := by decide +kernel
theorem dX10_callOut_79 : decode cX10_callOut 79 = .ok (.istore 9, 2) := by decide +kernel
theorem dX10_callOut_81 : decode cX10_callOut 81 = .ok (.aload_n 0, 1) := by decide +kernel
theorem dX10_callOut_82 : decode cX10_callOut 82 = .ok (.iconst 4, 1) := by decide +kernel
theorem dX10_callOut_83 : decode cX10_callOut 83 = .ok (.iload_n 3, 1) := by decide +kernel
theorem dX10_callOut_84 : decode cX10_callOut 84 = .ok (.imul, 1) := by decide +kernel
theorem dX10_callOut_85 : decode cX10_callOut 85 = .ok (.iload 4, 2) := by decide +kernel
theorem dX10_callOut_87 : decode cX10_callOut 87 = .ok (.iadd, 1) := by decide +kernel
theorem dX10_callOut_88 : decode cX10_callOut 88 = .ok (.iload 5, 2) := by decide +kernel
theorem dX10_callOut_90 : decode cX10_callOut 90 = .ok (.iload 6, 2) := by decide +kernel
theorem dX10_callOut_92 : decode cX10_callOut 92 = .ok (.aload_n 0, 1) := by decide +kernel
theorem dX10_callOut_93 : decode cX10_callOut 93 = .ok (.getfield 35, 3) := by decide +kernel
theorem dX10_callOut_96 : decode cX10_callOut 96 = .ok (.iload_n 1, 1) := by decide +kernel
theorem dX10_callOut_97 : decode cX10_callOut 97 = .ok (.iaload, 1) := by decide +kernel
theorem dX10_callOut_98 : decode cX10_callOut 98 = .ok (.iconst 4, 1) := by decide +kernel
theorem dX10_callOut_99 : decode cX10_callOut 99 = .ok (.idiv, 1) := by decide +kernel
theorem dX10_callOut_100 : decode cX10_callOut 100 = .ok (.iload 9, 2) := by decide +kernel
theorem dX10_callOut_102 : decode cX10_callOut 102 = .ok (.iload_n 2, 1) := by decide +kernel
theorem dX10_callOut_103 : decode cX10_callOut 103 = .ok (.aload_n 0, 1) := by decide +kernel
theorem dX10_callOut_104 : decode cX10_callOut 104 = .ok (.getfield 65, 3) := by decide +kernel
theorem dX10_callOut_107 : decode cX10_callOut 107 = .ok (.iload_n 1, 1) := by decide +kernel
theorem dX10_callOut_108 : decode cX10_callOut 108 = .ok (.baload, 1) := by decide +kernel
theorem dX10_callOut_109 : decode cX10_callOut 109 = .ok (.ifCond .ne 9, 3) := by decide +kernel
theorem dX10_callOut_112 : decode cX10_callOut 112 = .ok (.iload_n 2, 1) := by decide +kernel
theorem dX10_callOut_113 : decode cX10_callOut 113 = .ok (.bipush 21, 2) := by decide +kernel
theorem dX10_callOut_115 : decode cX10_callOut 115 = .ok (.if_icmp .ne 7, 3) := by decide +kernel
theorem dX10_callOut_118 : decode cX10_callOut 118 = .ok (.iconst 1, 1) := by decide +kernel
theorem dX10_callOut_119 : decode cX10_callOut 119 = .ok (.goto 4, 3) := by decide +kernel
theorem dX10_callOut_122 : decode cX10_callOut 122 = .ok (.iconst 0, 1) := by decide +kernel
theorem dX10_callOut_123 : decode cX10_callOut 123 = .ok (.invokevirtual 193, 3) := by decide +kernel
theorem dX10_callOut_126 : decode cX10_callOut 126 = .ok (.goto 32, 3) := by decide +kernel
theorem dX10_callOut_129 : decode cX10_callOut 129 = .ok (.iload_n 2, 1) := by decide +kernel
theorem dX10_callOut_130 : decode cX10_callOut 130 = .ok (.bipush 20, 2) := by decide +kernel
theorem dX10_callOut_132 : decode cX10_callOut 132 = .ok (.if_icmp .ne 19, 3) := by decide +kernel
theorem dX10_callOut_135 : decode cX10_callOut 135 = .ok (.aload_n 0, 1) := by decide +kernel
theorem dX10_callOut_136 : decode cX10_callOut 136 = .ok (.iload_n 1, 1) := by decide +kernel
theorem dX10_callOut_137 : decode cX10_callOut 137 = .ok (.iload 8, 2) := by decide +kernel
theorem dX10_callOut_139 : decode cX10_callOut 139 = .ok (.invokevirtual 178, 3) := by decide +kernel
theorem dX10_callOut_142 : decode cX10_callOut 142 = .ok (.aload_n 0, 1) := by decide +kernel
theorem dX10_callOut_143 : decode cX10_callOut 143 = .ok (.iload_n 1, 1) := by decide +kernel
theorem dX10_callOut_144 : decode cX10_callOut 144 = .ok (.iconst 0, 1) := by decide +kernel
theorem dX10_callOut_145 : decode cX10_callOut 145 = .ok (.invokevirtual 178, 3) := by decide +kernel
theorem dX10_callOut_148 : decode cX10_callOut 148 = .ok (.goto 10, 3) := by decide +kernel
theorem dX10_callOut_151 : decode cX10_callOut 151 = .ok (.aload_n 0, 1) := by decide +kernel
theorem dX10_callOut_152 : decode cX10_callOut 152 = .ok (.iload 8, 2) := by decide +kernel
theorem dX10_callOut_154 : decode cX10_callOut 154 = .ok (.iconst 0, 1) := by decide +kernel
theorem dX10_callOut_155 : decode cX10_callOut 155 = .ok (.invokevirtual 186, 3) := by decide +kernel
theorem dX10_callOut_158 : decode cX10_callOut 158 = .ok (.return_, 1) := by decide +kernel
theorem dX10_act_0 : decode cX10_act 0 = .ok (.iload_n 2, 1) := by decide +kernel
theorem dX10_act_1 : decode cX10_act 1 = .ok (.bipush 7, 2) := by decide +kernel
theorem dX10_act_3 : decode cX10_act 3 = .ok (.if_icmp .ge 16, 3) := by decide +kernel
theorem dX10_act_6 : decode cX10_act 6 = .ok (.aload_n 0, 1) := by decide +kernel
theorem dX10_act_7 : decode cX10_act 7 = .ok (.iload_n 1, 1) := by decide +kernel
theorem dX10_act_8 : decode cX10_act 8 = .ok (.aload_n 0, 1) := by decide +kernel
theorem dX10_act_9 : decode cX10_act 9 = .ok (.iload_n 1, 1) := by decide +kernel
theorem dX10_act_10 : decode cX10_act 10 = .ok (.iload_n 2, 1) := by decide +kernel
theorem dX10_act_11 : decode cX10_act 11 = .ok (.iload_n 3, 1) := by decide +kernel
theorem dX10_act_12 : decode cX10_act 12 = .ok (.invokevirtual 197, 3) := by decide +kernel
theorem dX10_act_15 : decode cX10_act 15 = .ok (.invokevirtual 178, 3) := by decide +kernel
theorem dX10_act_18 : decode cX10_act 18 = .ok (.return_, 1) := by decide +kernel
theorem dX10_act_19 : decode cX10_act 19 = .ok (.iload_n 2, 1) := by decide +kernel
theorem dX10_act_20 : decode cX10_act 20 = .ok (.tableswitch 266 7 25 #[92, 266, 266, 266, 266, 266, 266, 101, 126, 175, 201, 266, 214, 214, 214, 226, 235, 244, 257], 92) := by decide +kernel
theorem dX10_act_112 : decode cX10_act 112 = .ok (.aload_n 0, 1) := by decide +kernel
theorem dX10_act_113 : decode cX10_act 113 = .ok (.iload_n 1, 1) := by decide +kernel
theorem dX10_act_114 : decode cX10_act 114 = .ok (.iload_n 3, 1) := by decide +kernel
theorem dX10_act_115 : decode cX10_act 115 = .ok (.invokevirtual 201, 3) := by decide +kernel
theorem dX10_act_118 : decode cX10_act 118 = .ok (.goto 174, 3) := by decide +kernel
theorem dX10_act_121 : decode cX10_act 121 = .ok (.aload_n 0, 1) := by decide +kernel
theorem dX10_act_122 : decode cX10_act 122 = .ok (.getfield 53, 3) := by decide +kernel
theorem dX10_act_125 : decode cX10_act 125 = .ok (.iload_n 1, 1) := by decide +kernel
theorem dX10_act_126 : decode cX10_act 126 = .ok (.dup2, 1) := by decide +kernel
theorem dX10_act_127 : decode cX10_act 127 = .ok (.iaload, 1) := by decide +kernel
theorem dX10_act_128 : decode cX10_act 128 = .ok (.aload_n 0, 1) := by decide +kernel
theorem dX10_act_129 : decode cX10_act 129 = .ok (.iload_n 1, 1) := by decide +kernel
theorem dX10_act_130 : decode cX10_act 130 = .ok (.invokevirtual 182, 3) := by decide +kernel
theorem dX10_act_133 : decode cX10_act 133 = .ok (.ifCond .ne 7, 3) := by decide +kernel
theorem dX10_act_136 : decode cX10_act 136 = .ok (.iload_n 3, 1) := by decide +kernel
theorem dX10_act_137 : decode cX10_act 137 = .ok (.goto 4, 3) := by decide +kernel
theorem dX10_act_140 : decode cX10_act 140 = .ok (.iconst 0, 1) := by decide +kernel
theorem dX10_act_141 : decode cX10_act 141 = .ok (.iadd, 1) := by decide +kernel
theorem dX10_act_142 : decode cX10_act 142 = .ok (.iastore, 1) := by decide +kernel
theorem dX10_act_143 : decode cX10_act 143 = .ok (.goto 149, 3) := by decide +kernel
theorem dX10_act_146 : decode cX10_act 146 = .ok (.aload_n 0, 1) := by decide +kernel
theorem dX10_act_147 : decode cX10_act 147 = .ok (.getfield 53, 3) := by decide +kernel
theorem dX10_act_150 : decode cX10_act 150 = .ok (.iload_n 1, 1) := by decide +kernel
theorem dX10_act_151 : decode cX10_act 151 = .ok (.iaload, 1) := by decide +kernel
theorem dX10_act_152 : decode cX10_act 152 = .ok (.iconst 1, 1) := by decide +kernel
theorem dX10_act_153 : decode cX10_act 153 = .ok (.isub, 1) := by decide +kernel
theorem dX10_act_154 : decode cX10_act 154 = .ok (.iload_n 3, 1) := by decide +kernel
theorem dX10_act_155 : decode cX10_act 155 = .ok (.isub, 1) := by decide +kernel
theorem dX10_act_156 : decode cX10_act 156 = .ok (.istore 5, 2) := by decide +kernel
theorem dX10_act_158 : decode cX10_act 158 = .ok (.aload_n 0, 1) := by decide +kernel
theorem dX10_act_159 : decode cX10_act 159 = .ok (.getfield 53, 3) := by decide +kernel
theorem dX10_act_162 : decode cX10_act 162 = .ok (.iload_n 1, 1) := by decide +kernel
theorem dX10_act_163 : decode cX10_act 163 = .ok (.aload_n 0, 1) := by decide +kernel
theorem dX10_act_164 : decode cX10_act 164 = .ok (.iload_n 1, 1) := by decide +kernel
theorem dX10_act_165 : decode cX10_act 165 = .ok (.invokevirtual 182, 3) := by decide +kernel
theorem dX10_act_168 : decode cX10_act 168 = .ok (.ifCond .ne 12, 3) := by decide +kernel
theorem dX10_act_171 : decode cX10_act 171 = .ok (.aload_n 0, 1) := by decide +kernel
theorem dX10_act_172 : decode cX10_act 172 = .ok (.getfield 53, 3) := by decide +kernel
theorem dX10_act_175 : decode cX10_act 175 = .ok (.iload_n 1, 1) := by decide +kernel
theorem dX10_act_176 : decode cX10_act 176 = .ok (.iaload, 1) := by decide +kernel
theorem dX10_act_177 : decode cX10_act 177 = .ok (.goto 14, 3) := by decide +kernel
theorem dX10_act_180 : decode cX10_act 180 = .ok (.iload 5, 2) := by decide +kernel
theorem dX10_act_182 : decode cX10_act 182 = .ok (.ifCond .ge 7, 3) := by decide +kernel
theorem dX10_act_185 : decode cX10_act 185 = .ok (.iconst 0, 1) := by decide +kernel
theorem dX10_act_186 : decode cX10_act 186 = .ok (.goto 5, 3) := by decide +kernel
theorem dX10_act_189 : decode cX10_act 189 = .ok (.iload 5, 2) := by decide +kernel
theorem dX10_act_191 : decode cX10_act 191 = .ok (.iastore, 1) := by decide +kernel
theorem dX10_act_192 : decode cX10_act 192 = .ok (.goto 100, 3) := by decide +kernel
theorem dX10_act_195 : decode cX10_act 195 = .ok (.aload_n 0, 1) := by decide +kernel
theorem dX10_act_196 : decode cX10_act 196 = .ok (.iload_n 1, 1) := by decide +kernel
theorem dX10_act_197 : decode cX10_act 197 = .ok (.aload_n 0, 1) := by decide +kernel
theorem dX10_act_198 : decode cX10_act 198 = .ok (.getfield 68, 3) := by decide +kernel
theorem dX10_act_201 : decode cX10_act 201 = .ok (.bipush 8, 2) := by decide +kernel
theorem dX10_act_203 : decode cX10_act 203 = .ok (.iload_n 1, 1) := by decide +kernel
theorem dX10_act_204 : decode cX10_act 204 = .ok (.imul, 1) := by decide +kernel
theorem dX10_act_205 : decode cX10_act 205 = .ok (.aload_n 0, 1) := by decide +kernel
theorem dX10_act_206 : decode cX10_act 206 = .ok (.getfield 56, 3) := by decide +kernel
theorem dX10_act_209 : decode cX10_act 209 = .ok (.iload_n 1, 1) := by decide +kernel
theorem dX10_act_210 : decode cX10_act 210 = .ok (.iaload, 1) := by decide +kernel
theorem dX10_act_211 : decode cX10_act 211 = .ok (.iadd, 1) := by decide +kernel
theorem dX10_act_212 : decode cX10_act 212 = .ok (.iconst 1, 1) := by decide +kernel
theorem dX10_act_213 : decode cX10_act 213 = .ok (.isub, 1) := by decide +kernel
theorem dX10_act_214 : decode cX10_act 214 = .ok (.iaload, 1) := by decide +kernel
theorem dX10_act_215 : decode cX10_act 215 = .ok (.invokevirtual 178, 3) := by decide +kernel
theorem dX10_act_218 : decode cX10_act 218 = .ok (.goto 74, 3) := by decide +kernel
theorem dX10_act_221 : decode cX10_act 221 = .ok (.aload_n 0, 1) := by decide +kernel
theorem dX10_act_222 : decode cX10_act 222 = .ok (.getfield 56, 3) := by decide +kernel
theorem dX10_act_225 : decode cX10_act 225 = .ok (.iload_n 1, 1) := by decide +kernel
theorem dX10_act_226 : decode cX10_act 226 = .ok (.dup2, 1) := by decide +kernel
theorem dX10_act_227 : decode cX10_act 227 = .ok (.iaload, 1) := by decide +kernel
theorem dX10_act_228 : decode cX10_act 228 = .ok (.iconst 1, 1) := by decide +kernel
theorem dX10_act_229 : decode cX10_act 229 = .ok (.isub, 1) := by decide +kernel
theorem dX10_act_230 : decode cX10_act 230 = .ok (.iastore, 1) := by decide +kernel
theorem dX10_act_231 : decode cX10_act 231 = .ok (.goto 61, 3) := by decide +kernel
theorem dX10_act_234 : decode cX10_act 234 = .ok (.aload_n 0, 1) := by decide +kernel
theorem dX10_act_235 : decode cX10_act 235 = .ok (.iload_n 1, 1) := by decide +kernel
theorem dX10_act_236 : decode cX10_act 236 = .ok (.iload_n 2, 1) := by decide +kernel
theorem dX10_act_237 : decode cX10_act 237 = .ok (.iload_n 3, 1) := by decide +kernel
theorem dX10_act_238 : decode cX10_act 238 = .ok (.iload 4, 2) := by decide +kernel
theorem dX10_act_240 : decode cX10_act 240 = .ok (.invokevirtual 204, 3) := by decide +kernel
theorem dX10_act_243 : decode cX10_act 243 = .ok (.goto 49, 3) := by decide +kernel
theorem dX10_act_246 : decode cX10_act 246 = .ok (.aload_n 0, 1) := by decide +kernel
theorem dX10_act_247 : decode cX10_act 247 = .ok (.iload_n 1, 1) := by decide +kernel
theorem dX10_act_248 : decode cX10_act 248 = .ok (.iload_n 3, 1) := by decide +kernel
theorem dX10_act_249 : decode cX10_act 249 = .ok (.invokevirtual 208, 3) := by decide +kernel
theorem dX10_act_252 : decode cX10_act 252 = .ok (.goto 40, 3) := by decide +kernel
theorem dX10_act_255 : decode cX10_act 255 = .ok (.aload_n 0, 1) := by decide +kernel
theorem dX10_act_256 : decode cX10_act 256 = .ok (.iload_n 1, 1) := by decide +kernel
theorem dX10_act_257 : decode cX10_act 257 = .ok (.iload_n 3, 1) := by decide +kernel
theorem dX10_act_258 : decode cX10_act 258 = .ok (.invokevirtual 211, 3) := by decide +kernel
theorem dX10_act_261 : decode cX10_act 261 = .ok (.goto 31, 3) := by decide +kernel
theorem dX10_act_264 : decode cX10_act 264 = .ok (.aload_n 0, 1) := by decide +kernel
theorem dX10_act_265 : decode cX10_act 265 = .ok (.iconst 0, 1) := by decide +kernel
theorem dX10_act_266 : decode cX10_act 266 = .ok (.aload_n 0, 1) := by decide +kernel
theorem dX10_act_267 : decode cX10_act 267 = .ok (.iload_n 1, 1) := by decide +kernel
theorem dX10_act_268 : decode cX10_act 268 = .ok (.invokevirtual 182, 3) := by decide +kernel
theorem dX10_act_271 : decode cX10_act 271 = .ok (.invokevirtual 186, 3) := by decide +kernel
theorem dX10_act_274 : decode cX10_act 274 = .ok (.goto 18, 3) := by decide +kernel
theorem dX10_act_277 : decode cX10_act 277 = .ok (.aload_n 0, 1) := by decide +kernel
theorem dX10_act_278 : decode cX10_act 278 = .ok (.iload_n 3, 1) := by decide +kernel
theorem dX10_act_279 : decode cX10_act 279 = .ok (.iconst 0, 1) := by decide +kernel
theorem dX10_act_280 : decode cX10_act 280 = .ok (.invokevirtual 186, 3) := by decide +kernel
theorem dX10_act_283 : decode cX10_act 283 = .ok (.goto 9, 3) := by decide +kernel
theorem dX10_act_286 : decode cX10_act 286 = .ok (.aload_n 0, 1) := by decide +kernel
theorem dX10_act_287 : decode cX10_act 287 = .ok (.iload_n 1, 1) := by decide +kernel
theorem dX10_act_288 : decode cX10_act 288 = .ok (.iload_n 2, 1) := by decide +kernel
theorem dX10_act_289 : decode cX10_act 289 = .ok (.invokevirtual 214, 3) := by decide +kernel
theorem dX10_act_292 : decode cX10_act 292 = .ok (.return_, 1) := by decide +kernel
theorem dX10_oneStep_0 : decode cX10_oneStep 0 = .ok (.aload_n 0, 1) := by decide +kernel
theorem dX10_oneStep_1 : decode cX10_oneStep 1 = .ok (.getfield 156, 3) := by decide +kernel
theorem dX10_oneStep_4 : decode cX10_oneStep 4 = .ok (.iconst 1, 1) := by decide +kernel
theorem dX10_oneStep_5 : decode cX10_oneStep 5 = .ok (.isub, 1) := by decide +kernel
theorem dX10_oneStep_6 : decode cX10_oneStep 6 = .ok (.istore_n 1, 1) := by decide +kernel
theorem dX10_oneStep_7 : decode cX10_oneStep 7 = .ok (.aload_n 0, 1) := by decide +kernel
theorem dX10_oneStep_8 : decode cX10_oneStep 8 = .ok (.getfield 35, 3) := by decide +kernel
theorem dX10_oneStep_11 : decode cX10_oneStep 11 = .ok (.iload_n 1, 1) := by decide +kernel
theorem dX10_oneStep_12 : decode cX10_oneStep 12 = .ok (.iaload, 1) := by decide +kernel
theorem dX10_oneStep_13 : decode cX10_oneStep 13 = .ok (.istore_n 2, 1) := by decide +kernel
theorem dX10_oneStep_14 : decode cX10_oneStep 14 = .ok (.aload_n 0, 1) := by decide +kernel
theorem dX10_oneStep_15 : decode cX10_oneStep 15 = .ok (.getfield 53, 3) := by decide +kernel
theorem dX10_oneStep_18 : decode cX10_oneStep 18 = .ok (.iload_n 1, 1) := by decide +kernel
theorem dX10_oneStep_19 : decode cX10_oneStep 19 = .ok (.iaload, 1) := by decide +kernel
theorem dX10_oneStep_20 : decode cX10_oneStep 20 = .ok (.aload_n 0, 1) := by decide +kernel
theorem dX10_oneStep_21 : decode cX10_oneStep 21 = .ok (.getfield 19, 3) := by decide +kernel
theorem dX10_oneStep_24 : decode cX10_oneStep 24 = .ok (.iload_n 2, 1) := by decide +kernel
theorem dX10_oneStep_25 : decode cX10_oneStep 25 = .ok (.iaload, 1) := by decide +kernel
theorem dX10_oneStep_26 : decode cX10_oneStep 26 = .ok (.if_icmp .lt 10, 3) := by decide +kernel
theorem dX10_oneStep_29 : decode cX10_oneStep 29 = .ok (.aload_n 0, 1) := by decide +kernel
theorem dX10_oneStep_30 : decode cX10_oneStep 30 = .ok (.iconst 0, 1) := by decide +kernel
theorem dX10_oneStep_31 : decode cX10_oneStep 31 = .ok (.iconst 0, 1) := by decide +kernel
theorem dX10_oneStep_32 : decode cX10_oneStep 32 = .ok (.invokevirtual 186, 3) := by decide +kernel
theorem dX10_oneStep_35 : decode cX10_oneStep 35 = .ok (.return_, 1) := by decide +kernel
theorem dX10_oneStep_36 : decode cX10_oneStep 36 = .ok (.aload_n 0, 1) := by decide +kernel
theorem dX10_oneStep_37 : decode cX10_oneStep 37 = .ok (.getfield 47, 3) := by decide +kernel
theorem dX10_oneStep_40 : decode cX10_oneStep 40 = .ok (.iload_n 1, 1) := by decide +kernel
theorem dX10_oneStep_41 : decode cX10_oneStep 41 = .ok (.iaload, 1) := by decide +kernel
theorem dX10_oneStep_42 : decode cX10_oneStep 42 = .ok (.ifCond .ne 11, 3) := by decide +kernel
theorem dX10_oneStep_45 : decode cX10_oneStep 45 = .ok (.aload_n 0, 1) := by decide +kernel
theorem dX10_oneStep_46 : decode cX10_oneStep 46 = .ok (.bipush 6, 2) := by decide +kernel
theorem dX10_oneStep_48 : decode cX10_oneStep 48 = .ok (.iconst 0, 1) := by decide +kernel
theorem dX10_oneStep_49 : decode cX10_oneStep 49 = .ok (.invokevirtual 186, 3) := by decide +kernel
theorem dX10_oneStep_52 : decode cX10_oneStep 52 = .ok (.return_, 1) := by decide +kernel
theorem dX10_oneStep_53 : decode cX10_oneStep 53 = .ok (.aload_n 0, 1) := by decide +kernel
theorem dX10_oneStep_54 : decode cX10_oneStep 54 = .ok (.getfield 47, 3) := by decide +kernel
theorem dX10_oneStep_57 : decode cX10_oneStep 57 = .ok (.iload_n 1, 1) := by decide +kernel
theorem dX10_oneStep_58 : decode cX10_oneStep 58 = .ok (.dup2, 1) := by decide +kernel
theorem dX10_oneStep_59 : decode cX10_oneStep 59 = .ok (.iaload, 1) := by decide +kernel
theorem dX10_oneStep_60 : decode cX10_oneStep 60 = .ok (.iconst 1, 1) := by decide +kernel
theorem dX10_oneStep_61 : decode cX10_oneStep 61 = .ok (.isub, 1) := by decide +kernel
theorem dX10_oneStep_62 : decode cX10_oneStep 62 = .ok (.iastore, 1) := by decide +kernel
theorem dX10_oneStep_63 : decode cX10_oneStep 63 = .ok (.aload_n 0, 1) := by decide +kernel
theorem dX10_oneStep_64 : decode cX10_oneStep 64 = .ok (.getfield 50, 3) := by decide +kernel
theorem dX10_oneStep_67 : decode cX10_oneStep 67 = .ok (.iload_n 1, 1) := by decide +kernel
theorem dX10_oneStep_68 : decode cX10_oneStep 68 = .ok (.dup2, 1) := by decide +kernel
theorem dX10_oneStep_69 : decode cX10_oneStep 69 = .ok (.iaload, 1) := by decide +kernel
theorem dX10_oneStep_70 : decode cX10_oneStep 70 = .ok (.iconst 1, 1) := by decide +kernel
theorem dX10_oneStep_71 : decode cX10_oneStep 71 = .ok (.iadd, 1) := by decide +kernel
theorem dX10_oneStep_72 : decode cX10_oneStep 72 = .ok (.iastore, 1) := by decide +kernel
theorem dX10_oneStep_73 : decode cX10_oneStep 73 = .ok (.bipush 20, 2) := by decide +kernel
theorem dX10_oneStep_75 : decode cX10_oneStep 75 = .ok (.iload_n 2, 1) := by decide +kernel
theorem dX10_oneStep_76 : decode cX10_oneStep 76 = .ok (.imul, 1) := by decide +kernel
theorem dX10_oneStep_77 : decode cX10_oneStep 77 = .ok (.aload_n 0, 1) := by decide +kernel
theorem dX10_oneStep_78 : decode cX10_oneStep 78 = .ok (.getfield 53, 3) := by decide +kernel
theorem dX10_oneStep_81 : decode cX10_oneStep 81 = .ok (.iload_n 1, 1) := by decide +kernel
theorem dX10_oneStep_82 : decode cX10_oneStep 82 = .ok (.iaload, 1) := by decide +kernel
theorem dX10_oneStep_83 : decode cX10_oneStep 83 = .ok (.iadd, 1) := by decide +kernel
theorem dX10_oneStep_84 : decode cX10_oneStep 84 = .ok (.istore_n 3, 1) := by decide +kernel
theorem dX10_oneStep_85 : decode cX10_oneStep 85 = .ok (.aload_n 0, 1) := by decide +kernel
theorem dX10_oneStep_86 : decode cX10_oneStep 86 = .ok (.getfield 53, 3) := by decide +kernel
theorem dX10_oneStep_89 : decode cX10_oneStep 89 = .ok (.iload_n 1, 1) := by decide +kernel
theorem dX10_oneStep_90 : decode cX10_oneStep 90 = .ok (.dup2, 1) := by decide +kernel
theorem dX10_oneStep_91 : decode cX10_oneStep 91 = .ok (.iaload, 1) := by decide +kernel
theorem dX10_oneStep_92 : decode cX10_oneStep 92 = .ok (.iconst 1, 1) := by decide +kernel
theorem dX10_oneStep_93 : decode cX10_oneStep 93 = .ok (.iadd, 1) := by decide +kernel
theorem dX10_oneStep_94 : decode cX10_oneStep 94 = .ok (.iastore, 1) := by decide +kernel
theorem dX10_oneStep_95 : decode cX10_oneStep 95 = .ok (.aload_n 0, 1) := by decide +kernel
theorem dX10_oneStep_96 : decode cX10_oneStep 96 = .ok (.getfield 26, 3) := by decide +kernel
theorem dX10_oneStep_99 : decode cX10_oneStep 99 = .ok (.iload_n 3, 1) := by decide +kernel
theorem dX10_oneStep_100 : decode cX10_oneStep 100 = .ok (.iaload, 1) := by decide +kernel
theorem dX10_oneStep_101 : decode cX10_oneStep 101 = .ok (.istore 4, 2) := by decide +kernel
theorem dX10_oneStep_103 : decode cX10_oneStep 103 = .ok (.aload_n 0, 1) := by decide +kernel
theorem dX10_oneStep_104 : decode cX10_oneStep 104 = .ok (.getfield 56, 3) := by decide +kernel
theorem dX10_oneStep_107 : decode cX10_oneStep 107 = .ok (.iload_n 1, 1) := by decide +kernel
theorem dX10_oneStep_108 : decode cX10_oneStep 108 = .ok (.iaload, 1) := by decide +kernel
theorem dX10_oneStep_109 : decode cX10_oneStep 109 = .ok (.iload 4, 2) := by decide +kernel
theorem dX10_oneStep_111 : decode cX10_oneStep 111 = .ok (.invokestatic 217, 3) := by decide +kernel
theorem dX10_oneStep_114 : decode cX10_oneStep 114 = .ok (.if_icmp .lt 26, 3) := by decide +kernel
theorem dX10_oneStep_117 : decode cX10_oneStep 117 = .ok (.aload_n 0, 1) := by decide +kernel
theorem dX10_oneStep_118 : decode cX10_oneStep 118 = .ok (.getfield 56, 3) := by decide +kernel
theorem dX10_oneStep_121 : decode cX10_oneStep 121 = .ok (.iload_n 1, 1) := by decide +kernel
theorem dX10_oneStep_122 : decode cX10_oneStep 122 = .ok (.iaload, 1) := by decide +kernel
theorem dX10_oneStep_123 : decode cX10_oneStep 123 = .ok (.iload 4, 2) := by decide +kernel
theorem dX10_oneStep_125 : decode cX10_oneStep 125 = .ok (.invokestatic 217, 3) := by decide +kernel
theorem dX10_oneStep_128 : decode cX10_oneStep 128 = .ok (.isub, 1) := by decide +kernel
theorem dX10_oneStep_129 : decode cX10_oneStep 129 = .ok (.iload 4, 2) := by decide +kernel
theorem dX10_oneStep_131 : decode cX10_oneStep 131 = .ok (.invokestatic 220, 3) := by decide +kernel
theorem dX10_oneStep_134 : decode cX10_oneStep 134 = .ok (.iadd, 1) := by decide +kernel
theorem dX10_oneStep_135 : decode cX10_oneStep 135 = .ok (.bipush 8, 2) := by decide +kernel
theorem dX10_oneStep_137 : decode cX10_oneStep 137 = .ok (.if_icmp .le 13, 3) := by decide +kernel
theorem dX10_oneStep_140 : decode cX10_oneStep 140 = .ok (.aload_n 0, 1) := by decide +kernel
theorem dX10_oneStep_141 : decode cX10_oneStep 141 = .ok (.bipush 8, 2) := by decide +kernel
theorem dX10_oneStep_143 : decode cX10_oneStep 143 = .ok (.iconst 0, 1) := by decide +kernel
theorem dX10_oneStep_144 : decode cX10_oneStep 144 = .ok (.invokevirtual 186, 3) := by decide +kernel
theorem dX10_oneStep_147 : decode cX10_oneStep 147 = .ok (.goto 61, 3) := by decide +kernel
theorem dX10_oneStep_150 : decode cX10_oneStep 150 = .ok (.aload_n 0, 1) := by decide +kernel
theorem dX10_oneStep_151 : decode cX10_oneStep 151 = .ok (.getfield 65, 3) := by decide +kernel
theorem dX10_oneStep_154 : decode cX10_oneStep 154 = .ok (.iload_n 1, 1) := by decide +kernel
theorem dX10_oneStep_155 : decode cX10_oneStep 155 = .ok (.baload, 1) := by decide +kernel
theorem dX10_oneStep_156 : decode cX10_oneStep 156 = .ok (.ifCond .eq 33, 3) := by decide +kernel
theorem dX10_oneStep_159 : decode cX10_oneStep 159 = .ok (.iload 4, 2) := by decide +kernel
theorem dX10_oneStep_161 : decode cX10_oneStep 161 = .ok (.bipush 7, 2) := by decide +kernel
theorem dX10_oneStep_163 : decode cX10_oneStep 163 = .ok (.if_icmp .eq 17, 3) := by decide +kernel
theorem dX10_oneStep_166 : decode cX10_oneStep 166 = .ok (.iload 4, 2) := by decide +kernel
theorem dX10_oneStep_168 : decode cX10_oneStep 168 = .ok (.bipush 22, 2) := by decide +kernel
theorem dX10_oneStep_170 : decode cX10_oneStep 170 = .ok (.if_icmp .eq 10, 3) := by decide +kernel
theorem dX10_oneStep_173 : decode cX10_oneStep 173 = .ok (.iload 4, 2) := by decide +kernel
theorem dX10_oneStep_175 : decode cX10_oneStep 175 = .ok (.bipush 23, 2) := by decide +kernel
theorem dX10_oneStep_177 : decode cX10_oneStep 177 = .ok (.if_icmp .ne 12, 3) := by decide +kernel
theorem dX10_oneStep_180 : decode cX10_oneStep 180 = .ok (.aload_n 0, 1) := by decide +kernel
theorem dX10_oneStep_181 : decode cX10_oneStep 181 = .ok (.iconst 2, 1) := by decide +kernel
theorem dX10_oneStep_182 : decode cX10_oneStep 182 = .ok (.iconst 0, 1) := by decide +kernel
theorem dX10_oneStep_183 : decode cX10_oneStep 183 = .ok (.invokevirtual 186, 3) := by decide +kernel
theorem dX10_oneStep_186 : decode cX10_oneStep 186 = .ok (.goto 22, 3) := by decide +kernel
theorem dX10_oneStep_189 : decode cX10_oneStep 189 = .ok (.aload_n 0, 1) := by decide +kernel
theorem dX10_oneStep_190 : decode cX10_oneStep 190 = .ok (.iload_n 1, 1) := by decide +kernel
theorem dX10_oneStep_191 : decode cX10_oneStep 191 = .ok (.iload 4, 2) := by decide +kernel
theorem dX10_oneStep_193 : decode cX10_oneStep 193 = .ok (.aload_n 0, 1) := by decide +kernel
theorem dX10_oneStep_194 : decode cX10_oneStep 194 = .ok (.getfield 29, 3) := by decide +kernel
theorem dX10_oneStep_197 : decode cX10_oneStep 197 = .ok (.iload_n 3, 1) := by decide +kernel
theorem dX10_oneStep_198 : decode cX10_oneStep 198 = .ok (.iaload, 1) := by decide +kernel
theorem dX10_oneStep_199 : decode cX10_oneStep 199 = .ok (.aload_n 0, 1) := by decide +kernel
theorem dX10_oneStep_200 : decode cX10_oneStep 200 = .ok (.getfield 32, 3) := by decide +kernel
theorem dX10_oneStep_203 : decode cX10_oneStep 203 = .ok (.iload_n 3, 1) := by decide +kernel
theorem dX10_oneStep_204 : decode cX10_oneStep 204 = .ok (.iaload, 1) := by decide +kernel
theorem dX10_oneStep_205 : decode cX10_oneStep 205 = .ok (.invokevirtual 223, 3) := by decide +kernel
theorem dX10_oneStep_208 : decode cX10_oneStep 208 = .ok (.return_, 1) := by decide +kernel
theorem dX10_call_0 : decode cX10_call 0 = .ok (.iload_n 1, 1) := by decide +kernel
theorem dX10_call_1 : decode cX10_call 1 = .ok (.iconst 0, 1) := by decide +kernel
theorem dX10_call_2 : decode cX10_call 2 = .ok (.iconst 3, 1) := by decide +kernel
theorem dX10_call_3 : decode cX10_call 3 = .ok (.invokestatic 142, 3) := by decide +kernel
theorem dX10_call_6 : decode cX10_call 6 = .ok (.ifCond .eq 11, 3) := by decide +kernel
theorem dX10_call_9 : decode cX10_call 9 = .ok (.aload_n 0, 1) := by decide +kernel
theorem dX10_call_10 : decode cX10_call 10 = .ok (.iload_n 2, 1) := by decide +kernel
theorem dX10_call_11 : decode cX10_call 11 = .ok (.invokevirtual 146, 3) := by decide +kernel
theorem dX10_call_14 : decode cX10_call 14 = .ok (.ifCond .eq 6, 3) := by decide +kernel
theorem dX10_call_17 : decode cX10_call 17 = .ok (.bipush (-101), 2) := by decide +kernel
theorem dX10_call_19 : decode cX10_call 19 = .ok (.ireturn, 1) := by decide +kernel
theorem dX10_call_20 : decode cX10_call 20 = .ok (.iload_n 3, 1) := by decide +kernel
theorem dX10_call_21 : decode cX10_call 21 = .ok (.iconst 0, 1) := by decide +kernel
theorem dX10_call_22 : decode cX10_call 22 = .ok (.iconst 3, 1) := by decide +kernel
theorem dX10_call_23 : decode cX10_call 23 = .ok (.invokestatic 142, 3) := by decide +kernel
theorem dX10_call_26 : decode cX10_call 26 = .ok (.ifCond .eq 27, 3) := by decide +kernel
theorem dX10_call_29 : decode cX10_call 29 = .ok (.iload 5, 2) := by decide +kernel
theorem dX10_call_31 : decode cX10_call 31 = .ok (.iconst 0, 1) := by decide +kernel
theorem dX10_call_32 : decode cX10_call 32 = .ok (.sipush 10000, 3) := by decide +kernel
theorem dX10_call_35 : decode cX10_call 35 = .ok (.invokestatic 142, 3) := by decide +kernel
theorem dX10_call_38 : decode cX10_call 38 = .ok (.ifCond .eq 15, 3) := by decide +kernel
theorem dX10_call_41 : decode cX10_call 41 = .ok (.iload 6, 2) := by decide +kernel
theorem dX10_call_43 : decode cX10_call 43 = .ok (.iconst 1, 1) := by decide +kernel
theorem dX10_call_44 : decode cX10_call 44 = .ok (.sipush 1000, 3) := by decide +kernel
theorem dX10_call_47 : decode cX10_call 47 = .ok (.invokestatic 142, 3) := by decide +kernel
theorem dX10_call_50 : decode cX10_call 50 = .ok (.ifCond .ne 6, 3) := by decide +kernel
theorem dX10_call_53 : decode cX10_call 53 = .ok (.bipush (-102), 2) := by decide +kernel
theorem dX10_call_55 : decode cX10_call 55 = .ok (.ireturn, 1) := by decide +kernel
theorem dX10_call_56 : decode cX10_call 56 = .ok (.aload_n 0, 1) := by decide +kernel
theorem dX10_call_57 : decode cX10_call 57 = .ok (.getfield 7, 3) := by decide +kernel
theorem dX10_call_60 : decode cX10_call 60 = .ok (.iload_n 1, 1) := by decide +kernel
theorem dX10_call_61 : decode cX10_call 61 = .ok (.iaload, 1) := by decide +kernel
theorem dX10_call_62 : decode cX10_call 62 = .ok (.iload 5, 2) := by decide +kernel
theorem dX10_call_64 : decode cX10_call 64 = .ok (.iload 6, 2) := by decide +kernel
theorem dX10_call_66 : decode cX10_call 66 = .ok (.iadd, 1) := by decide +kernel
theorem dX10_call_67 : decode cX10_call 67 = .ok (.if_icmp .lt 16, 3) := by decide +kernel
theorem dX10_call_70 : decode cX10_call 70 = .ok (.aload_n 0, 1) := by decide +kernel
theorem dX10_call_71 : decode cX10_call 71 = .ok (.getfield 19, 3) := by decide +kernel
theorem dX10_call_74 : decode cX10_call 74 = .ok (.iconst 4, 1) := by decide +kernel
theorem dX10_call_75 : decode cX10_call 75 = .ok (.iload_n 2, 1) := by decide +kernel
theorem dX10_call_76 : decode cX10_call 76 = .ok (.imul, 1) := by decide +kernel
theorem dX10_call_77 : decode cX10_call 77 = .ok (.iload_n 3, 1) := by decide +kernel
theorem dX10_call_78 : decode cX10_call 78 = .ok (.iadd, 1) := by decide +kernel
theorem dX10_call_79 : decode cX10_call 79 = .ok (.iaload, 1) := by decide +kernel
theorem dX10_call_80 : decode cX10_call 80 = .ok (.ifCond .ne 6, 3) := by decide +kernel
theorem dX10_call_83 : decode cX10_call 83 = .ok (.bipush (-103), 2) := by decide +kernel
theorem dX10_call_85 : decode cX10_call 85 = .ok (.ireturn, 1) := by decide +kernel
theorem dX10_call_86 : decode cX10_call 86 = .ok (.aload_n 0, 1) := by decide +kernel
theorem dX10_call_87 : decode cX10_call 87 = .ok (.iconst 0, 1) := by decide +kernel
theorem dX10_call_88 : decode cX10_call 88 = .ok (.putfield 156, 3) := by decide +kernel
theorem dX10_call_91 : decode cX10_call 91 = .ok (.aload_n 0, 1) := by decide +kernel
theorem dX10_call_92 : decode cX10_call 92 = .ok (.iconst 0, 1) := by decide +kernel
theorem dX10_call_93 : decode cX10_call 93 = .ok (.putfield 139, 3) := by decide +kernel
theorem dX10_call_96 : decode cX10_call 96 = .ok (.aload_n 0, 1) := by decide +kernel
theorem dX10_call_97 : decode cX10_call 97 = .ok (.iconst 0, 1) := by decide +kernel
theorem dX10_call_98 : decode cX10_call 98 = .ok (.putfield 163, 3) := by decide +kernel
theorem dX10_call_101 : decode cX10_call 101 = .ok (.aload_n 0, 1) := by decide +kernel
theorem dX10_call_102 : decode cX10_call 102 = .ok (.iconst 0, 1) := by decide +kernel
theorem dX10_call_103 : decode cX10_call 103 = .ok (.putfield 136, 3) := by decide +kernel
theorem dX10_call_106 : decode cX10_call 106 = .ok (.aload_n 0, 1) := by decide +kernel
theorem dX10_call_107 : decode cX10_call 107 = .ok (.iconst 0, 1) := by decide +kernel
theorem dX10_call_108 : decode cX10_call 108 = .ok (.putfield 153, 3) := by decide +kernel
theorem dX10_call_111 : decode cX10_call 111 = .ok (.aload_n 0, 1) := by decide +kernel
theorem dX10_call_112 : decode cX10_call 112 = .ok (.iconst 1, 1) := by decide +kernel
theorem dX10_call_113 : decode cX10_call 113 = .ok (.putfield 132, 3) := by decide +kernel
theorem dX10_call_116 : decode cX10_call 116 = .ok (.aload_n 0, 1) := by decide +kernel
theorem dX10_call_117 : decode cX10_call 117 = .ok (.iconst 4, 1) := by decide +kernel
theorem dX10_call_118 : decode cX10_call 118 = .ok (.iload_n 2, 1) := by decide +kernel
theorem dX10_call_119 : decode cX10_call 119 = .ok (.imul, 1) := by decide +kernel
theorem dX10_call_120 : decode cX10_call 120 = .ok (.iload_n 3, 1) := by decide +kernel
theorem dX10_call_121 : decode cX10_call 121 = .ok (.iadd, 1) := by decide +kernel
theorem dX10_call_122 : decode cX10_call 122 = .ok (.iload 4, 2) := by decide +kernel
theorem dX10_call_124 : decode cX10_call 124 = .ok (.iload 5, 2) := by decide +kernel
theorem dX10_call_126 : decode cX10_call 126 = .ok (.bipush 100, 2) := by decide +kernel
theorem dX10_call_128 : decode cX10_call 128 = .ok (.iload_n 1, 1) := by decide +kernel
theorem dX10_call_129 : decode cX10_call 129 = .ok (.iadd, 1) := by decide +kernel
theorem dX10_call_130 : decode cX10_call 130 = .ok (.iload 6, 2) := by decide +kernel
theorem dX10_call_132 : decode cX10_call 132 = .ok (.iconst 0, 1) := by decide +kernel
theorem dX10_call_133 : decode cX10_call 133 = .ok (.iconst 0, 1) := by decide +kernel
theorem dX10_call_134 : decode cX10_call 134 = .ok (.invokevirtual 193, 3) := by decide +kernel
theorem dX10_call_137 : decode cX10_call 137 = .ok (.aload_n 0, 1) := by decide +kernel
theorem dX10_call_138 : decode cX10_call 138 = .ok (.getfield 156, 3) := by decide +kernel
theorem dX10_call_141 : decode cX10_call 141 = .ok (.ifCond .le 10, 3) := by decide +kernel
theorem dX10_call_144 : decode cX10_call 144 = .ok (.aload_n 0, 1) := by decide +kernel
theorem dX10_call_145 : decode cX10_call 145 = .ok (.invokevirtual 226, 3) := by decide +kernel
theorem dX10_call_148 : decode cX10_call 148 = .ok (.goto (-11), 3) := by decide +kernel
theorem dX10_call_151 : decode cX10_call 151 = .ok (.aload_n 0, 1) := by decide +kernel
theorem dX10_call_152 : decode cX10_call 152 = .ok (.aload_n 0, 1) := by decide +kernel
theorem dX10_call_153 : decode cX10_call 153 = .ok (.getfield 153, 3) := by decide +kernel
theorem dX10_call_156 : decode cX10_call 156 = .ok (.aload_n 0, 1) := by decide +kernel
theorem dX10_call_157 : decode cX10_call 157 = .ok (.getfield 169, 3) := by decide +kernel
theorem dX10_call_160 : decode cX10_call 160 = .ok (.iconst 2, 1) := by decide +kernel
theorem dX10_call_161 : decode cX10_call 161 = .ok (.idiv, 1) := by decide +kernel
theorem dX10_call_162 : decode cX10_call 162 = .ok (.if_icmp .ge 10, 3) := by decide +kernel
theorem dX10_call_165 : decode cX10_call 165 = .ok (.aload_n 0, 1) := by decide +kernel
theorem dX10_call_166 : decode cX10_call 166 = .ok (.getfield 153, 3) := by decide +kernel
theorem dX10_call_169 : decode cX10_call 169 = .ok (.goto 9, 3) := by decide +kernel
theorem dX10_call_172 : decode cX10_call 172 = .ok (.aload_n 0, 1) := by decide +kernel
theorem dX10_call_173 : decode cX10_call 173 = .ok (.getfield 169, 3) := by decide +kernel
theorem dX10_call_176 : decode cX10_call 176 = .ok (.iconst 2, 1) := by decide +kernel
theorem dX10_call_177 : decode cX10_call 177 = .ok (.idiv, 1) := by decide +kernel
theorem dX10_call_178 : decode cX10_call 178 = .ok (.putfield 229, 3) := by decide +kernel
theorem dX10_call_181 : decode cX10_call 181 = .ok (.aload_n 0, 1) := by decide +kernel
theorem dX10_call_182 : decode cX10_call 182 = .ok (.getfield 7, 3) := by decide +kernel
theorem dX10_call_185 : decode cX10_call 185 = .ok (.iload_n 1, 1) := by decide +kernel
theorem dX10_call_186 : decode cX10_call 186 = .ok (.dup2, 1) := by decide +kernel
theorem dX10_call_187 : decode cX10_call 187 = .ok (.iaload, 1) := by decide +kernel
theorem dX10_call_188 : decode cX10_call 188 = .ok (.aload_n 0, 1) := by decide +kernel
theorem dX10_call_189 : decode cX10_call 189 = .ok (.getfield 169, 3) := by decide +kernel
theorem dX10_call_192 : decode cX10_call 192 = .ok (.aload_n 0, 1) := by decide +kernel
theorem dX10_call_193 : decode cX10_call 193 = .ok (.getfield 229, 3) := by decide +kernel
theorem dX10_call_196 : decode cX10_call 196 = .ok (.isub, 1) := by decide +kernel
theorem dX10_call_197 : decode cX10_call 197 = .ok (.isub, 1) := by decide +kernel
theorem dX10_call_198 : decode cX10_call 198 = .ok (.iastore, 1) := by decide +kernel
theorem dX10_call_199 : decode cX10_call 199 = .ok (.aload_n 0, 1) := by decide +kernel
theorem dX10_call_200 : decode cX10_call 200 = .ok (.dup, 1) := by decide +kernel
theorem dX10_call_201 : decode cX10_call 201 = .ok (.getfield 123, 3) := by decide +kernel
theorem dX10_call_204 : decode cX10_call 204 = .ok (.aload_n 0, 1) := by decide +kernel
theorem dX10_call_205 : decode cX10_call 205 = .ok (.getfield 169, 3) := by decide +kernel
theorem dX10_call_208 : decode cX10_call 208 = .ok (.aload_n 0, 1) := by decide +kernel
theorem dX10_call_209 : decode cX10_call 209 = .ok (.getfield 229, 3) := by decide +kernel
theorem dX10_call_212 : decode cX10_call 212 = .ok (.isub, 1) := by decide +kernel
theorem dX10_call_213 : decode cX10_call 213 = .ok (.iadd, 1) := by decide +kernel
theorem dX10_call_214 : decode cX10_call 214 = .ok (.putfield 123, 3) := by decide +kernel
theorem dX10_call_217 : decode cX10_call 217 = .ok (.aload_n 0, 1) := by decide +kernel
theorem dX10_call_218 : decode cX10_call 218 = .ok (.dup, 1) := by decide +kernel
theorem dX10_call_219 : decode cX10_call 219 = .ok (.getfield 126, 3) := by decide +kernel
theorem dX10_call_222 : decode cX10_call 222 = .ok (.aload_n 0, 1) := by decide +kernel
theorem dX10_call_223 : decode cX10_call 223 = .ok (.getfield 172, 3) := by decide +kernel
theorem dX10_call_226 : decode cX10_call 226 = .ok (.ifCond .ne 7, 3) := by decide +kernel
theorem dX10_call_229 : decode cX10_call 229 = .ok (.iconst 1, 1) := by decide +kernel
theorem dX10_call_230 : decode cX10_call 230 = .ok (.goto 4, 3) := by decide +kernel
theorem dX10_call_233 : decode cX10_call 233 = .ok (.iconst 0, 1) := by decide +kernel
theorem dX10_call_234 : decode cX10_call 234 = .ok (.iadd, 1) := by decide +kernel
theorem dX10_call_235 : decode cX10_call 235 = .ok (.putfield 126, 3) := by decide +kernel
theorem dX10_call_238 : decode cX10_call 238 = .ok (.aload_n 0, 1) := by decide +kernel
theorem dX10_call_239 : decode cX10_call 239 = .ok (.dup, 1) := by decide +kernel
theorem dX10_call_240 : decode cX10_call 240 = .ok (.getfield 129, 3) := by decide +kernel
theorem dX10_call_243 : decode cX10_call 243 = .ok (.aload_n 0, 1) := by decide +kernel
theorem dX10_call_244 : decode cX10_call 244 = .ok (.getfield 172, 3) := by decide +kernel
theorem dX10_call_247 : decode cX10_call 247 = .ok (.ifCond .ne 7, 3) := by decide +kernel
theorem dX10_call_250 : decode cX10_call 250 = .ok (.iconst 0, 1) := by decide +kernel
theorem dX10_call_251 : decode cX10_call 251 = .ok (.goto 4, 3) := by decide +kernel
theorem dX10_call_254 : decode cX10_call 254 = .ok (.iconst 1, 1) := by decide +kernel
theorem dX10_call_255 : decode cX10_call 255 = .ok (.iadd, 1) := by decide +kernel
theorem dX10_call_256 : decode cX10_call 256 = .ok (.putfield 129, 3) := by decide +kernel
theorem dX10_call_259 : decode cX10_call 259 = .ok (.aload_n 0, 1) := by decide +kernel
theorem dX10_call_260 : decode cX10_call 260 = .ok (.getfield 172, 3) := by decide +kernel
theorem dX10_call_263 : decode cX10_call 263 = .ok (.ifCond .ne 7, 3) := by decide +kernel
theorem dX10_call_266 : decode cX10_call 266 = .ok (.iconst 1, 1) := by decide +kernel
theorem dX10_call_267 : decode cX10_call 267 = .ok (.goto 4, 3) := by decide +kernel
theorem dX10_call_270 : decode cX10_call 270 = .ok (.iconst 0, 1) := by decide +kernel
theorem dX10_call_271 : decode cX10_call 271 = .ok (.ireturn, 1) := by decide +kernel
theorem dX10_told_0 : decode cX10_told 0 = .ok (.iload_n 1, 1) := by decide +kernel
theorem dX10_told_1 : decode cX10_told 1 = .ok (.iconst 0, 1) := by decide +kernel
theorem dX10_told_2 : decode cX10_told 2 = .ok (.iconst 5, 1) := by decide +kernel
theorem dX10_told_3 : decode cX10_told 3 = .ok (.invokestatic 142, 3) := by decide +kernel
theorem dX10_told_6 : decode cX10_told 6 = .ok (.ifCond .ne 6, 3) := by decide +kernel
theorem dX10_told_9 : decode cX10_told 9 = .ok (.bipush (-102), 2) := by decide +kernel
theorem dX10_told_11 : decode cX10_told 11 = .ok (.ireturn, 1) := by decide +kernel
theorem dX10_told_12 : decode cX10_told 12 = .ok (.aload_n 0, 1) := by decide +kernel
theorem dX10_told_13 : decode cX10_told 13 = .ok (.getfield 132, 3) := by decide +kernel
theorem dX10_told_16 : decode cX10_told 16 = .ok (.ifCond .ne 6, 3) := by decide +kernel
theorem dX10_told_19 : decode cX10_told 19 = .ok (.bipush (-103), 2) := by decide +kernel
theorem dX10_told_21 : decode cX10_told 21 = .ok (.ireturn, 1) := by decide +kernel
theorem dX10_told_22 : decode cX10_told 22 = .ok (.iload_n 1, 1) := by decide +kernel
theorem dX10_told_23 : decode cX10_told 23 = .ok (.tableswitch 58 0 4 #[33, 38, 43, 48, 53], 33) := by decide +kernel
theorem dX10_told_56 : decode cX10_told 56 = .ok (.aload_n 0, 1) := by decide +kernel
theorem dX10_told_57 : decode cX10_told 57 = .ok (.getfield 175, 3) := by decide +kernel
theorem dX10_told_60 : decode cX10_told 60 = .ok (.ireturn, 1) := by decide +kernel
theorem dX10_told_61 : decode cX10_told 61 = .ok (.aload_n 0, 1) := by decide +kernel
theorem dX10_told_62 : decode cX10_told 62 = .ok (.getfield 169, 3) := by decide +kernel
theorem dX10_told_65 : decode cX10_told 65 = .ok (.ireturn, 1) := by decide +kernel
theorem dX10_told_66 : decode cX10_told 66 = .ok (.aload_n 0, 1) := by decide +kernel
theorem dX10_told_67 : decode cX10_told 67 = .ok (.getfield 229, 3) := by decide +kernel
theorem dX10_told_70 : decode cX10_told 70 = .ok (.ireturn, 1) := by decide +kernel
theorem dX10_told_71 : decode cX10_told 71 = .ok (.aload_n 0, 1) := by decide +kernel
theorem dX10_told_72 : decode cX10_told 72 = .ok (.getfield 139, 3) := by decide +kernel
theorem dX10_told_75 : decode cX10_told 75 = .ok (.ireturn, 1) := by decide +kernel
theorem dX10_told_76 : decode cX10_told 76 = .ok (.aload_n 0, 1) := by decide +kernel
theorem dX10_told_77 : decode cX10_told 77 = .ok (.getfield 163, 3) := by decide +kernel
theorem dX10_told_80 : decode cX10_told 80 = .ok (.ireturn, 1) := by decide +kernel
theorem dX10_told_81 : decode cX10_told 81 = .ok (.aload_n 0, 1) := by decide +kernel
theorem dX10_told_82 : decode cX10_told 82 = .ok (.getfield 136, 3) := by decide +kernel
theorem dX10_told_85 : decode cX10_told 85 = .ok (.ireturn, 1) := by decide +kernel
theorem dX10_frame_0 : decode cX10_frame 0 = .ok (.iload_n 2, 1) := by decide +kernel
theorem dX10_frame_1 : decode cX10_frame 1 = .ok (.iconst 0, 1) := by decide +kernel
theorem dX10_frame_2 : decode cX10_frame 2 = .ok (.bipush 6, 2) := by decide +kernel
theorem dX10_frame_4 : decode cX10_frame 4 = .ok (.invokestatic 142, 3) := by decide +kernel
theorem dX10_frame_7 : decode cX10_frame 7 = .ok (.ifCond .ne 6, 3) := by decide +kernel
theorem dX10_frame_10 : decode cX10_frame 10 = .ok (.bipush (-102), 2) := by decide +kernel
theorem dX10_frame_12 : decode cX10_frame 12 = .ok (.ireturn, 1) := by decide +kernel
theorem dX10_frame_13 : decode cX10_frame 13 = .ok (.aload_n 0, 1) := by decide +kernel
theorem dX10_frame_14 : decode cX10_frame 14 = .ok (.getfield 132, 3) := by decide +kernel
theorem dX10_frame_17 : decode cX10_frame 17 = .ok (.ifCond .eq 31, 3) := by decide +kernel
theorem dX10_frame_20 : decode cX10_frame 20 = .ok (.iload_n 1, 1) := by decide +kernel
theorem dX10_frame_21 : decode cX10_frame 21 = .ok (.iconst 0, 1) := by decide +kernel
theorem dX10_frame_22 : decode cX10_frame 22 = .ok (.aload_n 0, 1) := by decide +kernel
theorem dX10_frame_23 : decode cX10_frame 23 = .ok (.getfield 139, 3) := by decide +kernel
theorem dX10_frame_26 : decode cX10_frame 26 = .ok (.bipush 40, 2) := by decide +kernel
theorem dX10_frame_28 : decode cX10_frame 28 = .ok (.if_icmp .ge 10, 3) := by decide +kernel
theorem dX10_frame_31 : decode cX10_frame 31 = .ok (.aload_n 0, 1) := by decide +kernel
theorem dX10_frame_32 : decode cX10_frame 32 = .ok (.getfield 139, 3) := by decide +kernel
theorem dX10_frame_35 : decode cX10_frame 35 = .ok (.goto 5, 3) := by decide +kernel
theorem dX10_frame_38 : decode cX10_frame 38 = .ok (.bipush 40, 2) := by decide +kernel
theorem dX10_frame_40 : decode cX10_frame 40 = .ok (.iconst 1, 1) := by decide +kernel
theorem dX10_frame_41 : decode cX10_frame 41 = .ok (.isub, 1) := by decide +kernel
theorem dX10_frame_42 : decode cX10_frame 42 = .ok (.invokestatic 142, 3) := by decide +kernel
theorem dX10_frame_45 : decode cX10_frame 45 = .ok (.ifCond .ne 6, 3) := by decide +kernel
theorem dX10_frame_48 : decode cX10_frame 48 = .ok (.bipush (-109), 2) := by decide +kernel
theorem dX10_frame_50 : decode cX10_frame 50 = .ok (.ireturn, 1) := by decide +kernel
theorem dX10_frame_51 : decode cX10_frame 51 = .ok (.iload_n 2, 1) := by decide +kernel
theorem dX10_frame_52 : decode cX10_frame 52 = .ok (.tableswitch 86 0 5 #[40, 49, 58, 65, 72, 79], 40) := by decide +kernel
theorem dX10_frame_92 : decode cX10_frame 92 = .ok (.aload_n 0, 1) := by decide +kernel
theorem dX10_frame_93 : decode cX10_frame 93 = .ok (.getfield 98, 3) := by decide +kernel
theorem dX10_frame_96 : decode cX10_frame 96 = .ok (.iload_n 1, 1) := by decide +kernel
theorem dX10_frame_97 : decode cX10_frame 97 = .ok (.iaload, 1) := by decide +kernel
theorem dX10_frame_98 : decode cX10_frame 98 = .ok (.iconst 4, 1) := by decide +kernel
theorem dX10_frame_99 : decode cX10_frame 99 = .ok (.idiv, 1) := by decide +kernel
theorem dX10_frame_100 : decode cX10_frame 100 = .ok (.ireturn, 1) := by decide +kernel
theorem dX10_frame_101 : decode cX10_frame 101 = .ok (.aload_n 0, 1) := by decide +kernel
theorem dX10_frame_102 : decode cX10_frame 102 = .ok (.getfield 98, 3) := by decide +kernel
theorem dX10_frame_105 : decode cX10_frame 105 = .ok (.iload_n 1, 1) := by decide +kernel
theorem dX10_frame_106 : decode cX10_frame 106 = .ok (.iaload, 1) := by decide +kernel
theorem dX10_frame_107 : decode cX10_frame 107 = .ok (.iconst 4, 1) := by decide +kernel
theorem dX10_frame_108 : decode cX10_frame 108 = .ok (.irem, 1) := by decide +kernel
theorem dX10_frame_109 : decode cX10_frame 109 = .ok (.ireturn, 1) := by decide +kernel
theorem dX10_frame_110 : decode cX10_frame 110 = .ok (.aload_n 0, 1) := by decide +kernel
theorem dX10_frame_111 : decode cX10_frame 111 = .ok (.getfield 101, 3) := by decide +kernel
theorem dX10_frame_114 : decode cX10_frame 114 = .ok (.iload_n 1, 1) := by decide +kernel
theorem dX10_frame_115 : decode cX10_frame 115 = .ok (.iaload, 1) := by decide +kernel
theorem dX10_frame_116 : decode cX10_frame 116 = .ok (.ireturn, 1) := by decide +kernel
theorem dX10_frame_117 : decode cX10_frame 117 = .ok (.aload_n 0, 1) := by decide +kernel
theorem dX10_frame_118 : decode cX10_frame 118 = .ok (.getfield 104, 3) := by decide +kernel
theorem dX10_frame_121 : decode cX10_frame 121 = .ok (.iload_n 1, 1) := by decide +kernel
theorem dX10_frame_122 : decode cX10_frame 122 = .ok (.iaload, 1) := by decide +kernel
theorem dX10_frame_123 : decode cX10_frame 123 = .ok (.ireturn, 1) := by decide +kernel
theorem dX10_frame_124 : decode cX10_frame 124 = .ok (.aload_n 0, 1) := by decide +kernel
theorem dX10_frame_125 : decode cX10_frame 125 = .ok (.getfield 107, 3) := by decide +kernel
theorem dX10_frame_128 : decode cX10_frame 128 = .ok (.iload_n 1, 1) := by decide +kernel
theorem dX10_frame_129 : decode cX10_frame 129 = .ok (.iaload, 1) := by decide +kernel
theorem dX10_frame_130 : decode cX10_frame 130 = .ok (.ireturn, 1) := by decide +kernel
theorem dX10_frame_131 : decode cX10_frame 131 = .ok (.aload_n 0, 1) := by decide +kernel
theorem dX10_frame_132 : decode cX10_frame 132 = .ok (.getfield 110, 3) := by decide +kernel
theorem dX10_frame_135 : decode cX10_frame 135 = .ok (.iload_n 1, 1) := by decide +kernel
theorem dX10_frame_136 : decode cX10_frame 136 = .ok (.iaload, 1) := by decide +kernel
theorem dX10_frame_137 : decode cX10_frame 137 = .ok (.ireturn, 1) := by decide +kernel
theorem dX10_frame_138 : decode cX10_frame 138 = .ok (.aload_n 0, 1) := by decide +kernel
theorem dX10_frame_139 : decode cX10_frame 139 = .ok (.getfield 113, 3) := by decide +kernel
theorem dX10_frame_142 : decode cX10_frame 142 = .ok (.iload_n 1, 1) := by decide +kernel
theorem dX10_frame_143 : decode cX10_frame 143 = .ok (.baload, 1) := by decide +kernel
theorem dX10_frame_144 : decode cX10_frame 144 = .ok (.ifCond .eq 7, 3) := by decide +kernel
theorem dX10_frame_147 : decode cX10_frame 147 = .ok (.iconst 1, 1) := by decide +kernel
theorem dX10_frame_148 : decode cX10_frame 148 = .ok (.goto 4, 3) := by decide +kernel
theorem dX10_frame_151 : decode cX10_frame 151 = .ok (.iconst 0, 1) := by decide +kernel
theorem dX10_frame_152 : decode cX10_frame 152 = .ok (.ireturn, 1) := by decide +kernel
theorem dX10_event_0 : decode cX10_event 0 = .ok (.iload_n 2, 1) := by decide +kernel
theorem dX10_event_1 : decode cX10_event 1 = .ok (.iconst 0, 1) := by decide +kernel
theorem dX10_event_2 : decode cX10_event 2 = .ok (.iconst 3, 1) := by decide +kernel
theorem dX10_event_3 : decode cX10_event 3 = .ok (.invokestatic 142, 3) := by decide +kernel
theorem dX10_event_6 : decode cX10_event 6 = .ok (.ifCond .ne 6, 3) := by decide +kernel
theorem dX10_event_9 : decode cX10_event 9 = .ok (.bipush (-102), 2) := by decide +kernel
theorem dX10_event_11 : decode cX10_event 11 = .ok (.ireturn, 1) := by decide +kernel
theorem dX10_event_12 : decode cX10_event 12 = .ok (.iload_n 1, 1) := by decide +kernel
theorem dX10_event_13 : decode cX10_event 13 = .ok (.iconst 0, 1) := by decide +kernel
theorem dX10_event_14 : decode cX10_event 14 = .ok (.aload_n 0, 1) := by decide +kernel
theorem dX10_event_15 : decode cX10_event 15 = .ok (.getfield 136, 3) := by decide +kernel
theorem dX10_event_18 : decode cX10_event 18 = .ok (.iconst 1, 1) := by decide +kernel
theorem dX10_event_19 : decode cX10_event 19 = .ok (.isub, 1) := by decide +kernel
theorem dX10_event_20 : decode cX10_event 20 = .ok (.invokestatic 142, 3) := by decide +kernel
theorem dX10_event_23 : decode cX10_event 23 = .ok (.ifCond .ne 6, 3) := by decide +kernel
theorem dX10_event_26 : decode cX10_event 26 = .ok (.bipush (-109), 2) := by decide +kernel
theorem dX10_event_28 : decode cX10_event 28 = .ok (.ireturn, 1) := by decide +kernel
theorem dX10_event_29 : decode cX10_event 29 = .ok (.iload_n 2, 1) := by decide +kernel
theorem dX10_event_30 : decode cX10_event 30 = .ok (.ifCond .ne 12, 3) := by decide +kernel
theorem dX10_event_33 : decode cX10_event 33 = .ok (.aload_n 0, 1) := by decide +kernel
theorem dX10_event_34 : decode cX10_event 34 = .ok (.getfield 86, 3) := by decide +kernel
theorem dX10_event_37 : decode cX10_event 37 = .ok (.iload_n 1, 1) := by decide +kernel
theorem dX10_event_38 : decode cX10_event 38 = .ok (.iaload, 1) := by decide +kernel
theorem dX10_event_39 : decode cX10_event 39 = .ok (.goto 37, 3) := by decide +kernel
theorem dX10_event_42 : decode cX10_event 42 = .ok (.iload_n 2, 1) := by decide +kernel
theorem dX10_event_43 : decode cX10_event 43 = .ok (.iconst 1, 1) := by decide +kernel
theorem dX10_event_44 : decode cX10_event 44 = .ok (.if_icmp .ne 12, 3) := by decide +kernel
theorem dX10_event_47 : decode cX10_event 47 = .ok (.aload_n 0, 1) := by decide +kernel
theorem dX10_event_48 : decode cX10_event 48 = .ok (.getfield 89, 3) := by decide +kernel
theorem dX10_event_51 : decode cX10_event 51 = .ok (.iload_n 1, 1) := by decide +kernel
theorem dX10_event_52 : decode cX10_event 52 = .ok (.iaload, 1) := by decide +kernel
theorem dX10_event_53 : decode cX10_event 53 = .ok (.goto 23, 3) := by decide +kernel
theorem dX10_event_56 : decode cX10_event 56 = .ok (.iload_n 2, 1) := by decide +kernel
theorem dX10_event_57 : decode cX10_event 57 = .ok (.iconst 2, 1) := by decide +kernel
theorem dX10_event_58 : decode cX10_event 58 = .ok (.if_icmp .ne 12, 3) := by decide +kernel
theorem dX10_event_61 : decode cX10_event 61 = .ok (.aload_n 0, 1) := by decide +kernel
theorem dX10_event_62 : decode cX10_event 62 = .ok (.getfield 92, 3) := by decide +kernel
theorem dX10_event_65 : decode cX10_event 65 = .ok (.iload_n 1, 1) := by decide +kernel
theorem dX10_event_66 : decode cX10_event 66 = .ok (.iaload, 1) := by decide +kernel
theorem dX10_event_67 : decode cX10_event 67 = .ok (.goto 9, 3) := by decide +kernel
theorem dX10_event_70 : decode cX10_event 70 = .ok (.aload_n 0, 1) := by decide +kernel
theorem dX10_event_71 : decode cX10_event 71 = .ok (.getfield 95, 3) := by decide +kernel
theorem dX10_event_74 : decode cX10_event 74 = .ok (.iload_n 1, 1) := by decide +kernel
theorem dX10_event_75 : decode cX10_event 75 = .ok (.iaload, 1) := by decide +kernel
theorem dX10_event_76 : decode cX10_event 76 = .ok (.ireturn, 1) := by decide +kernel
theorem dX10_store_0 : decode cX10_store 0 = .ok (.aload_n 0, 1) := by decide +kernel
theorem dX10_store_1 : decode cX10_store 1 = .ok (.iload_n 1, 1) := by decide +kernel
theorem dX10_store_2 : decode cX10_store 2 = .ok (.invokevirtual 146, 3) := by decide +kernel
theorem dX10_store_5 : decode cX10_store 5 = .ok (.ifCond .eq 6, 3) := by decide +kernel
theorem dX10_store_8 : decode cX10_store 8 = .ok (.bipush (-101), 2) := by decide +kernel
theorem dX10_store_10 : decode cX10_store 10 = .ok (.ireturn, 1) := by decide +kernel
theorem dX10_store_11 : decode cX10_store 11 = .ok (.iload_n 2, 1) := by decide +kernel
theorem dX10_store_12 : decode cX10_store 12 = .ok (.iconst 0, 1) := by decide +kernel
theorem dX10_store_13 : decode cX10_store 13 = .ok (.bipush 7, 2) := by decide +kernel
theorem dX10_store_15 : decode cX10_store 15 = .ok (.invokestatic 142, 3) := by decide +kernel
theorem dX10_store_18 : decode cX10_store 18 = .ok (.ifCond .eq 17, 3) := by decide +kernel
theorem dX10_store_21 : decode cX10_store 21 = .ok (.aload_n 0, 1) := by decide +kernel
theorem dX10_store_22 : decode cX10_store 22 = .ok (.getfield 16, 3) := by decide +kernel
theorem dX10_store_25 : decode cX10_store 25 = .ok (.bipush 8, 2) := by decide +kernel
theorem dX10_store_27 : decode cX10_store 27 = .ok (.iload_n 1, 1) := by decide +kernel
theorem dX10_store_28 : decode cX10_store 28 = .ok (.imul, 1) := by decide +kernel
theorem dX10_store_29 : decode cX10_store 29 = .ok (.iload_n 2, 1) := by decide +kernel
theorem dX10_store_30 : decode cX10_store 30 = .ok (.iadd, 1) := by decide +kernel
theorem dX10_store_31 : decode cX10_store 31 = .ok (.iaload, 1) := by decide +kernel
theorem dX10_store_32 : decode cX10_store 32 = .ok (.goto 5, 3) := by decide +kernel
theorem dX10_store_35 : decode cX10_store 35 = .ok (.bipush (-109), 2) := by decide +kernel
theorem dX10_store_37 : decode cX10_store 37 = .ok (.ireturn, 1) := by decide +kernel
theorem dX10_coins_0 : decode cX10_coins 0 = .ok (.iload_n 1, 1) := by decide +kernel
theorem dX10_coins_1 : decode cX10_coins 1 = .ok (.iconst 0, 1) := by decide +kernel
theorem dX10_coins_2 : decode cX10_coins 2 = .ok (.iconst 2, 1) := by decide +kernel
theorem dX10_coins_3 : decode cX10_coins 3 = .ok (.invokestatic 142, 3) := by decide +kernel
theorem dX10_coins_6 : decode cX10_coins 6 = .ok (.ifCond .ne 6, 3) := by decide +kernel
theorem dX10_coins_9 : decode cX10_coins 9 = .ok (.bipush (-102), 2) := by decide +kernel
theorem dX10_coins_11 : decode cX10_coins 11 = .ok (.ireturn, 1) := by decide +kernel
theorem dX10_coins_12 : decode cX10_coins 12 = .ok (.iload_n 1, 1) := by decide +kernel
theorem dX10_coins_13 : decode cX10_coins 13 = .ok (.iconst 2, 1) := by decide +kernel
theorem dX10_coins_14 : decode cX10_coins 14 = .ok (.if_icmp .ne 8, 3) := by decide +kernel
theorem dX10_coins_17 : decode cX10_coins 17 = .ok (.aload_n 0, 1) := by decide +kernel
theorem dX10_coins_18 : decode cX10_coins 18 = .ok (.getfield 123, 3) := by decide +kernel
theorem dX10_coins_21 : decode cX10_coins 21 = .ok (.ireturn, 1) := by decide +kernel
theorem dX10_coins_22 : decode cX10_coins 22 = .ok (.iload_n 1, 1) := by decide +kernel
theorem dX10_coins_23 : decode cX10_coins 23 = .ok (.ifCond .ne 23, 3) := by decide +kernel
theorem dX10_coins_26 : decode cX10_coins 26 = .ok (.aload_n 0, 1) := by decide +kernel
theorem dX10_coins_27 : decode cX10_coins 27 = .ok (.iload_n 2, 1) := by decide +kernel
theorem dX10_coins_28 : decode cX10_coins 28 = .ok (.invokevirtual 146, 3) := by decide +kernel
theorem dX10_coins_31 : decode cX10_coins 31 = .ok (.ifCond .eq 8, 3) := by decide +kernel
theorem dX10_coins_34 : decode cX10_coins 34 = .ok (.bipush (-101), 2) := by decide +kernel
theorem dX10_coins_36 : decode cX10_coins 36 = .ok (.goto 9, 3) := by decide +kernel
theorem dX10_coins_39 : decode cX10_coins 39 = .ok (.aload_n 0, 1) := by decide +kernel
theorem dX10_coins_40 : decode cX10_coins 40 = .ok (.getfield 13, 3) := by decide +kernel
theorem dX10_coins_43 : decode cX10_coins 43 = .ok (.iload_n 2, 1) := by decide +kernel
theorem dX10_coins_44 : decode cX10_coins 44 = .ok (.iaload, 1) := by decide +kernel
theorem dX10_coins_45 : decode cX10_coins 45 = .ok (.ireturn, 1) := by decide +kernel
theorem dX10_coins_46 : decode cX10_coins 46 = .ok (.iload_n 2, 1) := by decide +kernel
theorem dX10_coins_47 : decode cX10_coins 47 = .ok (.iconst 0, 1) := by decide +kernel
theorem dX10_coins_48 : decode cX10_coins 48 = .ok (.iconst 3, 1) := by decide +kernel
theorem dX10_coins_49 : decode cX10_coins 49 = .ok (.invokestatic 142, 3) := by decide +kernel
theorem dX10_coins_52 : decode cX10_coins 52 = .ok (.ifCond .eq 12, 3) := by decide +kernel
theorem dX10_coins_55 : decode cX10_coins 55 = .ok (.aload_n 0, 1) := by decide +kernel
theorem dX10_coins_56 : decode cX10_coins 56 = .ok (.getfield 7, 3) := by decide +kernel
theorem dX10_coins_59 : decode cX10_coins 59 = .ok (.iload_n 2, 1) := by decide +kernel
theorem dX10_coins_60 : decode cX10_coins 60 = .ok (.iaload, 1) := by decide +kernel
theorem dX10_coins_61 : decode cX10_coins 61 = .ok (.goto 5, 3) := by decide +kernel
theorem dX10_coins_64 : decode cX10_coins 64 = .ok (.bipush (-101), 2) := by decide +kernel
theorem dX10_coins_66 : decode cX10_coins 66 = .ok (.ireturn, 1) := by decide +kernel
theorem dX10_count_0 : decode cX10_count 0 = .ok (.iconst 0, 1) := by decide +kernel
theorem dX10_count_1 : decode cX10_count 1 = .ok (.istore_n 2, 1) := by decide +kernel
theorem dX10_count_2 : decode cX10_count 2 = .ok (.iconst 0, 1) := by decide +kernel
theorem dX10_count_3 : decode cX10_count 3 = .ok (.istore_n 3, 1) := by decide +kernel
theorem dX10_count_4 : decode cX10_count 4 = .ok (.iload_n 3, 1) := by decide +kernel
theorem dX10_count_5 : decode cX10_count 5 = .ok (.iconst 4, 1) := by decide +kernel
theorem dX10_count_6 : decode cX10_count 6 = .ok (.aload_n 0, 1) := by decide +kernel
theorem dX10_count_7 : decode cX10_count 7 = .ok (.getfield 119, 3) := by decide +kernel
theorem dX10_count_10 : decode cX10_count 10 = .ok (.imul, 1) := by decide +kernel
theorem dX10_count_11 : decode cX10_count 11 = .ok (.if_icmp .ge 18, 3) := by decide +kernel
theorem dX10_count_14 : decode cX10_count 14 = .ok (.iload_n 2, 1) := by decide +kernel
theorem dX10_count_15 : decode cX10_count 15 = .ok (.aload_n 0, 1) := by decide +kernel
theorem dX10_count_16 : decode cX10_count 16 = .ok (.getfield 19, 3) := by decide +kernel
theorem dX10_count_19 : decode cX10_count 19 = .ok (.iload_n 3, 1) := by decide +kernel
theorem dX10_count_20 : decode cX10_count 20 = .ok (.iaload, 1) := by decide +kernel
theorem dX10_count_21 : decode cX10_count 21 = .ok (.iadd, 1) := by decide +kernel
theorem dX10_count_22 : decode cX10_count 22 = .ok (.istore_n 2, 1) := by decide +kernel
theorem dX10_count_23 : decode cX10_count 23 = .ok (.iinc 3 1, 3) := by decide +kernel
theorem dX10_count_26 : decode cX10_count 26 = .ok (.goto (-22), 3) := by decide +kernel
theorem dX10_count_29 : decode cX10_count 29 = .ok (.iload_n 1, 1) := by decide +kernel
theorem dX10_count_30 : decode cX10_count 30 = .ok (.tableswitch 47 0 3 #[30, 35, 40, 45], 30) := by decide +kernel
theorem dX10_count_60 : decode cX10_count 60 = .ok (.aload_n 0, 1) := by decide +kernel
theorem dX10_count_61 : decode cX10_count 61 = .ok (.getfield 119, 3) := by decide +kernel
theorem dX10_count_64 : decode cX10_count 64 = .ok (.ireturn, 1) := by decide +kernel
theorem dX10_count_65 : decode cX10_count 65 = .ok (.aload_n 0, 1) := by decide +kernel
theorem dX10_count_66 : decode cX10_count 66 = .ok (.getfield 126, 3) := by decide +kernel
theorem dX10_count_69 : decode cX10_count 69 = .ok (.ireturn, 1) := by decide +kernel
theorem dX10_count_70 : decode cX10_count 70 = .ok (.aload_n 0, 1) := by decide +kernel
theorem dX10_count_71 : decode cX10_count 71 = .ok (.getfield 129, 3) := by decide +kernel
theorem dX10_count_74 : decode cX10_count 74 = .ok (.ireturn, 1) := by decide +kernel
theorem dX10_count_75 : decode cX10_count 75 = .ok (.iload_n 2, 1) := by decide +kernel
theorem dX10_count_76 : decode cX10_count 76 = .ok (.ireturn, 1) := by decide +kernel
theorem dX10_count_77 : decode cX10_count 77 = .ok (.bipush (-102), 2) := by decide +kernel
theorem dX10_count_79 : decode cX10_count 79 = .ok (.ireturn, 1) := by decide +kernel
theorem dX10_clear_0 : decode cX10_clear 0 = .ok (.aload_n 0, 1) := by decide +kernel
theorem dX10_clear_1 : decode cX10_clear 1 = .ok (.getfield 119, 3) := by decide +kernel
theorem dX10_clear_4 : decode cX10_clear 4 = .ok (.istore_n 1, 1) := by decide +kernel
theorem dX10_clear_5 : decode cX10_clear 5 = .ok (.aload_n 0, 1) := by decide +kernel
theorem dX10_clear_6 : decode cX10_clear 6 = .ok (.invokevirtual 116, 3) := by decide +kernel
theorem dX10_clear_9 : decode cX10_clear 9 = .ok (.iload_n 1, 1) := by decide +kernel
theorem dX10_clear_10 : decode cX10_clear 10 = .ok (.ireturn, 1) := by decide +kernel
theorem dJ9_max_7cf53_0 : decode cJ9_max_7cf53 0 = .ok (.iload_n 0, 1) := by decide +kernel
theorem dJ9_max_7cf53_1 : decode cJ9_max_7cf53 1 = .ok (.iload_n 1, 1) := by decide +kernel
theorem dJ9_max_7cf53_2 : decode cJ9_max_7cf53 2 = .ok (.if_icmp .lt 7, 3) := by decide +kernel
theorem dJ9_max_7cf53_5 : decode cJ9_max_7cf53 5 = .ok (.iload_n 0, 1) := by decide +kernel
theorem dJ9_max_7cf53_6 : decode cJ9_max_7cf53 6 = .ok (.goto 4, 3) := by decide +kernel
theorem dJ9_max_7cf53_9 : decode cJ9_max_7cf53 9 = .ok (.iload_n 1, 1) := by decide +kernel
theorem dJ9_max_7cf53_10 : decode cJ9_max_7cf53 10 = .ok (.ireturn, 1) := by decide +kernel
theorem dJ9_min_7cf53_0 : decode cJ9_min_7cf53 0 = .ok (.iload_n 0, 1) := by decide +kernel
theorem dJ9_min_7cf53_1 : decode cJ9_min_7cf53 1 = .ok (.iload_n 1, 1) := by decide +kernel
theorem dJ9_min_7cf53_2 : decode cJ9_min_7cf53 2 = .ok (.if_icmp .gt 7, 3) := by decide +kernel
theorem dJ9_min_7cf53_5 : decode cJ9_min_7cf53 5 = .ok (.iload_n 0, 1) := by decide +kernel
theorem dJ9_min_7cf53_6 : decode cJ9_min_7cf53 6 = .ok (.goto 4, 3) := by decide +kernel
theorem dJ9_min_7cf53_9 : decode cJ9_min_7cf53 9 = .ok (.iload_n 1, 1) := by decide +kernel
theorem dJ9_min_7cf53_10 : decode cJ9_min_7cf53 10 = .ok (.ireturn, 1) := by decide +kernel
theorem dJ7_rangeCheck_23922_0 : decode cJ7_rangeCheck_23922 0 = .ok (.iload_n 1, 1) := by decide +kernel
theorem dJ7_rangeCheck_23922_1 : decode cJ7_rangeCheck_23922 1 = .ok (.iload_n 2, 1) := by decide +kernel
theorem dJ7_rangeCheck_23922_2 : decode cJ7_rangeCheck_23922 2 = .ok (.if_icmp .le 44, 3) := by decide +kernel
theorem dJ7_rangeCheck_23922_5 : decode cJ7_rangeCheck_23922 5 = .ok (.new 43, 3) := by decide +kernel
theorem dJ7_rangeCheck_23922_8 : decode cJ7_rangeCheck_23922 8 = .ok (.dup, 1) := by decide +kernel
theorem dJ7_rangeCheck_23922_9 : decode cJ7_rangeCheck_23922 9 = .ok (.new 45, 3) := by decide +kernel
theorem dJ7_rangeCheck_23922_12 : decode cJ7_rangeCheck_23922 12 = .ok (.dup, 1) := by decide +kernel
theorem dJ7_rangeCheck_23922_13 : decode cJ7_rangeCheck_23922 13 = .ok (.invokespecial 47, 3) := by decide +kernel
theorem dJ7_rangeCheck_23922_16 : decode cJ7_rangeCheck_23922 16 = .ok (.ldc 48, 2) := by decide +kernel
theorem dJ7_rangeCheck_23922_18 : decode cJ7_rangeCheck_23922 18 = .ok (.invokevirtual 50, 3) := by decide +kernel
theorem dJ7_rangeCheck_23922_21 : decode cJ7_rangeCheck_23922 21 = .ok (.iload_n 1, 1) := by decide +kernel
theorem dJ7_rangeCheck_23922_22 : decode cJ7_rangeCheck_23922 22 = .ok (.invokevirtual 54, 3) := by decide +kernel
theorem dJ7_rangeCheck_23922_25 : decode cJ7_rangeCheck_23922 25 = .ok (.ldc 57, 2) := by decide +kernel
theorem dJ7_rangeCheck_23922_27 : decode cJ7_rangeCheck_23922 27 = .ok (.invokevirtual 50, 3) := by decide +kernel
theorem dJ7_rangeCheck_23922_30 : decode cJ7_rangeCheck_23922 30 = .ok (.iload_n 2, 1) := by decide +kernel
theorem dJ7_rangeCheck_23922_31 : decode cJ7_rangeCheck_23922 31 = .ok (.invokevirtual 54, 3) := by decide +kernel
theorem dJ7_rangeCheck_23922_34 : decode cJ7_rangeCheck_23922 34 = .ok (.ldc 59, 2) := by decide +kernel
theorem dJ7_rangeCheck_23922_36 : decode cJ7_rangeCheck_23922 36 = .ok (.invokevirtual 50, 3) := by decide +kernel
theorem dJ7_rangeCheck_23922_39 : decode cJ7_rangeCheck_23922 39 = .ok (.invokevirtual 61, 3) := by decide +kernel
theorem dJ7_rangeCheck_23922_42 : decode cJ7_rangeCheck_23922 42 = .ok (.invokespecial 65, 3) := by decide +kernel
theorem dJ7_rangeCheck_23922_45 : decode cJ7_rangeCheck_23922 45 = .ok (.athrow, 1) := by decide +kernel
theorem dJ7_rangeCheck_23922_46 : decode cJ7_rangeCheck_23922 46 = .ok (.iload_n 1, 1) := by decide +kernel
theorem dJ7_rangeCheck_23922_47 : decode cJ7_rangeCheck_23922 47 = .ok (.ifCond .ge 12, 3) := by decide +kernel
theorem dJ7_rangeCheck_23922_50 : decode cJ7_rangeCheck_23922 50 = .ok (.new 68, 3) := by decide +kernel
theorem dJ7_rangeCheck_23922_53 : decode cJ7_rangeCheck_23922 53 = .ok (.dup, 1) := by decide +kernel
theorem dJ7_rangeCheck_23922_54 : decode cJ7_rangeCheck_23922 54 = .ok (.iload_n 1, 1) := by decide +kernel
theorem dJ7_rangeCheck_23922_55 : decode cJ7_rangeCheck_23922 55 = .ok (.invokespecial 70, 3) := by decide +kernel
theorem dJ7_rangeCheck_23922_58 : decode cJ7_rangeCheck_23922 58 = .ok (.athrow, 1) := by decide +kernel
theorem dJ7_rangeCheck_23922_59 : decode cJ7_rangeCheck_23922 59 = .ok (.iload_n 2, 1) := by decide +kernel
theorem dJ7_rangeCheck_23922_60 : decode cJ7_rangeCheck_23922 60 = .ok (.iload_n 0, 1) := by decide +kernel
theorem dJ7_rangeCheck_23922_61 : decode cJ7_rangeCheck_23922 61 = .ok (.if_icmp .le 12, 3) := by decide +kernel
theorem dJ7_rangeCheck_23922_64 : decode cJ7_rangeCheck_23922 64 = .ok (.new 68, 3) := by decide +kernel
theorem dJ7_rangeCheck_23922_67 : decode cJ7_rangeCheck_23922 67 = .ok (.dup, 1) := by decide +kernel
theorem dJ7_rangeCheck_23922_68 : decode cJ7_rangeCheck_23922 68 = .ok (.iload_n 2, 1) := by decide +kernel
theorem dJ7_rangeCheck_23922_69 : decode cJ7_rangeCheck_23922 69 = .ok (.invokespecial 70, 3) := by decide +kernel
theorem dJ7_rangeCheck_23922_72 : decode cJ7_rangeCheck_23922 72 = .ok (.athrow, 1) := by decide +kernel
theorem dJ7_rangeCheck_23922_73 : decode cJ7_rangeCheck_23922 73 = .ok (.return_, 1) := by decide +kernel
theorem dJ7_fill_53178_0 : decode cJ7_fill_53178 0 = .ok (.iconst 0, 1) := by decide +kernel
theorem dJ7_fill_53178_1 : decode cJ7_fill_53178 1 = .ok (.istore_n 2, 1) := by decide +kernel
theorem dJ7_fill_53178_2 : decode cJ7_fill_53178 2 = .ok (.aload_n 0, 1) := by decide +kernel
theorem dJ7_fill_53178_3 : decode cJ7_fill_53178 3 = .ok (.arraylength, 1) := by decide +kernel
theorem dJ7_fill_53178_4 : decode cJ7_fill_53178 4 = .ok (.istore_n 3, 1) := by decide +kernel
theorem dJ7_fill_53178_5 : decode cJ7_fill_53178 5 = .ok (.iload_n 2, 1) := by decide +kernel
theorem dJ7_fill_53178_6 : decode cJ7_fill_53178 6 = .ok (.iload_n 3, 1) := by decide +kernel
theorem dJ7_fill_53178_7 : decode cJ7_fill_53178 7 = .ok (.if_icmp .ge 13, 3) := by decide +kernel
theorem dJ7_fill_53178_10 : decode cJ7_fill_53178 10 = .ok (.aload_n 0, 1) := by decide +kernel
theorem dJ7_fill_53178_11 : decode cJ7_fill_53178 11 = .ok (.iload_n 2, 1) := by decide +kernel
theorem dJ7_fill_53178_12 : decode cJ7_fill_53178 12 = .ok (.iload_n 1, 1) := by decide +kernel
theorem dJ7_fill_53178_13 : decode cJ7_fill_53178 13 = .ok (.iastore, 1) := by decide +kernel
theorem dJ7_fill_53178_14 : decode cJ7_fill_53178 14 = .ok (.iinc 2 1, 3) := by decide +kernel
theorem dJ7_fill_53178_17 : decode cJ7_fill_53178 17 = .ok (.goto (-12), 3) := by decide +kernel
theorem dJ7_fill_53178_20 : decode cJ7_fill_53178 20 = .ok (.return_, 1) := by decide +kernel
theorem dJ7_fill_fda19_0 : decode cJ7_fill_fda19 0 = .ok (.aload_n 0, 1) := by decide +kernel
theorem dJ7_fill_fda19_1 : decode cJ7_fill_fda19 1 = .ok (.arraylength, 1) := by decide +kernel
theorem dJ7_fill_fda19_2 : decode cJ7_fill_fda19 2 = .ok (.iload_n 1, 1) := by decide +kernel
theorem dJ7_fill_fda19_3 : decode cJ7_fill_fda19 3 = .ok (.iload_n 2, 1) := by decide +kernel
theorem dJ7_fill_fda19_4 : decode cJ7_fill_fda19 4 = .ok (.invokestatic 13, 3) := by decide +kernel
theorem dJ7_fill_fda19_7 : decode cJ7_fill_fda19 7 = .ok (.iload_n 1, 1) := by decide +kernel
theorem dJ7_fill_fda19_8 : decode cJ7_fill_fda19 8 = .ok (.istore 4, 2) := by decide +kernel
theorem dJ7_fill_fda19_10 : decode cJ7_fill_fda19 10 = .ok (.iload 4, 2) := by decide +kernel
theorem dJ7_fill_fda19_12 : decode cJ7_fill_fda19 12 = .ok (.iload_n 2, 1) := by decide +kernel
theorem dJ7_fill_fda19_13 : decode cJ7_fill_fda19 13 = .ok (.if_icmp .ge 14, 3) := by decide +kernel
theorem dJ7_fill_fda19_16 : decode cJ7_fill_fda19 16 = .ok (.aload_n 0, 1) := by decide +kernel
theorem dJ7_fill_fda19_17 : decode cJ7_fill_fda19 17 = .ok (.iload 4, 2) := by decide +kernel
theorem dJ7_fill_fda19_19 : decode cJ7_fill_fda19 19 = .ok (.iload_n 3, 1) := by decide +kernel
theorem dJ7_fill_fda19_20 : decode cJ7_fill_fda19 20 = .ok (.iastore, 1) := by decide +kernel
theorem dJ7_fill_fda19_21 : decode cJ7_fill_fda19 21 = .ok (.iinc 4 1, 3) := by decide +kernel
theorem dJ7_fill_fda19_24 : decode cJ7_fill_fda19 24 = .ok (.goto (-14), 3) := by decide +kernel
theorem dJ7_fill_fda19_27 : decode cJ7_fill_fda19 27 = .ok (.return_, 1) := by decide +kernel
theorem dL_law_0 : decode cL_law 0 = .ok (.new 7, 3) := by decide +kernel
theorem dL_law_3 : decode cL_law 3 = .ok (.dup, 1) := by decide +kernel
theorem dL_law_4 : decode cL_law 4 = .ok (.invokespecial 9, 3) := by decide +kernel
theorem dL_law_7 : decode cL_law 7 = .ok (.astore_n 1, 1) := by decide +kernel
theorem dL_law_8 : decode cL_law 8 = .ok (.new 10, 3) := by decide +kernel
theorem dL_law_11 : decode cL_law 11 = .ok (.dup, 1) := by decide +kernel
theorem dL_law_12 : decode cL_law 12 = .ok (.invokespecial 12, 3) := by decide +kernel
theorem dL_law_15 : decode cL_law 15 = .ok (.astore_n 2, 1) := by decide +kernel
theorem dL_law_16 : decode cL_law 16 = .ok (.iconst 0, 1) := by decide +kernel
theorem dL_law_17 : decode cL_law 17 = .ok (.istore_n 3, 1) := by decide +kernel
theorem dL_law_18 : decode cL_law 18 = .ok (.iload_n 3, 1) := by decide +kernel
theorem dL_law_19 : decode cL_law 19 = .ok (.aload_n 0, 1) := by decide +kernel
theorem dL_law_20 : decode cL_law 20 = .ok (.arraylength, 1) := by decide +kernel
theorem dL_law_21 : decode cL_law 21 = .ok (.bipush 7, 2) := by decide +kernel
theorem dL_law_23 : decode cL_law 23 = .ok (.isub, 1) := by decide +kernel
theorem dL_law_24 : decode cL_law 24 = .ok (.if_icmp .gt 512, 3) := by decide +kernel
theorem dL_law_27 : decode cL_law 27 = .ok (.aload_n 0, 1) := by decide +kernel
theorem dL_law_28 : decode cL_law 28 = .ok (.iload_n 3, 1) := by decide +kernel
theorem dL_law_29 : decode cL_law 29 = .ok (.iaload, 1) := by decide +kernel
theorem dL_law_30 : decode cL_law 30 = .ok (.bipush 15, 2) := by decide +kernel
theorem dL_law_32 : decode cL_law 32 = .ok (.iand, 1) := by decide +kernel
theorem dL_law_33 : decode cL_law 33 = .ok (.tableswitch 497 0 11 #[63, 76, 139, 172, 231, 306, 329, 362, 395, 428, 461, 484], 63) := by decide +kernel
theorem dL_law_96 : decode cL_law 96 = .ok (.aload_n 1, 1) := by decide +kernel
theorem dL_law_97 : decode cL_law 97 = .ok (.invokevirtual 13, 3) := by decide +kernel
theorem dL_law_100 : decode cL_law 100 = .ok (.aload_n 2, 1) := by decide +kernel
theorem dL_law_101 : decode cL_law 101 = .ok (.invokevirtual 17, 3) := by decide +kernel
theorem dL_law_104 : decode cL_law 104 = .ok (.if_icmp .eq 426, 3) := by decide +kernel
theorem dL_law_107 : decode cL_law 107 = .ok (.iconst 0, 1) := by decide +kernel
theorem dL_law_108 : decode cL_law 108 = .ok (.ireturn, 1) := by decide +kernel
theorem dL_law_109 : decode cL_law 109 = .ok (.aload_n 1, 1) := by decide +kernel
theorem dL_law_110 : decode cL_law 110 = .ok (.aload_n 0, 1) := by decide +kernel
theorem dL_law_111 : decode cL_law 111 = .ok (.iload_n 3, 1) := by decide +kernel
theorem dL_law_112 : decode cL_law 112 = .ok (.iconst 1, 1) := by decide +kernel
theorem dL_law_113 : decode cL_law 113 = .ok (.iadd, 1) := by decide +kernel
theorem dL_law_114 : decode cL_law 114 = .ok (.iaload, 1) := by decide +kernel
theorem dL_law_115 : decode cL_law 115 = .ok (.aload_n 0, 1) := by decide +kernel
theorem dL_law_116 : decode cL_law 116 = .ok (.iload_n 3, 1) := by decide +kernel
theorem dL_law_117 : decode cL_law 117 = .ok (.iconst 2, 1) := by decide +kernel
theorem dL_law_118 : decode cL_law 118 = .ok (.iadd, 1) := by decide +kernel
theorem dL_law_119 : decode cL_law 119 = .ok (.iaload, 1) := by decide +kernel
theorem dL_law_120 : decode cL_law 120 = .ok (.aload_n 0, 1) := by decide +kernel
theorem dL_law_121 : decode cL_law 121 = .ok (.iload_n 3, 1) := by decide +kernel
theorem dL_law_122 : decode cL_law 122 = .ok (.iconst 3, 1) := by decide +kernel
theorem dL_law_123 : decode cL_law 123 = .ok (.iadd, 1) := by decide +kernel
theorem dL_law_124 : decode cL_law 124 = .ok (.iaload, 1) := by decide +kernel
theorem dL_law_125 : decode cL_law 125 = .ok (.aload_n 0, 1) := by decide +kernel
theorem dL_law_126 : decode cL_law 126 = .ok (.iload_n 3, 1) := by decide +kernel
theorem dL_law_127 : decode cL_law 127 = .ok (.iconst 4, 1) := by decide +kernel
theorem dL_law_128 : decode cL_law 128 = .ok (.iadd, 1) := by decide +kernel
theorem dL_law_129 : decode cL_law 129 = .ok (.iaload, 1) := by decide +kernel
theorem dL_law_130 : decode cL_law 130 = .ok (.aload_n 0, 1) := by decide +kernel
theorem dL_law_131 : decode cL_law 131 = .ok (.iload_n 3, 1) := by decide +kernel
theorem dL_law_132 : decode cL_law 132 = .ok (.iconst 5, 1) := by decide +kernel
theorem dL_law_133 : decode cL_law 133 = .ok (.iadd, 1) := by decide +kernel
theorem dL_law_134 : decode cL_law 134 = .ok (.iaload, 1) := by decide +kernel
theorem dL_law_135 : decode cL_law 135 = .ok (.invokevirtual 18, 3) := by decide +kernel
theorem dL_law_138 : decode cL_law 138 = .ok (.aload_n 2, 1) := by decide +kernel
theorem dL_law_139 : decode cL_law 139 = .ok (.aload_n 0, 1) := by decide +kernel
theorem dL_law_140 : decode cL_law 140 = .ok (.iload_n 3, 1) := by decide +kernel
theorem dL_law_141 : decode cL_law 141 = .ok (.iconst 1, 1) := by decide +kernel
theorem dL_law_142 : decode cL_law 142 = .ok (.iadd, 1) := by decide +kernel
theorem dL_law_143 : decode cL_law 143 = .ok (.iaload, 1) := by decide +kernel
theorem dL_law_144 : decode cL_law 144 = .ok (.aload_n 0, 1) := by decide +kernel
theorem dL_law_145 : decode cL_law 145 = .ok (.iload_n 3, 1) := by decide +kernel
theorem dL_law_146 : decode cL_law 146 = .ok (.iconst 2, 1) := by decide +kernel
theorem dL_law_147 : decode cL_law 147 = .ok (.iadd, 1) := by decide +kernel
theorem dL_law_148 : decode cL_law 148 = .ok (.iaload, 1) := by decide +kernel
theorem dL_law_149 : decode cL_law 149 = .ok (.aload_n 0, 1) := by decide +kernel
theorem dL_law_150 : decode cL_law 150 = .ok (.iload_n 3, 1) := by decide +kernel
theorem dL_law_151 : decode cL_law 151 = .ok (.iconst 3, 1) := by decide +kernel
theorem dL_law_152 : decode cL_law 152 = .ok (.iadd, 1) := by decide +kernel
theorem dL_law_153 : decode cL_law 153 = .ok (.iaload, 1) := by decide +kernel
theorem dL_law_154 : decode cL_law 154 = .ok (.aload_n 0, 1) := by decide +kernel
theorem dL_law_155 : decode cL_law 155 = .ok (.iload_n 3, 1) := by decide +kernel
theorem dL_law_156 : decode cL_law 156 = .ok (.iconst 4, 1) := by decide +kernel
theorem dL_law_157 : decode cL_law 157 = .ok (.iadd, 1) := by decide +kernel
theorem dL_law_158 : decode cL_law 158 = .ok (.iaload, 1) := by decide +kernel
theorem dL_law_159 : decode cL_law 159 = .ok (.aload_n 0, 1) := by decide +kernel
theorem dL_law_160 : decode cL_law 160 = .ok (.iload_n 3, 1) := by decide +kernel
theorem dL_law_161 : decode cL_law 161 = .ok (.iconst 5, 1) := by decide +kernel
theorem dL_law_162 : decode cL_law 162 = .ok (.iadd, 1) := by decide +kernel
theorem dL_law_163 : decode cL_law 163 = .ok (.iaload, 1) := by decide +kernel
theorem dL_law_164 : decode cL_law 164 = .ok (.invokevirtual 22, 3) := by decide +kernel
theorem dL_law_167 : decode cL_law 167 = .ok (.if_icmp .eq 363, 3) := by decide +kernel
theorem dL_law_170 : decode cL_law 170 = .ok (.iconst 0, 1) := by decide +kernel
theorem dL_law_171 : decode cL_law 171 = .ok (.ireturn, 1) := by decide +kernel
theorem dL_law_172 : decode cL_law 172 = .ok (.aload_n 1, 1) := by decide +kernel
theorem dL_law_173 : decode cL_law 173 = .ok (.aload_n 0, 1) := by decide +kernel
theorem dL_law_174 : decode cL_law 174 = .ok (.iload_n 3, 1) := by decide +kernel
theorem dL_law_175 : decode cL_law 175 = .ok (.iconst 1, 1) := by decide +kernel
theorem dL_law_176 : decode cL_law 176 = .ok (.iadd, 1) := by decide +kernel
theorem dL_law_177 : decode cL_law 177 = .ok (.iaload, 1) := by decide +kernel
theorem dL_law_178 : decode cL_law 178 = .ok (.aload_n 0, 1) := by decide +kernel
theorem dL_law_179 : decode cL_law 179 = .ok (.iload_n 3, 1) := by decide +kernel
theorem dL_law_180 : decode cL_law 180 = .ok (.iconst 2, 1) := by decide +kernel
theorem dL_law_181 : decode cL_law 181 = .ok (.iadd, 1) := by decide +kernel
theorem dL_law_182 : decode cL_law 182 = .ok (.iaload, 1) := by decide +kernel
theorem dL_law_183 : decode cL_law 183 = .ok (.invokevirtual 23, 3) := by decide +kernel
theorem dL_law_186 : decode cL_law 186 = .ok (.aload_n 2, 1) := by decide +kernel
theorem dL_law_187 : decode cL_law 187 = .ok (.aload_n 0, 1) := by decide +kernel
theorem dL_law_188 : decode cL_law 188 = .ok (.iload_n 3, 1) := by decide +kernel
theorem dL_law_189 : decode cL_law 189 = .ok (.iconst 1, 1) := by decide +kernel
theorem dL_law_190 : decode cL_law 190 = .ok (.iadd, 1) := by decide +kernel
theorem dL_law_191 : decode cL_law 191 = .ok (.iaload, 1) := by decide +kernel
theorem dL_law_192 : decode cL_law 192 = .ok (.aload_n 0, 1) := by decide +kernel
theorem dL_law_193 : decode cL_law 193 = .ok (.iload_n 3, 1) := by decide +kernel
theorem dL_law_194 : decode cL_law 194 = .ok (.iconst 2, 1) := by decide +kernel
theorem dL_law_195 : decode cL_law 195 = .ok (.iadd, 1) := by decide +kernel
theorem dL_law_196 : decode cL_law 196 = .ok (.iaload, 1) := by decide +kernel
theorem dL_law_197 : decode cL_law 197 = .ok (.invokevirtual 27, 3) := by decide +kernel
theorem dL_law_200 : decode cL_law 200 = .ok (.if_icmp .eq 330, 3) := by decide +kernel
theorem dL_law_203 : decode cL_law 203 = .ok (.iconst 0, 1) := by decide +kernel
theorem dL_law_204 : decode cL_law 204 = .ok (.ireturn, 1) := by decide +kernel
theorem dL_law_205 : decode cL_law 205 = .ok (.aload_n 1, 1) := by decide +kernel
theorem dL_law_206 : decode cL_law 206 = .ok (.aload_n 0, 1) := by decide +kernel
theorem dL_law_207 : decode cL_law 207 = .ok (.iload_n 3, 1) := by decide +kernel
theorem dL_law_208 : decode cL_law 208 = .ok (.iconst 1, 1) := by decide +kernel
theorem dL_law_209 : decode cL_law 209 = .ok (.iadd, 1) := by decide +kernel
theorem dL_law_210 : decode cL_law 210 = .ok (.iaload, 1) := by decide +kernel
theorem dL_law_211 : decode cL_law 211 = .ok (.aload_n 0, 1) := by decide +kernel
theorem dL_law_212 : decode cL_law 212 = .ok (.iload_n 3, 1) := by decide +kernel
theorem dL_law_213 : decode cL_law 213 = .ok (.iconst 2, 1) := by decide +kernel
theorem dL_law_214 : decode cL_law 214 = .ok (.iadd, 1) := by decide +kernel
theorem dL_law_215 : decode cL_law 215 = .ok (.iaload, 1) := by decide +kernel
theorem dL_law_216 : decode cL_law 216 = .ok (.aload_n 0, 1) := by decide +kernel
theorem dL_law_217 : decode cL_law 217 = .ok (.iload_n 3, 1) := by decide +kernel
theorem dL_law_218 : decode cL_law 218 = .ok (.iconst 3, 1) := by decide +kernel
theorem dL_law_219 : decode cL_law 219 = .ok (.iadd, 1) := by decide +kernel
theorem dL_law_220 : decode cL_law 220 = .ok (.iaload, 1) := by decide +kernel
theorem dL_law_221 : decode cL_law 221 = .ok (.ifCond .eq 7, 3) := by decide +kernel
theorem dL_law_224 : decode cL_law 224 = .ok (.iconst 1, 1) := by decide +kernel
theorem dL_law_225 : decode cL_law 225 = .ok (.goto 4, 3) := by decide +kernel
theorem dL_law_228 : decode cL_law 228 = .ok (.iconst 0, 1) := by decide +kernel
theorem dL_law_229 : decode cL_law 229 = .ok (.invokevirtual 28, 3) := by decide +kernel
theorem dL_law_232 : decode cL_law 232 = .ok (.aload_n 2, 1) := by decide +kernel
theorem dL_law_233 : decode cL_law 233 = .ok (.aload_n 0, 1) := by decide +kernel
theorem dL_law_234 : decode cL_law 234 = .ok (.iload_n 3, 1) := by decide +kernel
theorem dL_law_235 : decode cL_law 235 = .ok (.iconst 1, 1) := by decide +kernel
theorem dL_law_236 : decode cL_law 236 = .ok (.iadd, 1) := by decide +kernel
theorem dL_law_237 : decode cL_law 237 = .ok (.iaload, 1) := by decide +kernel
theorem dL_law_238 : decode cL_law 238 = .ok (.aload_n 0, 1) := by decide +kernel
theorem dL_law_239 : decode cL_law 239 = .ok (.iload_n 3, 1) := by decide +kernel
theorem dL_law_240 : decode cL_law 240 = .ok (.iconst 2, 1) := by decide +kernel
theorem dL_law_241 : decode cL_law 241 = .ok (.iadd, 1) := by decide +kernel
theorem dL_law_242 : decode cL_law 242 = .ok (.iaload, 1) := by decide +kernel
theorem dL_law_243 : decode cL_law 243 = .ok (.aload_n 0, 1) := by decide +kernel
theorem dL_law_244 : decode cL_law 244 = .ok (.iload_n 3, 1) := by decide +kernel
theorem dL_law_245 : decode cL_law 245 = .ok (.iconst 3, 1) := by decide +kernel
theorem dL_law_246 : decode cL_law 246 = .ok (.iadd, 1) := by decide +kernel
theorem dL_law_247 : decode cL_law 247 = .ok (.iaload, 1) := by decide +kernel
theorem dL_law_248 : decode cL_law 248 = .ok (.ifCond .eq 7, 3) := by decide +kernel
theorem dL_law_251 : decode cL_law 251 = .ok (.iconst 1, 1) := by decide +kernel
theorem dL_law_252 : decode cL_law 252 = .ok (.goto 4, 3) := by decide +kernel
theorem dL_law_255 : decode cL_law 255 = .ok (.iconst 0, 1) := by decide +kernel
theorem dL_law_256 : decode cL_law 256 = .ok (.invokevirtual 32, 3) := by decide +kernel
theorem dL_law_259 : decode cL_law 259 = .ok (.if_icmp .eq 271, 3) := by decide +kernel
theorem dL_law_262 : decode cL_law 262 = .ok (.iconst 0, 1) := by decide +kernel
theorem dL_law_263 : decode cL_law 263 = .ok (.ireturn, 1) := by decide +kernel
theorem dL_law_264 : decode cL_law 264 = .ok (.aload_n 1, 1) := by decide +kernel
theorem dL_law_265 : decode cL_law 265 = .ok (.aload_n 0, 1) := by decide +kernel
theorem dL_law_266 : decode cL_law 266 = .ok (.iload_n 3, 1) := by decide +kernel
theorem dL_law_267 : decode cL_law 267 = .ok (.iconst 1, 1) := by decide +kernel
theorem dL_law_268 : decode cL_law 268 = .ok (.iadd, 1) := by decide +kernel
theorem dL_law_269 : decode cL_law 269 = .ok (.iaload, 1) := by decide +kernel
theorem dL_law_270 : decode cL_law 270 = .ok (.aload_n 0, 1) := by decide +kernel
theorem dL_law_271 : decode cL_law 271 = .ok (.iload_n 3, 1) := by decide +kernel
theorem dL_law_272 : decode cL_law 272 = .ok (.iconst 2, 1) := by decide +kernel
theorem dL_law_273 : decode cL_law 273 = .ok (.iadd, 1) := by decide +kernel
theorem dL_law_274 : decode cL_law 274 = .ok (.iaload, 1) := by decide +kernel
theorem dL_law_275 : decode cL_law 275 = .ok (.aload_n 0, 1) := by decide +kernel
theorem dL_law_276 : decode cL_law 276 = .ok (.iload_n 3, 1) := by decide +kernel
theorem dL_law_277 : decode cL_law 277 = .ok (.iconst 3, 1) := by decide +kernel
theorem dL_law_278 : decode cL_law 278 = .ok (.iadd, 1) := by decide +kernel
theorem dL_law_279 : decode cL_law 279 = .ok (.iaload, 1) := by decide +kernel
theorem dL_law_280 : decode cL_law 280 = .ok (.aload_n 0, 1) := by decide +kernel
theorem dL_law_281 : decode cL_law 281 = .ok (.iload_n 3, 1) := by decide +kernel
theorem dL_law_282 : decode cL_law 282 = .ok (.iconst 4, 1) := by decide +kernel
theorem dL_law_283 : decode cL_law 283 = .ok (.iadd, 1) := by decide +kernel
theorem dL_law_284 : decode cL_law 284 = .ok (.iaload, 1) := by decide +kernel
theorem dL_law_285 : decode cL_law 285 = .ok (.aload_n 0, 1) := by decide +kernel
theorem dL_law_286 : decode cL_law 286 = .ok (.iload_n 3, 1) := by decide +kernel
theorem dL_law_287 : decode cL_law 287 = .ok (.iconst 5, 1) := by decide +kernel
theorem dL_law_288 : decode cL_law 288 = .ok (.iadd, 1) := by decide +kernel
theorem dL_law_289 : decode cL_law 289 = .ok (.iaload, 1) := by decide +kernel
theorem dL_law_290 : decode cL_law 290 = .ok (.aload_n 0, 1) := by decide +kernel
theorem dL_law_291 : decode cL_law 291 = .ok (.iload_n 3, 1) := by decide +kernel
theorem dL_law_292 : decode cL_law 292 = .ok (.bipush 6, 2) := by decide +kernel
theorem dL_law_294 : decode cL_law 294 = .ok (.iadd, 1) := by decide +kernel
theorem dL_law_295 : decode cL_law 295 = .ok (.iaload, 1) := by decide +kernel
theorem dL_law_296 : decode cL_law 296 = .ok (.invokevirtual 33, 3) := by decide +kernel
theorem dL_law_299 : decode cL_law 299 = .ok (.aload_n 2, 1) := by decide +kernel
theorem dL_law_300 : decode cL_law 300 = .ok (.aload_n 0, 1) := by decide +kernel
theorem dL_law_301 : decode cL_law 301 = .ok (.iload_n 3, 1) := by decide +kernel
theorem dL_law_302 : decode cL_law 302 = .ok (.iconst 1, 1) := by decide +kernel
theorem dL_law_303 : decode cL_law 303 = .ok (.iadd, 1) := by decide +kernel
theorem dL_law_304 : decode cL_law 304 = .ok (.iaload, 1) := by decide +kernel
theorem dL_law_305 : decode cL_law 305 = .ok (.aload_n 0, 1) := by decide +kernel
theorem dL_law_306 : decode cL_law 306 = .ok (.iload_n 3, 1) := by decide +kernel
theorem dL_law_307 : decode cL_law 307 = .ok (.iconst 2, 1) := by decide +kernel
theorem dL_law_308 : decode cL_law 308 = .ok (.iadd, 1) := by decide +kernel
theorem dL_law_309 : decode cL_law 309 = .ok (.iaload, 1) := by decide +kernel
theorem dL_law_310 : decode cL_law 310 = .ok (.aload_n 0, 1) := by decide +kernel
theorem dL_law_311 : decode cL_law 311 = .ok (.iload_n 3, 1) := by decide +kernel
theorem dL_law_312 : decode cL_law 312 = .ok (.iconst 3, 1) := by decide +kernel
theorem dL_law_313 : decode cL_law 313 = .ok (.iadd, 1) := by decide +kernel
theorem dL_law_314 : decode cL_law 314 = .ok (.iaload, 1) := by decide +kernel
theorem dL_law_315 : decode cL_law 315 = .ok (.aload_n 0, 1) := by decide +kernel
theorem dL_law_316 : decode cL_law 316 = .ok (.iload_n 3, 1) := by decide +kernel
theorem dL_law_317 : decode cL_law 317 = .ok (.iconst 4, 1) := by decide +kernel
theorem dL_law_318 : decode cL_law 318 = .ok (.iadd, 1) := by decide +kernel
theorem dL_law_319 : decode cL_law 319 = .ok (.iaload, 1) := by decide +kernel
theorem dL_law_320 : decode cL_law 320 = .ok (.aload_n 0, 1) := by decide +kernel
theorem dL_law_321 : decode cL_law 321 = .ok (.iload_n 3, 1) := by decide +kernel
theorem dL_law_322 : decode cL_law 322 = .ok (.iconst 5, 1) := by decide +kernel
theorem dL_law_323 : decode cL_law 323 = .ok (.iadd, 1) := by decide +kernel
theorem dL_law_324 : decode cL_law 324 = .ok (.iaload, 1) := by decide +kernel
theorem dL_law_325 : decode cL_law 325 = .ok (.aload_n 0, 1) := by decide +kernel
theorem dL_law_326 : decode cL_law 326 = .ok (.iload_n 3, 1) := by decide +kernel
theorem dL_law_327 : decode cL_law 327 = .ok (.bipush 6, 2) := by decide +kernel
theorem dL_law_329 : decode cL_law 329 = .ok (.iadd, 1) := by decide +kernel
theorem dL_law_330 : decode cL_law 330 = .ok (.iaload, 1) := by decide +kernel
theorem dL_law_331 : decode cL_law 331 = .ok (.invokevirtual 37, 3) := by decide +kernel
theorem dL_law_334 : decode cL_law 334 = .ok (.if_icmp .eq 196, 3) := by decide +kernel
theorem dL_law_337 : decode cL_law 337 = .ok (.iconst 0, 1) := by decide +kernel
theorem dL_law_338 : decode cL_law 338 = .ok (.ireturn, 1) := by decide +kernel
theorem dL_law_339 : decode cL_law 339 = .ok (.aload_n 1, 1) := by decide +kernel
theorem dL_law_340 : decode cL_law 340 = .ok (.aload_n 0, 1) := by decide +kernel
theorem dL_law_341 : decode cL_law 341 = .ok (.iload_n 3, 1) := by decide +kernel
theorem dL_law_342 : decode cL_law 342 = .ok (.iconst 1, 1) := by decide +kernel
theorem dL_law_343 : decode cL_law 343 = .ok (.iadd, 1) := by decide +kernel
theorem dL_law_344 : decode cL_law 344 = .ok (.iaload, 1) := by decide +kernel
theorem dL_law_345 : decode cL_law 345 = .ok (.invokevirtual 38, 3) := by decide +kernel
theorem dL_law_348 : decode cL_law 348 = .ok (.aload_n 2, 1) := by decide +kernel
theorem dL_law_349 : decode cL_law 349 = .ok (.aload_n 0, 1) := by decide +kernel
theorem dL_law_350 : decode cL_law 350 = .ok (.iload_n 3, 1) := by decide +kernel
theorem dL_law_351 : decode cL_law 351 = .ok (.iconst 1, 1) := by decide +kernel
theorem dL_law_352 : decode cL_law 352 = .ok (.iadd, 1) := by decide +kernel
theorem dL_law_353 : decode cL_law 353 = .ok (.iaload, 1) := by decide +kernel
theorem dL_law_354 : decode cL_law 354 = .ok (.invokevirtual 42, 3) := by decide +kernel
theorem dL_law_357 : decode cL_law 357 = .ok (.if_icmp .eq 173, 3) := by decide +kernel
theorem dL_law_360 : decode cL_law 360 = .ok (.iconst 0, 1) := by decide +kernel
theorem dL_law_361 : decode cL_law 361 = .ok (.ireturn, 1) := by decide +kernel
theorem dL_law_362 : decode cL_law 362 = .ok (.aload_n 1, 1) := by decide +kernel
theorem dL_law_363 : decode cL_law 363 = .ok (.aload_n 0, 1) := by decide +kernel
theorem dL_law_364 : decode cL_law 364 = .ok (.iload_n 3, 1) := by decide +kernel
theorem dL_law_365 : decode cL_law 365 = .ok (.iconst 1, 1) := by decide +kernel
theorem dL_law_366 : decode cL_law 366 = .ok (.iadd, 1) := by decide +kernel
theorem dL_law_367 : decode cL_law 367 = .ok (.iaload, 1) := by decide +kernel
theorem dL_law_368 : decode cL_law 368 = .ok (.aload_n 0, 1) := by decide +kernel
theorem dL_law_369 : decode cL_law 369 = .ok (.iload_n 3, 1) := by decide +kernel
theorem dL_law_370 : decode cL_law 370 = .ok (.iconst 2, 1) := by decide +kernel
theorem dL_law_371 : decode cL_law 371 = .ok (.iadd, 1) := by decide +kernel
theorem dL_law_372 : decode cL_law 372 = .ok (.iaload, 1) := by decide +kernel
theorem dL_law_373 : decode cL_law 373 = .ok (.invokevirtual 43, 3) := by decide +kernel
theorem dL_law_376 : decode cL_law 376 = .ok (.aload_n 2, 1) := by decide +kernel
theorem dL_law_377 : decode cL_law 377 = .ok (.aload_n 0, 1) := by decide +kernel
theorem dL_law_378 : decode cL_law 378 = .ok (.iload_n 3, 1) := by decide +kernel
theorem dL_law_379 : decode cL_law 379 = .ok (.iconst 1, 1) := by decide +kernel
theorem dL_law_380 : decode cL_law 380 = .ok (.iadd, 1) := by decide +kernel
theorem dL_law_381 : decode cL_law 381 = .ok (.iaload, 1) := by decide +kernel
theorem dL_law_382 : decode cL_law 382 = .ok (.aload_n 0, 1) := by decide +kernel
theorem dL_law_383 : decode cL_law 383 = .ok (.iload_n 3, 1) := by decide +kernel
theorem dL_law_384 : decode cL_law 384 = .ok (.iconst 2, 1) := by decide +kernel
theorem dL_law_385 : decode cL_law 385 = .ok (.iadd, 1) := by decide +kernel
theorem dL_law_386 : decode cL_law 386 = .ok (.iaload, 1) := by decide +kernel
theorem dL_law_387 : decode cL_law 387 = .ok (.invokevirtual 46, 3) := by decide +kernel
theorem dL_law_390 : decode cL_law 390 = .ok (.if_icmp .eq 140, 3) := by decide +kernel
theorem dL_law_393 : decode cL_law 393 = .ok (.iconst 0, 1) := by decide +kernel
theorem dL_law_394 : decode cL_law 394 = .ok (.ireturn, 1) := by decide +kernel
theorem dL_law_395 : decode cL_law 395 = .ok (.aload_n 1, 1) := by decide +kernel
theorem dL_law_396 : decode cL_law 396 = .ok (.aload_n 0, 1) := by decide +kernel
theorem dL_law_397 : decode cL_law 397 = .ok (.iload_n 3, 1) := by decide +kernel
theorem dL_law_398 : decode cL_law 398 = .ok (.iconst 1, 1) := by decide +kernel
theorem dL_law_399 : decode cL_law 399 = .ok (.iadd, 1) := by decide +kernel
theorem dL_law_400 : decode cL_law 400 = .ok (.iaload, 1) := by decide +kernel
theorem dL_law_401 : decode cL_law 401 = .ok (.aload_n 0, 1) := by decide +kernel
theorem dL_law_402 : decode cL_law 402 = .ok (.iload_n 3, 1) := by decide +kernel
theorem dL_law_403 : decode cL_law 403 = .ok (.iconst 2, 1) := by decide +kernel
theorem dL_law_404 : decode cL_law 404 = .ok (.iadd, 1) := by decide +kernel
theorem dL_law_405 : decode cL_law 405 = .ok (.iaload, 1) := by decide +kernel
theorem dL_law_406 : decode cL_law 406 = .ok (.invokevirtual 47, 3) := by decide +kernel
theorem dL_law_409 : decode cL_law 409 = .ok (.aload_n 2, 1) := by decide +kernel
theorem dL_law_410 : decode cL_law 410 = .ok (.aload_n 0, 1) := by decide +kernel
theorem dL_law_411 : decode cL_law 411 = .ok (.iload_n 3, 1) := by decide +kernel
theorem dL_law_412 : decode cL_law 412 = .ok (.iconst 1, 1) := by decide +kernel
theorem dL_law_413 : decode cL_law 413 = .ok (.iadd, 1) := by decide +kernel
theorem dL_law_414 : decode cL_law 414 = .ok (.iaload, 1) := by decide +kernel
theorem dL_law_415 : decode cL_law 415 = .ok (.aload_n 0, 1) := by decide +kernel
theorem dL_law_416 : decode cL_law 416 = .ok (.iload_n 3, 1) := by decide +kernel
theorem dL_law_417 : decode cL_law 417 = .ok (.iconst 2, 1) := by decide +kernel
theorem dL_law_418 : decode cL_law 418 = .ok (.iadd, 1) := by decide +kernel
theorem dL_law_419 : decode cL_law 419 = .ok (.iaload, 1) := by decide +kernel
theorem dL_law_420 : decode cL_law 420 = .ok (.invokevirtual 50, 3) := by decide +kernel
theorem dL_law_423 : decode cL_law 423 = .ok (.if_icmp .eq 107, 3) := by decide +kernel
theorem dL_law_426 : decode cL_law 426 = .ok (.iconst 0, 1) := by decide +kernel
theorem dL_law_427 : decode cL_law 427 = .ok (.ireturn, 1) := by decide +kernel
theorem dL_law_428 : decode cL_law 428 = .ok (.aload_n 1, 1) := by decide +kernel
theorem dL_law_429 : decode cL_law 429 = .ok (.aload_n 0, 1) := by decide +kernel
theorem dL_law_430 : decode cL_law 430 = .ok (.iload_n 3, 1) := by decide +kernel
theorem dL_law_431 : decode cL_law 431 = .ok (.iconst 1, 1) := by decide +kernel
theorem dL_law_432 : decode cL_law 432 = .ok (.iadd, 1) := by decide +kernel
theorem dL_law_433 : decode cL_law 433 = .ok (.iaload, 1) := by decide +kernel
theorem dL_law_434 : decode cL_law 434 = .ok (.aload_n 0, 1) := by decide +kernel
theorem dL_law_435 : decode cL_law 435 = .ok (.iload_n 3, 1) := by decide +kernel
theorem dL_law_436 : decode cL_law 436 = .ok (.iconst 2, 1) := by decide +kernel
theorem dL_law_437 : decode cL_law 437 = .ok (.iadd, 1) := by decide +kernel
theorem dL_law_438 : decode cL_law 438 = .ok (.iaload, 1) := by decide +kernel
theorem dL_law_439 : decode cL_law 439 = .ok (.invokevirtual 51, 3) := by decide +kernel
theorem dL_law_442 : decode cL_law 442 = .ok (.aload_n 2, 1) := by decide +kernel
theorem dL_law_443 : decode cL_law 443 = .ok (.aload_n 0, 1) := by decide +kernel
theorem dL_law_444 : decode cL_law 444 = .ok (.iload_n 3, 1) := by decide +kernel
theorem dL_law_445 : decode cL_law 445 = .ok (.iconst 1, 1) := by decide +kernel
theorem dL_law_446 : decode cL_law 446 = .ok (.iadd, 1) := by decide +kernel
theorem dL_law_447 : decode cL_law 447 = .ok (.iaload, 1) := by decide +kernel
theorem dL_law_448 : decode cL_law 448 = .ok (.aload_n 0, 1) := by decide +kernel
theorem dL_law_449 : decode cL_law 449 = .ok (.iload_n 3, 1) := by decide +kernel
theorem dL_law_450 : decode cL_law 450 = .ok (.iconst 2, 1) := by decide +kernel
theorem dL_law_451 : decode cL_law 451 = .ok (.iadd, 1) := by decide +kernel
theorem dL_law_452 : decode cL_law 452 = .ok (.iaload, 1) := by decide +kernel
theorem dL_law_453 : decode cL_law 453 = .ok (.invokevirtual 54, 3) := by decide +kernel
theorem dL_law_456 : decode cL_law 456 = .ok (.if_icmp .eq 74, 3) := by decide +kernel
theorem dL_law_459 : decode cL_law 459 = .ok (.iconst 0, 1) := by decide +kernel
theorem dL_law_460 : decode cL_law 460 = .ok (.ireturn, 1) := by decide +kernel
theorem dL_law_461 : decode cL_law 461 = .ok (.aload_n 1, 1) := by decide +kernel
theorem dL_law_462 : decode cL_law 462 = .ok (.aload_n 0, 1) := by decide +kernel
theorem dL_law_463 : decode cL_law 463 = .ok (.iload_n 3, 1) := by decide +kernel
theorem dL_law_464 : decode cL_law 464 = .ok (.iconst 1, 1) := by decide +kernel
theorem dL_law_465 : decode cL_law 465 = .ok (.iadd, 1) := by decide +kernel
theorem dL_law_466 : decode cL_law 466 = .ok (.iaload, 1) := by decide +kernel
theorem dL_law_467 : decode cL_law 467 = .ok (.aload_n 0, 1) := by decide +kernel
theorem dL_law_468 : decode cL_law 468 = .ok (.iload_n 3, 1) := by decide +kernel
theorem dL_law_469 : decode cL_law 469 = .ok (.iconst 2, 1) := by decide +kernel
theorem dL_law_470 : decode cL_law 470 = .ok (.iadd, 1) := by decide +kernel
theorem dL_law_471 : decode cL_law 471 = .ok (.iaload, 1) := by decide +kernel
theorem dL_law_472 : decode cL_law 472 = .ok (.invokevirtual 55, 3) := by decide +kernel
theorem dL_law_475 : decode cL_law 475 = .ok (.aload_n 2, 1) := by decide +kernel
theorem dL_law_476 : decode cL_law 476 = .ok (.aload_n 0, 1) := by decide +kernel
theorem dL_law_477 : decode cL_law 477 = .ok (.iload_n 3, 1) := by decide +kernel
theorem dL_law_478 : decode cL_law 478 = .ok (.iconst 1, 1) := by decide +kernel
theorem dL_law_479 : decode cL_law 479 = .ok (.iadd, 1) := by decide +kernel
theorem dL_law_480 : decode cL_law 480 = .ok (.iaload, 1) := by decide +kernel
theorem dL_law_481 : decode cL_law 481 = .ok (.aload_n 0, 1) := by decide +kernel
theorem dL_law_482 : decode cL_law 482 = .ok (.iload_n 3, 1) := by decide +kernel
theorem dL_law_483 : decode cL_law 483 = .ok (.iconst 2, 1) := by decide +kernel
theorem dL_law_484 : decode cL_law 484 = .ok (.iadd, 1) := by decide +kernel
theorem dL_law_485 : decode cL_law 485 = .ok (.iaload, 1) := by decide +kernel
theorem dL_law_486 : decode cL_law 486 = .ok (.invokevirtual 58, 3) := by decide +kernel
theorem dL_law_489 : decode cL_law 489 = .ok (.if_icmp .eq 41, 3) := by decide +kernel
theorem dL_law_492 : decode cL_law 492 = .ok (.iconst 0, 1) := by decide +kernel
theorem dL_law_493 : decode cL_law 493 = .ok (.ireturn, 1) := by decide +kernel
theorem dL_law_494 : decode cL_law 494 = .ok (.aload_n 1, 1) := by decide +kernel
theorem dL_law_495 : decode cL_law 495 = .ok (.aload_n 0, 1) := by decide +kernel
theorem dL_law_496 : decode cL_law 496 = .ok (.iload_n 3, 1) := by decide +kernel
theorem dL_law_497 : decode cL_law 497 = .ok (.iconst 1, 1) := by decide +kernel
theorem dL_law_498 : decode cL_law 498 = .ok (.iadd, 1) := by decide +kernel
theorem dL_law_499 : decode cL_law 499 = .ok (.iaload, 1) := by decide +kernel
theorem dL_law_500 : decode cL_law 500 = .ok (.invokevirtual 59, 3) := by decide +kernel
theorem dL_law_503 : decode cL_law 503 = .ok (.aload_n 2, 1) := by decide +kernel
theorem dL_law_504 : decode cL_law 504 = .ok (.aload_n 0, 1) := by decide +kernel
theorem dL_law_505 : decode cL_law 505 = .ok (.iload_n 3, 1) := by decide +kernel
theorem dL_law_506 : decode cL_law 506 = .ok (.iconst 1, 1) := by decide +kernel
theorem dL_law_507 : decode cL_law 507 = .ok (.iadd, 1) := by decide +kernel
theorem dL_law_508 : decode cL_law 508 = .ok (.iaload, 1) := by decide +kernel
theorem dL_law_509 : decode cL_law 509 = .ok (.invokevirtual 62, 3) := by decide +kernel
theorem dL_law_512 : decode cL_law 512 = .ok (.if_icmp .eq 18, 3) := by decide +kernel
theorem dL_law_515 : decode cL_law 515 = .ok (.iconst 0, 1) := by decide +kernel
theorem dL_law_516 : decode cL_law 516 = .ok (.ireturn, 1) := by decide +kernel
theorem dL_law_517 : decode cL_law 517 = .ok (.aload_n 1, 1) := by decide +kernel
theorem dL_law_518 : decode cL_law 518 = .ok (.invokevirtual 63, 3) := by decide +kernel
theorem dL_law_521 : decode cL_law 521 = .ok (.aload_n 2, 1) := by decide +kernel
theorem dL_law_522 : decode cL_law 522 = .ok (.invokevirtual 66, 3) := by decide +kernel
theorem dL_law_525 : decode cL_law 525 = .ok (.if_icmp .eq 5, 3) := by decide +kernel
theorem dL_law_528 : decode cL_law 528 = .ok (.iconst 0, 1) := by decide +kernel
theorem dL_law_529 : decode cL_law 529 = .ok (.ireturn, 1) := by decide +kernel
theorem dL_law_530 : decode cL_law 530 = .ok (.iinc 3 7, 3) := by decide +kernel
theorem dL_law_533 : decode cL_law 533 = .ok (.goto (-515), 3) := by decide +kernel
theorem dL_law_536 : decode cL_law 536 = .ok (.iconst 1, 1) := by decide +kernel
theorem dL_law_537 : decode cL_law 537 = .ok (.ireturn, 1) := by decide +kernel
