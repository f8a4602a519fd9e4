theorem dX0_fits_0 : decode cX0_fits 0 = .ok (.iload_n 0, 1) := by decide +kernel
theorem dX0_fits_1 : decode cX0_fits 1 = .ok (.tableswitch 152 6 25 #[95, 95, 152, 152, 152, 152, 152, 152, 103, 103, 152, 152, 152, 111, 111, 111, 152, 136, 152, 143], 95) := by decide +kernel
theorem dX0_fits_96 : decode cX0_fits 96 = .ok (.iload_n 1, 1) := by decide +kernel
theorem dX0_fits_97 : decode cX0_fits 97 = .ok (.iconst 0, 1) := by decide +kernel
theorem dX0_fits_98 : decode cX0_fits 98 = .ok (.bipush 7, 2) := by decide +kernel
theorem dX0_fits_100 : decode cX0_fits 100 = .ok (.invokestatic 9, 3) := by decide +kernel
theorem dX0_fits_103 : decode cX0_fits 103 = .ok (.ireturn, 1) := by decide +kernel
theorem dX0_fits_104 : decode cX0_fits 104 = .ok (.iload_n 1, 1) := by decide +kernel
theorem dX0_fits_105 : decode cX0_fits 105 = .ok (.iconst 1, 1) := by decide +kernel
theorem dX0_fits_106 : decode cX0_fits 106 = .ok (.bipush 20, 2) := by decide +kernel
theorem dX0_fits_108 : decode cX0_fits 108 = .ok (.invokestatic 9, 3) := by decide +kernel
theorem dX0_fits_111 : decode cX0_fits 111 = .ok (.ireturn, 1) := by decide +kernel
theorem dX0_fits_112 : decode cX0_fits 112 = .ok (.iload_n 1, 1) := by decide +kernel
theorem dX0_fits_113 : decode cX0_fits 113 = .ok (.iconst 0, 1) := by decide +kernel
theorem dX0_fits_114 : decode cX0_fits 114 = .ok (.bipush 7, 2) := by decide +kernel
theorem dX0_fits_116 : decode cX0_fits 116 = .ok (.invokestatic 9, 3) := by decide +kernel
theorem dX0_fits_119 : decode cX0_fits 119 = .ok (.ifCond .eq 16, 3) := by decide +kernel
theorem dX0_fits_122 : decode cX0_fits 122 = .ok (.iload_n 2, 1) := by decide +kernel
theorem dX0_fits_123 : decode cX0_fits 123 = .ok (.iconst 0, 1) := by decide +kernel
theorem dX0_fits_124 : decode cX0_fits 124 = .ok (.iconst 3, 1) := by decide +kernel
theorem dX0_fits_125 : decode cX0_fits 125 = .ok (.invokestatic 9, 3) := by decide +kernel
theorem dX0_fits_128 : decode cX0_fits 128 = .ok (.ifCond .eq 7, 3) := by decide +kernel
theorem dX0_fits_131 : decode cX0_fits 131 = .ok (.iconst 1, 1) := by decide +kernel
theorem dX0_fits_132 : decode cX0_fits 132 = .ok (.goto 4, 3) := by decide +kernel
theorem dX0_fits_135 : decode cX0_fits 135 = .ok (.iconst 0, 1) := by decide +kernel
theorem dX0_fits_136 : decode cX0_fits 136 = .ok (.ireturn, 1) := by decide +kernel
theorem dX0_fits_137 : decode cX0_fits 137 = .ok (.iload_n 1, 1) := by decide +kernel
theorem dX0_fits_138 : decode cX0_fits 138 = .ok (.iconst 0, 1) := by decide +kernel
theorem dX0_fits_139 : decode cX0_fits 139 = .ok (.iconst 3, 1) := by decide +kernel
theorem dX0_fits_140 : decode cX0_fits 140 = .ok (.invokestatic 9, 3) := by decide +kernel
theorem dX0_fits_143 : decode cX0_fits 143 = .ok (.ireturn, 1) := by decide +kernel
theorem dX0_fits_144 : decode cX0_fits 144 = .ok (.iload_n 1, 1) := by decide +kernel
theorem dX0_fits_145 : decode cX0_fits 145 = .ok (.bipush 10, 2) := by decide +kernel
theorem dX0_fits_147 : decode cX0_fits 147 = .ok (.bipush 99, 2) := by decide +kernel
theorem dX0_fits_149 : decode cX0_fits 149 = .ok (.invokestatic 9, 3) := by decide +kernel
theorem dX0_fits_152 : decode cX0_fits 152 = .ok (.ireturn, 1) := by decide +kernel
theorem dX0_fits_153 : decode cX0_fits 153 = .ok (.iload_n 0, 1) := by decide +kernel
theorem dX0_fits_154 : decode cX0_fits 154 = .ok (.iconst 0, 1) := by decide +kernel
theorem dX0_fits_155 : decode cX0_fits 155 = .ok (.bipush 25, 2) := by decide +kernel
theorem dX0_fits_157 : decode cX0_fits 157 = .ok (.invokestatic 9, 3) := by decide +kernel
theorem dX0_fits_160 : decode cX0_fits 160 = .ok (.ireturn, 1) := by decide +kernel
theorem dX0_writes_0 : decode cX0_writes 0 = .ok (.iload_n 0, 1) := by decide +kernel
theorem dX0_writes_1 : decode cX0_writes 1 = .ok (.bipush 7, 2) := by decide +kernel
theorem dX0_writes_3 : decode cX0_writes 3 = .ok (.if_icmp .eq 15, 3) := by decide +kernel
theorem dX0_writes_6 : decode cX0_writes 6 = .ok (.iload_n 0, 1) := by decide +kernel
theorem dX0_writes_7 : decode cX0_writes 7 = .ok (.bipush 22, 2) := by decide +kernel
theorem dX0_writes_9 : decode cX0_writes 9 = .ok (.if_icmp .eq 9, 3) := by decide +kernel
theorem dX0_writes_12 : decode cX0_writes 12 = .ok (.iload_n 0, 1) := by decide +kernel
theorem dX0_writes_13 : decode cX0_writes 13 = .ok (.bipush 23, 2) := by decide +kernel
theorem dX0_writes_15 : decode cX0_writes 15 = .ok (.if_icmp .ne 7, 3) := by decide +kernel
theorem dX0_writes_18 : decode cX0_writes 18 = .ok (.iconst 1, 1) := by decide +kernel
theorem dX0_writes_19 : decode cX0_writes 19 = .ok (.goto 4, 3) := by decide +kernel
theorem dX0_writes_22 : decode cX0_writes 22 = .ok (.iconst 0, 1) := by decide +kernel
theorem dX0_writes_23 : decode cX0_writes 23 = .ok (.ireturn, 1) := by decide +kernel
theorem dX0_fitsStack_0 : decode cX0_fitsStack 0 = .ok (.iload_n 1, 1) := by decide +kernel
theorem dX0_fitsStack_1 : decode cX0_fitsStack 1 = .ok (.getstatic 15, 3) := by decide +kernel
theorem dX0_fitsStack_4 : decode cX0_fitsStack 4 = .ok (.iload_n 0, 1) := by decide +kernel
theorem dX0_fitsStack_5 : decode cX0_fitsStack 5 = .ok (.iaload, 1) := by decide +kernel
theorem dX0_fitsStack_6 : decode cX0_fitsStack 6 = .ok (.if_icmp .lt 25, 3) := by decide +kernel
theorem dX0_fitsStack_9 : decode cX0_fitsStack 9 = .ok (.iload_n 1, 1) := by decide +kernel
theorem dX0_fitsStack_10 : decode cX0_fitsStack 10 = .ok (.getstatic 15, 3) := by decide +kernel
theorem dX0_fitsStack_13 : decode cX0_fitsStack 13 = .ok (.iload_n 0, 1) := by decide +kernel
theorem dX0_fitsStack_14 : decode cX0_fitsStack 14 = .ok (.iaload, 1) := by decide +kernel
theorem dX0_fitsStack_15 : decode cX0_fitsStack 15 = .ok (.isub, 1) := by decide +kernel
theorem dX0_fitsStack_16 : decode cX0_fitsStack 16 = .ok (.getstatic 19, 3) := by decide +kernel
theorem dX0_fitsStack_19 : decode cX0_fitsStack 19 = .ok (.iload_n 0, 1) := by decide +kernel
theorem dX0_fitsStack_20 : decode cX0_fitsStack 20 = .ok (.iaload, 1) := by decide +kernel
theorem dX0_fitsStack_21 : decode cX0_fitsStack 21 = .ok (.iadd, 1) := by decide +kernel
theorem dX0_fitsStack_22 : decode cX0_fitsStack 22 = .ok (.bipush 8, 2) := by decide +kernel
theorem dX0_fitsStack_24 : decode cX0_fitsStack 24 = .ok (.if_icmp .gt 7, 3) := by decide +kernel
theorem dX0_fitsStack_27 : decode cX0_fitsStack 27 = .ok (.iconst 1, 1) := by decide +kernel
theorem dX0_fitsStack_28 : decode cX0_fitsStack 28 = .ok (.goto 4, 3) := by decide +kernel
theorem dX0_fitsStack_31 : decode cX0_fitsStack 31 = .ok (.iconst 0, 1) := by decide +kernel
theorem dX0_fitsStack_32 : decode cX0_fitsStack 32 = .ok (.ireturn, 1) := by decide +kernel
theorem dX1_init_0 : decode cX1_init 0 = .ok (.aload_n 0, 1) := by decide +kernel
theorem dX1_init_1 : decode cX1_init 1 = .ok (.invokespecial 1, 3) := by decide +kernel
theorem dX1_init_4 : decode cX1_init 4 = .ok (.aload_n 0, 1) := by decide +kernel
theorem dX1_init_5 : decode cX1_init 5 = .ok (.bipush 8, 2) := by decide +kernel
theorem dX1_init_7 : decode cX1_init 7 = .ok (.newarray .int, 2) := by decide +kernel
theorem dX1_init_9 : decode cX1_init 9 = .ok (.putfield 9, 3) := by decide +kernel
theorem dX1_init_12 : decode cX1_init 12 = .ok (.return_, 1) := by decide +kernel
theorem dX1_begin_0 : decode cX1_begin 0 = .ok (.aload_n 0, 1) := by decide +kernel
theorem dX1_begin_1 : decode cX1_begin 1 = .ok (.iload_n 1, 1) := by decide +kernel
theorem dX1_begin_2 : decode cX1_begin 2 = .ok (.putfield 13, 3) := by decide +kernel
theorem dX1_begin_5 : decode cX1_begin 5 = .ok (.aload_n 0, 1) := by decide +kernel
theorem dX1_begin_6 : decode cX1_begin 6 = .ok (.iload_n 2, 1) := by decide +kernel
theorem dX1_begin_7 : decode cX1_begin 7 = .ok (.putfield 17, 3) := by decide +kernel
theorem dX1_begin_10 : decode cX1_begin 10 = .ok (.aload_n 0, 1) := by decide +kernel
theorem dX1_begin_11 : decode cX1_begin 11 = .ok (.iload_n 3, 1) := by decide +kernel
theorem dX1_begin_12 : decode cX1_begin 12 = .ok (.putfield 20, 3) := by decide +kernel
theorem dX1_begin_15 : decode cX1_begin 15 = .ok (.aload_n 0, 1) := by decide +kernel
theorem dX1_begin_16 : decode cX1_begin 16 = .ok (.iload 4, 2) := by decide +kernel
theorem dX1_begin_18 : decode cX1_begin 18 = .ok (.putfield 23, 3) := by decide +kernel
theorem dX1_begin_21 : decode cX1_begin 21 = .ok (.aload_n 0, 1) := by decide +kernel
theorem dX1_begin_22 : decode cX1_begin 22 = .ok (.iload 5, 2) := by decide +kernel
theorem dX1_begin_24 : decode cX1_begin 24 = .ok (.putfield 26, 3) := by decide +kernel
theorem dX1_begin_27 : decode cX1_begin 27 = .ok (.aload_n 0, 1) := by decide +kernel
theorem dX1_begin_28 : decode cX1_begin 28 = .ok (.iload 5, 2) := by decide +kernel
theorem dX1_begin_30 : decode cX1_begin 30 = .ok (.putfield 29, 3) := by decide +kernel
theorem dX1_begin_33 : decode cX1_begin 33 = .ok (.aload_n 0, 1) := by decide +kernel
theorem dX1_begin_34 : decode cX1_begin 34 = .ok (.iconst 0, 1) := by decide +kernel
theorem dX1_begin_35 : decode cX1_begin 35 = .ok (.putfield 32, 3) := by decide +kernel
theorem dX1_begin_38 : decode cX1_begin 38 = .ok (.aload_n 0, 1) := by decide +kernel
theorem dX1_begin_39 : decode cX1_begin 39 = .ok (.iconst 0, 1) := by decide +kernel
theorem dX1_begin_40 : decode cX1_begin 40 = .ok (.putfield 35, 3) := by decide +kernel
theorem dX1_begin_43 : decode cX1_begin 43 = .ok (.aload_n 0, 1) := by decide +kernel
theorem dX1_begin_44 : decode cX1_begin 44 = .ok (.iconst 0, 1) := by decide +kernel
theorem dX1_begin_45 : decode cX1_begin 45 = .ok (.putfield 38, 3) := by decide +kernel
theorem dX1_begin_48 : decode cX1_begin 48 = .ok (.aload_n 0, 1) := by decide +kernel
theorem dX1_begin_49 : decode cX1_begin 49 = .ok (.iconst 0, 1) := by decide +kernel
theorem dX1_begin_50 : decode cX1_begin 50 = .ok (.putfield 44, 3) := by decide +kernel
theorem dX1_begin_53 : decode cX1_begin 53 = .ok (.aload_n 0, 1) := by decide +kernel
theorem dX1_begin_54 : decode cX1_begin 54 = .ok (.iconst 0, 1) := by decide +kernel
theorem dX1_begin_55 : decode cX1_begin 55 = .ok (.putfield 47, 3) := by decide +kernel
theorem dX1_begin_58 : decode cX1_begin 58 = .ok (.return_, 1) := by decide +kernel
theorem dX1_used_0 : decode cX1_used 0 = .ok (.aload_n 0, 1) := by decide +kernel
theorem dX1_used_1 : decode cX1_used 1 = .ok (.getfield 26, 3) := by decide +kernel
theorem dX1_used_4 : decode cX1_used 4 = .ok (.aload_n 0, 1) := by decide +kernel
theorem dX1_used_5 : decode cX1_used 5 = .ok (.getfield 29, 3) := by decide +kernel
theorem dX1_used_8 : decode cX1_used 8 = .ok (.isub, 1) := by decide +kernel
theorem dX1_used_9 : decode cX1_used 9 = .ok (.ireturn, 1) := by decide +kernel
theorem dX1_hasThrown_0 : decode cX1_hasThrown 0 = .ok (.aload_n 0, 1) := by decide +kernel
theorem dX1_hasThrown_1 : decode cX1_hasThrown 1 = .ok (.getfield 44, 3) := by decide +kernel
theorem dX1_hasThrown_4 : decode cX1_hasThrown 4 = .ok (.ifCond .eq 7, 3) := by decide +kernel
theorem dX1_hasThrown_7 : decode cX1_hasThrown 7 = .ok (.iconst 1, 1) := by decide +kernel
theorem dX1_hasThrown_8 : decode cX1_hasThrown 8 = .ok (.goto 4, 3) := by decide +kernel
theorem dX1_hasThrown_11 : decode cX1_hasThrown 11 = .ok (.iconst 0, 1) := by decide +kernel
theorem dX1_hasThrown_12 : decode cX1_hasThrown 12 = .ok (.ireturn, 1) := by decide +kernel
theorem dX1_put_0 : decode cX1_put 0 = .ok (.aload_n 0, 1) := by decide +kernel
theorem dX1_put_1 : decode cX1_put 1 = .ok (.getfield 9, 3) := by decide +kernel
theorem dX1_put_4 : decode cX1_put 4 = .ok (.aload_n 0, 1) := by decide +kernel
theorem dX1_put_5 : decode cX1_put 5 = .ok (.getfield 32, 3) := by decide +kernel
theorem dX1_put_8 : decode cX1_put 8 = .ok (.iload_n 1, 1) := by decide +kernel
theorem dX1_put_9 : decode cX1_put 9 = .ok (.iastore, 1) := by decide +kernel
theorem dX1_put_10 : decode cX1_put 10 = .ok (.aload_n 0, 1) := by decide +kernel
theorem dX1_put_11 : decode cX1_put 11 = .ok (.dup, 1) := by decide +kernel
theorem dX1_put_12 : decode cX1_put 12 = .ok (.getfield 32, 3) := by decide +kernel
theorem dX1_put_15 : decode cX1_put 15 = .ok (.iconst 1, 1) := by decide +kernel
theorem dX1_put_16 : decode cX1_put 16 = .ok (.iadd, 1) := by decide +kernel
theorem dX1_put_17 : decode cX1_put 17 = .ok (.putfield 32, 3) := by decide +kernel
theorem dX1_put_20 : decode cX1_put 20 = .ok (.return_, 1) := by decide +kernel
theorem dX1_take_0 : decode cX1_take 0 = .ok (.aload_n 0, 1) := by decide +kernel
theorem dX1_take_1 : decode cX1_take 1 = .ok (.dup, 1) := by decide +kernel
theorem dX1_take_2 : decode cX1_take 2 = .ok (.getfield 32, 3) := by decide +kernel
theorem dX1_take_5 : decode cX1_take 5 = .ok (.iconst 1, 1) := by decide +kernel
theorem dX1_take_6 : decode cX1_take 6 = .ok (.isub, 1) := by decide +kernel
theorem dX1_take_7 : decode cX1_take 7 = .ok (.putfield 32, 3) := by decide +kernel
theorem dX1_take_10 : decode cX1_take 10 = .ok (.aload_n 0, 1) := by decide +kernel
theorem dX1_take_11 : decode cX1_take 11 = .ok (.getfield 9, 3) := by decide +kernel
theorem dX1_take_14 : decode cX1_take 14 = .ok (.aload_n 0, 1) := by decide +kernel
theorem dX1_take_15 : decode cX1_take 15 = .ok (.getfield 32, 3) := by decide +kernel
theorem dX1_take_18 : decode cX1_take 18 = .ok (.iaload, 1) := by decide +kernel
theorem dX1_take_19 : decode cX1_take 19 = .ok (.ireturn, 1) := by decide +kernel
theorem dX1_endGiving_0 : decode cX1_endGiving 0 = .ok (.aload_n 0, 1) := by decide +kernel
theorem dX1_endGiving_1 : decode cX1_endGiving 1 = .ok (.iconst 1, 1) := by decide +kernel
theorem dX1_endGiving_2 : decode cX1_endGiving 2 = .ok (.putfield 38, 3) := by decide +kernel
theorem dX1_endGiving_5 : decode cX1_endGiving 5 = .ok (.aload_n 0, 1) := by decide +kernel
theorem dX1_endGiving_6 : decode cX1_endGiving 6 = .ok (.iload_n 1, 1) := by decide +kernel
theorem dX1_endGiving_7 : decode cX1_endGiving 7 = .ok (.putfield 47, 3) := by decide +kernel
theorem dX1_endGiving_10 : decode cX1_endGiving 10 = .ok (.return_, 1) := by decide +kernel
theorem dX1_endThrowing_0 : decode cX1_endThrowing 0 = .ok (.aload_n 0, 1) := by decide +kernel
theorem dX1_endThrowing_1 : decode cX1_endThrowing 1 = .ok (.iconst 1, 1) := by decide +kernel
theorem dX1_endThrowing_2 : decode cX1_endThrowing 2 = .ok (.putfield 38, 3) := by decide +kernel
theorem dX1_endThrowing_5 : decode cX1_endThrowing 5 = .ok (.aload_n 0, 1) := by decide +kernel
theorem dX1_endThrowing_6 : decode cX1_endThrowing 6 = .ok (.iload_n 1, 1) := by decide +kernel
theorem dX1_endThrowing_7 : decode cX1_endThrowing 7 = .ok (.putfield 44, 3) := by decide +kernel
theorem dX1_endThrowing_10 : decode cX1_endThrowing 10 = .ok (.return_, 1) := by decide +kernel
theorem dX2_init_0 : decode cX2_init 0 = .ok (.aload_n 0, 1) := by decide +kernel
theorem dX2_init_1 : decode cX2_init 1 = .ok (.invokespecial 3, 3) := by decide +kernel
theorem dX2_init_4 : decode cX2_init 4 = .ok (.aload_n 0, 1) := by decide +kernel
theorem dX2_init_5 : decode cX2_init 5 = .ok (.bipush 8, 2) := by decide +kernel
theorem dX2_init_7 : decode cX2_init 7 = .ok (.anewarray 9, 3) := by decide +kernel
theorem dX2_init_10 : decode cX2_init 10 = .ok (.putfield 11, 3) := by decide +kernel
theorem dX2_init_13 : decode cX2_init 13 = .ok (.aload_n 0, 1) := by decide +kernel
theorem dX2_init_14 : decode cX2_init 14 = .ok (.bipush 8, 2) := by decide +kernel
theorem dX2_init_16 : decode cX2_init 16 = .ok (.anewarray 17, 3) := by decide +kernel
theorem dX2_init_19 : decode cX2_init 19 = .ok (.putfield 19, 3) := by decide +kernel
theorem dX2_init_22 : decode cX2_init 22 = .ok (.aload_n 0, 1) := by decide +kernel
theorem dX2_init_23 : decode cX2_init 23 = .ok (.aload_n 1, 1) := by decide +kernel
theorem dX2_init_24 : decode cX2_init 24 = .ok (.putfield 23, 3) := by decide +kernel
theorem dX2_init_27 : decode cX2_init 27 = .ok (.aload_n 0, 1) := by decide +kernel
theorem dX2_init_28 : decode cX2_init 28 = .ok (.aload_n 2, 1) := by decide +kernel
theorem dX2_init_29 : decode cX2_init 29 = .ok (.putfield 27, 3) := by decide +kernel
theorem dX2_init_32 : decode cX2_init 32 = .ok (.aload_n 0, 1) := by decide +kernel
theorem dX2_init_33 : decode cX2_init 33 = .ok (.aload_n 3, 1) := by decide +kernel
theorem dX2_init_34 : decode cX2_init 34 = .ok (.putfield 31, 3) := by decide +kernel
theorem dX2_init_37 : decode cX2_init 37 = .ok (.iconst 0, 1) := by decide +kernel
theorem dX2_init_38 : decode cX2_init 38 = .ok (.istore 4, 2) := by decide +kernel
theorem dX2_init_40 : decode cX2_init 40 = .ok (.iload 4, 2) := by decide +kernel
theorem dX2_init_42 : decode cX2_init 42 = .ok (.bipush 8, 2) := by decide +kernel
theorem dX2_init_44 : decode cX2_init 44 = .ok (.if_icmp .ge 37, 3) := by decide +kernel
theorem dX2_init_47 : decode cX2_init 47 = .ok (.aload_n 0, 1) := by decide +kernel
theorem dX2_init_48 : decode cX2_init 48 = .ok (.getfield 11, 3) := by decide +kernel
theorem dX2_init_51 : decode cX2_init 51 = .ok (.iload 4, 2) := by decide +kernel
theorem dX2_init_53 : decode cX2_init 53 = .ok (.new 9, 3) := by decide +kernel
theorem dX2_init_56 : decode cX2_init 56 = .ok (.dup, 1) := by decide +kernel
theorem dX2_init_57 : decode cX2_init 57 = .ok (.invokespecial 35, 3) := by decide +kernel
theorem dX2_init_60 : decode cX2_init 60 = .ok (.aastore, 1) := by decide +kernel
theorem dX2_init_61 : decode cX2_init 61 = .ok (.aload_n 0, 1) := by decide +kernel
theorem dX2_init_62 : decode cX2_init 62 = .ok (.getfield 19, 3) := by decide +kernel
theorem dX2_init_65 : decode cX2_init 65 = .ok (.iload 4, 2) := by decide +kernel
theorem dX2_init_67 : decode cX2_init 67 = .ok (.new 17, 3) := by decide +kernel
theorem dX2_init_70 : decode cX2_init 70 = .ok (.dup, 1) := by decide +kernel
theorem dX2_init_71 : decode cX2_init 71 = .ok (.invokespecial 36, 3) := by decide +kernel
theorem dX2_init_74 : decode cX2_init 74 = .ok (.aastore, 1) := by decide +kernel
theorem dX2_init_75 : decode cX2_init 75 = .ok (.iinc 4 1, 3) := by decide +kernel
theorem dX2_init_78 : decode cX2_init 78 = .ok (.goto (-38), 3) := by decide +kernel
theorem dX2_init_81 : decode cX2_init 81 = .ok (.return_, 1) := by decide +kernel
theorem dX2_runForUser_0 : decode cX2_runForUser 0 = .ok (.bipush 8, 2) := by decide +kernel
theorem dX2_runForUser_2 : decode cX2_runForUser 2 = .ok (.iload_n 1, 1) := by decide +kernel
theorem dX2_runForUser_3 : decode cX2_runForUser 3 = .ok (.iadd, 1) := by decide +kernel
theorem dX2_runForUser_4 : decode cX2_runForUser 4 = .ok (.istore 7, 2) := by decide +kernel
theorem dX2_runForUser_6 : decode cX2_runForUser 6 = .ok (.aload_n 0, 1) := by decide +kernel
theorem dX2_runForUser_7 : decode cX2_runForUser 7 = .ok (.getfield 27, 3) := by decide +kernel
theorem dX2_runForUser_10 : decode cX2_runForUser 10 = .ok (.invokevirtual 39, 3) := by decide +kernel
theorem dX2_runForUser_13 : decode cX2_runForUser 13 = .ok (.aload_n 0, 1) := by decide +kernel
theorem dX2_runForUser_14 : decode cX2_runForUser 14 = .ok (.getfield 31, 3) := by decide +kernel
theorem dX2_runForUser_17 : decode cX2_runForUser 17 = .ok (.invokevirtual 42, 3) := by decide +kernel
theorem dX2_runForUser_20 : decode cX2_runForUser 20 = .ok (.aload_n 0, 1) := by decide +kernel
theorem dX2_runForUser_21 : decode cX2_runForUser 21 = .ok (.getfield 11, 3) := by decide +kernel
theorem dX2_runForUser_24 : decode cX2_runForUser 24 = .ok (.iconst 0, 1) := by decide +kernel
theorem dX2_runForUser_25 : decode cX2_runForUser 25 = .ok (.aaload, 1) := by decide +kernel
theorem dX2_runForUser_26 : decode cX2_runForUser 26 = .ok (.astore 8, 2) := by decide +kernel
theorem dX2_runForUser_28 : decode cX2_runForUser 28 = .ok (.aload 8, 2) := by decide +kernel
theorem dX2_runForUser_30 : decode cX2_runForUser 30 = .ok (.iload_n 2, 1) := by decide +kernel
theorem dX2_runForUser_31 : decode cX2_runForUser 31 = .ok (.iload_n 3, 1) := by decide +kernel
theorem dX2_runForUser_32 : decode cX2_runForUser 32 = .ok (.iload 4, 2) := by decide +kernel
theorem dX2_runForUser_34 : decode cX2_runForUser 34 = .ok (.iload 5, 2) := by decide +kernel
theorem dX2_runForUser_36 : decode cX2_runForUser 36 = .ok (.iload 6, 2) := by decide +kernel
theorem dX2_runForUser_38 : decode cX2_runForUser 38 = .ok (.invokevirtual 45, 3) := by decide +kernel
theorem dX2_runForUser_41 : decode cX2_runForUser 41 = .ok (.aload 8, 2) := by decide +kernel
theorem dX2_runForUser_43 : decode cX2_runForUser 43 = .ok (.bipush 100, 2) := by decide +kernel
theorem dX2_runForUser_45 : decode cX2_runForUser 45 = .ok (.iload_n 1, 1) := by decide +kernel
theorem dX2_runForUser_46 : decode cX2_runForUser 46 = .ok (.iadd, 1) := by decide +kernel
theorem dX2_runForUser_47 : decode cX2_runForUser 47 = .ok (.putfield 49, 3) := by decide +kernel
theorem dX2_runForUser_50 : decode cX2_runForUser 50 = .ok (.aload 8, 2) := by decide +kernel
theorem dX2_runForUser_52 : decode cX2_runForUser 52 = .ok (.iconst 0, 1) := by decide +kernel
theorem dX2_runForUser_53 : decode cX2_runForUser 53 = .ok (.putfield 53, 3) := by decide +kernel
theorem dX2_runForUser_56 : decode cX2_runForUser 56 = .ok (.aload_n 0, 1) := by decide +kernel
theorem dX2_runForUser_57 : decode cX2_runForUser 57 = .ok (.iload 7, 2) := by decide +kernel
theorem dX2_runForUser_59 : decode cX2_runForUser 59 = .ok (.iconst 1, 1) := by decide +kernel
theorem dX2_runForUser_60 : decode cX2_runForUser 60 = .ok (.invokevirtual 57, 3) := by decide +kernel
theorem dX2_runForUser_63 : decode cX2_runForUser 63 = .ok (.aload_n 0, 1) := by decide +kernel
theorem dX2_runForUser_64 : decode cX2_runForUser 64 = .ok (.getfield 27, 3) := by decide +kernel
theorem dX2_runForUser_67 : decode cX2_runForUser 67 = .ok (.getfield 61, 3) := by decide +kernel
theorem dX2_runForUser_70 : decode cX2_runForUser 70 = .ok (.aload 8, 2) := by decide +kernel
theorem dX2_runForUser_72 : decode cX2_runForUser 72 = .ok (.invokevirtual 64, 3) := by decide +kernel
theorem dX2_runForUser_75 : decode cX2_runForUser 75 = .ok (.iconst 2, 1) := by decide +kernel
theorem dX2_runForUser_76 : decode cX2_runForUser 76 = .ok (.idiv, 1) := by decide +kernel
theorem dX2_runForUser_77 : decode cX2_runForUser 77 = .ok (.invokestatic 68, 3) := by decide +kernel
theorem dX2_runForUser_80 : decode cX2_runForUser 80 = .ok (.istore 9, 2) := by decide +kernel
theorem dX2_runForUser_82 : decode cX2_runForUser 82 = .ok (.aload_n 0, 1) := by decide +kernel
theorem dX2_runForUser_83 : decode cX2_runForUser 83 = .ok (.getfield 27, 3) := by decide +kernel
theorem dX2_runForUser_86 : decode cX2_runForUser 86 = .ok (.iload 7, 2) := by decide +kernel
theorem dX2_runForUser_88 : decode cX2_runForUser 88 = .ok (.bipush 12, 2) := by decide +kernel
theorem dX2_runForUser_90 : decode cX2_runForUser 90 = .ok (.aload 8, 2) := by decide +kernel
theorem dX2_runForUser_92 : decode cX2_runForUser 92 = .ok (.invokevirtual 64, 3) := by decide +kernel
theorem dX2_runForUser_95 : decode cX2_runForUser 95 = .ok (.iload 9, 2) := by decide +kernel
theorem dX2_runForUser_97 : decode cX2_runForUser 97 = .ok (.isub, 1) := by decide +kernel
theorem dX2_runForUser_98 : decode cX2_runForUser 98 = .ok (.invokevirtual 74, 3) := by decide +kernel
theorem dX2_runForUser_101 : decode cX2_runForUser 101 = .ok (.aload_n 0, 1) := by decide +kernel
theorem dX2_runForUser_102 : decode cX2_runForUser 102 = .ok (.getfield 31, 3) := by decide +kernel
theorem dX2_runForUser_105 : decode cX2_runForUser 105 = .ok (.aload 8, 2) := by decide +kernel
theorem dX2_runForUser_107 : decode cX2_runForUser 107 = .ok (.iload 9, 2) := by decide +kernel
theorem dX2_runForUser_109 : decode cX2_runForUser 109 = .ok (.invokevirtual 78, 3) := by decide +kernel
theorem dX2_runForUser_112 : decode cX2_runForUser 112 = .ok (.return_, 1) := by decide +kernel
theorem dX2_runFrame_0 : decode cX2_runFrame 0 = .ok (.aload_n 0, 1) := by decide +kernel
theorem dX2_runFrame_1 : decode cX2_runFrame 1 = .ok (.getfield 11, 3) := by decide +kernel
theorem dX2_runFrame_4 : decode cX2_runFrame 4 = .ok (.iload_n 2, 1) := by decide +kernel
theorem dX2_runFrame_5 : decode cX2_runFrame 5 = .ok (.iconst 1, 1) := by decide +kernel
theorem dX2_runFrame_6 : decode cX2_runFrame 6 = .ok (.isub, 1) := by decide +kernel
theorem dX2_runFrame_7 : decode cX2_runFrame 7 = .ok (.aaload, 1) := by decide +kernel
theorem dX2_runFrame_8 : decode cX2_runFrame 8 = .ok (.astore_n 3, 1) := by decide +kernel
theorem dX2_runFrame_9 : decode cX2_runFrame 9 = .ok (.aload_n 0, 1) := by decide +kernel
theorem dX2_runFrame_10 : decode cX2_runFrame 10 = .ok (.getfield 23, 3) := by decide +kernel
theorem dX2_runFrame_13 : decode cX2_runFrame 13 = .ok (.aload_n 3, 1) := by decide +kernel
theorem dX2_runFrame_14 : decode cX2_runFrame 14 = .ok (.getfield 82, 3) := by decide +kernel
theorem dX2_runFrame_17 : decode cX2_runFrame 17 = .ok (.aload_n 3, 1) := by decide +kernel
theorem dX2_runFrame_18 : decode cX2_runFrame 18 = .ok (.getfield 85, 3) := by decide +kernel
theorem dX2_runFrame_21 : decode cX2_runFrame 21 = .ok (.invokevirtual 88, 3) := by decide +kernel
theorem dX2_runFrame_24 : decode cX2_runFrame 24 = .ok (.astore 4, 2) := by decide +kernel
theorem dX2_runFrame_26 : decode cX2_runFrame 26 = .ok (.aload_n 0, 1) := by decide +kernel
theorem dX2_runFrame_27 : decode cX2_runFrame 27 = .ok (.getfield 19, 3) := by decide +kernel
theorem dX2_runFrame_30 : decode cX2_runFrame 30 = .ok (.iload_n 2, 1) := by decide +kernel
theorem dX2_runFrame_31 : decode cX2_runFrame 31 = .ok (.iconst 1, 1) := by decide +kernel
theorem dX2_runFrame_32 : decode cX2_runFrame 32 = .ok (.isub, 1) := by decide +kernel
theorem dX2_runFrame_33 : decode cX2_runFrame 33 = .ok (.aaload, 1) := by decide +kernel
theorem dX2_runFrame_34 : decode cX2_runFrame 34 = .ok (.astore 5, 2) := by decide +kernel
theorem dX2_runFrame_36 : decode cX2_runFrame 36 = .ok (.aload_n 0, 1) := by decide +kernel
theorem dX2_runFrame_37 : decode cX2_runFrame 37 = .ok (.getfield 31, 3) := by decide +kernel
theorem dX2_runFrame_40 : decode cX2_runFrame 40 = .ok (.iload_n 2, 1) := by decide +kernel
theorem dX2_runFrame_41 : decode cX2_runFrame 41 = .ok (.invokevirtual 94, 3) := by decide +kernel
theorem dX2_runFrame_44 : decode cX2_runFrame 44 = .ok (.istore 6, 2) := by decide +kernel
theorem dX2_runFrame_46 : decode cX2_runFrame 46 = .ok (.aload 5, 2) := by decide +kernel
theorem dX2_runFrame_48 : decode cX2_runFrame 48 = .ok (.aload_n 0, 1) := by decide +kernel
theorem dX2_runFrame_49 : decode cX2_runFrame 49 = .ok (.getfield 27, 3) := by decide +kernel
theorem dX2_runFrame_52 : decode cX2_runFrame 52 = .ok (.invokevirtual 98, 3) := by decide +kernel
theorem dX2_runFrame_55 : decode cX2_runFrame 55 = .ok (.aload_n 0, 1) := by decide +kernel
theorem dX2_runFrame_56 : decode cX2_runFrame 56 = .ok (.getfield 27, 3) := by decide +kernel
theorem dX2_runFrame_59 : decode cX2_runFrame 59 = .ok (.iload_n 1, 1) := by decide +kernel
theorem dX2_runFrame_60 : decode cX2_runFrame 60 = .ok (.aload_n 3, 1) := by decide +kernel
theorem dX2_runFrame_61 : decode cX2_runFrame 61 = .ok (.getfield 82, 3) := by decide +kernel
theorem dX2_runFrame_64 : decode cX2_runFrame 64 = .ok (.aload_n 3, 1) := by decide +kernel
theorem dX2_runFrame_65 : decode cX2_runFrame 65 = .ok (.getfield 102, 3) := by decide +kernel
theorem dX2_runFrame_68 : decode cX2_runFrame 68 = .ok (.invokevirtual 74, 3) := by decide +kernel
theorem dX2_runFrame_71 : decode cX2_runFrame 71 = .ok (.iconst 0, 1) := by decide +kernel
theorem dX2_runFrame_72 : decode cX2_runFrame 72 = .ok (.istore 7, 2) := by decide +kernel
theorem dX2_runFrame_74 : decode cX2_runFrame 74 = .ok (.iload 7, 2) := by decide +kernel
theorem dX2_runFrame_76 : decode cX2_runFrame 76 = .ok (.sipush 1001, 3) := by decide +kernel
theorem dX2_runFrame_79 : decode cX2_runFrame 79 = .ok (.if_icmp .ge 80, 3) := by decide +kernel
theorem dX2_runFrame_82 : decode cX2_runFrame 82 = .ok (.aload_n 3, 1) := by decide +kernel
theorem dX2_runFrame_83 : decode cX2_runFrame 83 = .ok (.getfield 105, 3) := by decide +kernel
theorem dX2_runFrame_86 : decode cX2_runFrame 86 = .ok (.ifCond .ne 73, 3) := by decide +kernel
theorem dX2_runFrame_89 : decode cX2_runFrame 89 = .ok (.aload_n 3, 1) := by decide +kernel
theorem dX2_runFrame_90 : decode cX2_runFrame 90 = .ok (.getfield 108, 3) := by decide +kernel
theorem dX2_runFrame_93 : decode cX2_runFrame 93 = .ok (.aload 4, 2) := by decide +kernel
theorem dX2_runFrame_95 : decode cX2_runFrame 95 = .ok (.getfield 111, 3) := by decide +kernel
theorem dX2_runFrame_98 : decode cX2_runFrame 98 = .ok (.if_icmp .lt 11, 3) := by decide +kernel
theorem dX2_runFrame_101 : decode cX2_runFrame 101 = .ok (.aload_n 3, 1) := by decide +kernel
theorem dX2_runFrame_102 : decode cX2_runFrame 102 = .ok (.iconst 0, 1) := by decide +kernel
theorem dX2_runFrame_103 : decode cX2_runFrame 103 = .ok (.invokevirtual 116, 3) := by decide +kernel
theorem dX2_runFrame_106 : decode cX2_runFrame 106 = .ok (.goto 47, 3) := by decide +kernel
theorem dX2_runFrame_109 : decode cX2_runFrame 109 = .ok (.aload_n 3, 1) := by decide +kernel
theorem dX2_runFrame_110 : decode cX2_runFrame 110 = .ok (.getfield 120, 3) := by decide +kernel
theorem dX2_runFrame_113 : decode cX2_runFrame 113 = .ok (.ifCond .gt 12, 3) := by decide +kernel
theorem dX2_runFrame_116 : decode cX2_runFrame 116 = .ok (.aload_n 3, 1) := by decide +kernel
theorem dX2_runFrame_117 : decode cX2_runFrame 117 = .ok (.bipush 6, 2) := by decide +kernel
theorem dX2_runFrame_119 : decode cX2_runFrame 119 = .ok (.invokevirtual 125, 3) := by decide +kernel
theorem dX2_runFrame_122 : decode cX2_runFrame 122 = .ok (.goto 31, 3) := by decide +kernel
theorem dX2_runFrame_125 : decode cX2_runFrame 125 = .ok (.aload_n 3, 1) := by decide +kernel
theorem dX2_runFrame_126 : decode cX2_runFrame 126 = .ok (.dup, 1) := by decide +kernel
theorem dX2_runFrame_127 : decode cX2_runFrame 127 = .ok (.getfield 120, 3) := by decide +kernel
theorem dX2_runFrame_130 : decode cX2_runFrame 130 = .ok (.iconst 1, 1) := by decide +kernel
theorem dX2_runFrame_131 : decode cX2_runFrame 131 = .ok (.isub, 1) := by decide +kernel
theorem dX2_runFrame_132 : decode cX2_runFrame 132 = .ok (.putfield 120, 3) := by decide +kernel
theorem dX2_runFrame_135 : decode cX2_runFrame 135 = .ok (.aload_n 3, 1) := by decide +kernel
theorem dX2_runFrame_136 : decode cX2_runFrame 136 = .ok (.dup, 1) := by decide +kernel
theorem dX2_runFrame_137 : decode cX2_runFrame 137 = .ok (.getfield 108, 3) := by decide +kernel
theorem dX2_runFrame_140 : decode cX2_runFrame 140 = .ok (.iconst 1, 1) := by decide +kernel
theorem dX2_runFrame_141 : decode cX2_runFrame 141 = .ok (.iadd, 1) := by decide +kernel
theorem dX2_runFrame_142 : decode cX2_runFrame 142 = .ok (.putfield 108, 3) := by decide +kernel
theorem dX2_runFrame_145 : decode cX2_runFrame 145 = .ok (.aload_n 0, 1) := by decide +kernel
theorem dX2_runFrame_146 : decode cX2_runFrame 146 = .ok (.aload_n 3, 1) := by decide +kernel
theorem dX2_runFrame_147 : decode cX2_runFrame 147 = .ok (.aload 4, 2) := by decide +kernel
theorem dX2_runFrame_149 : decode cX2_runFrame 149 = .ok (.iload_n 2, 1) := by decide +kernel
theorem dX2_runFrame_150 : decode cX2_runFrame 150 = .ok (.invokevirtual 128, 3) := by decide +kernel
theorem dX2_runFrame_153 : decode cX2_runFrame 153 = .ok (.iinc 7 1, 3) := by decide +kernel
theorem dX2_runFrame_156 : decode cX2_runFrame 156 = .ok (.goto (-82), 3) := by decide +kernel
theorem dX2_runFrame_159 : decode cX2_runFrame 159 = .ok (.aload_n 3, 1) := by decide +kernel
theorem dX2_runFrame_160 : decode cX2_runFrame 160 = .ok (.invokevirtual 132, 3) := by decide +kernel
theorem dX2_runFrame_163 : decode cX2_runFrame 163 = .ok (.ifCond .eq 12, 3) := by decide +kernel
theorem dX2_runFrame_166 : decode cX2_runFrame 166 = .ok (.aload 5, 2) := by decide +kernel
theorem dX2_runFrame_168 : decode cX2_runFrame 168 = .ok (.aload_n 0, 1) := by decide +kernel
theorem dX2_runFrame_169 : decode cX2_runFrame 169 = .ok (.getfield 27, 3) := by decide +kernel
theorem dX2_runFrame_172 : decode cX2_runFrame 172 = .ok (.invokevirtual 136, 3) := by decide +kernel
theorem dX2_runFrame_175 : decode cX2_runFrame 175 = .ok (.aload_n 0, 1) := by decide +kernel
theorem dX2_runFrame_176 : decode cX2_runFrame 176 = .ok (.getfield 31, 3) := by decide +kernel
theorem dX2_runFrame_179 : decode cX2_runFrame 179 = .ok (.iload 6, 2) := by decide +kernel
theorem dX2_runFrame_181 : decode cX2_runFrame 181 = .ok (.aload_n 3, 1) := by decide +kernel
theorem dX2_runFrame_182 : decode cX2_runFrame 182 = .ok (.iload_n 2, 1) := by decide +kernel
theorem dX2_runFrame_183 : decode cX2_runFrame 183 = .ok (.invokevirtual 139, 3) := by decide +kernel
theorem dX2_runFrame_186 : decode cX2_runFrame 186 = .ok (.return_, 1) := by decide +kernel
theorem dX2_doStep_0 : decode cX2_doStep 0 = .ok (.aload_n 1, 1) := by decide +kernel
theorem dX2_doStep_1 : decode cX2_doStep 1 = .ok (.getfield 108, 3) := by decide +kernel
theorem dX2_doStep_4 : decode cX2_doStep 4 = .ok (.iconst 1, 1) := by decide +kernel
theorem dX2_doStep_5 : decode cX2_doStep 5 = .ok (.isub, 1) := by decide +kernel
theorem dX2_doStep_6 : decode cX2_doStep 6 = .ok (.istore 4, 2) := by decide +kernel
theorem dX2_doStep_8 : decode cX2_doStep 8 = .ok (.aload_n 2, 1) := by decide +kernel
theorem dX2_doStep_9 : decode cX2_doStep 9 = .ok (.getfield 143, 3) := by decide +kernel
theorem dX2_doStep_12 : decode cX2_doStep 12 = .ok (.iload 4, 2) := by decide +kernel
theorem dX2_doStep_14 : decode cX2_doStep 14 = .ok (.iaload, 1) := by decide +kernel
theorem dX2_doStep_15 : decode cX2_doStep 15 = .ok (.istore 5, 2) := by decide +kernel
theorem dX2_doStep_17 : decode cX2_doStep 17 = .ok (.aload_n 2, 1) := by decide +kernel
theorem dX2_doStep_18 : decode cX2_doStep 18 = .ok (.getfield 147, 3) := by decide +kernel
theorem dX2_doStep_21 : decode cX2_doStep 21 = .ok (.iload 4, 2) := by decide +kernel
theorem dX2_doStep_23 : decode cX2_doStep 23 = .ok (.iaload, 1) := by decide +kernel
theorem dX2_doStep_24 : decode cX2_doStep 24 = .ok (.istore 6, 2) := by decide +kernel
theorem dX2_doStep_26 : decode cX2_doStep 26 = .ok (.iload 5, 2) := by decide +kernel
theorem dX2_doStep_28 : decode cX2_doStep 28 = .ok (.aload_n 1, 1) := by decide +kernel
theorem dX2_doStep_29 : decode cX2_doStep 29 = .ok (.getfield 150, 3) := by decide +kernel
theorem dX2_doStep_32 : decode cX2_doStep 32 = .ok (.invokestatic 153, 3) := by decide +kernel
theorem dX2_doStep_35 : decode cX2_doStep 35 = .ok (.ifCond .ne 12, 3) := by decide +kernel
theorem dX2_doStep_38 : decode cX2_doStep 38 = .ok (.aload_n 1, 1) := by decide +kernel
theorem dX2_doStep_39 : decode cX2_doStep 39 = .ok (.bipush 8, 2) := by decide +kernel
theorem dX2_doStep_41 : decode cX2_doStep 41 = .ok (.invokevirtual 125, 3) := by decide +kernel
theorem dX2_doStep_44 : decode cX2_doStep 44 = .ok (.goto 141, 3) := by decide +kernel
theorem dX2_doStep_47 : decode cX2_doStep 47 = .ok (.aload_n 1, 1) := by decide +kernel
theorem dX2_doStep_48 : decode cX2_doStep 48 = .ok (.getfield 53, 3) := by decide +kernel
theorem dX2_doStep_51 : decode cX2_doStep 51 = .ok (.ifCond .eq 19, 3) := by decide +kernel
theorem dX2_doStep_54 : decode cX2_doStep 54 = .ok (.iload 5, 2) := by decide +kernel
theorem dX2_doStep_56 : decode cX2_doStep 56 = .ok (.invokestatic 159, 3) := by decide +kernel
theorem dX2_doStep_59 : decode cX2_doStep 59 = .ok (.ifCond .eq 11, 3) := by decide +kernel
theorem dX2_doStep_62 : decode cX2_doStep 62 = .ok (.aload_n 1, 1) := by decide +kernel
theorem dX2_doStep_63 : decode cX2_doStep 63 = .ok (.iconst 2, 1) := by decide +kernel
theorem dX2_doStep_64 : decode cX2_doStep 64 = .ok (.invokevirtual 125, 3) := by decide +kernel
theorem dX2_doStep_67 : decode cX2_doStep 67 = .ok (.goto 118, 3) := by decide +kernel
theorem dX2_doStep_70 : decode cX2_doStep 70 = .ok (.iload 5, 2) := by decide +kernel
theorem dX2_doStep_72 : decode cX2_doStep 72 = .ok (.bipush 6, 2) := by decide +kernel
theorem dX2_doStep_74 : decode cX2_doStep 74 = .ok (.if_icmp .gt 19, 3) := by decide +kernel
theorem dX2_doStep_77 : decode cX2_doStep 77 = .ok (.aload_n 1, 1) := by decide +kernel
theorem dX2_doStep_78 : decode cX2_doStep 78 = .ok (.aload_n 0, 1) := by decide +kernel
theorem dX2_doStep_79 : decode cX2_doStep 79 = .ok (.aload_n 1, 1) := by decide +kernel
theorem dX2_doStep_80 : decode cX2_doStep 80 = .ok (.iload 5, 2) := by decide +kernel
theorem dX2_doStep_82 : decode cX2_doStep 82 = .ok (.iload 6, 2) := by decide +kernel
theorem dX2_doStep_84 : decode cX2_doStep 84 = .ok (.invokevirtual 163, 3) := by decide +kernel
theorem dX2_doStep_87 : decode cX2_doStep 87 = .ok (.invokevirtual 167, 3) := by decide +kernel
theorem dX2_doStep_90 : decode cX2_doStep 90 = .ok (.goto 95, 3) := by decide +kernel
theorem dX2_doStep_93 : decode cX2_doStep 93 = .ok (.iload 5, 2) := by decide +kernel
theorem dX2_doStep_95 : decode cX2_doStep 95 = .ok (.bipush 8, 2) := by decide +kernel
theorem dX2_doStep_97 : decode cX2_doStep 97 = .ok (.if_icmp .lt 19, 3) := by decide +kernel
theorem dX2_doStep_100 : decode cX2_doStep 100 = .ok (.iload 5, 2) := by decide +kernel
theorem dX2_doStep_102 : decode cX2_doStep 102 = .ok (.bipush 13, 2) := by decide +kernel
theorem dX2_doStep_104 : decode cX2_doStep 104 = .ok (.if_icmp .gt 12, 3) := by decide +kernel
theorem dX2_doStep_107 : decode cX2_doStep 107 = .ok (.aload_n 1, 1) := by decide +kernel
theorem dX2_doStep_108 : decode cX2_doStep 108 = .ok (.iload 5, 2) := by decide +kernel
theorem dX2_doStep_110 : decode cX2_doStep 110 = .ok (.invokestatic 170, 3) := by decide +kernel
theorem dX2_doStep_113 : decode cX2_doStep 113 = .ok (.goto 72, 3) := by decide +kernel
theorem dX2_doStep_116 : decode cX2_doStep 116 = .ok (.iload 5, 2) := by decide +kernel
theorem dX2_doStep_118 : decode cX2_doStep 118 = .ok (.bipush 14, 2) := by decide +kernel
theorem dX2_doStep_120 : decode cX2_doStep 120 = .ok (.if_icmp .lt 21, 3) := by decide +kernel
theorem dX2_doStep_123 : decode cX2_doStep 123 = .ok (.iload 5, 2) := by decide +kernel
theorem dX2_doStep_125 : decode cX2_doStep 125 = .ok (.bipush 18, 2) := by decide +kernel
theorem dX2_doStep_127 : decode cX2_doStep 127 = .ok (.if_icmp .gt 14, 3) := by decide +kernel
theorem dX2_doStep_130 : decode cX2_doStep 130 = .ok (.aload_n 1, 1) := by decide +kernel
theorem dX2_doStep_131 : decode cX2_doStep 131 = .ok (.iload 5, 2) := by decide +kernel
theorem dX2_doStep_133 : decode cX2_doStep 133 = .ok (.iload 6, 2) := by decide +kernel
theorem dX2_doStep_135 : decode cX2_doStep 135 = .ok (.invokestatic 173, 3) := by decide +kernel
theorem dX2_doStep_138 : decode cX2_doStep 138 = .ok (.goto 47, 3) := by decide +kernel
theorem dX2_doStep_141 : decode cX2_doStep 141 = .ok (.iload 5, 2) := by decide +kernel
theorem dX2_doStep_143 : decode cX2_doStep 143 = .ok (.bipush 19, 2) := by decide +kernel
theorem dX2_doStep_145 : decode cX2_doStep 145 = .ok (.if_icmp .lt 30, 3) := by decide +kernel
theorem dX2_doStep_148 : decode cX2_doStep 148 = .ok (.iload 5, 2) := by decide +kernel
theorem dX2_doStep_150 : decode cX2_doStep 150 = .ok (.bipush 21, 2) := by decide +kernel
theorem dX2_doStep_152 : decode cX2_doStep 152 = .ok (.if_icmp .gt 23, 3) := by decide +kernel
theorem dX2_doStep_155 : decode cX2_doStep 155 = .ok (.aload_n 0, 1) := by decide +kernel
theorem dX2_doStep_156 : decode cX2_doStep 156 = .ok (.aload_n 1, 1) := by decide +kernel
theorem dX2_doStep_157 : decode cX2_doStep 157 = .ok (.iload 5, 2) := by decide +kernel
theorem dX2_doStep_159 : decode cX2_doStep 159 = .ok (.iload 6, 2) := by decide +kernel
theorem dX2_doStep_161 : decode cX2_doStep 161 = .ok (.aload_n 2, 1) := by decide +kernel
theorem dX2_doStep_162 : decode cX2_doStep 162 = .ok (.getfield 177, 3) := by decide +kernel
theorem dX2_doStep_165 : decode cX2_doStep 165 = .ok (.iload 4, 2) := by decide +kernel
theorem dX2_doStep_167 : decode cX2_doStep 167 = .ok (.iaload, 1) := by decide +kernel
theorem dX2_doStep_168 : decode cX2_doStep 168 = .ok (.iload_n 3, 1) := by decide +kernel
theorem dX2_doStep_169 : decode cX2_doStep 169 = .ok (.invokevirtual 180, 3) := by decide +kernel
theorem dX2_doStep_172 : decode cX2_doStep 172 = .ok (.goto 13, 3) := by decide +kernel
theorem dX2_doStep_175 : decode cX2_doStep 175 = .ok (.aload_n 0, 1) := by decide +kernel
theorem dX2_doStep_176 : decode cX2_doStep 176 = .ok (.aload_n 1, 1) := by decide +kernel
theorem dX2_doStep_177 : decode cX2_doStep 177 = .ok (.iload 5, 2) := by decide +kernel
theorem dX2_doStep_179 : decode cX2_doStep 179 = .ok (.iload 6, 2) := by decide +kernel
theorem dX2_doStep_181 : decode cX2_doStep 181 = .ok (.iload_n 3, 1) := by decide +kernel
theorem dX2_doStep_182 : decode cX2_doStep 182 = .ok (.invokevirtual 184, 3) := by decide +kernel
theorem dX2_doStep_185 : decode cX2_doStep 185 = .ok (.return_, 1) := by decide +kernel
theorem dX2_numberFor_0 : decode cX2_numberFor 0 = .ok (.iload_n 2, 1) := by decide +kernel
theorem dX2_numberFor_1 : decode cX2_numberFor 1 = .ok (.tableswitch 90 1 6 #[39, 44, 49, 54, 67, 72], 39) := by decide +kernel
theorem dX2_numberFor_40 : decode cX2_numberFor 40 = .ok (.aload_n 1, 1) := by decide +kernel
theorem dX2_numberFor_41 : decode cX2_numberFor 41 = .ok (.getfield 188, 3) := by decide +kernel
theorem dX2_numberFor_44 : decode cX2_numberFor 44 = .ok (.ireturn, 1) := by decide +kernel
theorem dX2_numberFor_45 : decode cX2_numberFor 45 = .ok (.aload_n 1, 1) := by decide +kernel
theorem dX2_numberFor_46 : decode cX2_numberFor 46 = .ok (.getfield 102, 3) := by decide +kernel
theorem dX2_numberFor_49 : decode cX2_numberFor 49 = .ok (.ireturn, 1) := by decide +kernel
theorem dX2_numberFor_50 : decode cX2_numberFor 50 = .ok (.aload_n 1, 1) := by decide +kernel
theorem dX2_numberFor_51 : decode cX2_numberFor 51 = .ok (.getfield 49, 3) := by decide +kernel
theorem dX2_numberFor_54 : decode cX2_numberFor 54 = .ok (.ireturn, 1) := by decide +kernel
theorem dX2_numberFor_55 : decode cX2_numberFor 55 = .ok (.aload_n 0, 1) := by decide +kernel
theorem dX2_numberFor_56 : decode cX2_numberFor 56 = .ok (.getfield 27, 3) := by decide +kernel
theorem dX2_numberFor_59 : decode cX2_numberFor 59 = .ok (.getfield 191, 3) := by decide +kernel
theorem dX2_numberFor_62 : decode cX2_numberFor 62 = .ok (.aload_n 1, 1) := by decide +kernel
theorem dX2_numberFor_63 : decode cX2_numberFor 63 = .ok (.getfield 82, 3) := by decide +kernel
theorem dX2_numberFor_66 : decode cX2_numberFor 66 = .ok (.iaload, 1) := by decide +kernel
theorem dX2_numberFor_67 : decode cX2_numberFor 67 = .ok (.ireturn, 1) := by decide +kernel
theorem dX2_numberFor_68 : decode cX2_numberFor 68 = .ok (.aload_n 1, 1) := by decide +kernel
theorem dX2_numberFor_69 : decode cX2_numberFor 69 = .ok (.getfield 82, 3) := by decide +kernel
theorem dX2_numberFor_72 : decode cX2_numberFor 72 = .ok (.ireturn, 1) := by decide +kernel
theorem dX2_numberFor_73 : decode cX2_numberFor 73 = .ok (.aload_n 0, 1) := by decide +kernel
theorem dX2_numberFor_74 : decode cX2_numberFor 74 = .ok (.getfield 27, 3) := by decide +kernel
theorem dX2_numberFor_77 : decode cX2_numberFor 77 = .ok (.getfield 194, 3) := by decide +kernel
theorem dX2_numberFor_80 : decode cX2_numberFor 80 = .ok (.aload_n 1, 1) := by decide +kernel
theorem dX2_numberFor_81 : decode cX2_numberFor 81 = .ok (.getfield 82, 3) := by decide +kernel
theorem dX2_numberFor_84 : decode cX2_numberFor 84 = .ok (.bipush 8, 2) := by decide +kernel
theorem dX2_numberFor_86 : decode cX2_numberFor 86 = .ok (.imul, 1) := by decide +kernel
theorem dX2_numberFor_87 : decode cX2_numberFor 87 = .ok (.iload_n 3, 1) := by decide +kernel
theorem dX2_numberFor_88 : decode cX2_numberFor 88 = .ok (.iadd, 1) := by decide +kernel
theorem dX2_numberFor_89 : decode cX2_numberFor 89 = .ok (.iaload, 1) := by decide +kernel
theorem dX2_numberFor_90 : decode cX2_numberFor 90 = .ok (.ireturn, 1) := by decide +kernel
theorem dX2_numberFor_91 : decode cX2_numberFor 91 = .ok (.iload_n 3, 1) := by decide +kernel
theorem dX2_numberFor_92 : decode cX2_numberFor 92 = .ok (.ireturn, 1) := by decide +kernel
theorem dX2_combine_0 : decode cX2_combine 0 = .ok (.aload_n 0, 1) := by decide +kernel
theorem dX2_combine_1 : decode cX2_combine 1 = .ok (.invokevirtual 197, 3) := by decide +kernel
theorem dX2_combine_4 : decode cX2_combine 4 = .ok (.istore_n 2, 1) := by decide +kernel
theorem dX2_combine_5 : decode cX2_combine 5 = .ok (.aload_n 0, 1) := by decide +kernel
theorem dX2_combine_6 : decode cX2_combine 6 = .ok (.invokevirtual 197, 3) := by decide +kernel
theorem dX2_combine_9 : decode cX2_combine 9 = .ok (.istore_n 3, 1) := by decide +kernel
theorem dX2_combine_10 : decode cX2_combine 10 = .ok (.iload_n 1, 1) := by decide +kernel
theorem dX2_combine_11 : decode cX2_combine 11 = .ok (.bipush 11, 2) := by decide +kernel
theorem dX2_combine_13 : decode cX2_combine 13 = .ok (.if_icmp .ne 12, 3) := by decide +kernel
theorem dX2_combine_16 : decode cX2_combine 16 = .ok (.aload_n 0, 1) := by decide +kernel
theorem dX2_combine_17 : decode cX2_combine 17 = .ok (.iload_n 3, 1) := by decide +kernel
theorem dX2_combine_18 : decode cX2_combine 18 = .ok (.iload_n 2, 1) := by decide +kernel
theorem dX2_combine_19 : decode cX2_combine 19 = .ok (.invokestatic 200, 3) := by decide +kernel
theorem dX2_combine_22 : decode cX2_combine 22 = .ok (.goto 13, 3) := by decide +kernel
theorem dX2_combine_25 : decode cX2_combine 25 = .ok (.aload_n 0, 1) := by decide +kernel
theorem dX2_combine_26 : decode cX2_combine 26 = .ok (.iload_n 1, 1) := by decide +kernel
theorem dX2_combine_27 : decode cX2_combine 27 = .ok (.iload_n 3, 1) := by decide +kernel
theorem dX2_combine_28 : decode cX2_combine 28 = .ok (.iload_n 2, 1) := by decide +kernel
theorem dX2_combine_29 : decode cX2_combine 29 = .ok (.invokestatic 203, 3) := by decide +kernel
theorem dX2_combine_32 : decode cX2_combine 32 = .ok (.invokevirtual 167, 3) := by decide +kernel
theorem dX2_combine_35 : decode cX2_combine 35 = .ok (.return_, 1) := by decide +kernel
theorem dX2_divide_0 : decode cX2_divide 0 = .ok (.iload_n 2, 1) := by decide +kernel
theorem dX2_divide_1 : decode cX2_divide 1 = .ok (.ifCond .ne 11, 3) := by decide +kernel
theorem dX2_divide_4 : decode cX2_divide 4 = .ok (.aload_n 0, 1) := by decide +kernel
theorem dX2_divide_5 : decode cX2_divide 5 = .ok (.iconst 3, 1) := by decide +kernel
theorem dX2_divide_6 : decode cX2_divide 6 = .ok (.invokevirtual 125, 3) := by decide +kernel
theorem dX2_divide_9 : decode cX2_divide 9 = .ok (.goto 10, 3) := by decide +kernel
theorem dX2_divide_12 : decode cX2_divide 12 = .ok (.aload_n 0, 1) := by decide +kernel
theorem dX2_divide_13 : decode cX2_divide 13 = .ok (.iload_n 1, 1) := by decide +kernel
theorem dX2_divide_14 : decode cX2_divide 14 = .ok (.iload_n 2, 1) := by decide +kernel
theorem dX2_divide_15 : decode cX2_divide 15 = .ok (.idiv, 1) := by decide +kernel
theorem dX2_divide_16 : decode cX2_divide 16 = .ok (.invokevirtual 167, 3) := by decide +kernel
theorem dX2_divide_19 : decode cX2_divide 19 = .ok (.return_, 1) := by decide +kernel
theorem dX2_combined_0 : decode cX2_combined 0 = .ok (.iload_n 0, 1) := by decide +kernel
theorem dX2_combined_1 : decode cX2_combined 1 = .ok (.tableswitch 58 8 12 #[35, 39, 43, 58, 47], 35) := by decide +kernel
theorem dX2_combined_36 : decode cX2_combined 36 = .ok (.iload_n 1, 1) := by decide +kernel
theorem dX2_combined_37 : decode cX2_combined 37 = .ok (.iload_n 2, 1) := by decide +kernel
theorem dX2_combined_38 : decode cX2_combined 38 = .ok (.iadd, 1) := by decide +kernel
theorem dX2_combined_39 : decode cX2_combined 39 = .ok (.ireturn, 1) := by decide +kernel
theorem dX2_combined_40 : decode cX2_combined 40 = .ok (.iload_n 1, 1) := by decide +kernel
theorem dX2_combined_41 : decode cX2_combined 41 = .ok (.iload_n 2, 1) := by decide +kernel
theorem dX2_combined_42 : decode cX2_combined 42 = .ok (.isub, 1) := by decide +kernel
theorem dX2_combined_43 : decode cX2_combined 43 = .ok (.ireturn, 1) := by decide +kernel
theorem dX2_combined_44 : decode cX2_combined 44 = .ok (.iload_n 1, 1) := by decide +kernel
theorem dX2_combined_45 : decode cX2_combined 45 = .ok (.iload_n 2, 1) := by decide +kernel
theorem dX2_combined_46 : decode cX2_combined 46 = .ok (.imul, 1) := by decide +kernel
theorem dX2_combined_47 : decode cX2_combined 47 = .ok (.ireturn, 1) := by decide +kernel
theorem dX2_combined_48 : decode cX2_combined 48 = .ok (.iload_n 1, 1) := by decide +kernel
theorem dX2_combined_49 : decode cX2_combined 49 = .ok (.iload_n 2, 1) := by decide +kernel
theorem dX2_combined_50 : decode cX2_combined 50 = .ok (.if_icmp .ge 7, 3) := by decide +kernel
theorem dX2_combined_53 : decode cX2_combined 53 = .ok (.iconst 1, 1) := by decide +kernel
theorem dX2_combined_54 : decode cX2_combined 54 = .ok (.goto 4, 3) := by decide +kernel
theorem dX2_combined_57 : decode cX2_combined 57 = .ok (.iconst 0, 1) := by decide +kernel
theorem dX2_combined_58 : decode cX2_combined 58 = .ok (.ireturn, 1) := by decide +kernel
theorem dX2_combined_59 : decode cX2_combined 59 = .ok (.iload_n 1, 1) := by decide +kernel
theorem dX2_combined_60 : decode cX2_combined 60 = .ok (.iload_n 2, 1) := by decide +kernel
theorem dX2_combined_61 : decode cX2_combined 61 = .ok (.if_icmp .ne 7, 3) := by decide +kernel
theorem dX2_combined_64 : decode cX2_combined 64 = .ok (.iconst 1, 1) := by decide +kernel
theorem dX2_combined_65 : decode cX2_combined 65 = .ok (.goto 4, 3) := by decide +kernel
theorem dX2_combined_68 : decode cX2_combined 68 = .ok (.iconst 0, 1) := by decide +kernel
theorem dX2_combined_69 : decode cX2_combined 69 = .ok (.ireturn, 1) := by decide +kernel
theorem dX2_arrange_0 : decode cX2_arrange 0 = .ok (.aload_n 0, 1) := by decide +kernel
theorem dX2_arrange_1 : decode cX2_arrange 1 = .ok (.invokevirtual 197, 3) := by decide +kernel
theorem dX2_arrange_4 : decode cX2_arrange 4 = .ok (.istore_n 3, 1) := by decide +kernel
theorem dX2_arrange_5 : decode cX2_arrange 5 = .ok (.iload_n 1, 1) := by decide +kernel
theorem dX2_arrange_6 : decode cX2_arrange 6 = .ok (.bipush 14, 2) := by decide +kernel
theorem dX2_arrange_8 : decode cX2_arrange 8 = .ok (.if_icmp .ne 20, 3) := by decide +kernel
theorem dX2_arrange_11 : decode cX2_arrange 11 = .ok (.iload_n 3, 1) := by decide +kernel
theorem dX2_arrange_12 : decode cX2_arrange 12 = .ok (.ifCond .ne 16, 3) := by decide +kernel
theorem dX2_arrange_15 : decode cX2_arrange 15 = .ok (.aload_n 0, 1) := by decide +kernel
theorem dX2_arrange_16 : decode cX2_arrange 16 = .ok (.dup, 1) := by decide +kernel
theorem dX2_arrange_17 : decode cX2_arrange 17 = .ok (.getfield 108, 3) := by decide +kernel
theorem dX2_arrange_20 : decode cX2_arrange 20 = .ok (.iload_n 2, 1) := by decide +kernel
theorem dX2_arrange_21 : decode cX2_arrange 21 = .ok (.iadd, 1) := by decide +kernel
theorem dX2_arrange_22 : decode cX2_arrange 22 = .ok (.putfield 108, 3) := by decide +kernel
theorem dX2_arrange_25 : decode cX2_arrange 25 = .ok (.goto 74, 3) := by decide +kernel
theorem dX2_arrange_28 : decode cX2_arrange 28 = .ok (.iload_n 1, 1) := by decide +kernel
theorem dX2_arrange_29 : decode cX2_arrange 29 = .ok (.bipush 15, 2) := by decide +kernel
theorem dX2_arrange_31 : decode cX2_arrange 31 = .ok (.if_icmp .ne 26, 3) := by decide +kernel
theorem dX2_arrange_34 : decode cX2_arrange 34 = .ok (.iload_n 3, 1) := by decide +kernel
theorem dX2_arrange_35 : decode cX2_arrange 35 = .ok (.ifCond .eq 22, 3) := by decide +kernel
theorem dX2_arrange_38 : decode cX2_arrange 38 = .ok (.aload_n 0, 1) := by decide +kernel
theorem dX2_arrange_39 : decode cX2_arrange 39 = .ok (.iconst 0, 1) := by decide +kernel
theorem dX2_arrange_40 : decode cX2_arrange 40 = .ok (.aload_n 0, 1) := by decide +kernel
theorem dX2_arrange_41 : decode cX2_arrange 41 = .ok (.getfield 108, 3) := by decide +kernel
theorem dX2_arrange_44 : decode cX2_arrange 44 = .ok (.iconst 1, 1) := by decide +kernel
theorem dX2_arrange_45 : decode cX2_arrange 45 = .ok (.isub, 1) := by decide +kernel
theorem dX2_arrange_46 : decode cX2_arrange 46 = .ok (.iload_n 2, 1) := by decide +kernel
theorem dX2_arrange_47 : decode cX2_arrange 47 = .ok (.isub, 1) := by decide +kernel
theorem dX2_arrange_48 : decode cX2_arrange 48 = .ok (.invokestatic 207, 3) := by decide +kernel
theorem dX2_arrange_51 : decode cX2_arrange 51 = .ok (.putfield 108, 3) := by decide +kernel
theorem dX2_arrange_54 : decode cX2_arrange 54 = .ok (.goto 45, 3) := by decide +kernel
theorem dX2_arrange_57 : decode cX2_arrange 57 = .ok (.iload_n 1, 1) := by decide +kernel
theorem dX2_arrange_58 : decode cX2_arrange 58 = .ok (.bipush 16, 2) := by decide +kernel
theorem dX2_arrange_60 : decode cX2_arrange 60 = .ok (.if_icmp .ne 16, 3) := by decide +kernel
theorem dX2_arrange_63 : decode cX2_arrange 63 = .ok (.aload_n 0, 1) := by decide +kernel
theorem dX2_arrange_64 : decode cX2_arrange 64 = .ok (.iload_n 3, 1) := by decide +kernel
theorem dX2_arrange_65 : decode cX2_arrange 65 = .ok (.invokevirtual 167, 3) := by decide +kernel
theorem dX2_arrange_68 : decode cX2_arrange 68 = .ok (.aload_n 0, 1) := by decide +kernel
theorem dX2_arrange_69 : decode cX2_arrange 69 = .ok (.iload_n 3, 1) := by decide +kernel
theorem dX2_arrange_70 : decode cX2_arrange 70 = .ok (.invokevirtual 167, 3) := by decide +kernel
theorem dX2_arrange_73 : decode cX2_arrange 73 = .ok (.goto 26, 3) := by decide +kernel
theorem dX2_arrange_76 : decode cX2_arrange 76 = .ok (.iload_n 1, 1) := by decide +kernel
theorem dX2_arrange_77 : decode cX2_arrange 77 = .ok (.bipush 18, 2) := by decide +kernel
theorem dX2_arrange_79 : decode cX2_arrange 79 = .ok (.if_icmp .ne 20, 3) := by decide +kernel
theorem dX2_arrange_82 : decode cX2_arrange 82 = .ok (.aload_n 0, 1) := by decide +kernel
theorem dX2_arrange_83 : decode cX2_arrange 83 = .ok (.invokevirtual 197, 3) := by decide +kernel
theorem dX2_arrange_86 : decode cX2_arrange 86 = .ok (.istore 4, 2) := by decide +kernel
theorem dX2_arrange_88 : decode cX2_arrange 88 = .ok (.aload_n 0, 1) := by decide +kernel
theorem dX2_arrange_89 : decode cX2_arrange 89 = .ok (.iload_n 3, 1) := by decide +kernel
theorem dX2_arrange_90 : decode cX2_arrange 90 = .ok (.invokevirtual 167, 3) := by decide +kernel
theorem dX2_arrange_93 : decode cX2_arrange 93 = .ok (.aload_n 0, 1) := by decide +kernel
theorem dX2_arrange_94 : decode cX2_arrange 94 = .ok (.iload 4, 2) := by decide +kernel
theorem dX2_arrange_96 : decode cX2_arrange 96 = .ok (.invokevirtual 167, 3) := by decide +kernel
theorem dX2_arrange_99 : decode cX2_arrange 99 = .ok (.return_, 1) := by decide +kernel
theorem dX2_act_0 : decode cX2_act 0 = .ok (.iload_n 2, 1) := by decide +kernel
theorem dX2_act_1 : decode cX2_act 1 = .ok (.bipush 25, 2) := by decide +kernel
theorem dX2_act_3 : decode cX2_act 3 = .ok (.if_icmp .ne 9, 3) := by decide +kernel
theorem dX2_act_6 : decode cX2_act 6 = .ok (.aload_n 1, 1) := by decide +kernel
theorem dX2_act_7 : decode cX2_act 7 = .ok (.iload_n 3, 1) := by decide +kernel
theorem dX2_act_8 : decode cX2_act 8 = .ok (.invokevirtual 125, 3) := by decide +kernel
theorem dX2_act_11 : decode cX2_act 11 = .ok (.return_, 1) := by decide +kernel
theorem dX2_act_12 : decode cX2_act 12 = .ok (.aload_n 1, 1) := by decide +kernel
theorem dX2_act_13 : decode cX2_act 13 = .ok (.invokevirtual 197, 3) := by decide +kernel
theorem dX2_act_16 : decode cX2_act 16 = .ok (.istore 5, 2) := by decide +kernel
theorem dX2_act_18 : decode cX2_act 18 = .ok (.iload_n 2, 1) := by decide +kernel
theorem dX2_act_19 : decode cX2_act 19 = .ok (.bipush 7, 2) := by decide +kernel
theorem dX2_act_21 : decode cX2_act 21 = .ok (.if_icmp .ne 20, 3) := by decide +kernel
theorem dX2_act_24 : decode cX2_act 24 = .ok (.aload_n 0, 1) := by decide +kernel
theorem dX2_act_25 : decode cX2_act 25 = .ok (.getfield 27, 3) := by decide +kernel
theorem dX2_act_28 : decode cX2_act 28 = .ok (.aload_n 1, 1) := by decide +kernel
theorem dX2_act_29 : decode cX2_act 29 = .ok (.getfield 82, 3) := by decide +kernel
theorem dX2_act_32 : decode cX2_act 32 = .ok (.iload_n 3, 1) := by decide +kernel
theorem dX2_act_33 : decode cX2_act 33 = .ok (.iload 5, 2) := by decide +kernel
theorem dX2_act_35 : decode cX2_act 35 = .ok (.invokevirtual 210, 3) := by decide +kernel
theorem dX2_act_38 : decode cX2_act 38 = .ok (.goto 45, 3) := by decide +kernel
theorem dX2_act_41 : decode cX2_act 41 = .ok (.iload_n 2, 1) := by decide +kernel
theorem dX2_act_42 : decode cX2_act 42 = .ok (.bipush 22, 2) := by decide +kernel
theorem dX2_act_44 : decode cX2_act 44 = .ok (.if_icmp .ne 16, 3) := by decide +kernel
theorem dX2_act_47 : decode cX2_act 47 = .ok (.aload_n 0, 1) := by decide +kernel
theorem dX2_act_48 : decode cX2_act 48 = .ok (.aload_n 1, 1) := by decide +kernel
theorem dX2_act_49 : decode cX2_act 49 = .ok (.iload_n 3, 1) := by decide +kernel
theorem dX2_act_50 : decode cX2_act 50 = .ok (.iload 5, 2) := by decide +kernel
theorem dX2_act_52 : decode cX2_act 52 = .ok (.iload 4, 2) := by decide +kernel
theorem dX2_act_54 : decode cX2_act 54 = .ok (.invokevirtual 213, 3) := by decide +kernel
theorem dX2_act_57 : decode cX2_act 57 = .ok (.goto 26, 3) := by decide +kernel
theorem dX2_act_60 : decode cX2_act 60 = .ok (.iload_n 2, 1) := by decide +kernel
theorem dX2_act_61 : decode cX2_act 61 = .ok (.bipush 23, 2) := by decide +kernel
theorem dX2_act_63 : decode cX2_act 63 = .ok (.if_icmp .ne 14, 3) := by decide +kernel
theorem dX2_act_66 : decode cX2_act 66 = .ok (.aload_n 0, 1) := by decide +kernel
theorem dX2_act_67 : decode cX2_act 67 = .ok (.aload_n 1, 1) := by decide +kernel
theorem dX2_act_68 : decode cX2_act 68 = .ok (.iload_n 3, 1) := by decide +kernel
theorem dX2_act_69 : decode cX2_act 69 = .ok (.iload 5, 2) := by decide +kernel
theorem dX2_act_71 : decode cX2_act 71 = .ok (.invokevirtual 216, 3) := by decide +kernel
theorem dX2_act_74 : decode cX2_act 74 = .ok (.goto 9, 3) := by decide +kernel
theorem dX2_act_77 : decode cX2_act 77 = .ok (.aload_n 1, 1) := by decide +kernel
theorem dX2_act_78 : decode cX2_act 78 = .ok (.iload 5, 2) := by decide +kernel
theorem dX2_act_80 : decode cX2_act 80 = .ok (.invokevirtual 116, 3) := by decide +kernel
theorem dX2_act_83 : decode cX2_act 83 = .ok (.return_, 1) := by decide +kernel
theorem dX2_tell_0 : decode cX2_tell 0 = .ok (.aload_n 0, 1) := by decide +kernel
theorem dX2_tell_1 : decode cX2_tell 1 = .ok (.getfield 27, 3) := by decide +kernel
theorem dX2_tell_4 : decode cX2_tell 4 = .ok (.getfield 219, 3) := by decide +kernel
theorem dX2_tell_7 : decode cX2_tell 7 = .ok (.bipush 60, 2) := by decide +kernel
theorem dX2_tell_9 : decode cX2_tell 9 = .ok (.if_icmp .lt 10, 3) := by decide +kernel
theorem dX2_tell_12 : decode cX2_tell 12 = .ok (.aload_n 1, 1) := by decide +kernel
theorem dX2_tell_13 : decode cX2_tell 13 = .ok (.bipush 9, 2) := by decide +kernel
theorem dX2_tell_15 : decode cX2_tell 15 = .ok (.invokevirtual 125, 3) := by decide +kernel
theorem dX2_tell_18 : decode cX2_tell 18 = .ok (.return_, 1) := by decide +kernel
theorem dX2_tell_19 : decode cX2_tell 19 = .ok (.aload_n 0, 1) := by decide +kernel
theorem dX2_tell_20 : decode cX2_tell 20 = .ok (.getfield 27, 3) := by decide +kernel
theorem dX2_tell_23 : decode cX2_tell 23 = .ok (.aload_n 1, 1) := by decide +kernel
theorem dX2_tell_24 : decode cX2_tell 24 = .ok (.getfield 82, 3) := by decide +kernel
theorem dX2_tell_27 : decode cX2_tell 27 = .ok (.iload_n 2, 1) := by decide +kernel
theorem dX2_tell_28 : decode cX2_tell 28 = .ok (.iload_n 3, 1) := by decide +kernel
theorem dX2_tell_29 : decode cX2_tell 29 = .ok (.iload 4, 2) := by decide +kernel
theorem dX2_tell_31 : decode cX2_tell 31 = .ok (.invokevirtual 222, 3) := by decide +kernel
theorem dX2_tell_34 : decode cX2_tell 34 = .ok (.return_, 1) := by decide +kernel
theorem dX2_send_0 : decode cX2_send 0 = .ok (.aload_n 0, 1) := by decide +kernel
theorem dX2_send_1 : decode cX2_send 1 = .ok (.getfield 27, 3) := by decide +kernel
theorem dX2_send_4 : decode cX2_send 4 = .ok (.aload_n 1, 1) := by decide +kernel
theorem dX2_send_5 : decode cX2_send 5 = .ok (.getfield 82, 3) := by decide +kernel
theorem dX2_send_8 : decode cX2_send 8 = .ok (.iload_n 3, 1) := by decide +kernel
theorem dX2_send_9 : decode cX2_send 9 = .ok (.invokevirtual 226, 3) := by decide +kernel
theorem dX2_send_12 : decode cX2_send 12 = .ok (.ifCond .ne 10, 3) := by decide +kernel
theorem dX2_send_15 : decode cX2_send 15 = .ok (.aload_n 1, 1) := by decide +kernel
theorem dX2_send_16 : decode cX2_send 16 = .ok (.bipush 7, 2) := by decide +kernel
theorem dX2_send_18 : decode cX2_send 18 = .ok (.invokevirtual 125, 3) := by decide +kernel
theorem dX2_send_21 : decode cX2_send 21 = .ok (.return_, 1) := by decide +kernel
theorem dX2_send_22 : decode cX2_send 22 = .ok (.aload_n 0, 1) := by decide +kernel
theorem dX2_send_23 : decode cX2_send 23 = .ok (.getfield 27, 3) := by decide +kernel
theorem dX2_send_26 : decode cX2_send 26 = .ok (.aload_n 1, 1) := by decide +kernel
theorem dX2_send_27 : decode cX2_send 27 = .ok (.getfield 82, 3) := by decide +kernel
theorem dX2_send_30 : decode cX2_send 30 = .ok (.bipush 8, 2) := by decide +kernel
theorem dX2_send_32 : decode cX2_send 32 = .ok (.iload_n 2, 1) := by decide +kernel
theorem dX2_send_33 : decode cX2_send 33 = .ok (.iadd, 1) := by decide +kernel
theorem dX2_send_34 : decode cX2_send 34 = .ok (.iload_n 3, 1) := by decide +kernel
theorem dX2_send_35 : decode cX2_send 35 = .ok (.invokevirtual 74, 3) := by decide +kernel
theorem dX2_send_38 : decode cX2_send 38 = .ok (.return_, 1) := by decide +kernel
theorem dX2_callOther_0 : decode cX2_callOther 0 = .ok (.aload_n 1, 1) := by decide +kernel
theorem dX2_callOther_1 : decode cX2_callOther 1 = .ok (.invokevirtual 197, 3) := by decide +kernel
theorem dX2_callOther_4 : decode cX2_callOther 4 = .ok (.istore 6, 2) := by decide +kernel
theorem dX2_callOther_6 : decode cX2_callOther 6 = .ok (.iload_n 2, 1) := by decide +kernel
theorem dX2_callOther_7 : decode cX2_callOther 7 = .ok (.bipush 21, 2) := by decide +kernel
theorem dX2_callOther_9 : decode cX2_callOther 9 = .ok (.if_icmp .ne 7, 3) := by decide +kernel
theorem dX2_callOther_12 : decode cX2_callOther 12 = .ok (.iconst 0, 1) := by decide +kernel
theorem dX2_callOther_13 : decode cX2_callOther 13 = .ok (.goto 7, 3) := by decide +kernel
theorem dX2_callOther_16 : decode cX2_callOther 16 = .ok (.aload_n 1, 1) := by decide +kernel
theorem dX2_callOther_17 : decode cX2_callOther 17 = .ok (.invokevirtual 197, 3) := by decide +kernel
theorem dX2_callOther_20 : decode cX2_callOther 20 = .ok (.istore 7, 2) := by decide +kernel
theorem dX2_callOther_22 : decode cX2_callOther 22 = .ok (.aload_n 1, 1) := by decide +kernel
theorem dX2_callOther_23 : decode cX2_callOther 23 = .ok (.invokevirtual 197, 3) := by decide +kernel
theorem dX2_callOther_26 : decode cX2_callOther 26 = .ok (.iconst 0, 1) := by decide +kernel
theorem dX2_callOther_27 : decode cX2_callOther 27 = .ok (.invokestatic 207, 3) := by decide +kernel
theorem dX2_callOther_30 : decode cX2_callOther 30 = .ok (.aload_n 1, 1) := by decide +kernel
theorem dX2_callOther_31 : decode cX2_callOther 31 = .ok (.getfield 120, 3) := by decide +kernel
theorem dX2_callOther_34 : decode cX2_callOther 34 = .ok (.invokestatic 68, 3) := by decide +kernel
theorem dX2_callOther_37 : decode cX2_callOther 37 = .ok (.istore 8, 2) := by decide +kernel
theorem dX2_callOther_39 : decode cX2_callOther 39 = .ok (.aload_n 0, 1) := by decide +kernel
theorem dX2_callOther_40 : decode cX2_callOther 40 = .ok (.aload_n 1, 1) := by decide +kernel
theorem dX2_callOther_41 : decode cX2_callOther 41 = .ok (.iload_n 3, 1) := by decide +kernel
theorem dX2_callOther_42 : decode cX2_callOther 42 = .ok (.iload 4, 2) := by decide +kernel
theorem dX2_callOther_44 : decode cX2_callOther 44 = .ok (.iload 7, 2) := by decide +kernel
theorem dX2_callOther_46 : decode cX2_callOther 46 = .ok (.iload 5, 2) := by decide +kernel
theorem dX2_callOther_48 : decode cX2_callOther 48 = .ok (.invokevirtual 229, 3) := by decide +kernel
theorem dX2_callOther_51 : decode cX2_callOther 51 = .ok (.istore 9, 2) := by decide +kernel
theorem dX2_callOther_53 : decode cX2_callOther 53 = .ok (.iload 9, 2) := by decide +kernel
theorem dX2_callOther_55 : decode cX2_callOther 55 = .ok (.ifCond .eq 11, 3) := by decide +kernel
theorem dX2_callOther_58 : decode cX2_callOther 58 = .ok (.aload_n 1, 1) := by decide +kernel
theorem dX2_callOther_59 : decode cX2_callOther 59 = .ok (.iload_n 2, 1) := by decide +kernel
theorem dX2_callOther_60 : decode cX2_callOther 60 = .ok (.iload 9, 2) := by decide +kernel
theorem dX2_callOther_62 : decode cX2_callOther 62 = .ok (.invokestatic 233, 3) := by decide +kernel
theorem dX2_callOther_65 : decode cX2_callOther 65 = .ok (.return_, 1) := by decide +kernel
theorem dX2_callOther_66 : decode cX2_callOther 66 = .ok (.aload_n 0, 1) := by decide +kernel
theorem dX2_callOther_67 : decode cX2_callOther 67 = .ok (.getfield 11, 3) := by decide +kernel
theorem dX2_callOther_70 : decode cX2_callOther 70 = .ok (.iload 5, 2) := by decide +kernel
theorem dX2_callOther_72 : decode cX2_callOther 72 = .ok (.aaload, 1) := by decide +kernel
theorem dX2_callOther_73 : decode cX2_callOther 73 = .ok (.astore 10, 2) := by decide +kernel
theorem dX2_callOther_75 : decode cX2_callOther 75 = .ok (.aload 10, 2) := by decide +kernel
theorem dX2_callOther_77 : decode cX2_callOther 77 = .ok (.iload_n 3, 1) := by decide +kernel
theorem dX2_callOther_78 : decode cX2_callOther 78 = .ok (.iload 4, 2) := by decide +kernel
theorem dX2_callOther_80 : decode cX2_callOther 80 = .ok (.iload 6, 2) := by decide +kernel
theorem dX2_callOther_82 : decode cX2_callOther 82 = .ok (.iload 7, 2) := by decide +kernel
theorem dX2_callOther_84 : decode cX2_callOther 84 = .ok (.iload 8, 2) := by decide +kernel
theorem dX2_callOther_86 : decode cX2_callOther 86 = .ok (.invokevirtual 45, 3) := by decide +kernel
theorem dX2_callOther_89 : decode cX2_callOther 89 = .ok (.aload 10, 2) := by decide +kernel
theorem dX2_callOther_91 : decode cX2_callOther 91 = .ok (.aload_n 1, 1) := by decide +kernel
theorem dX2_callOther_92 : decode cX2_callOther 92 = .ok (.getfield 82, 3) := by decide +kernel
theorem dX2_callOther_95 : decode cX2_callOther 95 = .ok (.putfield 49, 3) := by decide +kernel
theorem dX2_callOther_98 : decode cX2_callOther 98 = .ok (.aload 10, 2) := by decide +kernel
theorem dX2_callOther_100 : decode cX2_callOther 100 = .ok (.aload_n 1, 1) := by decide +kernel
theorem dX2_callOther_101 : decode cX2_callOther 101 = .ok (.getfield 53, 3) := by decide +kernel
theorem dX2_callOther_104 : decode cX2_callOther 104 = .ok (.ifCond .ne 9, 3) := by decide +kernel
theorem dX2_callOther_107 : decode cX2_callOther 107 = .ok (.iload_n 2, 1) := by decide +kernel
theorem dX2_callOther_108 : decode cX2_callOther 108 = .ok (.bipush 21, 2) := by decide +kernel
theorem dX2_callOther_110 : decode cX2_callOther 110 = .ok (.if_icmp .ne 7, 3) := by decide +kernel
theorem dX2_callOther_113 : decode cX2_callOther 113 = .ok (.iconst 1, 1) := by decide +kernel
theorem dX2_callOther_114 : decode cX2_callOther 114 = .ok (.goto 4, 3) := by decide +kernel
theorem dX2_callOther_117 : decode cX2_callOther 117 = .ok (.iconst 0, 1) := by decide +kernel
theorem dX2_callOther_118 : decode cX2_callOther 118 = .ok (.putfield 53, 3) := by decide +kernel
theorem dX2_callOther_121 : decode cX2_callOther 121 = .ok (.aload_n 0, 1) := by decide +kernel
theorem dX2_callOther_122 : decode cX2_callOther 122 = .ok (.aload_n 1, 1) := by decide +kernel
theorem dX2_callOther_123 : decode cX2_callOther 123 = .ok (.getfield 82, 3) := by decide +kernel
theorem dX2_callOther_126 : decode cX2_callOther 126 = .ok (.iload 5, 2) := by decide +kernel
theorem dX2_callOther_128 : decode cX2_callOther 128 = .ok (.iconst 1, 1) := by decide +kernel
theorem dX2_callOther_129 : decode cX2_callOther 129 = .ok (.iadd, 1) := by decide +kernel
theorem dX2_callOther_130 : decode cX2_callOther 130 = .ok (.invokevirtual 57, 3) := by decide +kernel
theorem dX2_callOther_133 : decode cX2_callOther 133 = .ok (.aload_n 1, 1) := by decide +kernel
theorem dX2_callOther_134 : decode cX2_callOther 134 = .ok (.dup, 1) := by decide +kernel
theorem dX2_callOther_135 : decode cX2_callOther 135 = .ok (.getfield 120, 3) := by decide +kernel
theorem dX2_callOther_138 : decode cX2_callOther 138 = .ok (.aload 10, 2) := by decide +kernel
theorem dX2_callOther_140 : decode cX2_callOther 140 = .ok (.invokevirtual 64, 3) := by decide +kernel
theorem dX2_callOther_143 : decode cX2_callOther 143 = .ok (.isub, 1) := by decide +kernel
theorem dX2_callOther_144 : decode cX2_callOther 144 = .ok (.putfield 120, 3) := by decide +kernel
theorem dX2_callOther_147 : decode cX2_callOther 147 = .ok (.aload 10, 2) := by decide +kernel
theorem dX2_callOther_149 : decode cX2_callOther 149 = .ok (.invokevirtual 132, 3) := by decide +kernel
theorem dX2_callOther_152 : decode cX2_callOther 152 = .ok (.ifCond .eq 16, 3) := by decide +kernel
theorem dX2_callOther_155 : decode cX2_callOther 155 = .ok (.aload_n 1, 1) := by decide +kernel
theorem dX2_callOther_156 : decode cX2_callOther 156 = .ok (.iload_n 2, 1) := by decide +kernel
theorem dX2_callOther_157 : decode cX2_callOther 157 = .ok (.aload 10, 2) := by decide +kernel
theorem dX2_callOther_159 : decode cX2_callOther 159 = .ok (.getfield 236, 3) := by decide +kernel
theorem dX2_callOther_162 : decode cX2_callOther 162 = .ok (.invokestatic 233, 3) := by decide +kernel
theorem dX2_callOther_165 : decode cX2_callOther 165 = .ok (.goto 13, 3) := by decide +kernel
theorem dX2_callOther_168 : decode cX2_callOther 168 = .ok (.aload_n 1, 1) := by decide +kernel
theorem dX2_callOther_169 : decode cX2_callOther 169 = .ok (.iload_n 2, 1) := by decide +kernel
theorem dX2_callOther_170 : decode cX2_callOther 170 = .ok (.aload 10, 2) := by decide +kernel
theorem dX2_callOther_172 : decode cX2_callOther 172 = .ok (.getfield 239, 3) := by decide +kernel
theorem dX2_callOther_175 : decode cX2_callOther 175 = .ok (.invokestatic 242, 3) := by decide +kernel
theorem dX2_callOther_178 : decode cX2_callOther 178 = .ok (.return_, 1) := by decide +kernel
theorem dX2_whyNotEntered_0 : decode cX2_whyNotEntered 0 = .ok (.aload_n 0, 1) := by decide +kernel
theorem dX2_whyNotEntered_1 : decode cX2_whyNotEntered 1 = .ok (.getfield 23, 3) := by decide +kernel
theorem dX2_whyNotEntered_4 : decode cX2_whyNotEntered 4 = .ok (.iload_n 2, 1) := by decide +kernel
theorem dX2_whyNotEntered_5 : decode cX2_whyNotEntered 5 = .ok (.invokevirtual 245, 3) := by decide +kernel
theorem dX2_whyNotEntered_8 : decode cX2_whyNotEntered 8 = .ok (.ifCond .eq 18, 3) := by decide +kernel
theorem dX2_whyNotEntered_11 : decode cX2_whyNotEntered 11 = .ok (.aload_n 0, 1) := by decide +kernel
theorem dX2_whyNotEntered_12 : decode cX2_whyNotEntered 12 = .ok (.getfield 23, 3) := by decide +kernel
theorem dX2_whyNotEntered_15 : decode cX2_whyNotEntered 15 = .ok (.iload_n 2, 1) := by decide +kernel
theorem dX2_whyNotEntered_16 : decode cX2_whyNotEntered 16 = .ok (.iload_n 3, 1) := by decide +kernel
theorem dX2_whyNotEntered_17 : decode cX2_whyNotEntered 17 = .ok (.invokevirtual 88, 3) := by decide +kernel
theorem dX2_whyNotEntered_20 : decode cX2_whyNotEntered 20 = .ok (.getfield 111, 3) := by decide +kernel
theorem dX2_whyNotEntered_23 : decode cX2_whyNotEntered 23 = .ok (.ifCond .ne 5, 3) := by decide +kernel
theorem dX2_whyNotEntered_26 : decode cX2_whyNotEntered 26 = .ok (.iconst 1, 1) := by decide +kernel
theorem dX2_whyNotEntered_27 : decode cX2_whyNotEntered 27 = .ok (.ireturn, 1) := by decide +kernel
theorem dX2_whyNotEntered_28 : decode cX2_whyNotEntered 28 = .ok (.iload 5, 2) := by decide +kernel
theorem dX2_whyNotEntered_30 : decode cX2_whyNotEntered 30 = .ok (.bipush 8, 2) := by decide +kernel
theorem dX2_whyNotEntered_32 : decode cX2_whyNotEntered 32 = .ok (.if_icmp .lt 5, 3) := by decide +kernel
theorem dX2_whyNotEntered_35 : decode cX2_whyNotEntered 35 = .ok (.iconst 5, 1) := by decide +kernel
theorem dX2_whyNotEntered_36 : decode cX2_whyNotEntered 36 = .ok (.ireturn, 1) := by decide +kernel
theorem dX2_whyNotEntered_37 : decode cX2_whyNotEntered 37 = .ok (.aload_n 0, 1) := by decide +kernel
theorem dX2_whyNotEntered_38 : decode cX2_whyNotEntered 38 = .ok (.getfield 23, 3) := by decide +kernel
theorem dX2_whyNotEntered_41 : decode cX2_whyNotEntered 41 = .ok (.iload_n 2, 1) := by decide +kernel
theorem dX2_whyNotEntered_42 : decode cX2_whyNotEntered 42 = .ok (.iload_n 3, 1) := by decide +kernel
theorem dX2_whyNotEntered_43 : decode cX2_whyNotEntered 43 = .ok (.invokevirtual 88, 3) := by decide +kernel
theorem dX2_whyNotEntered_46 : decode cX2_whyNotEntered 46 = .ok (.getfield 248, 3) := by decide +kernel
theorem dX2_whyNotEntered_49 : decode cX2_whyNotEntered 49 = .ok (.ifCond .eq 15, 3) := by decide +kernel
theorem dX2_whyNotEntered_52 : decode cX2_whyNotEntered 52 = .ok (.aload_n 0, 1) := by decide +kernel
theorem dX2_whyNotEntered_53 : decode cX2_whyNotEntered 53 = .ok (.iload_n 2, 1) := by decide +kernel
theorem dX2_whyNotEntered_54 : decode cX2_whyNotEntered 54 = .ok (.iload 5, 2) := by decide +kernel
theorem dX2_whyNotEntered_56 : decode cX2_whyNotEntered 56 = .ok (.invokevirtual 251, 3) := by decide +kernel
theorem dX2_whyNotEntered_59 : decode cX2_whyNotEntered 59 = .ok (.ifCond .eq 5, 3) := by decide +kernel
theorem dX2_whyNotEntered_62 : decode cX2_whyNotEntered 62 = .ok (.iconst 4, 1) := by decide +kernel
theorem dX2_whyNotEntered_63 : decode cX2_whyNotEntered 63 = .ok (.ireturn, 1) := by decide +kernel
theorem dX2_whyNotEntered_64 : decode cX2_whyNotEntered 64 = .ok (.iload 4, 2) := by decide +kernel
theorem dX2_whyNotEntered_66 : decode cX2_whyNotEntered 66 = .ok (.ifCond .eq 12, 3) := by decide +kernel
theorem dX2_whyNotEntered_69 : decode cX2_whyNotEntered 69 = .ok (.aload_n 1, 1) := by decide +kernel
theorem dX2_whyNotEntered_70 : decode cX2_whyNotEntered 70 = .ok (.getfield 53, 3) := by decide +kernel
theorem dX2_whyNotEntered_73 : decode cX2_whyNotEntered 73 = .ok (.ifCond .eq 5, 3) := by decide +kernel
theorem dX2_whyNotEntered_76 : decode cX2_whyNotEntered 76 = .ok (.iconst 2, 1) := by decide +kernel
theorem dX2_whyNotEntered_77 : decode cX2_whyNotEntered 77 = .ok (.ireturn, 1) := by decide +kernel
theorem dX2_whyNotEntered_78 : decode cX2_whyNotEntered 78 = .ok (.aload_n 0, 1) := by decide +kernel
theorem dX2_whyNotEntered_79 : decode cX2_whyNotEntered 79 = .ok (.getfield 27, 3) := by decide +kernel
theorem dX2_whyNotEntered_82 : decode cX2_whyNotEntered 82 = .ok (.aload_n 1, 1) := by decide +kernel
theorem dX2_whyNotEntered_83 : decode cX2_whyNotEntered 83 = .ok (.getfield 82, 3) := by decide +kernel
theorem dX2_whyNotEntered_86 : decode cX2_whyNotEntered 86 = .ok (.iload 4, 2) := by decide +kernel
theorem dX2_whyNotEntered_88 : decode cX2_whyNotEntered 88 = .ok (.invokevirtual 226, 3) := by decide +kernel
theorem dX2_whyNotEntered_91 : decode cX2_whyNotEntered 91 = .ok (.ifCond .eq 7, 3) := by decide +kernel
theorem dX2_whyNotEntered_94 : decode cX2_whyNotEntered 94 = .ok (.iconst 0, 1) := by decide +kernel
theorem dX2_whyNotEntered_95 : decode cX2_whyNotEntered 95 = .ok (.goto 5, 3) := by decide +kernel
theorem dX2_whyNotEntered_98 : decode cX2_whyNotEntered 98 = .ok (.bipush 7, 2) := by decide +kernel
theorem dX2_whyNotEntered_100 : decode cX2_whyNotEntered 100 = .ok (.ireturn, 1) := by decide +kernel
theorem dX2_isGuardedInside_0 : decode cX2_isGuardedInside 0 = .ok (.iconst 0, 1) := by decide +kernel
theorem dX2_isGuardedInside_1 : decode cX2_isGuardedInside 1 = .ok (.istore_n 3, 1) := by decide +kernel
theorem dX2_isGuardedInside_2 : decode cX2_isGuardedInside 2 = .ok (.iload_n 3, 1) := by decide +kernel
theorem dX2_isGuardedInside_3 : decode cX2_isGuardedInside 3 = .ok (.iload_n 2, 1) := by decide +kernel
theorem dX2_isGuardedInside_4 : decode cX2_isGuardedInside 4 = .ok (.if_icmp .ge 53, 3) := by decide +kernel
theorem dX2_isGuardedInside_7 : decode cX2_isGuardedInside 7 = .ok (.iload_n 3, 1) := by decide +kernel
theorem dX2_isGuardedInside_8 : decode cX2_isGuardedInside 8 = .ok (.bipush 8, 2) := by decide +kernel
theorem dX2_isGuardedInside_10 : decode cX2_isGuardedInside 10 = .ok (.if_icmp .ge 47, 3) := by decide +kernel
theorem dX2_isGuardedInside_13 : decode cX2_isGuardedInside 13 = .ok (.aload_n 0, 1) := by decide +kernel
theorem dX2_isGuardedInside_14 : decode cX2_isGuardedInside 14 = .ok (.getfield 11, 3) := by decide +kernel
theorem dX2_isGuardedInside_17 : decode cX2_isGuardedInside 17 = .ok (.iload_n 3, 1) := by decide +kernel
theorem dX2_isGuardedInside_18 : decode cX2_isGuardedInside 18 = .ok (.aaload, 1) := by decide +kernel
theorem dX2_isGuardedInside_19 : decode cX2_isGuardedInside 19 = .ok (.astore 4, 2) := by decide +kernel
theorem dX2_isGuardedInside_21 : decode cX2_isGuardedInside 21 = .ok (.aload 4, 2) := by decide +kernel
theorem dX2_isGuardedInside_23 : decode cX2_isGuardedInside 23 = .ok (.getfield 82, 3) := by decide +kernel
theorem dX2_isGuardedInside_26 : decode cX2_isGuardedInside 26 = .ok (.iload_n 1, 1) := by decide +kernel
theorem dX2_isGuardedInside_27 : decode cX2_isGuardedInside 27 = .ok (.if_icmp .ne 24, 3) := by decide +kernel
theorem dX2_isGuardedInside_30 : decode cX2_isGuardedInside 30 = .ok (.aload_n 0, 1) := by decide +kernel
theorem dX2_isGuardedInside_31 : decode cX2_isGuardedInside 31 = .ok (.getfield 23, 3) := by decide +kernel
theorem dX2_isGuardedInside_34 : decode cX2_isGuardedInside 34 = .ok (.iload_n 1, 1) := by decide +kernel
theorem dX2_isGuardedInside_35 : decode cX2_isGuardedInside 35 = .ok (.aload 4, 2) := by decide +kernel
theorem dX2_isGuardedInside_37 : decode cX2_isGuardedInside 37 = .ok (.getfield 85, 3) := by decide +kernel
theorem dX2_isGuardedInside_40 : decode cX2_isGuardedInside 40 = .ok (.invokevirtual 88, 3) := by decide +kernel
theorem dX2_isGuardedInside_43 : decode cX2_isGuardedInside 43 = .ok (.getfield 248, 3) := by decide +kernel
theorem dX2_isGuardedInside_46 : decode cX2_isGuardedInside 46 = .ok (.ifCond .eq 5, 3) := by decide +kernel
theorem dX2_isGuardedInside_49 : decode cX2_isGuardedInside 49 = .ok (.iconst 1, 1) := by decide +kernel
theorem dX2_isGuardedInside_50 : decode cX2_isGuardedInside 50 = .ok (.ireturn, 1) := by decide +kernel
theorem dX2_isGuardedInside_51 : decode cX2_isGuardedInside 51 = .ok (.iinc 3 1, 3) := by decide +kernel
theorem dX2_isGuardedInside_54 : decode cX2_isGuardedInside 54 = .ok (.goto (-52), 3) := by decide +kernel
theorem dX2_isGuardedInside_57 : decode cX2_isGuardedInside 57 = .ok (.iconst 0, 1) := by decide +kernel
theorem dX2_isGuardedInside_58 : decode cX2_isGuardedInside 58 = .ok (.ireturn, 1) := by decide +kernel
theorem dX2_answerGiven_0 : decode cX2_answerGiven 0 = .ok (.aload_n 0, 1) := by decide +kernel
theorem dX2_answerGiven_1 : decode cX2_answerGiven 1 = .ok (.iload_n 2, 1) := by decide +kernel
theorem dX2_answerGiven_2 : decode cX2_answerGiven 2 = .ok (.invokevirtual 167, 3) := by decide +kernel
theorem dX2_answerGiven_5 : decode cX2_answerGiven 5 = .ok (.iload_n 1, 1) := by decide +kernel
theorem dX2_answerGiven_6 : decode cX2_answerGiven 6 = .ok (.bipush 20, 2) := by decide +kernel
theorem dX2_answerGiven_8 : decode cX2_answerGiven 8 = .ok (.if_icmp .ne 8, 3) := by decide +kernel
theorem dX2_answerGiven_11 : decode cX2_answerGiven 11 = .ok (.aload_n 0, 1) := by decide +kernel
theorem dX2_answerGiven_12 : decode cX2_answerGiven 12 = .ok (.iconst 1, 1) := by decide +kernel
theorem dX2_answerGiven_13 : decode cX2_answerGiven 13 = .ok (.invokevirtual 167, 3) := by decide +kernel
theorem dX2_answerGiven_16 : decode cX2_answerGiven 16 = .ok (.return_, 1) := by decide +kernel
theorem dX2_answerThrown_0 : decode cX2_answerThrown 0 = .ok (.iload_n 1, 1) := by decide +kernel
theorem dX2_answerThrown_1 : decode cX2_answerThrown 1 = .ok (.bipush 20, 2) := by decide +kernel
theorem dX2_answerThrown_3 : decode cX2_answerThrown 3 = .ok (.if_icmp .eq 9, 3) := by decide +kernel
theorem dX2_answerThrown_6 : decode cX2_answerThrown 6 = .ok (.aload_n 0, 1) := by decide +kernel
theorem dX2_answerThrown_7 : decode cX2_answerThrown 7 = .ok (.iload_n 2, 1) := by decide +kernel
theorem dX2_answerThrown_8 : decode cX2_answerThrown 8 = .ok (.invokevirtual 125, 3) := by decide +kernel
theorem dX2_answerThrown_11 : decode cX2_answerThrown 11 = .ok (.return_, 1) := by decide +kernel
theorem dX2_answerThrown_12 : decode cX2_answerThrown 12 = .ok (.aload_n 0, 1) := by decide +kernel
theorem dX2_answerThrown_13 : decode cX2_answerThrown 13 = .ok (.iload_n 2, 1) := by decide +kernel
theorem dX2_answerThrown_14 : decode cX2_answerThrown 14 = .ok (.invokevirtual 167, 3) := by decide +kernel
theorem dX2_answerThrown_17 : decode cX2_answerThrown 17 = .ok (.aload_n 0, 1) := by decide +kernel
theorem dX2_answerThrown_18 : decode cX2_answerThrown 18 = .ok (.iconst 0, 1) := by decide +kernel
theorem dX2_answerThrown_19 : decode cX2_answerThrown 19 = .ok (.invokevirtual 167, 3) := by decide +kernel
theorem dX2_answerThrown_22 : decode cX2_answerThrown 22 = .ok (.return_, 1) := by decide +kernel
theorem dX3_init_0 : decode cX3_init 0 = .ok (.aload_n 0, 1) := by decide +kernel
theorem dX3_init_1 : decode cX3_init 1 = .ok (.invokespecial 3, 3) := by decide +kernel
theorem dX3_init_4 : decode cX3_init 4 = .ok (.aload_n 0, 1) := by decide +kernel
theorem dX3_init_5 : decode cX3_init 5 = .ok (.bipush 20, 2) := by decide +kernel
theorem dX3_init_7 : decode cX3_init 7 = .ok (.newarray .int, 2) := by decide +kernel
theorem dX3_init_9 : decode cX3_init 9 = .ok (.putfield 9, 3) := by decide +kernel
theorem dX3_init_12 : decode cX3_init 12 = .ok (.aload_n 0, 1) := by decide +kernel
theorem dX3_init_13 : decode cX3_init 13 = .ok (.bipush 20, 2) := by decide +kernel
theorem dX3_init_15 : decode cX3_init 15 = .ok (.newarray .int, 2) := by decide +kernel
theorem dX3_init_17 : decode cX3_init 17 = .ok (.putfield 15, 3) := by decide +kernel
theorem dX3_init_20 : decode cX3_init 20 = .ok (.aload_n 0, 1) := by decide +kernel
theorem dX3_init_21 : decode cX3_init 21 = .ok (.bipush 20, 2) := by decide +kernel
theorem dX3_init_23 : decode cX3_init 23 = .ok (.newarray .int, 2) := by decide +kernel
theorem dX3_init_25 : decode cX3_init 25 = .ok (.putfield 18, 3) := by decide +kernel
theorem dX3_init_28 : decode cX3_init 28 = .ok (.return_, 1) := by decide +kernel
theorem dX3_append_0 : decode cX3_append 0 = .ok (.aload_n 0, 1) := by decide +kernel
theorem dX3_append_1 : decode cX3_append 1 = .ok (.getfield 9, 3) := by decide +kernel
theorem dX3_append_4 : decode cX3_append 4 = .ok (.aload_n 0, 1) := by decide +kernel
theorem dX3_append_5 : decode cX3_append 5 = .ok (.getfield 21, 3) := by decide +kernel
theorem dX3_append_8 : decode cX3_append 8 = .ok (.iload_n 1, 1) := by decide +kernel
theorem dX3_append_9 : decode cX3_append 9 = .ok (.iastore, 1) := by decide +kernel
theorem dX3_append_10 : decode cX3_append 10 = .ok (.aload_n 0, 1) := by decide +kernel
theorem dX3_append_11 : decode cX3_append 11 = .ok (.getfield 15, 3) := by decide +kernel
theorem dX3_append_14 : decode cX3_append 14 = .ok (.aload_n 0, 1) := by decide +kernel
theorem dX3_append_15 : decode cX3_append 15 = .ok (.getfield 21, 3) := by decide +kernel
theorem dX3_append_18 : decode cX3_append 18 = .ok (.iload_n 2, 1) := by decide +kernel
theorem dX3_append_19 : decode cX3_append 19 = .ok (.iastore, 1) := by decide +kernel
theorem dX3_append_20 : decode cX3_append 20 = .ok (.aload_n 0, 1) := by decide +kernel
theorem dX3_append_21 : decode cX3_append 21 = .ok (.getfield 18, 3) := by decide +kernel
theorem dX3_append_24 : decode cX3_append 24 = .ok (.aload_n 0, 1) := by decide +kernel
theorem dX3_append_25 : decode cX3_append 25 = .ok (.getfield 21, 3) := by decide +kernel
theorem dX3_append_28 : decode cX3_append 28 = .ok (.iload_n 3, 1) := by decide +kernel
theorem dX3_append_29 : decode cX3_append 29 = .ok (.iastore, 1) := by decide +kernel
theorem dX3_append_30 : decode cX3_append 30 = .ok (.aload_n 0, 1) := by decide +kernel
theorem dX3_append_31 : decode cX3_append 31 = .ok (.dup, 1) := by decide +kernel
theorem dX3_append_32 : decode cX3_append 32 = .ok (.getfield 21, 3) := by decide +kernel
theorem dX3_append_35 : decode cX3_append 35 = .ok (.iconst 1, 1) := by decide +kernel
theorem dX3_append_36 : decode cX3_append 36 = .ok (.iadd, 1) := by decide +kernel
theorem dX3_append_37 : decode cX3_append 37 = .ok (.putfield 21, 3) := by decide +kernel
theorem dX3_append_40 : decode cX3_append 40 = .ok (.return_, 1) := by decide +kernel
theorem dX4_init_0 : decode cX4_init 0 = .ok (.aload_n 0, 1) := by decide +kernel
theorem dX4_init_1 : decode cX4_init 1 = .ok (.invokespecial 3, 3) := by decide +kernel
theorem dX4_init_4 : decode cX4_init 4 = .ok (.aload_n 0, 1) := by decide +kernel
theorem dX4_init_5 : decode cX4_init 5 = .ok (.bipush 32, 2) := by decide +kernel
theorem dX4_init_7 : decode cX4_init 7 = .ok (.anewarray 9, 3) := by decide +kernel
theorem dX4_init_10 : decode cX4_init 10 = .ok (.putfield 11, 3) := by decide +kernel
theorem dX4_init_13 : decode cX4_init 13 = .ok (.iconst 0, 1) := by decide +kernel
theorem dX4_init_14 : decode cX4_init 14 = .ok (.istore_n 1, 1) := by decide +kernel
theorem dX4_init_15 : decode cX4_init 15 = .ok (.iload_n 1, 1) := by decide +kernel
theorem dX4_init_16 : decode cX4_init 16 = .ok (.aload_n 0, 1) := by decide +kernel
theorem dX4_init_17 : decode cX4_init 17 = .ok (.getfield 11, 3) := by decide +kernel
theorem dX4_init_20 : decode cX4_init 20 = .ok (.arraylength, 1) := by decide +kernel
theorem dX4_init_21 : decode cX4_init 21 = .ok (.if_icmp .ge 22, 3) := by decide +kernel
theorem dX4_init_24 : decode cX4_init 24 = .ok (.aload_n 0, 1) := by decide +kernel
theorem dX4_init_25 : decode cX4_init 25 = .ok (.getfield 11, 3) := by decide +kernel
theorem dX4_init_28 : decode cX4_init 28 = .ok (.iload_n 1, 1) := by decide +kernel
theorem dX4_init_29 : decode cX4_init 29 = .ok (.new 9, 3) := by decide +kernel
theorem dX4_init_32 : decode cX4_init 32 = .ok (.dup, 1) := by decide +kernel
theorem dX4_init_33 : decode cX4_init 33 = .ok (.invokespecial 17, 3) := by decide +kernel
theorem dX4_init_36 : decode cX4_init 36 = .ok (.aastore, 1) := by decide +kernel
theorem dX4_init_37 : decode cX4_init 37 = .ok (.iinc 1 1, 3) := by decide +kernel
theorem dX4_init_40 : decode cX4_init 40 = .ok (.goto (-25), 3) := by decide +kernel
theorem dX4_init_43 : decode cX4_init 43 = .ok (.return_, 1) := by decide +kernel
theorem dX4_has_0 : decode cX4_has 0 = .ok (.iload_n 1, 1) := by decide +kernel
theorem dX4_has_1 : decode cX4_has 1 = .ok (.ifCond .lt 15, 3) := by decide +kernel
theorem dX4_has_4 : decode cX4_has 4 = .ok (.iload_n 1, 1) := by decide +kernel
theorem dX4_has_5 : decode cX4_has 5 = .ok (.aload_n 0, 1) := by decide +kernel
theorem dX4_has_6 : decode cX4_has 6 = .ok (.getfield 18, 3) := by decide +kernel
theorem dX4_has_9 : decode cX4_has 9 = .ok (.if_icmp .ge 7, 3) := by decide +kernel
theorem dX4_has_12 : decode cX4_has 12 = .ok (.iconst 1, 1) := by decide +kernel
theorem dX4_has_13 : decode cX4_has 13 = .ok (.goto 4, 3) := by decide +kernel
theorem dX4_has_16 : decode cX4_has 16 = .ok (.iconst 0, 1) := by decide +kernel
theorem dX4_has_17 : decode cX4_has 17 = .ok (.ireturn, 1) := by decide +kernel
theorem dX4_memberOf_0 : decode cX4_memberOf 0 = .ok (.aload_n 0, 1) := by decide +kernel
theorem dX4_memberOf_1 : decode cX4_memberOf 1 = .ok (.getfield 11, 3) := by decide +kernel
theorem dX4_memberOf_4 : decode cX4_memberOf 4 = .ok (.iload_n 1, 1) := by decide +kernel
theorem dX4_memberOf_5 : decode cX4_memberOf 5 = .ok (.iconst 4, 1) := by decide +kernel
theorem dX4_memberOf_6 : decode cX4_memberOf 6 = .ok (.imul, 1) := by decide +kernel
theorem dX4_memberOf_7 : decode cX4_memberOf 7 = .ok (.iload_n 2, 1) := by decide +kernel
theorem dX4_memberOf_8 : decode cX4_memberOf 8 = .ok (.iadd, 1) := by decide +kernel
theorem dX4_memberOf_9 : decode cX4_memberOf 9 = .ok (.aaload, 1) := by decide +kernel
theorem dX4_memberOf_10 : decode cX4_memberOf 10 = .ok (.areturn, 1) := by decide +kernel
theorem dX4_stepsInAll_0 : decode cX4_stepsInAll 0 = .ok (.iconst 0, 1) := by decide +kernel
theorem dX4_stepsInAll_1 : decode cX4_stepsInAll 1 = .ok (.istore_n 1, 1) := by decide +kernel
theorem dX4_stepsInAll_2 : decode cX4_stepsInAll 2 = .ok (.iconst 0, 1) := by decide +kernel
theorem dX4_stepsInAll_3 : decode cX4_stepsInAll 3 = .ok (.istore_n 2, 1) := by decide +kernel
theorem dX4_stepsInAll_4 : decode cX4_stepsInAll 4 = .ok (.iload_n 2, 1) := by decide +kernel
theorem dX4_stepsInAll_5 : decode cX4_stepsInAll 5 = .ok (.aload_n 0, 1) := by decide +kernel
theorem dX4_stepsInAll_6 : decode cX4_stepsInAll 6 = .ok (.getfield 11, 3) := by decide +kernel
theorem dX4_stepsInAll_9 : decode cX4_stepsInAll 9 = .ok (.arraylength, 1) := by decide +kernel
theorem dX4_stepsInAll_10 : decode cX4_stepsInAll 10 = .ok (.if_icmp .ge 21, 3) := by decide +kernel
theorem dX4_stepsInAll_13 : decode cX4_stepsInAll 13 = .ok (.iload_n 1, 1) := by decide +kernel
theorem dX4_stepsInAll_14 : decode cX4_stepsInAll 14 = .ok (.aload_n 0, 1) := by decide +kernel
theorem dX4_stepsInAll_15 : decode cX4_stepsInAll 15 = .ok (.getfield 11, 3) := by decide +kernel
theorem dX4_stepsInAll_18 : decode cX4_stepsInAll 18 = .ok (.iload_n 2, 1) := by decide +kernel
theorem dX4_stepsInAll_19 : decode cX4_stepsInAll 19 = .ok (.aaload, 1) := by decide +kernel
theorem dX4_stepsInAll_20 : decode cX4_stepsInAll 20 = .ok (.getfield 22, 3) := by decide +kernel
theorem dX4_stepsInAll_23 : decode cX4_stepsInAll 23 = .ok (.iadd, 1) := by decide +kernel
theorem dX4_stepsInAll_24 : decode cX4_stepsInAll 24 = .ok (.istore_n 1, 1) := by decide +kernel
theorem dX4_stepsInAll_25 : decode cX4_stepsInAll 25 = .ok (.iinc 2 1, 3) := by decide +kernel
theorem dX4_stepsInAll_28 : decode cX4_stepsInAll 28 = .ok (.goto (-24), 3) := by decide +kernel
theorem dX4_stepsInAll_31 : decode cX4_stepsInAll 31 = .ok (.iload_n 1, 1) := by decide +kernel
theorem dX4_stepsInAll_32 : decode cX4_stepsInAll 32 = .ok (.ireturn, 1) := by decide +kernel
theorem dX4_reset_0 : decode cX4_reset 0 = .ok (.aload_n 0, 1) := by decide +kernel
theorem dX4_reset_1 : decode cX4_reset 1 = .ok (.iconst 0, 1) := by decide +kernel
theorem dX4_reset_2 : decode cX4_reset 2 = .ok (.putfield 18, 3) := by decide +kernel
theorem dX4_reset_5 : decode cX4_reset 5 = .ok (.iconst 0, 1) := by decide +kernel
theorem dX4_reset_6 : decode cX4_reset 6 = .ok (.istore_n 1, 1) := by decide +kernel
theorem dX4_reset_7 : decode cX4_reset 7 = .ok (.iload_n 1, 1) := by decide +kernel
theorem dX4_reset_8 : decode cX4_reset 8 = .ok (.aload_n 0, 1) := by decide +kernel
theorem dX4_reset_9 : decode cX4_reset 9 = .ok (.getfield 11, 3) := by decide +kernel
theorem dX4_reset_12 : decode cX4_reset 12 = .ok (.arraylength, 1) := by decide +kernel
theorem dX4_reset_13 : decode cX4_reset 13 = .ok (.if_icmp .ge 29, 3) := by decide +kernel
theorem dX4_reset_16 : decode cX4_reset 16 = .ok (.aload_n 0, 1) := by decide +kernel
theorem dX4_reset_17 : decode cX4_reset 17 = .ok (.getfield 11, 3) := by decide +kernel
theorem dX4_reset_20 : decode cX4_reset 20 = .ok (.iload_n 1, 1) := by decide +kernel
theorem dX4_reset_21 : decode cX4_reset 21 = .ok (.aaload, 1) := by decide +kernel
theorem dX4_reset_22 : decode cX4_reset 22 = .ok (.iconst 0, 1) := by decide +kernel
theorem dX4_reset_23 : decode cX4_reset 23 = .ok (.putfield 22, 3) := by decide +kernel
theorem dX4_reset_26 : decode cX4_reset 26 = .ok (.aload_n 0, 1) := by decide +kernel
theorem dX4_reset_27 : decode cX4_reset 27 = .ok (.getfield 11, 3) := by decide +kernel
theorem dX4_reset_30 : decode cX4_reset 30 = .ok (.iload_n 1, 1) := by decide +kernel
theorem dX4_reset_31 : decode cX4_reset 31 = .ok (.aaload, 1) := by decide +kernel
theorem dX4_reset_32 : decode cX4_reset 32 = .ok (.iconst 0, 1) := by decide +kernel
theorem dX4_reset_33 : decode cX4_reset 33 = .ok (.putfield 25, 3) := by decide +kernel
theorem dX4_reset_36 : decode cX4_reset 36 = .ok (.iinc 1 1, 3) := by decide +kernel
theorem dX4_reset_39 : decode cX4_reset 39 = .ok (.goto (-32), 3) := by decide +kernel
theorem dX4_reset_42 : decode cX4_reset 42 = .ok (.return_, 1) := by decide +kernel
theorem dX5_init_0 : decode cX5_init 0 = .ok (.aload_n 0, 1) := by decide +kernel
theorem dX5_init_1 : decode cX5_init 1 = .ok (.invokespecial 1, 3) := by decide +kernel
theorem dX5_init_4 : decode cX5_init 4 = .ok (.aload_n 0, 1) := by decide +kernel
theorem dX5_init_5 : decode cX5_init 5 = .ok (.sipush 280, 3) := by decide +kernel
theorem dX5_init_8 : decode cX5_init 8 = .ok (.newarray .int, 2) := by decide +kernel
theorem dX5_init_10 : decode cX5_init 10 = .ok (.putfield 9, 3) := by decide +kernel
theorem dX5_init_13 : decode cX5_init 13 = .ok (.return_, 1) := by decide +kernel
theorem dX5_reset_0 : decode cX5_reset 0 = .ok (.aload_n 0, 1) := by decide +kernel
theorem dX5_reset_1 : decode cX5_reset 1 = .ok (.iconst 0, 1) := by decide +kernel
theorem dX5_reset_2 : decode cX5_reset 2 = .ok (.putfield 13, 3) := by decide +kernel
theorem dX5_reset_5 : decode cX5_reset 5 = .ok (.aload_n 0, 1) := by decide +kernel
theorem dX5_reset_6 : decode cX5_reset 6 = .ok (.iconst 0, 1) := by decide +kernel
theorem dX5_reset_7 : decode cX5_reset 7 = .ok (.putfield 17, 3) := by decide +kernel
theorem dX5_reset_10 : decode cX5_reset 10 = .ok (.aload_n 0, 1) := by decide +kernel
theorem dX5_reset_11 : decode cX5_reset 11 = .ok (.iconst 0, 1) := by decide +kernel
theorem dX5_reset_12 : decode cX5_reset 12 = .ok (.putfield 21, 3) := by decide +kernel
theorem dX5_reset_15 : decode cX5_reset 15 = .ok (.aload_n 0, 1) := by decide +kernel
theorem dX5_reset_16 : decode cX5_reset 16 = .ok (.invokevirtual 24, 3) := by decide +kernel
theorem dX5_reset_19 : decode cX5_reset 19 = .ok (.return_, 1) := by decide +kernel
theorem dX5_startCall_0 : decode cX5_startCall 0 = .ok (.aload_n 0, 1) := by decide +kernel
theorem dX5_startCall_1 : decode cX5_startCall 1 = .ok (.iconst 0, 1) := by decide +kernel
theorem dX5_startCall_2 : decode cX5_startCall 2 = .ok (.putfield 27, 3) := by decide +kernel
theorem dX5_startCall_5 : decode cX5_startCall 5 = .ok (.aload_n 0, 1) := by decide +kernel
theorem dX5_startCall_6 : decode cX5_startCall 6 = .ok (.iconst 0, 1) := by decide +kernel
theorem dX5_startCall_7 : decode cX5_startCall 7 = .ok (.putfield 30, 3) := by decide +kernel
theorem dX5_startCall_10 : decode cX5_startCall 10 = .ok (.return_, 1) := by decide +kernel
theorem dX5_rowsKept_0 : decode cX5_rowsKept 0 = .ok (.aload_n 0, 1) := by decide +kernel
theorem dX5_rowsKept_1 : decode cX5_rowsKept 1 = .ok (.getfield 27, 3) := by decide +kernel
theorem dX5_rowsKept_4 : decode cX5_rowsKept 4 = .ok (.bipush 40, 2) := by decide +kernel
theorem dX5_rowsKept_6 : decode cX5_rowsKept 6 = .ok (.invokestatic 33, 3) := by decide +kernel
theorem dX5_rowsKept_9 : decode cX5_rowsKept 9 = .ok (.ireturn, 1) := by decide +kernel
theorem dX5_enter_0 : decode cX5_enter 0 = .ok (.aload_n 0, 1) := by decide +kernel
theorem dX5_enter_1 : decode cX5_enter 1 = .ok (.aload_n 0, 1) := by decide +kernel
theorem dX5_enter_2 : decode cX5_enter 2 = .ok (.getfield 30, 3) := by decide +kernel
theorem dX5_enter_5 : decode cX5_enter 5 = .ok (.iload_n 1, 1) := by decide +kernel
theorem dX5_enter_6 : decode cX5_enter 6 = .ok (.invokestatic 39, 3) := by decide +kernel
theorem dX5_enter_9 : decode cX5_enter 9 = .ok (.putfield 30, 3) := by decide +kernel
theorem dX5_enter_12 : decode cX5_enter 12 = .ok (.aload_n 0, 1) := by decide +kernel
theorem dX5_enter_13 : decode cX5_enter 13 = .ok (.dup, 1) := by decide +kernel
theorem dX5_enter_14 : decode cX5_enter 14 = .ok (.getfield 27, 3) := by decide +kernel
theorem dX5_enter_17 : decode cX5_enter 17 = .ok (.iconst 1, 1) := by decide +kernel
theorem dX5_enter_18 : decode cX5_enter 18 = .ok (.iadd, 1) := by decide +kernel
theorem dX5_enter_19 : decode cX5_enter 19 = .ok (.putfield 27, 3) := by decide +kernel
theorem dX5_enter_22 : decode cX5_enter 22 = .ok (.aload_n 0, 1) := by decide +kernel
theorem dX5_enter_23 : decode cX5_enter 23 = .ok (.getfield 27, 3) := by decide +kernel
theorem dX5_enter_26 : decode cX5_enter 26 = .ok (.iconst 1, 1) := by decide +kernel
theorem dX5_enter_27 : decode cX5_enter 27 = .ok (.isub, 1) := by decide +kernel
theorem dX5_enter_28 : decode cX5_enter 28 = .ok (.ireturn, 1) := by decide +kernel
theorem dX5_writeRow_0 : decode cX5_writeRow 0 = .ok (.iload_n 1, 1) := by decide +kernel
theorem dX5_writeRow_1 : decode cX5_writeRow 1 = .ok (.bipush 40, 2) := by decide +kernel
theorem dX5_writeRow_3 : decode cX5_writeRow 3 = .ok (.if_icmp .lt 4, 3) := by decide +kernel
theorem dX5_writeRow_6 : decode cX5_writeRow 6 = .ok (.return_, 1) := by decide +kernel
theorem dX5_writeRow_7 : decode cX5_writeRow 7 = .ok (.iload_n 1, 1) := by decide +kernel
theorem dX5_writeRow_8 : decode cX5_writeRow 8 = .ok (.bipush 7, 2) := by decide +kernel
theorem dX5_writeRow_10 : decode cX5_writeRow 10 = .ok (.imul, 1) := by decide +kernel
theorem dX5_writeRow_11 : decode cX5_writeRow 11 = .ok (.istore 4, 2) := by decide +kernel
theorem dX5_writeRow_13 : decode cX5_writeRow 13 = .ok (.aload_n 0, 1) := by decide +kernel
theorem dX5_writeRow_14 : decode cX5_writeRow 14 = .ok (.getfield 9, 3) := by decide +kernel
theorem dX5_writeRow_17 : decode cX5_writeRow 17 = .ok (.iload 4, 2) := by decide +kernel
theorem dX5_writeRow_19 : decode cX5_writeRow 19 = .ok (.aload_n 2, 1) := by decide +kernel
theorem dX5_writeRow_20 : decode cX5_writeRow 20 = .ok (.getfield 42, 3) := by decide +kernel
theorem dX5_writeRow_23 : decode cX5_writeRow 23 = .ok (.iastore, 1) := by decide +kernel
theorem dX5_writeRow_24 : decode cX5_writeRow 24 = .ok (.aload_n 0, 1) := by decide +kernel
theorem dX5_writeRow_25 : decode cX5_writeRow 25 = .ok (.getfield 9, 3) := by decide +kernel
theorem dX5_writeRow_28 : decode cX5_writeRow 28 = .ok (.iload 4, 2) := by decide +kernel
theorem dX5_writeRow_30 : decode cX5_writeRow 30 = .ok (.iconst 1, 1) := by decide +kernel
theorem dX5_writeRow_31 : decode cX5_writeRow 31 = .ok (.iadd, 1) := by decide +kernel
theorem dX5_writeRow_32 : decode cX5_writeRow 32 = .ok (.aload_n 2, 1) := by decide +kernel
theorem dX5_writeRow_33 : decode cX5_writeRow 33 = .ok (.getfield 47, 3) := by decide +kernel
theorem dX5_writeRow_36 : decode cX5_writeRow 36 = .ok (.iastore, 1) := by decide +kernel
theorem dX5_writeRow_37 : decode cX5_writeRow 37 = .ok (.aload_n 0, 1) := by decide +kernel
theorem dX5_writeRow_38 : decode cX5_writeRow 38 = .ok (.getfield 9, 3) := by decide +kernel
theorem dX5_writeRow_41 : decode cX5_writeRow 41 = .ok (.iload 4, 2) := by decide +kernel
theorem dX5_writeRow_43 : decode cX5_writeRow 43 = .ok (.iconst 2, 1) := by decide +kernel
theorem dX5_writeRow_44 : decode cX5_writeRow 44 = .ok (.iadd, 1) := by decide +kernel
theorem dX5_writeRow_45 : decode cX5_writeRow 45 = .ok (.iload_n 3, 1) := by decide +kernel
theorem dX5_writeRow_46 : decode cX5_writeRow 46 = .ok (.iastore, 1) := by decide +kernel
theorem dX5_writeRow_47 : decode cX5_writeRow 47 = .ok (.aload_n 0, 1) := by decide +kernel
theorem dX5_writeRow_48 : decode cX5_writeRow 48 = .ok (.getfield 9, 3) := by decide +kernel
theorem dX5_writeRow_51 : decode cX5_writeRow 51 = .ok (.iload 4, 2) := by decide +kernel
theorem dX5_writeRow_53 : decode cX5_writeRow 53 = .ok (.iconst 3, 1) := by decide +kernel
theorem dX5_writeRow_54 : decode cX5_writeRow 54 = .ok (.iadd, 1) := by decide +kernel
theorem dX5_writeRow_55 : decode cX5_writeRow 55 = .ok (.aload_n 2, 1) := by decide +kernel
theorem dX5_writeRow_56 : decode cX5_writeRow 56 = .ok (.invokevirtual 50, 3) := by decide +kernel
theorem dX5_writeRow_59 : decode cX5_writeRow 59 = .ok (.iastore, 1) := by decide +kernel
theorem dX5_writeRow_60 : decode cX5_writeRow 60 = .ok (.aload_n 0, 1) := by decide +kernel
theorem dX5_writeRow_61 : decode cX5_writeRow 61 = .ok (.getfield 9, 3) := by decide +kernel
theorem dX5_writeRow_64 : decode cX5_writeRow 64 = .ok (.iload 4, 2) := by decide +kernel
theorem dX5_writeRow_66 : decode cX5_writeRow 66 = .ok (.iconst 4, 1) := by decide +kernel
theorem dX5_writeRow_67 : decode cX5_writeRow 67 = .ok (.iadd, 1) := by decide +kernel
theorem dX5_writeRow_68 : decode cX5_writeRow 68 = .ok (.aload_n 2, 1) := by decide +kernel
theorem dX5_writeRow_69 : decode cX5_writeRow 69 = .ok (.getfield 54, 3) := by decide +kernel
theorem dX5_writeRow_72 : decode cX5_writeRow 72 = .ok (.iastore, 1) := by decide +kernel
theorem dX5_writeRow_73 : decode cX5_writeRow 73 = .ok (.aload_n 0, 1) := by decide +kernel
theorem dX5_writeRow_74 : decode cX5_writeRow 74 = .ok (.getfield 9, 3) := by decide +kernel
theorem dX5_writeRow_77 : decode cX5_writeRow 77 = .ok (.iload 4, 2) := by decide +kernel
theorem dX5_writeRow_79 : decode cX5_writeRow 79 = .ok (.iconst 5, 1) := by decide +kernel
theorem dX5_writeRow_80 : decode cX5_writeRow 80 = .ok (.iadd, 1) := by decide +kernel
theorem dX5_writeRow_81 : decode cX5_writeRow 81 = .ok (.aload_n 2, 1) := by decide +kernel
theorem dX5_writeRow_82 : decode cX5_writeRow 82 = .ok (.getfield 57, 3) := by decide +kernel
theorem dX5_writeRow_85 : decode cX5_writeRow 85 = .ok (.iastore, 1) := by decide +kernel
theorem dX5_writeRow_86 : decode cX5_writeRow 86 = .ok (.aload_n 0, 1) := by decide +kernel
theorem dX5_writeRow_87 : decode cX5_writeRow 87 = .ok (.getfield 9, 3) := by decide +kernel
theorem dX5_writeRow_90 : decode cX5_writeRow 90 = .ok (.iload 4, 2) := by decide +kernel
theorem dX5_writeRow_92 : decode cX5_writeRow 92 = .ok (.bipush 6, 2) := by decide +kernel
theorem dX5_writeRow_94 : decode cX5_writeRow 94 = .ok (.iadd, 1) := by decide +kernel
theorem dX5_writeRow_95 : decode cX5_writeRow 95 = .ok (.aload_n 2, 1) := by decide +kernel
theorem dX5_writeRow_96 : decode cX5_writeRow 96 = .ok (.getfield 60, 3) := by decide +kernel
theorem dX5_writeRow_99 : decode cX5_writeRow 99 = .ok (.ifCond .eq 7, 3) := by decide +kernel
theorem dX5_writeRow_102 : decode cX5_writeRow 102 = .ok (.iconst 1, 1) := by decide +kernel
theorem dX5_writeRow_103 : decode cX5_writeRow 103 = .ok (.goto 4, 3) := by decide +kernel
theorem dX5_writeRow_106 : decode cX5_writeRow 106 = .ok (.iconst 0, 1) := by decide +kernel
theorem dX5_writeRow_107 : decode cX5_writeRow 107 = .ok (.iastore, 1) := by decide +kernel
theorem dX5_writeRow_108 : decode cX5_writeRow 108 = .ok (.return_, 1) := by decide +kernel
theorem dX5_endCall_0 : decode cX5_endCall 0 = .ok (.aload_n 0, 1) := by decide +kernel
theorem dX5_endCall_1 : decode cX5_endCall 1 = .ok (.iconst 1, 1) := by decide +kernel
theorem dX5_endCall_2 : decode cX5_endCall 2 = .ok (.putfield 13, 3) := by decide +kernel
theorem dX5_endCall_5 : decode cX5_endCall 5 = .ok (.aload_n 0, 1) := by decide +kernel
theorem dX5_endCall_6 : decode cX5_endCall 6 = .ok (.aload_n 1, 1) := by decide +kernel
theorem dX5_endCall_7 : decode cX5_endCall 7 = .ok (.invokevirtual 63, 3) := by decide +kernel
theorem dX5_endCall_10 : decode cX5_endCall 10 = .ok (.putfield 67, 3) := by decide +kernel
theorem dX5_endCall_13 : decode cX5_endCall 13 = .ok (.aload_n 0, 1) := by decide +kernel
theorem dX5_endCall_14 : decode cX5_endCall 14 = .ok (.aload_n 0, 1) := by decide +kernel
theorem dX5_endCall_15 : decode cX5_endCall 15 = .ok (.getfield 67, 3) := by decide +kernel
theorem dX5_endCall_18 : decode cX5_endCall 18 = .ok (.ifCond .eq 10, 3) := by decide +kernel
theorem dX5_endCall_21 : decode cX5_endCall 21 = .ok (.aload_n 1, 1) := by decide +kernel
theorem dX5_endCall_22 : decode cX5_endCall 22 = .ok (.getfield 54, 3) := by decide +kernel
theorem dX5_endCall_25 : decode cX5_endCall 25 = .ok (.goto 7, 3) := by decide +kernel
theorem dX5_endCall_28 : decode cX5_endCall 28 = .ok (.aload_n 1, 1) := by decide +kernel
theorem dX5_endCall_29 : decode cX5_endCall 29 = .ok (.getfield 57, 3) := by decide +kernel
theorem dX5_endCall_32 : decode cX5_endCall 32 = .ok (.putfield 69, 3) := by decide +kernel
theorem dX5_endCall_35 : decode cX5_endCall 35 = .ok (.aload_n 0, 1) := by decide +kernel
theorem dX5_endCall_36 : decode cX5_endCall 36 = .ok (.aload_n 1, 1) := by decide +kernel
theorem dX5_endCall_37 : decode cX5_endCall 37 = .ok (.invokevirtual 50, 3) := by decide +kernel
theorem dX5_endCall_40 : decode cX5_endCall 40 = .ok (.putfield 72, 3) := by decide +kernel
theorem dX5_endCall_43 : decode cX5_endCall 43 = .ok (.aload_n 0, 1) := by decide +kernel
theorem dX5_endCall_44 : decode cX5_endCall 44 = .ok (.iload_n 2, 1) := by decide +kernel
theorem dX5_endCall_45 : decode cX5_endCall 45 = .ok (.putfield 74, 3) := by decide +kernel
theorem dX5_endCall_48 : decode cX5_endCall 48 = .ok (.aload_n 0, 1) := by decide +kernel
theorem dX5_endCall_49 : decode cX5_endCall 49 = .ok (.getfield 67, 3) := by decide +kernel
theorem dX5_endCall_52 : decode cX5_endCall 52 = .ok (.ifCond .eq 16, 3) := by decide +kernel
theorem dX5_endCall_55 : decode cX5_endCall 55 = .ok (.aload_n 0, 1) := by decide +kernel
theorem dX5_endCall_56 : decode cX5_endCall 56 = .ok (.dup, 1) := by decide +kernel
theorem dX5_endCall_57 : decode cX5_endCall 57 = .ok (.getfield 21, 3) := by decide +kernel
theorem dX5_endCall_60 : decode cX5_endCall 60 = .ok (.iconst 1, 1) := by decide +kernel
theorem dX5_endCall_61 : decode cX5_endCall 61 = .ok (.iadd, 1) := by decide +kernel
theorem dX5_endCall_62 : decode cX5_endCall 62 = .ok (.putfield 21, 3) := by decide +kernel
theorem dX5_endCall_65 : decode cX5_endCall 65 = .ok (.goto 13, 3) := by decide +kernel
theorem dX5_endCall_68 : decode cX5_endCall 68 = .ok (.aload_n 0, 1) := by decide +kernel
theorem dX5_endCall_69 : decode cX5_endCall 69 = .ok (.dup, 1) := by decide +kernel
theorem dX5_endCall_70 : decode cX5_endCall 70 = .ok (.getfield 17, 3) := by decide +kernel
theorem dX5_endCall_73 : decode cX5_endCall 73 = .ok (.iconst 1, 1) := by decide +kernel
theorem dX5_endCall_74 : decode cX5_endCall 74 = .ok (.iadd, 1) := by decide +kernel
theorem dX5_endCall_75 : decode cX5_endCall 75 = .ok (.putfield 17, 3) := by decide +kernel
theorem dX5_endCall_78 : decode cX5_endCall 78 = .ok (.return_, 1) := by decide +kernel
theorem dX6_init_0 : decode cX6_init 0 = .ok (.aload_n 0, 1) := by decide +kernel
theorem dX6_init_1 : decode cX6_init 1 = .ok (.invokespecial 3, 3) := by decide +kernel
theorem dX6_init_4 : decode cX6_init 4 = .ok (.aload_n 0, 1) := by decide +kernel
theorem dX6_init_5 : decode cX6_init 5 = .ok (.bipush 64, 2) := by decide +kernel
theorem dX6_init_7 : decode cX6_init 7 = .ok (.newarray .int, 2) := by decide +kernel
theorem dX6_init_9 : decode cX6_init 9 = .ok (.putfield 9, 3) := by decide +kernel
theorem dX6_init_12 : decode cX6_init 12 = .ok (.aload_n 0, 1) := by decide +kernel
theorem dX6_init_13 : decode cX6_init 13 = .ok (.bipush 13, 2) := by decide +kernel
theorem dX6_init_15 : decode cX6_init 15 = .ok (.newarray .int, 2) := by decide +kernel
theorem dX6_init_17 : decode cX6_init 17 = .ok (.putfield 17, 3) := by decide +kernel
theorem dX6_init_20 : decode cX6_init 20 = .ok (.return_, 1) := by decide +kernel
theorem dX6_keep_0 : decode cX6_keep 0 = .ok (.aload_n 1, 1) := by decide +kernel
theorem dX6_keep_1 : decode cX6_keep 1 = .ok (.getfield 20, 3) := by decide +kernel
theorem dX6_keep_4 : decode cX6_keep 4 = .ok (.iconst 0, 1) := by decide +kernel
theorem dX6_keep_5 : decode cX6_keep 5 = .ok (.aload_n 0, 1) := by decide +kernel
theorem dX6_keep_6 : decode cX6_keep 6 = .ok (.getfield 9, 3) := by decide +kernel
theorem dX6_keep_9 : decode cX6_keep 9 = .ok (.iconst 0, 1) := by decide +kernel
theorem dX6_keep_10 : decode cX6_keep 10 = .ok (.aload_n 0, 1) := by decide +kernel
theorem dX6_keep_11 : decode cX6_keep 11 = .ok (.getfield 9, 3) := by decide +kernel
theorem dX6_keep_14 : decode cX6_keep 14 = .ok (.arraylength, 1) := by decide +kernel
theorem dX6_keep_15 : decode cX6_keep 15 = .ok (.invokestatic 21, 3) := by decide +kernel
theorem dX6_keep_18 : decode cX6_keep 18 = .ok (.aload_n 1, 1) := by decide +kernel
theorem dX6_keep_19 : decode cX6_keep 19 = .ok (.getfield 27, 3) := by decide +kernel
theorem dX6_keep_22 : decode cX6_keep 22 = .ok (.iconst 0, 1) := by decide +kernel
theorem dX6_keep_23 : decode cX6_keep 23 = .ok (.aload_n 0, 1) := by decide +kernel
theorem dX6_keep_24 : decode cX6_keep 24 = .ok (.getfield 17, 3) := by decide +kernel
theorem dX6_keep_27 : decode cX6_keep 27 = .ok (.iconst 0, 1) := by decide +kernel
theorem dX6_keep_28 : decode cX6_keep 28 = .ok (.aload_n 0, 1) := by decide +kernel
theorem dX6_keep_29 : decode cX6_keep 29 = .ok (.getfield 17, 3) := by decide +kernel
theorem dX6_keep_32 : decode cX6_keep 32 = .ok (.arraylength, 1) := by decide +kernel
theorem dX6_keep_33 : decode cX6_keep 33 = .ok (.invokestatic 21, 3) := by decide +kernel
theorem dX6_keep_36 : decode cX6_keep 36 = .ok (.aload_n 0, 1) := by decide +kernel
theorem dX6_keep_37 : decode cX6_keep 37 = .ok (.aload_n 1, 1) := by decide +kernel
theorem dX6_keep_38 : decode cX6_keep 38 = .ok (.getfield 28, 3) := by decide +kernel
theorem dX6_keep_41 : decode cX6_keep 41 = .ok (.putfield 32, 3) := by decide +kernel
theorem dX6_keep_44 : decode cX6_keep 44 = .ok (.aload_n 0, 1) := by decide +kernel
theorem dX6_keep_45 : decode cX6_keep 45 = .ok (.aload_n 1, 1) := by decide +kernel
theorem dX6_keep_46 : decode cX6_keep 46 = .ok (.getfield 33, 3) := by decide +kernel
theorem dX6_keep_49 : decode cX6_keep 49 = .ok (.putfield 36, 3) := by decide +kernel
theorem dX6_keep_52 : decode cX6_keep 52 = .ok (.return_, 1) := by decide +kernel
theorem dX6_putBack_0 : decode cX6_putBack 0 = .ok (.aload_n 0, 1) := by decide +kernel
theorem dX6_putBack_1 : decode cX6_putBack 1 = .ok (.getfield 9, 3) := by decide +kernel
theorem dX6_putBack_4 : decode cX6_putBack 4 = .ok (.iconst 0, 1) := by decide +kernel
theorem dX6_putBack_5 : decode cX6_putBack 5 = .ok (.aload_n 1, 1) := by decide +kernel
theorem dX6_putBack_6 : decode cX6_putBack 6 = .ok (.getfield 20, 3) := by decide +kernel
theorem dX6_putBack_9 : decode cX6_putBack 9 = .ok (.iconst 0, 1) := by decide +kernel
theorem dX6_putBack_10 : decode cX6_putBack 10 = .ok (.aload_n 0, 1) := by decide +kernel
theorem dX6_putBack_11 : decode cX6_putBack 11 = .ok (.getfield 9, 3) := by decide +kernel
theorem dX6_putBack_14 : decode cX6_putBack 14 = .ok (.arraylength, 1) := by decide +kernel
theorem dX6_putBack_15 : decode cX6_putBack 15 = .ok (.invokestatic 21, 3) := by decide +kernel
theorem dX6_putBack_18 : decode cX6_putBack 18 = .ok (.aload_n 0, 1) := by decide +kernel
theorem dX6_putBack_19 : decode cX6_putBack 19 = .ok (.getfield 17, 3) := by decide +kernel
theorem dX6_putBack_22 : decode cX6_putBack 22 = .ok (.iconst 0, 1) := by decide +kernel
theorem dX6_putBack_23 : decode cX6_putBack 23 = .ok (.aload_n 1, 1) := by decide +kernel
theorem dX6_putBack_24 : decode cX6_putBack 24 = .ok (.getfield 27, 3) := by decide +kernel
theorem dX6_putBack_27 : decode cX6_putBack 27 = .ok (.iconst 0, 1) := by decide +kernel
theorem dX6_putBack_28 : decode cX6_putBack 28 = .ok (.aload_n 0, 1) := by decide +kernel
theorem dX6_putBack_29 : decode cX6_putBack 29 = .ok (.getfield 17, 3) := by decide +kernel
theorem dX6_putBack_32 : decode cX6_putBack 32 = .ok (.arraylength, 1) := by decide +kernel
theorem dX6_putBack_33 : decode cX6_putBack 33 = .ok (.invokestatic 21, 3) := by decide +kernel
theorem dX6_putBack_36 : decode cX6_putBack 36 = .ok (.aload_n 1, 1) := by decide +kernel
theorem dX6_putBack_37 : decode cX6_putBack 37 = .ok (.aload_n 0, 1) := by decide +kernel
theorem dX6_putBack_38 : decode cX6_putBack 38 = .ok (.getfield 32, 3) := by decide +kernel
theorem dX6_putBack_41 : decode cX6_putBack 41 = .ok (.putfield 28, 3) := by decide +kernel
theorem dX6_putBack_44 : decode cX6_putBack 44 = .ok (.aload_n 1, 1) := by decide +kernel
theorem dX6_putBack_45 : decode cX6_putBack 45 = .ok (.aload_n 0, 1) := by decide +kernel
theorem dX6_putBack_46 : decode cX6_putBack 46 = .ok (.getfield 36, 3) := by decide +kernel
theorem dX6_putBack_49 : decode cX6_putBack 49 = .ok (.putfield 33, 3) := by decide +kernel
theorem dX6_putBack_52 : decode cX6_putBack 52 = .ok (.return_, 1) := by decide +kernel
theorem dX8_init_0 : decode cX8_init 0 = .ok (.aload_n 0, 1) := by decide +kernel
theorem dX8_init_1 : decode cX8_init 1 = .ok (.invokespecial 5, 3) := by decide +kernel
theorem dX8_init_4 : decode cX8_init 4 = .ok (.aload_n 0, 1) := by decide +kernel
theorem dX8_init_5 : decode cX8_init 5 = .ok (.bipush 64, 2) := by decide +kernel
theorem dX8_init_7 : decode cX8_init 7 = .ok (.newarray .int, 2) := by decide +kernel
theorem dX8_init_9 : decode cX8_init 9 = .ok (.putfield 11, 3) := by decide +kernel
theorem dX8_init_12 : decode cX8_init 12 = .ok (.aload_n 0, 1) := by decide +kernel
theorem dX8_init_13 : decode cX8_init 13 = .ok (.bipush 13, 2) := by decide +kernel
theorem dX8_init_15 : decode cX8_init 15 = .ok (.newarray .int, 2) := by decide +kernel
theorem dX8_init_17 : decode cX8_init 17 = .ok (.putfield 15, 3) := by decide +kernel
theorem dX8_init_20 : decode cX8_init 20 = .ok (.aload_n 0, 1) := by decide +kernel
theorem dX8_init_21 : decode cX8_init 21 = .ok (.sipush 240, 3) := by decide +kernel
theorem dX8_init_24 : decode cX8_init 24 = .ok (.newarray .int, 2) := by decide +kernel
theorem dX8_init_26 : decode cX8_init 26 = .ok (.putfield 18, 3) := by decide +kernel
theorem dX8_init_29 : decode cX8_init 29 = .ok (.aload_n 0, 1) := by decide +kernel
theorem dX8_init_30 : decode cX8_init 30 = .ok (.invokevirtual 21, 3) := by decide +kernel
theorem dX8_init_33 : decode cX8_init 33 = .ok (.return_, 1) := by decide +kernel
theorem dX8_fillUsersPurses_0 : decode cX8_fillUsersPurses 0 = .ok (.aload_n 0, 1) := by decide +kernel
theorem dX8_fillUsersPurses_1 : decode cX8_fillUsersPurses 1 = .ok (.getfield 15, 3) := by decide +kernel
theorem dX8_fillUsersPurses_4 : decode cX8_fillUsersPurses 4 = .ok (.bipush 8, 2) := by decide +kernel
theorem dX8_fillUsersPurses_6 : decode cX8_fillUsersPurses 6 = .ok (.bipush 12, 2) := by decide +kernel
theorem dX8_fillUsersPurses_8 : decode cX8_fillUsersPurses 8 = .ok (.sipush 10000, 3) := by decide +kernel
theorem dX8_fillUsersPurses_11 : decode cX8_fillUsersPurses 11 = .ok (.invokestatic 24, 3) := by decide +kernel
theorem dX8_fillUsersPurses_14 : decode cX8_fillUsersPurses 14 = .ok (.return_, 1) := by decide +kernel
theorem dX8_reset_0 : decode cX8_reset 0 = .ok (.aload_n 0, 1) := by decide +kernel
theorem dX8_reset_1 : decode cX8_reset 1 = .ok (.getfield 11, 3) := by decide +kernel
theorem dX8_reset_4 : decode cX8_reset 4 = .ok (.iconst 0, 1) := by decide +kernel
theorem dX8_reset_5 : decode cX8_reset 5 = .ok (.invokestatic 30, 3) := by decide +kernel
theorem dX8_reset_8 : decode cX8_reset 8 = .ok (.aload_n 0, 1) := by decide +kernel
theorem dX8_reset_9 : decode cX8_reset 9 = .ok (.getfield 15, 3) := by decide +kernel
theorem dX8_reset_12 : decode cX8_reset 12 = .ok (.iconst 0, 1) := by decide +kernel
theorem dX8_reset_13 : decode cX8_reset 13 = .ok (.invokestatic 30, 3) := by decide +kernel
theorem dX8_reset_16 : decode cX8_reset 16 = .ok (.aload_n 0, 1) := by decide +kernel
theorem dX8_reset_17 : decode cX8_reset 17 = .ok (.invokevirtual 21, 3) := by decide +kernel
theorem dX8_reset_20 : decode cX8_reset 20 = .ok (.aload_n 0, 1) := by decide +kernel
theorem dX8_reset_21 : decode cX8_reset 21 = .ok (.invokevirtual 33, 3) := by decide +kernel
theorem dX8_reset_24 : decode cX8_reset 24 = .ok (.return_, 1) := by decide +kernel
theorem dX8_startCall_0 : decode cX8_startCall 0 = .ok (.aload_n 0, 1) := by decide +kernel
theorem dX8_startCall_1 : decode cX8_startCall 1 = .ok (.iconst 0, 1) := by decide +kernel
theorem dX8_startCall_2 : decode cX8_startCall 2 = .ok (.putfield 36, 3) := by decide +kernel
theorem dX8_startCall_5 : decode cX8_startCall 5 = .ok (.aload_n 0, 1) := by decide +kernel
theorem dX8_startCall_6 : decode cX8_startCall 6 = .ok (.iconst 0, 1) := by decide +kernel
theorem dX8_startCall_7 : decode cX8_startCall 7 = .ok (.putfield 40, 3) := by decide +kernel
theorem dX8_startCall_10 : decode cX8_startCall 10 = .ok (.return_, 1) := by decide +kernel
theorem dX8_save_0 : decode cX8_save 0 = .ok (.iload_n 1, 1) := by decide +kernel
theorem dX8_save_1 : decode cX8_save 1 = .ok (.bipush 8, 2) := by decide +kernel
theorem dX8_save_3 : decode cX8_save 3 = .ok (.imul, 1) := by decide +kernel
theorem dX8_save_4 : decode cX8_save 4 = .ok (.iload_n 2, 1) := by decide +kernel
theorem dX8_save_5 : decode cX8_save 5 = .ok (.iadd, 1) := by decide +kernel
theorem dX8_save_6 : decode cX8_save 6 = .ok (.istore 4, 2) := by decide +kernel
theorem dX8_save_8 : decode cX8_save 8 = .ok (.iload_n 3, 1) := by decide +kernel
theorem dX8_save_9 : decode cX8_save 9 = .ok (.ifCond .ne 23, 3) := by decide +kernel
theorem dX8_save_12 : decode cX8_save 12 = .ok (.aload_n 0, 1) := by decide +kernel
theorem dX8_save_13 : decode cX8_save 13 = .ok (.getfield 11, 3) := by decide +kernel
theorem dX8_save_16 : decode cX8_save 16 = .ok (.iload 4, 2) := by decide +kernel
theorem dX8_save_18 : decode cX8_save 18 = .ok (.iaload, 1) := by decide +kernel
theorem dX8_save_19 : decode cX8_save 19 = .ok (.ifCond .eq 13, 3) := by decide +kernel
theorem dX8_save_22 : decode cX8_save 22 = .ok (.aload_n 0, 1) := by decide +kernel
theorem dX8_save_23 : decode cX8_save 23 = .ok (.dup, 1) := by decide +kernel
theorem dX8_save_24 : decode cX8_save 24 = .ok (.getfield 40, 3) := by decide +kernel
theorem dX8_save_27 : decode cX8_save 27 = .ok (.iconst 1, 1) := by decide +kernel
theorem dX8_save_28 : decode cX8_save 28 = .ok (.iadd, 1) := by decide +kernel
theorem dX8_save_29 : decode cX8_save 29 = .ok (.putfield 40, 3) := by decide +kernel
theorem dX8_save_32 : decode cX8_save 32 = .ok (.aload_n 0, 1) := by decide +kernel
theorem dX8_save_33 : decode cX8_save 33 = .ok (.getfield 11, 3) := by decide +kernel
theorem dX8_save_36 : decode cX8_save 36 = .ok (.iload 4, 2) := by decide +kernel
theorem dX8_save_38 : decode cX8_save 38 = .ok (.iload_n 3, 1) := by decide +kernel
theorem dX8_save_39 : decode cX8_save 39 = .ok (.iastore, 1) := by decide +kernel
theorem dX8_save_40 : decode cX8_save 40 = .ok (.return_, 1) := by decide +kernel
theorem dX8_canPay_0 : decode cX8_canPay 0 = .ok (.iload_n 2, 1) := by decide +kernel
theorem dX8_canPay_1 : decode cX8_canPay 1 = .ok (.ifCond .lt 17, 3) := by decide +kernel
theorem dX8_canPay_4 : decode cX8_canPay 4 = .ok (.iload_n 2, 1) := by decide +kernel
theorem dX8_canPay_5 : decode cX8_canPay 5 = .ok (.aload_n 0, 1) := by decide +kernel
theorem dX8_canPay_6 : decode cX8_canPay 6 = .ok (.getfield 15, 3) := by decide +kernel
theorem dX8_canPay_9 : decode cX8_canPay 9 = .ok (.iload_n 1, 1) := by decide +kernel
theorem dX8_canPay_10 : decode cX8_canPay 10 = .ok (.iaload, 1) := by decide +kernel
theorem dX8_canPay_11 : decode cX8_canPay 11 = .ok (.if_icmp .gt 7, 3) := by decide +kernel
theorem dX8_canPay_14 : decode cX8_canPay 14 = .ok (.iconst 1, 1) := by decide +kernel
theorem dX8_canPay_15 : decode cX8_canPay 15 = .ok (.goto 4, 3) := by decide +kernel
theorem dX8_canPay_18 : decode cX8_canPay 18 = .ok (.iconst 0, 1) := by decide +kernel
theorem dX8_canPay_19 : decode cX8_canPay 19 = .ok (.ireturn, 1) := by decide +kernel
theorem dX8_move_0 : decode cX8_move 0 = .ok (.aload_n 0, 1) := by decide +kernel
theorem dX8_move_1 : decode cX8_move 1 = .ok (.getfield 15, 3) := by decide +kernel
theorem dX8_move_4 : decode cX8_move 4 = .ok (.iload_n 1, 1) := by decide +kernel
theorem dX8_move_5 : decode cX8_move 5 = .ok (.dup2, 1) := by decide +kernel
theorem dX8_move_6 : decode cX8_move 6 = .ok (.iaload, 1) := by decide +kernel
theorem dX8_move_7 : decode cX8_move 7 = .ok (.iload_n 3, 1) := by decide +kernel
theorem dX8_move_8 : decode cX8_move 8 = .ok (.isub, 1) := by decide +kernel
theorem dX8_move_9 : decode cX8_move 9 = .ok (.iastore, 1) := by decide +kernel
theorem dX8_move_10 : decode cX8_move 10 = .ok (.aload_n 0, 1) := by decide +kernel
theorem dX8_move_11 : decode cX8_move 11 = .ok (.getfield 15, 3) := by decide +kernel
theorem dX8_move_14 : decode cX8_move 14 = .ok (.iload_n 2, 1) := by decide +kernel
theorem dX8_move_15 : decode cX8_move 15 = .ok (.dup2, 1) := by decide +kernel
theorem dX8_move_16 : decode cX8_move 16 = .ok (.iaload, 1) := by decide +kernel
theorem dX8_move_17 : decode cX8_move 17 = .ok (.iload_n 3, 1) := by decide +kernel
theorem dX8_move_18 : decode cX8_move 18 = .ok (.iadd, 1) := by decide +kernel
theorem dX8_move_19 : decode cX8_move 19 = .ok (.iastore, 1) := by decide +kernel
theorem dX8_move_20 : decode cX8_move 20 = .ok (.return_, 1) := by decide +kernel
theorem dX8_addEvent_0 : decode cX8_addEvent 0 = .ok (.aload_n 0, 1) := by decide +kernel
theorem dX8_addEvent_1 : decode cX8_addEvent 1 = .ok (.getfield 36, 3) := by decide +kernel
theorem dX8_addEvent_4 : decode cX8_addEvent 4 = .ok (.iconst 4, 1) := by decide +kernel
theorem dX8_addEvent_5 : decode cX8_addEvent 5 = .ok (.imul, 1) := by decide +kernel
theorem dX8_addEvent_6 : decode cX8_addEvent 6 = .ok (.istore 5, 2) := by decide +kernel
theorem dX8_addEvent_8 : decode cX8_addEvent 8 = .ok (.aload_n 0, 1) := by decide +kernel
theorem dX8_addEvent_9 : decode cX8_addEvent 9 = .ok (.getfield 18, 3) := by decide +kernel
theorem dX8_addEvent_12 : decode cX8_addEvent 12 = .ok (.iload 5, 2) := by decide +kernel
theorem dX8_addEvent_14 : decode cX8_addEvent 14 = .ok (.iload_n 1, 1) := by decide +kernel
theorem dX8_addEvent_15 : decode cX8_addEvent 15 = .ok (.iastore, 1) := by decide +kernel
theorem dX8_addEvent_16 : decode cX8_addEvent 16 = .ok (.aload_n 0, 1) := by decide +kernel
theorem dX8_addEvent_17 : decode cX8_addEvent 17 = .ok (.getfield 18, 3) := by decide +kernel
theorem dX8_addEvent_20 : decode cX8_addEvent 20 = .ok (.iload 5, 2) := by decide +kernel
theorem dX8_addEvent_22 : decode cX8_addEvent 22 = .ok (.iconst 1, 1) := by decide +kernel
theorem dX8_addEvent_23 : decode cX8_addEvent 23 = .ok (.iadd, 1) := by decide +kernel
theorem dX8_addEvent_24 : decode cX8_addEvent 24 = .ok (.iload_n 2, 1) := by decide +kernel
theorem dX8_addEvent_25 : decode cX8_addEvent 25 = .ok (.iastore, 1) := by decide +kernel
theorem dX8_addEvent_26 : decode cX8_addEvent 26 = .ok (.aload_n 0, 1) := by decide +kernel
theorem dX8_addEvent_27 : decode cX8_addEvent 27 = .ok (.getfield 18, 3) := by decide +kernel
theorem dX8_addEvent_30 : decode cX8_addEvent 30 = .ok (.iload 5, 2) := by decide +kernel
theorem dX8_addEvent_32 : decode cX8_addEvent 32 = .ok (.iconst 2, 1) := by decide +kernel
theorem dX8_addEvent_33 : decode cX8_addEvent 33 = .ok (.iadd, 1) := by decide +kernel
theorem dX8_addEvent_34 : decode cX8_addEvent 34 = .ok (.iload_n 3, 1) := by decide +kernel
theorem dX8_addEvent_35 : decode cX8_addEvent 35 = .ok (.iastore, 1) := by decide +kernel
theorem dX8_addEvent_36 : decode cX8_addEvent 36 = .ok (.aload_n 0, 1) := by decide +kernel
theorem dX8_addEvent_37 : decode cX8_addEvent 37 = .ok (.getfield 18, 3) := by decide +kernel
theorem dX8_addEvent_40 : decode cX8_addEvent 40 = .ok (.iload 5, 2) := by decide +kernel
theorem dX8_addEvent_42 : decode cX8_addEvent 42 = .ok (.iconst 3, 1) := by decide +kernel
theorem dX8_addEvent_43 : decode cX8_addEvent 43 = .ok (.iadd, 1) := by decide +kernel
theorem dX8_addEvent_44 : decode cX8_addEvent 44 = .ok (.iload 4, 2) := by decide +kernel
theorem dX8_addEvent_46 : decode cX8_addEvent 46 = .ok (.iastore, 1) := by decide +kernel
theorem dX8_addEvent_47 : decode cX8_addEvent 47 = .ok (.aload_n 0, 1) := by decide +kernel
theorem dX8_addEvent_48 : decode cX8_addEvent 48 = .ok (.dup, 1) := by decide +kernel
theorem dX8_addEvent_49 : decode cX8_addEvent 49 = .ok (.getfield 36, 3) := by decide +kernel
theorem dX8_addEvent_52 : decode cX8_addEvent 52 = .ok (.iconst 1, 1) := by decide +kernel
theorem dX8_addEvent_53 : decode cX8_addEvent 53 = .ok (.iadd, 1) := by decide +kernel
theorem dX8_addEvent_54 : decode cX8_addEvent 54 = .ok (.putfield 36, 3) := by decide +kernel
theorem dX8_addEvent_57 : decode cX8_addEvent 57 = .ok (.return_, 1) := by decide +kernel
theorem dX9_init_0 : decode cX9_init 0 = .ok (.aload_n 0, 1) := by decide +kernel
theorem dX9_init_1 : decode cX9_init 1 = .ok (.invokespecial 1, 3) := by decide +kernel
theorem dX9_init_4 : decode cX9_init 4 = .ok (.aload_n 0, 1) := by decide +kernel
theorem dX9_init_5 : decode cX9_init 5 = .ok (.new 7, 3) := by decide +kernel
theorem dX9_init_8 : decode cX9_init 8 = .ok (.dup, 1) := by decide +kernel
theorem dX9_init_9 : decode cX9_init 9 = .ok (.invokespecial 9, 3) := by decide +kernel
theorem dX9_init_12 : decode cX9_init 12 = .ok (.putfield 10, 3) := by decide +kernel
theorem dX9_init_15 : decode cX9_init 15 = .ok (.aload_n 0, 1) := by decide +kernel
theorem dX9_init_16 : decode cX9_init 16 = .ok (.new 16, 3) := by decide +kernel
theorem dX9_init_19 : decode cX9_init 19 = .ok (.dup, 1) := by decide +kernel
theorem dX9_init_20 : decode cX9_init 20 = .ok (.invokespecial 18, 3) := by decide +kernel
theorem dX9_init_23 : decode cX9_init 23 = .ok (.putfield 19, 3) := by decide +kernel
theorem dX9_init_26 : decode cX9_init 26 = .ok (.aload_n 0, 1) := by decide +kernel
theorem dX9_init_27 : decode cX9_init 27 = .ok (.new 23, 3) := by decide +kernel
theorem dX9_init_30 : decode cX9_init 30 = .ok (.dup, 1) := by decide +kernel
theorem dX9_init_31 : decode cX9_init 31 = .ok (.invokespecial 25, 3) := by decide +kernel
theorem dX9_init_34 : decode cX9_init 34 = .ok (.putfield 26, 3) := by decide +kernel
theorem dX9_init_37 : decode cX9_init 37 = .ok (.aload_n 0, 1) := by decide +kernel
theorem dX9_init_38 : decode cX9_init 38 = .ok (.new 30, 3) := by decide +kernel
theorem dX9_init_41 : decode cX9_init 41 = .ok (.dup, 1) := by decide +kernel
theorem dX9_init_42 : decode cX9_init 42 = .ok (.aload_n 0, 1) := by decide +kernel
theorem dX9_init_43 : decode cX9_init 43 = .ok (.getfield 10, 3) := by decide +kernel
theorem dX9_init_46 : decode cX9_init 46 = .ok (.aload_n 0, 1) := by decide +kernel
theorem dX9_init_47 : decode cX9_init 47 = .ok (.getfield 19, 3) := by decide +kernel
theorem dX9_init_50 : decode cX9_init 50 = .ok (.aload_n 0, 1) := by decide +kernel
theorem dX9_init_51 : decode cX9_init 51 = .ok (.getfield 26, 3) := by decide +kernel
theorem dX9_init_54 : decode cX9_init 54 = .ok (.invokespecial 32, 3) := by decide +kernel
theorem dX9_init_57 : decode cX9_init 57 = .ok (.putfield 35, 3) := by decide +kernel
theorem dX9_init_60 : decode cX9_init 60 = .ok (.return_, 1) := by decide +kernel
theorem dX9_contract_0 : decode cX9_contract 0 = .ok (.aload_n 0, 1) := by decide +kernel
theorem dX9_contract_1 : decode cX9_contract 1 = .ok (.getfield 10, 3) := by decide +kernel
theorem dX9_contract_4 : decode cX9_contract 4 = .ok (.getfield 39, 3) := by decide +kernel
theorem dX9_contract_7 : decode cX9_contract 7 = .ok (.bipush 8, 2) := by decide +kernel
theorem dX9_contract_9 : decode cX9_contract 9 = .ok (.if_icmp .lt 6, 3) := by decide +kernel
theorem dX9_contract_12 : decode cX9_contract 12 = .ok (.bipush (-104), 2) := by decide +kernel
theorem dX9_contract_14 : decode cX9_contract 14 = .ok (.ireturn, 1) := by decide +kernel
theorem dX9_contract_15 : decode cX9_contract 15 = .ok (.aload_n 0, 1) := by decide +kernel
theorem dX9_contract_16 : decode cX9_contract 16 = .ok (.getfield 10, 3) := by decide +kernel
theorem dX9_contract_19 : decode cX9_contract 19 = .ok (.dup, 1) := by decide +kernel
theorem dX9_contract_20 : decode cX9_contract 20 = .ok (.getfield 39, 3) := by decide +kernel
theorem dX9_contract_23 : decode cX9_contract 23 = .ok (.iconst 1, 1) := by decide +kernel
theorem dX9_contract_24 : decode cX9_contract 24 = .ok (.iadd, 1) := by decide +kernel
theorem dX9_contract_25 : decode cX9_contract 25 = .ok (.putfield 39, 3) := by decide +kernel
theorem dX9_contract_28 : decode cX9_contract 28 = .ok (.aload_n 0, 1) := by decide +kernel
theorem dX9_contract_29 : decode cX9_contract 29 = .ok (.getfield 10, 3) := by decide +kernel
theorem dX9_contract_32 : decode cX9_contract 32 = .ok (.getfield 39, 3) := by decide +kernel
theorem dX9_contract_35 : decode cX9_contract 35 = .ok (.iconst 1, 1) := by decide +kernel
theorem dX9_contract_36 : decode cX9_contract 36 = .ok (.isub, 1) := by decide +kernel
theorem dX9_contract_37 : decode cX9_contract 37 = .ok (.ireturn, 1) := by decide +kernel
theorem dX9_step_0 : decode cX9_step 0 = .ok (.aload_n 0, 1) := by decide +kernel
theorem dX9_step_1 : decode cX9_step 1 = .ok (.iload_n 1, 1) := by decide +kernel
theorem dX9_step_2 : decode cX9_step 2 = .ok (.iload_n 2, 1) := by decide +kernel
theorem dX9_step_3 : decode cX9_step 3 = .ok (.invokevirtual 43, 3) := by decide +kernel
theorem dX9_step_6 : decode cX9_step 6 = .ok (.istore 6, 2) := by decide +kernel
theorem dX9_step_8 : decode cX9_step 8 = .ok (.iload 6, 2) := by decide +kernel
theorem dX9_step_10 : decode cX9_step 10 = .ok (.ifCond .eq 6, 3) := by decide +kernel
theorem dX9_step_13 : decode cX9_step 13 = .ok (.iload 6, 2) := by decide +kernel
theorem dX9_step_15 : decode cX9_step 15 = .ok (.ireturn, 1) := by decide +kernel
theorem dX9_step_16 : decode cX9_step 16 = .ok (.iload_n 3, 1) := by decide +kernel
theorem dX9_step_17 : decode cX9_step 17 = .ok (.iload 4, 2) := by decide +kernel
theorem dX9_step_19 : decode cX9_step 19 = .ok (.iload 5, 2) := by decide +kernel
theorem dX9_step_21 : decode cX9_step 21 = .ok (.invokestatic 47, 3) := by decide +kernel
theorem dX9_step_24 : decode cX9_step 24 = .ok (.ifCond .ne 6, 3) := by decide +kernel
theorem dX9_step_27 : decode cX9_step 27 = .ok (.bipush (-102), 2) := by decide +kernel
theorem dX9_step_29 : decode cX9_step 29 = .ok (.ireturn, 1) := by decide +kernel
theorem dX9_step_30 : decode cX9_step 30 = .ok (.aload_n 0, 1) := by decide +kernel
theorem dX9_step_31 : decode cX9_step 31 = .ok (.getfield 10, 3) := by decide +kernel
theorem dX9_step_34 : decode cX9_step 34 = .ok (.iload_n 1, 1) := by decide +kernel
theorem dX9_step_35 : decode cX9_step 35 = .ok (.iload_n 2, 1) := by decide +kernel
theorem dX9_step_36 : decode cX9_step 36 = .ok (.invokevirtual 53, 3) := by decide +kernel
theorem dX9_step_39 : decode cX9_step 39 = .ok (.astore 7, 2) := by decide +kernel
theorem dX9_step_41 : decode cX9_step 41 = .ok (.aload 7, 2) := by decide +kernel
theorem dX9_step_43 : decode cX9_step 43 = .ok (.getfield 57, 3) := by decide +kernel
theorem dX9_step_46 : decode cX9_step 46 = .ok (.bipush 20, 2) := by decide +kernel
theorem dX9_step_48 : decode cX9_step 48 = .ok (.if_icmp .lt 6, 3) := by decide +kernel
theorem dX9_step_51 : decode cX9_step 51 = .ok (.bipush (-104), 2) := by decide +kernel
theorem dX9_step_53 : decode cX9_step 53 = .ok (.ireturn, 1) := by decide +kernel
theorem dX9_step_54 : decode cX9_step 54 = .ok (.aload 7, 2) := by decide +kernel
theorem dX9_step_56 : decode cX9_step 56 = .ok (.iload_n 3, 1) := by decide +kernel
theorem dX9_step_57 : decode cX9_step 57 = .ok (.iload 4, 2) := by decide +kernel
theorem dX9_step_59 : decode cX9_step 59 = .ok (.iload 5, 2) := by decide +kernel
theorem dX9_step_61 : decode cX9_step 61 = .ok (.invokevirtual 62, 3) := by decide +kernel
