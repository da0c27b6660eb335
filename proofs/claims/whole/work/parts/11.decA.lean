theorem d_Bu_init_0 : decode b_Bu_init 0 = .ok (.aload_n 0, 1) := by decide +kernel
theorem d_Bu_init_1 : decode b_Bu_init 1 = .ok (.invokespecial 3, 3) := by decide +kernel
theorem d_Bu_init_4 : decode b_Bu_init 4 = .ok (.aload_n 0, 1) := by decide +kernel
theorem d_Bu_init_5 : decode b_Bu_init 5 = .ok (.bipush 50, 2) := by decide +kernel
theorem d_Bu_init_7 : decode b_Bu_init 7 = .ok (.newarray .int, 2) := by decide +kernel
theorem d_Bu_init_9 : decode b_Bu_init 9 = .ok (.putfield 9, 3) := by decide +kernel
theorem d_Bu_init_12 : decode b_Bu_init 12 = .ok (.aload_n 0, 1) := by decide +kernel
theorem d_Bu_init_13 : decode b_Bu_init 13 = .ok (.bipush 50, 2) := by decide +kernel
theorem d_Bu_init_15 : decode b_Bu_init 15 = .ok (.newarray .int, 2) := by decide +kernel
theorem d_Bu_init_17 : decode b_Bu_init 17 = .ok (.putfield 15, 3) := by decide +kernel
theorem d_Bu_init_20 : decode b_Bu_init 20 = .ok (.aload_n 0, 1) := by decide +kernel
theorem d_Bu_init_21 : decode b_Bu_init 21 = .ok (.bipush 50, 2) := by decide +kernel
theorem d_Bu_init_23 : decode b_Bu_init 23 = .ok (.newarray .int, 2) := by decide +kernel
theorem d_Bu_init_25 : decode b_Bu_init 25 = .ok (.putfield 18, 3) := by decide +kernel
theorem d_Bu_init_28 : decode b_Bu_init 28 = .ok (.return_, 1) := by decide +kernel
theorem d_Bu_boundIn_0 : decode b_Bu_boundIn 0 = .ok (.aload_n 0, 1) := by decide +kernel
theorem d_Bu_boundIn_1 : decode b_Bu_boundIn 1 = .ok (.getfield 15, 3) := by decide +kernel
theorem d_Bu_boundIn_4 : decode b_Bu_boundIn 4 = .ok (.iload_n 1, 1) := by decide +kernel
theorem d_Bu_boundIn_5 : decode b_Bu_boundIn 5 = .ok (.iaload, 1) := by decide +kernel
theorem d_Bu_boundIn_6 : decode b_Bu_boundIn 6 = .ok (.aload_n 0, 1) := by decide +kernel
theorem d_Bu_boundIn_7 : decode b_Bu_boundIn 7 = .ok (.getfield 18, 3) := by decide +kernel
theorem d_Bu_boundIn_10 : decode b_Bu_boundIn 10 = .ok (.iload_n 1, 1) := by decide +kernel
theorem d_Bu_boundIn_11 : decode b_Bu_boundIn 11 = .ok (.iaload, 1) := by decide +kernel
theorem d_Bu_boundIn_12 : decode b_Bu_boundIn 12 = .ok (.iadd, 1) := by decide +kernel
theorem d_Bu_boundIn_13 : decode b_Bu_boundIn 13 = .ok (.ireturn, 1) := by decide +kernel
theorem d_Bu_freeIn_0 : decode b_Bu_freeIn 0 = .ok (.aload_n 0, 1) := by decide +kernel
theorem d_Bu_freeIn_1 : decode b_Bu_freeIn 1 = .ok (.getfield 9, 3) := by decide +kernel
theorem d_Bu_freeIn_4 : decode b_Bu_freeIn 4 = .ok (.iload_n 1, 1) := by decide +kernel
theorem d_Bu_freeIn_5 : decode b_Bu_freeIn 5 = .ok (.iaload, 1) := by decide +kernel
theorem d_Bu_freeIn_6 : decode b_Bu_freeIn 6 = .ok (.aload_n 0, 1) := by decide +kernel
theorem d_Bu_freeIn_7 : decode b_Bu_freeIn 7 = .ok (.iload_n 1, 1) := by decide +kernel
theorem d_Bu_freeIn_8 : decode b_Bu_freeIn 8 = .ok (.invokevirtual 21, 3) := by decide +kernel
theorem d_Bu_freeIn_11 : decode b_Bu_freeIn 11 = .ok (.isub, 1) := by decide +kernel
theorem d_Bu_freeIn_12 : decode b_Bu_freeIn 12 = .ok (.ireturn, 1) := by decide +kernel
theorem d_Or_init_0 : decode b_Or_init 0 = .ok (.aload_n 0, 1) := by decide +kernel
theorem d_Or_init_1 : decode b_Or_init 1 = .ok (.invokespecial 3, 3) := by decide +kernel
theorem d_Or_init_4 : decode b_Or_init 4 = .ok (.aload_n 0, 1) := by decide +kernel
theorem d_Or_init_5 : decode b_Or_init 5 = .ok (.bipush 60, 2) := by decide +kernel
theorem d_Or_init_7 : decode b_Or_init 7 = .ok (.newarray .int, 2) := by decide +kernel
theorem d_Or_init_9 : decode b_Or_init 9 = .ok (.putfield 9, 3) := by decide +kernel
theorem d_Or_init_12 : decode b_Or_init 12 = .ok (.aload_n 0, 1) := by decide +kernel
theorem d_Or_init_13 : decode b_Or_init 13 = .ok (.bipush 60, 2) := by decide +kernel
theorem d_Or_init_15 : decode b_Or_init 15 = .ok (.newarray .int, 2) := by decide +kernel
theorem d_Or_init_17 : decode b_Or_init 17 = .ok (.putfield 15, 3) := by decide +kernel
theorem d_Or_init_20 : decode b_Or_init 20 = .ok (.aload_n 0, 1) := by decide +kernel
theorem d_Or_init_21 : decode b_Or_init 21 = .ok (.bipush 60, 2) := by decide +kernel
theorem d_Or_init_23 : decode b_Or_init 23 = .ok (.newarray .boolean, 2) := by decide +kernel
theorem d_Or_init_25 : decode b_Or_init 25 = .ok (.putfield 18, 3) := by decide +kernel
theorem d_Or_init_28 : decode b_Or_init 28 = .ok (.aload_n 0, 1) := by decide +kernel
theorem d_Or_init_29 : decode b_Or_init 29 = .ok (.iconst 0, 1) := by decide +kernel
theorem d_Or_init_30 : decode b_Or_init 30 = .ok (.putfield 22, 3) := by decide +kernel
theorem d_Or_init_33 : decode b_Or_init 33 = .ok (.return_, 1) := by decide +kernel
theorem d_Or_add_0 : decode b_Or_add 0 = .ok (.aload_n 0, 1) := by decide +kernel
theorem d_Or_add_1 : decode b_Or_add 1 = .ok (.getfield 9, 3) := by decide +kernel
theorem d_Or_add_4 : decode b_Or_add 4 = .ok (.aload_n 0, 1) := by decide +kernel
theorem d_Or_add_5 : decode b_Or_add 5 = .ok (.getfield 22, 3) := by decide +kernel
theorem d_Or_add_8 : decode b_Or_add 8 = .ok (.iload_n 1, 1) := by decide +kernel
theorem d_Or_add_9 : decode b_Or_add 9 = .ok (.iastore, 1) := by decide +kernel
theorem d_Or_add_10 : decode b_Or_add 10 = .ok (.aload_n 0, 1) := by decide +kernel
theorem d_Or_add_11 : decode b_Or_add 11 = .ok (.getfield 15, 3) := by decide +kernel
theorem d_Or_add_14 : decode b_Or_add 14 = .ok (.aload_n 0, 1) := by decide +kernel
theorem d_Or_add_15 : decode b_Or_add 15 = .ok (.getfield 22, 3) := by decide +kernel
theorem d_Or_add_18 : decode b_Or_add 18 = .ok (.iload_n 2, 1) := by decide +kernel
theorem d_Or_add_19 : decode b_Or_add 19 = .ok (.iastore, 1) := by decide +kernel
theorem d_Or_add_20 : decode b_Or_add 20 = .ok (.aload_n 0, 1) := by decide +kernel
theorem d_Or_add_21 : decode b_Or_add 21 = .ok (.getfield 18, 3) := by decide +kernel
theorem d_Or_add_24 : decode b_Or_add 24 = .ok (.aload_n 0, 1) := by decide +kernel
theorem d_Or_add_25 : decode b_Or_add 25 = .ok (.getfield 22, 3) := by decide +kernel
theorem d_Or_add_28 : decode b_Or_add 28 = .ok (.iconst 1, 1) := by decide +kernel
theorem d_Or_add_29 : decode b_Or_add 29 = .ok (.bastore, 1) := by decide +kernel
theorem d_Or_add_30 : decode b_Or_add 30 = .ok (.aload_n 0, 1) := by decide +kernel
theorem d_Or_add_31 : decode b_Or_add 31 = .ok (.dup, 1) := by decide +kernel
theorem d_Or_add_32 : decode b_Or_add 32 = .ok (.getfield 22, 3) := by decide +kernel
theorem d_Or_add_35 : decode b_Or_add 35 = .ok (.iconst 1, 1) := by decide +kernel
theorem d_Or_add_36 : decode b_Or_add 36 = .ok (.iadd, 1) := by decide +kernel
theorem d_Or_add_37 : decode b_Or_add 37 = .ok (.putfield 22, 3) := by decide +kernel
theorem d_Or_add_40 : decode b_Or_add 40 = .ok (.aload_n 0, 1) := by decide +kernel
theorem d_Or_add_41 : decode b_Or_add 41 = .ok (.getfield 22, 3) := by decide +kernel
theorem d_Or_add_44 : decode b_Or_add 44 = .ok (.iconst 1, 1) := by decide +kernel
theorem d_Or_add_45 : decode b_Or_add 45 = .ok (.isub, 1) := by decide +kernel
theorem d_Or_add_46 : decode b_Or_add 46 = .ok (.ireturn, 1) := by decide +kernel
theorem d_Or_bandOf_0 : decode b_Or_bandOf 0 = .ok (.aload_n 0, 1) := by decide +kernel
theorem d_Or_bandOf_1 : decode b_Or_bandOf 1 = .ok (.getfield 15, 3) := by decide +kernel
theorem d_Or_bandOf_4 : decode b_Or_bandOf 4 = .ok (.iload_n 1, 1) := by decide +kernel
theorem d_Or_bandOf_5 : decode b_Or_bandOf 5 = .ok (.iaload, 1) := by decide +kernel
theorem d_Or_bandOf_6 : decode b_Or_bandOf 6 = .ok (.i2l, 1) := by decide +kernel
theorem d_Or_bandOf_7 : decode b_Or_bandOf 7 = .ok (.iload_n 2, 1) := by decide +kernel
theorem d_Or_bandOf_8 : decode b_Or_bandOf 8 = .ok (.i2l, 1) := by decide +kernel
theorem d_Or_bandOf_9 : decode b_Or_bandOf 9 = .ok (.lmul, 1) := by decide +kernel
theorem d_Or_bandOf_10 : decode b_Or_bandOf 10 = .ok (.ldc2_w 26, 3) := by decide +kernel
theorem d_Or_bandOf_13 : decode b_Or_bandOf 13 = .ok (.ldiv, 1) := by decide +kernel
theorem d_Or_bandOf_14 : decode b_Or_bandOf 14 = .ok (.lreturn, 1) := by decide +kernel
theorem d_Or_anyOpenIn_0 : decode b_Or_anyOpenIn 0 = .ok (.iconst 0, 1) := by decide +kernel
theorem d_Or_anyOpenIn_1 : decode b_Or_anyOpenIn 1 = .ok (.istore_n 2, 1) := by decide +kernel
theorem d_Or_anyOpenIn_2 : decode b_Or_anyOpenIn 2 = .ok (.iload_n 2, 1) := by decide +kernel
theorem d_Or_anyOpenIn_3 : decode b_Or_anyOpenIn 3 = .ok (.aload_n 0, 1) := by decide +kernel
theorem d_Or_anyOpenIn_4 : decode b_Or_anyOpenIn 4 = .ok (.getfield 22, 3) := by decide +kernel
theorem d_Or_anyOpenIn_7 : decode b_Or_anyOpenIn 7 = .ok (.if_icmp .ge 33, 3) := by decide +kernel
theorem d_Or_anyOpenIn_10 : decode b_Or_anyOpenIn 10 = .ok (.aload_n 0, 1) := by decide +kernel
theorem d_Or_anyOpenIn_11 : decode b_Or_anyOpenIn 11 = .ok (.getfield 18, 3) := by decide +kernel
theorem d_Or_anyOpenIn_14 : decode b_Or_anyOpenIn 14 = .ok (.iload_n 2, 1) := by decide +kernel
theorem d_Or_anyOpenIn_15 : decode b_Or_anyOpenIn 15 = .ok (.baload, 1) := by decide +kernel
theorem d_Or_anyOpenIn_16 : decode b_Or_anyOpenIn 16 = .ok (.ifCond .eq 18, 3) := by decide +kernel
theorem d_Or_anyOpenIn_19 : decode b_Or_anyOpenIn 19 = .ok (.aload_n 0, 1) := by decide +kernel
theorem d_Or_anyOpenIn_20 : decode b_Or_anyOpenIn 20 = .ok (.getfield 9, 3) := by decide +kernel
theorem d_Or_anyOpenIn_23 : decode b_Or_anyOpenIn 23 = .ok (.iload_n 2, 1) := by decide +kernel
theorem d_Or_anyOpenIn_24 : decode b_Or_anyOpenIn 24 = .ok (.iaload, 1) := by decide +kernel
theorem d_Or_anyOpenIn_25 : decode b_Or_anyOpenIn 25 = .ok (.bipush 10, 2) := by decide +kernel
theorem d_Or_anyOpenIn_27 : decode b_Or_anyOpenIn 27 = .ok (.idiv, 1) := by decide +kernel
theorem d_Or_anyOpenIn_28 : decode b_Or_anyOpenIn 28 = .ok (.iload_n 1, 1) := by decide +kernel
theorem d_Or_anyOpenIn_29 : decode b_Or_anyOpenIn 29 = .ok (.if_icmp .ne 5, 3) := by decide +kernel
theorem d_Or_anyOpenIn_32 : decode b_Or_anyOpenIn 32 = .ok (.iconst 1, 1) := by decide +kernel
theorem d_Or_anyOpenIn_33 : decode b_Or_anyOpenIn 33 = .ok (.ireturn, 1) := by decide +kernel
theorem d_Or_anyOpenIn_34 : decode b_Or_anyOpenIn 34 = .ok (.iinc 2 1, 3) := by decide +kernel
theorem d_Or_anyOpenIn_37 : decode b_Or_anyOpenIn 37 = .ok (.goto (-35), 3) := by decide +kernel
theorem d_Or_anyOpenIn_40 : decode b_Or_anyOpenIn 40 = .ok (.iconst 0, 1) := by decide +kernel
theorem d_Or_anyOpenIn_41 : decode b_Or_anyOpenIn 41 = .ok (.ireturn, 1) := by decide +kernel
theorem d_Ta_init_0 : decode b_Ta_init 0 = .ok (.aload_n 0, 1) := by decide +kernel
theorem d_Ta_init_1 : decode b_Ta_init 1 = .ok (.invokespecial 3, 3) := by decide +kernel
theorem d_Ta_init_4 : decode b_Ta_init 4 = .ok (.aload_n 0, 1) := by decide +kernel
theorem d_Ta_init_5 : decode b_Ta_init 5 = .ok (.sipush 200, 3) := by decide +kernel
theorem d_Ta_init_8 : decode b_Ta_init 8 = .ok (.newarray .int, 2) := by decide +kernel
theorem d_Ta_init_10 : decode b_Ta_init 10 = .ok (.putfield 9, 3) := by decide +kernel
theorem d_Ta_init_13 : decode b_Ta_init 13 = .ok (.aload_n 0, 1) := by decide +kernel
theorem d_Ta_init_14 : decode b_Ta_init 14 = .ok (.iconst 0, 1) := by decide +kernel
theorem d_Ta_init_15 : decode b_Ta_init 15 = .ok (.putfield 15, 3) := by decide +kernel
theorem d_Ta_init_18 : decode b_Ta_init 18 = .ok (.return_, 1) := by decide +kernel
theorem d_Ta_write_0 : decode b_Ta_write 0 = .ok (.iload_n 3, 1) := by decide +kernel
theorem d_Ta_write_1 : decode b_Ta_write 1 = .ok (.iconst 1, 1) := by decide +kernel
theorem d_Ta_write_2 : decode b_Ta_write 2 = .ok (.isub, 1) := by decide +kernel
theorem d_Ta_write_3 : decode b_Ta_write 3 = .ok (.istore 4, 2) := by decide +kernel
theorem d_Ta_write_5 : decode b_Ta_write 5 = .ok (.iload 4, 2) := by decide +kernel
theorem d_Ta_write_7 : decode b_Ta_write 7 = .ok (.ifCond .lt 40, 3) := by decide +kernel
theorem d_Ta_write_10 : decode b_Ta_write 10 = .ok (.aload_n 0, 1) := by decide +kernel
theorem d_Ta_write_11 : decode b_Ta_write 11 = .ok (.getfield 9, 3) := by decide +kernel
theorem d_Ta_write_14 : decode b_Ta_write 14 = .ok (.aload_n 0, 1) := by decide +kernel
theorem d_Ta_write_15 : decode b_Ta_write 15 = .ok (.getfield 15, 3) := by decide +kernel
theorem d_Ta_write_18 : decode b_Ta_write 18 = .ok (.lload_n 1, 1) := by decide +kernel
theorem d_Ta_write_19 : decode b_Ta_write 19 = .ok (.bipush 8, 2) := by decide +kernel
theorem d_Ta_write_21 : decode b_Ta_write 21 = .ok (.iload 4, 2) := by decide +kernel
theorem d_Ta_write_23 : decode b_Ta_write 23 = .ok (.imul, 1) := by decide +kernel
theorem d_Ta_write_24 : decode b_Ta_write 24 = .ok (.lushr, 1) := by decide +kernel
theorem d_Ta_write_25 : decode b_Ta_write 25 = .ok (.l2i, 1) := by decide +kernel
theorem d_Ta_write_26 : decode b_Ta_write 26 = .ok (.sipush 255, 3) := by decide +kernel
theorem d_Ta_write_29 : decode b_Ta_write 29 = .ok (.iand, 1) := by decide +kernel
theorem d_Ta_write_30 : decode b_Ta_write 30 = .ok (.iastore, 1) := by decide +kernel
theorem d_Ta_write_31 : decode b_Ta_write 31 = .ok (.aload_n 0, 1) := by decide +kernel
theorem d_Ta_write_32 : decode b_Ta_write 32 = .ok (.dup, 1) := by decide +kernel
theorem d_Ta_write_33 : decode b_Ta_write 33 = .ok (.getfield 15, 3) := by decide +kernel
theorem d_Ta_write_36 : decode b_Ta_write 36 = .ok (.iconst 1, 1) := by decide +kernel
theorem d_Ta_write_37 : decode b_Ta_write 37 = .ok (.iadd, 1) := by decide +kernel
theorem d_Ta_write_38 : decode b_Ta_write 38 = .ok (.putfield 15, 3) := by decide +kernel
theorem d_Ta_write_41 : decode b_Ta_write 41 = .ok (.iinc 4 (-1), 3) := by decide +kernel
theorem d_Ta_write_44 : decode b_Ta_write 44 = .ok (.goto (-39), 3) := by decide +kernel
theorem d_Ta_write_47 : decode b_Ta_write 47 = .ok (.return_, 1) := by decide +kernel
theorem d_Re_init_0 : decode b_Re_init 0 = .ok (.aload_n 0, 1) := by decide +kernel
theorem d_Re_init_1 : decode b_Re_init 1 = .ok (.invokespecial 3, 3) := by decide +kernel
theorem d_Re_init_4 : decode b_Re_init 4 = .ok (.aload_n 0, 1) := by decide +kernel
theorem d_Re_init_5 : decode b_Re_init 5 = .ok (.bipush 10, 2) := by decide +kernel
theorem d_Re_init_7 : decode b_Re_init 7 = .ok (.newarray .int, 2) := by decide +kernel
theorem d_Re_init_9 : decode b_Re_init 9 = .ok (.putfield 9, 3) := by decide +kernel
theorem d_Re_init_12 : decode b_Re_init 12 = .ok (.aload_n 0, 1) := by decide +kernel
theorem d_Re_init_13 : decode b_Re_init 13 = .ok (.bipush 10, 2) := by decide +kernel
theorem d_Re_init_15 : decode b_Re_init 15 = .ok (.newarray .int, 2) := by decide +kernel
theorem d_Re_init_17 : decode b_Re_init 17 = .ok (.putfield 15, 3) := by decide +kernel
theorem d_Re_init_20 : decode b_Re_init 20 = .ok (.aload_n 0, 1) := by decide +kernel
theorem d_Re_init_21 : decode b_Re_init 21 = .ok (.bipush 10, 2) := by decide +kernel
theorem d_Re_init_23 : decode b_Re_init 23 = .ok (.newarray .boolean, 2) := by decide +kernel
theorem d_Re_init_25 : decode b_Re_init 25 = .ok (.putfield 18, 3) := by decide +kernel
theorem d_Re_init_28 : decode b_Re_init 28 = .ok (.aload_n 0, 1) := by decide +kernel
theorem d_Re_init_29 : decode b_Re_init 29 = .ok (.iconst 0, 1) := by decide +kernel
theorem d_Re_init_30 : decode b_Re_init 30 = .ok (.putfield 22, 3) := by decide +kernel
theorem d_Re_init_33 : decode b_Re_init 33 = .ok (.aload_n 0, 1) := by decide +kernel
theorem d_Re_init_34 : decode b_Re_init 34 = .ok (.iconst 0, 1) := by decide +kernel
theorem d_Re_init_35 : decode b_Re_init 35 = .ok (.putfield 26, 3) := by decide +kernel
theorem d_Re_init_38 : decode b_Re_init 38 = .ok (.aload_n 0, 1) := by decide +kernel
theorem d_Re_init_39 : decode b_Re_init 39 = .ok (.iconst 0, 1) := by decide +kernel
theorem d_Re_init_40 : decode b_Re_init 40 = .ok (.putfield 29, 3) := by decide +kernel
theorem d_Re_init_43 : decode b_Re_init 43 = .ok (.aload_n 0, 1) := by decide +kernel
theorem d_Re_init_44 : decode b_Re_init 44 = .ok (.iconst 0, 1) := by decide +kernel
theorem d_Re_init_45 : decode b_Re_init 45 = .ok (.putfield 32, 3) := by decide +kernel
theorem d_Re_init_48 : decode b_Re_init 48 = .ok (.aload_n 0, 1) := by decide +kernel
theorem d_Re_init_49 : decode b_Re_init 49 = .ok (.iconst 0, 1) := by decide +kernel
theorem d_Re_init_50 : decode b_Re_init 50 = .ok (.putfield 35, 3) := by decide +kernel
theorem d_Re_init_53 : decode b_Re_init 53 = .ok (.return_, 1) := by decide +kernel
theorem d_Re_read_0 : decode b_Re_read 0 = .ok (.aload_n 0, 1) := by decide +kernel
theorem d_Re_read_1 : decode b_Re_read 1 = .ok (.invokevirtual 38, 3) := by decide +kernel
theorem d_Re_read_4 : decode b_Re_read 4 = .ok (.iconst 0, 1) := by decide +kernel
theorem d_Re_read_5 : decode b_Re_read 5 = .ok (.istore_n 2, 1) := by decide +kernel
theorem d_Re_read_6 : decode b_Re_read 6 = .ok (.iload_n 2, 1) := by decide +kernel
theorem d_Re_read_7 : decode b_Re_read 7 = .ok (.aload_n 1, 1) := by decide +kernel
theorem d_Re_read_8 : decode b_Re_read 8 = .ok (.getfield 41, 3) := by decide +kernel
theorem d_Re_read_11 : decode b_Re_read 11 = .ok (.if_icmp .ge 24, 3) := by decide +kernel
theorem d_Re_read_14 : decode b_Re_read 14 = .ok (.aload_n 0, 1) := by decide +kernel
theorem d_Re_read_15 : decode b_Re_read 15 = .ok (.aload_n 1, 1) := by decide +kernel
theorem d_Re_read_16 : decode b_Re_read 16 = .ok (.getfield 46, 3) := by decide +kernel
theorem d_Re_read_19 : decode b_Re_read 19 = .ok (.iload_n 2, 1) := by decide +kernel
theorem d_Re_read_20 : decode b_Re_read 20 = .ok (.iaload, 1) := by decide +kernel
theorem d_Re_read_21 : decode b_Re_read 21 = .ok (.invokevirtual 49, 3) := by decide +kernel
theorem d_Re_read_24 : decode b_Re_read 24 = .ok (.ifCond .ne 5, 3) := by decide +kernel
theorem d_Re_read_27 : decode b_Re_read 27 = .ok (.iload_n 2, 1) := by decide +kernel
theorem d_Re_read_28 : decode b_Re_read 28 = .ok (.ireturn, 1) := by decide +kernel
theorem d_Re_read_29 : decode b_Re_read 29 = .ok (.iinc 2 1, 3) := by decide +kernel
theorem d_Re_read_32 : decode b_Re_read 32 = .ok (.goto (-26), 3) := by decide +kernel
theorem d_Re_read_35 : decode b_Re_read 35 = .ok (.aload_n 0, 1) := by decide +kernel
theorem d_Re_read_36 : decode b_Re_read 36 = .ok (.getfield 26, 3) := by decide +kernel
theorem d_Re_read_39 : decode b_Re_read 39 = .ok (.ifCond .ne 7, 3) := by decide +kernel
theorem d_Re_read_42 : decode b_Re_read 42 = .ok (.iconst (-1), 1) := by decide +kernel
theorem d_Re_read_43 : decode b_Re_read 43 = .ok (.goto 7, 3) := by decide +kernel
theorem d_Re_read_46 : decode b_Re_read 46 = .ok (.aload_n 1, 1) := by decide +kernel
theorem d_Re_read_47 : decode b_Re_read 47 = .ok (.getfield 41, 3) := by decide +kernel
theorem d_Re_read_50 : decode b_Re_read 50 = .ok (.ireturn, 1) := by decide +kernel
theorem d_Re_startAnew_0 : decode b_Re_startAnew 0 = .ok (.iconst 0, 1) := by decide +kernel
theorem d_Re_startAnew_1 : decode b_Re_startAnew 1 = .ok (.istore_n 1, 1) := by decide +kernel
theorem d_Re_startAnew_2 : decode b_Re_startAnew 2 = .ok (.iload_n 1, 1) := by decide +kernel
theorem d_Re_startAnew_3 : decode b_Re_startAnew 3 = .ok (.bipush 10, 2) := by decide +kernel
theorem d_Re_startAnew_5 : decode b_Re_startAnew 5 = .ok (.if_icmp .ge 30, 3) := by decide +kernel
theorem d_Re_startAnew_8 : decode b_Re_startAnew 8 = .ok (.aload_n 0, 1) := by decide +kernel
theorem d_Re_startAnew_9 : decode b_Re_startAnew 9 = .ok (.getfield 9, 3) := by decide +kernel
theorem d_Re_startAnew_12 : decode b_Re_startAnew 12 = .ok (.iload_n 1, 1) := by decide +kernel
theorem d_Re_startAnew_13 : decode b_Re_startAnew 13 = .ok (.iconst 0, 1) := by decide +kernel
theorem d_Re_startAnew_14 : decode b_Re_startAnew 14 = .ok (.iastore, 1) := by decide +kernel
theorem d_Re_startAnew_15 : decode b_Re_startAnew 15 = .ok (.aload_n 0, 1) := by decide +kernel
theorem d_Re_startAnew_16 : decode b_Re_startAnew 16 = .ok (.getfield 15, 3) := by decide +kernel
theorem d_Re_startAnew_19 : decode b_Re_startAnew 19 = .ok (.iload_n 1, 1) := by decide +kernel
theorem d_Re_startAnew_20 : decode b_Re_startAnew 20 = .ok (.iconst 0, 1) := by decide +kernel
theorem d_Re_startAnew_21 : decode b_Re_startAnew 21 = .ok (.iastore, 1) := by decide +kernel
theorem d_Re_startAnew_22 : decode b_Re_startAnew 22 = .ok (.aload_n 0, 1) := by decide +kernel
theorem d_Re_startAnew_23 : decode b_Re_startAnew 23 = .ok (.getfield 18, 3) := by decide +kernel
theorem d_Re_startAnew_26 : decode b_Re_startAnew 26 = .ok (.iload_n 1, 1) := by decide +kernel
theorem d_Re_startAnew_27 : decode b_Re_startAnew 27 = .ok (.iconst 0, 1) := by decide +kernel
theorem d_Re_startAnew_28 : decode b_Re_startAnew 28 = .ok (.bastore, 1) := by decide +kernel
theorem d_Re_startAnew_29 : decode b_Re_startAnew 29 = .ok (.iinc 1 1, 3) := by decide +kernel
theorem d_Re_startAnew_32 : decode b_Re_startAnew 32 = .ok (.goto (-30), 3) := by decide +kernel
theorem d_Re_startAnew_35 : decode b_Re_startAnew 35 = .ok (.aload_n 0, 1) := by decide +kernel
theorem d_Re_startAnew_36 : decode b_Re_startAnew 36 = .ok (.iconst 0, 1) := by decide +kernel
theorem d_Re_startAnew_37 : decode b_Re_startAnew 37 = .ok (.putfield 22, 3) := by decide +kernel
theorem d_Re_startAnew_40 : decode b_Re_startAnew 40 = .ok (.aload_n 0, 1) := by decide +kernel
theorem d_Re_startAnew_41 : decode b_Re_startAnew 41 = .ok (.iconst 0, 1) := by decide +kernel
theorem d_Re_startAnew_42 : decode b_Re_startAnew 42 = .ok (.putfield 26, 3) := by decide +kernel
theorem d_Re_startAnew_45 : decode b_Re_startAnew 45 = .ok (.aload_n 0, 1) := by decide +kernel
theorem d_Re_startAnew_46 : decode b_Re_startAnew 46 = .ok (.invokevirtual 53, 3) := by decide +kernel
theorem d_Re_startAnew_49 : decode b_Re_startAnew 49 = .ok (.return_, 1) := by decide +kernel
theorem d_Re_startNumber_0 : decode b_Re_startNumber 0 = .ok (.aload_n 0, 1) := by decide +kernel
theorem d_Re_startNumber_1 : decode b_Re_startNumber 1 = .ok (.iconst 0, 1) := by decide +kernel
theorem d_Re_startNumber_2 : decode b_Re_startNumber 2 = .ok (.putfield 32, 3) := by decide +kernel
theorem d_Re_startNumber_5 : decode b_Re_startNumber 5 = .ok (.aload_n 0, 1) := by decide +kernel
theorem d_Re_startNumber_6 : decode b_Re_startNumber 6 = .ok (.iconst 0, 1) := by decide +kernel
theorem d_Re_startNumber_7 : decode b_Re_startNumber 7 = .ok (.putfield 35, 3) := by decide +kernel
theorem d_Re_startNumber_10 : decode b_Re_startNumber 10 = .ok (.return_, 1) := by decide +kernel
theorem d_Re_takes_0 : decode b_Re_takes 0 = .ok (.aload_n 0, 1) := by decide +kernel
theorem d_Re_takes_1 : decode b_Re_takes 1 = .ok (.getfield 26, 3) := by decide +kernel
theorem d_Re_takes_4 : decode b_Re_takes 4 = .ok (.tableswitch 70 0 2 #[28, 34, 51], 28) := by decide +kernel
theorem d_Re_takes_32 : decode b_Re_takes 32 = .ok (.aload_n 0, 1) := by decide +kernel
theorem d_Re_takes_33 : decode b_Re_takes 33 = .ok (.iload_n 1, 1) := by decide +kernel
theorem d_Re_takes_34 : decode b_Re_takes 34 = .ok (.invokevirtual 56, 3) := by decide +kernel
theorem d_Re_takes_37 : decode b_Re_takes 37 = .ok (.ireturn, 1) := by decide +kernel
theorem d_Re_takes_38 : decode b_Re_takes 38 = .ok (.aload_n 0, 1) := by decide +kernel
theorem d_Re_takes_39 : decode b_Re_takes 39 = .ok (.iconst 2, 1) := by decide +kernel
theorem d_Re_takes_40 : decode b_Re_takes 40 = .ok (.putfield 26, 3) := by decide +kernel
theorem d_Re_takes_43 : decode b_Re_takes 43 = .ok (.iload_n 1, 1) := by decide +kernel
theorem d_Re_takes_44 : decode b_Re_takes 44 = .ok (.bipush 58, 2) := by decide +kernel
theorem d_Re_takes_46 : decode b_Re_takes 46 = .ok (.if_icmp .ne 7, 3) := by decide +kernel
theorem d_Re_takes_49 : decode b_Re_takes 49 = .ok (.iconst 1, 1) := by decide +kernel
theorem d_Re_takes_50 : decode b_Re_takes 50 = .ok (.goto 4, 3) := by decide +kernel
theorem d_Re_takes_53 : decode b_Re_takes 53 = .ok (.iconst 0, 1) := by decide +kernel
theorem d_Re_takes_54 : decode b_Re_takes 54 = .ok (.ireturn, 1) := by decide +kernel
theorem d_Re_takes_55 : decode b_Re_takes 55 = .ok (.iload_n 1, 1) := by decide +kernel
theorem d_Re_takes_56 : decode b_Re_takes 56 = .ok (.bipush 43, 2) := by decide +kernel
theorem d_Re_takes_58 : decode b_Re_takes 58 = .ok (.if_icmp .ne 10, 3) := by decide +kernel
theorem d_Re_takes_61 : decode b_Re_takes 61 = .ok (.aload_n 0, 1) := by decide +kernel
theorem d_Re_takes_62 : decode b_Re_takes 62 = .ok (.invokevirtual 59, 3) := by decide +kernel
theorem d_Re_takes_65 : decode b_Re_takes 65 = .ok (.goto 8, 3) := by decide +kernel
theorem d_Re_takes_68 : decode b_Re_takes 68 = .ok (.aload_n 0, 1) := by decide +kernel
theorem d_Re_takes_69 : decode b_Re_takes 69 = .ok (.iload_n 1, 1) := by decide +kernel
theorem d_Re_takes_70 : decode b_Re_takes 70 = .ok (.invokevirtual 63, 3) := by decide +kernel
theorem d_Re_takes_73 : decode b_Re_takes 73 = .ok (.ireturn, 1) := by decide +kernel
theorem d_Re_takes_74 : decode b_Re_takes 74 = .ok (.iload_n 1, 1) := by decide +kernel
theorem d_Re_takes_75 : decode b_Re_takes 75 = .ok (.bipush 59, 2) := by decide +kernel
theorem d_Re_takes_77 : decode b_Re_takes 77 = .ok (.if_icmp .ne 10, 3) := by decide +kernel
theorem d_Re_takes_80 : decode b_Re_takes 80 = .ok (.aload_n 0, 1) := by decide +kernel
theorem d_Re_takes_81 : decode b_Re_takes 81 = .ok (.invokevirtual 66, 3) := by decide +kernel
theorem d_Re_takes_84 : decode b_Re_takes 84 = .ok (.goto 8, 3) := by decide +kernel
theorem d_Re_takes_87 : decode b_Re_takes 87 = .ok (.aload_n 0, 1) := by decide +kernel
theorem d_Re_takes_88 : decode b_Re_takes 88 = .ok (.iload_n 1, 1) := by decide +kernel
theorem d_Re_takes_89 : decode b_Re_takes 89 = .ok (.invokevirtual 63, 3) := by decide +kernel
theorem d_Re_takes_92 : decode b_Re_takes 92 = .ok (.ireturn, 1) := by decide +kernel
theorem d_Re_takesKind_0 : decode b_Re_takesKind 0 = .ok (.iload_n 1, 1) := by decide +kernel
theorem d_Re_takesKind_1 : decode b_Re_takesKind 1 = .ok (.invokestatic 69, 3) := by decide +kernel
theorem d_Re_takesKind_4 : decode b_Re_takesKind 4 = .ok (.ifCond .eq 15, 3) := by decide +kernel
theorem d_Re_takesKind_7 : decode b_Re_takesKind 7 = .ok (.aload_n 0, 1) := by decide +kernel
theorem d_Re_takesKind_8 : decode b_Re_takesKind 8 = .ok (.getfield 18, 3) := by decide +kernel
theorem d_Re_takesKind_11 : decode b_Re_takesKind 11 = .ok (.iload_n 1, 1) := by decide +kernel
theorem d_Re_takesKind_12 : decode b_Re_takesKind 12 = .ok (.bipush 48, 2) := by decide +kernel
theorem d_Re_takesKind_14 : decode b_Re_takesKind 14 = .ok (.isub, 1) := by decide +kernel
theorem d_Re_takesKind_15 : decode b_Re_takesKind 15 = .ok (.baload, 1) := by decide +kernel
theorem d_Re_takesKind_16 : decode b_Re_takesKind 16 = .ok (.ifCond .eq 5, 3) := by decide +kernel
theorem d_Re_takesKind_19 : decode b_Re_takesKind 19 = .ok (.iconst 0, 1) := by decide +kernel
theorem d_Re_takesKind_20 : decode b_Re_takesKind 20 = .ok (.ireturn, 1) := by decide +kernel
theorem d_Re_takesKind_21 : decode b_Re_takesKind 21 = .ok (.aload_n 0, 1) := by decide +kernel
theorem d_Re_takesKind_22 : decode b_Re_takesKind 22 = .ok (.iload_n 1, 1) := by decide +kernel
theorem d_Re_takesKind_23 : decode b_Re_takesKind 23 = .ok (.bipush 48, 2) := by decide +kernel
theorem d_Re_takesKind_25 : decode b_Re_takesKind 25 = .ok (.isub, 1) := by decide +kernel
theorem d_Re_takesKind_26 : decode b_Re_takesKind 26 = .ok (.putfield 29, 3) := by decide +kernel
theorem d_Re_takesKind_29 : decode b_Re_takesKind 29 = .ok (.aload_n 0, 1) := by decide +kernel
theorem d_Re_takesKind_30 : decode b_Re_takesKind 30 = .ok (.getfield 18, 3) := by decide +kernel
theorem d_Re_takesKind_33 : decode b_Re_takesKind 33 = .ok (.aload_n 0, 1) := by decide +kernel
theorem d_Re_takesKind_34 : decode b_Re_takesKind 34 = .ok (.getfield 29, 3) := by decide +kernel
theorem d_Re_takesKind_37 : decode b_Re_takesKind 37 = .ok (.iconst 1, 1) := by decide +kernel
theorem d_Re_takesKind_38 : decode b_Re_takesKind 38 = .ok (.bastore, 1) := by decide +kernel
theorem d_Re_takesKind_39 : decode b_Re_takesKind 39 = .ok (.aload_n 0, 1) := by decide +kernel
theorem d_Re_takesKind_40 : decode b_Re_takesKind 40 = .ok (.iconst 1, 1) := by decide +kernel
theorem d_Re_takesKind_41 : decode b_Re_takesKind 41 = .ok (.putfield 26, 3) := by decide +kernel
theorem d_Re_takesKind_44 : decode b_Re_takesKind 44 = .ok (.iconst 1, 1) := by decide +kernel
theorem d_Re_takesKind_45 : decode b_Re_takesKind 45 = .ok (.ireturn, 1) := by decide +kernel
theorem d_Re_takesDigit_0 : decode b_Re_takesDigit 0 = .ok (.aload_n 0, 1) := by decide +kernel
theorem d_Re_takesDigit_1 : decode b_Re_takesDigit 1 = .ok (.getfield 35, 3) := by decide +kernel
theorem d_Re_takesDigit_4 : decode b_Re_takesDigit 4 = .ok (.ifCond .eq 19, 3) := by decide +kernel
theorem d_Re_takesDigit_7 : decode b_Re_takesDigit 7 = .ok (.aload_n 0, 1) := by decide +kernel
theorem d_Re_takesDigit_8 : decode b_Re_takesDigit 8 = .ok (.getfield 32, 3) := by decide +kernel
theorem d_Re_takesDigit_11 : decode b_Re_takesDigit 11 = .ok (.ifCond .le 16, 3) := by decide +kernel
theorem d_Re_takesDigit_14 : decode b_Re_takesDigit 14 = .ok (.aload_n 0, 1) := by decide +kernel
theorem d_Re_takesDigit_15 : decode b_Re_takesDigit 15 = .ok (.getfield 35, 3) := by decide +kernel
theorem d_Re_takesDigit_18 : decode b_Re_takesDigit 18 = .ok (.bipush 6, 2) := by decide +kernel
theorem d_Re_takesDigit_20 : decode b_Re_takesDigit 20 = .ok (.if_icmp .ge 7, 3) := by decide +kernel
theorem d_Re_takesDigit_23 : decode b_Re_takesDigit 23 = .ok (.iconst 1, 1) := by decide +kernel
theorem d_Re_takesDigit_24 : decode b_Re_takesDigit 24 = .ok (.goto 4, 3) := by decide +kernel
theorem d_Re_takesDigit_27 : decode b_Re_takesDigit 27 = .ok (.iconst 0, 1) := by decide +kernel
theorem d_Re_takesDigit_28 : decode b_Re_takesDigit 28 = .ok (.istore_n 2, 1) := by decide +kernel
theorem d_Re_takesDigit_29 : decode b_Re_takesDigit 29 = .ok (.iload_n 1, 1) := by decide +kernel
theorem d_Re_takesDigit_30 : decode b_Re_takesDigit 30 = .ok (.invokestatic 69, 3) := by decide +kernel
theorem d_Re_takesDigit_33 : decode b_Re_takesDigit 33 = .ok (.ifCond .eq 7, 3) := by decide +kernel
theorem d_Re_takesDigit_36 : decode b_Re_takesDigit 36 = .ok (.iload_n 2, 1) := by decide +kernel
theorem d_Re_takesDigit_37 : decode b_Re_takesDigit 37 = .ok (.ifCond .ne 5, 3) := by decide +kernel
theorem d_Re_takesDigit_40 : decode b_Re_takesDigit 40 = .ok (.iconst 0, 1) := by decide +kernel
theorem d_Re_takesDigit_41 : decode b_Re_takesDigit 41 = .ok (.ireturn, 1) := by decide +kernel
theorem d_Re_takesDigit_42 : decode b_Re_takesDigit 42 = .ok (.aload_n 0, 1) := by decide +kernel
theorem d_Re_takesDigit_43 : decode b_Re_takesDigit 43 = .ok (.aload_n 0, 1) := by decide +kernel
theorem d_Re_takesDigit_44 : decode b_Re_takesDigit 44 = .ok (.getfield 32, 3) := by decide +kernel
theorem d_Re_takesDigit_47 : decode b_Re_takesDigit 47 = .ok (.bipush 10, 2) := by decide +kernel
theorem d_Re_takesDigit_49 : decode b_Re_takesDigit 49 = .ok (.imul, 1) := by decide +kernel
theorem d_Re_takesDigit_50 : decode b_Re_takesDigit 50 = .ok (.iload_n 1, 1) := by decide +kernel
theorem d_Re_takesDigit_51 : decode b_Re_takesDigit 51 = .ok (.bipush 48, 2) := by decide +kernel
theorem d_Re_takesDigit_53 : decode b_Re_takesDigit 53 = .ok (.isub, 1) := by decide +kernel
theorem d_Re_takesDigit_54 : decode b_Re_takesDigit 54 = .ok (.iadd, 1) := by decide +kernel
theorem d_Re_takesDigit_55 : decode b_Re_takesDigit 55 = .ok (.putfield 32, 3) := by decide +kernel
theorem d_Re_takesDigit_58 : decode b_Re_takesDigit 58 = .ok (.aload_n 0, 1) := by decide +kernel
theorem d_Re_takesDigit_59 : decode b_Re_takesDigit 59 = .ok (.dup, 1) := by decide +kernel
theorem d_Re_takesDigit_60 : decode b_Re_takesDigit 60 = .ok (.getfield 35, 3) := by decide +kernel
theorem d_Re_takesDigit_63 : decode b_Re_takesDigit 63 = .ok (.iconst 1, 1) := by decide +kernel
theorem d_Re_takesDigit_64 : decode b_Re_takesDigit 64 = .ok (.iadd, 1) := by decide +kernel
theorem d_Re_takesDigit_65 : decode b_Re_takesDigit 65 = .ok (.putfield 35, 3) := by decide +kernel
theorem d_Re_takesDigit_68 : decode b_Re_takesDigit 68 = .ok (.iconst 1, 1) := by decide +kernel
theorem d_Re_takesDigit_69 : decode b_Re_takesDigit 69 = .ok (.ireturn, 1) := by decide +kernel
theorem d_Re_endsBase_0 : decode b_Re_endsBase 0 = .ok (.aload_n 0, 1) := by decide +kernel
theorem d_Re_endsBase_1 : decode b_Re_endsBase 1 = .ok (.getfield 35, 3) := by decide +kernel
theorem d_Re_endsBase_4 : decode b_Re_endsBase 4 = .ok (.ifCond .le 7, 3) := by decide +kernel
theorem d_Re_endsBase_7 : decode b_Re_endsBase 7 = .ok (.iconst 1, 1) := by decide +kernel
theorem d_Re_endsBase_8 : decode b_Re_endsBase 8 = .ok (.goto 4, 3) := by decide +kernel
theorem d_Re_endsBase_11 : decode b_Re_endsBase 11 = .ok (.iconst 0, 1) := by decide +kernel
theorem d_Re_endsBase_12 : decode b_Re_endsBase 12 = .ok (.istore_n 1, 1) := by decide +kernel
theorem d_Re_endsBase_13 : decode b_Re_endsBase 13 = .ok (.aload_n 0, 1) := by decide +kernel
theorem d_Re_endsBase_14 : decode b_Re_endsBase 14 = .ok (.getfield 9, 3) := by decide +kernel
theorem d_Re_endsBase_17 : decode b_Re_endsBase 17 = .ok (.aload_n 0, 1) := by decide +kernel
theorem d_Re_endsBase_18 : decode b_Re_endsBase 18 = .ok (.getfield 29, 3) := by decide +kernel
theorem d_Re_endsBase_21 : decode b_Re_endsBase 21 = .ok (.aload_n 0, 1) := by decide +kernel
theorem d_Re_endsBase_22 : decode b_Re_endsBase 22 = .ok (.getfield 32, 3) := by decide +kernel
theorem d_Re_endsBase_25 : decode b_Re_endsBase 25 = .ok (.iastore, 1) := by decide +kernel
theorem d_Re_endsBase_26 : decode b_Re_endsBase 26 = .ok (.aload_n 0, 1) := by decide +kernel
theorem d_Re_endsBase_27 : decode b_Re_endsBase 27 = .ok (.iconst 3, 1) := by decide +kernel
theorem d_Re_endsBase_28 : decode b_Re_endsBase 28 = .ok (.putfield 26, 3) := by decide +kernel
theorem d_Re_endsBase_31 : decode b_Re_endsBase 31 = .ok (.aload_n 0, 1) := by decide +kernel
theorem d_Re_endsBase_32 : decode b_Re_endsBase 32 = .ok (.invokevirtual 53, 3) := by decide +kernel
theorem d_Re_endsBase_35 : decode b_Re_endsBase 35 = .ok (.iload_n 1, 1) := by decide +kernel
theorem d_Re_endsBase_36 : decode b_Re_endsBase 36 = .ok (.ireturn, 1) := by decide +kernel
theorem d_Re_endsHour_0 : decode b_Re_endsHour 0 = .ok (.aload_n 0, 1) := by decide +kernel
theorem d_Re_endsHour_1 : decode b_Re_endsHour 1 = .ok (.getfield 35, 3) := by decide +kernel
theorem d_Re_endsHour_4 : decode b_Re_endsHour 4 = .ok (.ifCond .le 7, 3) := by decide +kernel
theorem d_Re_endsHour_7 : decode b_Re_endsHour 7 = .ok (.iconst 1, 1) := by decide +kernel
theorem d_Re_endsHour_8 : decode b_Re_endsHour 8 = .ok (.goto 4, 3) := by decide +kernel
theorem d_Re_endsHour_11 : decode b_Re_endsHour 11 = .ok (.iconst 0, 1) := by decide +kernel
theorem d_Re_endsHour_12 : decode b_Re_endsHour 12 = .ok (.istore_n 1, 1) := by decide +kernel
theorem d_Re_endsHour_13 : decode b_Re_endsHour 13 = .ok (.aload_n 0, 1) := by decide +kernel
theorem d_Re_endsHour_14 : decode b_Re_endsHour 14 = .ok (.getfield 15, 3) := by decide +kernel
theorem d_Re_endsHour_17 : decode b_Re_endsHour 17 = .ok (.aload_n 0, 1) := by decide +kernel
theorem d_Re_endsHour_18 : decode b_Re_endsHour 18 = .ok (.getfield 29, 3) := by decide +kernel
theorem d_Re_endsHour_21 : decode b_Re_endsHour 21 = .ok (.aload_n 0, 1) := by decide +kernel
theorem d_Re_endsHour_22 : decode b_Re_endsHour 22 = .ok (.getfield 32, 3) := by decide +kernel
theorem d_Re_endsHour_25 : decode b_Re_endsHour 25 = .ok (.iastore, 1) := by decide +kernel
theorem d_Re_endsHour_26 : decode b_Re_endsHour 26 = .ok (.aload_n 0, 1) := by decide +kernel
theorem d_Re_endsHour_27 : decode b_Re_endsHour 27 = .ok (.iconst 0, 1) := by decide +kernel
theorem d_Re_endsHour_28 : decode b_Re_endsHour 28 = .ok (.putfield 26, 3) := by decide +kernel
theorem d_Re_endsHour_31 : decode b_Re_endsHour 31 = .ok (.aload_n 0, 1) := by decide +kernel
theorem d_Re_endsHour_32 : decode b_Re_endsHour 32 = .ok (.dup, 1) := by decide +kernel
theorem d_Re_endsHour_33 : decode b_Re_endsHour 33 = .ok (.getfield 22, 3) := by decide +kernel
theorem d_Re_endsHour_36 : decode b_Re_endsHour 36 = .ok (.iconst 1, 1) := by decide +kernel
theorem d_Re_endsHour_37 : decode b_Re_endsHour 37 = .ok (.iadd, 1) := by decide +kernel
theorem d_Re_endsHour_38 : decode b_Re_endsHour 38 = .ok (.putfield 22, 3) := by decide +kernel
theorem d_Re_endsHour_41 : decode b_Re_endsHour 41 = .ok (.aload_n 0, 1) := by decide +kernel
theorem d_Re_endsHour_42 : decode b_Re_endsHour 42 = .ok (.invokevirtual 53, 3) := by decide +kernel
theorem d_Re_endsHour_45 : decode b_Re_endsHour 45 = .ok (.iload_n 1, 1) := by decide +kernel
theorem d_Re_endsHour_46 : decode b_Re_endsHour 46 = .ok (.ireturn, 1) := by decide +kernel
theorem d_Re_isDigit_0 : decode b_Re_isDigit 0 = .ok (.iload_n 0, 1) := by decide +kernel
theorem d_Re_isDigit_1 : decode b_Re_isDigit 1 = .ok (.bipush 48, 2) := by decide +kernel
theorem d_Re_isDigit_3 : decode b_Re_isDigit 3 = .ok (.if_icmp .lt 13, 3) := by decide +kernel
theorem d_Re_isDigit_6 : decode b_Re_isDigit 6 = .ok (.iload_n 0, 1) := by decide +kernel
theorem d_Re_isDigit_7 : decode b_Re_isDigit 7 = .ok (.bipush 57, 2) := by decide +kernel
theorem d_Re_isDigit_9 : decode b_Re_isDigit 9 = .ok (.if_icmp .gt 7, 3) := by decide +kernel
theorem d_Re_isDigit_12 : decode b_Re_isDigit 12 = .ok (.iconst 1, 1) := by decide +kernel
theorem d_Re_isDigit_13 : decode b_Re_isDigit 13 = .ok (.goto 4, 3) := by decide +kernel
theorem d_Re_isDigit_16 : decode b_Re_isDigit 16 = .ok (.iconst 0, 1) := by decide +kernel
theorem d_Re_isDigit_17 : decode b_Re_isDigit 17 = .ok (.ireturn, 1) := by decide +kernel
theorem d_Tf_init_0 : decode b_Tf_init 0 = .ok (.aload_n 0, 1) := by decide +kernel
theorem d_Tf_init_1 : decode b_Tf_init 1 = .ok (.invokespecial 3, 3) := by decide +kernel
theorem d_Tf_init_4 : decode b_Tf_init 4 = .ok (.aload_n 0, 1) := by decide +kernel
theorem d_Tf_init_5 : decode b_Tf_init 5 = .ok (.bipush 10, 2) := by decide +kernel
theorem d_Tf_init_7 : decode b_Tf_init 7 = .ok (.newarray .int, 2) := by decide +kernel
theorem d_Tf_init_9 : decode b_Tf_init 9 = .ok (.putfield 9, 3) := by decide +kernel
theorem d_Tf_init_12 : decode b_Tf_init 12 = .ok (.aload_n 0, 1) := by decide +kernel
theorem d_Tf_init_13 : decode b_Tf_init 13 = .ok (.bipush 10, 2) := by decide +kernel
theorem d_Tf_init_15 : decode b_Tf_init 15 = .ok (.newarray .int, 2) := by decide +kernel
theorem d_Tf_init_17 : decode b_Tf_init 17 = .ok (.putfield 15, 3) := by decide +kernel
theorem d_Tf_init_20 : decode b_Tf_init 20 = .ok (.return_, 1) := by decide +kernel
theorem d_Tf_become_0 : decode b_Tf_become 0 = .ok (.iconst 0, 1) := by decide +kernel
theorem d_Tf_become_1 : decode b_Tf_become 1 = .ok (.istore_n 2, 1) := by decide +kernel
theorem d_Tf_become_2 : decode b_Tf_become 2 = .ok (.iload_n 2, 1) := by decide +kernel
theorem d_Tf_become_3 : decode b_Tf_become 3 = .ok (.bipush 10, 2) := by decide +kernel
theorem d_Tf_become_5 : decode b_Tf_become 5 = .ok (.if_icmp .ge 33, 3) := by decide +kernel
theorem d_Tf_become_8 : decode b_Tf_become 8 = .ok (.aload_n 0, 1) := by decide +kernel
theorem d_Tf_become_9 : decode b_Tf_become 9 = .ok (.getfield 9, 3) := by decide +kernel
theorem d_Tf_become_12 : decode b_Tf_become 12 = .ok (.iload_n 2, 1) := by decide +kernel
theorem d_Tf_become_13 : decode b_Tf_become 13 = .ok (.aload_n 1, 1) := by decide +kernel
theorem d_Tf_become_14 : decode b_Tf_become 14 = .ok (.getfield 18, 3) := by decide +kernel
theorem d_Tf_become_17 : decode b_Tf_become 17 = .ok (.iload_n 2, 1) := by decide +kernel
theorem d_Tf_become_18 : decode b_Tf_become 18 = .ok (.iaload, 1) := by decide +kernel
theorem d_Tf_become_19 : decode b_Tf_become 19 = .ok (.iastore, 1) := by decide +kernel
theorem d_Tf_become_20 : decode b_Tf_become 20 = .ok (.aload_n 0, 1) := by decide +kernel
theorem d_Tf_become_21 : decode b_Tf_become 21 = .ok (.getfield 15, 3) := by decide +kernel
theorem d_Tf_become_24 : decode b_Tf_become 24 = .ok (.iload_n 2, 1) := by decide +kernel
theorem d_Tf_become_25 : decode b_Tf_become 25 = .ok (.aload_n 1, 1) := by decide +kernel
theorem d_Tf_become_26 : decode b_Tf_become 26 = .ok (.getfield 21, 3) := by decide +kernel
theorem d_Tf_become_29 : decode b_Tf_become 29 = .ok (.iload_n 2, 1) := by decide +kernel
theorem d_Tf_become_30 : decode b_Tf_become 30 = .ok (.iaload, 1) := by decide +kernel
theorem d_Tf_become_31 : decode b_Tf_become 31 = .ok (.iastore, 1) := by decide +kernel
theorem d_Tf_become_32 : decode b_Tf_become 32 = .ok (.iinc 2 1, 3) := by decide +kernel
theorem d_Tf_become_35 : decode b_Tf_become 35 = .ok (.goto (-33), 3) := by decide +kernel
theorem d_Tf_become_38 : decode b_Tf_become 38 = .ok (.return_, 1) := by decide +kernel
theorem d_Tf_isFree_0 : decode b_Tf_isFree 0 = .ok (.aload_n 0, 1) := by decide +kernel
theorem d_Tf_isFree_1 : decode b_Tf_isFree 1 = .ok (.getfield 9, 3) := by decide +kernel
theorem d_Tf_isFree_4 : decode b_Tf_isFree 4 = .ok (.iload_n 1, 1) := by decide +kernel
theorem d_Tf_isFree_5 : decode b_Tf_isFree 5 = .ok (.iaload, 1) := by decide +kernel
theorem d_Tf_isFree_6 : decode b_Tf_isFree 6 = .ok (.ifCond .ne 16, 3) := by decide +kernel
theorem d_Tf_isFree_9 : decode b_Tf_isFree 9 = .ok (.aload_n 0, 1) := by decide +kernel
theorem d_Tf_isFree_10 : decode b_Tf_isFree 10 = .ok (.getfield 15, 3) := by decide +kernel
theorem d_Tf_isFree_13 : decode b_Tf_isFree 13 = .ok (.iload_n 1, 1) := by decide +kernel
theorem d_Tf_isFree_14 : decode b_Tf_isFree 14 = .ok (.iaload, 1) := by decide +kernel
theorem d_Tf_isFree_15 : decode b_Tf_isFree 15 = .ok (.ifCond .ne 7, 3) := by decide +kernel
theorem d_Tf_isFree_18 : decode b_Tf_isFree 18 = .ok (.iconst 1, 1) := by decide +kernel
theorem d_Tf_isFree_19 : decode b_Tf_isFree 19 = .ok (.goto 4, 3) := by decide +kernel
theorem d_Tf_isFree_22 : decode b_Tf_isFree 22 = .ok (.iconst 0, 1) := by decide +kernel
theorem d_Tf_isFree_23 : decode b_Tf_isFree 23 = .ok (.ireturn, 1) := by decide +kernel
theorem d_Tf_costOf_0 : decode b_Tf_costOf 0 = .ok (.iload_n 2, 1) := by decide +kernel
theorem d_Tf_costOf_1 : decode b_Tf_costOf 1 = .ok (.bipush 60, 2) := by decide +kernel
theorem d_Tf_costOf_3 : decode b_Tf_costOf 3 = .ok (.iadd, 1) := by decide +kernel
theorem d_Tf_costOf_4 : decode b_Tf_costOf 4 = .ok (.iconst 1, 1) := by decide +kernel
theorem d_Tf_costOf_5 : decode b_Tf_costOf 5 = .ok (.isub, 1) := by decide +kernel
theorem d_Tf_costOf_6 : decode b_Tf_costOf 6 = .ok (.bipush 60, 2) := by decide +kernel
theorem d_Tf_costOf_8 : decode b_Tf_costOf 8 = .ok (.idiv, 1) := by decide +kernel
theorem d_Tf_costOf_9 : decode b_Tf_costOf 9 = .ok (.istore_n 3, 1) := by decide +kernel
theorem d_Tf_costOf_10 : decode b_Tf_costOf 10 = .ok (.aload_n 0, 1) := by decide +kernel
theorem d_Tf_costOf_11 : decode b_Tf_costOf 11 = .ok (.getfield 9, 3) := by decide +kernel
theorem d_Tf_costOf_14 : decode b_Tf_costOf 14 = .ok (.iload_n 1, 1) := by decide +kernel
theorem d_Tf_costOf_15 : decode b_Tf_costOf 15 = .ok (.iaload, 1) := by decide +kernel
theorem d_Tf_costOf_16 : decode b_Tf_costOf 16 = .ok (.i2l, 1) := by decide +kernel
theorem d_Tf_costOf_17 : decode b_Tf_costOf 17 = .ok (.aload_n 0, 1) := by decide +kernel
theorem d_Tf_costOf_18 : decode b_Tf_costOf 18 = .ok (.getfield 15, 3) := by decide +kernel
theorem d_Tf_costOf_21 : decode b_Tf_costOf 21 = .ok (.iload_n 1, 1) := by decide +kernel
theorem d_Tf_costOf_22 : decode b_Tf_costOf 22 = .ok (.iaload, 1) := by decide +kernel
theorem d_Tf_costOf_23 : decode b_Tf_costOf 23 = .ok (.i2l, 1) := by decide +kernel
theorem d_Tf_costOf_24 : decode b_Tf_costOf 24 = .ok (.iload_n 3, 1) := by decide +kernel
theorem d_Tf_costOf_25 : decode b_Tf_costOf 25 = .ok (.i2l, 1) := by decide +kernel
theorem d_Tf_costOf_26 : decode b_Tf_costOf 26 = .ok (.lmul, 1) := by decide +kernel
theorem d_Tf_costOf_27 : decode b_Tf_costOf 27 = .ok (.ladd, 1) := by decide +kernel
theorem d_Tf_costOf_28 : decode b_Tf_costOf 28 = .ok (.lreturn, 1) := by decide +kernel
theorem d_Bi_init_0 : decode b_Bi_init 0 = .ok (.aload_n 0, 1) := by decide +kernel
theorem d_Bi_init_1 : decode b_Bi_init 1 = .ok (.invokespecial 3, 3) := by decide +kernel
theorem d_Bi_init_4 : decode b_Bi_init 4 = .ok (.aload_n 0, 1) := by decide +kernel
theorem d_Bi_init_5 : decode b_Bi_init 5 = .ok (.bipush 60, 2) := by decide +kernel
theorem d_Bi_init_7 : decode b_Bi_init 7 = .ok (.newarray .int, 2) := by decide +kernel
theorem d_Bi_init_9 : decode b_Bi_init 9 = .ok (.putfield 9, 3) := by decide +kernel
theorem d_Bi_init_12 : decode b_Bi_init 12 = .ok (.aload_n 0, 1) := by decide +kernel
theorem d_Bi_init_13 : decode b_Bi_init 13 = .ok (.bipush 60, 2) := by decide +kernel
theorem d_Bi_init_15 : decode b_Bi_init 15 = .ok (.newarray .int, 2) := by decide +kernel
theorem d_Bi_init_17 : decode b_Bi_init 17 = .ok (.putfield 15, 3) := by decide +kernel
theorem d_Bi_init_20 : decode b_Bi_init 20 = .ok (.aload_n 0, 1) := by decide +kernel
theorem d_Bi_init_21 : decode b_Bi_init 21 = .ok (.bipush 60, 2) := by decide +kernel
theorem d_Bi_init_23 : decode b_Bi_init 23 = .ok (.newarray .int, 2) := by decide +kernel
theorem d_Bi_init_25 : decode b_Bi_init 25 = .ok (.putfield 18, 3) := by decide +kernel
theorem d_Bi_init_28 : decode b_Bi_init 28 = .ok (.aload_n 0, 1) := by decide +kernel
theorem d_Bi_init_29 : decode b_Bi_init 29 = .ok (.bipush 60, 2) := by decide +kernel
theorem d_Bi_init_31 : decode b_Bi_init 31 = .ok (.newarray .int, 2) := by decide +kernel
theorem d_Bi_init_33 : decode b_Bi_init 33 = .ok (.putfield 21, 3) := by decide +kernel
theorem d_Bi_init_36 : decode b_Bi_init 36 = .ok (.aload_n 0, 1) := by decide +kernel
theorem d_Bi_init_37 : decode b_Bi_init 37 = .ok (.bipush 60, 2) := by decide +kernel
theorem d_Bi_init_39 : decode b_Bi_init 39 = .ok (.newarray .boolean, 2) := by decide +kernel
theorem d_Bi_init_41 : decode b_Bi_init 41 = .ok (.putfield 24, 3) := by decide +kernel
theorem d_Bi_init_44 : decode b_Bi_init 44 = .ok (.aload_n 0, 1) := by decide +kernel
theorem d_Bi_init_45 : decode b_Bi_init 45 = .ok (.iconst 0, 1) := by decide +kernel
theorem d_Bi_init_46 : decode b_Bi_init 46 = .ok (.putfield 28, 3) := by decide +kernel
theorem d_Bi_init_49 : decode b_Bi_init 49 = .ok (.return_, 1) := by decide +kernel
theorem d_Bi_add_0 : decode b_Bi_add 0 = .ok (.aload_n 0, 1) := by decide +kernel
theorem d_Bi_add_1 : decode b_Bi_add 1 = .ok (.getfield 9, 3) := by decide +kernel
theorem d_Bi_add_4 : decode b_Bi_add 4 = .ok (.aload_n 0, 1) := by decide +kernel
theorem d_Bi_add_5 : decode b_Bi_add 5 = .ok (.getfield 28, 3) := by decide +kernel
theorem d_Bi_add_8 : decode b_Bi_add 8 = .ok (.iload_n 1, 1) := by decide +kernel
theorem d_Bi_add_9 : decode b_Bi_add 9 = .ok (.iastore, 1) := by decide +kernel
theorem d_Bi_add_10 : decode b_Bi_add 10 = .ok (.aload_n 0, 1) := by decide +kernel
theorem d_Bi_add_11 : decode b_Bi_add 11 = .ok (.getfield 18, 3) := by decide +kernel
theorem d_Bi_add_14 : decode b_Bi_add 14 = .ok (.aload_n 0, 1) := by decide +kernel
theorem d_Bi_add_15 : decode b_Bi_add 15 = .ok (.getfield 28, 3) := by decide +kernel
theorem d_Bi_add_18 : decode b_Bi_add 18 = .ok (.iload_n 2, 1) := by decide +kernel
theorem d_Bi_add_19 : decode b_Bi_add 19 = .ok (.iastore, 1) := by decide +kernel
theorem d_Bi_add_20 : decode b_Bi_add 20 = .ok (.aload_n 0, 1) := by decide +kernel
theorem d_Bi_add_21 : decode b_Bi_add 21 = .ok (.dup, 1) := by decide +kernel
theorem d_Bi_add_22 : decode b_Bi_add 22 = .ok (.getfield 28, 3) := by decide +kernel
theorem d_Bi_add_25 : decode b_Bi_add 25 = .ok (.iconst 1, 1) := by decide +kernel
theorem d_Bi_add_26 : decode b_Bi_add 26 = .ok (.iadd, 1) := by decide +kernel
theorem d_Bi_add_27 : decode b_Bi_add 27 = .ok (.putfield 28, 3) := by decide +kernel
theorem d_Bi_add_30 : decode b_Bi_add 30 = .ok (.aload_n 0, 1) := by decide +kernel
theorem d_Bi_add_31 : decode b_Bi_add 31 = .ok (.getfield 28, 3) := by decide +kernel
theorem d_Bi_add_34 : decode b_Bi_add 34 = .ok (.iconst 1, 1) := by decide +kernel
theorem d_Bi_add_35 : decode b_Bi_add 35 = .ok (.isub, 1) := by decide +kernel
theorem d_Bi_add_36 : decode b_Bi_add 36 = .ok (.ireturn, 1) := by decide +kernel
theorem d_Bi_leftOf_0 : decode b_Bi_leftOf 0 = .ok (.aload_n 0, 1) := by decide +kernel
theorem d_Bi_leftOf_1 : decode b_Bi_leftOf 1 = .ok (.getfield 9, 3) := by decide +kernel
theorem d_Bi_leftOf_4 : decode b_Bi_leftOf 4 = .ok (.iload_n 1, 1) := by decide +kernel
theorem d_Bi_leftOf_5 : decode b_Bi_leftOf 5 = .ok (.iaload, 1) := by decide +kernel
theorem d_Bi_leftOf_6 : decode b_Bi_leftOf 6 = .ok (.aload_n 0, 1) := by decide +kernel
theorem d_Bi_leftOf_7 : decode b_Bi_leftOf 7 = .ok (.getfield 15, 3) := by decide +kernel
theorem d_Bi_leftOf_10 : decode b_Bi_leftOf 10 = .ok (.iload_n 1, 1) := by decide +kernel
theorem d_Bi_leftOf_11 : decode b_Bi_leftOf 11 = .ok (.iaload, 1) := by decide +kernel
theorem d_Bi_leftOf_12 : decode b_Bi_leftOf 12 = .ok (.isub, 1) := by decide +kernel
theorem d_Bi_leftOf_13 : decode b_Bi_leftOf 13 = .ok (.ireturn, 1) := by decide +kernel
theorem d_Bi_isOpen_0 : decode b_Bi_isOpen 0 = .ok (.aload_n 0, 1) := by decide +kernel
theorem d_Bi_isOpen_1 : decode b_Bi_isOpen 1 = .ok (.iload_n 1, 1) := by decide +kernel
theorem d_Bi_isOpen_2 : decode b_Bi_isOpen 2 = .ok (.invokevirtual 32, 3) := by decide +kernel
theorem d_Bi_isOpen_5 : decode b_Bi_isOpen 5 = .ok (.ifCond .le 7, 3) := by decide +kernel
theorem d_Bi_isOpen_8 : decode b_Bi_isOpen 8 = .ok (.iconst 1, 1) := by decide +kernel
theorem d_Bi_isOpen_9 : decode b_Bi_isOpen 9 = .ok (.goto 4, 3) := by decide +kernel
theorem d_Bi_isOpen_12 : decode b_Bi_isOpen 12 = .ok (.iconst 0, 1) := by decide +kernel
theorem d_Bi_isOpen_13 : decode b_Bi_isOpen 13 = .ok (.ireturn, 1) := by decide +kernel
theorem d_Bi_remindAll_0 : decode b_Bi_remindAll 0 = .ok (.iconst 0, 1) := by decide +kernel
theorem d_Bi_remindAll_1 : decode b_Bi_remindAll 1 = .ok (.istore_n 2, 1) := by decide +kernel
theorem d_Bi_remindAll_2 : decode b_Bi_remindAll 2 = .ok (.iconst 0, 1) := by decide +kernel
theorem d_Bi_remindAll_3 : decode b_Bi_remindAll 3 = .ok (.istore_n 3, 1) := by decide +kernel
theorem d_Bi_remindAll_4 : decode b_Bi_remindAll 4 = .ok (.iload_n 3, 1) := by decide +kernel
theorem d_Bi_remindAll_5 : decode b_Bi_remindAll 5 = .ok (.aload_n 0, 1) := by decide +kernel
theorem d_Bi_remindAll_6 : decode b_Bi_remindAll 6 = .ok (.getfield 28, 3) := by decide +kernel
theorem d_Bi_remindAll_9 : decode b_Bi_remindAll 9 = .ok (.if_icmp .ge 49, 3) := by decide +kernel
theorem d_Bi_remindAll_12 : decode b_Bi_remindAll 12 = .ok (.aload_n 0, 1) := by decide +kernel
theorem d_Bi_remindAll_13 : decode b_Bi_remindAll 13 = .ok (.iload_n 3, 1) := by decide +kernel
theorem d_Bi_remindAll_14 : decode b_Bi_remindAll 14 = .ok (.invokevirtual 36, 3) := by decide +kernel
theorem d_Bi_remindAll_17 : decode b_Bi_remindAll 17 = .ok (.ifCond .eq 35, 3) := by decide +kernel
theorem d_Bi_remindAll_20 : decode b_Bi_remindAll 20 = .ok (.aload_n 0, 1) := by decide +kernel
theorem d_Bi_remindAll_21 : decode b_Bi_remindAll 21 = .ok (.getfield 24, 3) := by decide +kernel
theorem d_Bi_remindAll_24 : decode b_Bi_remindAll 24 = .ok (.iload_n 3, 1) := by decide +kernel
theorem d_Bi_remindAll_25 : decode b_Bi_remindAll 25 = .ok (.baload, 1) := by decide +kernel
theorem d_Bi_remindAll_26 : decode b_Bi_remindAll 26 = .ok (.ifCond .ne 26, 3) := by decide +kernel
theorem d_Bi_remindAll_29 : decode b_Bi_remindAll 29 = .ok (.aload_n 0, 1) := by decide +kernel
theorem d_Bi_remindAll_30 : decode b_Bi_remindAll 30 = .ok (.getfield 18, 3) := by decide +kernel
theorem d_Bi_remindAll_33 : decode b_Bi_remindAll 33 = .ok (.iload_n 3, 1) := by decide +kernel
theorem d_Bi_remindAll_34 : decode b_Bi_remindAll 34 = .ok (.iaload, 1) := by decide +kernel
theorem d_Bi_remindAll_35 : decode b_Bi_remindAll 35 = .ok (.iload_n 1, 1) := by decide +kernel
theorem d_Bi_remindAll_36 : decode b_Bi_remindAll 36 = .ok (.if_icmp .ge 16, 3) := by decide +kernel
theorem d_Bi_remindAll_39 : decode b_Bi_remindAll 39 = .ok (.aload_n 0, 1) := by decide +kernel
theorem d_Bi_remindAll_40 : decode b_Bi_remindAll 40 = .ok (.getfield 21, 3) := by decide +kernel
theorem d_Bi_remindAll_43 : decode b_Bi_remindAll 43 = .ok (.iload_n 3, 1) := by decide +kernel
theorem d_Bi_remindAll_44 : decode b_Bi_remindAll 44 = .ok (.dup2, 1) := by decide +kernel
theorem d_Bi_remindAll_45 : decode b_Bi_remindAll 45 = .ok (.iaload, 1) := by decide +kernel
theorem d_Bi_remindAll_46 : decode b_Bi_remindAll 46 = .ok (.iconst 1, 1) := by decide +kernel
theorem d_Bi_remindAll_47 : decode b_Bi_remindAll 47 = .ok (.iadd, 1) := by decide +kernel
theorem d_Bi_remindAll_48 : decode b_Bi_remindAll 48 = .ok (.iastore, 1) := by decide +kernel
theorem d_Bi_remindAll_49 : decode b_Bi_remindAll 49 = .ok (.iinc 2 1, 3) := by decide +kernel
theorem d_Bi_remindAll_52 : decode b_Bi_remindAll 52 = .ok (.iinc 3 1, 3) := by decide +kernel
theorem d_Bi_remindAll_55 : decode b_Bi_remindAll 55 = .ok (.goto (-51), 3) := by decide +kernel
theorem d_Bi_remindAll_58 : decode b_Bi_remindAll 58 = .ok (.iload_n 2, 1) := by decide +kernel
theorem d_Bi_remindAll_59 : decode b_Bi_remindAll 59 = .ok (.ireturn, 1) := by decide +kernel
theorem d_Ho_init_0 : decode b_Ho_init 0 = .ok (.aload_n 0, 1) := by decide +kernel
theorem d_Ho_init_1 : decode b_Ho_init 1 = .ok (.invokespecial 3, 3) := by decide +kernel
theorem d_Ho_init_4 : decode b_Ho_init 4 = .ok (.aload_n 0, 1) := by decide +kernel
theorem d_Ho_init_5 : decode b_Ho_init 5 = .ok (.bipush 6, 2) := by decide +kernel
theorem d_Ho_init_7 : decode b_Ho_init 7 = .ok (.newarray .int, 2) := by decide +kernel
theorem d_Ho_init_9 : decode b_Ho_init 9 = .ok (.putfield 9, 3) := by decide +kernel
theorem d_Ho_init_12 : decode b_Ho_init 12 = .ok (.return_, 1) := by decide +kernel
theorem d_Ho_sumOfWeights_0 : decode b_Ho_sumOfWeights 0 = .ok (.iconst 0, 1) := by decide +kernel
theorem d_Ho_sumOfWeights_1 : decode b_Ho_sumOfWeights 1 = .ok (.istore_n 1, 1) := by decide +kernel
theorem d_Ho_sumOfWeights_2 : decode b_Ho_sumOfWeights 2 = .ok (.iconst 0, 1) := by decide +kernel
theorem d_Ho_sumOfWeights_3 : decode b_Ho_sumOfWeights 3 = .ok (.istore_n 2, 1) := by decide +kernel
theorem d_Ho_sumOfWeights_4 : decode b_Ho_sumOfWeights 4 = .ok (.iload_n 2, 1) := by decide +kernel
theorem d_Ho_sumOfWeights_5 : decode b_Ho_sumOfWeights 5 = .ok (.bipush 6, 2) := by decide +kernel
theorem d_Ho_sumOfWeights_7 : decode b_Ho_sumOfWeights 7 = .ok (.if_icmp .ge 18, 3) := by decide +kernel
theorem d_Ho_sumOfWeights_10 : decode b_Ho_sumOfWeights 10 = .ok (.iload_n 1, 1) := by decide +kernel
theorem d_Ho_sumOfWeights_11 : decode b_Ho_sumOfWeights 11 = .ok (.aload_n 0, 1) := by decide +kernel
theorem d_Ho_sumOfWeights_12 : decode b_Ho_sumOfWeights 12 = .ok (.getfield 9, 3) := by decide +kernel
theorem d_Ho_sumOfWeights_15 : decode b_Ho_sumOfWeights 15 = .ok (.iload_n 2, 1) := by decide +kernel
theorem d_Ho_sumOfWeights_16 : decode b_Ho_sumOfWeights 16 = .ok (.iaload, 1) := by decide +kernel
theorem d_Ho_sumOfWeights_17 : decode b_Ho_sumOfWeights 17 = .ok (.iadd, 1) := by decide +kernel
theorem d_Ho_sumOfWeights_18 : decode b_Ho_sumOfWeights 18 = .ok (.istore_n 1, 1) := by decide +kernel
theorem d_Ho_sumOfWeights_19 : decode b_Ho_sumOfWeights 19 = .ok (.iinc 2 1, 3) := by decide +kernel
theorem d_Ho_sumOfWeights_22 : decode b_Ho_sumOfWeights 22 = .ok (.goto (-18), 3) := by decide +kernel
theorem d_Ho_sumOfWeights_25 : decode b_Ho_sumOfWeights 25 = .ok (.iload_n 1, 1) := by decide +kernel
theorem d_Ho_sumOfWeights_26 : decode b_Ho_sumOfWeights 26 = .ok (.ireturn, 1) := by decide +kernel
theorem d_Ho_partOf_0 : decode b_Ho_partOf 0 = .ok (.iload_n 2, 1) := by decide +kernel
theorem d_Ho_partOf_1 : decode b_Ho_partOf 1 = .ok (.istore 4, 2) := by decide +kernel
theorem d_Ho_partOf_3 : decode b_Ho_partOf 3 = .ok (.iconst 0, 1) := by decide +kernel
theorem d_Ho_partOf_4 : decode b_Ho_partOf 4 = .ok (.istore 5, 2) := by decide +kernel
theorem d_Ho_partOf_6 : decode b_Ho_partOf 6 = .ok (.iconst 0, 1) := by decide +kernel
theorem d_Ho_partOf_7 : decode b_Ho_partOf 7 = .ok (.istore 6, 2) := by decide +kernel
theorem d_Ho_partOf_9 : decode b_Ho_partOf 9 = .ok (.iload 6, 2) := by decide +kernel
theorem d_Ho_partOf_11 : decode b_Ho_partOf 11 = .ok (.bipush 6, 2) := by decide +kernel
theorem d_Ho_partOf_13 : decode b_Ho_partOf 13 = .ok (.if_icmp .ge 37, 3) := by decide +kernel
theorem d_Ho_partOf_16 : decode b_Ho_partOf 16 = .ok (.iload 4, 2) := by decide +kernel
theorem d_Ho_partOf_18 : decode b_Ho_partOf 18 = .ok (.aload_n 0, 1) := by decide +kernel
theorem d_Ho_partOf_19 : decode b_Ho_partOf 19 = .ok (.iload 6, 2) := by decide +kernel
theorem d_Ho_partOf_21 : decode b_Ho_partOf 21 = .ok (.iload_n 2, 1) := by decide +kernel
theorem d_Ho_partOf_22 : decode b_Ho_partOf 22 = .ok (.iload_n 3, 1) := by decide +kernel
theorem d_Ho_partOf_23 : decode b_Ho_partOf 23 = .ok (.invokevirtual 15, 3) := by decide +kernel
theorem d_Ho_partOf_26 : decode b_Ho_partOf 26 = .ok (.isub, 1) := by decide +kernel
theorem d_Ho_partOf_27 : decode b_Ho_partOf 27 = .ok (.istore 4, 2) := by decide +kernel
theorem d_Ho_partOf_29 : decode b_Ho_partOf 29 = .ok (.aload_n 0, 1) := by decide +kernel
theorem d_Ho_partOf_30 : decode b_Ho_partOf 30 = .ok (.iload 6, 2) := by decide +kernel
theorem d_Ho_partOf_32 : decode b_Ho_partOf 32 = .ok (.iload_n 1, 1) := by decide +kernel
theorem d_Ho_partOf_33 : decode b_Ho_partOf 33 = .ok (.iload_n 2, 1) := by decide +kernel
theorem d_Ho_partOf_34 : decode b_Ho_partOf 34 = .ok (.iload_n 3, 1) := by decide +kernel
theorem d_Ho_partOf_35 : decode b_Ho_partOf 35 = .ok (.invokevirtual 19, 3) := by decide +kernel
theorem d_Ho_partOf_38 : decode b_Ho_partOf 38 = .ok (.ifCond .eq 6, 3) := by decide +kernel
theorem d_Ho_partOf_41 : decode b_Ho_partOf 41 = .ok (.iinc 5 1, 3) := by decide +kernel
theorem d_Ho_partOf_44 : decode b_Ho_partOf 44 = .ok (.iinc 6 1, 3) := by decide +kernel
theorem d_Ho_partOf_47 : decode b_Ho_partOf 47 = .ok (.goto (-38), 3) := by decide +kernel
theorem d_Ho_partOf_50 : decode b_Ho_partOf 50 = .ok (.aload_n 0, 1) := by decide +kernel
theorem d_Ho_partOf_51 : decode b_Ho_partOf 51 = .ok (.iload_n 1, 1) := by decide +kernel
theorem d_Ho_partOf_52 : decode b_Ho_partOf 52 = .ok (.iload_n 2, 1) := by decide +kernel
theorem d_Ho_partOf_53 : decode b_Ho_partOf 53 = .ok (.iload_n 3, 1) := by decide +kernel
theorem d_Ho_partOf_54 : decode b_Ho_partOf 54 = .ok (.invokevirtual 15, 3) := by decide +kernel
theorem d_Ho_partOf_57 : decode b_Ho_partOf 57 = .ok (.istore 6, 2) := by decide +kernel
theorem d_Ho_partOf_59 : decode b_Ho_partOf 59 = .ok (.iload 5, 2) := by decide +kernel
theorem d_Ho_partOf_61 : decode b_Ho_partOf 61 = .ok (.iload 4, 2) := by decide +kernel
theorem d_Ho_partOf_63 : decode b_Ho_partOf 63 = .ok (.if_icmp .ge 10, 3) := by decide +kernel
theorem d_Ho_partOf_66 : decode b_Ho_partOf 66 = .ok (.iload 6, 2) := by decide +kernel
theorem d_Ho_partOf_68 : decode b_Ho_partOf 68 = .ok (.iconst 1, 1) := by decide +kernel
theorem d_Ho_partOf_69 : decode b_Ho_partOf 69 = .ok (.iadd, 1) := by decide +kernel
theorem d_Ho_partOf_70 : decode b_Ho_partOf 70 = .ok (.goto 5, 3) := by decide +kernel
theorem d_Ho_partOf_73 : decode b_Ho_partOf 73 = .ok (.iload 6, 2) := by decide +kernel
theorem d_Ho_partOf_75 : decode b_Ho_partOf 75 = .ok (.ireturn, 1) := by decide +kernel
theorem d_Ho_roundedPart_0 : decode b_Ho_roundedPart 0 = .ok (.iload_n 2, 1) := by decide +kernel
theorem d_Ho_roundedPart_1 : decode b_Ho_roundedPart 1 = .ok (.i2l, 1) := by decide +kernel
theorem d_Ho_roundedPart_2 : decode b_Ho_roundedPart 2 = .ok (.aload_n 0, 1) := by decide +kernel
theorem d_Ho_roundedPart_3 : decode b_Ho_roundedPart 3 = .ok (.getfield 9, 3) := by decide +kernel
theorem d_Ho_roundedPart_6 : decode b_Ho_roundedPart 6 = .ok (.iload_n 1, 1) := by decide +kernel
theorem d_Ho_roundedPart_7 : decode b_Ho_roundedPart 7 = .ok (.iaload, 1) := by decide +kernel
theorem d_Ho_roundedPart_8 : decode b_Ho_roundedPart 8 = .ok (.i2l, 1) := by decide +kernel
theorem d_Ho_roundedPart_9 : decode b_Ho_roundedPart 9 = .ok (.lmul, 1) := by decide +kernel
theorem d_Ho_roundedPart_10 : decode b_Ho_roundedPart 10 = .ok (.iload_n 3, 1) := by decide +kernel
theorem d_Ho_roundedPart_11 : decode b_Ho_roundedPart 11 = .ok (.i2l, 1) := by decide +kernel
theorem d_Ho_roundedPart_12 : decode b_Ho_roundedPart 12 = .ok (.ldiv, 1) := by decide +kernel
theorem d_Ho_roundedPart_13 : decode b_Ho_roundedPart 13 = .ok (.l2i, 1) := by decide +kernel
theorem d_Ho_roundedPart_14 : decode b_Ho_roundedPart 14 = .ok (.ireturn, 1) := by decide +kernel
theorem d_Ho_remainder_0 : decode b_Ho_remainder 0 = .ok (.iload_n 2, 1) := by decide +kernel
theorem d_Ho_remainder_1 : decode b_Ho_remainder 1 = .ok (.i2l, 1) := by decide +kernel
theorem d_Ho_remainder_2 : decode b_Ho_remainder 2 = .ok (.aload_n 0, 1) := by decide +kernel
theorem d_Ho_remainder_3 : decode b_Ho_remainder 3 = .ok (.getfield 9, 3) := by decide +kernel
theorem d_Ho_remainder_6 : decode b_Ho_remainder 6 = .ok (.iload_n 1, 1) := by decide +kernel
theorem d_Ho_remainder_7 : decode b_Ho_remainder 7 = .ok (.iaload, 1) := by decide +kernel
theorem d_Ho_remainder_8 : decode b_Ho_remainder 8 = .ok (.i2l, 1) := by decide +kernel
theorem d_Ho_remainder_9 : decode b_Ho_remainder 9 = .ok (.lmul, 1) := by decide +kernel
theorem d_Ho_remainder_10 : decode b_Ho_remainder 10 = .ok (.iload_n 3, 1) := by decide +kernel
theorem d_Ho_remainder_11 : decode b_Ho_remainder 11 = .ok (.i2l, 1) := by decide +kernel
theorem d_Ho_remainder_12 : decode b_Ho_remainder 12 = .ok (.lrem, 1) := by decide +kernel
theorem d_Ho_remainder_13 : decode b_Ho_remainder 13 = .ok (.lreturn, 1) := by decide +kernel
theorem d_Ho_comesBefore_0 : decode b_Ho_comesBefore 0 = .ok (.aload_n 0, 1) := by decide +kernel
theorem d_Ho_comesBefore_1 : decode b_Ho_comesBefore 1 = .ok (.iload_n 1, 1) := by decide +kernel
theorem d_Ho_comesBefore_2 : decode b_Ho_comesBefore 2 = .ok (.iload_n 3, 1) := by decide +kernel
theorem d_Ho_comesBefore_3 : decode b_Ho_comesBefore 3 = .ok (.iload 4, 2) := by decide +kernel
theorem d_Ho_comesBefore_5 : decode b_Ho_comesBefore 5 = .ok (.invokevirtual 23, 3) := by decide +kernel
theorem d_Ho_comesBefore_8 : decode b_Ho_comesBefore 8 = .ok (.lstore 5, 2) := by decide +kernel
theorem d_Ho_comesBefore_10 : decode b_Ho_comesBefore 10 = .ok (.aload_n 0, 1) := by decide +kernel
theorem d_Ho_comesBefore_11 : decode b_Ho_comesBefore 11 = .ok (.iload_n 2, 1) := by decide +kernel
theorem d_Ho_comesBefore_12 : decode b_Ho_comesBefore 12 = .ok (.iload_n 3, 1) := by decide +kernel
theorem d_Ho_comesBefore_13 : decode b_Ho_comesBefore 13 = .ok (.iload 4, 2) := by decide +kernel
theorem d_Ho_comesBefore_15 : decode b_Ho_comesBefore 15 = .ok (.invokevirtual 23, 3) := by decide +kernel
theorem d_Ho_comesBefore_18 : decode b_Ho_comesBefore 18 = .ok (.lstore 7, 2) := by decide +kernel
theorem d_Ho_comesBefore_20 : decode b_Ho_comesBefore 20 = .ok (.lload 5, 2) := by decide +kernel
theorem d_Ho_comesBefore_22 : decode b_Ho_comesBefore 22 = .ok (.lload 7, 2) := by decide +kernel
theorem d_Ho_comesBefore_24 : decode b_Ho_comesBefore 24 = .ok (.lcmp, 1) := by decide +kernel
theorem d_Ho_comesBefore_25 : decode b_Ho_comesBefore 25 = .ok (.ifCond .gt 16, 3) := by decide +kernel
theorem d_Ho_comesBefore_28 : decode b_Ho_comesBefore 28 = .ok (.lload 5, 2) := by decide +kernel
theorem d_Ho_comesBefore_30 : decode b_Ho_comesBefore 30 = .ok (.lload 7, 2) := by decide +kernel
theorem d_Ho_comesBefore_32 : decode b_Ho_comesBefore 32 = .ok (.lcmp, 1) := by decide +kernel
theorem d_Ho_comesBefore_33 : decode b_Ho_comesBefore 33 = .ok (.ifCond .ne 12, 3) := by decide +kernel
theorem d_Ho_comesBefore_36 : decode b_Ho_comesBefore 36 = .ok (.iload_n 1, 1) := by decide +kernel
theorem d_Ho_comesBefore_37 : decode b_Ho_comesBefore 37 = .ok (.iload_n 2, 1) := by decide +kernel
theorem d_Ho_comesBefore_38 : decode b_Ho_comesBefore 38 = .ok (.if_icmp .ge 7, 3) := by decide +kernel
theorem d_Ho_comesBefore_41 : decode b_Ho_comesBefore 41 = .ok (.iconst 1, 1) := by decide +kernel
theorem d_Ho_comesBefore_42 : decode b_Ho_comesBefore 42 = .ok (.goto 4, 3) := by decide +kernel
theorem d_Ho_comesBefore_45 : decode b_Ho_comesBefore 45 = .ok (.iconst 0, 1) := by decide +kernel
theorem d_Ho_comesBefore_46 : decode b_Ho_comesBefore 46 = .ok (.ireturn, 1) := by decide +kernel
theorem d_Gr_init_0 : decode b_Gr_init 0 = .ok (.aload_n 0, 1) := by decide +kernel
theorem d_Gr_init_1 : decode b_Gr_init 1 = .ok (.invokespecial 3, 3) := by decide +kernel
theorem d_Gr_init_4 : decode b_Gr_init 4 = .ok (.aload_n 0, 1) := by decide +kernel
theorem d_Gr_init_5 : decode b_Gr_init 5 = .ok (.bipush 20, 2) := by decide +kernel
theorem d_Gr_init_7 : decode b_Gr_init 7 = .ok (.newarray .int, 2) := by decide +kernel
theorem d_Gr_init_9 : decode b_Gr_init 9 = .ok (.putfield 9, 3) := by decide +kernel
theorem d_Gr_init_12 : decode b_Gr_init 12 = .ok (.aload_n 0, 1) := by decide +kernel
theorem d_Gr_init_13 : decode b_Gr_init 13 = .ok (.bipush 20, 2) := by decide +kernel
theorem d_Gr_init_15 : decode b_Gr_init 15 = .ok (.newarray .int, 2) := by decide +kernel
theorem d_Gr_init_17 : decode b_Gr_init 17 = .ok (.putfield 15, 3) := by decide +kernel
theorem d_Gr_init_20 : decode b_Gr_init 20 = .ok (.aload_n 0, 1) := by decide +kernel
theorem d_Gr_init_21 : decode b_Gr_init 21 = .ok (.iconst 0, 1) := by decide +kernel
theorem d_Gr_init_22 : decode b_Gr_init 22 = .ok (.putfield 18, 3) := by decide +kernel
theorem d_Gr_init_25 : decode b_Gr_init 25 = .ok (.return_, 1) := by decide +kernel
theorem d_Gr_add_0 : decode b_Gr_add 0 = .ok (.aload_n 0, 1) := by decide +kernel
theorem d_Gr_add_1 : decode b_Gr_add 1 = .ok (.getfield 9, 3) := by decide +kernel
theorem d_Gr_add_4 : decode b_Gr_add 4 = .ok (.aload_n 0, 1) := by decide +kernel
theorem d_Gr_add_5 : decode b_Gr_add 5 = .ok (.getfield 18, 3) := by decide +kernel
theorem d_Gr_add_8 : decode b_Gr_add 8 = .ok (.iload_n 1, 1) := by decide +kernel
theorem d_Gr_add_9 : decode b_Gr_add 9 = .ok (.iastore, 1) := by decide +kernel
theorem d_Gr_add_10 : decode b_Gr_add 10 = .ok (.aload_n 0, 1) := by decide +kernel
theorem d_Gr_add_11 : decode b_Gr_add 11 = .ok (.getfield 15, 3) := by decide +kernel
theorem d_Gr_add_14 : decode b_Gr_add 14 = .ok (.aload_n 0, 1) := by decide +kernel
theorem d_Gr_add_15 : decode b_Gr_add 15 = .ok (.getfield 18, 3) := by decide +kernel
theorem d_Gr_add_18 : decode b_Gr_add 18 = .ok (.iload_n 2, 1) := by decide +kernel
theorem d_Gr_add_19 : decode b_Gr_add 19 = .ok (.iastore, 1) := by decide +kernel
theorem d_Gr_add_20 : decode b_Gr_add 20 = .ok (.aload_n 0, 1) := by decide +kernel
theorem d_Gr_add_21 : decode b_Gr_add 21 = .ok (.dup, 1) := by decide +kernel
theorem d_Gr_add_22 : decode b_Gr_add 22 = .ok (.getfield 18, 3) := by decide +kernel
theorem d_Gr_add_25 : decode b_Gr_add 25 = .ok (.iconst 1, 1) := by decide +kernel
theorem d_Gr_add_26 : decode b_Gr_add 26 = .ok (.iadd, 1) := by decide +kernel
theorem d_Gr_add_27 : decode b_Gr_add 27 = .ok (.putfield 18, 3) := by decide +kernel
theorem d_Gr_add_30 : decode b_Gr_add 30 = .ok (.aload_n 0, 1) := by decide +kernel
theorem d_Gr_add_31 : decode b_Gr_add 31 = .ok (.getfield 18, 3) := by decide +kernel
theorem d_Gr_add_34 : decode b_Gr_add 34 = .ok (.iconst 1, 1) := by decide +kernel
theorem d_Gr_add_35 : decode b_Gr_add 35 = .ok (.isub, 1) := by decide +kernel
theorem d_Gr_add_36 : decode b_Gr_add 36 = .ok (.ireturn, 1) := by decide +kernel
theorem d_Le_init_0 : decode b_Le_init 0 = .ok (.aload_n 0, 1) := by decide +kernel
theorem d_Le_init_1 : decode b_Le_init 1 = .ok (.invokespecial 3, 3) := by decide +kernel
theorem d_Le_init_4 : decode b_Le_init 4 = .ok (.aload_n 0, 1) := by decide +kernel
theorem d_Le_init_5 : decode b_Le_init 5 = .ok (.bipush 50, 2) := by decide +kernel
theorem d_Le_init_7 : decode b_Le_init 7 = .ok (.newarray .long, 2) := by decide +kernel
theorem d_Le_init_9 : decode b_Le_init 9 = .ok (.putfield 9, 3) := by decide +kernel
theorem d_Le_init_12 : decode b_Le_init 12 = .ok (.aload_n 0, 1) := by decide +kernel
theorem d_Le_init_13 : decode b_Le_init 13 = .ok (.bipush 8, 2) := by decide +kernel
theorem d_Le_init_15 : decode b_Le_init 15 = .ok (.newarray .int, 2) := by decide +kernel
theorem d_Le_init_17 : decode b_Le_init 17 = .ok (.putfield 15, 3) := by decide +kernel
theorem d_Le_init_20 : decode b_Le_init 20 = .ok (.aload_n 0, 1) := by decide +kernel
theorem d_Le_init_21 : decode b_Le_init 21 = .ok (.bipush 8, 2) := by decide +kernel
theorem d_Le_init_23 : decode b_Le_init 23 = .ok (.newarray .int, 2) := by decide +kernel
theorem d_Le_init_25 : decode b_Le_init 25 = .ok (.putfield 19, 3) := by decide +kernel
theorem d_Le_init_28 : decode b_Le_init 28 = .ok (.aload_n 0, 1) := by decide +kernel
theorem d_Le_init_29 : decode b_Le_init 29 = .ok (.iconst 0, 1) := by decide +kernel
theorem d_Le_init_30 : decode b_Le_init 30 = .ok (.putfield 22, 3) := by decide +kernel
theorem d_Le_init_33 : decode b_Le_init 33 = .ok (.return_, 1) := by decide +kernel
theorem d_Le_cellOf_0 : decode b_Le_cellOf 0 = .ok (.iload_n 1, 1) := by decide +kernel
theorem d_Le_cellOf_1 : decode b_Le_cellOf 1 = .ok (.iconst 5, 1) := by decide +kernel
theorem d_Le_cellOf_2 : decode b_Le_cellOf 2 = .ok (.imul, 1) := by decide +kernel
theorem d_Le_cellOf_3 : decode b_Le_cellOf 3 = .ok (.iload_n 2, 1) := by decide +kernel
theorem d_Le_cellOf_4 : decode b_Le_cellOf 4 = .ok (.iadd, 1) := by decide +kernel
theorem d_Le_cellOf_5 : decode b_Le_cellOf 5 = .ok (.ireturn, 1) := by decide +kernel
theorem d_Le_addRow_0 : decode b_Le_addRow 0 = .ok (.aload_n 0, 1) := by decide +kernel
theorem d_Le_addRow_1 : decode b_Le_addRow 1 = .ok (.getfield 15, 3) := by decide +kernel
theorem d_Le_addRow_4 : decode b_Le_addRow 4 = .ok (.aload_n 0, 1) := by decide +kernel
theorem d_Le_addRow_5 : decode b_Le_addRow 5 = .ok (.getfield 22, 3) := by decide +kernel
theorem d_Le_addRow_8 : decode b_Le_addRow 8 = .ok (.iload_n 1, 1) := by decide +kernel
theorem d_Le_addRow_9 : decode b_Le_addRow 9 = .ok (.iastore, 1) := by decide +kernel
theorem d_Le_addRow_10 : decode b_Le_addRow 10 = .ok (.aload_n 0, 1) := by decide +kernel
theorem d_Le_addRow_11 : decode b_Le_addRow 11 = .ok (.getfield 19, 3) := by decide +kernel
theorem d_Le_addRow_14 : decode b_Le_addRow 14 = .ok (.aload_n 0, 1) := by decide +kernel
theorem d_Le_addRow_15 : decode b_Le_addRow 15 = .ok (.getfield 22, 3) := by decide +kernel
theorem d_Le_addRow_18 : decode b_Le_addRow 18 = .ok (.iload_n 2, 1) := by decide +kernel
theorem d_Le_addRow_19 : decode b_Le_addRow 19 = .ok (.iastore, 1) := by decide +kernel
theorem d_Le_addRow_20 : decode b_Le_addRow 20 = .ok (.aload_n 0, 1) := by decide +kernel
theorem d_Le_addRow_21 : decode b_Le_addRow 21 = .ok (.dup, 1) := by decide +kernel
theorem d_Le_addRow_22 : decode b_Le_addRow 22 = .ok (.getfield 22, 3) := by decide +kernel
theorem d_Le_addRow_25 : decode b_Le_addRow 25 = .ok (.iconst 1, 1) := by decide +kernel
theorem d_Le_addRow_26 : decode b_Le_addRow 26 = .ok (.iadd, 1) := by decide +kernel
theorem d_Le_addRow_27 : decode b_Le_addRow 27 = .ok (.putfield 22, 3) := by decide +kernel
theorem d_Le_addRow_30 : decode b_Le_addRow 30 = .ok (.return_, 1) := by decide +kernel
theorem d_Le_sumOfRows_0 : decode b_Le_sumOfRows 0 = .ok (.iconst 0, 1) := by decide +kernel
theorem d_Le_sumOfRows_1 : decode b_Le_sumOfRows 1 = .ok (.istore_n 1, 1) := by decide +kernel
theorem d_Le_sumOfRows_2 : decode b_Le_sumOfRows 2 = .ok (.iconst 0, 1) := by decide +kernel
theorem d_Le_sumOfRows_3 : decode b_Le_sumOfRows 3 = .ok (.istore_n 2, 1) := by decide +kernel
theorem d_Le_sumOfRows_4 : decode b_Le_sumOfRows 4 = .ok (.iload_n 2, 1) := by decide +kernel
theorem d_Le_sumOfRows_5 : decode b_Le_sumOfRows 5 = .ok (.aload_n 0, 1) := by decide +kernel
theorem d_Le_sumOfRows_6 : decode b_Le_sumOfRows 6 = .ok (.getfield 22, 3) := by decide +kernel
theorem d_Le_sumOfRows_9 : decode b_Le_sumOfRows 9 = .ok (.if_icmp .ge 18, 3) := by decide +kernel
theorem d_Le_sumOfRows_12 : decode b_Le_sumOfRows 12 = .ok (.iload_n 1, 1) := by decide +kernel
theorem d_Le_sumOfRows_13 : decode b_Le_sumOfRows 13 = .ok (.aload_n 0, 1) := by decide +kernel
theorem d_Le_sumOfRows_14 : decode b_Le_sumOfRows 14 = .ok (.getfield 19, 3) := by decide +kernel
theorem d_Le_sumOfRows_17 : decode b_Le_sumOfRows 17 = .ok (.iload_n 2, 1) := by decide +kernel
theorem d_Le_sumOfRows_18 : decode b_Le_sumOfRows 18 = .ok (.iaload, 1) := by decide +kernel
theorem d_Le_sumOfRows_19 : decode b_Le_sumOfRows 19 = .ok (.iadd, 1) := by decide +kernel
theorem d_Le_sumOfRows_20 : decode b_Le_sumOfRows 20 = .ok (.istore_n 1, 1) := by decide +kernel
theorem d_Le_sumOfRows_21 : decode b_Le_sumOfRows 21 = .ok (.iinc 2 1, 3) := by decide +kernel
theorem d_Le_sumOfRows_24 : decode b_Le_sumOfRows 24 = .ok (.goto (-20), 3) := by decide +kernel
theorem d_Le_sumOfRows_27 : decode b_Le_sumOfRows 27 = .ok (.iload_n 1, 1) := by decide +kernel
theorem d_Le_sumOfRows_28 : decode b_Le_sumOfRows 28 = .ok (.ireturn, 1) := by decide +kernel
theorem d_Le_bookRows_0 : decode b_Le_bookRows 0 = .ok (.iconst 0, 1) := by decide +kernel
theorem d_Le_bookRows_1 : decode b_Le_bookRows 1 = .ok (.istore_n 2, 1) := by decide +kernel
theorem d_Le_bookRows_2 : decode b_Le_bookRows 2 = .ok (.iload_n 2, 1) := by decide +kernel
theorem d_Le_bookRows_3 : decode b_Le_bookRows 3 = .ok (.aload_n 0, 1) := by decide +kernel
theorem d_Le_bookRows_4 : decode b_Le_bookRows 4 = .ok (.getfield 22, 3) := by decide +kernel
theorem d_Le_bookRows_7 : decode b_Le_bookRows 7 = .ok (.if_icmp .ge 35, 3) := by decide +kernel
theorem d_Le_bookRows_10 : decode b_Le_bookRows 10 = .ok (.aload_n 0, 1) := by decide +kernel
theorem d_Le_bookRows_11 : decode b_Le_bookRows 11 = .ok (.getfield 9, 3) := by decide +kernel
theorem d_Le_bookRows_14 : decode b_Le_bookRows 14 = .ok (.aload_n 0, 1) := by decide +kernel
theorem d_Le_bookRows_15 : decode b_Le_bookRows 15 = .ok (.aload_n 0, 1) := by decide +kernel
theorem d_Le_bookRows_16 : decode b_Le_bookRows 16 = .ok (.getfield 15, 3) := by decide +kernel
theorem d_Le_bookRows_19 : decode b_Le_bookRows 19 = .ok (.iload_n 2, 1) := by decide +kernel
theorem d_Le_bookRows_20 : decode b_Le_bookRows 20 = .ok (.iaload, 1) := by decide +kernel
theorem d_Le_bookRows_21 : decode b_Le_bookRows 21 = .ok (.iload_n 1, 1) := by decide +kernel
theorem d_Le_bookRows_22 : decode b_Le_bookRows 22 = .ok (.invokevirtual 26, 3) := by decide +kernel
theorem d_Le_bookRows_25 : decode b_Le_bookRows 25 = .ok (.dup2, 1) := by decide +kernel
theorem d_Le_bookRows_26 : decode b_Le_bookRows 26 = .ok (.laload, 1) := by decide +kernel
theorem d_Le_bookRows_27 : decode b_Le_bookRows 27 = .ok (.aload_n 0, 1) := by decide +kernel
theorem d_Le_bookRows_28 : decode b_Le_bookRows 28 = .ok (.getfield 19, 3) := by decide +kernel
theorem d_Le_bookRows_31 : decode b_Le_bookRows 31 = .ok (.iload_n 2, 1) := by decide +kernel
theorem d_Le_bookRows_32 : decode b_Le_bookRows 32 = .ok (.iaload, 1) := by decide +kernel
theorem d_Le_bookRows_33 : decode b_Le_bookRows 33 = .ok (.i2l, 1) := by decide +kernel
theorem d_Le_bookRows_34 : decode b_Le_bookRows 34 = .ok (.ladd, 1) := by decide +kernel
theorem d_Le_bookRows_35 : decode b_Le_bookRows 35 = .ok (.lastore, 1) := by decide +kernel
theorem d_Le_bookRows_36 : decode b_Le_bookRows 36 = .ok (.iinc 2 1, 3) := by decide +kernel
theorem d_Le_bookRows_39 : decode b_Le_bookRows 39 = .ok (.goto (-37), 3) := by decide +kernel
theorem d_Le_bookRows_42 : decode b_Le_bookRows 42 = .ok (.return_, 1) := by decide +kernel
