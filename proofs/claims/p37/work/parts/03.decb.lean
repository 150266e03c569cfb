theorem dX4_init_0 : decode cX4_init 0 = .ok (.aload_n 0, 1) := by decide +kernel
theorem dX4_init_1 : decode cX4_init 1 = .ok (.invokespecial 3, 3) := by decide +kernel
theorem dX4_init_4 : decode cX4_init 4 = .ok (.aload_n 0, 1) := by decide +kernel
theorem dX4_init_5 : decode cX4_init 5 = .ok (.sipush 960, 3) := by decide +kernel
theorem dX4_init_8 : decode cX4_init 8 = .ok (.newarray .char, 2) := by decide +kernel
theorem dX4_init_10 : decode cX4_init 10 = .ok (.putfield 11, 3) := by decide +kernel
theorem dX4_init_13 : decode cX4_init 13 = .ok (.aload_n 0, 1) := by decide +kernel
theorem dX4_init_14 : decode cX4_init 14 = .ok (.aload_n 1, 1) := by decide +kernel
theorem dX4_init_15 : decode cX4_init 15 = .ok (.putfield 15, 3) := by decide +kernel
theorem dX4_init_18 : decode cX4_init 18 = .ok (.return_, 1) := by decide +kernel
theorem dX4_print_0 : decode cX4_print 0 = .ok (.aload_n 0, 1) := by decide +kernel
theorem dX4_print_1 : decode cX4_print 1 = .ok (.iconst 0, 1) := by decide +kernel
theorem dX4_print_2 : decode cX4_print 2 = .ok (.putfield 19, 3) := by decide +kernel
theorem dX4_print_5 : decode cX4_print 5 = .ok (.aload_n 0, 1) := by decide +kernel
theorem dX4_print_6 : decode cX4_print 6 = .ok (.getfield 15, 3) := by decide +kernel
theorem dX4_print_9 : decode cX4_print 9 = .ok (.iload_n 1, 1) := by decide +kernel
theorem dX4_print_10 : decode cX4_print 10 = .ok (.invokevirtual 23, 3) := by decide +kernel
theorem dX4_print_13 : decode cX4_print 13 = .ok (.ifCond .eq 17, 3) := by decide +kernel
theorem dX4_print_16 : decode cX4_print 16 = .ok (.aload_n 0, 1) := by decide +kernel
theorem dX4_print_17 : decode cX4_print 17 = .ok (.aload_n 0, 1) := by decide +kernel
theorem dX4_print_18 : decode cX4_print 18 = .ok (.getfield 15, 3) := by decide +kernel
theorem dX4_print_21 : decode cX4_print 21 = .ok (.getfield 29, 3) := by decide +kernel
theorem dX4_print_24 : decode cX4_print 24 = .ok (.iload_n 1, 1) := by decide +kernel
theorem dX4_print_25 : decode cX4_print 25 = .ok (.aaload, 1) := by decide +kernel
theorem dX4_print_26 : decode cX4_print 26 = .ok (.iconst 0, 1) := by decide +kernel
theorem dX4_print_27 : decode cX4_print 27 = .ok (.invokevirtual 33, 3) := by decide +kernel
theorem dX4_print_30 : decode cX4_print 30 = .ok (.return_, 1) := by decide +kernel
theorem dX4_write_0 : decode cX4_write 0 = .ok (.iload_n 2, 1) := by decide +kernel
theorem dX4_write_1 : decode cX4_write 1 = .ok (.bipush 24, 2) := by decide +kernel
theorem dX4_write_3 : decode cX4_write 3 = .ok (.if_icmp .lt 4, 3) := by decide +kernel
theorem dX4_write_6 : decode cX4_write 6 = .ok (.return_, 1) := by decide +kernel
theorem dX4_write_7 : decode cX4_write 7 = .ok (.aload_n 0, 1) := by decide +kernel
theorem dX4_write_8 : decode cX4_write 8 = .ok (.aload_n 1, 1) := by decide +kernel
theorem dX4_write_9 : decode cX4_write 9 = .ok (.getfield 37, 3) := by decide +kernel
theorem dX4_write_12 : decode cX4_write 12 = .ok (.invokestatic 42, 3) := by decide +kernel
theorem dX4_write_15 : decode cX4_write 15 = .ok (.invokevirtual 48, 3) := by decide +kernel
theorem dX4_write_18 : decode cX4_write 18 = .ok (.iconst 0, 1) := by decide +kernel
theorem dX4_write_19 : decode cX4_write 19 = .ok (.istore_n 3, 1) := by decide +kernel
theorem dX4_write_20 : decode cX4_write 20 = .ok (.iload_n 3, 1) := by decide +kernel
theorem dX4_write_21 : decode cX4_write 21 = .ok (.aload_n 1, 1) := by decide +kernel
theorem dX4_write_22 : decode cX4_write 22 = .ok (.getfield 37, 3) := by decide +kernel
theorem dX4_write_25 : decode cX4_write 25 = .ok (.invokestatic 52, 3) := by decide +kernel
theorem dX4_write_28 : decode cX4_write 28 = .ok (.if_icmp .ge 25, 3) := by decide +kernel
theorem dX4_write_31 : decode cX4_write 31 = .ok (.aload_n 0, 1) := by decide +kernel
theorem dX4_write_32 : decode cX4_write 32 = .ok (.bipush 32, 2) := by decide +kernel
theorem dX4_write_34 : decode cX4_write 34 = .ok (.invokevirtual 56, 3) := by decide +kernel
theorem dX4_write_37 : decode cX4_write 37 = .ok (.aload_n 0, 1) := by decide +kernel
theorem dX4_write_38 : decode cX4_write 38 = .ok (.aload_n 1, 1) := by decide +kernel
theorem dX4_write_39 : decode cX4_write 39 = .ok (.getfield 60, 3) := by decide +kernel
theorem dX4_write_42 : decode cX4_write 42 = .ok (.iload_n 3, 1) := by decide +kernel
theorem dX4_write_43 : decode cX4_write 43 = .ok (.iaload, 1) := by decide +kernel
theorem dX4_write_44 : decode cX4_write 44 = .ok (.invokevirtual 64, 3) := by decide +kernel
theorem dX4_write_47 : decode cX4_write 47 = .ok (.iinc 3 1, 3) := by decide +kernel
theorem dX4_write_50 : decode cX4_write 50 = .ok (.goto (-30), 3) := by decide +kernel
theorem dX4_write_53 : decode cX4_write 53 = .ok (.aload_n 1, 1) := by decide +kernel
theorem dX4_write_54 : decode cX4_write 54 = .ok (.getfield 68, 3) := by decide +kernel
theorem dX4_write_57 : decode cX4_write 57 = .ok (.ifCond .le 17, 3) := by decide +kernel
theorem dX4_write_60 : decode cX4_write 60 = .ok (.aload_n 0, 1) := by decide +kernel
theorem dX4_write_61 : decode cX4_write 61 = .ok (.bipush 42, 2) := by decide +kernel
theorem dX4_write_63 : decode cX4_write 63 = .ok (.invokevirtual 56, 3) := by decide +kernel
theorem dX4_write_66 : decode cX4_write 66 = .ok (.aload_n 0, 1) := by decide +kernel
theorem dX4_write_67 : decode cX4_write 67 = .ok (.aload_n 1, 1) := by decide +kernel
theorem dX4_write_68 : decode cX4_write 68 = .ok (.getfield 68, 3) := by decide +kernel
theorem dX4_write_71 : decode cX4_write 71 = .ok (.invokevirtual 64, 3) := by decide +kernel
theorem dX4_write_74 : decode cX4_write 74 = .ok (.iconst 0, 1) := by decide +kernel
theorem dX4_write_75 : decode cX4_write 75 = .ok (.istore_n 3, 1) := by decide +kernel
theorem dX4_write_76 : decode cX4_write 76 = .ok (.iload_n 3, 1) := by decide +kernel
theorem dX4_write_77 : decode cX4_write 77 = .ok (.aload_n 1, 1) := by decide +kernel
theorem dX4_write_78 : decode cX4_write 78 = .ok (.getfield 71, 3) := by decide +kernel
theorem dX4_write_81 : decode cX4_write 81 = .ok (.if_icmp .ge 40, 3) := by decide +kernel
theorem dX4_write_84 : decode cX4_write 84 = .ok (.aload_n 0, 1) := by decide +kernel
theorem dX4_write_85 : decode cX4_write 85 = .ok (.iload_n 3, 1) := by decide +kernel
theorem dX4_write_86 : decode cX4_write 86 = .ok (.ifCond .ne 8, 3) := by decide +kernel
theorem dX4_write_89 : decode cX4_write 89 = .ok (.bipush 40, 2) := by decide +kernel
theorem dX4_write_91 : decode cX4_write 91 = .ok (.goto 5, 3) := by decide +kernel
theorem dX4_write_94 : decode cX4_write 94 = .ok (.bipush 44, 2) := by decide +kernel
theorem dX4_write_96 : decode cX4_write 96 = .ok (.invokevirtual 56, 3) := by decide +kernel
theorem dX4_write_99 : decode cX4_write 99 = .ok (.aload_n 0, 1) := by decide +kernel
theorem dX4_write_100 : decode cX4_write 100 = .ok (.aload_n 0, 1) := by decide +kernel
theorem dX4_write_101 : decode cX4_write 101 = .ok (.getfield 15, 3) := by decide +kernel
theorem dX4_write_104 : decode cX4_write 104 = .ok (.aload_n 1, 1) := by decide +kernel
theorem dX4_write_105 : decode cX4_write 105 = .ok (.iload_n 3, 1) := by decide +kernel
theorem dX4_write_106 : decode cX4_write 106 = .ok (.invokevirtual 74, 3) := by decide +kernel
theorem dX4_write_109 : decode cX4_write 109 = .ok (.iload_n 2, 1) := by decide +kernel
theorem dX4_write_110 : decode cX4_write 110 = .ok (.iconst 1, 1) := by decide +kernel
theorem dX4_write_111 : decode cX4_write 111 = .ok (.iadd, 1) := by decide +kernel
theorem dX4_write_112 : decode cX4_write 112 = .ok (.invokevirtual 33, 3) := by decide +kernel
theorem dX4_write_115 : decode cX4_write 115 = .ok (.iinc 3 1, 3) := by decide +kernel
theorem dX4_write_118 : decode cX4_write 118 = .ok (.goto (-42), 3) := by decide +kernel
theorem dX4_write_121 : decode cX4_write 121 = .ok (.aload_n 1, 1) := by decide +kernel
theorem dX4_write_122 : decode cX4_write 122 = .ok (.getfield 71, 3) := by decide +kernel
theorem dX4_write_125 : decode cX4_write 125 = .ok (.ifCond .le 9, 3) := by decide +kernel
theorem dX4_write_128 : decode cX4_write 128 = .ok (.aload_n 0, 1) := by decide +kernel
theorem dX4_write_129 : decode cX4_write 129 = .ok (.bipush 41, 2) := by decide +kernel
theorem dX4_write_131 : decode cX4_write 131 = .ok (.invokevirtual 56, 3) := by decide +kernel
theorem dX4_write_134 : decode cX4_write 134 = .ok (.return_, 1) := by decide +kernel
theorem dX4_put_0 : decode cX4_put 0 = .ok (.aload_n 0, 1) := by decide +kernel
theorem dX4_put_1 : decode cX4_put 1 = .ok (.getfield 19, 3) := by decide +kernel
theorem dX4_put_4 : decode cX4_put 4 = .ok (.sipush 960, 3) := by decide +kernel
theorem dX4_put_7 : decode cX4_put 7 = .ok (.if_icmp .ge 23, 3) := by decide +kernel
theorem dX4_put_10 : decode cX4_put 10 = .ok (.aload_n 0, 1) := by decide +kernel
theorem dX4_put_11 : decode cX4_put 11 = .ok (.getfield 11, 3) := by decide +kernel
theorem dX4_put_14 : decode cX4_put 14 = .ok (.aload_n 0, 1) := by decide +kernel
theorem dX4_put_15 : decode cX4_put 15 = .ok (.getfield 19, 3) := by decide +kernel
theorem dX4_put_18 : decode cX4_put 18 = .ok (.iload_n 1, 1) := by decide +kernel
theorem dX4_put_19 : decode cX4_put 19 = .ok (.castore, 1) := by decide +kernel
theorem dX4_put_20 : decode cX4_put 20 = .ok (.aload_n 0, 1) := by decide +kernel
theorem dX4_put_21 : decode cX4_put 21 = .ok (.dup, 1) := by decide +kernel
theorem dX4_put_22 : decode cX4_put 22 = .ok (.getfield 19, 3) := by decide +kernel
theorem dX4_put_25 : decode cX4_put 25 = .ok (.iconst 1, 1) := by decide +kernel
theorem dX4_put_26 : decode cX4_put 26 = .ok (.iadd, 1) := by decide +kernel
theorem dX4_put_27 : decode cX4_put 27 = .ok (.putfield 19, 3) := by decide +kernel
theorem dX4_put_30 : decode cX4_put 30 = .ok (.return_, 1) := by decide +kernel
theorem dX4_putWord_0 : decode cX4_putWord 0 = .ok (.iconst 0, 1) := by decide +kernel
theorem dX4_putWord_1 : decode cX4_putWord 1 = .ok (.istore_n 2, 1) := by decide +kernel
theorem dX4_putWord_2 : decode cX4_putWord 2 = .ok (.iload_n 2, 1) := by decide +kernel
theorem dX4_putWord_3 : decode cX4_putWord 3 = .ok (.aload_n 1, 1) := by decide +kernel
theorem dX4_putWord_4 : decode cX4_putWord 4 = .ok (.invokevirtual 78, 3) := by decide +kernel
theorem dX4_putWord_7 : decode cX4_putWord 7 = .ok (.if_icmp .ge 18, 3) := by decide +kernel
theorem dX4_putWord_10 : decode cX4_putWord 10 = .ok (.aload_n 0, 1) := by decide +kernel
theorem dX4_putWord_11 : decode cX4_putWord 11 = .ok (.aload_n 1, 1) := by decide +kernel
theorem dX4_putWord_12 : decode cX4_putWord 12 = .ok (.iload_n 2, 1) := by decide +kernel
theorem dX4_putWord_13 : decode cX4_putWord 13 = .ok (.invokevirtual 83, 3) := by decide +kernel
theorem dX4_putWord_16 : decode cX4_putWord 16 = .ok (.invokevirtual 56, 3) := by decide +kernel
theorem dX4_putWord_19 : decode cX4_putWord 19 = .ok (.iinc 2 1, 3) := by decide +kernel
theorem dX4_putWord_22 : decode cX4_putWord 22 = .ok (.goto (-20), 3) := by decide +kernel
theorem dX4_putWord_25 : decode cX4_putWord 25 = .ok (.return_, 1) := by decide +kernel
theorem dX4_putNumber_0 : decode cX4_putNumber 0 = .ok (.iload_n 1, 1) := by decide +kernel
theorem dX4_putNumber_1 : decode cX4_putNumber 1 = .ok (.bipush 10, 2) := by decide +kernel
theorem dX4_putNumber_3 : decode cX4_putNumber 3 = .ok (.if_icmp .lt 15, 3) := by decide +kernel
theorem dX4_putNumber_6 : decode cX4_putNumber 6 = .ok (.aload_n 0, 1) := by decide +kernel
theorem dX4_putNumber_7 : decode cX4_putNumber 7 = .ok (.bipush 48, 2) := by decide +kernel
theorem dX4_putNumber_9 : decode cX4_putNumber 9 = .ok (.iload_n 1, 1) := by decide +kernel
theorem dX4_putNumber_10 : decode cX4_putNumber 10 = .ok (.bipush 10, 2) := by decide +kernel
theorem dX4_putNumber_12 : decode cX4_putNumber 12 = .ok (.idiv, 1) := by decide +kernel
theorem dX4_putNumber_13 : decode cX4_putNumber 13 = .ok (.iadd, 1) := by decide +kernel
theorem dX4_putNumber_14 : decode cX4_putNumber 14 = .ok (.i2c, 1) := by decide +kernel
theorem dX4_putNumber_15 : decode cX4_putNumber 15 = .ok (.invokevirtual 56, 3) := by decide +kernel
theorem dX4_putNumber_18 : decode cX4_putNumber 18 = .ok (.aload_n 0, 1) := by decide +kernel
theorem dX4_putNumber_19 : decode cX4_putNumber 19 = .ok (.bipush 48, 2) := by decide +kernel
theorem dX4_putNumber_21 : decode cX4_putNumber 21 = .ok (.iload_n 1, 1) := by decide +kernel
theorem dX4_putNumber_22 : decode cX4_putNumber 22 = .ok (.bipush 10, 2) := by decide +kernel
theorem dX4_putNumber_24 : decode cX4_putNumber 24 = .ok (.irem, 1) := by decide +kernel
theorem dX4_putNumber_25 : decode cX4_putNumber 25 = .ok (.iadd, 1) := by decide +kernel
theorem dX4_putNumber_26 : decode cX4_putNumber 26 = .ok (.i2c, 1) := by decide +kernel
theorem dX4_putNumber_27 : decode cX4_putNumber 27 = .ok (.invokevirtual 56, 3) := by decide +kernel
theorem dX4_putNumber_30 : decode cX4_putNumber 30 = .ok (.return_, 1) := by decide +kernel
theorem dX5_init_0 : decode cX5_init 0 = .ok (.aload_n 0, 1) := by decide +kernel
theorem dX5_init_1 : decode cX5_init 1 = .ok (.invokespecial 3, 3) := by decide +kernel
theorem dX5_init_4 : decode cX5_init 4 = .ok (.aload_n 0, 1) := by decide +kernel
theorem dX5_init_5 : decode cX5_init 5 = .ok (.bipush 24, 2) := by decide +kernel
theorem dX5_init_7 : decode cX5_init 7 = .ok (.newarray .int, 2) := by decide +kernel
theorem dX5_init_9 : decode cX5_init 9 = .ok (.putfield 9, 3) := by decide +kernel
theorem dX5_init_12 : decode cX5_init 12 = .ok (.aload_n 0, 1) := by decide +kernel
theorem dX5_init_13 : decode cX5_init 13 = .ok (.bipush 24, 2) := by decide +kernel
theorem dX5_init_15 : decode cX5_init 15 = .ok (.newarray .int, 2) := by decide +kernel
theorem dX5_init_17 : decode cX5_init 17 = .ok (.putfield 15, 3) := by decide +kernel
theorem dX5_init_20 : decode cX5_init 20 = .ok (.aload_n 0, 1) := by decide +kernel
theorem dX5_init_21 : decode cX5_init 21 = .ok (.bipush 24, 2) := by decide +kernel
theorem dX5_init_23 : decode cX5_init 23 = .ok (.newarray .int, 2) := by decide +kernel
theorem dX5_init_25 : decode cX5_init 25 = .ok (.putfield 18, 3) := by decide +kernel
theorem dX5_init_28 : decode cX5_init 28 = .ok (.aload_n 0, 1) := by decide +kernel
theorem dX5_init_29 : decode cX5_init 29 = .ok (.bipush 24, 2) := by decide +kernel
theorem dX5_init_31 : decode cX5_init 31 = .ok (.newarray .int, 2) := by decide +kernel
theorem dX5_init_33 : decode cX5_init 33 = .ok (.putfield 21, 3) := by decide +kernel
theorem dX5_init_36 : decode cX5_init 36 = .ok (.aload_n 0, 1) := by decide +kernel
theorem dX5_init_37 : decode cX5_init 37 = .ok (.bipush 24, 2) := by decide +kernel
theorem dX5_init_39 : decode cX5_init 39 = .ok (.iconst 4, 1) := by decide +kernel
theorem dX5_init_40 : decode cX5_init 40 = .ok (.multianewarray 24 2, 4) := by decide +kernel
theorem dX5_init_44 : decode cX5_init 44 = .ok (.putfield 26, 3) := by decide +kernel
theorem dX5_init_47 : decode cX5_init 47 = .ok (.return_, 1) := by decide +kernel
theorem dX5_faultOf_0 : decode cX5_faultOf 0 = .ok (.aload_n 0, 1) := by decide +kernel
theorem dX5_faultOf_1 : decode cX5_faultOf 1 = .ok (.aload_n 1, 1) := by decide +kernel
theorem dX5_faultOf_2 : decode cX5_faultOf 2 = .ok (.putfield 29, 3) := by decide +kernel
theorem dX5_faultOf_5 : decode cX5_faultOf 5 = .ok (.aload_n 0, 1) := by decide +kernel
theorem dX5_faultOf_6 : decode cX5_faultOf 6 = .ok (.iload_n 2, 1) := by decide +kernel
theorem dX5_faultOf_7 : decode cX5_faultOf 7 = .ok (.aload_n 1, 1) := by decide +kernel
theorem dX5_faultOf_8 : decode cX5_faultOf 8 = .ok (.arraylength, 1) := by decide +kernel
theorem dX5_faultOf_9 : decode cX5_faultOf 9 = .ok (.invokestatic 33, 3) := by decide +kernel
theorem dX5_faultOf_12 : decode cX5_faultOf 12 = .ok (.putfield 39, 3) := by decide +kernel
theorem dX5_faultOf_15 : decode cX5_faultOf 15 = .ok (.aload_n 0, 1) := by decide +kernel
theorem dX5_faultOf_16 : decode cX5_faultOf 16 = .ok (.iload_n 3, 1) := by decide +kernel
theorem dX5_faultOf_17 : decode cX5_faultOf 17 = .ok (.putfield 43, 3) := by decide +kernel
theorem dX5_faultOf_20 : decode cX5_faultOf 20 = .ok (.aload_n 0, 1) := by decide +kernel
theorem dX5_faultOf_21 : decode cX5_faultOf 21 = .ok (.iconst 0, 1) := by decide +kernel
theorem dX5_faultOf_22 : decode cX5_faultOf 22 = .ok (.putfield 46, 3) := by decide +kernel
theorem dX5_faultOf_25 : decode cX5_faultOf 25 = .ok (.aload_n 0, 1) := by decide +kernel
theorem dX5_faultOf_26 : decode cX5_faultOf 26 = .ok (.iconst 0, 1) := by decide +kernel
theorem dX5_faultOf_27 : decode cX5_faultOf 27 = .ok (.putfield 49, 3) := by decide +kernel
theorem dX5_faultOf_30 : decode cX5_faultOf 30 = .ok (.aload_n 0, 1) := by decide +kernel
theorem dX5_faultOf_31 : decode cX5_faultOf 31 = .ok (.iconst 0, 1) := by decide +kernel
theorem dX5_faultOf_32 : decode cX5_faultOf 32 = .ok (.putfield 52, 3) := by decide +kernel
theorem dX5_faultOf_35 : decode cX5_faultOf 35 = .ok (.iconst (-1), 1) := by decide +kernel
theorem dX5_faultOf_36 : decode cX5_faultOf 36 = .ok (.istore 4, 2) := by decide +kernel
theorem dX5_faultOf_38 : decode cX5_faultOf 38 = .ok (.iconst 0, 1) := by decide +kernel
theorem dX5_faultOf_39 : decode cX5_faultOf 39 = .ok (.istore 5, 2) := by decide +kernel
theorem dX5_faultOf_41 : decode cX5_faultOf 41 = .ok (.iload 5, 2) := by decide +kernel
theorem dX5_faultOf_43 : decode cX5_faultOf 43 = .ok (.bipush 24, 2) := by decide +kernel
theorem dX5_faultOf_45 : decode cX5_faultOf 45 = .ok (.if_icmp .ge 62, 3) := by decide +kernel
theorem dX5_faultOf_48 : decode cX5_faultOf 48 = .ok (.aload_n 0, 1) := by decide +kernel
theorem dX5_faultOf_49 : decode cX5_faultOf 49 = .ok (.iload 4, 2) := by decide +kernel
theorem dX5_faultOf_51 : decode cX5_faultOf 51 = .ok (.invokevirtual 56, 3) := by decide +kernel
theorem dX5_faultOf_54 : decode cX5_faultOf 54 = .ok (.ifCond .ne 8, 3) := by decide +kernel
theorem dX5_faultOf_57 : decode cX5_faultOf 57 = .ok (.aload_n 0, 1) := by decide +kernel
theorem dX5_faultOf_58 : decode cX5_faultOf 58 = .ok (.getfield 46, 3) := by decide +kernel
theorem dX5_faultOf_61 : decode cX5_faultOf 61 = .ok (.ireturn, 1) := by decide +kernel
theorem dX5_faultOf_62 : decode cX5_faultOf 62 = .ok (.aload_n 0, 1) := by decide +kernel
theorem dX5_faultOf_63 : decode cX5_faultOf 63 = .ok (.invokevirtual 60, 3) := by decide +kernel
theorem dX5_faultOf_66 : decode cX5_faultOf 66 = .ok (.istore 4, 2) := by decide +kernel
theorem dX5_faultOf_68 : decode cX5_faultOf 68 = .ok (.iload 4, 2) := by decide +kernel
theorem dX5_faultOf_70 : decode cX5_faultOf 70 = .ok (.iconst (-1), 1) := by decide +kernel
theorem dX5_faultOf_71 : decode cX5_faultOf 71 = .ok (.if_icmp .ne 30, 3) := by decide +kernel
theorem dX5_faultOf_74 : decode cX5_faultOf 74 = .ok (.aload_n 0, 1) := by decide +kernel
theorem dX5_faultOf_75 : decode cX5_faultOf 75 = .ok (.getfield 52, 3) := by decide +kernel
theorem dX5_faultOf_78 : decode cX5_faultOf 78 = .ok (.ifCond .eq 18, 3) := by decide +kernel
theorem dX5_faultOf_81 : decode cX5_faultOf 81 = .ok (.aload_n 0, 1) := by decide +kernel
theorem dX5_faultOf_82 : decode cX5_faultOf 82 = .ok (.getfield 46, 3) := by decide +kernel
theorem dX5_faultOf_85 : decode cX5_faultOf 85 = .ok (.aload_n 0, 1) := by decide +kernel
theorem dX5_faultOf_86 : decode cX5_faultOf 86 = .ok (.getfield 39, 3) := by decide +kernel
theorem dX5_faultOf_89 : decode cX5_faultOf 89 = .ok (.if_icmp .ne 7, 3) := by decide +kernel
theorem dX5_faultOf_92 : decode cX5_faultOf 92 = .ok (.iconst (-1), 1) := by decide +kernel
theorem dX5_faultOf_93 : decode cX5_faultOf 93 = .ok (.goto 7, 3) := by decide +kernel
theorem dX5_faultOf_96 : decode cX5_faultOf 96 = .ok (.aload_n 0, 1) := by decide +kernel
theorem dX5_faultOf_97 : decode cX5_faultOf 97 = .ok (.getfield 46, 3) := by decide +kernel
theorem dX5_faultOf_100 : decode cX5_faultOf 100 = .ok (.ireturn, 1) := by decide +kernel
theorem dX5_faultOf_101 : decode cX5_faultOf 101 = .ok (.iinc 5 1, 3) := by decide +kernel
theorem dX5_faultOf_104 : decode cX5_faultOf 104 = .ok (.goto (-63), 3) := by decide +kernel
theorem dX5_faultOf_107 : decode cX5_faultOf 107 = .ok (.aload_n 0, 1) := by decide +kernel
theorem dX5_faultOf_108 : decode cX5_faultOf 108 = .ok (.getfield 46, 3) := by decide +kernel
theorem dX5_faultOf_111 : decode cX5_faultOf 111 = .ok (.ireturn, 1) := by decide +kernel
theorem dX5_next_0 : decode cX5_next 0 = .ok (.aload_n 0, 1) := by decide +kernel
theorem dX5_next_1 : decode cX5_next 1 = .ok (.getfield 46, 3) := by decide +kernel
theorem dX5_next_4 : decode cX5_next 4 = .ok (.aload_n 0, 1) := by decide +kernel
theorem dX5_next_5 : decode cX5_next 5 = .ok (.getfield 39, 3) := by decide +kernel
theorem dX5_next_8 : decode cX5_next 8 = .ok (.if_icmp .ge 15, 3) := by decide +kernel
theorem dX5_next_11 : decode cX5_next 11 = .ok (.aload_n 0, 1) := by decide +kernel
theorem dX5_next_12 : decode cX5_next 12 = .ok (.getfield 29, 3) := by decide +kernel
theorem dX5_next_15 : decode cX5_next 15 = .ok (.aload_n 0, 1) := by decide +kernel
theorem dX5_next_16 : decode cX5_next 16 = .ok (.getfield 46, 3) := by decide +kernel
theorem dX5_next_19 : decode cX5_next 19 = .ok (.caload, 1) := by decide +kernel
theorem dX5_next_20 : decode cX5_next 20 = .ok (.goto 4, 3) := by decide +kernel
theorem dX5_next_23 : decode cX5_next 23 = .ok (.iconst 0, 1) := by decide +kernel
theorem dX5_next_24 : decode cX5_next 24 = .ok (.ireturn, 1) := by decide +kernel
theorem dX5_passed_0 : decode cX5_passed 0 = .ok (.aload_n 0, 1) := by decide +kernel
theorem dX5_passed_1 : decode cX5_passed 1 = .ok (.invokevirtual 64, 3) := by decide +kernel
theorem dX5_passed_4 : decode cX5_passed 4 = .ok (.iload_n 1, 1) := by decide +kernel
theorem dX5_passed_5 : decode cX5_passed 5 = .ok (.if_icmp .eq 5, 3) := by decide +kernel
theorem dX5_passed_8 : decode cX5_passed 8 = .ok (.iconst 0, 1) := by decide +kernel
theorem dX5_passed_9 : decode cX5_passed 9 = .ok (.ireturn, 1) := by decide +kernel
theorem dX5_passed_10 : decode cX5_passed 10 = .ok (.aload_n 0, 1) := by decide +kernel
theorem dX5_passed_11 : decode cX5_passed 11 = .ok (.dup, 1) := by decide +kernel
theorem dX5_passed_12 : decode cX5_passed 12 = .ok (.getfield 46, 3) := by decide +kernel
theorem dX5_passed_15 : decode cX5_passed 15 = .ok (.iconst 1, 1) := by decide +kernel
theorem dX5_passed_16 : decode cX5_passed 16 = .ok (.iadd, 1) := by decide +kernel
theorem dX5_passed_17 : decode cX5_passed 17 = .ok (.putfield 46, 3) := by decide +kernel
theorem dX5_passed_20 : decode cX5_passed 20 = .ok (.iconst 1, 1) := by decide +kernel
theorem dX5_passed_21 : decode cX5_passed 21 = .ok (.ireturn, 1) := by decide +kernel
theorem dX5_parentOfNext_0 : decode cX5_parentOfNext 0 = .ok (.aload_n 0, 1) := by decide +kernel
theorem dX5_parentOfNext_1 : decode cX5_parentOfNext 1 = .ok (.getfield 49, 3) := by decide +kernel
theorem dX5_parentOfNext_4 : decode cX5_parentOfNext 4 = .ok (.iconst 1, 1) := by decide +kernel
theorem dX5_parentOfNext_5 : decode cX5_parentOfNext 5 = .ok (.isub, 1) := by decide +kernel
theorem dX5_parentOfNext_6 : decode cX5_parentOfNext 6 = .ok (.istore_n 1, 1) := by decide +kernel
theorem dX5_parentOfNext_7 : decode cX5_parentOfNext 7 = .ok (.aload_n 0, 1) := by decide +kernel
theorem dX5_parentOfNext_8 : decode cX5_parentOfNext 8 = .ok (.bipush 40, 2) := by decide +kernel
theorem dX5_parentOfNext_10 : decode cX5_parentOfNext 10 = .ok (.invokevirtual 68, 3) := by decide +kernel
theorem dX5_parentOfNext_13 : decode cX5_parentOfNext 13 = .ok (.ifCond .eq 5, 3) := by decide +kernel
theorem dX5_parentOfNext_16 : decode cX5_parentOfNext 16 = .ok (.iload_n 1, 1) := by decide +kernel
theorem dX5_parentOfNext_17 : decode cX5_parentOfNext 17 = .ok (.ireturn, 1) := by decide +kernel
theorem dX5_parentOfNext_18 : decode cX5_parentOfNext 18 = .ok (.aload_n 0, 1) := by decide +kernel
theorem dX5_parentOfNext_19 : decode cX5_parentOfNext 19 = .ok (.getfield 15, 3) := by decide +kernel
theorem dX5_parentOfNext_22 : decode cX5_parentOfNext 22 = .ok (.iload_n 1, 1) := by decide +kernel
theorem dX5_parentOfNext_23 : decode cX5_parentOfNext 23 = .ok (.iaload, 1) := by decide +kernel
theorem dX5_parentOfNext_24 : decode cX5_parentOfNext 24 = .ok (.istore_n 1, 1) := by decide +kernel
theorem dX5_parentOfNext_25 : decode cX5_parentOfNext 25 = .ok (.iconst 0, 1) := by decide +kernel
theorem dX5_parentOfNext_26 : decode cX5_parentOfNext 26 = .ok (.istore_n 2, 1) := by decide +kernel
theorem dX5_parentOfNext_27 : decode cX5_parentOfNext 27 = .ok (.iload_n 2, 1) := by decide +kernel
theorem dX5_parentOfNext_28 : decode cX5_parentOfNext 28 = .ok (.bipush 24, 2) := by decide +kernel
theorem dX5_parentOfNext_30 : decode cX5_parentOfNext 30 = .ok (.if_icmp .ge 43, 3) := by decide +kernel
theorem dX5_parentOfNext_33 : decode cX5_parentOfNext 33 = .ok (.iload_n 1, 1) := by decide +kernel
theorem dX5_parentOfNext_34 : decode cX5_parentOfNext 34 = .ok (.iconst (-1), 1) := by decide +kernel
theorem dX5_parentOfNext_35 : decode cX5_parentOfNext 35 = .ok (.if_icmp .eq 38, 3) := by decide +kernel
theorem dX5_parentOfNext_38 : decode cX5_parentOfNext 38 = .ok (.aload_n 0, 1) := by decide +kernel
theorem dX5_parentOfNext_39 : decode cX5_parentOfNext 39 = .ok (.bipush 44, 2) := by decide +kernel
theorem dX5_parentOfNext_41 : decode cX5_parentOfNext 41 = .ok (.invokevirtual 68, 3) := by decide +kernel
theorem dX5_parentOfNext_44 : decode cX5_parentOfNext 44 = .ok (.ifCond .eq 5, 3) := by decide +kernel
theorem dX5_parentOfNext_47 : decode cX5_parentOfNext 47 = .ok (.iload_n 1, 1) := by decide +kernel
theorem dX5_parentOfNext_48 : decode cX5_parentOfNext 48 = .ok (.ireturn, 1) := by decide +kernel
theorem dX5_parentOfNext_49 : decode cX5_parentOfNext 49 = .ok (.aload_n 0, 1) := by decide +kernel
theorem dX5_parentOfNext_50 : decode cX5_parentOfNext 50 = .ok (.bipush 41, 2) := by decide +kernel
theorem dX5_parentOfNext_52 : decode cX5_parentOfNext 52 = .ok (.invokevirtual 68, 3) := by decide +kernel
theorem dX5_parentOfNext_55 : decode cX5_parentOfNext 55 = .ok (.ifCond .ne 5, 3) := by decide +kernel
theorem dX5_parentOfNext_58 : decode cX5_parentOfNext 58 = .ok (.iconst (-1), 1) := by decide +kernel
theorem dX5_parentOfNext_59 : decode cX5_parentOfNext 59 = .ok (.ireturn, 1) := by decide +kernel
theorem dX5_parentOfNext_60 : decode cX5_parentOfNext 60 = .ok (.aload_n 0, 1) := by decide +kernel
theorem dX5_parentOfNext_61 : decode cX5_parentOfNext 61 = .ok (.getfield 15, 3) := by decide +kernel
theorem dX5_parentOfNext_64 : decode cX5_parentOfNext 64 = .ok (.iload_n 1, 1) := by decide +kernel
theorem dX5_parentOfNext_65 : decode cX5_parentOfNext 65 = .ok (.iaload, 1) := by decide +kernel
theorem dX5_parentOfNext_66 : decode cX5_parentOfNext 66 = .ok (.istore_n 1, 1) := by decide +kernel
theorem dX5_parentOfNext_67 : decode cX5_parentOfNext 67 = .ok (.iinc 2 1, 3) := by decide +kernel
theorem dX5_parentOfNext_70 : decode cX5_parentOfNext 70 = .ok (.goto (-43), 3) := by decide +kernel
theorem dX5_parentOfNext_73 : decode cX5_parentOfNext 73 = .ok (.aload_n 0, 1) := by decide +kernel
theorem dX5_parentOfNext_74 : decode cX5_parentOfNext 74 = .ok (.iload_n 1, 1) := by decide +kernel
theorem dX5_parentOfNext_75 : decode cX5_parentOfNext 75 = .ok (.iconst (-1), 1) := by decide +kernel
theorem dX5_parentOfNext_76 : decode cX5_parentOfNext 76 = .ok (.if_icmp .ne 7, 3) := by decide +kernel
theorem dX5_parentOfNext_79 : decode cX5_parentOfNext 79 = .ok (.iconst 1, 1) := by decide +kernel
theorem dX5_parentOfNext_80 : decode cX5_parentOfNext 80 = .ok (.goto 4, 3) := by decide +kernel
theorem dX5_parentOfNext_83 : decode cX5_parentOfNext 83 = .ok (.iconst 0, 1) := by decide +kernel
theorem dX5_parentOfNext_84 : decode cX5_parentOfNext 84 = .ok (.putfield 52, 3) := by decide +kernel
theorem dX5_parentOfNext_87 : decode cX5_parentOfNext 87 = .ok (.iconst (-1), 1) := by decide +kernel
theorem dX5_parentOfNext_88 : decode cX5_parentOfNext 88 = .ok (.ireturn, 1) := by decide +kernel
theorem dX5_readBox_0 : decode cX5_readBox 0 = .ok (.iload_n 1, 1) := by decide +kernel
theorem dX5_readBox_1 : decode cX5_readBox 1 = .ok (.iconst (-1), 1) := by decide +kernel
theorem dX5_readBox_2 : decode cX5_readBox 2 = .ok (.if_icmp .eq 21, 3) := by decide +kernel
theorem dX5_readBox_5 : decode cX5_readBox 5 = .ok (.aload_n 0, 1) := by decide +kernel
theorem dX5_readBox_6 : decode cX5_readBox 6 = .ok (.getfield 21, 3) := by decide +kernel
theorem dX5_readBox_9 : decode cX5_readBox 9 = .ok (.iload_n 1, 1) := by decide +kernel
theorem dX5_readBox_10 : decode cX5_readBox 10 = .ok (.iaload, 1) := by decide +kernel
theorem dX5_readBox_11 : decode cX5_readBox 11 = .ok (.aload_n 0, 1) := by decide +kernel
theorem dX5_readBox_12 : decode cX5_readBox 12 = .ok (.getfield 9, 3) := by decide +kernel
theorem dX5_readBox_15 : decode cX5_readBox 15 = .ok (.iload_n 1, 1) := by decide +kernel
theorem dX5_readBox_16 : decode cX5_readBox 16 = .ok (.iaload, 1) := by decide +kernel
theorem dX5_readBox_17 : decode cX5_readBox 17 = .ok (.invokestatic 72, 3) := by decide +kernel
theorem dX5_readBox_20 : decode cX5_readBox 20 = .ok (.if_icmp .ge 7, 3) := by decide +kernel
theorem dX5_readBox_23 : decode cX5_readBox 23 = .ok (.iconst 1, 1) := by decide +kernel
theorem dX5_readBox_24 : decode cX5_readBox 24 = .ok (.goto 4, 3) := by decide +kernel
theorem dX5_readBox_27 : decode cX5_readBox 27 = .ok (.iconst 0, 1) := by decide +kernel
theorem dX5_readBox_28 : decode cX5_readBox 28 = .ok (.istore_n 2, 1) := by decide +kernel
theorem dX5_readBox_29 : decode cX5_readBox 29 = .ok (.iload_n 2, 1) := by decide +kernel
theorem dX5_readBox_30 : decode cX5_readBox 30 = .ok (.ifCond .eq 23, 3) := by decide +kernel
theorem dX5_readBox_33 : decode cX5_readBox 33 = .ok (.aload_n 0, 1) := by decide +kernel
theorem dX5_readBox_34 : decode cX5_readBox 34 = .ok (.getfield 49, 3) := by decide +kernel
theorem dX5_readBox_37 : decode cX5_readBox 37 = .ok (.aload_n 0, 1) := by decide +kernel
theorem dX5_readBox_38 : decode cX5_readBox 38 = .ok (.getfield 43, 3) := by decide +kernel
theorem dX5_readBox_41 : decode cX5_readBox 41 = .ok (.if_icmp .ge 12, 3) := by decide +kernel
theorem dX5_readBox_44 : decode cX5_readBox 44 = .ok (.aload_n 0, 1) := by decide +kernel
theorem dX5_readBox_45 : decode cX5_readBox 45 = .ok (.getfield 49, 3) := by decide +kernel
theorem dX5_readBox_48 : decode cX5_readBox 48 = .ok (.bipush 24, 2) := by decide +kernel
theorem dX5_readBox_50 : decode cX5_readBox 50 = .ok (.if_icmp .lt 5, 3) := by decide +kernel
theorem dX5_readBox_53 : decode cX5_readBox 53 = .ok (.iconst 0, 1) := by decide +kernel
theorem dX5_readBox_54 : decode cX5_readBox 54 = .ok (.ireturn, 1) := by decide +kernel
theorem dX5_readBox_55 : decode cX5_readBox 55 = .ok (.aload_n 0, 1) := by decide +kernel
theorem dX5_readBox_56 : decode cX5_readBox 56 = .ok (.invokevirtual 78, 3) := by decide +kernel
theorem dX5_readBox_59 : decode cX5_readBox 59 = .ok (.istore_n 3, 1) := by decide +kernel
theorem dX5_readBox_60 : decode cX5_readBox 60 = .ok (.iload_n 3, 1) := by decide +kernel
theorem dX5_readBox_61 : decode cX5_readBox 61 = .ok (.iconst (-1), 1) := by decide +kernel
theorem dX5_readBox_62 : decode cX5_readBox 62 = .ok (.if_icmp .ne 5, 3) := by decide +kernel
theorem dX5_readBox_65 : decode cX5_readBox 65 = .ok (.iconst 0, 1) := by decide +kernel
theorem dX5_readBox_66 : decode cX5_readBox 66 = .ok (.ireturn, 1) := by decide +kernel
theorem dX5_readBox_67 : decode cX5_readBox 67 = .ok (.aload_n 0, 1) := by decide +kernel
theorem dX5_readBox_68 : decode cX5_readBox 68 = .ok (.getfield 49, 3) := by decide +kernel
theorem dX5_readBox_71 : decode cX5_readBox 71 = .ok (.istore 4, 2) := by decide +kernel
theorem dX5_readBox_73 : decode cX5_readBox 73 = .ok (.aload_n 0, 1) := by decide +kernel
theorem dX5_readBox_74 : decode cX5_readBox 74 = .ok (.dup, 1) := by decide +kernel
theorem dX5_readBox_75 : decode cX5_readBox 75 = .ok (.getfield 49, 3) := by decide +kernel
theorem dX5_readBox_78 : decode cX5_readBox 78 = .ok (.iconst 1, 1) := by decide +kernel
theorem dX5_readBox_79 : decode cX5_readBox 79 = .ok (.iadd, 1) := by decide +kernel
theorem dX5_readBox_80 : decode cX5_readBox 80 = .ok (.putfield 49, 3) := by decide +kernel
theorem dX5_readBox_83 : decode cX5_readBox 83 = .ok (.aload_n 0, 1) := by decide +kernel
theorem dX5_readBox_84 : decode cX5_readBox 84 = .ok (.getfield 9, 3) := by decide +kernel
theorem dX5_readBox_87 : decode cX5_readBox 87 = .ok (.iload 4, 2) := by decide +kernel
theorem dX5_readBox_89 : decode cX5_readBox 89 = .ok (.iload_n 3, 1) := by decide +kernel
theorem dX5_readBox_90 : decode cX5_readBox 90 = .ok (.iastore, 1) := by decide +kernel
theorem dX5_readBox_91 : decode cX5_readBox 91 = .ok (.aload_n 0, 1) := by decide +kernel
theorem dX5_readBox_92 : decode cX5_readBox 92 = .ok (.getfield 15, 3) := by decide +kernel
theorem dX5_readBox_95 : decode cX5_readBox 95 = .ok (.iload 4, 2) := by decide +kernel
theorem dX5_readBox_97 : decode cX5_readBox 97 = .ok (.iload_n 1, 1) := by decide +kernel
theorem dX5_readBox_98 : decode cX5_readBox 98 = .ok (.iastore, 1) := by decide +kernel
theorem dX5_readBox_99 : decode cX5_readBox 99 = .ok (.aload_n 0, 1) := by decide +kernel
theorem dX5_readBox_100 : decode cX5_readBox 100 = .ok (.getfield 21, 3) := by decide +kernel
theorem dX5_readBox_103 : decode cX5_readBox 103 = .ok (.iload 4, 2) := by decide +kernel
theorem dX5_readBox_105 : decode cX5_readBox 105 = .ok (.iconst 0, 1) := by decide +kernel
theorem dX5_readBox_106 : decode cX5_readBox 106 = .ok (.iastore, 1) := by decide +kernel
theorem dX5_readBox_107 : decode cX5_readBox 107 = .ok (.iload_n 1, 1) := by decide +kernel
theorem dX5_readBox_108 : decode cX5_readBox 108 = .ok (.iconst (-1), 1) := by decide +kernel
theorem dX5_readBox_109 : decode cX5_readBox 109 = .ok (.if_icmp .eq 13, 3) := by decide +kernel
theorem dX5_readBox_112 : decode cX5_readBox 112 = .ok (.aload_n 0, 1) := by decide +kernel
theorem dX5_readBox_113 : decode cX5_readBox 113 = .ok (.getfield 21, 3) := by decide +kernel
theorem dX5_readBox_116 : decode cX5_readBox 116 = .ok (.iload_n 1, 1) := by decide +kernel
theorem dX5_readBox_117 : decode cX5_readBox 117 = .ok (.dup2, 1) := by decide +kernel
theorem dX5_readBox_118 : decode cX5_readBox 118 = .ok (.iaload, 1) := by decide +kernel
theorem dX5_readBox_119 : decode cX5_readBox 119 = .ok (.iconst 1, 1) := by decide +kernel
theorem dX5_readBox_120 : decode cX5_readBox 120 = .ok (.iadd, 1) := by decide +kernel
theorem dX5_readBox_121 : decode cX5_readBox 121 = .ok (.iastore, 1) := by decide +kernel
theorem dX5_readBox_122 : decode cX5_readBox 122 = .ok (.aload_n 0, 1) := by decide +kernel
theorem dX5_readBox_123 : decode cX5_readBox 123 = .ok (.iload 4, 2) := by decide +kernel
theorem dX5_readBox_125 : decode cX5_readBox 125 = .ok (.invokevirtual 81, 3) := by decide +kernel
theorem dX5_readBox_128 : decode cX5_readBox 128 = .ok (.ifCond .eq 16, 3) := by decide +kernel
theorem dX5_readBox_131 : decode cX5_readBox 131 = .ok (.aload_n 0, 1) := by decide +kernel
theorem dX5_readBox_132 : decode cX5_readBox 132 = .ok (.iload 4, 2) := by decide +kernel
theorem dX5_readBox_134 : decode cX5_readBox 134 = .ok (.invokevirtual 84, 3) := by decide +kernel
theorem dX5_readBox_137 : decode cX5_readBox 137 = .ok (.ifCond .eq 7, 3) := by decide +kernel
theorem dX5_readBox_140 : decode cX5_readBox 140 = .ok (.iconst 1, 1) := by decide +kernel
theorem dX5_readBox_141 : decode cX5_readBox 141 = .ok (.goto 4, 3) := by decide +kernel
theorem dX5_readBox_144 : decode cX5_readBox 144 = .ok (.iconst 0, 1) := by decide +kernel
theorem dX5_readBox_145 : decode cX5_readBox 145 = .ok (.ireturn, 1) := by decide +kernel
theorem dX5_readName_0 : decode cX5_readName 0 = .ok (.iconst 0, 1) := by decide +kernel
theorem dX5_readName_1 : decode cX5_readName 1 = .ok (.istore_n 1, 1) := by decide +kernel
theorem dX5_readName_2 : decode cX5_readName 2 = .ok (.iconst 0, 1) := by decide +kernel
theorem dX5_readName_3 : decode cX5_readName 3 = .ok (.istore_n 2, 1) := by decide +kernel
theorem dX5_readName_4 : decode cX5_readName 4 = .ok (.iload_n 2, 1) := by decide +kernel
theorem dX5_readName_5 : decode cX5_readName 5 = .ok (.bipush 10, 2) := by decide +kernel
theorem dX5_readName_7 : decode cX5_readName 7 = .ok (.if_icmp .ge 50, 3) := by decide +kernel
theorem dX5_readName_10 : decode cX5_readName 10 = .ok (.iload_n 2, 1) := by decide +kernel
theorem dX5_readName_11 : decode cX5_readName 11 = .ok (.invokestatic 87, 3) := by decide +kernel
theorem dX5_readName_14 : decode cX5_readName 14 = .ok (.astore_n 3, 1) := by decide +kernel
theorem dX5_readName_15 : decode cX5_readName 15 = .ok (.aload_n 0, 1) := by decide +kernel
theorem dX5_readName_16 : decode cX5_readName 16 = .ok (.aload_n 3, 1) := by decide +kernel
theorem dX5_readName_17 : decode cX5_readName 17 = .ok (.invokevirtual 91, 3) := by decide +kernel
theorem dX5_readName_20 : decode cX5_readName 20 = .ok (.istore 4, 2) := by decide +kernel
theorem dX5_readName_22 : decode cX5_readName 22 = .ok (.iload_n 1, 1) := by decide +kernel
theorem dX5_readName_23 : decode cX5_readName 23 = .ok (.iload 4, 2) := by decide +kernel
theorem dX5_readName_25 : decode cX5_readName 25 = .ok (.invokestatic 95, 3) := by decide +kernel
theorem dX5_readName_28 : decode cX5_readName 28 = .ok (.istore_n 1, 1) := by decide +kernel
theorem dX5_readName_29 : decode cX5_readName 29 = .ok (.iload 4, 2) := by decide +kernel
theorem dX5_readName_31 : decode cX5_readName 31 = .ok (.aload_n 3, 1) := by decide +kernel
theorem dX5_readName_32 : decode cX5_readName 32 = .ok (.invokevirtual 98, 3) := by decide +kernel
theorem dX5_readName_35 : decode cX5_readName 35 = .ok (.if_icmp .ne 16, 3) := by decide +kernel
theorem dX5_readName_38 : decode cX5_readName 38 = .ok (.aload_n 0, 1) := by decide +kernel
theorem dX5_readName_39 : decode cX5_readName 39 = .ok (.dup, 1) := by decide +kernel
theorem dX5_readName_40 : decode cX5_readName 40 = .ok (.getfield 46, 3) := by decide +kernel
theorem dX5_readName_43 : decode cX5_readName 43 = .ok (.iload 4, 2) := by decide +kernel
theorem dX5_readName_45 : decode cX5_readName 45 = .ok (.iadd, 1) := by decide +kernel
theorem dX5_readName_46 : decode cX5_readName 46 = .ok (.putfield 46, 3) := by decide +kernel
theorem dX5_readName_49 : decode cX5_readName 49 = .ok (.iload_n 2, 1) := by decide +kernel
theorem dX5_readName_50 : decode cX5_readName 50 = .ok (.ireturn, 1) := by decide +kernel
theorem dX5_readName_51 : decode cX5_readName 51 = .ok (.iinc 2 1, 3) := by decide +kernel
theorem dX5_readName_54 : decode cX5_readName 54 = .ok (.goto (-50), 3) := by decide +kernel
theorem dX5_readName_57 : decode cX5_readName 57 = .ok (.aload_n 0, 1) := by decide +kernel
theorem dX5_readName_58 : decode cX5_readName 58 = .ok (.dup, 1) := by decide +kernel
theorem dX5_readName_59 : decode cX5_readName 59 = .ok (.getfield 46, 3) := by decide +kernel
theorem dX5_readName_62 : decode cX5_readName 62 = .ok (.iload_n 1, 1) := by decide +kernel
theorem dX5_readName_63 : decode cX5_readName 63 = .ok (.iadd, 1) := by decide +kernel
theorem dX5_readName_64 : decode cX5_readName 64 = .ok (.putfield 46, 3) := by decide +kernel
theorem dX5_readName_67 : decode cX5_readName 67 = .ok (.iconst (-1), 1) := by decide +kernel
theorem dX5_readName_68 : decode cX5_readName 68 = .ok (.ireturn, 1) := by decide +kernel
theorem dX5_lettersLike_0 : decode cX5_lettersLike 0 = .ok (.aload_n 1, 1) := by decide +kernel
theorem dX5_lettersLike_1 : decode cX5_lettersLike 1 = .ok (.invokevirtual 98, 3) := by decide +kernel
theorem dX5_lettersLike_4 : decode cX5_lettersLike 4 = .ok (.aload_n 0, 1) := by decide +kernel
theorem dX5_lettersLike_5 : decode cX5_lettersLike 5 = .ok (.getfield 39, 3) := by decide +kernel
theorem dX5_lettersLike_8 : decode cX5_lettersLike 8 = .ok (.aload_n 0, 1) := by decide +kernel
theorem dX5_lettersLike_9 : decode cX5_lettersLike 9 = .ok (.getfield 46, 3) := by decide +kernel
theorem dX5_lettersLike_12 : decode cX5_lettersLike 12 = .ok (.isub, 1) := by decide +kernel
theorem dX5_lettersLike_13 : decode cX5_lettersLike 13 = .ok (.invokestatic 33, 3) := by decide +kernel
theorem dX5_lettersLike_16 : decode cX5_lettersLike 16 = .ok (.istore_n 2, 1) := by decide +kernel
theorem dX5_lettersLike_17 : decode cX5_lettersLike 17 = .ok (.iconst 0, 1) := by decide +kernel
theorem dX5_lettersLike_18 : decode cX5_lettersLike 18 = .ok (.istore_n 3, 1) := by decide +kernel
theorem dX5_lettersLike_19 : decode cX5_lettersLike 19 = .ok (.iload_n 3, 1) := by decide +kernel
theorem dX5_lettersLike_20 : decode cX5_lettersLike 20 = .ok (.iload_n 2, 1) := by decide +kernel
theorem dX5_lettersLike_21 : decode cX5_lettersLike 21 = .ok (.if_icmp .ge 30, 3) := by decide +kernel
theorem dX5_lettersLike_24 : decode cX5_lettersLike 24 = .ok (.aload_n 0, 1) := by decide +kernel
theorem dX5_lettersLike_25 : decode cX5_lettersLike 25 = .ok (.getfield 29, 3) := by decide +kernel
theorem dX5_lettersLike_28 : decode cX5_lettersLike 28 = .ok (.aload_n 0, 1) := by decide +kernel
theorem dX5_lettersLike_29 : decode cX5_lettersLike 29 = .ok (.getfield 46, 3) := by decide +kernel
theorem dX5_lettersLike_32 : decode cX5_lettersLike 32 = .ok (.iload_n 3, 1) := by decide +kernel
theorem dX5_lettersLike_33 : decode cX5_lettersLike 33 = .ok (.iadd, 1) := by decide +kernel
theorem dX5_lettersLike_34 : decode cX5_lettersLike 34 = .ok (.caload, 1) := by decide +kernel
theorem dX5_lettersLike_35 : decode cX5_lettersLike 35 = .ok (.aload_n 1, 1) := by decide +kernel
theorem dX5_lettersLike_36 : decode cX5_lettersLike 36 = .ok (.iload_n 3, 1) := by decide +kernel
theorem dX5_lettersLike_37 : decode cX5_lettersLike 37 = .ok (.invokevirtual 102, 3) := by decide +kernel
theorem dX5_lettersLike_40 : decode cX5_lettersLike 40 = .ok (.if_icmp .eq 5, 3) := by decide +kernel
theorem dX5_lettersLike_43 : decode cX5_lettersLike 43 = .ok (.iload_n 3, 1) := by decide +kernel
theorem dX5_lettersLike_44 : decode cX5_lettersLike 44 = .ok (.ireturn, 1) := by decide +kernel
theorem dX5_lettersLike_45 : decode cX5_lettersLike 45 = .ok (.iinc 3 1, 3) := by decide +kernel
theorem dX5_lettersLike_48 : decode cX5_lettersLike 48 = .ok (.goto (-29), 3) := by decide +kernel
theorem dX5_lettersLike_51 : decode cX5_lettersLike 51 = .ok (.iconst 0, 1) := by decide +kernel
theorem dX5_lettersLike_52 : decode cX5_lettersLike 52 = .ok (.iload_n 2, 1) := by decide +kernel
theorem dX5_lettersLike_53 : decode cX5_lettersLike 53 = .ok (.invokestatic 95, 3) := by decide +kernel
theorem dX5_lettersLike_56 : decode cX5_lettersLike 56 = .ok (.ireturn, 1) := by decide +kernel
theorem dX5_nextIsFigure_0 : decode cX5_nextIsFigure 0 = .ok (.aload_n 0, 1) := by decide +kernel
theorem dX5_nextIsFigure_1 : decode cX5_nextIsFigure 1 = .ok (.invokevirtual 64, 3) := by decide +kernel
theorem dX5_nextIsFigure_4 : decode cX5_nextIsFigure 4 = .ok (.bipush 48, 2) := by decide +kernel
theorem dX5_nextIsFigure_6 : decode cX5_nextIsFigure 6 = .ok (.if_icmp .lt 16, 3) := by decide +kernel
theorem dX5_nextIsFigure_9 : decode cX5_nextIsFigure 9 = .ok (.aload_n 0, 1) := by decide +kernel
theorem dX5_nextIsFigure_10 : decode cX5_nextIsFigure 10 = .ok (.invokevirtual 64, 3) := by decide +kernel
theorem dX5_nextIsFigure_13 : decode cX5_nextIsFigure 13 = .ok (.bipush 57, 2) := by decide +kernel
theorem dX5_nextIsFigure_15 : decode cX5_nextIsFigure 15 = .ok (.if_icmp .gt 7, 3) := by decide +kernel
theorem dX5_nextIsFigure_18 : decode cX5_nextIsFigure 18 = .ok (.iconst 1, 1) := by decide +kernel
theorem dX5_nextIsFigure_19 : decode cX5_nextIsFigure 19 = .ok (.goto 4, 3) := by decide +kernel
theorem dX5_nextIsFigure_22 : decode cX5_nextIsFigure 22 = .ok (.iconst 0, 1) := by decide +kernel
theorem dX5_nextIsFigure_23 : decode cX5_nextIsFigure 23 = .ok (.ireturn, 1) := by decide +kernel
theorem dX5_readNumbers_0 : decode cX5_readNumbers 0 = .ok (.aload_n 0, 1) := by decide +kernel
theorem dX5_readNumbers_1 : decode cX5_readNumbers 1 = .ok (.getfield 26, 3) := by decide +kernel
theorem dX5_readNumbers_4 : decode cX5_readNumbers 4 = .ok (.iload_n 1, 1) := by decide +kernel
theorem dX5_readNumbers_5 : decode cX5_readNumbers 5 = .ok (.aaload, 1) := by decide +kernel
theorem dX5_readNumbers_6 : decode cX5_readNumbers 6 = .ok (.astore_n 2, 1) := by decide +kernel
theorem dX5_readNumbers_7 : decode cX5_readNumbers 7 = .ok (.aload_n 2, 1) := by decide +kernel
theorem dX5_readNumbers_8 : decode cX5_readNumbers 8 = .ok (.iconst 0, 1) := by decide +kernel
theorem dX5_readNumbers_9 : decode cX5_readNumbers 9 = .ok (.invokestatic 106, 3) := by decide +kernel
theorem dX5_readNumbers_12 : decode cX5_readNumbers 12 = .ok (.iconst 0, 1) := by decide +kernel
theorem dX5_readNumbers_13 : decode cX5_readNumbers 13 = .ok (.istore_n 3, 1) := by decide +kernel
theorem dX5_readNumbers_14 : decode cX5_readNumbers 14 = .ok (.iload_n 3, 1) := by decide +kernel
theorem dX5_readNumbers_15 : decode cX5_readNumbers 15 = .ok (.aload_n 0, 1) := by decide +kernel
theorem dX5_readNumbers_16 : decode cX5_readNumbers 16 = .ok (.getfield 9, 3) := by decide +kernel
theorem dX5_readNumbers_19 : decode cX5_readNumbers 19 = .ok (.iload_n 1, 1) := by decide +kernel
theorem dX5_readNumbers_20 : decode cX5_readNumbers 20 = .ok (.iaload, 1) := by decide +kernel
theorem dX5_readNumbers_21 : decode cX5_readNumbers 21 = .ok (.invokestatic 112, 3) := by decide +kernel
theorem dX5_readNumbers_24 : decode cX5_readNumbers 24 = .ok (.if_icmp .ge 104, 3) := by decide +kernel
theorem dX5_readNumbers_27 : decode cX5_readNumbers 27 = .ok (.aload_n 0, 1) := by decide +kernel
theorem dX5_readNumbers_28 : decode cX5_readNumbers 28 = .ok (.bipush 32, 2) := by decide +kernel
theorem dX5_readNumbers_30 : decode cX5_readNumbers 30 = .ok (.invokevirtual 68, 3) := by decide +kernel
theorem dX5_readNumbers_33 : decode cX5_readNumbers 33 = .ok (.ifCond .eq 10, 3) := by decide +kernel
theorem dX5_readNumbers_36 : decode cX5_readNumbers 36 = .ok (.aload_n 0, 1) := by decide +kernel
theorem dX5_readNumbers_37 : decode cX5_readNumbers 37 = .ok (.invokevirtual 115, 3) := by decide +kernel
theorem dX5_readNumbers_40 : decode cX5_readNumbers 40 = .ok (.ifCond .ne 5, 3) := by decide +kernel
theorem dX5_readNumbers_43 : decode cX5_readNumbers 43 = .ok (.iconst 0, 1) := by decide +kernel
theorem dX5_readNumbers_44 : decode cX5_readNumbers 44 = .ok (.ireturn, 1) := by decide +kernel
theorem dX5_readNumbers_45 : decode cX5_readNumbers 45 = .ok (.aload_n 0, 1) := by decide +kernel
theorem dX5_readNumbers_46 : decode cX5_readNumbers 46 = .ok (.getfield 46, 3) := by decide +kernel
theorem dX5_readNumbers_49 : decode cX5_readNumbers 49 = .ok (.istore 4, 2) := by decide +kernel
theorem dX5_readNumbers_51 : decode cX5_readNumbers 51 = .ok (.aload_n 2, 1) := by decide +kernel
theorem dX5_readNumbers_52 : decode cX5_readNumbers 52 = .ok (.iload_n 3, 1) := by decide +kernel
theorem dX5_readNumbers_53 : decode cX5_readNumbers 53 = .ok (.aload_n 0, 1) := by decide +kernel
theorem dX5_readNumbers_54 : decode cX5_readNumbers 54 = .ok (.invokevirtual 119, 3) := by decide +kernel
theorem dX5_readNumbers_57 : decode cX5_readNumbers 57 = .ok (.iastore, 1) := by decide +kernel
theorem dX5_readNumbers_58 : decode cX5_readNumbers 58 = .ok (.aload_n 0, 1) := by decide +kernel
theorem dX5_readNumbers_59 : decode cX5_readNumbers 59 = .ok (.getfield 9, 3) := by decide +kernel
theorem dX5_readNumbers_62 : decode cX5_readNumbers 62 = .ok (.iload_n 1, 1) := by decide +kernel
theorem dX5_readNumbers_63 : decode cX5_readNumbers 63 = .ok (.iaload, 1) := by decide +kernel
theorem dX5_readNumbers_64 : decode cX5_readNumbers 64 = .ok (.iconst 3, 1) := by decide +kernel
theorem dX5_readNumbers_65 : decode cX5_readNumbers 65 = .ok (.if_icmp .ne 25, 3) := by decide +kernel
theorem dX5_readNumbers_68 : decode cX5_readNumbers 68 = .ok (.iload_n 3, 1) := by decide +kernel
theorem dX5_readNumbers_69 : decode cX5_readNumbers 69 = .ok (.iconst 2, 1) := by decide +kernel
theorem dX5_readNumbers_70 : decode cX5_readNumbers 70 = .ok (.irem, 1) := by decide +kernel
theorem dX5_readNumbers_71 : decode cX5_readNumbers 71 = .ok (.iconst 1, 1) := by decide +kernel
theorem dX5_readNumbers_72 : decode cX5_readNumbers 72 = .ok (.if_icmp .ne 18, 3) := by decide +kernel
theorem dX5_readNumbers_75 : decode cX5_readNumbers 75 = .ok (.aload_n 2, 1) := by decide +kernel
theorem dX5_readNumbers_76 : decode cX5_readNumbers 76 = .ok (.iload_n 3, 1) := by decide +kernel
theorem dX5_readNumbers_77 : decode cX5_readNumbers 77 = .ok (.iaload, 1) := by decide +kernel
theorem dX5_readNumbers_78 : decode cX5_readNumbers 78 = .ok (.aload_n 2, 1) := by decide +kernel
theorem dX5_readNumbers_79 : decode cX5_readNumbers 79 = .ok (.iload_n 3, 1) := by decide +kernel
theorem dX5_readNumbers_80 : decode cX5_readNumbers 80 = .ok (.iconst 1, 1) := by decide +kernel
theorem dX5_readNumbers_81 : decode cX5_readNumbers 81 = .ok (.isub, 1) := by decide +kernel
theorem dX5_readNumbers_82 : decode cX5_readNumbers 82 = .ok (.iaload, 1) := by decide +kernel
theorem dX5_readNumbers_83 : decode cX5_readNumbers 83 = .ok (.if_icmp .ge 7, 3) := by decide +kernel
theorem dX5_readNumbers_86 : decode cX5_readNumbers 86 = .ok (.iconst 1, 1) := by decide +kernel
theorem dX5_readNumbers_87 : decode cX5_readNumbers 87 = .ok (.goto 4, 3) := by decide +kernel
theorem dX5_readNumbers_90 : decode cX5_readNumbers 90 = .ok (.iconst 0, 1) := by decide +kernel
theorem dX5_readNumbers_91 : decode cX5_readNumbers 91 = .ok (.istore 5, 2) := by decide +kernel
theorem dX5_readNumbers_93 : decode cX5_readNumbers 93 = .ok (.iload 5, 2) := by decide +kernel
theorem dX5_readNumbers_95 : decode cX5_readNumbers 95 = .ok (.ifCond .ne 19, 3) := by decide +kernel
theorem dX5_readNumbers_98 : decode cX5_readNumbers 98 = .ok (.aload_n 0, 1) := by decide +kernel
theorem dX5_readNumbers_99 : decode cX5_readNumbers 99 = .ok (.getfield 9, 3) := by decide +kernel
theorem dX5_readNumbers_102 : decode cX5_readNumbers 102 = .ok (.iload_n 1, 1) := by decide +kernel
theorem dX5_readNumbers_103 : decode cX5_readNumbers 103 = .ok (.iaload, 1) := by decide +kernel
theorem dX5_readNumbers_104 : decode cX5_readNumbers 104 = .ok (.iload_n 3, 1) := by decide +kernel
theorem dX5_readNumbers_105 : decode cX5_readNumbers 105 = .ok (.aload_n 2, 1) := by decide +kernel
theorem dX5_readNumbers_106 : decode cX5_readNumbers 106 = .ok (.iload_n 3, 1) := by decide +kernel
theorem dX5_readNumbers_107 : decode cX5_readNumbers 107 = .ok (.iaload, 1) := by decide +kernel
theorem dX5_readNumbers_108 : decode cX5_readNumbers 108 = .ok (.invokestatic 122, 3) := by decide +kernel
theorem dX5_readNumbers_111 : decode cX5_readNumbers 111 = .ok (.ifCond .ne 11, 3) := by decide +kernel
theorem dX5_readNumbers_114 : decode cX5_readNumbers 114 = .ok (.aload_n 0, 1) := by decide +kernel
theorem dX5_readNumbers_115 : decode cX5_readNumbers 115 = .ok (.iload 4, 2) := by decide +kernel
theorem dX5_readNumbers_117 : decode cX5_readNumbers 117 = .ok (.putfield 46, 3) := by decide +kernel
theorem dX5_readNumbers_120 : decode cX5_readNumbers 120 = .ok (.iconst 0, 1) := by decide +kernel
theorem dX5_readNumbers_121 : decode cX5_readNumbers 121 = .ok (.ireturn, 1) := by decide +kernel
theorem dX5_readNumbers_122 : decode cX5_readNumbers 122 = .ok (.iinc 3 1, 3) := by decide +kernel
theorem dX5_readNumbers_125 : decode cX5_readNumbers 125 = .ok (.goto (-111), 3) := by decide +kernel
theorem dX5_readNumbers_128 : decode cX5_readNumbers 128 = .ok (.iconst 1, 1) := by decide +kernel
theorem dX5_readNumbers_129 : decode cX5_readNumbers 129 = .ok (.ireturn, 1) := by decide +kernel
theorem dX5_readNumber_0 : decode cX5_readNumber 0 = .ok (.iconst 0, 1) := by decide +kernel
theorem dX5_readNumber_1 : decode cX5_readNumber 1 = .ok (.istore_n 1, 1) := by decide +kernel
theorem dX5_readNumber_2 : decode cX5_readNumber 2 = .ok (.iconst 0, 1) := by decide +kernel
theorem dX5_readNumber_3 : decode cX5_readNumber 3 = .ok (.istore_n 2, 1) := by decide +kernel
theorem dX5_readNumber_4 : decode cX5_readNumber 4 = .ok (.iload_n 2, 1) := by decide +kernel
theorem dX5_readNumber_5 : decode cX5_readNumber 5 = .ok (.iconst 2, 1) := by decide +kernel
theorem dX5_readNumber_6 : decode cX5_readNumber 6 = .ok (.if_icmp .ge 39, 3) := by decide +kernel
theorem dX5_readNumber_9 : decode cX5_readNumber 9 = .ok (.aload_n 0, 1) := by decide +kernel
theorem dX5_readNumber_10 : decode cX5_readNumber 10 = .ok (.invokevirtual 115, 3) := by decide +kernel
theorem dX5_readNumber_13 : decode cX5_readNumber 13 = .ok (.ifCond .eq 32, 3) := by decide +kernel
theorem dX5_readNumber_16 : decode cX5_readNumber 16 = .ok (.bipush 10, 2) := by decide +kernel
theorem dX5_readNumber_18 : decode cX5_readNumber 18 = .ok (.iload_n 1, 1) := by decide +kernel
theorem dX5_readNumber_19 : decode cX5_readNumber 19 = .ok (.imul, 1) := by decide +kernel
theorem dX5_readNumber_20 : decode cX5_readNumber 20 = .ok (.aload_n 0, 1) := by decide +kernel
theorem dX5_readNumber_21 : decode cX5_readNumber 21 = .ok (.invokevirtual 64, 3) := by decide +kernel
theorem dX5_readNumber_24 : decode cX5_readNumber 24 = .ok (.iadd, 1) := by decide +kernel
theorem dX5_readNumber_25 : decode cX5_readNumber 25 = .ok (.bipush 48, 2) := by decide +kernel
theorem dX5_readNumber_27 : decode cX5_readNumber 27 = .ok (.isub, 1) := by decide +kernel
theorem dX5_readNumber_28 : decode cX5_readNumber 28 = .ok (.istore_n 1, 1) := by decide +kernel
theorem dX5_readNumber_29 : decode cX5_readNumber 29 = .ok (.aload_n 0, 1) := by decide +kernel
theorem dX5_readNumber_30 : decode cX5_readNumber 30 = .ok (.dup, 1) := by decide +kernel
theorem dX5_readNumber_31 : decode cX5_readNumber 31 = .ok (.getfield 46, 3) := by decide +kernel
theorem dX5_readNumber_34 : decode cX5_readNumber 34 = .ok (.iconst 1, 1) := by decide +kernel
theorem dX5_readNumber_35 : decode cX5_readNumber 35 = .ok (.iadd, 1) := by decide +kernel
theorem dX5_readNumber_36 : decode cX5_readNumber 36 = .ok (.putfield 46, 3) := by decide +kernel
theorem dX5_readNumber_39 : decode cX5_readNumber 39 = .ok (.iinc 2 1, 3) := by decide +kernel
theorem dX5_readNumber_42 : decode cX5_readNumber 42 = .ok (.goto (-38), 3) := by decide +kernel
theorem dX5_readNumber_45 : decode cX5_readNumber 45 = .ok (.iload_n 1, 1) := by decide +kernel
theorem dX5_readNumber_46 : decode cX5_readNumber 46 = .ok (.ireturn, 1) := by decide +kernel
theorem dX5_readShare_0 : decode cX5_readShare 0 = .ok (.aload_n 0, 1) := by decide +kernel
theorem dX5_readShare_1 : decode cX5_readShare 1 = .ok (.getfield 18, 3) := by decide +kernel
theorem dX5_readShare_4 : decode cX5_readShare 4 = .ok (.iload_n 1, 1) := by decide +kernel
theorem dX5_readShare_5 : decode cX5_readShare 5 = .ok (.iconst 0, 1) := by decide +kernel
theorem dX5_readShare_6 : decode cX5_readShare 6 = .ok (.iastore, 1) := by decide +kernel
theorem dX5_readShare_7 : decode cX5_readShare 7 = .ok (.aload_n 0, 1) := by decide +kernel
theorem dX5_readShare_8 : decode cX5_readShare 8 = .ok (.bipush 42, 2) := by decide +kernel
theorem dX5_readShare_10 : decode cX5_readShare 10 = .ok (.invokevirtual 68, 3) := by decide +kernel
theorem dX5_readShare_13 : decode cX5_readShare 13 = .ok (.ifCond .ne 5, 3) := by decide +kernel
theorem dX5_readShare_16 : decode cX5_readShare 16 = .ok (.iconst 1, 1) := by decide +kernel
theorem dX5_readShare_17 : decode cX5_readShare 17 = .ok (.ireturn, 1) := by decide +kernel
theorem dX5_readShare_18 : decode cX5_readShare 18 = .ok (.aload_n 0, 1) := by decide +kernel
theorem dX5_readShare_19 : decode cX5_readShare 19 = .ok (.invokevirtual 115, 3) := by decide +kernel
theorem dX5_readShare_22 : decode cX5_readShare 22 = .ok (.ifCond .ne 5, 3) := by decide +kernel
theorem dX5_readShare_25 : decode cX5_readShare 25 = .ok (.iconst 0, 1) := by decide +kernel
theorem dX5_readShare_26 : decode cX5_readShare 26 = .ok (.ireturn, 1) := by decide +kernel
theorem dX5_readShare_27 : decode cX5_readShare 27 = .ok (.aload_n 0, 1) := by decide +kernel
theorem dX5_readShare_28 : decode cX5_readShare 28 = .ok (.getfield 18, 3) := by decide +kernel
theorem dX5_readShare_31 : decode cX5_readShare 31 = .ok (.iload_n 1, 1) := by decide +kernel
theorem dX5_readShare_32 : decode cX5_readShare 32 = .ok (.aload_n 0, 1) := by decide +kernel
theorem dX5_readShare_33 : decode cX5_readShare 33 = .ok (.invokevirtual 64, 3) := by decide +kernel
theorem dX5_readShare_36 : decode cX5_readShare 36 = .ok (.bipush 48, 2) := by decide +kernel
theorem dX5_readShare_38 : decode cX5_readShare 38 = .ok (.isub, 1) := by decide +kernel
theorem dX5_readShare_39 : decode cX5_readShare 39 = .ok (.iastore, 1) := by decide +kernel
theorem dX5_readShare_40 : decode cX5_readShare 40 = .ok (.aload_n 0, 1) := by decide +kernel
theorem dX5_readShare_41 : decode cX5_readShare 41 = .ok (.dup, 1) := by decide +kernel
theorem dX5_readShare_42 : decode cX5_readShare 42 = .ok (.getfield 46, 3) := by decide +kernel
theorem dX5_readShare_45 : decode cX5_readShare 45 = .ok (.iconst 1, 1) := by decide +kernel
theorem dX5_readShare_46 : decode cX5_readShare 46 = .ok (.iadd, 1) := by decide +kernel
theorem dX5_readShare_47 : decode cX5_readShare 47 = .ok (.putfield 46, 3) := by decide +kernel
theorem dX5_readShare_50 : decode cX5_readShare 50 = .ok (.iconst 1, 1) := by decide +kernel
theorem dX5_readShare_51 : decode cX5_readShare 51 = .ok (.ireturn, 1) := by decide +kernel
theorem dX6_init_0 : decode cX6_init 0 = .ok (.aload_n 0, 1) := by decide +kernel
theorem dX6_init_1 : decode cX6_init 1 = .ok (.invokespecial 3, 3) := by decide +kernel
theorem dX6_init_4 : decode cX6_init 4 = .ok (.aload_n 0, 1) := by decide +kernel
theorem dX6_init_5 : decode cX6_init 5 = .ok (.bipush 60, 2) := by decide +kernel
theorem dX6_init_7 : decode cX6_init 7 = .ok (.newarray .long, 2) := by decide +kernel
theorem dX6_init_9 : decode cX6_init 9 = .ok (.putfield 9, 3) := by decide +kernel
theorem dX6_init_12 : decode cX6_init 12 = .ok (.aload_n 0, 1) := by decide +kernel
theorem dX6_init_13 : decode cX6_init 13 = .ok (.iconst (-1), 1) := by decide +kernel
theorem dX6_init_14 : decode cX6_init 14 = .ok (.putfield 15, 3) := by decide +kernel
theorem dX6_init_17 : decode cX6_init 17 = .ok (.return_, 1) := by decide +kernel
theorem dX6_clearTo_0 : decode cX6_clearTo 0 = .ok (.aload_n 0, 1) := by decide +kernel
theorem dX6_clearTo_1 : decode cX6_clearTo 1 = .ok (.iload_n 1, 1) := by decide +kernel
theorem dX6_clearTo_2 : decode cX6_clearTo 2 = .ok (.putfield 15, 3) := by decide +kernel
theorem dX6_clearTo_5 : decode cX6_clearTo 5 = .ok (.aload_n 0, 1) := by decide +kernel
theorem dX6_clearTo_6 : decode cX6_clearTo 6 = .ok (.iload_n 2, 1) := by decide +kernel
theorem dX6_clearTo_7 : decode cX6_clearTo 7 = .ok (.putfield 19, 3) := by decide +kernel
theorem dX6_clearTo_10 : decode cX6_clearTo 10 = .ok (.aload_n 0, 1) := by decide +kernel
theorem dX6_clearTo_11 : decode cX6_clearTo 11 = .ok (.getfield 9, 3) := by decide +kernel
theorem dX6_clearTo_14 : decode cX6_clearTo 14 = .ok (.lconst 0, 1) := by decide +kernel
theorem dX6_clearTo_15 : decode cX6_clearTo 15 = .ok (.invokestatic 22, 3) := by decide +kernel
theorem dX6_clearTo_18 : decode cX6_clearTo 18 = .ok (.return_, 1) := by decide +kernel
theorem dX6_hasPlace_0 : decode cX6_hasPlace 0 = .ok (.iload_n 1, 1) := by decide +kernel
theorem dX6_hasPlace_1 : decode cX6_hasPlace 1 = .ok (.ifCond .lt 15, 3) := by decide +kernel
theorem dX6_hasPlace_4 : decode cX6_hasPlace 4 = .ok (.iload_n 1, 1) := by decide +kernel
theorem dX6_hasPlace_5 : decode cX6_hasPlace 5 = .ok (.aload_n 0, 1) := by decide +kernel
theorem dX6_hasPlace_6 : decode cX6_hasPlace 6 = .ok (.getfield 19, 3) := by decide +kernel
theorem dX6_hasPlace_9 : decode cX6_hasPlace 9 = .ok (.if_icmp .ge 7, 3) := by decide +kernel
theorem dX6_hasPlace_12 : decode cX6_hasPlace 12 = .ok (.iconst 1, 1) := by decide +kernel
theorem dX6_hasPlace_13 : decode cX6_hasPlace 13 = .ok (.goto 4, 3) := by decide +kernel
theorem dX6_hasPlace_16 : decode cX6_hasPlace 16 = .ok (.iconst 0, 1) := by decide +kernel
theorem dX6_hasPlace_17 : decode cX6_hasPlace 17 = .ok (.ireturn, 1) := by decide +kernel
theorem dX6_hasRun_0 : decode cX6_hasRun 0 = .ok (.iload_n 2, 1) := by decide +kernel
theorem dX6_hasRun_1 : decode cX6_hasRun 1 = .ok (.ifCond .lt 29, 3) := by decide +kernel
theorem dX6_hasRun_4 : decode cX6_hasRun 4 = .ok (.iload_n 1, 1) := by decide +kernel
theorem dX6_hasRun_5 : decode cX6_hasRun 5 = .ok (.ifCond .lt 25, 3) := by decide +kernel
theorem dX6_hasRun_8 : decode cX6_hasRun 8 = .ok (.iload_n 2, 1) := by decide +kernel
theorem dX6_hasRun_9 : decode cX6_hasRun 9 = .ok (.aload_n 0, 1) := by decide +kernel
theorem dX6_hasRun_10 : decode cX6_hasRun 10 = .ok (.getfield 19, 3) := by decide +kernel
theorem dX6_hasRun_13 : decode cX6_hasRun 13 = .ok (.if_icmp .gt 17, 3) := by decide +kernel
theorem dX6_hasRun_16 : decode cX6_hasRun 16 = .ok (.iload_n 1, 1) := by decide +kernel
theorem dX6_hasRun_17 : decode cX6_hasRun 17 = .ok (.aload_n 0, 1) := by decide +kernel
theorem dX6_hasRun_18 : decode cX6_hasRun 18 = .ok (.getfield 19, 3) := by decide +kernel
theorem dX6_hasRun_21 : decode cX6_hasRun 21 = .ok (.iload_n 2, 1) := by decide +kernel
theorem dX6_hasRun_22 : decode cX6_hasRun 22 = .ok (.isub, 1) := by decide +kernel
theorem dX6_hasRun_23 : decode cX6_hasRun 23 = .ok (.if_icmp .gt 7, 3) := by decide +kernel
theorem dX6_hasRun_26 : decode cX6_hasRun 26 = .ok (.iconst 1, 1) := by decide +kernel
theorem dX6_hasRun_27 : decode cX6_hasRun 27 = .ok (.goto 4, 3) := by decide +kernel
theorem dX6_hasRun_30 : decode cX6_hasRun 30 = .ok (.iconst 0, 1) := by decide +kernel
theorem dX6_hasRun_31 : decode cX6_hasRun 31 = .ok (.ireturn, 1) := by decide +kernel
theorem dX6_cutToSort_0 : decode cX6_cutToSort 0 = .ok (.aload_n 0, 1) := by decide +kernel
theorem dX6_cutToSort_1 : decode cX6_cutToSort 1 = .ok (.getfield 15, 3) := by decide +kernel
theorem dX6_cutToSort_4 : decode cX6_cutToSort 4 = .ok (.tableswitch 42 0 2 #[28, 33, 38], 28) := by decide +kernel
theorem dX6_cutToSort_32 : decode cX6_cutToSort 32 = .ok (.lload_n 1, 1) := by decide +kernel
theorem dX6_cutToSort_33 : decode cX6_cutToSort 33 = .ok (.l2i, 1) := by decide +kernel
theorem dX6_cutToSort_34 : decode cX6_cutToSort 34 = .ok (.i2b, 1) := by decide +kernel
theorem dX6_cutToSort_35 : decode cX6_cutToSort 35 = .ok (.i2l, 1) := by decide +kernel
theorem dX6_cutToSort_36 : decode cX6_cutToSort 36 = .ok (.lreturn, 1) := by decide +kernel
theorem dX6_cutToSort_37 : decode cX6_cutToSort 37 = .ok (.lload_n 1, 1) := by decide +kernel
theorem dX6_cutToSort_38 : decode cX6_cutToSort 38 = .ok (.l2i, 1) := by decide +kernel
theorem dX6_cutToSort_39 : decode cX6_cutToSort 39 = .ok (.i2s, 1) := by decide +kernel
theorem dX6_cutToSort_40 : decode cX6_cutToSort 40 = .ok (.i2l, 1) := by decide +kernel
theorem dX6_cutToSort_41 : decode cX6_cutToSort 41 = .ok (.lreturn, 1) := by decide +kernel
theorem dX6_cutToSort_42 : decode cX6_cutToSort 42 = .ok (.lload_n 1, 1) := by decide +kernel
theorem dX6_cutToSort_43 : decode cX6_cutToSort 43 = .ok (.l2i, 1) := by decide +kernel
theorem dX6_cutToSort_44 : decode cX6_cutToSort 44 = .ok (.i2l, 1) := by decide +kernel
theorem dX6_cutToSort_45 : decode cX6_cutToSort 45 = .ok (.lreturn, 1) := by decide +kernel
theorem dX6_cutToSort_46 : decode cX6_cutToSort 46 = .ok (.lload_n 1, 1) := by decide +kernel
theorem dX6_cutToSort_47 : decode cX6_cutToSort 47 = .ok (.lreturn, 1) := by decide +kernel
theorem dX7_init_0 : decode cX7_init 0 = .ok (.aload_n 0, 1) := by decide +kernel
theorem dX7_init_1 : decode cX7_init 1 = .ok (.invokespecial 3, 3) := by decide +kernel
theorem dX7_init_4 : decode cX7_init 4 = .ok (.aload_n 0, 1) := by decide +kernel
theorem dX7_init_5 : decode cX7_init 5 = .ok (.new 9, 3) := by decide +kernel
theorem dX7_init_8 : decode cX7_init 8 = .ok (.dup, 1) := by decide +kernel
theorem dX7_init_9 : decode cX7_init 9 = .ok (.invokespecial 11, 3) := by decide +kernel
theorem dX7_init_12 : decode cX7_init 12 = .ok (.putfield 12, 3) := by decide +kernel
theorem dX7_init_15 : decode cX7_init 15 = .ok (.aload_n 0, 1) := by decide +kernel
theorem dX7_init_16 : decode cX7_init 16 = .ok (.new 9, 3) := by decide +kernel
theorem dX7_init_19 : decode cX7_init 19 = .ok (.dup, 1) := by decide +kernel
theorem dX7_init_20 : decode cX7_init 20 = .ok (.invokespecial 11, 3) := by decide +kernel
theorem dX7_init_23 : decode cX7_init 23 = .ok (.putfield 18, 3) := by decide +kernel
theorem dX7_init_26 : decode cX7_init 26 = .ok (.aload_n 0, 1) := by decide +kernel
theorem dX7_init_27 : decode cX7_init 27 = .ok (.new 21, 3) := by decide +kernel
theorem dX7_init_30 : decode cX7_init 30 = .ok (.dup, 1) := by decide +kernel
theorem dX7_init_31 : decode cX7_init 31 = .ok (.aload_n 0, 1) := by decide +kernel
theorem dX7_init_32 : decode cX7_init 32 = .ok (.getfield 12, 3) := by decide +kernel
theorem dX7_init_35 : decode cX7_init 35 = .ok (.invokespecial 23, 3) := by decide +kernel
theorem dX7_init_38 : decode cX7_init 38 = .ok (.putfield 26, 3) := by decide +kernel
theorem dX7_init_41 : decode cX7_init 41 = .ok (.aload_n 0, 1) := by decide +kernel
theorem dX7_init_42 : decode cX7_init 42 = .ok (.new 21, 3) := by decide +kernel
theorem dX7_init_45 : decode cX7_init 45 = .ok (.dup, 1) := by decide +kernel
theorem dX7_init_46 : decode cX7_init 46 = .ok (.aload_n 0, 1) := by decide +kernel
theorem dX7_init_47 : decode cX7_init 47 = .ok (.getfield 18, 3) := by decide +kernel
theorem dX7_init_50 : decode cX7_init 50 = .ok (.invokespecial 23, 3) := by decide +kernel
theorem dX7_init_53 : decode cX7_init 53 = .ok (.putfield 30, 3) := by decide +kernel
theorem dX7_init_56 : decode cX7_init 56 = .ok (.aload_n 0, 1) := by decide +kernel
theorem dX7_init_57 : decode cX7_init 57 = .ok (.bipush 6, 2) := by decide +kernel
theorem dX7_init_59 : decode cX7_init 59 = .ok (.newarray .int, 2) := by decide +kernel
theorem dX7_init_61 : decode cX7_init 61 = .ok (.putfield 33, 3) := by decide +kernel
theorem dX7_init_64 : decode cX7_init 64 = .ok (.aload_n 0, 1) := by decide +kernel
theorem dX7_init_65 : decode cX7_init 65 = .ok (.aload_n 1, 1) := by decide +kernel
theorem dX7_init_66 : decode cX7_init 66 = .ok (.putfield 37, 3) := by decide +kernel
theorem dX7_init_69 : decode cX7_init 69 = .ok (.return_, 1) := by decide +kernel
theorem dX7_workDone_0 : decode cX7_workDone 0 = .ok (.aload_n 0, 1) := by decide +kernel
theorem dX7_workDone_1 : decode cX7_workDone 1 = .ok (.getfield 40, 3) := by decide +kernel
theorem dX7_workDone_4 : decode cX7_workDone 4 = .ok (.aload_n 0, 1) := by decide +kernel
theorem dX7_workDone_5 : decode cX7_workDone 5 = .ok (.getfield 26, 3) := by decide +kernel
theorem dX7_workDone_8 : decode cX7_workDone 8 = .ok (.getfield 44, 3) := by decide +kernel
theorem dX7_workDone_11 : decode cX7_workDone 11 = .ok (.iadd, 1) := by decide +kernel
theorem dX7_workDone_12 : decode cX7_workDone 12 = .ok (.aload_n 0, 1) := by decide +kernel
theorem dX7_workDone_13 : decode cX7_workDone 13 = .ok (.getfield 30, 3) := by decide +kernel
theorem dX7_workDone_16 : decode cX7_workDone 16 = .ok (.getfield 44, 3) := by decide +kernel
theorem dX7_workDone_19 : decode cX7_workDone 19 = .ok (.iadd, 1) := by decide +kernel
theorem dX7_workDone_20 : decode cX7_workDone 20 = .ok (.ireturn, 1) := by decide +kernel
theorem dX7_isTired_0 : decode cX7_isTired 0 = .ok (.aload_n 0, 1) := by decide +kernel
theorem dX7_isTired_1 : decode cX7_isTired 1 = .ok (.invokevirtual 47, 3) := by decide +kernel
theorem dX7_isTired_4 : decode cX7_isTired 4 = .ok (.ldc 51, 2) := by decide +kernel
theorem dX7_isTired_6 : decode cX7_isTired 6 = .ok (.if_icmp .lt 7, 3) := by decide +kernel
theorem dX7_isTired_9 : decode cX7_isTired 9 = .ok (.iconst 1, 1) := by decide +kernel
theorem dX7_isTired_10 : decode cX7_isTired 10 = .ok (.goto 4, 3) := by decide +kernel
theorem dX7_isTired_13 : decode cX7_isTired 13 = .ok (.iconst 0, 1) := by decide +kernel
theorem dX7_isTired_14 : decode cX7_isTired 14 = .ok (.ireturn, 1) := by decide +kernel
theorem dX7_beginAgain_0 : decode cX7_beginAgain 0 = .ok (.aload_n 1, 1) := by decide +kernel
theorem dX7_beginAgain_1 : decode cX7_beginAgain 1 = .ok (.aload_n 0, 1) := by decide +kernel
theorem dX7_beginAgain_2 : decode cX7_beginAgain 2 = .ok (.getfield 37, 3) := by decide +kernel
theorem dX7_beginAgain_5 : decode cX7_beginAgain 5 = .ok (.invokevirtual 52, 3) := by decide +kernel
theorem dX7_beginAgain_8 : decode cX7_beginAgain 8 = .ok (.aload_n 0, 1) := by decide +kernel
theorem dX7_beginAgain_9 : decode cX7_beginAgain 9 = .ok (.dup, 1) := by decide +kernel
theorem dX7_beginAgain_10 : decode cX7_beginAgain 10 = .ok (.getfield 40, 3) := by decide +kernel
theorem dX7_beginAgain_13 : decode cX7_beginAgain 13 = .ok (.aload_n 0, 1) := by decide +kernel
theorem dX7_beginAgain_14 : decode cX7_beginAgain 14 = .ok (.getfield 37, 3) := by decide +kernel
theorem dX7_beginAgain_17 : decode cX7_beginAgain 17 = .ok (.invokevirtual 55, 3) := by decide +kernel
theorem dX7_beginAgain_20 : decode cX7_beginAgain 20 = .ok (.iadd, 1) := by decide +kernel
theorem dX7_beginAgain_21 : decode cX7_beginAgain 21 = .ok (.putfield 40, 3) := by decide +kernel
theorem dX7_beginAgain_24 : decode cX7_beginAgain 24 = .ok (.return_, 1) := by decide +kernel
theorem dX7_agreesAnew_0 : decode cX7_agreesAnew 0 = .ok (.aload_n 0, 1) := by decide +kernel
theorem dX7_agreesAnew_1 : decode cX7_agreesAnew 1 = .ok (.aload_n 0, 1) := by decide +kernel
theorem dX7_agreesAnew_2 : decode cX7_agreesAnew 2 = .ok (.getfield 12, 3) := by decide +kernel
theorem dX7_agreesAnew_5 : decode cX7_agreesAnew 5 = .ok (.invokevirtual 58, 3) := by decide +kernel
theorem dX7_agreesAnew_8 : decode cX7_agreesAnew 8 = .ok (.aload_n 0, 1) := by decide +kernel
theorem dX7_agreesAnew_9 : decode cX7_agreesAnew 9 = .ok (.getfield 26, 3) := by decide +kernel
theorem dX7_agreesAnew_12 : decode cX7_agreesAnew 12 = .ok (.invokevirtual 61, 3) := by decide +kernel
theorem dX7_agreesAnew_15 : decode cX7_agreesAnew 15 = .ok (.aload_n 0, 1) := by decide +kernel
theorem dX7_agreesAnew_16 : decode cX7_agreesAnew 16 = .ok (.aload_n 0, 1) := by decide +kernel
theorem dX7_agreesAnew_17 : decode cX7_agreesAnew 17 = .ok (.getfield 18, 3) := by decide +kernel
theorem dX7_agreesAnew_20 : decode cX7_agreesAnew 20 = .ok (.invokevirtual 58, 3) := by decide +kernel
theorem dX7_agreesAnew_23 : decode cX7_agreesAnew 23 = .ok (.aload_n 0, 1) := by decide +kernel
theorem dX7_agreesAnew_24 : decode cX7_agreesAnew 24 = .ok (.getfield 18, 3) := by decide +kernel
theorem dX7_agreesAnew_27 : decode cX7_agreesAnew 27 = .ok (.invokevirtual 64, 3) := by decide +kernel
theorem dX7_agreesAnew_30 : decode cX7_agreesAnew 30 = .ok (.aload_n 0, 1) := by decide +kernel
theorem dX7_agreesAnew_31 : decode cX7_agreesAnew 31 = .ok (.getfield 30, 3) := by decide +kernel
theorem dX7_agreesAnew_34 : decode cX7_agreesAnew 34 = .ok (.invokevirtual 61, 3) := by decide +kernel
theorem dX7_agreesAnew_37 : decode cX7_agreesAnew 37 = .ok (.aload_n 0, 1) := by decide +kernel
theorem dX7_agreesAnew_38 : decode cX7_agreesAnew 38 = .ok (.getfield 12, 3) := by decide +kernel
theorem dX7_agreesAnew_41 : decode cX7_agreesAnew 41 = .ok (.aload_n 0, 1) := by decide +kernel
theorem dX7_agreesAnew_42 : decode cX7_agreesAnew 42 = .ok (.getfield 18, 3) := by decide +kernel
theorem dX7_agreesAnew_45 : decode cX7_agreesAnew 45 = .ok (.invokevirtual 67, 3) := by decide +kernel
theorem dX7_agreesAnew_48 : decode cX7_agreesAnew 48 = .ok (.ifCond .eq 7, 3) := by decide +kernel
theorem dX7_agreesAnew_51 : decode cX7_agreesAnew 51 = .ok (.iconst 1, 1) := by decide +kernel
theorem dX7_agreesAnew_52 : decode cX7_agreesAnew 52 = .ok (.goto 4, 3) := by decide +kernel
theorem dX7_agreesAnew_55 : decode cX7_agreesAnew 55 = .ok (.iconst 0, 1) := by decide +kernel
theorem dX7_agreesAnew_56 : decode cX7_agreesAnew 56 = .ok (.ireturn, 1) := by decide +kernel
theorem dX7_tryScreen_0 : decode cX7_tryScreen 0 = .ok (.aload_n 0, 1) := by decide +kernel
theorem dX7_tryScreen_1 : decode cX7_tryScreen 1 = .ok (.aload_n 0, 1) := by decide +kernel
theorem dX7_tryScreen_2 : decode cX7_tryScreen 2 = .ok (.getfield 12, 3) := by decide +kernel
theorem dX7_tryScreen_5 : decode cX7_tryScreen 5 = .ok (.invokevirtual 58, 3) := by decide +kernel
theorem dX7_tryScreen_8 : decode cX7_tryScreen 8 = .ok (.aload_n 0, 1) := by decide +kernel
theorem dX7_tryScreen_9 : decode cX7_tryScreen 9 = .ok (.getfield 12, 3) := by decide +kernel
theorem dX7_tryScreen_12 : decode cX7_tryScreen 12 = .ok (.iload_n 1, 1) := by decide +kernel
theorem dX7_tryScreen_13 : decode cX7_tryScreen 13 = .ok (.iload_n 2, 1) := by decide +kernel
theorem dX7_tryScreen_14 : decode cX7_tryScreen 14 = .ok (.invokevirtual 71, 3) := by decide +kernel
theorem dX7_tryScreen_17 : decode cX7_tryScreen 17 = .ok (.aload_n 0, 1) := by decide +kernel
theorem dX7_tryScreen_18 : decode cX7_tryScreen 18 = .ok (.getfield 26, 3) := by decide +kernel
theorem dX7_tryScreen_21 : decode cX7_tryScreen 21 = .ok (.invokevirtual 61, 3) := by decide +kernel
theorem dX7_tryScreen_24 : decode cX7_tryScreen 24 = .ok (.return_, 1) := by decide +kernel
theorem dX7_narrowestScreen_0 : decode cX7_narrowestScreen 0 = .ok (.aload_n 0, 1) := by decide +kernel
theorem dX7_narrowestScreen_1 : decode cX7_narrowestScreen 1 = .ok (.getfield 37, 3) := by decide +kernel
theorem dX7_narrowestScreen_4 : decode cX7_narrowestScreen 4 = .ok (.aload_n 0, 1) := by decide +kernel
theorem dX7_narrowestScreen_5 : decode cX7_narrowestScreen 5 = .ok (.getfield 37, 3) := by decide +kernel
theorem dX7_narrowestScreen_8 : decode cX7_narrowestScreen 8 = .ok (.getfield 75, 3) := by decide +kernel
theorem dX7_narrowestScreen_11 : decode cX7_narrowestScreen 11 = .ok (.invokevirtual 78, 3) := by decide +kernel
theorem dX7_narrowestScreen_14 : decode cX7_narrowestScreen 14 = .ok (.ifCond .ne 6, 3) := by decide +kernel
theorem dX7_narrowestScreen_17 : decode cX7_narrowestScreen 17 = .ok (.bipush (-5), 2) := by decide +kernel
theorem dX7_narrowestScreen_19 : decode cX7_narrowestScreen 19 = .ok (.ireturn, 1) := by decide +kernel
theorem dX7_narrowestScreen_20 : decode cX7_narrowestScreen 20 = .ok (.iconst 0, 1) := by decide +kernel
theorem dX7_narrowestScreen_21 : decode cX7_narrowestScreen 21 = .ok (.istore_n 1, 1) := by decide +kernel
theorem dX7_narrowestScreen_22 : decode cX7_narrowestScreen 22 = .ok (.iload_n 1, 1) := by decide +kernel
theorem dX7_narrowestScreen_23 : decode cX7_narrowestScreen 23 = .ok (.sipush 200, 3) := by decide +kernel
theorem dX7_narrowestScreen_26 : decode cX7_narrowestScreen 26 = .ok (.if_icmp .gt 33, 3) := by decide +kernel
theorem dX7_narrowestScreen_29 : decode cX7_narrowestScreen 29 = .ok (.aload_n 0, 1) := by decide +kernel
theorem dX7_narrowestScreen_30 : decode cX7_narrowestScreen 30 = .ok (.iload_n 1, 1) := by decide +kernel
theorem dX7_narrowestScreen_31 : decode cX7_narrowestScreen 31 = .ok (.aload_n 0, 1) := by decide +kernel
theorem dX7_narrowestScreen_32 : decode cX7_narrowestScreen 32 = .ok (.getfield 37, 3) := by decide +kernel
theorem dX7_narrowestScreen_35 : decode cX7_narrowestScreen 35 = .ok (.getfield 82, 3) := by decide +kernel
theorem dX7_narrowestScreen_38 : decode cX7_narrowestScreen 38 = .ok (.invokevirtual 85, 3) := by decide +kernel
theorem dX7_narrowestScreen_41 : decode cX7_narrowestScreen 41 = .ok (.aload_n 0, 1) := by decide +kernel
theorem dX7_narrowestScreen_42 : decode cX7_narrowestScreen 42 = .ok (.getfield 12, 3) := by decide +kernel
theorem dX7_narrowestScreen_45 : decode cX7_narrowestScreen 45 = .ok (.invokevirtual 88, 3) := by decide +kernel
theorem dX7_narrowestScreen_48 : decode cX7_narrowestScreen 48 = .ok (.ifCond .ne 5, 3) := by decide +kernel
theorem dX7_narrowestScreen_51 : decode cX7_narrowestScreen 51 = .ok (.iload_n 1, 1) := by decide +kernel
theorem dX7_narrowestScreen_52 : decode cX7_narrowestScreen 52 = .ok (.ireturn, 1) := by decide +kernel
theorem dX7_narrowestScreen_53 : decode cX7_narrowestScreen 53 = .ok (.iinc 1 1, 3) := by decide +kernel
theorem dX7_narrowestScreen_56 : decode cX7_narrowestScreen 56 = .ok (.goto (-34), 3) := by decide +kernel
theorem dX7_narrowestScreen_59 : decode cX7_narrowestScreen 59 = .ok (.bipush (-5), 2) := by decide +kernel
theorem dX7_narrowestScreen_61 : decode cX7_narrowestScreen 61 = .ok (.ireturn, 1) := by decide +kernel
theorem dX7_highOfTop_0 : decode cX7_highOfTop 0 = .ok (.aload_n 0, 1) := by decide +kernel
theorem dX7_highOfTop_1 : decode cX7_highOfTop 1 = .ok (.getfield 37, 3) := by decide +kernel
theorem dX7_highOfTop_4 : decode cX7_highOfTop 4 = .ok (.aload_n 0, 1) := by decide +kernel
theorem dX7_highOfTop_5 : decode cX7_highOfTop 5 = .ok (.getfield 37, 3) := by decide +kernel
theorem dX7_highOfTop_8 : decode cX7_highOfTop 8 = .ok (.getfield 75, 3) := by decide +kernel
theorem dX7_highOfTop_11 : decode cX7_highOfTop 11 = .ok (.invokevirtual 78, 3) := by decide +kernel
theorem dX7_highOfTop_14 : decode cX7_highOfTop 14 = .ok (.ifCond .ne 6, 3) := by decide +kernel
theorem dX7_highOfTop_17 : decode cX7_highOfTop 17 = .ok (.bipush (-5), 2) := by decide +kernel
theorem dX7_highOfTop_19 : decode cX7_highOfTop 19 = .ok (.ireturn, 1) := by decide +kernel
theorem dX7_highOfTop_20 : decode cX7_highOfTop 20 = .ok (.aload_n 0, 1) := by decide +kernel
theorem dX7_highOfTop_21 : decode cX7_highOfTop 21 = .ok (.iload_n 1, 1) := by decide +kernel
theorem dX7_highOfTop_22 : decode cX7_highOfTop 22 = .ok (.sipush 1000, 3) := by decide +kernel
theorem dX7_highOfTop_25 : decode cX7_highOfTop 25 = .ok (.invokevirtual 85, 3) := by decide +kernel
theorem dX7_highOfTop_28 : decode cX7_highOfTop 28 = .ok (.aload_n 0, 1) := by decide +kernel
theorem dX7_highOfTop_29 : decode cX7_highOfTop 29 = .ok (.getfield 12, 3) := by decide +kernel
theorem dX7_highOfTop_32 : decode cX7_highOfTop 32 = .ok (.getfield 91, 3) := by decide +kernel
theorem dX7_highOfTop_35 : decode cX7_highOfTop 35 = .ok (.aload_n 0, 1) := by decide +kernel
theorem dX7_highOfTop_36 : decode cX7_highOfTop 36 = .ok (.getfield 37, 3) := by decide +kernel
theorem dX7_highOfTop_39 : decode cX7_highOfTop 39 = .ok (.getfield 75, 3) := by decide +kernel
theorem dX7_highOfTop_42 : decode cX7_highOfTop 42 = .ok (.aaload, 1) := by decide +kernel
theorem dX7_highOfTop_43 : decode cX7_highOfTop 43 = .ok (.getfield 95, 3) := by decide +kernel
theorem dX7_highOfTop_46 : decode cX7_highOfTop 46 = .ok (.getfield 101, 3) := by decide +kernel
theorem dX7_highOfTop_49 : decode cX7_highOfTop 49 = .ok (.ireturn, 1) := by decide +kernel
theorem dX7_reachedFrom_0 : decode cX7_reachedFrom 0 = .ok (.aload_n 0, 1) := by decide +kernel
theorem dX7_reachedFrom_1 : decode cX7_reachedFrom 1 = .ok (.aload_n 0, 1) := by decide +kernel
theorem dX7_reachedFrom_2 : decode cX7_reachedFrom 2 = .ok (.getfield 12, 3) := by decide +kernel
theorem dX7_reachedFrom_5 : decode cX7_reachedFrom 5 = .ok (.invokevirtual 58, 3) := by decide +kernel
theorem dX7_reachedFrom_8 : decode cX7_reachedFrom 8 = .ok (.aload_n 0, 1) := by decide +kernel
theorem dX7_reachedFrom_9 : decode cX7_reachedFrom 9 = .ok (.getfield 26, 3) := by decide +kernel
theorem dX7_reachedFrom_12 : decode cX7_reachedFrom 12 = .ok (.invokevirtual 61, 3) := by decide +kernel
theorem dX7_reachedFrom_15 : decode cX7_reachedFrom 15 = .ok (.aload_n 0, 1) := by decide +kernel
theorem dX7_reachedFrom_16 : decode cX7_reachedFrom 16 = .ok (.getfield 12, 3) := by decide +kernel
theorem dX7_reachedFrom_19 : decode cX7_reachedFrom 19 = .ok (.iload_n 1, 1) := by decide +kernel
theorem dX7_reachedFrom_20 : decode cX7_reachedFrom 20 = .ok (.invokevirtual 106, 3) := by decide +kernel
theorem dX7_reachedFrom_23 : decode cX7_reachedFrom 23 = .ok (.aload_n 0, 1) := by decide +kernel
theorem dX7_reachedFrom_24 : decode cX7_reachedFrom 24 = .ok (.getfield 26, 3) := by decide +kernel
theorem dX7_reachedFrom_27 : decode cX7_reachedFrom 27 = .ok (.invokevirtual 61, 3) := by decide +kernel
theorem dX7_reachedFrom_30 : decode cX7_reachedFrom 30 = .ok (.iload_n 2, 1) := by decide +kernel
theorem dX7_reachedFrom_31 : decode cX7_reachedFrom 31 = .ok (.ifCond .ne 13, 3) := by decide +kernel
theorem dX7_reachedFrom_34 : decode cX7_reachedFrom 34 = .ok (.aload_n 0, 1) := by decide +kernel
theorem dX7_reachedFrom_35 : decode cX7_reachedFrom 35 = .ok (.getfield 26, 3) := by decide +kernel
theorem dX7_reachedFrom_38 : decode cX7_reachedFrom 38 = .ok (.getfield 110, 3) := by decide +kernel
theorem dX7_reachedFrom_41 : decode cX7_reachedFrom 41 = .ok (.goto 10, 3) := by decide +kernel
theorem dX7_reachedFrom_44 : decode cX7_reachedFrom 44 = .ok (.aload_n 0, 1) := by decide +kernel
theorem dX7_reachedFrom_45 : decode cX7_reachedFrom 45 = .ok (.getfield 26, 3) := by decide +kernel
theorem dX7_reachedFrom_48 : decode cX7_reachedFrom 48 = .ok (.getfield 113, 3) := by decide +kernel
theorem dX7_reachedFrom_51 : decode cX7_reachedFrom 51 = .ok (.ireturn, 1) := by decide +kernel
theorem dX7_widestShare_0 : decode cX7_widestShare 0 = .ok (.iconst 0, 1) := by decide +kernel
theorem dX7_widestShare_1 : decode cX7_widestShare 1 = .ok (.istore_n 3, 1) := by decide +kernel
theorem dX7_widestShare_2 : decode cX7_widestShare 2 = .ok (.iconst (-1), 1) := by decide +kernel
theorem dX7_widestShare_3 : decode cX7_widestShare 3 = .ok (.istore 4, 2) := by decide +kernel
theorem dX7_widestShare_5 : decode cX7_widestShare 5 = .ok (.iconst 0, 1) := by decide +kernel
theorem dX7_widestShare_6 : decode cX7_widestShare 6 = .ok (.istore 5, 2) := by decide +kernel
theorem dX7_widestShare_8 : decode cX7_widestShare 8 = .ok (.iload 5, 2) := by decide +kernel
theorem dX7_widestShare_10 : decode cX7_widestShare 10 = .ok (.bipush 9, 2) := by decide +kernel
theorem dX7_widestShare_12 : decode cX7_widestShare 12 = .ok (.if_icmp .gt 57, 3) := by decide +kernel
theorem dX7_widestShare_15 : decode cX7_widestShare 15 = .ok (.aload_n 0, 1) := by decide +kernel
theorem dX7_widestShare_16 : decode cX7_widestShare 16 = .ok (.iload_n 1, 1) := by decide +kernel
theorem dX7_widestShare_17 : decode cX7_widestShare 17 = .ok (.iconst 4, 1) := by decide +kernel
theorem dX7_widestShare_18 : decode cX7_widestShare 18 = .ok (.iload 5, 2) := by decide +kernel
theorem dX7_widestShare_20 : decode cX7_widestShare 20 = .ok (.invokevirtual 116, 3) := by decide +kernel
theorem dX7_widestShare_23 : decode cX7_widestShare 23 = .ok (.aload_n 0, 1) := by decide +kernel
theorem dX7_widestShare_24 : decode cX7_widestShare 24 = .ok (.getfield 12, 3) := by decide +kernel
theorem dX7_widestShare_27 : decode cX7_widestShare 27 = .ok (.getfield 91, 3) := by decide +kernel
theorem dX7_widestShare_30 : decode cX7_widestShare 30 = .ok (.iload_n 1, 1) := by decide +kernel
theorem dX7_widestShare_31 : decode cX7_widestShare 31 = .ok (.aaload, 1) := by decide +kernel
theorem dX7_widestShare_32 : decode cX7_widestShare 32 = .ok (.getfield 95, 3) := by decide +kernel
theorem dX7_widestShare_35 : decode cX7_widestShare 35 = .ok (.getfield 120, 3) := by decide +kernel
theorem dX7_widestShare_38 : decode cX7_widestShare 38 = .ok (.iload 4, 2) := by decide +kernel
theorem dX7_widestShare_40 : decode cX7_widestShare 40 = .ok (.if_icmp .le 23, 3) := by decide +kernel
theorem dX7_widestShare_43 : decode cX7_widestShare 43 = .ok (.aload_n 0, 1) := by decide +kernel
theorem dX7_widestShare_44 : decode cX7_widestShare 44 = .ok (.getfield 12, 3) := by decide +kernel
theorem dX7_widestShare_47 : decode cX7_widestShare 47 = .ok (.getfield 91, 3) := by decide +kernel
theorem dX7_widestShare_50 : decode cX7_widestShare 50 = .ok (.iload_n 1, 1) := by decide +kernel
theorem dX7_widestShare_51 : decode cX7_widestShare 51 = .ok (.aaload, 1) := by decide +kernel
theorem dX7_widestShare_52 : decode cX7_widestShare 52 = .ok (.getfield 95, 3) := by decide +kernel
theorem dX7_widestShare_55 : decode cX7_widestShare 55 = .ok (.getfield 120, 3) := by decide +kernel
theorem dX7_widestShare_58 : decode cX7_widestShare 58 = .ok (.istore 4, 2) := by decide +kernel
theorem dX7_widestShare_60 : decode cX7_widestShare 60 = .ok (.iload 5, 2) := by decide +kernel
theorem dX7_widestShare_62 : decode cX7_widestShare 62 = .ok (.istore_n 3, 1) := by decide +kernel
theorem dX7_widestShare_63 : decode cX7_widestShare 63 = .ok (.iinc 5 1, 3) := by decide +kernel
theorem dX7_widestShare_66 : decode cX7_widestShare 66 = .ok (.goto (-58), 3) := by decide +kernel
theorem dX7_widestShare_69 : decode cX7_widestShare 69 = .ok (.iload_n 2, 1) := by decide +kernel
theorem dX7_widestShare_70 : decode cX7_widestShare 70 = .ok (.ifCond .ne 7, 3) := by decide +kernel
theorem dX7_widestShare_73 : decode cX7_widestShare 73 = .ok (.iload_n 3, 1) := by decide +kernel
theorem dX7_widestShare_74 : decode cX7_widestShare 74 = .ok (.goto 5, 3) := by decide +kernel
theorem dX7_widestShare_77 : decode cX7_widestShare 77 = .ok (.iload 4, 2) := by decide +kernel
theorem dX7_widestShare_79 : decode cX7_widestShare 79 = .ok (.ireturn, 1) := by decide +kernel
theorem dX7_tryTold_0 : decode cX7_tryTold 0 = .ok (.aload_n 0, 1) := by decide +kernel
theorem dX7_tryTold_1 : decode cX7_tryTold 1 = .ok (.aload_n 0, 1) := by decide +kernel
theorem dX7_tryTold_2 : decode cX7_tryTold 2 = .ok (.getfield 12, 3) := by decide +kernel
theorem dX7_tryTold_5 : decode cX7_tryTold 5 = .ok (.invokevirtual 58, 3) := by decide +kernel
theorem dX7_tryTold_8 : decode cX7_tryTold 8 = .ok (.aload_n 0, 1) := by decide +kernel
theorem dX7_tryTold_9 : decode cX7_tryTold 9 = .ok (.getfield 12, 3) := by decide +kernel
theorem dX7_tryTold_12 : decode cX7_tryTold 12 = .ok (.iload_n 1, 1) := by decide +kernel
theorem dX7_tryTold_13 : decode cX7_tryTold 13 = .ok (.iload_n 2, 1) := by decide +kernel
theorem dX7_tryTold_14 : decode cX7_tryTold 14 = .ok (.iload_n 3, 1) := by decide +kernel
theorem dX7_tryTold_15 : decode cX7_tryTold 15 = .ok (.invokevirtual 123, 3) := by decide +kernel
theorem dX7_tryTold_18 : decode cX7_tryTold 18 = .ok (.pop, 1) := by decide +kernel
theorem dX7_tryTold_19 : decode cX7_tryTold 19 = .ok (.aload_n 0, 1) := by decide +kernel
theorem dX7_tryTold_20 : decode cX7_tryTold 20 = .ok (.getfield 26, 3) := by decide +kernel
theorem dX7_tryTold_23 : decode cX7_tryTold 23 = .ok (.invokevirtual 61, 3) := by decide +kernel
theorem dX7_tryTold_26 : decode cX7_tryTold 26 = .ok (.return_, 1) := by decide +kernel
theorem dX7_fittingNumbers_0 : decode cX7_fittingNumbers 0 = .ok (.iconst 0, 1) := by decide +kernel
theorem dX7_fittingNumbers_1 : decode cX7_fittingNumbers 1 = .ok (.istore_n 3, 1) := by decide +kernel
theorem dX7_fittingNumbers_2 : decode cX7_fittingNumbers 2 = .ok (.iconst 0, 1) := by decide +kernel
theorem dX7_fittingNumbers_3 : decode cX7_fittingNumbers 3 = .ok (.istore 4, 2) := by decide +kernel
theorem dX7_fittingNumbers_5 : decode cX7_fittingNumbers 5 = .ok (.iload 4, 2) := by decide +kernel
theorem dX7_fittingNumbers_7 : decode cX7_fittingNumbers 7 = .ok (.bipush 20, 2) := by decide +kernel
theorem dX7_fittingNumbers_9 : decode cX7_fittingNumbers 9 = .ok (.if_icmp .gt 56, 3) := by decide +kernel
theorem dX7_fittingNumbers_12 : decode cX7_fittingNumbers 12 = .ok (.aload_n 0, 1) := by decide +kernel
theorem dX7_fittingNumbers_13 : decode cX7_fittingNumbers 13 = .ok (.getfield 37, 3) := by decide +kernel
theorem dX7_fittingNumbers_16 : decode cX7_fittingNumbers 16 = .ok (.getfield 91, 3) := by decide +kernel
theorem dX7_fittingNumbers_19 : decode cX7_fittingNumbers 19 = .ok (.iload_n 1, 1) := by decide +kernel
theorem dX7_fittingNumbers_20 : decode cX7_fittingNumbers 20 = .ok (.aaload, 1) := by decide +kernel
theorem dX7_fittingNumbers_21 : decode cX7_fittingNumbers 21 = .ok (.iload_n 2, 1) := by decide +kernel
theorem dX7_fittingNumbers_22 : decode cX7_fittingNumbers 22 = .ok (.iload 4, 2) := by decide +kernel
theorem dX7_fittingNumbers_24 : decode cX7_fittingNumbers 24 = .ok (.invokevirtual 127, 3) := by decide +kernel
theorem dX7_fittingNumbers_27 : decode cX7_fittingNumbers 27 = .ok (.ifCond .eq 32, 3) := by decide +kernel
theorem dX7_fittingNumbers_30 : decode cX7_fittingNumbers 30 = .ok (.aload_n 0, 1) := by decide +kernel
theorem dX7_fittingNumbers_31 : decode cX7_fittingNumbers 31 = .ok (.iload_n 1, 1) := by decide +kernel
theorem dX7_fittingNumbers_32 : decode cX7_fittingNumbers 32 = .ok (.iload_n 2, 1) := by decide +kernel
theorem dX7_fittingNumbers_33 : decode cX7_fittingNumbers 33 = .ok (.iload 4, 2) := by decide +kernel
theorem dX7_fittingNumbers_35 : decode cX7_fittingNumbers 35 = .ok (.invokevirtual 116, 3) := by decide +kernel
theorem dX7_fittingNumbers_38 : decode cX7_fittingNumbers 38 = .ok (.iload_n 3, 1) := by decide +kernel
theorem dX7_fittingNumbers_39 : decode cX7_fittingNumbers 39 = .ok (.aload_n 0, 1) := by decide +kernel
theorem dX7_fittingNumbers_40 : decode cX7_fittingNumbers 40 = .ok (.getfield 12, 3) := by decide +kernel
theorem dX7_fittingNumbers_43 : decode cX7_fittingNumbers 43 = .ok (.invokevirtual 88, 3) := by decide +kernel
theorem dX7_fittingNumbers_46 : decode cX7_fittingNumbers 46 = .ok (.ifCond .ne 10, 3) := by decide +kernel
theorem dX7_fittingNumbers_49 : decode cX7_fittingNumbers 49 = .ok (.iconst 1, 1) := by decide +kernel
theorem dX7_fittingNumbers_50 : decode cX7_fittingNumbers 50 = .ok (.iload 4, 2) := by decide +kernel
theorem dX7_fittingNumbers_52 : decode cX7_fittingNumbers 52 = .ok (.ishl, 1) := by decide +kernel
theorem dX7_fittingNumbers_53 : decode cX7_fittingNumbers 53 = .ok (.goto 4, 3) := by decide +kernel
theorem dX7_fittingNumbers_56 : decode cX7_fittingNumbers 56 = .ok (.iconst 0, 1) := by decide +kernel
theorem dX7_fittingNumbers_57 : decode cX7_fittingNumbers 57 = .ok (.ior, 1) := by decide +kernel
theorem dX7_fittingNumbers_58 : decode cX7_fittingNumbers 58 = .ok (.istore_n 3, 1) := by decide +kernel
theorem dX7_fittingNumbers_59 : decode cX7_fittingNumbers 59 = .ok (.iinc 4 1, 3) := by decide +kernel
theorem dX7_fittingNumbers_62 : decode cX7_fittingNumbers 62 = .ok (.goto (-57), 3) := by decide +kernel
theorem dX7_fittingNumbers_65 : decode cX7_fittingNumbers 65 = .ok (.iload_n 3, 1) := by decide +kernel
theorem dX7_fittingNumbers_66 : decode cX7_fittingNumbers 66 = .ok (.ireturn, 1) := by decide +kernel
theorem dX7_visitsSaved_0 : decode cX7_visitsSaved 0 = .ok (.iconst 0, 1) := by decide +kernel
theorem dX7_visitsSaved_1 : decode cX7_visitsSaved 1 = .ok (.istore_n 1, 1) := by decide +kernel
theorem dX7_visitsSaved_2 : decode cX7_visitsSaved 2 = .ok (.aload_n 0, 1) := by decide +kernel
theorem dX7_visitsSaved_3 : decode cX7_visitsSaved 3 = .ok (.aload_n 0, 1) := by decide +kernel
theorem dX7_visitsSaved_4 : decode cX7_visitsSaved 4 = .ok (.getfield 12, 3) := by decide +kernel
theorem dX7_visitsSaved_7 : decode cX7_visitsSaved 7 = .ok (.invokevirtual 58, 3) := by decide +kernel
theorem dX7_visitsSaved_10 : decode cX7_visitsSaved 10 = .ok (.aload_n 0, 1) := by decide +kernel
theorem dX7_visitsSaved_11 : decode cX7_visitsSaved 11 = .ok (.getfield 26, 3) := by decide +kernel
theorem dX7_visitsSaved_14 : decode cX7_visitsSaved 14 = .ok (.invokevirtual 61, 3) := by decide +kernel
theorem dX7_visitsSaved_17 : decode cX7_visitsSaved 17 = .ok (.aload_n 0, 1) := by decide +kernel
theorem dX7_visitsSaved_18 : decode cX7_visitsSaved 18 = .ok (.aload_n 0, 1) := by decide +kernel
theorem dX7_visitsSaved_19 : decode cX7_visitsSaved 19 = .ok (.getfield 18, 3) := by decide +kernel
theorem dX7_visitsSaved_22 : decode cX7_visitsSaved 22 = .ok (.invokevirtual 58, 3) := by decide +kernel
theorem dX7_visitsSaved_25 : decode cX7_visitsSaved 25 = .ok (.aload_n 0, 1) := by decide +kernel
theorem dX7_visitsSaved_26 : decode cX7_visitsSaved 26 = .ok (.getfield 30, 3) := by decide +kernel
theorem dX7_visitsSaved_29 : decode cX7_visitsSaved 29 = .ok (.invokevirtual 61, 3) := by decide +kernel
theorem dX7_visitsSaved_32 : decode cX7_visitsSaved 32 = .ok (.iconst 0, 1) := by decide +kernel
theorem dX7_visitsSaved_33 : decode cX7_visitsSaved 33 = .ok (.istore_n 2, 1) := by decide +kernel
theorem dX7_visitsSaved_34 : decode cX7_visitsSaved 34 = .ok (.iload_n 2, 1) := by decide +kernel
theorem dX7_visitsSaved_35 : decode cX7_visitsSaved 35 = .ok (.aload_n 0, 1) := by decide +kernel
theorem dX7_visitsSaved_36 : decode cX7_visitsSaved 36 = .ok (.getfield 37, 3) := by decide +kernel
theorem dX7_visitsSaved_39 : decode cX7_visitsSaved 39 = .ok (.getfield 131, 3) := by decide +kernel
theorem dX7_visitsSaved_42 : decode cX7_visitsSaved 42 = .ok (.if_icmp .ge 99, 3) := by decide +kernel
theorem dX7_visitsSaved_45 : decode cX7_visitsSaved 45 = .ok (.aload_n 0, 1) := by decide +kernel
theorem dX7_visitsSaved_46 : decode cX7_visitsSaved 46 = .ok (.getfield 37, 3) := by decide +kernel
theorem dX7_visitsSaved_49 : decode cX7_visitsSaved 49 = .ok (.aload_n 0, 1) := by decide +kernel
theorem dX7_visitsSaved_50 : decode cX7_visitsSaved 50 = .ok (.getfield 37, 3) := by decide +kernel
theorem dX7_visitsSaved_53 : decode cX7_visitsSaved 53 = .ok (.getfield 134, 3) := by decide +kernel
theorem dX7_visitsSaved_56 : decode cX7_visitsSaved 56 = .ok (.iload_n 2, 1) := by decide +kernel
theorem dX7_visitsSaved_57 : decode cX7_visitsSaved 57 = .ok (.iaload, 1) := by decide +kernel
theorem dX7_visitsSaved_58 : decode cX7_visitsSaved 58 = .ok (.invokevirtual 78, 3) := by decide +kernel
theorem dX7_visitsSaved_61 : decode cX7_visitsSaved 61 = .ok (.ifCond .eq 74, 3) := by decide +kernel
theorem dX7_visitsSaved_64 : decode cX7_visitsSaved 64 = .ok (.aload_n 0, 1) := by decide +kernel
theorem dX7_visitsSaved_65 : decode cX7_visitsSaved 65 = .ok (.getfield 12, 3) := by decide +kernel
theorem dX7_visitsSaved_68 : decode cX7_visitsSaved 68 = .ok (.aload_n 0, 1) := by decide +kernel
theorem dX7_visitsSaved_69 : decode cX7_visitsSaved 69 = .ok (.getfield 37, 3) := by decide +kernel
theorem dX7_visitsSaved_72 : decode cX7_visitsSaved 72 = .ok (.getfield 134, 3) := by decide +kernel
theorem dX7_visitsSaved_75 : decode cX7_visitsSaved 75 = .ok (.iload_n 2, 1) := by decide +kernel
theorem dX7_visitsSaved_76 : decode cX7_visitsSaved 76 = .ok (.iaload, 1) := by decide +kernel
theorem dX7_visitsSaved_77 : decode cX7_visitsSaved 77 = .ok (.iconst 4, 1) := by decide +kernel
theorem dX7_visitsSaved_78 : decode cX7_visitsSaved 78 = .ok (.aload_n 0, 1) := by decide +kernel
theorem dX7_visitsSaved_79 : decode cX7_visitsSaved 79 = .ok (.getfield 37, 3) := by decide +kernel
theorem dX7_visitsSaved_82 : decode cX7_visitsSaved 82 = .ok (.getfield 137, 3) := by decide +kernel
theorem dX7_visitsSaved_85 : decode cX7_visitsSaved 85 = .ok (.iload_n 2, 1) := by decide +kernel
theorem dX7_visitsSaved_86 : decode cX7_visitsSaved 86 = .ok (.iaload, 1) := by decide +kernel
theorem dX7_visitsSaved_87 : decode cX7_visitsSaved 87 = .ok (.invokevirtual 123, 3) := by decide +kernel
theorem dX7_visitsSaved_90 : decode cX7_visitsSaved 90 = .ok (.pop, 1) := by decide +kernel
theorem dX7_visitsSaved_91 : decode cX7_visitsSaved 91 = .ok (.aload_n 0, 1) := by decide +kernel
theorem dX7_visitsSaved_92 : decode cX7_visitsSaved 92 = .ok (.getfield 26, 3) := by decide +kernel
theorem dX7_visitsSaved_95 : decode cX7_visitsSaved 95 = .ok (.invokevirtual 61, 3) := by decide +kernel
theorem dX7_visitsSaved_98 : decode cX7_visitsSaved 98 = .ok (.iload_n 1, 1) := by decide +kernel
theorem dX7_visitsSaved_99 : decode cX7_visitsSaved 99 = .ok (.aload_n 0, 1) := by decide +kernel
theorem dX7_visitsSaved_100 : decode cX7_visitsSaved 100 = .ok (.getfield 26, 3) := by decide +kernel
theorem dX7_visitsSaved_103 : decode cX7_visitsSaved 103 = .ok (.getfield 140, 3) := by decide +kernel
theorem dX7_visitsSaved_106 : decode cX7_visitsSaved 106 = .ok (.iadd, 1) := by decide +kernel
theorem dX7_visitsSaved_107 : decode cX7_visitsSaved 107 = .ok (.istore_n 1, 1) := by decide +kernel
theorem dX7_visitsSaved_108 : decode cX7_visitsSaved 108 = .ok (.aload_n 0, 1) := by decide +kernel
theorem dX7_visitsSaved_109 : decode cX7_visitsSaved 109 = .ok (.getfield 18, 3) := by decide +kernel
theorem dX7_visitsSaved_112 : decode cX7_visitsSaved 112 = .ok (.aload_n 0, 1) := by decide +kernel
theorem dX7_visitsSaved_113 : decode cX7_visitsSaved 113 = .ok (.getfield 37, 3) := by decide +kernel
theorem dX7_visitsSaved_116 : decode cX7_visitsSaved 116 = .ok (.getfield 134, 3) := by decide +kernel
theorem dX7_visitsSaved_119 : decode cX7_visitsSaved 119 = .ok (.iload_n 2, 1) := by decide +kernel
theorem dX7_visitsSaved_120 : decode cX7_visitsSaved 120 = .ok (.iaload, 1) := by decide +kernel
theorem dX7_visitsSaved_121 : decode cX7_visitsSaved 121 = .ok (.iconst 4, 1) := by decide +kernel
theorem dX7_visitsSaved_122 : decode cX7_visitsSaved 122 = .ok (.aload_n 0, 1) := by decide +kernel
theorem dX7_visitsSaved_123 : decode cX7_visitsSaved 123 = .ok (.getfield 37, 3) := by decide +kernel
theorem dX7_visitsSaved_126 : decode cX7_visitsSaved 126 = .ok (.getfield 137, 3) := by decide +kernel
theorem dX7_visitsSaved_129 : decode cX7_visitsSaved 129 = .ok (.iload_n 2, 1) := by decide +kernel
theorem dX7_visitsSaved_130 : decode cX7_visitsSaved 130 = .ok (.iaload, 1) := by decide +kernel
theorem dX7_visitsSaved_131 : decode cX7_visitsSaved 131 = .ok (.invokevirtual 123, 3) := by decide +kernel
theorem dX7_visitsSaved_134 : decode cX7_visitsSaved 134 = .ok (.pop, 1) := by decide +kernel
theorem dX7_visitsSaved_135 : decode cX7_visitsSaved 135 = .ok (.iinc 2 1, 3) := by decide +kernel
theorem dX7_visitsSaved_138 : decode cX7_visitsSaved 138 = .ok (.goto (-104), 3) := by decide +kernel
theorem dX7_visitsSaved_141 : decode cX7_visitsSaved 141 = .ok (.aload_n 0, 1) := by decide +kernel
theorem dX7_visitsSaved_142 : decode cX7_visitsSaved 142 = .ok (.getfield 30, 3) := by decide +kernel
theorem dX7_visitsSaved_145 : decode cX7_visitsSaved 145 = .ok (.invokevirtual 61, 3) := by decide +kernel
theorem dX7_visitsSaved_148 : decode cX7_visitsSaved 148 = .ok (.iload_n 1, 1) := by decide +kernel
theorem dX7_visitsSaved_149 : decode cX7_visitsSaved 149 = .ok (.aload_n 0, 1) := by decide +kernel
theorem dX7_visitsSaved_150 : decode cX7_visitsSaved 150 = .ok (.getfield 30, 3) := by decide +kernel
theorem dX7_visitsSaved_153 : decode cX7_visitsSaved 153 = .ok (.getfield 140, 3) := by decide +kernel
theorem dX7_visitsSaved_156 : decode cX7_visitsSaved 156 = .ok (.isub, 1) := by decide +kernel
theorem dX7_visitsSaved_157 : decode cX7_visitsSaved 157 = .ok (.ireturn, 1) := by decide +kernel
theorem dX7_gatherBlocks_0 : decode cX7_gatherBlocks 0 = .ok (.iconst 0, 1) := by decide +kernel
theorem dX7_gatherBlocks_1 : decode cX7_gatherBlocks 1 = .ok (.istore_n 1, 1) := by decide +kernel
theorem dX7_gatherBlocks_2 : decode cX7_gatherBlocks 2 = .ok (.iconst 0, 1) := by decide +kernel
theorem dX7_gatherBlocks_3 : decode cX7_gatherBlocks 3 = .ok (.istore_n 2, 1) := by decide +kernel
theorem dX7_gatherBlocks_4 : decode cX7_gatherBlocks 4 = .ok (.iload_n 2, 1) := by decide +kernel
theorem dX7_gatherBlocks_5 : decode cX7_gatherBlocks 5 = .ok (.aload_n 0, 1) := by decide +kernel
theorem dX7_gatherBlocks_6 : decode cX7_gatherBlocks 6 = .ok (.getfield 37, 3) := by decide +kernel
theorem dX7_gatherBlocks_9 : decode cX7_gatherBlocks 9 = .ok (.getfield 143, 3) := by decide +kernel
theorem dX7_gatherBlocks_12 : decode cX7_gatherBlocks 12 = .ok (.if_icmp .ge 51, 3) := by decide +kernel
theorem dX7_gatherBlocks_15 : decode cX7_gatherBlocks 15 = .ok (.iload_n 1, 1) := by decide +kernel
theorem dX7_gatherBlocks_16 : decode cX7_gatherBlocks 16 = .ok (.bipush 6, 2) := by decide +kernel
theorem dX7_gatherBlocks_18 : decode cX7_gatherBlocks 18 = .ok (.if_icmp .ge 45, 3) := by decide +kernel
theorem dX7_gatherBlocks_21 : decode cX7_gatherBlocks 21 = .ok (.aload_n 0, 1) := by decide +kernel
theorem dX7_gatherBlocks_22 : decode cX7_gatherBlocks 22 = .ok (.getfield 37, 3) := by decide +kernel
theorem dX7_gatherBlocks_25 : decode cX7_gatherBlocks 25 = .ok (.iload_n 2, 1) := by decide +kernel
theorem dX7_gatherBlocks_26 : decode cX7_gatherBlocks 26 = .ok (.invokevirtual 78, 3) := by decide +kernel
theorem dX7_gatherBlocks_29 : decode cX7_gatherBlocks 29 = .ok (.ifCond .eq 28, 3) := by decide +kernel
theorem dX7_gatherBlocks_32 : decode cX7_gatherBlocks 32 = .ok (.aload_n 0, 1) := by decide +kernel
theorem dX7_gatherBlocks_33 : decode cX7_gatherBlocks 33 = .ok (.getfield 37, 3) := by decide +kernel
theorem dX7_gatherBlocks_36 : decode cX7_gatherBlocks 36 = .ok (.getfield 91, 3) := by decide +kernel
theorem dX7_gatherBlocks_39 : decode cX7_gatherBlocks 39 = .ok (.iload_n 2, 1) := by decide +kernel
theorem dX7_gatherBlocks_40 : decode cX7_gatherBlocks 40 = .ok (.aaload, 1) := by decide +kernel
theorem dX7_gatherBlocks_41 : decode cX7_gatherBlocks 41 = .ok (.getfield 146, 3) := by decide +kernel
theorem dX7_gatherBlocks_44 : decode cX7_gatherBlocks 44 = .ok (.ifCond .ne 13, 3) := by decide +kernel
theorem dX7_gatherBlocks_47 : decode cX7_gatherBlocks 47 = .ok (.aload_n 0, 1) := by decide +kernel
theorem dX7_gatherBlocks_48 : decode cX7_gatherBlocks 48 = .ok (.getfield 33, 3) := by decide +kernel
theorem dX7_gatherBlocks_51 : decode cX7_gatherBlocks 51 = .ok (.iload_n 1, 1) := by decide +kernel
theorem dX7_gatherBlocks_52 : decode cX7_gatherBlocks 52 = .ok (.iload_n 2, 1) := by decide +kernel
theorem dX7_gatherBlocks_53 : decode cX7_gatherBlocks 53 = .ok (.iastore, 1) := by decide +kernel
theorem dX7_gatherBlocks_54 : decode cX7_gatherBlocks 54 = .ok (.iinc 1 1, 3) := by decide +kernel
theorem dX7_gatherBlocks_57 : decode cX7_gatherBlocks 57 = .ok (.iinc 2 1, 3) := by decide +kernel
theorem dX7_gatherBlocks_60 : decode cX7_gatherBlocks 60 = .ok (.goto (-56), 3) := by decide +kernel
theorem dX7_gatherBlocks_63 : decode cX7_gatherBlocks 63 = .ok (.iload_n 1, 1) := by decide +kernel
theorem dX7_gatherBlocks_64 : decode cX7_gatherBlocks 64 = .ok (.ireturn, 1) := by decide +kernel
theorem dX7_waysWithoutOver_0 : decode cX7_waysWithoutOver 0 = .ok (.lconst 0, 1) := by decide +kernel
theorem dX7_waysWithoutOver_1 : decode cX7_waysWithoutOver 1 = .ok (.lstore_n 3, 1) := by decide +kernel
theorem dX7_waysWithoutOver_2 : decode cX7_waysWithoutOver 2 = .ok (.iconst 0, 1) := by decide +kernel
theorem dX7_waysWithoutOver_3 : decode cX7_waysWithoutOver 3 = .ok (.istore 5, 2) := by decide +kernel
theorem dX7_waysWithoutOver_5 : decode cX7_waysWithoutOver 5 = .ok (.iload 5, 2) := by decide +kernel
theorem dX7_waysWithoutOver_7 : decode cX7_waysWithoutOver 7 = .ok (.iconst 1, 1) := by decide +kernel
theorem dX7_waysWithoutOver_8 : decode cX7_waysWithoutOver 8 = .ok (.iload_n 1, 1) := by decide +kernel
theorem dX7_waysWithoutOver_9 : decode cX7_waysWithoutOver 9 = .ok (.ishl, 1) := by decide +kernel
theorem dX7_waysWithoutOver_10 : decode cX7_waysWithoutOver 10 = .ok (.if_icmp .ge 111, 3) := by decide +kernel
theorem dX7_waysWithoutOver_13 : decode cX7_waysWithoutOver 13 = .ok (.aload_n 0, 1) := by decide +kernel
theorem dX7_waysWithoutOver_14 : decode cX7_waysWithoutOver 14 = .ok (.aload_n 0, 1) := by decide +kernel
theorem dX7_waysWithoutOver_15 : decode cX7_waysWithoutOver 15 = .ok (.getfield 12, 3) := by decide +kernel
theorem dX7_waysWithoutOver_18 : decode cX7_waysWithoutOver 18 = .ok (.invokevirtual 58, 3) := by decide +kernel
theorem dX7_waysWithoutOver_21 : decode cX7_waysWithoutOver 21 = .ok (.iconst 0, 1) := by decide +kernel
theorem dX7_waysWithoutOver_22 : decode cX7_waysWithoutOver 22 = .ok (.istore 6, 2) := by decide +kernel
theorem dX7_waysWithoutOver_24 : decode cX7_waysWithoutOver 24 = .ok (.iload 6, 2) := by decide +kernel
theorem dX7_waysWithoutOver_26 : decode cX7_waysWithoutOver 26 = .ok (.iload_n 1, 1) := by decide +kernel
theorem dX7_waysWithoutOver_27 : decode cX7_waysWithoutOver 27 = .ok (.if_icmp .ge 54, 3) := by decide +kernel
theorem dX7_waysWithoutOver_30 : decode cX7_waysWithoutOver 30 = .ok (.iload 5, 2) := by decide +kernel
theorem dX7_waysWithoutOver_32 : decode cX7_waysWithoutOver 32 = .ok (.iload 6, 2) := by decide +kernel
theorem dX7_waysWithoutOver_34 : decode cX7_waysWithoutOver 34 = .ok (.iushr, 1) := by decide +kernel
theorem dX7_waysWithoutOver_35 : decode cX7_waysWithoutOver 35 = .ok (.iconst 1, 1) := by decide +kernel
theorem dX7_waysWithoutOver_36 : decode cX7_waysWithoutOver 36 = .ok (.iand, 1) := by decide +kernel
theorem dX7_waysWithoutOver_37 : decode cX7_waysWithoutOver 37 = .ok (.iconst 1, 1) := by decide +kernel
theorem dX7_waysWithoutOver_38 : decode cX7_waysWithoutOver 38 = .ok (.if_icmp .ne 37, 3) := by decide +kernel
theorem dX7_waysWithoutOver_41 : decode cX7_waysWithoutOver 41 = .ok (.aload_n 0, 1) := by decide +kernel
theorem dX7_waysWithoutOver_42 : decode cX7_waysWithoutOver 42 = .ok (.getfield 12, 3) := by decide +kernel
theorem dX7_waysWithoutOver_45 : decode cX7_waysWithoutOver 45 = .ok (.aload_n 0, 1) := by decide +kernel
theorem dX7_waysWithoutOver_46 : decode cX7_waysWithoutOver 46 = .ok (.getfield 33, 3) := by decide +kernel
theorem dX7_waysWithoutOver_49 : decode cX7_waysWithoutOver 49 = .ok (.iload 6, 2) := by decide +kernel
theorem dX7_waysWithoutOver_51 : decode cX7_waysWithoutOver 51 = .ok (.iaload, 1) := by decide +kernel
theorem dX7_waysWithoutOver_52 : decode cX7_waysWithoutOver 52 = .ok (.iconst 0, 1) := by decide +kernel
theorem dX7_waysWithoutOver_53 : decode cX7_waysWithoutOver 53 = .ok (.iconst 0, 1) := by decide +kernel
theorem dX7_waysWithoutOver_54 : decode cX7_waysWithoutOver 54 = .ok (.invokevirtual 123, 3) := by decide +kernel
theorem dX7_waysWithoutOver_57 : decode cX7_waysWithoutOver 57 = .ok (.pop, 1) := by decide +kernel
theorem dX7_waysWithoutOver_58 : decode cX7_waysWithoutOver 58 = .ok (.aload_n 0, 1) := by decide +kernel
theorem dX7_waysWithoutOver_59 : decode cX7_waysWithoutOver 59 = .ok (.getfield 12, 3) := by decide +kernel
theorem dX7_waysWithoutOver_62 : decode cX7_waysWithoutOver 62 = .ok (.aload_n 0, 1) := by decide +kernel
theorem dX7_waysWithoutOver_63 : decode cX7_waysWithoutOver 63 = .ok (.getfield 33, 3) := by decide +kernel
theorem dX7_waysWithoutOver_66 : decode cX7_waysWithoutOver 66 = .ok (.iload 6, 2) := by decide +kernel
theorem dX7_waysWithoutOver_68 : decode cX7_waysWithoutOver 68 = .ok (.iaload, 1) := by decide +kernel
theorem dX7_waysWithoutOver_69 : decode cX7_waysWithoutOver 69 = .ok (.iconst 1, 1) := by decide +kernel
theorem dX7_waysWithoutOver_70 : decode cX7_waysWithoutOver 70 = .ok (.iconst 0, 1) := by decide +kernel
theorem dX7_waysWithoutOver_71 : decode cX7_waysWithoutOver 71 = .ok (.invokevirtual 123, 3) := by decide +kernel
theorem dX7_waysWithoutOver_74 : decode cX7_waysWithoutOver 74 = .ok (.pop, 1) := by decide +kernel
theorem dX7_waysWithoutOver_75 : decode cX7_waysWithoutOver 75 = .ok (.iinc 6 1, 3) := by decide +kernel
theorem dX7_waysWithoutOver_78 : decode cX7_waysWithoutOver 78 = .ok (.goto (-54), 3) := by decide +kernel
theorem dX7_waysWithoutOver_81 : decode cX7_waysWithoutOver 81 = .ok (.aload_n 0, 1) := by decide +kernel
theorem dX7_waysWithoutOver_82 : decode cX7_waysWithoutOver 82 = .ok (.getfield 26, 3) := by decide +kernel
theorem dX7_waysWithoutOver_85 : decode cX7_waysWithoutOver 85 = .ok (.invokevirtual 61, 3) := by decide +kernel
theorem dX7_waysWithoutOver_88 : decode cX7_waysWithoutOver 88 = .ok (.aload_n 0, 1) := by decide +kernel
theorem dX7_waysWithoutOver_89 : decode cX7_waysWithoutOver 89 = .ok (.getfield 12, 3) := by decide +kernel
theorem dX7_waysWithoutOver_92 : decode cX7_waysWithoutOver 92 = .ok (.invokevirtual 88, 3) := by decide +kernel
theorem dX7_waysWithoutOver_95 : decode cX7_waysWithoutOver 95 = .ok (.ifCond .ne 20, 3) := by decide +kernel
theorem dX7_waysWithoutOver_98 : decode cX7_waysWithoutOver 98 = .ok (.lload_n 3, 1) := by decide +kernel
theorem dX7_waysWithoutOver_99 : decode cX7_waysWithoutOver 99 = .ok (.iload_n 2, 1) := by decide +kernel
theorem dX7_waysWithoutOver_100 : decode cX7_waysWithoutOver 100 = .ok (.iconst 1, 1) := by decide +kernel
theorem dX7_waysWithoutOver_101 : decode cX7_waysWithoutOver 101 = .ok (.isub, 1) := by decide +kernel
theorem dX7_waysWithoutOver_102 : decode cX7_waysWithoutOver 102 = .ok (.i2l, 1) := by decide +kernel
theorem dX7_waysWithoutOver_103 : decode cX7_waysWithoutOver 103 = .ok (.iload_n 1, 1) := by decide +kernel
theorem dX7_waysWithoutOver_104 : decode cX7_waysWithoutOver 104 = .ok (.iload 5, 2) := by decide +kernel
theorem dX7_waysWithoutOver_106 : decode cX7_waysWithoutOver 106 = .ok (.invokestatic 149, 3) := by decide +kernel
theorem dX7_waysWithoutOver_109 : decode cX7_waysWithoutOver 109 = .ok (.isub, 1) := by decide +kernel
theorem dX7_waysWithoutOver_110 : decode cX7_waysWithoutOver 110 = .ok (.invokestatic 155, 3) := by decide +kernel
theorem dX7_waysWithoutOver_113 : decode cX7_waysWithoutOver 113 = .ok (.ladd, 1) := by decide +kernel
theorem dX7_waysWithoutOver_114 : decode cX7_waysWithoutOver 114 = .ok (.lstore_n 3, 1) := by decide +kernel
theorem dX7_waysWithoutOver_115 : decode cX7_waysWithoutOver 115 = .ok (.iinc 5 1, 3) := by decide +kernel
theorem dX7_waysWithoutOver_118 : decode cX7_waysWithoutOver 118 = .ok (.goto (-113), 3) := by decide +kernel
theorem dX7_waysWithoutOver_121 : decode cX7_waysWithoutOver 121 = .ok (.lload_n 3, 1) := by decide +kernel
theorem dX7_waysWithoutOver_122 : decode cX7_waysWithoutOver 122 = .ok (.lreturn, 1) := by decide +kernel
theorem dX7_overOfDraws_0 : decode cX7_overOfDraws 0 = .ok (.iconst 0, 1) := by decide +kernel
theorem dX7_overOfDraws_1 : decode cX7_overOfDraws 1 = .ok (.istore_n 2, 1) := by decide +kernel
theorem dX7_overOfDraws_2 : decode cX7_overOfDraws 2 = .ok (.iconst 0, 1) := by decide +kernel
theorem dX7_overOfDraws_3 : decode cX7_overOfDraws 3 = .ok (.istore_n 3, 1) := by decide +kernel
theorem dX7_overOfDraws_4 : decode cX7_overOfDraws 4 = .ok (.iload_n 3, 1) := by decide +kernel
theorem dX7_overOfDraws_5 : decode cX7_overOfDraws 5 = .ok (.iload_n 1, 1) := by decide +kernel
theorem dX7_overOfDraws_6 : decode cX7_overOfDraws 6 = .ok (.if_icmp .ge 39, 3) := by decide +kernel
theorem dX7_overOfDraws_9 : decode cX7_overOfDraws 9 = .ok (.aload_n 0, 1) := by decide +kernel
theorem dX7_overOfDraws_10 : decode cX7_overOfDraws 10 = .ok (.aload_n 0, 1) := by decide +kernel
theorem dX7_overOfDraws_11 : decode cX7_overOfDraws 11 = .ok (.getfield 37, 3) := by decide +kernel
theorem dX7_overOfDraws_14 : decode cX7_overOfDraws 14 = .ok (.bipush 101, 2) := by decide +kernel
theorem dX7_overOfDraws_16 : decode cX7_overOfDraws 16 = .ok (.invokevirtual 159, 3) := by decide +kernel
theorem dX7_overOfDraws_19 : decode cX7_overOfDraws 19 = .ok (.aload_n 0, 1) := by decide +kernel
theorem dX7_overOfDraws_20 : decode cX7_overOfDraws 20 = .ok (.getfield 37, 3) := by decide +kernel
theorem dX7_overOfDraws_23 : decode cX7_overOfDraws 23 = .ok (.getfield 82, 3) := by decide +kernel
theorem dX7_overOfDraws_26 : decode cX7_overOfDraws 26 = .ok (.invokevirtual 85, 3) := by decide +kernel
theorem dX7_overOfDraws_29 : decode cX7_overOfDraws 29 = .ok (.iload_n 2, 1) := by decide +kernel
theorem dX7_overOfDraws_30 : decode cX7_overOfDraws 30 = .ok (.aload_n 0, 1) := by decide +kernel
theorem dX7_overOfDraws_31 : decode cX7_overOfDraws 31 = .ok (.getfield 12, 3) := by decide +kernel
theorem dX7_overOfDraws_34 : decode cX7_overOfDraws 34 = .ok (.invokevirtual 162, 3) := by decide +kernel
theorem dX7_overOfDraws_37 : decode cX7_overOfDraws 37 = .ok (.iadd, 1) := by decide +kernel
theorem dX7_overOfDraws_38 : decode cX7_overOfDraws 38 = .ok (.istore_n 2, 1) := by decide +kernel
theorem dX7_overOfDraws_39 : decode cX7_overOfDraws 39 = .ok (.iinc 3 1, 3) := by decide +kernel
theorem dX7_overOfDraws_42 : decode cX7_overOfDraws 42 = .ok (.goto (-38), 3) := by decide +kernel
theorem dX7_overOfDraws_45 : decode cX7_overOfDraws 45 = .ok (.iload_n 2, 1) := by decide +kernel
theorem dX7_overOfDraws_46 : decode cX7_overOfDraws 46 = .ok (.ireturn, 1) := by decide +kernel
theorem dX8_init_0 : decode cX8_init 0 = .ok (.aload_n 0, 1) := by decide +kernel
theorem dX8_init_1 : decode cX8_init 1 = .ok (.invokespecial 3, 3) := by decide +kernel
theorem dX8_init_4 : decode cX8_init 4 = .ok (.aload_n 0, 1) := by decide +kernel
theorem dX8_init_5 : decode cX8_init 5 = .ok (.bipush 24, 2) := by decide +kernel
theorem dX8_init_7 : decode cX8_init 7 = .ok (.anewarray 9, 3) := by decide +kernel
theorem dX8_init_10 : decode cX8_init 10 = .ok (.putfield 11, 3) := by decide +kernel
theorem dX8_init_13 : decode cX8_init 13 = .ok (.aload_n 0, 1) := by decide +kernel
theorem dX8_init_14 : decode cX8_init 14 = .ok (.bipush 8, 2) := by decide +kernel
theorem dX8_init_16 : decode cX8_init 16 = .ok (.newarray .int, 2) := by decide +kernel
theorem dX8_init_18 : decode cX8_init 18 = .ok (.putfield 17, 3) := by decide +kernel
theorem dX8_init_21 : decode cX8_init 21 = .ok (.aload_n 0, 1) := by decide +kernel
theorem dX8_init_22 : decode cX8_init 22 = .ok (.bipush 8, 2) := by decide +kernel
theorem dX8_init_24 : decode cX8_init 24 = .ok (.newarray .int, 2) := by decide +kernel
theorem dX8_init_26 : decode cX8_init 26 = .ok (.putfield 21, 3) := by decide +kernel
theorem dX8_init_29 : decode cX8_init 29 = .ok (.aload_n 0, 1) := by decide +kernel
theorem dX8_init_30 : decode cX8_init 30 = .ok (.iconst (-1), 1) := by decide +kernel
theorem dX8_init_31 : decode cX8_init 31 = .ok (.putfield 24, 3) := by decide +kernel
theorem dX8_init_34 : decode cX8_init 34 = .ok (.aload_n 0, 1) := by decide +kernel
theorem dX8_init_35 : decode cX8_init 35 = .ok (.bipush 100, 2) := by decide +kernel
theorem dX8_init_37 : decode cX8_init 37 = .ok (.putfield 28, 3) := by decide +kernel
theorem dX8_init_40 : decode cX8_init 40 = .ok (.aload_n 0, 1) := by decide +kernel
theorem dX8_init_41 : decode cX8_init 41 = .ok (.bipush 100, 2) := by decide +kernel
theorem dX8_init_43 : decode cX8_init 43 = .ok (.putfield 31, 3) := by decide +kernel
theorem dX8_init_46 : decode cX8_init 46 = .ok (.aload_n 0, 1) := by decide +kernel
theorem dX8_init_47 : decode cX8_init 47 = .ok (.iconst 1, 1) := by decide +kernel
theorem dX8_init_48 : decode cX8_init 48 = .ok (.putfield 34, 3) := by decide +kernel
theorem dX8_init_51 : decode cX8_init 51 = .ok (.iconst 0, 1) := by decide +kernel
theorem dX8_init_52 : decode cX8_init 52 = .ok (.istore_n 1, 1) := by decide +kernel
theorem dX8_init_53 : decode cX8_init 53 = .ok (.iload_n 1, 1) := by decide +kernel
theorem dX8_init_54 : decode cX8_init 54 = .ok (.bipush 24, 2) := by decide +kernel
theorem dX8_init_56 : decode cX8_init 56 = .ok (.if_icmp .ge 23, 3) := by decide +kernel
theorem dX8_init_59 : decode cX8_init 59 = .ok (.aload_n 0, 1) := by decide +kernel
theorem dX8_init_60 : decode cX8_init 60 = .ok (.getfield 11, 3) := by decide +kernel
theorem dX8_init_63 : decode cX8_init 63 = .ok (.iload_n 1, 1) := by decide +kernel
theorem dX8_init_64 : decode cX8_init 64 = .ok (.new 9, 3) := by decide +kernel
theorem dX8_init_67 : decode cX8_init 67 = .ok (.dup, 1) := by decide +kernel
theorem dX8_init_68 : decode cX8_init 68 = .ok (.iload_n 1, 1) := by decide +kernel
theorem dX8_init_69 : decode cX8_init 69 = .ok (.invokespecial 37, 3) := by decide +kernel
theorem dX8_init_72 : decode cX8_init 72 = .ok (.aastore, 1) := by decide +kernel
theorem dX8_init_73 : decode cX8_init 73 = .ok (.iinc 1 1, 3) := by decide +kernel
theorem dX8_init_76 : decode cX8_init 76 = .ok (.goto (-23), 3) := by decide +kernel
theorem dX8_init_79 : decode cX8_init 79 = .ok (.return_, 1) := by decide +kernel
theorem dX8_has_0 : decode cX8_has 0 = .ok (.iload_n 1, 1) := by decide +kernel
theorem dX8_has_1 : decode cX8_has 1 = .ok (.ifCond .lt 25, 3) := by decide +kernel
theorem dX8_has_4 : decode cX8_has 4 = .ok (.iload_n 1, 1) := by decide +kernel
theorem dX8_has_5 : decode cX8_has 5 = .ok (.bipush 24, 2) := by decide +kernel
theorem dX8_has_7 : decode cX8_has 7 = .ok (.if_icmp .ge 19, 3) := by decide +kernel
theorem dX8_has_10 : decode cX8_has 10 = .ok (.aload_n 0, 1) := by decide +kernel
theorem dX8_has_11 : decode cX8_has 11 = .ok (.getfield 40, 3) := by decide +kernel
theorem dX8_has_14 : decode cX8_has 14 = .ok (.iload_n 1, 1) := by decide +kernel
theorem dX8_has_15 : decode cX8_has 15 = .ok (.iushr, 1) := by decide +kernel
theorem dX8_has_16 : decode cX8_has 16 = .ok (.iconst 1, 1) := by decide +kernel
theorem dX8_has_17 : decode cX8_has 17 = .ok (.iand, 1) := by decide +kernel
theorem dX8_has_18 : decode cX8_has 18 = .ok (.iconst 1, 1) := by decide +kernel
theorem dX8_has_19 : decode cX8_has 19 = .ok (.if_icmp .ne 7, 3) := by decide +kernel
theorem dX8_has_22 : decode cX8_has 22 = .ok (.iconst 1, 1) := by decide +kernel
theorem dX8_has_23 : decode cX8_has 23 = .ok (.goto 4, 3) := by decide +kernel
theorem dX8_has_26 : decode cX8_has 26 = .ok (.iconst 0, 1) := by decide +kernel
theorem dX8_has_27 : decode cX8_has 27 = .ok (.ireturn, 1) := by decide +kernel
theorem dX8_isDirty_0 : decode cX8_isDirty 0 = .ok (.aload_n 0, 1) := by decide +kernel
theorem dX8_isDirty_1 : decode cX8_isDirty 1 = .ok (.getfield 43, 3) := by decide +kernel
theorem dX8_isDirty_4 : decode cX8_isDirty 4 = .ok (.iload_n 1, 1) := by decide +kernel
theorem dX8_isDirty_5 : decode cX8_isDirty 5 = .ok (.iushr, 1) := by decide +kernel
theorem dX8_isDirty_6 : decode cX8_isDirty 6 = .ok (.iconst 1, 1) := by decide +kernel
theorem dX8_isDirty_7 : decode cX8_isDirty 7 = .ok (.iand, 1) := by decide +kernel
theorem dX8_isDirty_8 : decode cX8_isDirty 8 = .ok (.iconst 1, 1) := by decide +kernel
theorem dX8_isDirty_9 : decode cX8_isDirty 9 = .ok (.if_icmp .ne 7, 3) := by decide +kernel
theorem dX8_isDirty_12 : decode cX8_isDirty 12 = .ok (.iconst 1, 1) := by decide +kernel
theorem dX8_isDirty_13 : decode cX8_isDirty 13 = .ok (.goto 4, 3) := by decide +kernel
theorem dX8_isDirty_16 : decode cX8_isDirty 16 = .ok (.iconst 0, 1) := by decide +kernel
theorem dX8_isDirty_17 : decode cX8_isDirty 17 = .ok (.ireturn, 1) := by decide +kernel
theorem dX8_countBoxes_0 : decode cX8_countBoxes 0 = .ok (.aload_n 0, 1) := by decide +kernel
theorem dX8_countBoxes_1 : decode cX8_countBoxes 1 = .ok (.getfield 40, 3) := by decide +kernel
theorem dX8_countBoxes_4 : decode cX8_countBoxes 4 = .ok (.invokestatic 46, 3) := by decide +kernel
theorem dX8_countBoxes_7 : decode cX8_countBoxes 7 = .ok (.ireturn, 1) := by decide +kernel
theorem dX8_kidOf_0 : decode cX8_kidOf 0 = .ok (.aload_n 0, 1) := by decide +kernel
theorem dX8_kidOf_1 : decode cX8_kidOf 1 = .ok (.getfield 11, 3) := by decide +kernel
theorem dX8_kidOf_4 : decode cX8_kidOf 4 = .ok (.aload_n 1, 1) := by decide +kernel
theorem dX8_kidOf_5 : decode cX8_kidOf 5 = .ok (.getfield 52, 3) := by decide +kernel
theorem dX8_kidOf_8 : decode cX8_kidOf 8 = .ok (.iload_n 2, 1) := by decide +kernel
theorem dX8_kidOf_9 : decode cX8_kidOf 9 = .ok (.iaload, 1) := by decide +kernel
theorem dX8_kidOf_10 : decode cX8_kidOf 10 = .ok (.aaload, 1) := by decide +kernel
theorem dX8_kidOf_11 : decode cX8_kidOf 11 = .ok (.areturn, 1) := by decide +kernel
theorem dX8_takesOneMore_0 : decode cX8_takesOneMore 0 = .ok (.aload_n 0, 1) := by decide +kernel
theorem dX8_takesOneMore_1 : decode cX8_takesOneMore 1 = .ok (.iload_n 1, 1) := by decide +kernel
theorem dX8_takesOneMore_2 : decode cX8_takesOneMore 2 = .ok (.invokevirtual 55, 3) := by decide +kernel
theorem dX8_takesOneMore_5 : decode cX8_takesOneMore 5 = .ok (.ifCond .ne 20, 3) := by decide +kernel
theorem dX8_takesOneMore_8 : decode cX8_takesOneMore 8 = .ok (.aload_n 0, 1) := by decide +kernel
theorem dX8_takesOneMore_9 : decode cX8_takesOneMore 9 = .ok (.aload_n 0, 1) := by decide +kernel
theorem dX8_takesOneMore_10 : decode cX8_takesOneMore 10 = .ok (.getfield 24, 3) := by decide +kernel
theorem dX8_takesOneMore_13 : decode cX8_takesOneMore 13 = .ok (.invokevirtual 55, 3) := by decide +kernel
theorem dX8_takesOneMore_16 : decode cX8_takesOneMore 16 = .ok (.ifCond .ne 7, 3) := by decide +kernel
theorem dX8_takesOneMore_19 : decode cX8_takesOneMore 19 = .ok (.iconst 1, 1) := by decide +kernel
theorem dX8_takesOneMore_20 : decode cX8_takesOneMore 20 = .ok (.goto 4, 3) := by decide +kernel
theorem dX8_takesOneMore_23 : decode cX8_takesOneMore 23 = .ok (.iconst 0, 1) := by decide +kernel
theorem dX8_takesOneMore_24 : decode cX8_takesOneMore 24 = .ok (.ireturn, 1) := by decide +kernel
theorem dX8_takesOneMore_25 : decode cX8_takesOneMore 25 = .ok (.aload_n 0, 1) := by decide +kernel
theorem dX8_takesOneMore_26 : decode cX8_takesOneMore 26 = .ok (.getfield 11, 3) := by decide +kernel
theorem dX8_takesOneMore_29 : decode cX8_takesOneMore 29 = .ok (.iload_n 1, 1) := by decide +kernel
theorem dX8_takesOneMore_30 : decode cX8_takesOneMore 30 = .ok (.aaload, 1) := by decide +kernel
theorem dX8_takesOneMore_31 : decode cX8_takesOneMore 31 = .ok (.getfield 59, 3) := by decide +kernel
theorem dX8_takesOneMore_34 : decode cX8_takesOneMore 34 = .ok (.aload_n 0, 1) := by decide +kernel
theorem dX8_takesOneMore_35 : decode cX8_takesOneMore 35 = .ok (.getfield 11, 3) := by decide +kernel
theorem dX8_takesOneMore_38 : decode cX8_takesOneMore 38 = .ok (.iload_n 1, 1) := by decide +kernel
theorem dX8_takesOneMore_39 : decode cX8_takesOneMore 39 = .ok (.aaload, 1) := by decide +kernel
theorem dX8_takesOneMore_40 : decode cX8_takesOneMore 40 = .ok (.getfield 62, 3) := by decide +kernel
theorem dX8_takesOneMore_43 : decode cX8_takesOneMore 43 = .ok (.invokestatic 65, 3) := by decide +kernel
theorem dX8_takesOneMore_46 : decode cX8_takesOneMore 46 = .ok (.if_icmp .ge 7, 3) := by decide +kernel
theorem dX8_takesOneMore_49 : decode cX8_takesOneMore 49 = .ok (.iconst 1, 1) := by decide +kernel
theorem dX8_takesOneMore_50 : decode cX8_takesOneMore 50 = .ok (.goto 4, 3) := by decide +kernel
theorem dX8_takesOneMore_53 : decode cX8_takesOneMore 53 = .ok (.iconst 0, 1) := by decide +kernel
theorem dX8_takesOneMore_54 : decode cX8_takesOneMore 54 = .ok (.ireturn, 1) := by decide +kernel
theorem dX8_bring_0 : decode cX8_bring 0 = .ok (.aload_n 0, 1) := by decide +kernel
theorem dX8_bring_1 : decode cX8_bring 1 = .ok (.getfield 70, 3) := by decide +kernel
theorem dX8_bring_4 : decode cX8_bring 4 = .ok (.bipush 24, 2) := by decide +kernel
theorem dX8_bring_6 : decode cX8_bring 6 = .ok (.if_icmp .lt 6, 3) := by decide +kernel
theorem dX8_bring_9 : decode cX8_bring 9 = .ok (.bipush (-4), 2) := by decide +kernel
theorem dX8_bring_11 : decode cX8_bring 11 = .ok (.ireturn, 1) := by decide +kernel
theorem dX8_bring_12 : decode cX8_bring 12 = .ok (.aload_n 0, 1) := by decide +kernel
theorem dX8_bring_13 : decode cX8_bring 13 = .ok (.getfield 70, 3) := by decide +kernel
theorem dX8_bring_16 : decode cX8_bring 16 = .ok (.istore 8, 2) := by decide +kernel
theorem dX8_bring_18 : decode cX8_bring 18 = .ok (.aload_n 0, 1) := by decide +kernel
theorem dX8_bring_19 : decode cX8_bring 19 = .ok (.dup, 1) := by decide +kernel
theorem dX8_bring_20 : decode cX8_bring 20 = .ok (.getfield 70, 3) := by decide +kernel
theorem dX8_bring_23 : decode cX8_bring 23 = .ok (.iconst 1, 1) := by decide +kernel
theorem dX8_bring_24 : decode cX8_bring 24 = .ok (.iadd, 1) := by decide +kernel
theorem dX8_bring_25 : decode cX8_bring 25 = .ok (.putfield 70, 3) := by decide +kernel
theorem dX8_bring_28 : decode cX8_bring 28 = .ok (.aload_n 0, 1) := by decide +kernel
theorem dX8_bring_29 : decode cX8_bring 29 = .ok (.dup, 1) := by decide +kernel
theorem dX8_bring_30 : decode cX8_bring 30 = .ok (.getfield 40, 3) := by decide +kernel
theorem dX8_bring_33 : decode cX8_bring 33 = .ok (.iconst 1, 1) := by decide +kernel
theorem dX8_bring_34 : decode cX8_bring 34 = .ok (.iload 8, 2) := by decide +kernel
theorem dX8_bring_36 : decode cX8_bring 36 = .ok (.ishl, 1) := by decide +kernel
theorem dX8_bring_37 : decode cX8_bring 37 = .ok (.ior, 1) := by decide +kernel
theorem dX8_bring_38 : decode cX8_bring 38 = .ok (.putfield 40, 3) := by decide +kernel
theorem dX8_bring_41 : decode cX8_bring 41 = .ok (.aload_n 0, 1) := by decide +kernel
theorem dX8_bring_42 : decode cX8_bring 42 = .ok (.dup, 1) := by decide +kernel
theorem dX8_bring_43 : decode cX8_bring 43 = .ok (.getfield 43, 3) := by decide +kernel
theorem dX8_bring_46 : decode cX8_bring 46 = .ok (.iconst 1, 1) := by decide +kernel
theorem dX8_bring_47 : decode cX8_bring 47 = .ok (.iload 8, 2) := by decide +kernel
theorem dX8_bring_49 : decode cX8_bring 49 = .ok (.ishl, 1) := by decide +kernel
theorem dX8_bring_50 : decode cX8_bring 50 = .ok (.ior, 1) := by decide +kernel
theorem dX8_bring_51 : decode cX8_bring 51 = .ok (.putfield 43, 3) := by decide +kernel
theorem dX8_bring_54 : decode cX8_bring 54 = .ok (.aload_n 0, 1) := by decide +kernel
theorem dX8_bring_55 : decode cX8_bring 55 = .ok (.getfield 11, 3) := by decide +kernel
theorem dX8_bring_58 : decode cX8_bring 58 = .ok (.iload 8, 2) := by decide +kernel
theorem dX8_bring_60 : decode cX8_bring 60 = .ok (.aaload, 1) := by decide +kernel
theorem dX8_bring_61 : decode cX8_bring 61 = .ok (.astore 9, 2) := by decide +kernel
theorem dX8_bring_63 : decode cX8_bring 63 = .ok (.aload 9, 2) := by decide +kernel
theorem dX8_bring_65 : decode cX8_bring 65 = .ok (.iload_n 1, 1) := by decide +kernel
theorem dX8_bring_66 : decode cX8_bring 66 = .ok (.iload_n 2, 1) := by decide +kernel
theorem dX8_bring_67 : decode cX8_bring 67 = .ok (.aload_n 0, 1) := by decide +kernel
theorem dX8_bring_68 : decode cX8_bring 68 = .ok (.iload_n 2, 1) := by decide +kernel
theorem dX8_bring_69 : decode cX8_bring 69 = .ok (.invokevirtual 55, 3) := by decide +kernel
theorem dX8_bring_72 : decode cX8_bring 72 = .ok (.ifCond .eq 17, 3) := by decide +kernel
theorem dX8_bring_75 : decode cX8_bring 75 = .ok (.aload_n 0, 1) := by decide +kernel
theorem dX8_bring_76 : decode cX8_bring 76 = .ok (.getfield 11, 3) := by decide +kernel
theorem dX8_bring_79 : decode cX8_bring 79 = .ok (.iload_n 2, 1) := by decide +kernel
theorem dX8_bring_80 : decode cX8_bring 80 = .ok (.aaload, 1) := by decide +kernel
theorem dX8_bring_81 : decode cX8_bring 81 = .ok (.getfield 73, 3) := by decide +kernel
theorem dX8_bring_84 : decode cX8_bring 84 = .ok (.iconst 1, 1) := by decide +kernel
theorem dX8_bring_85 : decode cX8_bring 85 = .ok (.iadd, 1) := by decide +kernel
theorem dX8_bring_86 : decode cX8_bring 86 = .ok (.goto 4, 3) := by decide +kernel
theorem dX8_bring_89 : decode cX8_bring 89 = .ok (.iconst 0, 1) := by decide +kernel
theorem dX8_bring_90 : decode cX8_bring 90 = .ok (.iload 7, 2) := by decide +kernel
theorem dX8_bring_92 : decode cX8_bring 92 = .ok (.invokevirtual 76, 3) := by decide +kernel
theorem dX8_bring_95 : decode cX8_bring 95 = .ok (.aload 9, 2) := by decide +kernel
theorem dX8_bring_97 : decode cX8_bring 97 = .ok (.iload_n 3, 1) := by decide +kernel
theorem dX8_bring_98 : decode cX8_bring 98 = .ok (.iload 4, 2) := by decide +kernel
theorem dX8_bring_100 : decode cX8_bring 100 = .ok (.iload 5, 2) := by decide +kernel
theorem dX8_bring_102 : decode cX8_bring 102 = .ok (.iload 6, 2) := by decide +kernel
theorem dX8_bring_104 : decode cX8_bring 104 = .ok (.invokevirtual 80, 3) := by decide +kernel
theorem dX8_bring_107 : decode cX8_bring 107 = .ok (.aload_n 0, 1) := by decide +kernel
theorem dX8_bring_108 : decode cX8_bring 108 = .ok (.iload_n 2, 1) := by decide +kernel
theorem dX8_bring_109 : decode cX8_bring 109 = .ok (.invokevirtual 55, 3) := by decide +kernel
theorem dX8_bring_112 : decode cX8_bring 112 = .ok (.ifCond .eq 31, 3) := by decide +kernel
theorem dX8_bring_115 : decode cX8_bring 115 = .ok (.aload_n 0, 1) := by decide +kernel
theorem dX8_bring_116 : decode cX8_bring 116 = .ok (.getfield 11, 3) := by decide +kernel
theorem dX8_bring_119 : decode cX8_bring 119 = .ok (.iload_n 2, 1) := by decide +kernel
theorem dX8_bring_120 : decode cX8_bring 120 = .ok (.aaload, 1) := by decide +kernel
theorem dX8_bring_121 : decode cX8_bring 121 = .ok (.iload 8, 2) := by decide +kernel
theorem dX8_bring_123 : decode cX8_bring 123 = .ok (.aload_n 0, 1) := by decide +kernel
theorem dX8_bring_124 : decode cX8_bring 124 = .ok (.getfield 11, 3) := by decide +kernel
theorem dX8_bring_127 : decode cX8_bring 127 = .ok (.iload_n 2, 1) := by decide +kernel
theorem dX8_bring_128 : decode cX8_bring 128 = .ok (.aaload, 1) := by decide +kernel
theorem dX8_bring_129 : decode cX8_bring 129 = .ok (.getfield 59, 3) := by decide +kernel
theorem dX8_bring_132 : decode cX8_bring 132 = .ok (.invokevirtual 83, 3) := by decide +kernel
theorem dX8_bring_135 : decode cX8_bring 135 = .ok (.aload_n 0, 1) := by decide +kernel
theorem dX8_bring_136 : decode cX8_bring 136 = .ok (.iload_n 2, 1) := by decide +kernel
theorem dX8_bring_137 : decode cX8_bring 137 = .ok (.invokevirtual 87, 3) := by decide +kernel
theorem dX8_bring_140 : decode cX8_bring 140 = .ok (.goto 15, 3) := by decide +kernel
theorem dX8_bring_143 : decode cX8_bring 143 = .ok (.aload_n 0, 1) := by decide +kernel
theorem dX8_bring_144 : decode cX8_bring 144 = .ok (.iload 8, 2) := by decide +kernel
theorem dX8_bring_146 : decode cX8_bring 146 = .ok (.putfield 24, 3) := by decide +kernel
theorem dX8_bring_149 : decode cX8_bring 149 = .ok (.aload_n 0, 1) := by decide +kernel
theorem dX8_bring_150 : decode cX8_bring 150 = .ok (.iload 8, 2) := by decide +kernel
theorem dX8_bring_152 : decode cX8_bring 152 = .ok (.invokevirtual 87, 3) := by decide +kernel
theorem dX8_bring_155 : decode cX8_bring 155 = .ok (.iload 8, 2) := by decide +kernel
theorem dX8_bring_157 : decode cX8_bring 157 = .ok (.ireturn, 1) := by decide +kernel
theorem dX8_tell_0 : decode cX8_tell 0 = .ok (.aload_n 0, 1) := by decide +kernel
theorem dX8_tell_1 : decode cX8_tell 1 = .ok (.getfield 11, 3) := by decide +kernel
theorem dX8_tell_4 : decode cX8_tell 4 = .ok (.iload_n 1, 1) := by decide +kernel
theorem dX8_tell_5 : decode cX8_tell 5 = .ok (.aaload, 1) := by decide +kernel
theorem dX8_tell_6 : decode cX8_tell 6 = .ok (.astore 4, 2) := by decide +kernel
theorem dX8_tell_8 : decode cX8_tell 8 = .ok (.iload_n 2, 1) := by decide +kernel
theorem dX8_tell_9 : decode cX8_tell 9 = .ok (.tableswitch 75 4 6 #[27, 43, 59], 27) := by decide +kernel
theorem dX8_tell_36 : decode cX8_tell 36 = .ok (.aload 4, 2) := by decide +kernel
theorem dX8_tell_38 : decode cX8_tell 38 = .ok (.getfield 90, 3) := by decide +kernel
theorem dX8_tell_41 : decode cX8_tell 41 = .ok (.istore 5, 2) := by decide +kernel
theorem dX8_tell_43 : decode cX8_tell 43 = .ok (.aload 4, 2) := by decide +kernel
theorem dX8_tell_45 : decode cX8_tell 45 = .ok (.iload_n 3, 1) := by decide +kernel
theorem dX8_tell_46 : decode cX8_tell 46 = .ok (.putfield 90, 3) := by decide +kernel
theorem dX8_tell_49 : decode cX8_tell 49 = .ok (.goto 52, 3) := by decide +kernel
theorem dX8_tell_52 : decode cX8_tell 52 = .ok (.aload 4, 2) := by decide +kernel
theorem dX8_tell_54 : decode cX8_tell 54 = .ok (.getfield 93, 3) := by decide +kernel
theorem dX8_tell_57 : decode cX8_tell 57 = .ok (.istore 5, 2) := by decide +kernel
theorem dX8_tell_59 : decode cX8_tell 59 = .ok (.aload 4, 2) := by decide +kernel
theorem dX8_tell_61 : decode cX8_tell 61 = .ok (.iload_n 3, 1) := by decide +kernel
theorem dX8_tell_62 : decode cX8_tell 62 = .ok (.putfield 93, 3) := by decide +kernel
theorem dX8_tell_65 : decode cX8_tell 65 = .ok (.goto 36, 3) := by decide +kernel
theorem dX8_tell_68 : decode cX8_tell 68 = .ok (.aload 4, 2) := by decide +kernel
theorem dX8_tell_70 : decode cX8_tell 70 = .ok (.getfield 96, 3) := by decide +kernel
theorem dX8_tell_73 : decode cX8_tell 73 = .ok (.istore 5, 2) := by decide +kernel
theorem dX8_tell_75 : decode cX8_tell 75 = .ok (.aload 4, 2) := by decide +kernel
theorem dX8_tell_77 : decode cX8_tell 77 = .ok (.iload_n 3, 1) := by decide +kernel
theorem dX8_tell_78 : decode cX8_tell 78 = .ok (.putfield 96, 3) := by decide +kernel
theorem dX8_tell_81 : decode cX8_tell 81 = .ok (.goto 20, 3) := by decide +kernel
theorem dX8_tell_84 : decode cX8_tell 84 = .ok (.aload 4, 2) := by decide +kernel
theorem dX8_tell_86 : decode cX8_tell 86 = .ok (.getfield 99, 3) := by decide +kernel
theorem dX8_tell_89 : decode cX8_tell 89 = .ok (.iload_n 2, 1) := by decide +kernel
theorem dX8_tell_90 : decode cX8_tell 90 = .ok (.iaload, 1) := by decide +kernel
theorem dX8_tell_91 : decode cX8_tell 91 = .ok (.istore 5, 2) := by decide +kernel
theorem dX8_tell_93 : decode cX8_tell 93 = .ok (.aload 4, 2) := by decide +kernel
theorem dX8_tell_95 : decode cX8_tell 95 = .ok (.getfield 99, 3) := by decide +kernel
theorem dX8_tell_98 : decode cX8_tell 98 = .ok (.iload_n 2, 1) := by decide +kernel
theorem dX8_tell_99 : decode cX8_tell 99 = .ok (.iload_n 3, 1) := by decide +kernel
theorem dX8_tell_100 : decode cX8_tell 100 = .ok (.iastore, 1) := by decide +kernel
theorem dX8_tell_101 : decode cX8_tell 101 = .ok (.aload_n 0, 1) := by decide +kernel
theorem dX8_tell_102 : decode cX8_tell 102 = .ok (.iload_n 2, 1) := by decide +kernel
theorem dX8_tell_103 : decode cX8_tell 103 = .ok (.iconst 4, 1) := by decide +kernel
theorem dX8_tell_104 : decode cX8_tell 104 = .ok (.if_icmp .ge 7, 3) := by decide +kernel
theorem dX8_tell_107 : decode cX8_tell 107 = .ok (.iload_n 1, 1) := by decide +kernel
theorem dX8_tell_108 : decode cX8_tell 108 = .ok (.goto 8, 3) := by decide +kernel
theorem dX8_tell_111 : decode cX8_tell 111 = .ok (.aload 4, 2) := by decide +kernel
theorem dX8_tell_113 : decode cX8_tell 113 = .ok (.getfield 102, 3) := by decide +kernel
theorem dX8_tell_116 : decode cX8_tell 116 = .ok (.invokevirtual 87, 3) := by decide +kernel
theorem dX8_tell_119 : decode cX8_tell 119 = .ok (.iload 5, 2) := by decide +kernel
theorem dX8_tell_121 : decode cX8_tell 121 = .ok (.ireturn, 1) := by decide +kernel
theorem dX8_drop_0 : decode cX8_drop 0 = .ok (.aload_n 0, 1) := by decide +kernel
theorem dX8_drop_1 : decode cX8_drop 1 = .ok (.invokevirtual 105, 3) := by decide +kernel
theorem dX8_drop_4 : decode cX8_drop 4 = .ok (.istore_n 2, 1) := by decide +kernel
theorem dX8_drop_5 : decode cX8_drop 5 = .ok (.aload_n 0, 1) := by decide +kernel
theorem dX8_drop_6 : decode cX8_drop 6 = .ok (.getfield 11, 3) := by decide +kernel
theorem dX8_drop_9 : decode cX8_drop 9 = .ok (.iload_n 1, 1) := by decide +kernel
theorem dX8_drop_10 : decode cX8_drop 10 = .ok (.aaload, 1) := by decide +kernel
theorem dX8_drop_11 : decode cX8_drop 11 = .ok (.astore_n 3, 1) := by decide +kernel
theorem dX8_drop_12 : decode cX8_drop 12 = .ok (.aload_n 0, 1) := by decide +kernel
theorem dX8_drop_13 : decode cX8_drop 13 = .ok (.aload_n 3, 1) := by decide +kernel
theorem dX8_drop_14 : decode cX8_drop 14 = .ok (.iconst 0, 1) := by decide +kernel
theorem dX8_drop_15 : decode cX8_drop 15 = .ok (.invokevirtual 109, 3) := by decide +kernel
theorem dX8_drop_18 : decode cX8_drop 18 = .ok (.aload_n 0, 1) := by decide +kernel
theorem dX8_drop_19 : decode cX8_drop 19 = .ok (.aload_n 3, 1) := by decide +kernel
theorem dX8_drop_20 : decode cX8_drop 20 = .ok (.getfield 102, 3) := by decide +kernel
theorem dX8_drop_23 : decode cX8_drop 23 = .ok (.invokevirtual 55, 3) := by decide +kernel
theorem dX8_drop_26 : decode cX8_drop 26 = .ok (.ifCond .eq 39, 3) := by decide +kernel
theorem dX8_drop_29 : decode cX8_drop 29 = .ok (.aload_n 0, 1) := by decide +kernel
theorem dX8_drop_30 : decode cX8_drop 30 = .ok (.getfield 11, 3) := by decide +kernel
theorem dX8_drop_33 : decode cX8_drop 33 = .ok (.aload_n 3, 1) := by decide +kernel
theorem dX8_drop_34 : decode cX8_drop 34 = .ok (.getfield 102, 3) := by decide +kernel
theorem dX8_drop_37 : decode cX8_drop 37 = .ok (.aaload, 1) := by decide +kernel
theorem dX8_drop_38 : decode cX8_drop 38 = .ok (.aload_n 0, 1) := by decide +kernel
theorem dX8_drop_39 : decode cX8_drop 39 = .ok (.getfield 11, 3) := by decide +kernel
theorem dX8_drop_42 : decode cX8_drop 42 = .ok (.aload_n 3, 1) := by decide +kernel
theorem dX8_drop_43 : decode cX8_drop 43 = .ok (.getfield 102, 3) := by decide +kernel
theorem dX8_drop_46 : decode cX8_drop 46 = .ok (.aaload, 1) := by decide +kernel
theorem dX8_drop_47 : decode cX8_drop 47 = .ok (.iload_n 1, 1) := by decide +kernel
theorem dX8_drop_48 : decode cX8_drop 48 = .ok (.invokevirtual 113, 3) := by decide +kernel
theorem dX8_drop_51 : decode cX8_drop 51 = .ok (.invokevirtual 116, 3) := by decide +kernel
theorem dX8_drop_54 : decode cX8_drop 54 = .ok (.aload_n 0, 1) := by decide +kernel
theorem dX8_drop_55 : decode cX8_drop 55 = .ok (.aload_n 3, 1) := by decide +kernel
theorem dX8_drop_56 : decode cX8_drop 56 = .ok (.getfield 102, 3) := by decide +kernel
theorem dX8_drop_59 : decode cX8_drop 59 = .ok (.invokevirtual 87, 3) := by decide +kernel
theorem dX8_drop_62 : decode cX8_drop 62 = .ok (.goto 8, 3) := by decide +kernel
theorem dX8_drop_65 : decode cX8_drop 65 = .ok (.aload_n 0, 1) := by decide +kernel
theorem dX8_drop_66 : decode cX8_drop 66 = .ok (.iconst (-1), 1) := by decide +kernel
theorem dX8_drop_67 : decode cX8_drop 67 = .ok (.putfield 24, 3) := by decide +kernel
theorem dX8_drop_70 : decode cX8_drop 70 = .ok (.iload_n 2, 1) := by decide +kernel
theorem dX8_drop_71 : decode cX8_drop 71 = .ok (.aload_n 0, 1) := by decide +kernel
theorem dX8_drop_72 : decode cX8_drop 72 = .ok (.invokevirtual 105, 3) := by decide +kernel
theorem dX8_drop_75 : decode cX8_drop 75 = .ok (.isub, 1) := by decide +kernel
theorem dX8_drop_76 : decode cX8_drop 76 = .ok (.ireturn, 1) := by decide +kernel
theorem dX8_forget_0 : decode cX8_forget 0 = .ok (.iload_n 2, 1) := by decide +kernel
theorem dX8_forget_1 : decode cX8_forget 1 = .ok (.bipush 24, 2) := by decide +kernel
theorem dX8_forget_3 : decode cX8_forget 3 = .ok (.if_icmp .lt 4, 3) := by decide +kernel
theorem dX8_forget_6 : decode cX8_forget 6 = .ok (.return_, 1) := by decide +kernel
theorem dX8_forget_7 : decode cX8_forget 7 = .ok (.iconst 1, 1) := by decide +kernel
theorem dX8_forget_8 : decode cX8_forget 8 = .ok (.aload_n 1, 1) := by decide +kernel
theorem dX8_forget_9 : decode cX8_forget 9 = .ok (.getfield 119, 3) := by decide +kernel
theorem dX8_forget_12 : decode cX8_forget 12 = .ok (.ishl, 1) := by decide +kernel
theorem dX8_forget_13 : decode cX8_forget 13 = .ok (.iconst (-1), 1) := by decide +kernel
theorem dX8_forget_14 : decode cX8_forget 14 = .ok (.ixor, 1) := by decide +kernel
theorem dX8_forget_15 : decode cX8_forget 15 = .ok (.istore_n 3, 1) := by decide +kernel
theorem dX8_forget_16 : decode cX8_forget 16 = .ok (.aload_n 0, 1) := by decide +kernel
theorem dX8_forget_17 : decode cX8_forget 17 = .ok (.dup, 1) := by decide +kernel
theorem dX8_forget_18 : decode cX8_forget 18 = .ok (.getfield 40, 3) := by decide +kernel
theorem dX8_forget_21 : decode cX8_forget 21 = .ok (.iload_n 3, 1) := by decide +kernel
theorem dX8_forget_22 : decode cX8_forget 22 = .ok (.iand, 1) := by decide +kernel
theorem dX8_forget_23 : decode cX8_forget 23 = .ok (.putfield 40, 3) := by decide +kernel
theorem dX8_forget_26 : decode cX8_forget 26 = .ok (.aload_n 0, 1) := by decide +kernel
theorem dX8_forget_27 : decode cX8_forget 27 = .ok (.dup, 1) := by decide +kernel
theorem dX8_forget_28 : decode cX8_forget 28 = .ok (.getfield 43, 3) := by decide +kernel
theorem dX8_forget_31 : decode cX8_forget 31 = .ok (.iload_n 3, 1) := by decide +kernel
theorem dX8_forget_32 : decode cX8_forget 32 = .ok (.iand, 1) := by decide +kernel
theorem dX8_forget_33 : decode cX8_forget 33 = .ok (.putfield 43, 3) := by decide +kernel
theorem dX8_forget_36 : decode cX8_forget 36 = .ok (.aload_n 0, 1) := by decide +kernel
theorem dX8_forget_37 : decode cX8_forget 37 = .ok (.dup, 1) := by decide +kernel
theorem dX8_forget_38 : decode cX8_forget 38 = .ok (.getfield 122, 3) := by decide +kernel
theorem dX8_forget_41 : decode cX8_forget 41 = .ok (.iload_n 3, 1) := by decide +kernel
theorem dX8_forget_42 : decode cX8_forget 42 = .ok (.iand, 1) := by decide +kernel
theorem dX8_forget_43 : decode cX8_forget 43 = .ok (.putfield 122, 3) := by decide +kernel
theorem dX8_forget_46 : decode cX8_forget 46 = .ok (.aload_n 0, 1) := by decide +kernel
theorem dX8_forget_47 : decode cX8_forget 47 = .ok (.dup, 1) := by decide +kernel
theorem dX8_forget_48 : decode cX8_forget 48 = .ok (.getfield 125, 3) := by decide +kernel
theorem dX8_forget_51 : decode cX8_forget 51 = .ok (.iload_n 3, 1) := by decide +kernel
theorem dX8_forget_52 : decode cX8_forget 52 = .ok (.iand, 1) := by decide +kernel
theorem dX8_forget_53 : decode cX8_forget 53 = .ok (.putfield 125, 3) := by decide +kernel
theorem dX8_forget_56 : decode cX8_forget 56 = .ok (.iconst 0, 1) := by decide +kernel
theorem dX8_forget_57 : decode cX8_forget 57 = .ok (.istore 4, 2) := by decide +kernel
theorem dX8_forget_59 : decode cX8_forget 59 = .ok (.iload 4, 2) := by decide +kernel
theorem dX8_forget_61 : decode cX8_forget 61 = .ok (.aload_n 1, 1) := by decide +kernel
theorem dX8_forget_62 : decode cX8_forget 62 = .ok (.getfield 59, 3) := by decide +kernel
theorem dX8_forget_65 : decode cX8_forget 65 = .ok (.if_icmp .ge 23, 3) := by decide +kernel
theorem dX8_forget_68 : decode cX8_forget 68 = .ok (.aload_n 0, 1) := by decide +kernel
theorem dX8_forget_69 : decode cX8_forget 69 = .ok (.aload_n 0, 1) := by decide +kernel
theorem dX8_forget_70 : decode cX8_forget 70 = .ok (.aload_n 1, 1) := by decide +kernel
theorem dX8_forget_71 : decode cX8_forget 71 = .ok (.iload 4, 2) := by decide +kernel
theorem dX8_forget_73 : decode cX8_forget 73 = .ok (.invokevirtual 128, 3) := by decide +kernel
theorem dX8_forget_76 : decode cX8_forget 76 = .ok (.iload_n 2, 1) := by decide +kernel
theorem dX8_forget_77 : decode cX8_forget 77 = .ok (.iconst 1, 1) := by decide +kernel
theorem dX8_forget_78 : decode cX8_forget 78 = .ok (.iadd, 1) := by decide +kernel
theorem dX8_forget_79 : decode cX8_forget 79 = .ok (.invokevirtual 109, 3) := by decide +kernel
theorem dX8_forget_82 : decode cX8_forget 82 = .ok (.iinc 4 1, 3) := by decide +kernel
theorem dX8_forget_85 : decode cX8_forget 85 = .ok (.goto (-26), 3) := by decide +kernel
theorem dX8_forget_88 : decode cX8_forget 88 = .ok (.return_, 1) := by decide +kernel
theorem dX8_move_0 : decode cX8_move 0 = .ok (.aload_n 0, 1) := by decide +kernel
theorem dX8_move_1 : decode cX8_move 1 = .ok (.getfield 11, 3) := by decide +kernel
theorem dX8_move_4 : decode cX8_move 4 = .ok (.aload_n 0, 1) := by decide +kernel
theorem dX8_move_5 : decode cX8_move 5 = .ok (.getfield 11, 3) := by decide +kernel
theorem dX8_move_8 : decode cX8_move 8 = .ok (.iload_n 1, 1) := by decide +kernel
theorem dX8_move_9 : decode cX8_move 9 = .ok (.aaload, 1) := by decide +kernel
theorem dX8_move_10 : decode cX8_move 10 = .ok (.getfield 102, 3) := by decide +kernel
theorem dX8_move_13 : decode cX8_move 13 = .ok (.aaload, 1) := by decide +kernel
theorem dX8_move_14 : decode cX8_move 14 = .ok (.astore_n 3, 1) := by decide +kernel
theorem dX8_move_15 : decode cX8_move 15 = .ok (.aload_n 3, 1) := by decide +kernel
theorem dX8_move_16 : decode cX8_move 16 = .ok (.iload_n 1, 1) := by decide +kernel
theorem dX8_move_17 : decode cX8_move 17 = .ok (.invokevirtual 113, 3) := by decide +kernel
theorem dX8_move_20 : decode cX8_move 20 = .ok (.istore 4, 2) := by decide +kernel
theorem dX8_move_22 : decode cX8_move 22 = .ok (.iload 4, 2) := by decide +kernel
theorem dX8_move_24 : decode cX8_move 24 = .ok (.iload_n 2, 1) := by decide +kernel
theorem dX8_move_25 : decode cX8_move 25 = .ok (.if_icmp .eq 23, 3) := by decide +kernel
theorem dX8_move_28 : decode cX8_move 28 = .ok (.aload_n 3, 1) := by decide +kernel
theorem dX8_move_29 : decode cX8_move 29 = .ok (.iload 4, 2) := by decide +kernel
theorem dX8_move_31 : decode cX8_move 31 = .ok (.invokevirtual 116, 3) := by decide +kernel
theorem dX8_move_34 : decode cX8_move 34 = .ok (.aload_n 3, 1) := by decide +kernel
theorem dX8_move_35 : decode cX8_move 35 = .ok (.iload_n 1, 1) := by decide +kernel
theorem dX8_move_36 : decode cX8_move 36 = .ok (.iload_n 2, 1) := by decide +kernel
theorem dX8_move_37 : decode cX8_move 37 = .ok (.invokevirtual 83, 3) := by decide +kernel
theorem dX8_move_40 : decode cX8_move 40 = .ok (.aload_n 0, 1) := by decide +kernel
theorem dX8_move_41 : decode cX8_move 41 = .ok (.aload_n 3, 1) := by decide +kernel
theorem dX8_move_42 : decode cX8_move 42 = .ok (.getfield 119, 3) := by decide +kernel
theorem dX8_move_45 : decode cX8_move 45 = .ok (.invokevirtual 87, 3) := by decide +kernel
theorem dX8_move_48 : decode cX8_move 48 = .ok (.iload 4, 2) := by decide +kernel
theorem dX8_move_50 : decode cX8_move 50 = .ok (.ireturn, 1) := by decide +kernel
theorem dX8_tellScreen_0 : decode cX8_tellScreen 0 = .ok (.aload_n 0, 1) := by decide +kernel
theorem dX8_tellScreen_1 : decode cX8_tellScreen 1 = .ok (.iload_n 1, 1) := by decide +kernel
theorem dX8_tellScreen_2 : decode cX8_tellScreen 2 = .ok (.putfield 28, 3) := by decide +kernel
theorem dX8_tellScreen_5 : decode cX8_tellScreen 5 = .ok (.aload_n 0, 1) := by decide +kernel
theorem dX8_tellScreen_6 : decode cX8_tellScreen 6 = .ok (.iload_n 2, 1) := by decide +kernel
theorem dX8_tellScreen_7 : decode cX8_tellScreen 7 = .ok (.putfield 31, 3) := by decide +kernel
theorem dX8_tellScreen_10 : decode cX8_tellScreen 10 = .ok (.aload_n 0, 1) := by decide +kernel
theorem dX8_tellScreen_11 : decode cX8_tellScreen 11 = .ok (.aload_n 0, 1) := by decide +kernel
theorem dX8_tellScreen_12 : decode cX8_tellScreen 12 = .ok (.getfield 24, 3) := by decide +kernel
theorem dX8_tellScreen_15 : decode cX8_tellScreen 15 = .ok (.invokevirtual 55, 3) := by decide +kernel
theorem dX8_tellScreen_18 : decode cX8_tellScreen 18 = .ok (.ifCond .eq 33, 3) := by decide +kernel
theorem dX8_tellScreen_21 : decode cX8_tellScreen 21 = .ok (.aload_n 0, 1) := by decide +kernel
theorem dX8_tellScreen_22 : decode cX8_tellScreen 22 = .ok (.dup, 1) := by decide +kernel
theorem dX8_tellScreen_23 : decode cX8_tellScreen 23 = .ok (.getfield 43, 3) := by decide +kernel
theorem dX8_tellScreen_26 : decode cX8_tellScreen 26 = .ok (.iconst 1, 1) := by decide +kernel
theorem dX8_tellScreen_27 : decode cX8_tellScreen 27 = .ok (.aload_n 0, 1) := by decide +kernel
theorem dX8_tellScreen_28 : decode cX8_tellScreen 28 = .ok (.getfield 24, 3) := by decide +kernel
theorem dX8_tellScreen_31 : decode cX8_tellScreen 31 = .ok (.ishl, 1) := by decide +kernel
theorem dX8_tellScreen_32 : decode cX8_tellScreen 32 = .ok (.ior, 1) := by decide +kernel
theorem dX8_tellScreen_33 : decode cX8_tellScreen 33 = .ok (.putfield 43, 3) := by decide +kernel
theorem dX8_tellScreen_36 : decode cX8_tellScreen 36 = .ok (.aload_n 0, 1) := by decide +kernel
theorem dX8_tellScreen_37 : decode cX8_tellScreen 37 = .ok (.dup, 1) := by decide +kernel
theorem dX8_tellScreen_38 : decode cX8_tellScreen 38 = .ok (.getfield 122, 3) := by decide +kernel
theorem dX8_tellScreen_41 : decode cX8_tellScreen 41 = .ok (.iconst 1, 1) := by decide +kernel
theorem dX8_tellScreen_42 : decode cX8_tellScreen 42 = .ok (.aload_n 0, 1) := by decide +kernel
theorem dX8_tellScreen_43 : decode cX8_tellScreen 43 = .ok (.getfield 24, 3) := by decide +kernel
theorem dX8_tellScreen_46 : decode cX8_tellScreen 46 = .ok (.ishl, 1) := by decide +kernel
theorem dX8_tellScreen_47 : decode cX8_tellScreen 47 = .ok (.ior, 1) := by decide +kernel
theorem dX8_tellScreen_48 : decode cX8_tellScreen 48 = .ok (.putfield 122, 3) := by decide +kernel
theorem dX8_tellScreen_51 : decode cX8_tellScreen 51 = .ok (.return_, 1) := by decide +kernel
theorem dX8_mark_0 : decode cX8_mark 0 = .ok (.iload_n 1, 1) := by decide +kernel
theorem dX8_mark_1 : decode cX8_mark 1 = .ok (.istore_n 2, 1) := by decide +kernel
theorem dX8_mark_2 : decode cX8_mark 2 = .ok (.iconst 0, 1) := by decide +kernel
theorem dX8_mark_3 : decode cX8_mark 3 = .ok (.istore_n 3, 1) := by decide +kernel
theorem dX8_mark_4 : decode cX8_mark 4 = .ok (.iload_n 3, 1) := by decide +kernel
theorem dX8_mark_5 : decode cX8_mark 5 = .ok (.bipush 24, 2) := by decide +kernel
theorem dX8_mark_7 : decode cX8_mark 7 = .ok (.if_icmp .ge 114, 3) := by decide +kernel
theorem dX8_mark_10 : decode cX8_mark 10 = .ok (.aload_n 0, 1) := by decide +kernel
theorem dX8_mark_11 : decode cX8_mark 11 = .ok (.iload_n 2, 1) := by decide +kernel
theorem dX8_mark_12 : decode cX8_mark 12 = .ok (.invokevirtual 55, 3) := by decide +kernel
theorem dX8_mark_15 : decode cX8_mark 15 = .ok (.ifCond .eq 106, 3) := by decide +kernel
theorem dX8_mark_18 : decode cX8_mark 18 = .ok (.aload_n 0, 1) := by decide +kernel
theorem dX8_mark_19 : decode cX8_mark 19 = .ok (.getfield 11, 3) := by decide +kernel
theorem dX8_mark_22 : decode cX8_mark 22 = .ok (.iload_n 2, 1) := by decide +kernel
theorem dX8_mark_23 : decode cX8_mark 23 = .ok (.aaload, 1) := by decide +kernel
theorem dX8_mark_24 : decode cX8_mark 24 = .ok (.astore 4, 2) := by decide +kernel
theorem dX8_mark_26 : decode cX8_mark 26 = .ok (.iconst 1, 1) := by decide +kernel
theorem dX8_mark_27 : decode cX8_mark 27 = .ok (.iload_n 2, 1) := by decide +kernel
theorem dX8_mark_28 : decode cX8_mark 28 = .ok (.ishl, 1) := by decide +kernel
theorem dX8_mark_29 : decode cX8_mark 29 = .ok (.istore 5, 2) := by decide +kernel
theorem dX8_mark_31 : decode cX8_mark 31 = .ok (.iload_n 2, 1) := by decide +kernel
theorem dX8_mark_32 : decode cX8_mark 32 = .ok (.aload_n 0, 1) := by decide +kernel
theorem dX8_mark_33 : decode cX8_mark 33 = .ok (.getfield 24, 3) := by decide +kernel
theorem dX8_mark_36 : decode cX8_mark 36 = .ok (.if_icmp .eq 32, 3) := by decide +kernel
theorem dX8_mark_39 : decode cX8_mark 39 = .ok (.aload 4, 2) := by decide +kernel
theorem dX8_mark_41 : decode cX8_mark 41 = .ok (.getfield 132, 3) := by decide +kernel
theorem dX8_mark_44 : decode cX8_mark 44 = .ok (.invokevirtual 136, 3) := by decide +kernel
theorem dX8_mark_47 : decode cX8_mark 47 = .ok (.ifCond .eq 25, 3) := by decide +kernel
theorem dX8_mark_50 : decode cX8_mark 50 = .ok (.aload 4, 2) := by decide +kernel
theorem dX8_mark_52 : decode cX8_mark 52 = .ok (.getfield 142, 3) := by decide +kernel
theorem dX8_mark_55 : decode cX8_mark 55 = .ok (.ifCond .ne 17, 3) := by decide +kernel
theorem dX8_mark_58 : decode cX8_mark 58 = .ok (.aload_n 0, 1) := by decide +kernel
theorem dX8_mark_59 : decode cX8_mark 59 = .ok (.getfield 125, 3) := by decide +kernel
theorem dX8_mark_62 : decode cX8_mark 62 = .ok (.iload 5, 2) := by decide +kernel
theorem dX8_mark_64 : decode cX8_mark 64 = .ok (.iand, 1) := by decide +kernel
theorem dX8_mark_65 : decode cX8_mark 65 = .ok (.ifCond .ne 7, 3) := by decide +kernel
theorem dX8_mark_68 : decode cX8_mark 68 = .ok (.iconst 1, 1) := by decide +kernel
theorem dX8_mark_69 : decode cX8_mark 69 = .ok (.goto 4, 3) := by decide +kernel
theorem dX8_mark_72 : decode cX8_mark 72 = .ok (.iconst 0, 1) := by decide +kernel
theorem dX8_mark_73 : decode cX8_mark 73 = .ok (.istore 6, 2) := by decide +kernel
theorem dX8_mark_75 : decode cX8_mark 75 = .ok (.aload_n 0, 1) := by decide +kernel
theorem dX8_mark_76 : decode cX8_mark 76 = .ok (.dup, 1) := by decide +kernel
theorem dX8_mark_77 : decode cX8_mark 77 = .ok (.getfield 43, 3) := by decide +kernel
theorem dX8_mark_80 : decode cX8_mark 80 = .ok (.iload 5, 2) := by decide +kernel
theorem dX8_mark_82 : decode cX8_mark 82 = .ok (.ior, 1) := by decide +kernel
theorem dX8_mark_83 : decode cX8_mark 83 = .ok (.putfield 43, 3) := by decide +kernel
theorem dX8_mark_86 : decode cX8_mark 86 = .ok (.aload 4, 2) := by decide +kernel
theorem dX8_mark_88 : decode cX8_mark 88 = .ok (.iconst 0, 1) := by decide +kernel
theorem dX8_mark_89 : decode cX8_mark 89 = .ok (.putfield 142, 3) := by decide +kernel
theorem dX8_mark_92 : decode cX8_mark 92 = .ok (.iload 6, 2) := by decide +kernel
theorem dX8_mark_94 : decode cX8_mark 94 = .ok (.ifCond .eq 15, 3) := by decide +kernel
theorem dX8_mark_97 : decode cX8_mark 97 = .ok (.aload_n 0, 1) := by decide +kernel
theorem dX8_mark_98 : decode cX8_mark 98 = .ok (.dup, 1) := by decide +kernel
theorem dX8_mark_99 : decode cX8_mark 99 = .ok (.getfield 122, 3) := by decide +kernel
theorem dX8_mark_102 : decode cX8_mark 102 = .ok (.iload 5, 2) := by decide +kernel
theorem dX8_mark_104 : decode cX8_mark 104 = .ok (.ior, 1) := by decide +kernel
theorem dX8_mark_105 : decode cX8_mark 105 = .ok (.putfield 122, 3) := by decide +kernel
theorem dX8_mark_108 : decode cX8_mark 108 = .ok (.return_, 1) := by decide +kernel
theorem dX8_mark_109 : decode cX8_mark 109 = .ok (.aload 4, 2) := by decide +kernel
theorem dX8_mark_111 : decode cX8_mark 111 = .ok (.getfield 102, 3) := by decide +kernel
theorem dX8_mark_114 : decode cX8_mark 114 = .ok (.istore_n 2, 1) := by decide +kernel
theorem dX8_mark_115 : decode cX8_mark 115 = .ok (.iinc 3 1, 3) := by decide +kernel
theorem dX8_mark_118 : decode cX8_mark 118 = .ok (.goto (-114), 3) := by decide +kernel
theorem dX8_mark_121 : decode cX8_mark 121 = .ok (.return_, 1) := by decide +kernel
theorem dX8_markAllAnew_0 : decode cX8_markAllAnew 0 = .ok (.aload_n 0, 1) := by decide +kernel
theorem dX8_markAllAnew_1 : decode cX8_markAllAnew 1 = .ok (.aload_n 0, 1) := by decide +kernel
theorem dX8_markAllAnew_2 : decode cX8_markAllAnew 2 = .ok (.getfield 40, 3) := by decide +kernel
theorem dX8_markAllAnew_5 : decode cX8_markAllAnew 5 = .ok (.putfield 43, 3) := by decide +kernel
theorem dX8_markAllAnew_8 : decode cX8_markAllAnew 8 = .ok (.aload_n 0, 1) := by decide +kernel
theorem dX8_markAllAnew_9 : decode cX8_markAllAnew 9 = .ok (.aload_n 0, 1) := by decide +kernel
theorem dX8_markAllAnew_10 : decode cX8_markAllAnew 10 = .ok (.aload_n 0, 1) := by decide +kernel
theorem dX8_markAllAnew_11 : decode cX8_markAllAnew 11 = .ok (.getfield 24, 3) := by decide +kernel
theorem dX8_markAllAnew_14 : decode cX8_markAllAnew 14 = .ok (.invokevirtual 55, 3) := by decide +kernel
theorem dX8_markAllAnew_17 : decode cX8_markAllAnew 17 = .ok (.ifCond .eq 12, 3) := by decide +kernel
theorem dX8_markAllAnew_20 : decode cX8_markAllAnew 20 = .ok (.iconst 1, 1) := by decide +kernel
theorem dX8_markAllAnew_21 : decode cX8_markAllAnew 21 = .ok (.aload_n 0, 1) := by decide +kernel
theorem dX8_markAllAnew_22 : decode cX8_markAllAnew 22 = .ok (.getfield 24, 3) := by decide +kernel
theorem dX8_markAllAnew_25 : decode cX8_markAllAnew 25 = .ok (.ishl, 1) := by decide +kernel
theorem dX8_markAllAnew_26 : decode cX8_markAllAnew 26 = .ok (.goto 4, 3) := by decide +kernel
theorem dX8_markAllAnew_29 : decode cX8_markAllAnew 29 = .ok (.iconst 0, 1) := by decide +kernel
theorem dX8_markAllAnew_30 : decode cX8_markAllAnew 30 = .ok (.putfield 122, 3) := by decide +kernel
theorem dX8_markAllAnew_33 : decode cX8_markAllAnew 33 = .ok (.iconst 0, 1) := by decide +kernel
theorem dX8_markAllAnew_34 : decode cX8_markAllAnew 34 = .ok (.istore_n 1, 1) := by decide +kernel
theorem dX8_markAllAnew_35 : decode cX8_markAllAnew 35 = .ok (.iload_n 1, 1) := by decide +kernel
theorem dX8_markAllAnew_36 : decode cX8_markAllAnew 36 = .ok (.aload_n 0, 1) := by decide +kernel
theorem dX8_markAllAnew_37 : decode cX8_markAllAnew 37 = .ok (.getfield 70, 3) := by decide +kernel
theorem dX8_markAllAnew_40 : decode cX8_markAllAnew 40 = .ok (.if_icmp .ge 19, 3) := by decide +kernel
theorem dX8_markAllAnew_43 : decode cX8_markAllAnew 43 = .ok (.aload_n 0, 1) := by decide +kernel
theorem dX8_markAllAnew_44 : decode cX8_markAllAnew 44 = .ok (.getfield 11, 3) := by decide +kernel
theorem dX8_markAllAnew_47 : decode cX8_markAllAnew 47 = .ok (.iload_n 1, 1) := by decide +kernel
theorem dX8_markAllAnew_48 : decode cX8_markAllAnew 48 = .ok (.aaload, 1) := by decide +kernel
theorem dX8_markAllAnew_49 : decode cX8_markAllAnew 49 = .ok (.iconst 0, 1) := by decide +kernel
theorem dX8_markAllAnew_50 : decode cX8_markAllAnew 50 = .ok (.putfield 142, 3) := by decide +kernel
theorem dX8_markAllAnew_53 : decode cX8_markAllAnew 53 = .ok (.iinc 1 1, 3) := by decide +kernel
theorem dX8_markAllAnew_56 : decode cX8_markAllAnew 56 = .ok (.goto (-21), 3) := by decide +kernel
theorem dX8_markAllAnew_59 : decode cX8_markAllAnew 59 = .ok (.return_, 1) := by decide +kernel
theorem dX8_addPlanRow_0 : decode cX8_addPlanRow 0 = .ok (.aload_n 0, 1) := by decide +kernel
theorem dX8_addPlanRow_1 : decode cX8_addPlanRow 1 = .ok (.getfield 145, 3) := by decide +kernel
theorem dX8_addPlanRow_4 : decode cX8_addPlanRow 4 = .ok (.bipush 8, 2) := by decide +kernel
theorem dX8_addPlanRow_6 : decode cX8_addPlanRow 6 = .ok (.if_icmp .ge 33, 3) := by decide +kernel
theorem dX8_addPlanRow_9 : decode cX8_addPlanRow 9 = .ok (.aload_n 0, 1) := by decide +kernel
theorem dX8_addPlanRow_10 : decode cX8_addPlanRow 10 = .ok (.getfield 17, 3) := by decide +kernel
theorem dX8_addPlanRow_13 : decode cX8_addPlanRow 13 = .ok (.aload_n 0, 1) := by decide +kernel
theorem dX8_addPlanRow_14 : decode cX8_addPlanRow 14 = .ok (.getfield 145, 3) := by decide +kernel
theorem dX8_addPlanRow_17 : decode cX8_addPlanRow 17 = .ok (.iload_n 1, 1) := by decide +kernel
theorem dX8_addPlanRow_18 : decode cX8_addPlanRow 18 = .ok (.iastore, 1) := by decide +kernel
theorem dX8_addPlanRow_19 : decode cX8_addPlanRow 19 = .ok (.aload_n 0, 1) := by decide +kernel
theorem dX8_addPlanRow_20 : decode cX8_addPlanRow 20 = .ok (.getfield 21, 3) := by decide +kernel
theorem dX8_addPlanRow_23 : decode cX8_addPlanRow 23 = .ok (.aload_n 0, 1) := by decide +kernel
theorem dX8_addPlanRow_24 : decode cX8_addPlanRow 24 = .ok (.getfield 145, 3) := by decide +kernel
theorem dX8_addPlanRow_27 : decode cX8_addPlanRow 27 = .ok (.iload_n 2, 1) := by decide +kernel
theorem dX8_addPlanRow_28 : decode cX8_addPlanRow 28 = .ok (.iastore, 1) := by decide +kernel
theorem dX8_addPlanRow_29 : decode cX8_addPlanRow 29 = .ok (.aload_n 0, 1) := by decide +kernel
theorem dX8_addPlanRow_30 : decode cX8_addPlanRow 30 = .ok (.dup, 1) := by decide +kernel
theorem dX8_addPlanRow_31 : decode cX8_addPlanRow 31 = .ok (.getfield 145, 3) := by decide +kernel
theorem dX8_addPlanRow_34 : decode cX8_addPlanRow 34 = .ok (.iconst 1, 1) := by decide +kernel
theorem dX8_addPlanRow_35 : decode cX8_addPlanRow 35 = .ok (.iadd, 1) := by decide +kernel
theorem dX8_addPlanRow_36 : decode cX8_addPlanRow 36 = .ok (.putfield 145, 3) := by decide +kernel
theorem dX8_addPlanRow_39 : decode cX8_addPlanRow 39 = .ok (.aload_n 0, 1) := by decide +kernel
theorem dX8_addPlanRow_40 : decode cX8_addPlanRow 40 = .ok (.getfield 145, 3) := by decide +kernel
theorem dX8_addPlanRow_43 : decode cX8_addPlanRow 43 = .ok (.ireturn, 1) := by decide +kernel
theorem dX8_draw_0 : decode cX8_draw 0 = .ok (.aload_n 0, 1) := by decide +kernel
theorem dX8_draw_1 : decode cX8_draw 1 = .ok (.aload_n 0, 1) := by decide +kernel
theorem dX8_draw_2 : decode cX8_draw 2 = .ok (.getfield 34, 3) := by decide +kernel
theorem dX8_draw_5 : decode cX8_draw 5 = .ok (.ldc 148, 2) := by decide +kernel
theorem dX8_draw_7 : decode cX8_draw 7 = .ok (.imul, 1) := by decide +kernel
theorem dX8_draw_8 : decode cX8_draw 8 = .ok (.sipush 12345, 3) := by decide +kernel
theorem dX8_draw_11 : decode cX8_draw 11 = .ok (.iadd, 1) := by decide +kernel
theorem dX8_draw_12 : decode cX8_draw 12 = .ok (.putfield 34, 3) := by decide +kernel
theorem dX8_draw_15 : decode cX8_draw 15 = .ok (.iload_n 1, 1) := by decide +kernel
theorem dX8_draw_16 : decode cX8_draw 16 = .ok (.ifCond .ne 7, 3) := by decide +kernel
theorem dX8_draw_19 : decode cX8_draw 19 = .ok (.iconst 0, 1) := by decide +kernel
theorem dX8_draw_20 : decode cX8_draw 20 = .ok (.goto 12, 3) := by decide +kernel
theorem dX8_draw_23 : decode cX8_draw 23 = .ok (.aload_n 0, 1) := by decide +kernel
theorem dX8_draw_24 : decode cX8_draw 24 = .ok (.getfield 34, 3) := by decide +kernel
theorem dX8_draw_27 : decode cX8_draw 27 = .ok (.bipush 16, 2) := by decide +kernel
theorem dX8_draw_29 : decode cX8_draw 29 = .ok (.iushr, 1) := by decide +kernel
theorem dX8_draw_30 : decode cX8_draw 30 = .ok (.iload_n 1, 1) := by decide +kernel
theorem dX8_draw_31 : decode cX8_draw 31 = .ok (.irem, 1) := by decide +kernel
theorem dX8_draw_32 : decode cX8_draw 32 = .ok (.ireturn, 1) := by decide +kernel
theorem dX8_overBits_0 : decode cX8_overBits 0 = .ok (.iconst 0, 1) := by decide +kernel
theorem dX8_overBits_1 : decode cX8_overBits 1 = .ok (.istore_n 1, 1) := by decide +kernel
theorem dX8_overBits_2 : decode cX8_overBits 2 = .ok (.iconst 0, 1) := by decide +kernel
theorem dX8_overBits_3 : decode cX8_overBits 3 = .ok (.istore_n 2, 1) := by decide +kernel
theorem dX8_overBits_4 : decode cX8_overBits 4 = .ok (.iload_n 2, 1) := by decide +kernel
theorem dX8_overBits_5 : decode cX8_overBits 5 = .ok (.aload_n 0, 1) := by decide +kernel
theorem dX8_overBits_6 : decode cX8_overBits 6 = .ok (.getfield 70, 3) := by decide +kernel
theorem dX8_overBits_9 : decode cX8_overBits 9 = .ok (.if_icmp .ge 38, 3) := by decide +kernel
theorem dX8_overBits_12 : decode cX8_overBits 12 = .ok (.aload_n 0, 1) := by decide +kernel
theorem dX8_overBits_13 : decode cX8_overBits 13 = .ok (.iload_n 2, 1) := by decide +kernel
theorem dX8_overBits_14 : decode cX8_overBits 14 = .ok (.invokevirtual 55, 3) := by decide +kernel
theorem dX8_overBits_17 : decode cX8_overBits 17 = .ok (.ifCond .eq 24, 3) := by decide +kernel
theorem dX8_overBits_20 : decode cX8_overBits 20 = .ok (.aload_n 0, 1) := by decide +kernel
theorem dX8_overBits_21 : decode cX8_overBits 21 = .ok (.getfield 11, 3) := by decide +kernel
theorem dX8_overBits_24 : decode cX8_overBits 24 = .ok (.iload_n 2, 1) := by decide +kernel
theorem dX8_overBits_25 : decode cX8_overBits 25 = .ok (.aaload, 1) := by decide +kernel
theorem dX8_overBits_26 : decode cX8_overBits 26 = .ok (.getfield 132, 3) := by decide +kernel
theorem dX8_overBits_29 : decode cX8_overBits 29 = .ok (.getfield 149, 3) := by decide +kernel
theorem dX8_overBits_32 : decode cX8_overBits 32 = .ok (.ifCond .le 9, 3) := by decide +kernel
theorem dX8_overBits_35 : decode cX8_overBits 35 = .ok (.iload_n 1, 1) := by decide +kernel
theorem dX8_overBits_36 : decode cX8_overBits 36 = .ok (.iconst 1, 1) := by decide +kernel
theorem dX8_overBits_37 : decode cX8_overBits 37 = .ok (.iload_n 2, 1) := by decide +kernel
theorem dX8_overBits_38 : decode cX8_overBits 38 = .ok (.ishl, 1) := by decide +kernel
theorem dX8_overBits_39 : decode cX8_overBits 39 = .ok (.ior, 1) := by decide +kernel
theorem dX8_overBits_40 : decode cX8_overBits 40 = .ok (.istore_n 1, 1) := by decide +kernel
theorem dX8_overBits_41 : decode cX8_overBits 41 = .ok (.iinc 2 1, 3) := by decide +kernel
theorem dX8_overBits_44 : decode cX8_overBits 44 = .ok (.goto (-40), 3) := by decide +kernel
theorem dX8_overBits_47 : decode cX8_overBits 47 = .ok (.iload_n 1, 1) := by decide +kernel
theorem dX8_overBits_48 : decode cX8_overBits 48 = .ok (.ireturn, 1) := by decide +kernel
theorem dX8_overTogether_0 : decode cX8_overTogether 0 = .ok (.iconst 0, 1) := by decide +kernel
theorem dX8_overTogether_1 : decode cX8_overTogether 1 = .ok (.istore_n 1, 1) := by decide +kernel
theorem dX8_overTogether_2 : decode cX8_overTogether 2 = .ok (.iconst 0, 1) := by decide +kernel
theorem dX8_overTogether_3 : decode cX8_overTogether 3 = .ok (.istore_n 2, 1) := by decide +kernel
theorem dX8_overTogether_4 : decode cX8_overTogether 4 = .ok (.iload_n 2, 1) := by decide +kernel
theorem dX8_overTogether_5 : decode cX8_overTogether 5 = .ok (.aload_n 0, 1) := by decide +kernel
theorem dX8_overTogether_6 : decode cX8_overTogether 6 = .ok (.getfield 70, 3) := by decide +kernel
theorem dX8_overTogether_9 : decode cX8_overTogether 9 = .ok (.if_icmp .ge 32, 3) := by decide +kernel
theorem dX8_overTogether_12 : decode cX8_overTogether 12 = .ok (.aload_n 0, 1) := by decide +kernel
theorem dX8_overTogether_13 : decode cX8_overTogether 13 = .ok (.iload_n 2, 1) := by decide +kernel
theorem dX8_overTogether_14 : decode cX8_overTogether 14 = .ok (.invokevirtual 55, 3) := by decide +kernel
theorem dX8_overTogether_17 : decode cX8_overTogether 17 = .ok (.ifCond .eq 18, 3) := by decide +kernel
theorem dX8_overTogether_20 : decode cX8_overTogether 20 = .ok (.iload_n 1, 1) := by decide +kernel
theorem dX8_overTogether_21 : decode cX8_overTogether 21 = .ok (.aload_n 0, 1) := by decide +kernel
theorem dX8_overTogether_22 : decode cX8_overTogether 22 = .ok (.getfield 11, 3) := by decide +kernel
theorem dX8_overTogether_25 : decode cX8_overTogether 25 = .ok (.iload_n 2, 1) := by decide +kernel
theorem dX8_overTogether_26 : decode cX8_overTogether 26 = .ok (.aaload, 1) := by decide +kernel
theorem dX8_overTogether_27 : decode cX8_overTogether 27 = .ok (.getfield 132, 3) := by decide +kernel
theorem dX8_overTogether_30 : decode cX8_overTogether 30 = .ok (.getfield 149, 3) := by decide +kernel
theorem dX8_overTogether_33 : decode cX8_overTogether 33 = .ok (.iadd, 1) := by decide +kernel
theorem dX8_overTogether_34 : decode cX8_overTogether 34 = .ok (.istore_n 1, 1) := by decide +kernel
theorem dX8_overTogether_35 : decode cX8_overTogether 35 = .ok (.iinc 2 1, 3) := by decide +kernel
theorem dX8_overTogether_38 : decode cX8_overTogether 38 = .ok (.goto (-34), 3) := by decide +kernel
theorem dX8_overTogether_41 : decode cX8_overTogether 41 = .ok (.iload_n 1, 1) := by decide +kernel
theorem dX8_overTogether_42 : decode cX8_overTogether 42 = .ok (.ireturn, 1) := by decide +kernel
theorem dX8_leftInTop_0 : decode cX8_leftInTop 0 = .ok (.iconst 0, 1) := by decide +kernel
theorem dX8_leftInTop_1 : decode cX8_leftInTop 1 = .ok (.istore_n 2, 1) := by decide +kernel
theorem dX8_leftInTop_2 : decode cX8_leftInTop 2 = .ok (.iload_n 1, 1) := by decide +kernel
theorem dX8_leftInTop_3 : decode cX8_leftInTop 3 = .ok (.istore_n 3, 1) := by decide +kernel
theorem dX8_leftInTop_4 : decode cX8_leftInTop 4 = .ok (.iconst 0, 1) := by decide +kernel
theorem dX8_leftInTop_5 : decode cX8_leftInTop 5 = .ok (.istore 4, 2) := by decide +kernel
theorem dX8_leftInTop_7 : decode cX8_leftInTop 7 = .ok (.iload 4, 2) := by decide +kernel
theorem dX8_leftInTop_9 : decode cX8_leftInTop 9 = .ok (.bipush 24, 2) := by decide +kernel
theorem dX8_leftInTop_11 : decode cX8_leftInTop 11 = .ok (.if_icmp .ge 42, 3) := by decide +kernel
theorem dX8_leftInTop_14 : decode cX8_leftInTop 14 = .ok (.aload_n 0, 1) := by decide +kernel
theorem dX8_leftInTop_15 : decode cX8_leftInTop 15 = .ok (.iload_n 3, 1) := by decide +kernel
theorem dX8_leftInTop_16 : decode cX8_leftInTop 16 = .ok (.invokevirtual 55, 3) := by decide +kernel
theorem dX8_leftInTop_19 : decode cX8_leftInTop 19 = .ok (.ifCond .eq 34, 3) := by decide +kernel
theorem dX8_leftInTop_22 : decode cX8_leftInTop 22 = .ok (.iload_n 2, 1) := by decide +kernel
theorem dX8_leftInTop_23 : decode cX8_leftInTop 23 = .ok (.aload_n 0, 1) := by decide +kernel
theorem dX8_leftInTop_24 : decode cX8_leftInTop 24 = .ok (.getfield 11, 3) := by decide +kernel
theorem dX8_leftInTop_27 : decode cX8_leftInTop 27 = .ok (.iload_n 3, 1) := by decide +kernel
theorem dX8_leftInTop_28 : decode cX8_leftInTop 28 = .ok (.aaload, 1) := by decide +kernel
theorem dX8_leftInTop_29 : decode cX8_leftInTop 29 = .ok (.getfield 132, 3) := by decide +kernel
theorem dX8_leftInTop_32 : decode cX8_leftInTop 32 = .ok (.getfield 152, 3) := by decide +kernel
theorem dX8_leftInTop_35 : decode cX8_leftInTop 35 = .ok (.iadd, 1) := by decide +kernel
theorem dX8_leftInTop_36 : decode cX8_leftInTop 36 = .ok (.istore_n 2, 1) := by decide +kernel
theorem dX8_leftInTop_37 : decode cX8_leftInTop 37 = .ok (.aload_n 0, 1) := by decide +kernel
theorem dX8_leftInTop_38 : decode cX8_leftInTop 38 = .ok (.getfield 11, 3) := by decide +kernel
theorem dX8_leftInTop_41 : decode cX8_leftInTop 41 = .ok (.iload_n 3, 1) := by decide +kernel
theorem dX8_leftInTop_42 : decode cX8_leftInTop 42 = .ok (.aaload, 1) := by decide +kernel
theorem dX8_leftInTop_43 : decode cX8_leftInTop 43 = .ok (.getfield 102, 3) := by decide +kernel
theorem dX8_leftInTop_46 : decode cX8_leftInTop 46 = .ok (.istore_n 3, 1) := by decide +kernel
theorem dX8_leftInTop_47 : decode cX8_leftInTop 47 = .ok (.iinc 4 1, 3) := by decide +kernel
theorem dX8_leftInTop_50 : decode cX8_leftInTop 50 = .ok (.goto (-43), 3) := by decide +kernel
theorem dX8_leftInTop_53 : decode cX8_leftInTop 53 = .ok (.iload_n 2, 1) := by decide +kernel
theorem dX8_leftInTop_54 : decode cX8_leftInTop 54 = .ok (.ireturn, 1) := by decide +kernel
theorem dX8_upperInTop_0 : decode cX8_upperInTop 0 = .ok (.iconst 0, 1) := by decide +kernel
theorem dX8_upperInTop_1 : decode cX8_upperInTop 1 = .ok (.istore_n 2, 1) := by decide +kernel
theorem dX8_upperInTop_2 : decode cX8_upperInTop 2 = .ok (.iload_n 1, 1) := by decide +kernel
theorem dX8_upperInTop_3 : decode cX8_upperInTop 3 = .ok (.istore_n 3, 1) := by decide +kernel
theorem dX8_upperInTop_4 : decode cX8_upperInTop 4 = .ok (.iconst 0, 1) := by decide +kernel
theorem dX8_upperInTop_5 : decode cX8_upperInTop 5 = .ok (.istore 4, 2) := by decide +kernel
theorem dX8_upperInTop_7 : decode cX8_upperInTop 7 = .ok (.iload 4, 2) := by decide +kernel
theorem dX8_upperInTop_9 : decode cX8_upperInTop 9 = .ok (.bipush 24, 2) := by decide +kernel
theorem dX8_upperInTop_11 : decode cX8_upperInTop 11 = .ok (.if_icmp .ge 42, 3) := by decide +kernel
theorem dX8_upperInTop_14 : decode cX8_upperInTop 14 = .ok (.aload_n 0, 1) := by decide +kernel
theorem dX8_upperInTop_15 : decode cX8_upperInTop 15 = .ok (.iload_n 3, 1) := by decide +kernel
theorem dX8_upperInTop_16 : decode cX8_upperInTop 16 = .ok (.invokevirtual 55, 3) := by decide +kernel
theorem dX8_upperInTop_19 : decode cX8_upperInTop 19 = .ok (.ifCond .eq 34, 3) := by decide +kernel
theorem dX8_upperInTop_22 : decode cX8_upperInTop 22 = .ok (.iload_n 2, 1) := by decide +kernel
theorem dX8_upperInTop_23 : decode cX8_upperInTop 23 = .ok (.aload_n 0, 1) := by decide +kernel
theorem dX8_upperInTop_24 : decode cX8_upperInTop 24 = .ok (.getfield 11, 3) := by decide +kernel
theorem dX8_upperInTop_27 : decode cX8_upperInTop 27 = .ok (.iload_n 3, 1) := by decide +kernel
theorem dX8_upperInTop_28 : decode cX8_upperInTop 28 = .ok (.aaload, 1) := by decide +kernel
theorem dX8_upperInTop_29 : decode cX8_upperInTop 29 = .ok (.getfield 132, 3) := by decide +kernel
theorem dX8_upperInTop_32 : decode cX8_upperInTop 32 = .ok (.getfield 155, 3) := by decide +kernel
theorem dX8_upperInTop_35 : decode cX8_upperInTop 35 = .ok (.iadd, 1) := by decide +kernel
theorem dX8_upperInTop_36 : decode cX8_upperInTop 36 = .ok (.istore_n 2, 1) := by decide +kernel
theorem dX8_upperInTop_37 : decode cX8_upperInTop 37 = .ok (.aload_n 0, 1) := by decide +kernel
theorem dX8_upperInTop_38 : decode cX8_upperInTop 38 = .ok (.getfield 11, 3) := by decide +kernel
theorem dX8_upperInTop_41 : decode cX8_upperInTop 41 = .ok (.iload_n 3, 1) := by decide +kernel
theorem dX8_upperInTop_42 : decode cX8_upperInTop 42 = .ok (.aaload, 1) := by decide +kernel
theorem dX8_upperInTop_43 : decode cX8_upperInTop 43 = .ok (.getfield 102, 3) := by decide +kernel
theorem dX8_upperInTop_46 : decode cX8_upperInTop 46 = .ok (.istore_n 3, 1) := by decide +kernel
theorem dX8_upperInTop_47 : decode cX8_upperInTop 47 = .ok (.iinc 4 1, 3) := by decide +kernel
theorem dX8_upperInTop_50 : decode cX8_upperInTop 50 = .ok (.goto (-43), 3) := by decide +kernel
theorem dX8_upperInTop_53 : decode cX8_upperInTop 53 = .ok (.iload_n 2, 1) := by decide +kernel
theorem dX8_upperInTop_54 : decode cX8_upperInTop 54 = .ok (.ireturn, 1) := by decide +kernel
theorem dX8_whoIsAtPoint_0 : decode cX8_whoIsAtPoint 0 = .ok (.aload_n 0, 1) := by decide +kernel
theorem dX8_whoIsAtPoint_1 : decode cX8_whoIsAtPoint 1 = .ok (.aload_n 0, 1) := by decide +kernel
theorem dX8_whoIsAtPoint_2 : decode cX8_whoIsAtPoint 2 = .ok (.getfield 24, 3) := by decide +kernel
theorem dX8_whoIsAtPoint_5 : decode cX8_whoIsAtPoint 5 = .ok (.invokevirtual 55, 3) := by decide +kernel
theorem dX8_whoIsAtPoint_8 : decode cX8_whoIsAtPoint 8 = .ok (.ifCond .eq 24, 3) := by decide +kernel
theorem dX8_whoIsAtPoint_11 : decode cX8_whoIsAtPoint 11 = .ok (.aload_n 0, 1) := by decide +kernel
theorem dX8_whoIsAtPoint_12 : decode cX8_whoIsAtPoint 12 = .ok (.aload_n 0, 1) := by decide +kernel
theorem dX8_whoIsAtPoint_13 : decode cX8_whoIsAtPoint 13 = .ok (.getfield 11, 3) := by decide +kernel
theorem dX8_whoIsAtPoint_16 : decode cX8_whoIsAtPoint 16 = .ok (.aload_n 0, 1) := by decide +kernel
theorem dX8_whoIsAtPoint_17 : decode cX8_whoIsAtPoint 17 = .ok (.getfield 24, 3) := by decide +kernel
theorem dX8_whoIsAtPoint_20 : decode cX8_whoIsAtPoint 20 = .ok (.aaload, 1) := by decide +kernel
theorem dX8_whoIsAtPoint_21 : decode cX8_whoIsAtPoint 21 = .ok (.iload_n 1, 1) := by decide +kernel
theorem dX8_whoIsAtPoint_22 : decode cX8_whoIsAtPoint 22 = .ok (.iload_n 2, 1) := by decide +kernel
theorem dX8_whoIsAtPoint_23 : decode cX8_whoIsAtPoint 23 = .ok (.iconst 0, 1) := by decide +kernel
theorem dX8_whoIsAtPoint_24 : decode cX8_whoIsAtPoint 24 = .ok (.iconst 0, 1) := by decide +kernel
theorem dX8_whoIsAtPoint_25 : decode cX8_whoIsAtPoint 25 = .ok (.iconst 0, 1) := by decide +kernel
theorem dX8_whoIsAtPoint_26 : decode cX8_whoIsAtPoint 26 = .ok (.invokevirtual 158, 3) := by decide +kernel
theorem dX8_whoIsAtPoint_29 : decode cX8_whoIsAtPoint 29 = .ok (.goto 5, 3) := by decide +kernel
theorem dX8_whoIsAtPoint_32 : decode cX8_whoIsAtPoint 32 = .ok (.bipush (-5), 2) := by decide +kernel
theorem dX8_whoIsAtPoint_34 : decode cX8_whoIsAtPoint 34 = .ok (.ireturn, 1) := by decide +kernel
theorem dX8_whoIsAt_0 : decode cX8_whoIsAt 0 = .ok (.iload 4, 2) := by decide +kernel
theorem dX8_whoIsAt_2 : decode cX8_whoIsAt 2 = .ok (.aload_n 1, 1) := by decide +kernel
theorem dX8_whoIsAt_3 : decode cX8_whoIsAt 3 = .ok (.getfield 132, 3) := by decide +kernel
theorem dX8_whoIsAt_6 : decode cX8_whoIsAt 6 = .ok (.getfield 152, 3) := by decide +kernel
theorem dX8_whoIsAt_9 : decode cX8_whoIsAt 9 = .ok (.iadd, 1) := by decide +kernel
theorem dX8_whoIsAt_10 : decode cX8_whoIsAt 10 = .ok (.istore 7, 2) := by decide +kernel
theorem dX8_whoIsAt_12 : decode cX8_whoIsAt 12 = .ok (.iload 5, 2) := by decide +kernel
theorem dX8_whoIsAt_14 : decode cX8_whoIsAt 14 = .ok (.aload_n 1, 1) := by decide +kernel
theorem dX8_whoIsAt_15 : decode cX8_whoIsAt 15 = .ok (.getfield 132, 3) := by decide +kernel
theorem dX8_whoIsAt_18 : decode cX8_whoIsAt 18 = .ok (.getfield 155, 3) := by decide +kernel
theorem dX8_whoIsAt_21 : decode cX8_whoIsAt 21 = .ok (.iadd, 1) := by decide +kernel
theorem dX8_whoIsAt_22 : decode cX8_whoIsAt 22 = .ok (.istore 8, 2) := by decide +kernel
theorem dX8_whoIsAt_24 : decode cX8_whoIsAt 24 = .ok (.iload 6, 2) := by decide +kernel
theorem dX8_whoIsAt_26 : decode cX8_whoIsAt 26 = .ok (.bipush 24, 2) := by decide +kernel
theorem dX8_whoIsAt_28 : decode cX8_whoIsAt 28 = .ok (.if_icmp .ge 43, 3) := by decide +kernel
theorem dX8_whoIsAt_31 : decode cX8_whoIsAt 31 = .ok (.iload_n 2, 1) := by decide +kernel
theorem dX8_whoIsAt_32 : decode cX8_whoIsAt 32 = .ok (.iload 7, 2) := by decide +kernel
theorem dX8_whoIsAt_34 : decode cX8_whoIsAt 34 = .ok (.if_icmp .lt 37, 3) := by decide +kernel
theorem dX8_whoIsAt_37 : decode cX8_whoIsAt 37 = .ok (.iload_n 2, 1) := by decide +kernel
theorem dX8_whoIsAt_38 : decode cX8_whoIsAt 38 = .ok (.iload 7, 2) := by decide +kernel
theorem dX8_whoIsAt_40 : decode cX8_whoIsAt 40 = .ok (.aload_n 1, 1) := by decide +kernel
theorem dX8_whoIsAt_41 : decode cX8_whoIsAt 41 = .ok (.getfield 132, 3) := by decide +kernel
theorem dX8_whoIsAt_44 : decode cX8_whoIsAt 44 = .ok (.getfield 162, 3) := by decide +kernel
theorem dX8_whoIsAt_47 : decode cX8_whoIsAt 47 = .ok (.iadd, 1) := by decide +kernel
theorem dX8_whoIsAt_48 : decode cX8_whoIsAt 48 = .ok (.if_icmp .ge 23, 3) := by decide +kernel
theorem dX8_whoIsAt_51 : decode cX8_whoIsAt 51 = .ok (.iload_n 3, 1) := by decide +kernel
theorem dX8_whoIsAt_52 : decode cX8_whoIsAt 52 = .ok (.iload 8, 2) := by decide +kernel
theorem dX8_whoIsAt_54 : decode cX8_whoIsAt 54 = .ok (.if_icmp .lt 17, 3) := by decide +kernel
theorem dX8_whoIsAt_57 : decode cX8_whoIsAt 57 = .ok (.iload_n 3, 1) := by decide +kernel
theorem dX8_whoIsAt_58 : decode cX8_whoIsAt 58 = .ok (.iload 8, 2) := by decide +kernel
theorem dX8_whoIsAt_60 : decode cX8_whoIsAt 60 = .ok (.aload_n 1, 1) := by decide +kernel
theorem dX8_whoIsAt_61 : decode cX8_whoIsAt 61 = .ok (.getfield 132, 3) := by decide +kernel
theorem dX8_whoIsAt_64 : decode cX8_whoIsAt 64 = .ok (.getfield 165, 3) := by decide +kernel
theorem dX8_whoIsAt_67 : decode cX8_whoIsAt 67 = .ok (.iadd, 1) := by decide +kernel
theorem dX8_whoIsAt_68 : decode cX8_whoIsAt 68 = .ok (.if_icmp .lt 6, 3) := by decide +kernel
theorem dX8_whoIsAt_71 : decode cX8_whoIsAt 71 = .ok (.bipush (-5), 2) := by decide +kernel
theorem dX8_whoIsAt_73 : decode cX8_whoIsAt 73 = .ok (.ireturn, 1) := by decide +kernel
theorem dX8_whoIsAt_74 : decode cX8_whoIsAt 74 = .ok (.aload_n 1, 1) := by decide +kernel
theorem dX8_whoIsAt_75 : decode cX8_whoIsAt 75 = .ok (.getfield 59, 3) := by decide +kernel
theorem dX8_whoIsAt_78 : decode cX8_whoIsAt 78 = .ok (.iconst 1, 1) := by decide +kernel
theorem dX8_whoIsAt_79 : decode cX8_whoIsAt 79 = .ok (.isub, 1) := by decide +kernel
theorem dX8_whoIsAt_80 : decode cX8_whoIsAt 80 = .ok (.istore 9, 2) := by decide +kernel
theorem dX8_whoIsAt_82 : decode cX8_whoIsAt 82 = .ok (.iload 9, 2) := by decide +kernel
theorem dX8_whoIsAt_84 : decode cX8_whoIsAt 84 = .ok (.ifCond .lt 42, 3) := by decide +kernel
theorem dX8_whoIsAt_87 : decode cX8_whoIsAt 87 = .ok (.aload_n 0, 1) := by decide +kernel
theorem dX8_whoIsAt_88 : decode cX8_whoIsAt 88 = .ok (.aload_n 0, 1) := by decide +kernel
theorem dX8_whoIsAt_89 : decode cX8_whoIsAt 89 = .ok (.aload_n 1, 1) := by decide +kernel
theorem dX8_whoIsAt_90 : decode cX8_whoIsAt 90 = .ok (.iload 9, 2) := by decide +kernel
theorem dX8_whoIsAt_92 : decode cX8_whoIsAt 92 = .ok (.invokevirtual 128, 3) := by decide +kernel
theorem dX8_whoIsAt_95 : decode cX8_whoIsAt 95 = .ok (.iload_n 2, 1) := by decide +kernel
theorem dX8_whoIsAt_96 : decode cX8_whoIsAt 96 = .ok (.iload_n 3, 1) := by decide +kernel
theorem dX8_whoIsAt_97 : decode cX8_whoIsAt 97 = .ok (.iload 7, 2) := by decide +kernel
theorem dX8_whoIsAt_99 : decode cX8_whoIsAt 99 = .ok (.iload 8, 2) := by decide +kernel
theorem dX8_whoIsAt_101 : decode cX8_whoIsAt 101 = .ok (.iload 6, 2) := by decide +kernel
theorem dX8_whoIsAt_103 : decode cX8_whoIsAt 103 = .ok (.iconst 1, 1) := by decide +kernel
theorem dX8_whoIsAt_104 : decode cX8_whoIsAt 104 = .ok (.iadd, 1) := by decide +kernel
theorem dX8_whoIsAt_105 : decode cX8_whoIsAt 105 = .ok (.invokevirtual 158, 3) := by decide +kernel
theorem dX8_whoIsAt_108 : decode cX8_whoIsAt 108 = .ok (.istore 10, 2) := by decide +kernel
theorem dX8_whoIsAt_110 : decode cX8_whoIsAt 110 = .ok (.iload 10, 2) := by decide +kernel
theorem dX8_whoIsAt_112 : decode cX8_whoIsAt 112 = .ok (.bipush (-5), 2) := by decide +kernel
theorem dX8_whoIsAt_114 : decode cX8_whoIsAt 114 = .ok (.if_icmp .eq 6, 3) := by decide +kernel
theorem dX8_whoIsAt_117 : decode cX8_whoIsAt 117 = .ok (.iload 10, 2) := by decide +kernel
theorem dX8_whoIsAt_119 : decode cX8_whoIsAt 119 = .ok (.ireturn, 1) := by decide +kernel
theorem dX8_whoIsAt_120 : decode cX8_whoIsAt 120 = .ok (.iinc 9 (-1), 3) := by decide +kernel
theorem dX8_whoIsAt_123 : decode cX8_whoIsAt 123 = .ok (.goto (-41), 3) := by decide +kernel
theorem dX8_whoIsAt_126 : decode cX8_whoIsAt 126 = .ok (.aload_n 1, 1) := by decide +kernel
theorem dX8_whoIsAt_127 : decode cX8_whoIsAt 127 = .ok (.getfield 119, 3) := by decide +kernel
theorem dX8_whoIsAt_130 : decode cX8_whoIsAt 130 = .ok (.ireturn, 1) := by decide +kernel
theorem dX8_isLaidLike_0 : decode cX8_isLaidLike 0 = .ok (.iconst 0, 1) := by decide +kernel
theorem dX8_isLaidLike_1 : decode cX8_isLaidLike 1 = .ok (.istore_n 2, 1) := by decide +kernel
theorem dX8_isLaidLike_2 : decode cX8_isLaidLike 2 = .ok (.iload_n 2, 1) := by decide +kernel
theorem dX8_isLaidLike_3 : decode cX8_isLaidLike 3 = .ok (.aload_n 0, 1) := by decide +kernel
theorem dX8_isLaidLike_4 : decode cX8_isLaidLike 4 = .ok (.getfield 70, 3) := by decide +kernel
theorem dX8_isLaidLike_7 : decode cX8_isLaidLike 7 = .ok (.if_icmp .ge 43, 3) := by decide +kernel
theorem dX8_isLaidLike_10 : decode cX8_isLaidLike 10 = .ok (.aload_n 0, 1) := by decide +kernel
theorem dX8_isLaidLike_11 : decode cX8_isLaidLike 11 = .ok (.iload_n 2, 1) := by decide +kernel
theorem dX8_isLaidLike_12 : decode cX8_isLaidLike 12 = .ok (.invokevirtual 55, 3) := by decide +kernel
theorem dX8_isLaidLike_15 : decode cX8_isLaidLike 15 = .ok (.ifCond .eq 29, 3) := by decide +kernel
theorem dX8_isLaidLike_18 : decode cX8_isLaidLike 18 = .ok (.aload_n 0, 1) := by decide +kernel
theorem dX8_isLaidLike_19 : decode cX8_isLaidLike 19 = .ok (.getfield 11, 3) := by decide +kernel
theorem dX8_isLaidLike_22 : decode cX8_isLaidLike 22 = .ok (.iload_n 2, 1) := by decide +kernel
theorem dX8_isLaidLike_23 : decode cX8_isLaidLike 23 = .ok (.aaload, 1) := by decide +kernel
theorem dX8_isLaidLike_24 : decode cX8_isLaidLike 24 = .ok (.getfield 132, 3) := by decide +kernel
theorem dX8_isLaidLike_27 : decode cX8_isLaidLike 27 = .ok (.aload_n 1, 1) := by decide +kernel
theorem dX8_isLaidLike_28 : decode cX8_isLaidLike 28 = .ok (.getfield 11, 3) := by decide +kernel
theorem dX8_isLaidLike_31 : decode cX8_isLaidLike 31 = .ok (.iload_n 2, 1) := by decide +kernel
theorem dX8_isLaidLike_32 : decode cX8_isLaidLike 32 = .ok (.aaload, 1) := by decide +kernel
theorem dX8_isLaidLike_33 : decode cX8_isLaidLike 33 = .ok (.getfield 132, 3) := by decide +kernel
theorem dX8_isLaidLike_36 : decode cX8_isLaidLike 36 = .ok (.invokevirtual 168, 3) := by decide +kernel
theorem dX8_isLaidLike_39 : decode cX8_isLaidLike 39 = .ok (.ifCond .ne 5, 3) := by decide +kernel
theorem dX8_isLaidLike_42 : decode cX8_isLaidLike 42 = .ok (.iconst 0, 1) := by decide +kernel
theorem dX8_isLaidLike_43 : decode cX8_isLaidLike 43 = .ok (.ireturn, 1) := by decide +kernel
theorem dX8_isLaidLike_44 : decode cX8_isLaidLike 44 = .ok (.iinc 2 1, 3) := by decide +kernel
theorem dX8_isLaidLike_47 : decode cX8_isLaidLike 47 = .ok (.goto (-45), 3) := by decide +kernel
theorem dX8_isLaidLike_50 : decode cX8_isLaidLike 50 = .ok (.iconst 1, 1) := by decide +kernel
theorem dX8_isLaidLike_51 : decode cX8_isLaidLike 51 = .ok (.ireturn, 1) := by decide +kernel
theorem dX8_copyFrom_0 : decode cX8_copyFrom 0 = .ok (.iconst 0, 1) := by decide +kernel
theorem dX8_copyFrom_1 : decode cX8_copyFrom 1 = .ok (.istore_n 2, 1) := by decide +kernel
theorem dX8_copyFrom_2 : decode cX8_copyFrom 2 = .ok (.iload_n 2, 1) := by decide +kernel
theorem dX8_copyFrom_3 : decode cX8_copyFrom 3 = .ok (.aload_n 1, 1) := by decide +kernel
theorem dX8_copyFrom_4 : decode cX8_copyFrom 4 = .ok (.getfield 70, 3) := by decide +kernel
theorem dX8_copyFrom_7 : decode cX8_copyFrom 7 = .ok (.if_icmp .ge 32, 3) := by decide +kernel
theorem dX8_copyFrom_10 : decode cX8_copyFrom 10 = .ok (.aload_n 1, 1) := by decide +kernel
theorem dX8_copyFrom_11 : decode cX8_copyFrom 11 = .ok (.iload_n 2, 1) := by decide +kernel
theorem dX8_copyFrom_12 : decode cX8_copyFrom 12 = .ok (.invokevirtual 55, 3) := by decide +kernel
theorem dX8_copyFrom_15 : decode cX8_copyFrom 15 = .ok (.ifCond .eq 18, 3) := by decide +kernel
theorem dX8_copyFrom_18 : decode cX8_copyFrom 18 = .ok (.aload_n 0, 1) := by decide +kernel
theorem dX8_copyFrom_19 : decode cX8_copyFrom 19 = .ok (.getfield 11, 3) := by decide +kernel
theorem dX8_copyFrom_22 : decode cX8_copyFrom 22 = .ok (.iload_n 2, 1) := by decide +kernel
theorem dX8_copyFrom_23 : decode cX8_copyFrom 23 = .ok (.aaload, 1) := by decide +kernel
theorem dX8_copyFrom_24 : decode cX8_copyFrom 24 = .ok (.aload_n 1, 1) := by decide +kernel
theorem dX8_copyFrom_25 : decode cX8_copyFrom 25 = .ok (.getfield 11, 3) := by decide +kernel
theorem dX8_copyFrom_28 : decode cX8_copyFrom 28 = .ok (.iload_n 2, 1) := by decide +kernel
theorem dX8_copyFrom_29 : decode cX8_copyFrom 29 = .ok (.aaload, 1) := by decide +kernel
theorem dX8_copyFrom_30 : decode cX8_copyFrom 30 = .ok (.invokevirtual 172, 3) := by decide +kernel
theorem dX8_copyFrom_33 : decode cX8_copyFrom 33 = .ok (.iinc 2 1, 3) := by decide +kernel
theorem dX8_copyFrom_36 : decode cX8_copyFrom 36 = .ok (.goto (-34), 3) := by decide +kernel
theorem dX8_copyFrom_39 : decode cX8_copyFrom 39 = .ok (.aload_n 1, 1) := by decide +kernel
theorem dX8_copyFrom_40 : decode cX8_copyFrom 40 = .ok (.getfield 17, 3) := by decide +kernel
theorem dX8_copyFrom_43 : decode cX8_copyFrom 43 = .ok (.iconst 0, 1) := by decide +kernel
theorem dX8_copyFrom_44 : decode cX8_copyFrom 44 = .ok (.aload_n 0, 1) := by decide +kernel
theorem dX8_copyFrom_45 : decode cX8_copyFrom 45 = .ok (.getfield 17, 3) := by decide +kernel
theorem dX8_copyFrom_48 : decode cX8_copyFrom 48 = .ok (.iconst 0, 1) := by decide +kernel
theorem dX8_copyFrom_49 : decode cX8_copyFrom 49 = .ok (.bipush 8, 2) := by decide +kernel
theorem dX8_copyFrom_51 : decode cX8_copyFrom 51 = .ok (.invokestatic 176, 3) := by decide +kernel
theorem dX8_copyFrom_54 : decode cX8_copyFrom 54 = .ok (.aload_n 1, 1) := by decide +kernel
theorem dX8_copyFrom_55 : decode cX8_copyFrom 55 = .ok (.getfield 21, 3) := by decide +kernel
theorem dX8_copyFrom_58 : decode cX8_copyFrom 58 = .ok (.iconst 0, 1) := by decide +kernel
theorem dX8_copyFrom_59 : decode cX8_copyFrom 59 = .ok (.aload_n 0, 1) := by decide +kernel
theorem dX8_copyFrom_60 : decode cX8_copyFrom 60 = .ok (.getfield 21, 3) := by decide +kernel
theorem dX8_copyFrom_63 : decode cX8_copyFrom 63 = .ok (.iconst 0, 1) := by decide +kernel
theorem dX8_copyFrom_64 : decode cX8_copyFrom 64 = .ok (.bipush 8, 2) := by decide +kernel
theorem dX8_copyFrom_66 : decode cX8_copyFrom 66 = .ok (.invokestatic 176, 3) := by decide +kernel
theorem dX8_copyFrom_69 : decode cX8_copyFrom 69 = .ok (.aload_n 0, 1) := by decide +kernel
theorem dX8_copyFrom_70 : decode cX8_copyFrom 70 = .ok (.aload_n 1, 1) := by decide +kernel
theorem dX8_copyFrom_71 : decode cX8_copyFrom 71 = .ok (.getfield 145, 3) := by decide +kernel
theorem dX8_copyFrom_74 : decode cX8_copyFrom 74 = .ok (.putfield 145, 3) := by decide +kernel
theorem dX8_copyFrom_77 : decode cX8_copyFrom 77 = .ok (.aload_n 0, 1) := by decide +kernel
theorem dX8_copyFrom_78 : decode cX8_copyFrom 78 = .ok (.aload_n 1, 1) := by decide +kernel
theorem dX8_copyFrom_79 : decode cX8_copyFrom 79 = .ok (.getfield 40, 3) := by decide +kernel
theorem dX8_copyFrom_82 : decode cX8_copyFrom 82 = .ok (.putfield 40, 3) := by decide +kernel
theorem dX8_copyFrom_85 : decode cX8_copyFrom 85 = .ok (.aload_n 0, 1) := by decide +kernel
theorem dX8_copyFrom_86 : decode cX8_copyFrom 86 = .ok (.aload_n 1, 1) := by decide +kernel
theorem dX8_copyFrom_87 : decode cX8_copyFrom 87 = .ok (.getfield 43, 3) := by decide +kernel
theorem dX8_copyFrom_90 : decode cX8_copyFrom 90 = .ok (.putfield 43, 3) := by decide +kernel
theorem dX8_copyFrom_93 : decode cX8_copyFrom 93 = .ok (.aload_n 0, 1) := by decide +kernel
theorem dX8_copyFrom_94 : decode cX8_copyFrom 94 = .ok (.aload_n 1, 1) := by decide +kernel
theorem dX8_copyFrom_95 : decode cX8_copyFrom 95 = .ok (.getfield 122, 3) := by decide +kernel
theorem dX8_copyFrom_98 : decode cX8_copyFrom 98 = .ok (.putfield 122, 3) := by decide +kernel
theorem dX8_copyFrom_101 : decode cX8_copyFrom 101 = .ok (.aload_n 0, 1) := by decide +kernel
theorem dX8_copyFrom_102 : decode cX8_copyFrom 102 = .ok (.aload_n 1, 1) := by decide +kernel
theorem dX8_copyFrom_103 : decode cX8_copyFrom 103 = .ok (.getfield 125, 3) := by decide +kernel
theorem dX8_copyFrom_106 : decode cX8_copyFrom 106 = .ok (.putfield 125, 3) := by decide +kernel
theorem dX8_copyFrom_109 : decode cX8_copyFrom 109 = .ok (.aload_n 0, 1) := by decide +kernel
theorem dX8_copyFrom_110 : decode cX8_copyFrom 110 = .ok (.aload_n 1, 1) := by decide +kernel
theorem dX8_copyFrom_111 : decode cX8_copyFrom 111 = .ok (.getfield 70, 3) := by decide +kernel
theorem dX8_copyFrom_114 : decode cX8_copyFrom 114 = .ok (.putfield 70, 3) := by decide +kernel
theorem dX8_copyFrom_117 : decode cX8_copyFrom 117 = .ok (.aload_n 0, 1) := by decide +kernel
theorem dX8_copyFrom_118 : decode cX8_copyFrom 118 = .ok (.aload_n 1, 1) := by decide +kernel
theorem dX8_copyFrom_119 : decode cX8_copyFrom 119 = .ok (.getfield 24, 3) := by decide +kernel
theorem dX8_copyFrom_122 : decode cX8_copyFrom 122 = .ok (.putfield 24, 3) := by decide +kernel
theorem dX8_copyFrom_125 : decode cX8_copyFrom 125 = .ok (.aload_n 0, 1) := by decide +kernel
theorem dX8_copyFrom_126 : decode cX8_copyFrom 126 = .ok (.aload_n 1, 1) := by decide +kernel
theorem dX8_copyFrom_127 : decode cX8_copyFrom 127 = .ok (.getfield 28, 3) := by decide +kernel
theorem dX8_copyFrom_130 : decode cX8_copyFrom 130 = .ok (.putfield 28, 3) := by decide +kernel
theorem dX8_copyFrom_133 : decode cX8_copyFrom 133 = .ok (.aload_n 0, 1) := by decide +kernel
theorem dX8_copyFrom_134 : decode cX8_copyFrom 134 = .ok (.aload_n 1, 1) := by decide +kernel
theorem dX8_copyFrom_135 : decode cX8_copyFrom 135 = .ok (.getfield 31, 3) := by decide +kernel
theorem dX8_copyFrom_138 : decode cX8_copyFrom 138 = .ok (.putfield 31, 3) := by decide +kernel
theorem dX8_copyFrom_141 : decode cX8_copyFrom 141 = .ok (.aload_n 0, 1) := by decide +kernel
theorem dX8_copyFrom_142 : decode cX8_copyFrom 142 = .ok (.aload_n 1, 1) := by decide +kernel
theorem dX8_copyFrom_143 : decode cX8_copyFrom 143 = .ok (.getfield 34, 3) := by decide +kernel
theorem dX8_copyFrom_146 : decode cX8_copyFrom 146 = .ok (.putfield 34, 3) := by decide +kernel
theorem dX8_copyFrom_149 : decode cX8_copyFrom 149 = .ok (.return_, 1) := by decide +kernel
theorem dX9_init_0 : decode cX9_init 0 = .ok (.aload_n 0, 1) := by decide +kernel
theorem dX9_init_1 : decode cX9_init 1 = .ok (.invokespecial 3, 3) := by decide +kernel
theorem dX9_init_4 : decode cX9_init 4 = .ok (.aload_n 0, 1) := by decide +kernel
theorem dX9_init_5 : decode cX9_init 5 = .ok (.new 9, 3) := by decide +kernel
theorem dX9_init_8 : decode cX9_init 8 = .ok (.dup, 1) := by decide +kernel
theorem dX9_init_9 : decode cX9_init 9 = .ok (.invokespecial 11, 3) := by decide +kernel
theorem dX9_init_12 : decode cX9_init 12 = .ok (.putfield 12, 3) := by decide +kernel
theorem dX9_init_15 : decode cX9_init 15 = .ok (.aload_n 0, 1) := by decide +kernel
theorem dX9_init_16 : decode cX9_init 16 = .ok (.new 9, 3) := by decide +kernel
theorem dX9_init_19 : decode cX9_init 19 = .ok (.dup, 1) := by decide +kernel
theorem dX9_init_20 : decode cX9_init 20 = .ok (.invokespecial 11, 3) := by decide +kernel
theorem dX9_init_23 : decode cX9_init 23 = .ok (.putfield 18, 3) := by decide +kernel
theorem dX9_init_26 : decode cX9_init 26 = .ok (.aload_n 0, 1) := by decide +kernel
theorem dX9_init_27 : decode cX9_init 27 = .ok (.new 21, 3) := by decide +kernel
theorem dX9_init_30 : decode cX9_init 30 = .ok (.dup, 1) := by decide +kernel
theorem dX9_init_31 : decode cX9_init 31 = .ok (.aload_n 0, 1) := by decide +kernel
theorem dX9_init_32 : decode cX9_init 32 = .ok (.getfield 12, 3) := by decide +kernel
theorem dX9_init_35 : decode cX9_init 35 = .ok (.invokespecial 23, 3) := by decide +kernel
theorem dX9_init_38 : decode cX9_init 38 = .ok (.putfield 26, 3) := by decide +kernel
theorem dX9_init_41 : decode cX9_init 41 = .ok (.aload_n 0, 1) := by decide +kernel
theorem dX9_init_42 : decode cX9_init 42 = .ok (.new 30, 3) := by decide +kernel
theorem dX9_init_45 : decode cX9_init 45 = .ok (.dup, 1) := by decide +kernel
theorem dX9_init_46 : decode cX9_init 46 = .ok (.aload_n 0, 1) := by decide +kernel
theorem dX9_init_47 : decode cX9_init 47 = .ok (.getfield 12, 3) := by decide +kernel
theorem dX9_init_50 : decode cX9_init 50 = .ok (.invokespecial 32, 3) := by decide +kernel
theorem dX9_init_53 : decode cX9_init 53 = .ok (.putfield 33, 3) := by decide +kernel
theorem dX9_init_56 : decode cX9_init 56 = .ok (.aload_n 0, 1) := by decide +kernel
theorem dX9_init_57 : decode cX9_init 57 = .ok (.new 37, 3) := by decide +kernel
theorem dX9_init_60 : decode cX9_init 60 = .ok (.dup, 1) := by decide +kernel
theorem dX9_init_61 : decode cX9_init 61 = .ok (.invokespecial 39, 3) := by decide +kernel
theorem dX9_init_64 : decode cX9_init 64 = .ok (.putfield 40, 3) := by decide +kernel
theorem dX9_init_67 : decode cX9_init 67 = .ok (.aload_n 0, 1) := by decide +kernel
theorem dX9_init_68 : decode cX9_init 68 = .ok (.new 44, 3) := by decide +kernel
theorem dX9_init_71 : decode cX9_init 71 = .ok (.dup, 1) := by decide +kernel
theorem dX9_init_72 : decode cX9_init 72 = .ok (.aload_n 0, 1) := by decide +kernel
theorem dX9_init_73 : decode cX9_init 73 = .ok (.getfield 12, 3) := by decide +kernel
theorem dX9_init_76 : decode cX9_init 76 = .ok (.invokespecial 46, 3) := by decide +kernel
theorem dX9_init_79 : decode cX9_init 79 = .ok (.putfield 47, 3) := by decide +kernel
theorem dX9_init_82 : decode cX9_init 82 = .ok (.aload_n 0, 1) := by decide +kernel
theorem dX9_init_83 : decode cX9_init 83 = .ok (.bipush 120, 2) := by decide +kernel
theorem dX9_init_85 : decode cX9_init 85 = .ok (.newarray .char, 2) := by decide +kernel
theorem dX9_init_87 : decode cX9_init 87 = .ok (.putfield 51, 3) := by decide +kernel
theorem dX9_init_90 : decode cX9_init 90 = .ok (.aload_n 0, 1) := by decide +kernel
theorem dX9_init_91 : decode cX9_init 91 = .ok (.iconst 4, 1) := by decide +kernel
theorem dX9_init_92 : decode cX9_init 92 = .ok (.anewarray 55, 3) := by decide +kernel
theorem dX9_init_95 : decode cX9_init 95 = .ok (.putfield 57, 3) := by decide +kernel
theorem dX9_init_98 : decode cX9_init 98 = .ok (.iconst 0, 1) := by decide +kernel
theorem dX9_init_99 : decode cX9_init 99 = .ok (.istore_n 1, 1) := by decide +kernel
theorem dX9_init_100 : decode cX9_init 100 = .ok (.iload_n 1, 1) := by decide +kernel
theorem dX9_init_101 : decode cX9_init 101 = .ok (.iconst 4, 1) := by decide +kernel
theorem dX9_init_102 : decode cX9_init 102 = .ok (.if_icmp .ge 22, 3) := by decide +kernel
theorem dX9_init_105 : decode cX9_init 105 = .ok (.aload_n 0, 1) := by decide +kernel
theorem dX9_init_106 : decode cX9_init 106 = .ok (.getfield 57, 3) := by decide +kernel
theorem dX9_init_109 : decode cX9_init 109 = .ok (.iload_n 1, 1) := by decide +kernel
theorem dX9_init_110 : decode cX9_init 110 = .ok (.new 55, 3) := by decide +kernel
theorem dX9_init_113 : decode cX9_init 113 = .ok (.dup, 1) := by decide +kernel
theorem dX9_init_114 : decode cX9_init 114 = .ok (.invokespecial 61, 3) := by decide +kernel
theorem dX9_init_117 : decode cX9_init 117 = .ok (.aastore, 1) := by decide +kernel
theorem dX9_init_118 : decode cX9_init 118 = .ok (.iinc 1 1, 3) := by decide +kernel
theorem dX9_init_121 : decode cX9_init 121 = .ok (.goto (-21), 3) := by decide +kernel
theorem dX9_init_124 : decode cX9_init 124 = .ok (.return_, 1) := by decide +kernel
theorem dX9_comes_0 : decode cX9_comes 0 = .ok (.aload_n 0, 1) := by decide +kernel
theorem dX9_comes_1 : decode cX9_comes 1 = .ok (.iload_n 2, 1) := by decide +kernel
theorem dX9_comes_2 : decode cX9_comes 2 = .ok (.invokevirtual 62, 3) := by decide +kernel
theorem dX9_comes_5 : decode cX9_comes 5 = .ok (.ifCond .ne 5, 3) := by decide +kernel
theorem dX9_comes_8 : decode cX9_comes 8 = .ok (.iconst (-1), 1) := by decide +kernel
theorem dX9_comes_9 : decode cX9_comes 9 = .ok (.ireturn, 1) := by decide +kernel
theorem dX9_comes_10 : decode cX9_comes 10 = .ok (.iload_n 1, 1) := by decide +kernel
theorem dX9_comes_11 : decode cX9_comes 11 = .ok (.iload_n 3, 1) := by decide +kernel
theorem dX9_comes_12 : decode cX9_comes 12 = .ok (.iload 4, 2) := by decide +kernel
theorem dX9_comes_14 : decode cX9_comes 14 = .ok (.iload 5, 2) := by decide +kernel
theorem dX9_comes_16 : decode cX9_comes 16 = .ok (.iload 6, 2) := by decide +kernel
theorem dX9_comes_18 : decode cX9_comes 18 = .ok (.invokestatic 66, 3) := by decide +kernel
theorem dX9_comes_21 : decode cX9_comes 21 = .ok (.ifCond .ne 6, 3) := by decide +kernel
theorem dX9_comes_24 : decode cX9_comes 24 = .ok (.bipush (-2), 2) := by decide +kernel
theorem dX9_comes_26 : decode cX9_comes 26 = .ok (.ireturn, 1) := by decide +kernel
theorem dX9_comes_27 : decode cX9_comes 27 = .ok (.aload_n 0, 1) := by decide +kernel
theorem dX9_comes_28 : decode cX9_comes 28 = .ok (.getfield 12, 3) := by decide +kernel
theorem dX9_comes_31 : decode cX9_comes 31 = .ok (.iload_n 2, 1) := by decide +kernel
theorem dX9_comes_32 : decode cX9_comes 32 = .ok (.invokevirtual 72, 3) := by decide +kernel
theorem dX9_comes_35 : decode cX9_comes 35 = .ok (.ifCond .ne 6, 3) := by decide +kernel
theorem dX9_comes_38 : decode cX9_comes 38 = .ok (.bipush (-3), 2) := by decide +kernel
theorem dX9_comes_40 : decode cX9_comes 40 = .ok (.ireturn, 1) := by decide +kernel
theorem dX9_comes_41 : decode cX9_comes 41 = .ok (.aload_n 0, 1) := by decide +kernel
theorem dX9_comes_42 : decode cX9_comes 42 = .ok (.getfield 12, 3) := by decide +kernel
theorem dX9_comes_45 : decode cX9_comes 45 = .ok (.getfield 75, 3) := by decide +kernel
theorem dX9_comes_48 : decode cX9_comes 48 = .ok (.bipush 24, 2) := by decide +kernel
theorem dX9_comes_50 : decode cX9_comes 50 = .ok (.if_icmp .lt 6, 3) := by decide +kernel
theorem dX9_comes_53 : decode cX9_comes 53 = .ok (.bipush (-4), 2) := by decide +kernel
theorem dX9_comes_55 : decode cX9_comes 55 = .ok (.ireturn, 1) := by decide +kernel
theorem dX9_comes_56 : decode cX9_comes 56 = .ok (.aload_n 0, 1) := by decide +kernel
theorem dX9_comes_57 : decode cX9_comes 57 = .ok (.getfield 12, 3) := by decide +kernel
theorem dX9_comes_60 : decode cX9_comes 60 = .ok (.iload_n 1, 1) := by decide +kernel
theorem dX9_comes_61 : decode cX9_comes 61 = .ok (.iload_n 2, 1) := by decide +kernel
theorem dX9_comes_62 : decode cX9_comes 62 = .ok (.iload_n 3, 1) := by decide +kernel
theorem dX9_comes_63 : decode cX9_comes 63 = .ok (.iload 4, 2) := by decide +kernel
theorem dX9_comes_65 : decode cX9_comes 65 = .ok (.iload 5, 2) := by decide +kernel
theorem dX9_comes_67 : decode cX9_comes 67 = .ok (.iload 6, 2) := by decide +kernel
theorem dX9_comes_69 : decode cX9_comes 69 = .ok (.iconst 0, 1) := by decide +kernel
theorem dX9_comes_70 : decode cX9_comes 70 = .ok (.invokevirtual 79, 3) := by decide +kernel
theorem dX9_comes_73 : decode cX9_comes 73 = .ok (.ireturn, 1) := by decide +kernel
theorem dX9_tells_0 : decode cX9_tells 0 = .ok (.aload_n 0, 1) := by decide +kernel
theorem dX9_tells_1 : decode cX9_tells 1 = .ok (.getfield 12, 3) := by decide +kernel
theorem dX9_tells_4 : decode cX9_tells 4 = .ok (.iload_n 1, 1) := by decide +kernel
theorem dX9_tells_5 : decode cX9_tells 5 = .ok (.invokevirtual 83, 3) := by decide +kernel
theorem dX9_tells_8 : decode cX9_tells 8 = .ok (.ifCond .eq 19, 3) := by decide +kernel
theorem dX9_tells_11 : decode cX9_tells 11 = .ok (.aload_n 0, 1) := by decide +kernel
theorem dX9_tells_12 : decode cX9_tells 12 = .ok (.getfield 12, 3) := by decide +kernel
theorem dX9_tells_15 : decode cX9_tells 15 = .ok (.getfield 86, 3) := by decide +kernel
theorem dX9_tells_18 : decode cX9_tells 18 = .ok (.iload_n 1, 1) := by decide +kernel
theorem dX9_tells_19 : decode cX9_tells 19 = .ok (.aaload, 1) := by decide +kernel
theorem dX9_tells_20 : decode cX9_tells 20 = .ok (.iload_n 2, 1) := by decide +kernel
theorem dX9_tells_21 : decode cX9_tells 21 = .ok (.invokevirtual 90, 3) := by decide +kernel
theorem dX9_tells_24 : decode cX9_tells 24 = .ok (.ifCond .ne 5, 3) := by decide +kernel
theorem dX9_tells_27 : decode cX9_tells 27 = .ok (.iconst (-1), 1) := by decide +kernel
theorem dX9_tells_28 : decode cX9_tells 28 = .ok (.ireturn, 1) := by decide +kernel
theorem dX9_tells_29 : decode cX9_tells 29 = .ok (.aload_n 0, 1) := by decide +kernel
theorem dX9_tells_30 : decode cX9_tells 30 = .ok (.getfield 12, 3) := by decide +kernel
theorem dX9_tells_33 : decode cX9_tells 33 = .ok (.getfield 86, 3) := by decide +kernel
theorem dX9_tells_36 : decode cX9_tells 36 = .ok (.iload_n 1, 1) := by decide +kernel
theorem dX9_tells_37 : decode cX9_tells 37 = .ok (.aaload, 1) := by decide +kernel
theorem dX9_tells_38 : decode cX9_tells 38 = .ok (.iload_n 2, 1) := by decide +kernel
theorem dX9_tells_39 : decode cX9_tells 39 = .ok (.iload_n 3, 1) := by decide +kernel
theorem dX9_tells_40 : decode cX9_tells 40 = .ok (.invokevirtual 95, 3) := by decide +kernel
theorem dX9_tells_43 : decode cX9_tells 43 = .ok (.ifCond .ne 6, 3) := by decide +kernel
theorem dX9_tells_46 : decode cX9_tells 46 = .ok (.bipush (-2), 2) := by decide +kernel
theorem dX9_tells_48 : decode cX9_tells 48 = .ok (.ireturn, 1) := by decide +kernel
theorem dX9_tells_49 : decode cX9_tells 49 = .ok (.aload_n 0, 1) := by decide +kernel
theorem dX9_tells_50 : decode cX9_tells 50 = .ok (.getfield 12, 3) := by decide +kernel
theorem dX9_tells_53 : decode cX9_tells 53 = .ok (.iload_n 1, 1) := by decide +kernel
theorem dX9_tells_54 : decode cX9_tells 54 = .ok (.iload_n 2, 1) := by decide +kernel
theorem dX9_tells_55 : decode cX9_tells 55 = .ok (.iload_n 3, 1) := by decide +kernel
theorem dX9_tells_56 : decode cX9_tells 56 = .ok (.invokevirtual 99, 3) := by decide +kernel
theorem dX9_tells_59 : decode cX9_tells 59 = .ok (.ireturn, 1) := by decide +kernel
theorem dX9_drops_0 : decode cX9_drops 0 = .ok (.aload_n 0, 1) := by decide +kernel
theorem dX9_drops_1 : decode cX9_drops 1 = .ok (.getfield 12, 3) := by decide +kernel
theorem dX9_drops_4 : decode cX9_drops 4 = .ok (.iload_n 1, 1) := by decide +kernel
theorem dX9_drops_5 : decode cX9_drops 5 = .ok (.invokevirtual 83, 3) := by decide +kernel
theorem dX9_drops_8 : decode cX9_drops 8 = .ok (.ifCond .eq 14, 3) := by decide +kernel
theorem dX9_drops_11 : decode cX9_drops 11 = .ok (.aload_n 0, 1) := by decide +kernel
theorem dX9_drops_12 : decode cX9_drops 12 = .ok (.getfield 12, 3) := by decide +kernel
theorem dX9_drops_15 : decode cX9_drops 15 = .ok (.iload_n 1, 1) := by decide +kernel
theorem dX9_drops_16 : decode cX9_drops 16 = .ok (.invokevirtual 103, 3) := by decide +kernel
theorem dX9_drops_19 : decode cX9_drops 19 = .ok (.goto 4, 3) := by decide +kernel
theorem dX9_drops_22 : decode cX9_drops 22 = .ok (.iconst (-1), 1) := by decide +kernel
theorem dX9_drops_23 : decode cX9_drops 23 = .ok (.ireturn, 1) := by decide +kernel
theorem dX9_moves_0 : decode cX9_moves 0 = .ok (.aload_n 0, 1) := by decide +kernel
theorem dX9_moves_1 : decode cX9_moves 1 = .ok (.getfield 12, 3) := by decide +kernel
theorem dX9_moves_4 : decode cX9_moves 4 = .ok (.iload_n 1, 1) := by decide +kernel
theorem dX9_moves_5 : decode cX9_moves 5 = .ok (.invokevirtual 83, 3) := by decide +kernel
theorem dX9_moves_8 : decode cX9_moves 8 = .ok (.ifCond .eq 25, 3) := by decide +kernel
theorem dX9_moves_11 : decode cX9_moves 11 = .ok (.aload_n 0, 1) := by decide +kernel
theorem dX9_moves_12 : decode cX9_moves 12 = .ok (.getfield 12, 3) := by decide +kernel
theorem dX9_moves_15 : decode cX9_moves 15 = .ok (.aload_n 0, 1) := by decide +kernel
theorem dX9_moves_16 : decode cX9_moves 16 = .ok (.getfield 12, 3) := by decide +kernel
theorem dX9_moves_19 : decode cX9_moves 19 = .ok (.getfield 86, 3) := by decide +kernel
theorem dX9_moves_22 : decode cX9_moves 22 = .ok (.iload_n 1, 1) := by decide +kernel
theorem dX9_moves_23 : decode cX9_moves 23 = .ok (.aaload, 1) := by decide +kernel
theorem dX9_moves_24 : decode cX9_moves 24 = .ok (.getfield 107, 3) := by decide +kernel
theorem dX9_moves_27 : decode cX9_moves 27 = .ok (.invokevirtual 83, 3) := by decide +kernel
theorem dX9_moves_30 : decode cX9_moves 30 = .ok (.ifCond .ne 5, 3) := by decide +kernel
theorem dX9_moves_33 : decode cX9_moves 33 = .ok (.iconst (-1), 1) := by decide +kernel
theorem dX9_moves_34 : decode cX9_moves 34 = .ok (.ireturn, 1) := by decide +kernel
theorem dX9_moves_35 : decode cX9_moves 35 = .ok (.iload_n 2, 1) := by decide +kernel
theorem dX9_moves_36 : decode cX9_moves 36 = .ok (.ifCond .lt 30, 3) := by decide +kernel
theorem dX9_moves_39 : decode cX9_moves 39 = .ok (.iload_n 2, 1) := by decide +kernel
theorem dX9_moves_40 : decode cX9_moves 40 = .ok (.aload_n 0, 1) := by decide +kernel
theorem dX9_moves_41 : decode cX9_moves 41 = .ok (.getfield 12, 3) := by decide +kernel
theorem dX9_moves_44 : decode cX9_moves 44 = .ok (.getfield 86, 3) := by decide +kernel
theorem dX9_moves_47 : decode cX9_moves 47 = .ok (.aload_n 0, 1) := by decide +kernel
theorem dX9_moves_48 : decode cX9_moves 48 = .ok (.getfield 12, 3) := by decide +kernel
theorem dX9_moves_51 : decode cX9_moves 51 = .ok (.getfield 86, 3) := by decide +kernel
theorem dX9_moves_54 : decode cX9_moves 54 = .ok (.iload_n 1, 1) := by decide +kernel
theorem dX9_moves_55 : decode cX9_moves 55 = .ok (.aaload, 1) := by decide +kernel
theorem dX9_moves_56 : decode cX9_moves 56 = .ok (.getfield 107, 3) := by decide +kernel
theorem dX9_moves_59 : decode cX9_moves 59 = .ok (.aaload, 1) := by decide +kernel
theorem dX9_moves_60 : decode cX9_moves 60 = .ok (.getfield 110, 3) := by decide +kernel
theorem dX9_moves_63 : decode cX9_moves 63 = .ok (.if_icmp .lt 6, 3) := by decide +kernel
theorem dX9_moves_66 : decode cX9_moves 66 = .ok (.bipush (-2), 2) := by decide +kernel
theorem dX9_moves_68 : decode cX9_moves 68 = .ok (.ireturn, 1) := by decide +kernel
theorem dX9_moves_69 : decode cX9_moves 69 = .ok (.aload_n 0, 1) := by decide +kernel
theorem dX9_moves_70 : decode cX9_moves 70 = .ok (.getfield 12, 3) := by decide +kernel
theorem dX9_moves_73 : decode cX9_moves 73 = .ok (.iload_n 1, 1) := by decide +kernel
theorem dX9_moves_74 : decode cX9_moves 74 = .ok (.iload_n 2, 1) := by decide +kernel
theorem dX9_moves_75 : decode cX9_moves 75 = .ok (.invokevirtual 113, 3) := by decide +kernel
theorem dX9_moves_78 : decode cX9_moves 78 = .ok (.ireturn, 1) := by decide +kernel
theorem dX9_screen_0 : decode cX9_screen 0 = .ok (.iload_n 1, 1) := by decide +kernel
theorem dX9_screen_1 : decode cX9_screen 1 = .ok (.ifCond .lt 28, 3) := by decide +kernel
theorem dX9_screen_4 : decode cX9_screen 4 = .ok (.iload_n 1, 1) := by decide +kernel
theorem dX9_screen_5 : decode cX9_screen 5 = .ok (.sipush 200, 3) := by decide +kernel
theorem dX9_screen_8 : decode cX9_screen 8 = .ok (.if_icmp .gt 21, 3) := by decide +kernel
theorem dX9_screen_11 : decode cX9_screen 11 = .ok (.iload_n 2, 1) := by decide +kernel
theorem dX9_screen_12 : decode cX9_screen 12 = .ok (.ifCond .lt 17, 3) := by decide +kernel
theorem dX9_screen_15 : decode cX9_screen 15 = .ok (.iload_n 2, 1) := by decide +kernel
theorem dX9_screen_16 : decode cX9_screen 16 = .ok (.sipush 200, 3) := by decide +kernel
theorem dX9_screen_19 : decode cX9_screen 19 = .ok (.if_icmp .le 13, 3) := by decide +kernel
theorem dX9_screen_22 : decode cX9_screen 22 = .ok (.iload_n 2, 1) := by decide +kernel
theorem dX9_screen_23 : decode cX9_screen 23 = .ok (.sipush 1000, 3) := by decide +kernel
theorem dX9_screen_26 : decode cX9_screen 26 = .ok (.if_icmp .eq 6, 3) := by decide +kernel
theorem dX9_screen_29 : decode cX9_screen 29 = .ok (.bipush (-2), 2) := by decide +kernel
theorem dX9_screen_31 : decode cX9_screen 31 = .ok (.ireturn, 1) := by decide +kernel
theorem dX9_screen_32 : decode cX9_screen 32 = .ok (.sipush 1000, 3) := by decide +kernel
theorem dX9_screen_35 : decode cX9_screen 35 = .ok (.aload_n 0, 1) := by decide +kernel
theorem dX9_screen_36 : decode cX9_screen 36 = .ok (.getfield 12, 3) := by decide +kernel
theorem dX9_screen_39 : decode cX9_screen 39 = .ok (.getfield 117, 3) := by decide +kernel
theorem dX9_screen_42 : decode cX9_screen 42 = .ok (.imul, 1) := by decide +kernel
theorem dX9_screen_43 : decode cX9_screen 43 = .ok (.aload_n 0, 1) := by decide +kernel
theorem dX9_screen_44 : decode cX9_screen 44 = .ok (.getfield 12, 3) := by decide +kernel
theorem dX9_screen_47 : decode cX9_screen 47 = .ok (.getfield 120, 3) := by decide +kernel
theorem dX9_screen_50 : decode cX9_screen 50 = .ok (.iadd, 1) := by decide +kernel
theorem dX9_screen_51 : decode cX9_screen 51 = .ok (.istore_n 3, 1) := by decide +kernel
theorem dX9_screen_52 : decode cX9_screen 52 = .ok (.aload_n 0, 1) := by decide +kernel
theorem dX9_screen_53 : decode cX9_screen 53 = .ok (.getfield 12, 3) := by decide +kernel
theorem dX9_screen_56 : decode cX9_screen 56 = .ok (.iload_n 1, 1) := by decide +kernel
theorem dX9_screen_57 : decode cX9_screen 57 = .ok (.iload_n 2, 1) := by decide +kernel
theorem dX9_screen_58 : decode cX9_screen 58 = .ok (.invokevirtual 123, 3) := by decide +kernel
theorem dX9_screen_61 : decode cX9_screen 61 = .ok (.iload_n 3, 1) := by decide +kernel
theorem dX9_screen_62 : decode cX9_screen 62 = .ok (.ireturn, 1) := by decide +kernel
theorem dX9_of_0 : decode cX9_of 0 = .ok (.aload_n 0, 1) := by decide +kernel
theorem dX9_of_1 : decode cX9_of 1 = .ok (.getfield 12, 3) := by decide +kernel
theorem dX9_of_4 : decode cX9_of 4 = .ok (.iload_n 1, 1) := by decide +kernel
theorem dX9_of_5 : decode cX9_of 5 = .ok (.invokevirtual 83, 3) := by decide +kernel
theorem dX9_of_8 : decode cX9_of 8 = .ok (.ifCond .ne 5, 3) := by decide +kernel
theorem dX9_of_11 : decode cX9_of 11 = .ok (.iconst (-1), 1) := by decide +kernel
theorem dX9_of_12 : decode cX9_of 12 = .ok (.ireturn, 1) := by decide +kernel
theorem dX9_of_13 : decode cX9_of 13 = .ok (.aload_n 0, 1) := by decide +kernel
theorem dX9_of_14 : decode cX9_of 14 = .ok (.getfield 12, 3) := by decide +kernel
theorem dX9_of_17 : decode cX9_of 17 = .ok (.getfield 86, 3) := by decide +kernel
theorem dX9_of_20 : decode cX9_of 20 = .ok (.iload_n 1, 1) := by decide +kernel
theorem dX9_of_21 : decode cX9_of 21 = .ok (.aaload, 1) := by decide +kernel
theorem dX9_of_22 : decode cX9_of 22 = .ok (.astore_n 3, 1) := by decide +kernel
theorem dX9_of_23 : decode cX9_of 23 = .ok (.iload_n 2, 1) := by decide +kernel
theorem dX9_of_24 : decode cX9_of 24 = .ok (.tableswitch 161 0 14 #[76, 81, 86, 91, 91, 91, 91, 100, 105, 110, 115, 127, 139, 144, 156], 76) := by decide +kernel
theorem dX9_of_100 : decode cX9_of 100 = .ok (.aload_n 3, 1) := by decide +kernel
theorem dX9_of_101 : decode cX9_of 101 = .ok (.getfield 127, 3) := by decide +kernel
theorem dX9_of_104 : decode cX9_of 104 = .ok (.ireturn, 1) := by decide +kernel
theorem dX9_of_105 : decode cX9_of 105 = .ok (.aload_n 3, 1) := by decide +kernel
theorem dX9_of_106 : decode cX9_of 106 = .ok (.getfield 107, 3) := by decide +kernel
theorem dX9_of_109 : decode cX9_of 109 = .ok (.ireturn, 1) := by decide +kernel
theorem dX9_of_110 : decode cX9_of 110 = .ok (.aload_n 3, 1) := by decide +kernel
theorem dX9_of_111 : decode cX9_of 111 = .ok (.getfield 110, 3) := by decide +kernel
theorem dX9_of_114 : decode cX9_of 114 = .ok (.ireturn, 1) := by decide +kernel
theorem dX9_of_115 : decode cX9_of 115 = .ok (.aload_n 3, 1) := by decide +kernel
theorem dX9_of_116 : decode cX9_of 116 = .ok (.getfield 130, 3) := by decide +kernel
theorem dX9_of_119 : decode cX9_of 119 = .ok (.iload_n 2, 1) := by decide +kernel
theorem dX9_of_120 : decode cX9_of 120 = .ok (.iconst 3, 1) := by decide +kernel
theorem dX9_of_121 : decode cX9_of 121 = .ok (.isub, 1) := by decide +kernel
theorem dX9_of_122 : decode cX9_of 122 = .ok (.iaload, 1) := by decide +kernel
theorem dX9_of_123 : decode cX9_of 123 = .ok (.ireturn, 1) := by decide +kernel
theorem dX9_of_124 : decode cX9_of 124 = .ok (.aload_n 3, 1) := by decide +kernel
theorem dX9_of_125 : decode cX9_of 125 = .ok (.getfield 134, 3) := by decide +kernel
theorem dX9_of_128 : decode cX9_of 128 = .ok (.ireturn, 1) := by decide +kernel
theorem dX9_of_129 : decode cX9_of 129 = .ok (.aload_n 3, 1) := by decide +kernel
theorem dX9_of_130 : decode cX9_of 130 = .ok (.getfield 137, 3) := by decide +kernel
theorem dX9_of_133 : decode cX9_of 133 = .ok (.ireturn, 1) := by decide +kernel
theorem dX9_of_134 : decode cX9_of 134 = .ok (.aload_n 3, 1) := by decide +kernel
theorem dX9_of_135 : decode cX9_of 135 = .ok (.getfield 140, 3) := by decide +kernel
theorem dX9_of_138 : decode cX9_of 138 = .ok (.ireturn, 1) := by decide +kernel
theorem dX9_of_139 : decode cX9_of 139 = .ok (.aload_n 0, 1) := by decide +kernel
theorem dX9_of_140 : decode cX9_of 140 = .ok (.getfield 12, 3) := by decide +kernel
theorem dX9_of_143 : decode cX9_of 143 = .ok (.getfield 143, 3) := by decide +kernel
theorem dX9_of_146 : decode cX9_of 146 = .ok (.iload_n 1, 1) := by decide +kernel
theorem dX9_of_147 : decode cX9_of 147 = .ok (.invokestatic 146, 3) := by decide +kernel
theorem dX9_of_150 : decode cX9_of 150 = .ok (.ireturn, 1) := by decide +kernel
theorem dX9_of_151 : decode cX9_of 151 = .ok (.aload_n 0, 1) := by decide +kernel
theorem dX9_of_152 : decode cX9_of 152 = .ok (.getfield 12, 3) := by decide +kernel
theorem dX9_of_155 : decode cX9_of 155 = .ok (.getfield 149, 3) := by decide +kernel
theorem dX9_of_158 : decode cX9_of 158 = .ok (.iload_n 1, 1) := by decide +kernel
theorem dX9_of_159 : decode cX9_of 159 = .ok (.invokestatic 146, 3) := by decide +kernel
theorem dX9_of_162 : decode cX9_of 162 = .ok (.ireturn, 1) := by decide +kernel
theorem dX9_of_163 : decode cX9_of 163 = .ok (.aload_n 3, 1) := by decide +kernel
theorem dX9_of_164 : decode cX9_of 164 = .ok (.getfield 152, 3) := by decide +kernel
theorem dX9_of_167 : decode cX9_of 167 = .ok (.ireturn, 1) := by decide +kernel
theorem dX9_of_168 : decode cX9_of 168 = .ok (.aload_n 0, 1) := by decide +kernel
theorem dX9_of_169 : decode cX9_of 169 = .ok (.getfield 12, 3) := by decide +kernel
theorem dX9_of_172 : decode cX9_of 172 = .ok (.getfield 155, 3) := by decide +kernel
theorem dX9_of_175 : decode cX9_of 175 = .ok (.iload_n 1, 1) := by decide +kernel
theorem dX9_of_176 : decode cX9_of 176 = .ok (.invokestatic 146, 3) := by decide +kernel
theorem dX9_of_179 : decode cX9_of 179 = .ok (.ireturn, 1) := by decide +kernel
theorem dX9_of_180 : decode cX9_of 180 = .ok (.aload_n 3, 1) := by decide +kernel
theorem dX9_of_181 : decode cX9_of 181 = .ok (.getfield 158, 3) := by decide +kernel
theorem dX9_of_184 : decode cX9_of 184 = .ok (.ireturn, 1) := by decide +kernel
theorem dX9_of_185 : decode cX9_of 185 = .ok (.iconst (-1), 1) := by decide +kernel
theorem dX9_of_186 : decode cX9_of 186 = .ok (.ireturn, 1) := by decide +kernel
theorem dX9_child_0 : decode cX9_child 0 = .ok (.aload_n 0, 1) := by decide +kernel
theorem dX9_child_1 : decode cX9_child 1 = .ok (.getfield 12, 3) := by decide +kernel
theorem dX9_child_4 : decode cX9_child 4 = .ok (.iload_n 1, 1) := by decide +kernel
theorem dX9_child_5 : decode cX9_child 5 = .ok (.invokevirtual 83, 3) := by decide +kernel
theorem dX9_child_8 : decode cX9_child 8 = .ok (.ifCond .eq 23, 3) := by decide +kernel
theorem dX9_child_11 : decode cX9_child 11 = .ok (.iload_n 2, 1) := by decide +kernel
theorem dX9_child_12 : decode cX9_child 12 = .ok (.ifCond .lt 19, 3) := by decide +kernel
theorem dX9_child_15 : decode cX9_child 15 = .ok (.iload_n 2, 1) := by decide +kernel
theorem dX9_child_16 : decode cX9_child 16 = .ok (.aload_n 0, 1) := by decide +kernel
theorem dX9_child_17 : decode cX9_child 17 = .ok (.getfield 12, 3) := by decide +kernel
theorem dX9_child_20 : decode cX9_child 20 = .ok (.getfield 86, 3) := by decide +kernel
theorem dX9_child_23 : decode cX9_child 23 = .ok (.iload_n 1, 1) := by decide +kernel
theorem dX9_child_24 : decode cX9_child 24 = .ok (.aaload, 1) := by decide +kernel
theorem dX9_child_25 : decode cX9_child 25 = .ok (.getfield 110, 3) := by decide +kernel
theorem dX9_child_28 : decode cX9_child 28 = .ok (.if_icmp .lt 5, 3) := by decide +kernel
theorem dX9_child_31 : decode cX9_child 31 = .ok (.iconst (-1), 1) := by decide +kernel
theorem dX9_child_32 : decode cX9_child 32 = .ok (.ireturn, 1) := by decide +kernel
theorem dX9_child_33 : decode cX9_child 33 = .ok (.aload_n 0, 1) := by decide +kernel
theorem dX9_child_34 : decode cX9_child 34 = .ok (.getfield 12, 3) := by decide +kernel
theorem dX9_child_37 : decode cX9_child 37 = .ok (.getfield 86, 3) := by decide +kernel
theorem dX9_child_40 : decode cX9_child 40 = .ok (.iload_n 1, 1) := by decide +kernel
theorem dX9_child_41 : decode cX9_child 41 = .ok (.aaload, 1) := by decide +kernel
theorem dX9_child_42 : decode cX9_child 42 = .ok (.getfield 161, 3) := by decide +kernel
theorem dX9_child_45 : decode cX9_child 45 = .ok (.iload_n 2, 1) := by decide +kernel
theorem dX9_child_46 : decode cX9_child 46 = .ok (.iaload, 1) := by decide +kernel
theorem dX9_child_47 : decode cX9_child 47 = .ok (.ireturn, 1) := by decide +kernel
theorem dX9_letter_0 : decode cX9_letter 0 = .ok (.iload_n 1, 1) := by decide +kernel
theorem dX9_letter_1 : decode cX9_letter 1 = .ok (.bipush 32, 2) := by decide +kernel
theorem dX9_letter_3 : decode cX9_letter 3 = .ok (.if_icmp .lt 9, 3) := by decide +kernel
theorem dX9_letter_6 : decode cX9_letter 6 = .ok (.iload_n 1, 1) := by decide +kernel
theorem dX9_letter_7 : decode cX9_letter 7 = .ok (.bipush 126, 2) := by decide +kernel
theorem dX9_letter_9 : decode cX9_letter 9 = .ok (.if_icmp .le 6, 3) := by decide +kernel
theorem dX9_letter_12 : decode cX9_letter 12 = .ok (.bipush (-2), 2) := by decide +kernel
theorem dX9_letter_14 : decode cX9_letter 14 = .ok (.ireturn, 1) := by decide +kernel
theorem dX9_letter_15 : decode cX9_letter 15 = .ok (.aload_n 0, 1) := by decide +kernel
theorem dX9_letter_16 : decode cX9_letter 16 = .ok (.getfield 164, 3) := by decide +kernel
theorem dX9_letter_19 : decode cX9_letter 19 = .ok (.bipush 120, 2) := by decide +kernel
theorem dX9_letter_21 : decode cX9_letter 21 = .ok (.if_icmp .lt 6, 3) := by decide +kernel
theorem dX9_letter_24 : decode cX9_letter 24 = .ok (.bipush (-4), 2) := by decide +kernel
theorem dX9_letter_26 : decode cX9_letter 26 = .ok (.ireturn, 1) := by decide +kernel
theorem dX9_letter_27 : decode cX9_letter 27 = .ok (.aload_n 0, 1) := by decide +kernel
theorem dX9_letter_28 : decode cX9_letter 28 = .ok (.getfield 51, 3) := by decide +kernel
theorem dX9_letter_31 : decode cX9_letter 31 = .ok (.aload_n 0, 1) := by decide +kernel
theorem dX9_letter_32 : decode cX9_letter 32 = .ok (.getfield 164, 3) := by decide +kernel
theorem dX9_letter_35 : decode cX9_letter 35 = .ok (.iload_n 1, 1) := by decide +kernel
theorem dX9_letter_36 : decode cX9_letter 36 = .ok (.i2c, 1) := by decide +kernel
theorem dX9_letter_37 : decode cX9_letter 37 = .ok (.castore, 1) := by decide +kernel
theorem dX9_letter_38 : decode cX9_letter 38 = .ok (.aload_n 0, 1) := by decide +kernel
theorem dX9_letter_39 : decode cX9_letter 39 = .ok (.dup, 1) := by decide +kernel
theorem dX9_letter_40 : decode cX9_letter 40 = .ok (.getfield 164, 3) := by decide +kernel
theorem dX9_letter_43 : decode cX9_letter 43 = .ok (.iconst 1, 1) := by decide +kernel
theorem dX9_letter_44 : decode cX9_letter 44 = .ok (.iadd, 1) := by decide +kernel
theorem dX9_letter_45 : decode cX9_letter 45 = .ok (.putfield 164, 3) := by decide +kernel
theorem dX9_letter_48 : decode cX9_letter 48 = .ok (.aload_n 0, 1) := by decide +kernel
theorem dX9_letter_49 : decode cX9_letter 49 = .ok (.getfield 164, 3) := by decide +kernel
theorem dX9_letter_52 : decode cX9_letter 52 = .ok (.ireturn, 1) := by decide +kernel
theorem dX9_reads_0 : decode cX9_reads 0 = .ok (.aload_n 0, 1) := by decide +kernel
theorem dX9_reads_1 : decode cX9_reads 1 = .ok (.iload_n 1, 1) := by decide +kernel
theorem dX9_reads_2 : decode cX9_reads 2 = .ok (.invokevirtual 62, 3) := by decide +kernel
theorem dX9_reads_5 : decode cX9_reads 5 = .ok (.ifCond .ne 5, 3) := by decide +kernel
theorem dX9_reads_8 : decode cX9_reads 8 = .ok (.iconst (-1), 1) := by decide +kernel
theorem dX9_reads_9 : decode cX9_reads 9 = .ok (.ireturn, 1) := by decide +kernel
theorem dX9_reads_10 : decode cX9_reads 10 = .ok (.aload_n 0, 1) := by decide +kernel
theorem dX9_reads_11 : decode cX9_reads 11 = .ok (.getfield 12, 3) := by decide +kernel
theorem dX9_reads_14 : decode cX9_reads 14 = .ok (.iload_n 1, 1) := by decide +kernel
theorem dX9_reads_15 : decode cX9_reads 15 = .ok (.invokevirtual 72, 3) := by decide +kernel
theorem dX9_reads_18 : decode cX9_reads 18 = .ok (.ifCond .ne 6, 3) := by decide +kernel
theorem dX9_reads_21 : decode cX9_reads 21 = .ok (.bipush (-3), 2) := by decide +kernel
theorem dX9_reads_23 : decode cX9_reads 23 = .ok (.ireturn, 1) := by decide +kernel
theorem dX9_reads_24 : decode cX9_reads 24 = .ok (.aload_n 0, 1) := by decide +kernel
theorem dX9_reads_25 : decode cX9_reads 25 = .ok (.getfield 40, 3) := by decide +kernel
theorem dX9_reads_28 : decode cX9_reads 28 = .ok (.aload_n 0, 1) := by decide +kernel
theorem dX9_reads_29 : decode cX9_reads 29 = .ok (.getfield 51, 3) := by decide +kernel
theorem dX9_reads_32 : decode cX9_reads 32 = .ok (.aload_n 0, 1) := by decide +kernel
theorem dX9_reads_33 : decode cX9_reads 33 = .ok (.getfield 164, 3) := by decide +kernel
theorem dX9_reads_36 : decode cX9_reads 36 = .ok (.bipush 24, 2) := by decide +kernel
theorem dX9_reads_38 : decode cX9_reads 38 = .ok (.aload_n 0, 1) := by decide +kernel
theorem dX9_reads_39 : decode cX9_reads 39 = .ok (.getfield 12, 3) := by decide +kernel
theorem dX9_reads_42 : decode cX9_reads 42 = .ok (.getfield 75, 3) := by decide +kernel
theorem dX9_reads_45 : decode cX9_reads 45 = .ok (.isub, 1) := by decide +kernel
theorem dX9_reads_46 : decode cX9_reads 46 = .ok (.invokevirtual 167, 3) := by decide +kernel
theorem dX9_reads_49 : decode cX9_reads 49 = .ok (.istore_n 2, 1) := by decide +kernel
theorem dX9_reads_50 : decode cX9_reads 50 = .ok (.aload_n 0, 1) := by decide +kernel
theorem dX9_reads_51 : decode cX9_reads 51 = .ok (.iconst 0, 1) := by decide +kernel
theorem dX9_reads_52 : decode cX9_reads 52 = .ok (.putfield 164, 3) := by decide +kernel
theorem dX9_reads_55 : decode cX9_reads 55 = .ok (.iload_n 2, 1) := by decide +kernel
theorem dX9_reads_56 : decode cX9_reads 56 = .ok (.iconst (-1), 1) := by decide +kernel
theorem dX9_reads_57 : decode cX9_reads 57 = .ok (.if_icmp .eq 8, 3) := by decide +kernel
theorem dX9_reads_60 : decode cX9_reads 60 = .ok (.bipush (-100), 2) := by decide +kernel
theorem dX9_reads_62 : decode cX9_reads 62 = .ok (.iload_n 2, 1) := by decide +kernel
theorem dX9_reads_63 : decode cX9_reads 63 = .ok (.isub, 1) := by decide +kernel
theorem dX9_reads_64 : decode cX9_reads 64 = .ok (.ireturn, 1) := by decide +kernel
theorem dX9_reads_65 : decode cX9_reads 65 = .ok (.aload_n 0, 1) := by decide +kernel
theorem dX9_reads_66 : decode cX9_reads 66 = .ok (.getfield 12, 3) := by decide +kernel
theorem dX9_reads_69 : decode cX9_reads 69 = .ok (.getfield 75, 3) := by decide +kernel
theorem dX9_reads_72 : decode cX9_reads 72 = .ok (.istore_n 3, 1) := by decide +kernel
theorem dX9_reads_73 : decode cX9_reads 73 = .ok (.iconst 0, 1) := by decide +kernel
theorem dX9_reads_74 : decode cX9_reads 74 = .ok (.istore 4, 2) := by decide +kernel
theorem dX9_reads_76 : decode cX9_reads 76 = .ok (.iload 4, 2) := by decide +kernel
theorem dX9_reads_78 : decode cX9_reads 78 = .ok (.aload_n 0, 1) := by decide +kernel
theorem dX9_reads_79 : decode cX9_reads 79 = .ok (.getfield 40, 3) := by decide +kernel
theorem dX9_reads_82 : decode cX9_reads 82 = .ok (.getfield 171, 3) := by decide +kernel
theorem dX9_reads_85 : decode cX9_reads 85 = .ok (.if_icmp .ge 90, 3) := by decide +kernel
theorem dX9_reads_88 : decode cX9_reads 88 = .ok (.iload 4, 2) := by decide +kernel
theorem dX9_reads_90 : decode cX9_reads 90 = .ok (.ifCond .ne 7, 3) := by decide +kernel
theorem dX9_reads_93 : decode cX9_reads 93 = .ok (.iload_n 1, 1) := by decide +kernel
theorem dX9_reads_94 : decode cX9_reads 94 = .ok (.goto 15, 3) := by decide +kernel
theorem dX9_reads_97 : decode cX9_reads 97 = .ok (.iload_n 3, 1) := by decide +kernel
theorem dX9_reads_98 : decode cX9_reads 98 = .ok (.aload_n 0, 1) := by decide +kernel
theorem dX9_reads_99 : decode cX9_reads 99 = .ok (.getfield 40, 3) := by decide +kernel
theorem dX9_reads_102 : decode cX9_reads 102 = .ok (.getfield 174, 3) := by decide +kernel
theorem dX9_reads_105 : decode cX9_reads 105 = .ok (.iload 4, 2) := by decide +kernel
theorem dX9_reads_107 : decode cX9_reads 107 = .ok (.iaload, 1) := by decide +kernel
theorem dX9_reads_108 : decode cX9_reads 108 = .ok (.iadd, 1) := by decide +kernel
theorem dX9_reads_109 : decode cX9_reads 109 = .ok (.istore 5, 2) := by decide +kernel
theorem dX9_reads_111 : decode cX9_reads 111 = .ok (.aload_n 0, 1) := by decide +kernel
theorem dX9_reads_112 : decode cX9_reads 112 = .ok (.getfield 40, 3) := by decide +kernel
theorem dX9_reads_115 : decode cX9_reads 115 = .ok (.getfield 177, 3) := by decide +kernel
theorem dX9_reads_118 : decode cX9_reads 118 = .ok (.iload 4, 2) := by decide +kernel
theorem dX9_reads_120 : decode cX9_reads 120 = .ok (.aaload, 1) := by decide +kernel
theorem dX9_reads_121 : decode cX9_reads 121 = .ok (.astore 6, 2) := by decide +kernel
theorem dX9_reads_123 : decode cX9_reads 123 = .ok (.aload_n 0, 1) := by decide +kernel
theorem dX9_reads_124 : decode cX9_reads 124 = .ok (.getfield 12, 3) := by decide +kernel
theorem dX9_reads_127 : decode cX9_reads 127 = .ok (.aload_n 0, 1) := by decide +kernel
theorem dX9_reads_128 : decode cX9_reads 128 = .ok (.getfield 40, 3) := by decide +kernel
theorem dX9_reads_131 : decode cX9_reads 131 = .ok (.getfield 180, 3) := by decide +kernel
theorem dX9_reads_134 : decode cX9_reads 134 = .ok (.iload 4, 2) := by decide +kernel
theorem dX9_reads_136 : decode cX9_reads 136 = .ok (.iaload, 1) := by decide +kernel
theorem dX9_reads_137 : decode cX9_reads 137 = .ok (.iload 5, 2) := by decide +kernel
theorem dX9_reads_139 : decode cX9_reads 139 = .ok (.aload 6, 2) := by decide +kernel
theorem dX9_reads_141 : decode cX9_reads 141 = .ok (.iconst 0, 1) := by decide +kernel
theorem dX9_reads_142 : decode cX9_reads 142 = .ok (.iaload, 1) := by decide +kernel
theorem dX9_reads_143 : decode cX9_reads 143 = .ok (.aload 6, 2) := by decide +kernel
theorem dX9_reads_145 : decode cX9_reads 145 = .ok (.iconst 1, 1) := by decide +kernel
theorem dX9_reads_146 : decode cX9_reads 146 = .ok (.iaload, 1) := by decide +kernel
theorem dX9_reads_147 : decode cX9_reads 147 = .ok (.aload 6, 2) := by decide +kernel
theorem dX9_reads_149 : decode cX9_reads 149 = .ok (.iconst 2, 1) := by decide +kernel
theorem dX9_reads_150 : decode cX9_reads 150 = .ok (.iaload, 1) := by decide +kernel
theorem dX9_reads_151 : decode cX9_reads 151 = .ok (.aload 6, 2) := by decide +kernel
theorem dX9_reads_153 : decode cX9_reads 153 = .ok (.iconst 3, 1) := by decide +kernel
theorem dX9_reads_154 : decode cX9_reads 154 = .ok (.iaload, 1) := by decide +kernel
theorem dX9_reads_155 : decode cX9_reads 155 = .ok (.aload_n 0, 1) := by decide +kernel
theorem dX9_reads_156 : decode cX9_reads 156 = .ok (.getfield 40, 3) := by decide +kernel
theorem dX9_reads_159 : decode cX9_reads 159 = .ok (.getfield 183, 3) := by decide +kernel
theorem dX9_reads_162 : decode cX9_reads 162 = .ok (.iload 4, 2) := by decide +kernel
theorem dX9_reads_164 : decode cX9_reads 164 = .ok (.iaload, 1) := by decide +kernel
theorem dX9_reads_165 : decode cX9_reads 165 = .ok (.invokevirtual 79, 3) := by decide +kernel
theorem dX9_reads_168 : decode cX9_reads 168 = .ok (.pop, 1) := by decide +kernel
theorem dX9_reads_169 : decode cX9_reads 169 = .ok (.iinc 4 1, 3) := by decide +kernel
theorem dX9_reads_172 : decode cX9_reads 172 = .ok (.goto (-96), 3) := by decide +kernel
theorem dX9_reads_175 : decode cX9_reads 175 = .ok (.aload_n 0, 1) := by decide +kernel
theorem dX9_reads_176 : decode cX9_reads 176 = .ok (.getfield 40, 3) := by decide +kernel
theorem dX9_reads_179 : decode cX9_reads 179 = .ok (.getfield 171, 3) := by decide +kernel
theorem dX9_reads_182 : decode cX9_reads 182 = .ok (.ireturn, 1) := by decide +kernel
theorem dX9_printed_0 : decode cX9_printed 0 = .ok (.aload_n 0, 1) := by decide +kernel
theorem dX9_printed_1 : decode cX9_printed 1 = .ok (.getfield 12, 3) := by decide +kernel
theorem dX9_printed_4 : decode cX9_printed 4 = .ok (.iload_n 1, 1) := by decide +kernel
theorem dX9_printed_5 : decode cX9_printed 5 = .ok (.invokevirtual 83, 3) := by decide +kernel
theorem dX9_printed_8 : decode cX9_printed 8 = .ok (.ifCond .eq 8, 3) := by decide +kernel
theorem dX9_printed_11 : decode cX9_printed 11 = .ok (.iload_n 2, 1) := by decide +kernel
theorem dX9_printed_12 : decode cX9_printed 12 = .ok (.iconst (-1), 1) := by decide +kernel
theorem dX9_printed_13 : decode cX9_printed 13 = .ok (.if_icmp .ge 5, 3) := by decide +kernel
theorem dX9_printed_16 : decode cX9_printed 16 = .ok (.iconst (-1), 1) := by decide +kernel
theorem dX9_printed_17 : decode cX9_printed 17 = .ok (.ireturn, 1) := by decide +kernel
theorem dX9_printed_18 : decode cX9_printed 18 = .ok (.aload_n 0, 1) := by decide +kernel
theorem dX9_printed_19 : decode cX9_printed 19 = .ok (.getfield 47, 3) := by decide +kernel
theorem dX9_printed_22 : decode cX9_printed 22 = .ok (.iload_n 1, 1) := by decide +kernel
theorem dX9_printed_23 : decode cX9_printed 23 = .ok (.invokevirtual 186, 3) := by decide +kernel
theorem dX9_printed_26 : decode cX9_printed 26 = .ok (.iload_n 2, 1) := by decide +kernel
theorem dX9_printed_27 : decode cX9_printed 27 = .ok (.iconst (-1), 1) := by decide +kernel
theorem dX9_printed_28 : decode cX9_printed 28 = .ok (.if_icmp .ne 11, 3) := by decide +kernel
theorem dX9_printed_31 : decode cX9_printed 31 = .ok (.aload_n 0, 1) := by decide +kernel
theorem dX9_printed_32 : decode cX9_printed 32 = .ok (.getfield 47, 3) := by decide +kernel
theorem dX9_printed_35 : decode cX9_printed 35 = .ok (.getfield 190, 3) := by decide +kernel
theorem dX9_printed_38 : decode cX9_printed 38 = .ok (.ireturn, 1) := by decide +kernel
theorem dX9_printed_39 : decode cX9_printed 39 = .ok (.iload_n 2, 1) := by decide +kernel
theorem dX9_printed_40 : decode cX9_printed 40 = .ok (.aload_n 0, 1) := by decide +kernel
theorem dX9_printed_41 : decode cX9_printed 41 = .ok (.getfield 47, 3) := by decide +kernel
theorem dX9_printed_44 : decode cX9_printed 44 = .ok (.getfield 190, 3) := by decide +kernel
theorem dX9_printed_47 : decode cX9_printed 47 = .ok (.if_icmp .ge 15, 3) := by decide +kernel
theorem dX9_printed_50 : decode cX9_printed 50 = .ok (.aload_n 0, 1) := by decide +kernel
theorem dX9_printed_51 : decode cX9_printed 51 = .ok (.getfield 47, 3) := by decide +kernel
theorem dX9_printed_54 : decode cX9_printed 54 = .ok (.getfield 193, 3) := by decide +kernel
theorem dX9_printed_57 : decode cX9_printed 57 = .ok (.iload_n 2, 1) := by decide +kernel
theorem dX9_printed_58 : decode cX9_printed 58 = .ok (.caload, 1) := by decide +kernel
theorem dX9_printed_59 : decode cX9_printed 59 = .ok (.goto 4, 3) := by decide +kernel
theorem dX9_printed_62 : decode cX9_printed 62 = .ok (.iconst (-1), 1) := by decide +kernel
theorem dX9_printed_63 : decode cX9_printed 63 = .ok (.ireturn, 1) := by decide +kernel
theorem dX9_lays_0 : decode cX9_lays 0 = .ok (.aload_n 0, 1) := by decide +kernel
theorem dX9_lays_1 : decode cX9_lays 1 = .ok (.getfield 26, 3) := by decide +kernel
theorem dX9_lays_4 : decode cX9_lays 4 = .ok (.invokevirtual 196, 3) := by decide +kernel
theorem dX9_lays_7 : decode cX9_lays 7 = .ok (.aload_n 0, 1) := by decide +kernel
theorem dX9_lays_8 : decode cX9_lays 8 = .ok (.aload_n 0, 1) := by decide +kernel
theorem dX9_lays_9 : decode cX9_lays 9 = .ok (.getfield 26, 3) := by decide +kernel
theorem dX9_lays_12 : decode cX9_lays 12 = .ok (.getfield 199, 3) := by decide +kernel
theorem dX9_lays_15 : decode cX9_lays 15 = .ok (.putfield 202, 3) := by decide +kernel
theorem dX9_lays_18 : decode cX9_lays 18 = .ok (.aload_n 0, 1) := by decide +kernel
theorem dX9_lays_19 : decode cX9_lays 19 = .ok (.aload_n 0, 1) := by decide +kernel
theorem dX9_lays_20 : decode cX9_lays 20 = .ok (.getfield 26, 3) := by decide +kernel
theorem dX9_lays_23 : decode cX9_lays 23 = .ok (.getfield 205, 3) := by decide +kernel
theorem dX9_lays_26 : decode cX9_lays 26 = .ok (.putfield 208, 3) := by decide +kernel
theorem dX9_lays_29 : decode cX9_lays 29 = .ok (.aload_n 0, 1) := by decide +kernel
theorem dX9_lays_30 : decode cX9_lays 30 = .ok (.getfield 202, 3) := by decide +kernel
theorem dX9_lays_33 : decode cX9_lays 33 = .ok (.ireturn, 1) := by decide +kernel
theorem dX9_at_0 : decode cX9_at 0 = .ok (.aload_n 0, 1) := by decide +kernel
theorem dX9_at_1 : decode cX9_at 1 = .ok (.getfield 12, 3) := by decide +kernel
theorem dX9_at_4 : decode cX9_at 4 = .ok (.iload_n 1, 1) := by decide +kernel
theorem dX9_at_5 : decode cX9_at 5 = .ok (.invokevirtual 83, 3) := by decide +kernel
theorem dX9_at_8 : decode cX9_at 8 = .ok (.ifCond .ne 5, 3) := by decide +kernel
theorem dX9_at_11 : decode cX9_at 11 = .ok (.iconst (-1), 1) := by decide +kernel
theorem dX9_at_12 : decode cX9_at 12 = .ok (.ireturn, 1) := by decide +kernel
theorem dX9_at_13 : decode cX9_at 13 = .ok (.aload_n 0, 1) := by decide +kernel
theorem dX9_at_14 : decode cX9_at 14 = .ok (.getfield 12, 3) := by decide +kernel
theorem dX9_at_17 : decode cX9_at 17 = .ok (.getfield 86, 3) := by decide +kernel
theorem dX9_at_20 : decode cX9_at 20 = .ok (.iload_n 1, 1) := by decide +kernel
theorem dX9_at_21 : decode cX9_at 21 = .ok (.aaload, 1) := by decide +kernel
theorem dX9_at_22 : decode cX9_at 22 = .ok (.getfield 211, 3) := by decide +kernel
theorem dX9_at_25 : decode cX9_at 25 = .ok (.astore_n 3, 1) := by decide +kernel
theorem dX9_at_26 : decode cX9_at 26 = .ok (.iload_n 2, 1) := by decide +kernel
theorem dX9_at_27 : decode cX9_at 27 = .ok (.tableswitch 136 0 8 #[49, 54, 59, 79, 99, 104, 109, 114, 119], 49) := by decide +kernel
theorem dX9_at_76 : decode cX9_at 76 = .ok (.aload_n 3, 1) := by decide +kernel
theorem dX9_at_77 : decode cX9_at 77 = .ok (.getfield 215, 3) := by decide +kernel
theorem dX9_at_80 : decode cX9_at 80 = .ok (.ireturn, 1) := by decide +kernel
theorem dX9_at_81 : decode cX9_at 81 = .ok (.aload_n 3, 1) := by decide +kernel
theorem dX9_at_82 : decode cX9_at 82 = .ok (.getfield 220, 3) := by decide +kernel
theorem dX9_at_85 : decode cX9_at 85 = .ok (.ireturn, 1) := by decide +kernel
theorem dX9_at_86 : decode cX9_at 86 = .ok (.aload_n 3, 1) := by decide +kernel
theorem dX9_at_87 : decode cX9_at 87 = .ok (.getfield 223, 3) := by decide +kernel
theorem dX9_at_90 : decode cX9_at 90 = .ok (.ifCond .eq 14, 3) := by decide +kernel
theorem dX9_at_93 : decode cX9_at 93 = .ok (.aload_n 0, 1) := by decide +kernel
theorem dX9_at_94 : decode cX9_at 94 = .ok (.getfield 12, 3) := by decide +kernel
theorem dX9_at_97 : decode cX9_at 97 = .ok (.iload_n 1, 1) := by decide +kernel
theorem dX9_at_98 : decode cX9_at 98 = .ok (.invokevirtual 227, 3) := by decide +kernel
theorem dX9_at_101 : decode cX9_at 101 = .ok (.goto 4, 3) := by decide +kernel
theorem dX9_at_104 : decode cX9_at 104 = .ok (.iconst 0, 1) := by decide +kernel
theorem dX9_at_105 : decode cX9_at 105 = .ok (.ireturn, 1) := by decide +kernel
theorem dX9_at_106 : decode cX9_at 106 = .ok (.aload_n 3, 1) := by decide +kernel
theorem dX9_at_107 : decode cX9_at 107 = .ok (.getfield 223, 3) := by decide +kernel
theorem dX9_at_110 : decode cX9_at 110 = .ok (.ifCond .eq 14, 3) := by decide +kernel
theorem dX9_at_113 : decode cX9_at 113 = .ok (.aload_n 0, 1) := by decide +kernel
theorem dX9_at_114 : decode cX9_at 114 = .ok (.getfield 12, 3) := by decide +kernel
theorem dX9_at_117 : decode cX9_at 117 = .ok (.iload_n 1, 1) := by decide +kernel
theorem dX9_at_118 : decode cX9_at 118 = .ok (.invokevirtual 230, 3) := by decide +kernel
theorem dX9_at_121 : decode cX9_at 121 = .ok (.goto 4, 3) := by decide +kernel
theorem dX9_at_124 : decode cX9_at 124 = .ok (.iconst 0, 1) := by decide +kernel
theorem dX9_at_125 : decode cX9_at 125 = .ok (.ireturn, 1) := by decide +kernel
theorem dX9_at_126 : decode cX9_at 126 = .ok (.aload_n 3, 1) := by decide +kernel
theorem dX9_at_127 : decode cX9_at 127 = .ok (.getfield 233, 3) := by decide +kernel
theorem dX9_at_130 : decode cX9_at 130 = .ok (.ireturn, 1) := by decide +kernel
theorem dX9_at_131 : decode cX9_at 131 = .ok (.aload_n 3, 1) := by decide +kernel
theorem dX9_at_132 : decode cX9_at 132 = .ok (.getfield 236, 3) := by decide +kernel
theorem dX9_at_135 : decode cX9_at 135 = .ok (.ireturn, 1) := by decide +kernel
theorem dX9_at_136 : decode cX9_at 136 = .ok (.aload_n 3, 1) := by decide +kernel
theorem dX9_at_137 : decode cX9_at 137 = .ok (.getfield 239, 3) := by decide +kernel
theorem dX9_at_140 : decode cX9_at 140 = .ok (.ireturn, 1) := by decide +kernel
theorem dX9_at_141 : decode cX9_at 141 = .ok (.aload_n 3, 1) := by decide +kernel
theorem dX9_at_142 : decode cX9_at 142 = .ok (.getfield 242, 3) := by decide +kernel
theorem dX9_at_145 : decode cX9_at 145 = .ok (.ireturn, 1) := by decide +kernel
theorem dX9_at_146 : decode cX9_at 146 = .ok (.aload_n 0, 1) := by decide +kernel
theorem dX9_at_147 : decode cX9_at 147 = .ok (.getfield 26, 3) := by decide +kernel
theorem dX9_at_150 : decode cX9_at 150 = .ok (.aload_n 0, 1) := by decide +kernel
theorem dX9_at_151 : decode cX9_at 151 = .ok (.getfield 12, 3) := by decide +kernel
theorem dX9_at_154 : decode cX9_at 154 = .ok (.getfield 86, 3) := by decide +kernel
theorem dX9_at_157 : decode cX9_at 157 = .ok (.iload_n 1, 1) := by decide +kernel
theorem dX9_at_158 : decode cX9_at 158 = .ok (.aaload, 1) := by decide +kernel
theorem dX9_at_159 : decode cX9_at 159 = .ok (.invokevirtual 245, 3) := by decide +kernel
theorem dX9_at_162 : decode cX9_at 162 = .ok (.ireturn, 1) := by decide +kernel
theorem dX9_at_163 : decode cX9_at 163 = .ok (.iconst (-1), 1) := by decide +kernel
theorem dX9_at_164 : decode cX9_at 164 = .ok (.ireturn, 1) := by decide +kernel
theorem dX9_bounds_0 : decode cX9_bounds 0 = .ok (.aload_n 0, 1) := by decide +kernel
theorem dX9_bounds_1 : decode cX9_bounds 1 = .ok (.getfield 12, 3) := by decide +kernel
theorem dX9_bounds_4 : decode cX9_bounds 4 = .ok (.iload_n 1, 1) := by decide +kernel
theorem dX9_bounds_5 : decode cX9_bounds 5 = .ok (.invokevirtual 83, 3) := by decide +kernel
theorem dX9_bounds_8 : decode cX9_bounds 8 = .ok (.ifCond .eq 12, 3) := by decide +kernel
theorem dX9_bounds_11 : decode cX9_bounds 11 = .ok (.iload_n 2, 1) := by decide +kernel
theorem dX9_bounds_12 : decode cX9_bounds 12 = .ok (.ifCond .lt 8, 3) := by decide +kernel
theorem dX9_bounds_15 : decode cX9_bounds 15 = .ok (.iload_n 2, 1) := by decide +kernel
theorem dX9_bounds_16 : decode cX9_bounds 16 = .ok (.iconst 3, 1) := by decide +kernel
theorem dX9_bounds_17 : decode cX9_bounds 17 = .ok (.if_icmp .le 5, 3) := by decide +kernel
theorem dX9_bounds_20 : decode cX9_bounds 20 = .ok (.iconst (-1), 1) := by decide +kernel
theorem dX9_bounds_21 : decode cX9_bounds 21 = .ok (.ireturn, 1) := by decide +kernel
theorem dX9_bounds_22 : decode cX9_bounds 22 = .ok (.aload_n 0, 1) := by decide +kernel
theorem dX9_bounds_23 : decode cX9_bounds 23 = .ok (.getfield 12, 3) := by decide +kernel
theorem dX9_bounds_26 : decode cX9_bounds 26 = .ok (.getfield 86, 3) := by decide +kernel
theorem dX9_bounds_29 : decode cX9_bounds 29 = .ok (.iload_n 1, 1) := by decide +kernel
theorem dX9_bounds_30 : decode cX9_bounds 30 = .ok (.aaload, 1) := by decide +kernel
theorem dX9_bounds_31 : decode cX9_bounds 31 = .ok (.getfield 211, 3) := by decide +kernel
theorem dX9_bounds_34 : decode cX9_bounds 34 = .ok (.astore_n 3, 1) := by decide +kernel
theorem dX9_bounds_35 : decode cX9_bounds 35 = .ok (.aload_n 3, 1) := by decide +kernel
theorem dX9_bounds_36 : decode cX9_bounds 36 = .ok (.getfield 223, 3) := by decide +kernel
theorem dX9_bounds_39 : decode cX9_bounds 39 = .ok (.ifCond .ne 6, 3) := by decide +kernel
theorem dX9_bounds_42 : decode cX9_bounds 42 = .ok (.bipush (-5), 2) := by decide +kernel
theorem dX9_bounds_44 : decode cX9_bounds 44 = .ok (.ireturn, 1) := by decide +kernel
theorem dX9_bounds_45 : decode cX9_bounds 45 = .ok (.iload_n 2, 1) := by decide +kernel
theorem dX9_bounds_46 : decode cX9_bounds 46 = .ok (.tableswitch 41 0 2 #[26, 31, 36], 26) := by decide +kernel
theorem dX9_bounds_72 : decode cX9_bounds 72 = .ok (.aload_n 3, 1) := by decide +kernel
theorem dX9_bounds_73 : decode cX9_bounds 73 = .ok (.getfield 249, 3) := by decide +kernel
theorem dX9_bounds_76 : decode cX9_bounds 76 = .ok (.ireturn, 1) := by decide +kernel
theorem dX9_bounds_77 : decode cX9_bounds 77 = .ok (.aload_n 3, 1) := by decide +kernel
theorem dX9_bounds_78 : decode cX9_bounds 78 = .ok (.getfield 252, 3) := by decide +kernel
theorem dX9_bounds_81 : decode cX9_bounds 81 = .ok (.ireturn, 1) := by decide +kernel
theorem dX9_bounds_82 : decode cX9_bounds 82 = .ok (.aload_n 3, 1) := by decide +kernel
theorem dX9_bounds_83 : decode cX9_bounds 83 = .ok (.getfield 255, 3) := by decide +kernel
theorem dX9_bounds_86 : decode cX9_bounds 86 = .ok (.ireturn, 1) := by decide +kernel
theorem dX9_bounds_87 : decode cX9_bounds 87 = .ok (.aload_n 3, 1) := by decide +kernel
theorem dX9_bounds_88 : decode cX9_bounds 88 = .ok (.getfield 258, 3) := by decide +kernel
theorem dX9_bounds_91 : decode cX9_bounds 91 = .ok (.ireturn, 1) := by decide +kernel
theorem dX9_asks_0 : decode cX9_asks 0 = .ok (.aload_n 0, 1) := by decide +kernel
theorem dX9_asks_1 : decode cX9_asks 1 = .ok (.getfield 12, 3) := by decide +kernel
theorem dX9_asks_4 : decode cX9_asks 4 = .ok (.iload_n 1, 1) := by decide +kernel
theorem dX9_asks_5 : decode cX9_asks 5 = .ok (.invokevirtual 83, 3) := by decide +kernel
theorem dX9_asks_8 : decode cX9_asks 8 = .ok (.ifCond .eq 12, 3) := by decide +kernel
theorem dX9_asks_11 : decode cX9_asks 11 = .ok (.iload_n 2, 1) := by decide +kernel
theorem dX9_asks_12 : decode cX9_asks 12 = .ok (.ifCond .eq 10, 3) := by decide +kernel
theorem dX9_asks_15 : decode cX9_asks 15 = .ok (.iload_n 2, 1) := by decide +kernel
theorem dX9_asks_16 : decode cX9_asks 16 = .ok (.iconst 1, 1) := by decide +kernel
theorem dX9_asks_17 : decode cX9_asks 17 = .ok (.if_icmp .eq 5, 3) := by decide +kernel
theorem dX9_asks_20 : decode cX9_asks 20 = .ok (.iconst (-1), 1) := by decide +kernel
theorem dX9_asks_21 : decode cX9_asks 21 = .ok (.ireturn, 1) := by decide +kernel
theorem dX9_asks_22 : decode cX9_asks 22 = .ok (.aload_n 0, 1) := by decide +kernel
theorem dX9_asks_23 : decode cX9_asks 23 = .ok (.getfield 26, 3) := by decide +kernel
theorem dX9_asks_26 : decode cX9_asks 26 = .ok (.aload_n 0, 1) := by decide +kernel
theorem dX9_asks_27 : decode cX9_asks 27 = .ok (.getfield 12, 3) := by decide +kernel
theorem dX9_asks_30 : decode cX9_asks 30 = .ok (.getfield 86, 3) := by decide +kernel
theorem dX9_asks_33 : decode cX9_asks 33 = .ok (.iload_n 1, 1) := by decide +kernel
theorem dX9_asks_34 : decode cX9_asks 34 = .ok (.aaload, 1) := by decide +kernel
theorem dX9_asks_35 : decode cX9_asks 35 = .ok (.iload_n 2, 1) := by decide +kernel
theorem dX9_asks_36 : decode cX9_asks 36 = .ok (.invokevirtual 261, 3) := by decide +kernel
theorem dX9_asks_39 : decode cX9_asks 39 = .ok (.ireturn, 1) := by decide +kernel
theorem dX9_hit_0 : decode cX9_hit 0 = .ok (.aload_n 0, 1) := by decide +kernel
theorem dX9_hit_1 : decode cX9_hit 1 = .ok (.getfield 12, 3) := by decide +kernel
theorem dX9_hit_4 : decode cX9_hit 4 = .ok (.iload_n 1, 1) := by decide +kernel
theorem dX9_hit_5 : decode cX9_hit 5 = .ok (.iload_n 2, 1) := by decide +kernel
theorem dX9_hit_6 : decode cX9_hit 6 = .ok (.invokevirtual 265, 3) := by decide +kernel
theorem dX9_hit_9 : decode cX9_hit 9 = .ok (.ireturn, 1) := by decide +kernel
theorem dX9_told_0 : decode cX9_told 0 = .ok (.iload_n 1, 1) := by decide +kernel
theorem dX9_told_1 : decode cX9_told 1 = .ok (.tableswitch 196 0 13 #[71, 79, 87, 117, 125, 133, 141, 149, 154, 159, 167, 172, 180, 188], 71) := by decide +kernel
theorem dX9_told_72 : decode cX9_told 72 = .ok (.aload_n 0, 1) := by decide +kernel
theorem dX9_told_73 : decode cX9_told 73 = .ok (.getfield 12, 3) := by decide +kernel
theorem dX9_told_76 : decode cX9_told 76 = .ok (.getfield 117, 3) := by decide +kernel
theorem dX9_told_79 : decode cX9_told 79 = .ok (.ireturn, 1) := by decide +kernel
theorem dX9_told_80 : decode cX9_told 80 = .ok (.aload_n 0, 1) := by decide +kernel
theorem dX9_told_81 : decode cX9_told 81 = .ok (.getfield 12, 3) := by decide +kernel
theorem dX9_told_84 : decode cX9_told 84 = .ok (.getfield 120, 3) := by decide +kernel
theorem dX9_told_87 : decode cX9_told 87 = .ok (.ireturn, 1) := by decide +kernel
theorem dX9_told_88 : decode cX9_told 88 = .ok (.aload_n 0, 1) := by decide +kernel
theorem dX9_told_89 : decode cX9_told 89 = .ok (.getfield 12, 3) := by decide +kernel
theorem dX9_told_92 : decode cX9_told 92 = .ok (.aload_n 0, 1) := by decide +kernel
theorem dX9_told_93 : decode cX9_told 93 = .ok (.getfield 12, 3) := by decide +kernel
theorem dX9_told_96 : decode cX9_told 96 = .ok (.getfield 268, 3) := by decide +kernel
theorem dX9_told_99 : decode cX9_told 99 = .ok (.invokevirtual 83, 3) := by decide +kernel
theorem dX9_told_102 : decode cX9_told 102 = .ok (.ifCond .eq 13, 3) := by decide +kernel
theorem dX9_told_105 : decode cX9_told 105 = .ok (.aload_n 0, 1) := by decide +kernel
theorem dX9_told_106 : decode cX9_told 106 = .ok (.getfield 12, 3) := by decide +kernel
theorem dX9_told_109 : decode cX9_told 109 = .ok (.getfield 268, 3) := by decide +kernel
theorem dX9_told_112 : decode cX9_told 112 = .ok (.goto 5, 3) := by decide +kernel
theorem dX9_told_115 : decode cX9_told 115 = .ok (.bipush (-5), 2) := by decide +kernel
theorem dX9_told_117 : decode cX9_told 117 = .ok (.ireturn, 1) := by decide +kernel
theorem dX9_told_118 : decode cX9_told 118 = .ok (.aload_n 0, 1) := by decide +kernel
theorem dX9_told_119 : decode cX9_told 119 = .ok (.getfield 12, 3) := by decide +kernel
theorem dX9_told_122 : decode cX9_told 122 = .ok (.getfield 271, 3) := by decide +kernel
theorem dX9_told_125 : decode cX9_told 125 = .ok (.ireturn, 1) := by decide +kernel
theorem dX9_told_126 : decode cX9_told 126 = .ok (.aload_n 0, 1) := by decide +kernel
theorem dX9_told_127 : decode cX9_told 127 = .ok (.getfield 12, 3) := by decide +kernel
theorem dX9_told_130 : decode cX9_told 130 = .ok (.getfield 143, 3) := by decide +kernel
theorem dX9_told_133 : decode cX9_told 133 = .ok (.ireturn, 1) := by decide +kernel
theorem dX9_told_134 : decode cX9_told 134 = .ok (.aload_n 0, 1) := by decide +kernel
theorem dX9_told_135 : decode cX9_told 135 = .ok (.getfield 12, 3) := by decide +kernel
theorem dX9_told_138 : decode cX9_told 138 = .ok (.getfield 149, 3) := by decide +kernel
theorem dX9_told_141 : decode cX9_told 141 = .ok (.ireturn, 1) := by decide +kernel
theorem dX9_told_142 : decode cX9_told 142 = .ok (.aload_n 0, 1) := by decide +kernel
theorem dX9_told_143 : decode cX9_told 143 = .ok (.getfield 12, 3) := by decide +kernel
theorem dX9_told_146 : decode cX9_told 146 = .ok (.invokevirtual 274, 3) := by decide +kernel
theorem dX9_told_149 : decode cX9_told 149 = .ok (.ireturn, 1) := by decide +kernel
theorem dX9_told_150 : decode cX9_told 150 = .ok (.aload_n 0, 1) := by decide +kernel
theorem dX9_told_151 : decode cX9_told 151 = .ok (.getfield 202, 3) := by decide +kernel
theorem dX9_told_154 : decode cX9_told 154 = .ok (.ireturn, 1) := by decide +kernel
theorem dX9_told_155 : decode cX9_told 155 = .ok (.aload_n 0, 1) := by decide +kernel
theorem dX9_told_156 : decode cX9_told 156 = .ok (.getfield 208, 3) := by decide +kernel
theorem dX9_told_159 : decode cX9_told 159 = .ok (.ireturn, 1) := by decide +kernel
theorem dX9_told_160 : decode cX9_told 160 = .ok (.aload_n 0, 1) := by decide +kernel
theorem dX9_told_161 : decode cX9_told 161 = .ok (.getfield 12, 3) := by decide +kernel
theorem dX9_told_164 : decode cX9_told 164 = .ok (.getfield 75, 3) := by decide +kernel
theorem dX9_told_167 : decode cX9_told 167 = .ok (.ireturn, 1) := by decide +kernel
theorem dX9_told_168 : decode cX9_told 168 = .ok (.aload_n 0, 1) := by decide +kernel
theorem dX9_told_169 : decode cX9_told 169 = .ok (.getfield 164, 3) := by decide +kernel
theorem dX9_told_172 : decode cX9_told 172 = .ok (.ireturn, 1) := by decide +kernel
theorem dX9_told_173 : decode cX9_told 173 = .ok (.aload_n 0, 1) := by decide +kernel
theorem dX9_told_174 : decode cX9_told 174 = .ok (.getfield 12, 3) := by decide +kernel
theorem dX9_told_177 : decode cX9_told 177 = .ok (.getfield 278, 3) := by decide +kernel
theorem dX9_told_180 : decode cX9_told 180 = .ok (.ireturn, 1) := by decide +kernel
theorem dX9_told_181 : decode cX9_told 181 = .ok (.aload_n 0, 1) := by decide +kernel
theorem dX9_told_182 : decode cX9_told 182 = .ok (.getfield 33, 3) := by decide +kernel
theorem dX9_told_185 : decode cX9_told 185 = .ok (.invokevirtual 281, 3) := by decide +kernel
theorem dX9_told_188 : decode cX9_told 188 = .ok (.ireturn, 1) := by decide +kernel
theorem dX9_told_189 : decode cX9_told 189 = .ok (.aload_n 0, 1) := by decide +kernel
theorem dX9_told_190 : decode cX9_told 190 = .ok (.getfield 26, 3) := by decide +kernel
theorem dX9_told_193 : decode cX9_told 193 = .ok (.getfield 284, 3) := by decide +kernel
theorem dX9_told_196 : decode cX9_told 196 = .ok (.ireturn, 1) := by decide +kernel
theorem dX9_told_197 : decode cX9_told 197 = .ok (.iconst (-1), 1) := by decide +kernel
theorem dX9_told_198 : decode cX9_told 198 = .ok (.ireturn, 1) := by decide +kernel
theorem dX9_agrees_0 : decode cX9_agrees 0 = .ok (.aload_n 0, 1) := by decide +kernel
theorem dX9_agrees_1 : decode cX9_agrees 1 = .ok (.getfield 33, 3) := by decide +kernel
theorem dX9_agrees_4 : decode cX9_agrees 4 = .ok (.invokevirtual 287, 3) := by decide +kernel
theorem dX9_agrees_7 : decode cX9_agrees 7 = .ok (.ifCond .eq 8, 3) := by decide +kernel
theorem dX9_agrees_10 : decode cX9_agrees 10 = .ok (.bipush (-4), 2) := by decide +kernel
theorem dX9_agrees_12 : decode cX9_agrees 12 = .ok (.goto 10, 3) := by decide +kernel
theorem dX9_agrees_15 : decode cX9_agrees 15 = .ok (.aload_n 0, 1) := by decide +kernel
theorem dX9_agrees_16 : decode cX9_agrees 16 = .ok (.getfield 33, 3) := by decide +kernel
theorem dX9_agrees_19 : decode cX9_agrees 19 = .ok (.invokevirtual 291, 3) := by decide +kernel
theorem dX9_agrees_22 : decode cX9_agrees 22 = .ok (.ireturn, 1) := by decide +kernel
theorem dX9_narrowest_0 : decode cX9_narrowest 0 = .ok (.aload_n 0, 1) := by decide +kernel
theorem dX9_narrowest_1 : decode cX9_narrowest 1 = .ok (.getfield 33, 3) := by decide +kernel
theorem dX9_narrowest_4 : decode cX9_narrowest 4 = .ok (.invokevirtual 287, 3) := by decide +kernel
theorem dX9_narrowest_7 : decode cX9_narrowest 7 = .ok (.ifCond .eq 8, 3) := by decide +kernel
theorem dX9_narrowest_10 : decode cX9_narrowest 10 = .ok (.bipush (-4), 2) := by decide +kernel
theorem dX9_narrowest_12 : decode cX9_narrowest 12 = .ok (.goto 10, 3) := by decide +kernel
theorem dX9_narrowest_15 : decode cX9_narrowest 15 = .ok (.aload_n 0, 1) := by decide +kernel
theorem dX9_narrowest_16 : decode cX9_narrowest 16 = .ok (.getfield 33, 3) := by decide +kernel
theorem dX9_narrowest_19 : decode cX9_narrowest 19 = .ok (.invokevirtual 294, 3) := by decide +kernel
theorem dX9_narrowest_22 : decode cX9_narrowest 22 = .ok (.ireturn, 1) := by decide +kernel
theorem dX9_tall_0 : decode cX9_tall 0 = .ok (.iload_n 1, 1) := by decide +kernel
theorem dX9_tall_1 : decode cX9_tall 1 = .ok (.ifCond .lt 10, 3) := by decide +kernel
theorem dX9_tall_4 : decode cX9_tall 4 = .ok (.iload_n 1, 1) := by decide +kernel
theorem dX9_tall_5 : decode cX9_tall 5 = .ok (.sipush 200, 3) := by decide +kernel
theorem dX9_tall_8 : decode cX9_tall 8 = .ok (.if_icmp .le 6, 3) := by decide +kernel
theorem dX9_tall_11 : decode cX9_tall 11 = .ok (.bipush (-2), 2) := by decide +kernel
theorem dX9_tall_13 : decode cX9_tall 13 = .ok (.ireturn, 1) := by decide +kernel
theorem dX9_tall_14 : decode cX9_tall 14 = .ok (.aload_n 0, 1) := by decide +kernel
theorem dX9_tall_15 : decode cX9_tall 15 = .ok (.getfield 33, 3) := by decide +kernel
theorem dX9_tall_18 : decode cX9_tall 18 = .ok (.invokevirtual 287, 3) := by decide +kernel
theorem dX9_tall_21 : decode cX9_tall 21 = .ok (.ifCond .eq 8, 3) := by decide +kernel
theorem dX9_tall_24 : decode cX9_tall 24 = .ok (.bipush (-4), 2) := by decide +kernel
theorem dX9_tall_26 : decode cX9_tall 26 = .ok (.goto 11, 3) := by decide +kernel
theorem dX9_tall_29 : decode cX9_tall 29 = .ok (.aload_n 0, 1) := by decide +kernel
theorem dX9_tall_30 : decode cX9_tall 30 = .ok (.getfield 33, 3) := by decide +kernel
theorem dX9_tall_33 : decode cX9_tall 33 = .ok (.iload_n 1, 1) := by decide +kernel
theorem dX9_tall_34 : decode cX9_tall 34 = .ok (.invokevirtual 297, 3) := by decide +kernel
theorem dX9_tall_37 : decode cX9_tall 37 = .ok (.ireturn, 1) := by decide +kernel
theorem dX9_reached_0 : decode cX9_reached 0 = .ok (.aload_n 0, 1) := by decide +kernel
theorem dX9_reached_1 : decode cX9_reached 1 = .ok (.getfield 12, 3) := by decide +kernel
theorem dX9_reached_4 : decode cX9_reached 4 = .ok (.iload_n 1, 1) := by decide +kernel
theorem dX9_reached_5 : decode cX9_reached 5 = .ok (.invokevirtual 83, 3) := by decide +kernel
theorem dX9_reached_8 : decode cX9_reached 8 = .ok (.ifCond .eq 12, 3) := by decide +kernel
theorem dX9_reached_11 : decode cX9_reached 11 = .ok (.iload_n 2, 1) := by decide +kernel
theorem dX9_reached_12 : decode cX9_reached 12 = .ok (.ifCond .eq 10, 3) := by decide +kernel
theorem dX9_reached_15 : decode cX9_reached 15 = .ok (.iload_n 2, 1) := by decide +kernel
theorem dX9_reached_16 : decode cX9_reached 16 = .ok (.iconst 1, 1) := by decide +kernel
theorem dX9_reached_17 : decode cX9_reached 17 = .ok (.if_icmp .eq 5, 3) := by decide +kernel
theorem dX9_reached_20 : decode cX9_reached 20 = .ok (.iconst (-1), 1) := by decide +kernel
theorem dX9_reached_21 : decode cX9_reached 21 = .ok (.ireturn, 1) := by decide +kernel
theorem dX9_reached_22 : decode cX9_reached 22 = .ok (.aload_n 0, 1) := by decide +kernel
theorem dX9_reached_23 : decode cX9_reached 23 = .ok (.getfield 33, 3) := by decide +kernel
theorem dX9_reached_26 : decode cX9_reached 26 = .ok (.invokevirtual 287, 3) := by decide +kernel
theorem dX9_reached_29 : decode cX9_reached 29 = .ok (.ifCond .eq 8, 3) := by decide +kernel
theorem dX9_reached_32 : decode cX9_reached 32 = .ok (.bipush (-4), 2) := by decide +kernel
theorem dX9_reached_34 : decode cX9_reached 34 = .ok (.goto 12, 3) := by decide +kernel
theorem dX9_reached_37 : decode cX9_reached 37 = .ok (.aload_n 0, 1) := by decide +kernel
theorem dX9_reached_38 : decode cX9_reached 38 = .ok (.getfield 33, 3) := by decide +kernel
theorem dX9_reached_41 : decode cX9_reached 41 = .ok (.iload_n 1, 1) := by decide +kernel
theorem dX9_reached_42 : decode cX9_reached 42 = .ok (.iload_n 2, 1) := by decide +kernel
theorem dX9_reached_43 : decode cX9_reached 43 = .ok (.invokevirtual 300, 3) := by decide +kernel
theorem dX9_reached_46 : decode cX9_reached 46 = .ok (.ireturn, 1) := by decide +kernel
theorem dX9_bestShare_0 : decode cX9_bestShare 0 = .ok (.aload_n 0, 1) := by decide +kernel
theorem dX9_bestShare_1 : decode cX9_bestShare 1 = .ok (.getfield 12, 3) := by decide +kernel
theorem dX9_bestShare_4 : decode cX9_bestShare 4 = .ok (.iload_n 1, 1) := by decide +kernel
theorem dX9_bestShare_5 : decode cX9_bestShare 5 = .ok (.invokevirtual 83, 3) := by decide +kernel
theorem dX9_bestShare_8 : decode cX9_bestShare 8 = .ok (.ifCond .eq 12, 3) := by decide +kernel
theorem dX9_bestShare_11 : decode cX9_bestShare 11 = .ok (.iload_n 2, 1) := by decide +kernel
theorem dX9_bestShare_12 : decode cX9_bestShare 12 = .ok (.ifCond .eq 10, 3) := by decide +kernel
theorem dX9_bestShare_15 : decode cX9_bestShare 15 = .ok (.iload_n 2, 1) := by decide +kernel
theorem dX9_bestShare_16 : decode cX9_bestShare 16 = .ok (.iconst 1, 1) := by decide +kernel
theorem dX9_bestShare_17 : decode cX9_bestShare 17 = .ok (.if_icmp .eq 5, 3) := by decide +kernel
theorem dX9_bestShare_20 : decode cX9_bestShare 20 = .ok (.iconst (-1), 1) := by decide +kernel
theorem dX9_bestShare_21 : decode cX9_bestShare 21 = .ok (.ireturn, 1) := by decide +kernel
theorem dX9_bestShare_22 : decode cX9_bestShare 22 = .ok (.aload_n 0, 1) := by decide +kernel
theorem dX9_bestShare_23 : decode cX9_bestShare 23 = .ok (.getfield 33, 3) := by decide +kernel
theorem dX9_bestShare_26 : decode cX9_bestShare 26 = .ok (.invokevirtual 287, 3) := by decide +kernel
theorem dX9_bestShare_29 : decode cX9_bestShare 29 = .ok (.ifCond .eq 8, 3) := by decide +kernel
theorem dX9_bestShare_32 : decode cX9_bestShare 32 = .ok (.bipush (-4), 2) := by decide +kernel
theorem dX9_bestShare_34 : decode cX9_bestShare 34 = .ok (.goto 12, 3) := by decide +kernel
theorem dX9_bestShare_37 : decode cX9_bestShare 37 = .ok (.aload_n 0, 1) := by decide +kernel
theorem dX9_bestShare_38 : decode cX9_bestShare 38 = .ok (.getfield 33, 3) := by decide +kernel
theorem dX9_bestShare_41 : decode cX9_bestShare 41 = .ok (.iload_n 1, 1) := by decide +kernel
theorem dX9_bestShare_42 : decode cX9_bestShare 42 = .ok (.iload_n 2, 1) := by decide +kernel
theorem dX9_bestShare_43 : decode cX9_bestShare 43 = .ok (.invokevirtual 303, 3) := by decide +kernel
theorem dX9_bestShare_46 : decode cX9_bestShare 46 = .ok (.ireturn, 1) := by decide +kernel
theorem dX9_fits_0 : decode cX9_fits 0 = .ok (.aload_n 0, 1) := by decide +kernel
theorem dX9_fits_1 : decode cX9_fits 1 = .ok (.getfield 12, 3) := by decide +kernel
theorem dX9_fits_4 : decode cX9_fits 4 = .ok (.iload_n 1, 1) := by decide +kernel
theorem dX9_fits_5 : decode cX9_fits 5 = .ok (.invokevirtual 83, 3) := by decide +kernel
theorem dX9_fits_8 : decode cX9_fits 8 = .ok (.ifCond .eq 24, 3) := by decide +kernel
theorem dX9_fits_11 : decode cX9_fits 11 = .ok (.iload_n 2, 1) := by decide +kernel
theorem dX9_fits_12 : decode cX9_fits 12 = .ok (.iconst 4, 1) := by decide +kernel
theorem dX9_fits_13 : decode cX9_fits 13 = .ok (.if_icmp .ge 19, 3) := by decide +kernel
theorem dX9_fits_16 : decode cX9_fits 16 = .ok (.aload_n 0, 1) := by decide +kernel
theorem dX9_fits_17 : decode cX9_fits 17 = .ok (.getfield 12, 3) := by decide +kernel
theorem dX9_fits_20 : decode cX9_fits 20 = .ok (.getfield 86, 3) := by decide +kernel
theorem dX9_fits_23 : decode cX9_fits 23 = .ok (.iload_n 1, 1) := by decide +kernel
theorem dX9_fits_24 : decode cX9_fits 24 = .ok (.aaload, 1) := by decide +kernel
theorem dX9_fits_25 : decode cX9_fits 25 = .ok (.iload_n 2, 1) := by decide +kernel
theorem dX9_fits_26 : decode cX9_fits 26 = .ok (.invokevirtual 90, 3) := by decide +kernel
theorem dX9_fits_29 : decode cX9_fits 29 = .ok (.ifCond .ne 5, 3) := by decide +kernel
theorem dX9_fits_32 : decode cX9_fits 32 = .ok (.iconst (-1), 1) := by decide +kernel
theorem dX9_fits_33 : decode cX9_fits 33 = .ok (.ireturn, 1) := by decide +kernel
theorem dX9_fits_34 : decode cX9_fits 34 = .ok (.aload_n 0, 1) := by decide +kernel
theorem dX9_fits_35 : decode cX9_fits 35 = .ok (.getfield 33, 3) := by decide +kernel
theorem dX9_fits_38 : decode cX9_fits 38 = .ok (.invokevirtual 287, 3) := by decide +kernel
theorem dX9_fits_41 : decode cX9_fits 41 = .ok (.ifCond .eq 8, 3) := by decide +kernel
theorem dX9_fits_44 : decode cX9_fits 44 = .ok (.bipush (-4), 2) := by decide +kernel
theorem dX9_fits_46 : decode cX9_fits 46 = .ok (.goto 12, 3) := by decide +kernel
theorem dX9_fits_49 : decode cX9_fits 49 = .ok (.aload_n 0, 1) := by decide +kernel
theorem dX9_fits_50 : decode cX9_fits 50 = .ok (.getfield 33, 3) := by decide +kernel
theorem dX9_fits_53 : decode cX9_fits 53 = .ok (.iload_n 1, 1) := by decide +kernel
theorem dX9_fits_54 : decode cX9_fits 54 = .ok (.iload_n 2, 1) := by decide +kernel
theorem dX9_fits_55 : decode cX9_fits 55 = .ok (.invokevirtual 306, 3) := by decide +kernel
theorem dX9_fits_58 : decode cX9_fits 58 = .ok (.ireturn, 1) := by decide +kernel
theorem dX9_plan_0 : decode cX9_plan 0 = .ok (.iload_n 1, 1) := by decide +kernel
theorem dX9_plan_1 : decode cX9_plan 1 = .ok (.iconst (-1), 1) := by decide +kernel
theorem dX9_plan_2 : decode cX9_plan 2 = .ok (.if_icmp .ne 13, 3) := by decide +kernel
theorem dX9_plan_5 : decode cX9_plan 5 = .ok (.aload_n 0, 1) := by decide +kernel
theorem dX9_plan_6 : decode cX9_plan 6 = .ok (.getfield 12, 3) := by decide +kernel
theorem dX9_plan_9 : decode cX9_plan 9 = .ok (.iconst 0, 1) := by decide +kernel
theorem dX9_plan_10 : decode cX9_plan 10 = .ok (.putfield 278, 3) := by decide +kernel
theorem dX9_plan_13 : decode cX9_plan 13 = .ok (.iconst 0, 1) := by decide +kernel
theorem dX9_plan_14 : decode cX9_plan 14 = .ok (.ireturn, 1) := by decide +kernel
theorem dX9_plan_15 : decode cX9_plan 15 = .ok (.aload_n 0, 1) := by decide +kernel
theorem dX9_plan_16 : decode cX9_plan 16 = .ok (.getfield 12, 3) := by decide +kernel
theorem dX9_plan_19 : decode cX9_plan 19 = .ok (.iload_n 1, 1) := by decide +kernel
theorem dX9_plan_20 : decode cX9_plan 20 = .ok (.invokevirtual 83, 3) := by decide +kernel
theorem dX9_plan_23 : decode cX9_plan 23 = .ok (.ifCond .ne 5, 3) := by decide +kernel
theorem dX9_plan_26 : decode cX9_plan 26 = .ok (.iconst (-1), 1) := by decide +kernel
theorem dX9_plan_27 : decode cX9_plan 27 = .ok (.ireturn, 1) := by decide +kernel
theorem dX9_plan_28 : decode cX9_plan 28 = .ok (.iload_n 2, 1) := by decide +kernel
theorem dX9_plan_29 : decode cX9_plan 29 = .ok (.ifCond .lt 9, 3) := by decide +kernel
theorem dX9_plan_32 : decode cX9_plan 32 = .ok (.iload_n 2, 1) := by decide +kernel
theorem dX9_plan_33 : decode cX9_plan 33 = .ok (.bipush 9, 2) := by decide +kernel
theorem dX9_plan_35 : decode cX9_plan 35 = .ok (.if_icmp .le 6, 3) := by decide +kernel
theorem dX9_plan_38 : decode cX9_plan 38 = .ok (.bipush (-2), 2) := by decide +kernel
theorem dX9_plan_40 : decode cX9_plan 40 = .ok (.ireturn, 1) := by decide +kernel
theorem dX9_plan_41 : decode cX9_plan 41 = .ok (.aload_n 0, 1) := by decide +kernel
theorem dX9_plan_42 : decode cX9_plan 42 = .ok (.getfield 12, 3) := by decide +kernel
theorem dX9_plan_45 : decode cX9_plan 45 = .ok (.getfield 278, 3) := by decide +kernel
theorem dX9_plan_48 : decode cX9_plan 48 = .ok (.bipush 8, 2) := by decide +kernel
theorem dX9_plan_50 : decode cX9_plan 50 = .ok (.if_icmp .lt 6, 3) := by decide +kernel
theorem dX9_plan_53 : decode cX9_plan 53 = .ok (.bipush (-4), 2) := by decide +kernel
theorem dX9_plan_55 : decode cX9_plan 55 = .ok (.ireturn, 1) := by decide +kernel
theorem dX9_plan_56 : decode cX9_plan 56 = .ok (.aload_n 0, 1) := by decide +kernel
theorem dX9_plan_57 : decode cX9_plan 57 = .ok (.getfield 12, 3) := by decide +kernel
theorem dX9_plan_60 : decode cX9_plan 60 = .ok (.iload_n 1, 1) := by decide +kernel
theorem dX9_plan_61 : decode cX9_plan 61 = .ok (.iload_n 2, 1) := by decide +kernel
theorem dX9_plan_62 : decode cX9_plan 62 = .ok (.invokevirtual 309, 3) := by decide +kernel
theorem dX9_plan_65 : decode cX9_plan 65 = .ok (.ireturn, 1) := by decide +kernel
theorem dX9_saved_0 : decode cX9_saved 0 = .ok (.aload_n 0, 1) := by decide +kernel
theorem dX9_saved_1 : decode cX9_saved 1 = .ok (.getfield 33, 3) := by decide +kernel
theorem dX9_saved_4 : decode cX9_saved 4 = .ok (.invokevirtual 287, 3) := by decide +kernel
theorem dX9_saved_7 : decode cX9_saved 7 = .ok (.ifCond .eq 8, 3) := by decide +kernel
theorem dX9_saved_10 : decode cX9_saved 10 = .ok (.bipush (-4), 2) := by decide +kernel
theorem dX9_saved_12 : decode cX9_saved 12 = .ok (.goto 10, 3) := by decide +kernel
theorem dX9_saved_15 : decode cX9_saved 15 = .ok (.aload_n 0, 1) := by decide +kernel
theorem dX9_saved_16 : decode cX9_saved 16 = .ok (.getfield 33, 3) := by decide +kernel
theorem dX9_saved_19 : decode cX9_saved 19 = .ok (.invokevirtual 312, 3) := by decide +kernel
theorem dX9_saved_22 : decode cX9_saved 22 = .ok (.ireturn, 1) := by decide +kernel
theorem dX9_likely_0 : decode cX9_likely 0 = .ok (.iload_n 1, 1) := by decide +kernel
theorem dX9_likely_1 : decode cX9_likely 1 = .ok (.iconst 2, 1) := by decide +kernel
theorem dX9_likely_2 : decode cX9_likely 2 = .ok (.if_icmp .lt 28, 3) := by decide +kernel
theorem dX9_likely_5 : decode cX9_likely 5 = .ok (.iload_n 1, 1) := by decide +kernel
theorem dX9_likely_6 : decode cX9_likely 6 = .ok (.bipush 20, 2) := by decide +kernel
theorem dX9_likely_8 : decode cX9_likely 8 = .ok (.if_icmp .gt 22, 3) := by decide +kernel
theorem dX9_likely_11 : decode cX9_likely 11 = .ok (.iload_n 2, 1) := by decide +kernel
theorem dX9_likely_12 : decode cX9_likely 12 = .ok (.ifCond .eq 8, 3) := by decide +kernel
theorem dX9_likely_15 : decode cX9_likely 15 = .ok (.iload_n 2, 1) := by decide +kernel
theorem dX9_likely_16 : decode cX9_likely 16 = .ok (.iconst 1, 1) := by decide +kernel
theorem dX9_likely_17 : decode cX9_likely 17 = .ok (.if_icmp .ne 13, 3) := by decide +kernel
theorem dX9_likely_20 : decode cX9_likely 20 = .ok (.aload_n 0, 1) := by decide +kernel
theorem dX9_likely_21 : decode cX9_likely 21 = .ok (.getfield 33, 3) := by decide +kernel
theorem dX9_likely_24 : decode cX9_likely 24 = .ok (.invokevirtual 287, 3) := by decide +kernel
theorem dX9_likely_27 : decode cX9_likely 27 = .ok (.ifCond .eq 7, 3) := by decide +kernel
theorem dX9_likely_30 : decode cX9_likely 30 = .ok (.ldc2_w 315, 3) := by decide +kernel
theorem dX9_likely_33 : decode cX9_likely 33 = .ok (.lreturn, 1) := by decide +kernel
theorem dX9_likely_34 : decode cX9_likely 34 = .ok (.aload_n 0, 1) := by decide +kernel
theorem dX9_likely_35 : decode cX9_likely 35 = .ok (.getfield 33, 3) := by decide +kernel
theorem dX9_likely_38 : decode cX9_likely 38 = .ok (.invokevirtual 317, 3) := by decide +kernel
theorem dX9_likely_41 : decode cX9_likely 41 = .ok (.istore_n 3, 1) := by decide +kernel
theorem dX9_likely_42 : decode cX9_likely 42 = .ok (.aload_n 0, 1) := by decide +kernel
theorem dX9_likely_43 : decode cX9_likely 43 = .ok (.getfield 33, 3) := by decide +kernel
theorem dX9_likely_46 : decode cX9_likely 46 = .ok (.iload_n 3, 1) := by decide +kernel
theorem dX9_likely_47 : decode cX9_likely 47 = .ok (.iload_n 1, 1) := by decide +kernel
theorem dX9_likely_48 : decode cX9_likely 48 = .ok (.invokevirtual 320, 3) := by decide +kernel
theorem dX9_likely_51 : decode cX9_likely 51 = .ok (.iload_n 1, 1) := by decide +kernel
theorem dX9_likely_52 : decode cX9_likely 52 = .ok (.i2l, 1) := by decide +kernel
theorem dX9_likely_53 : decode cX9_likely 53 = .ok (.iload_n 3, 1) := by decide +kernel
theorem dX9_likely_54 : decode cX9_likely 54 = .ok (.invokestatic 324, 3) := by decide +kernel
theorem dX9_likely_57 : decode cX9_likely 57 = .ok (.iload_n 2, 1) := by decide +kernel
theorem dX9_likely_58 : decode cX9_likely 58 = .ok (.invokestatic 328, 3) := by decide +kernel
theorem dX9_likely_61 : decode cX9_likely 61 = .ok (.lreturn, 1) := by decide +kernel
theorem dX9_drawn_0 : decode cX9_drawn 0 = .ok (.iload_n 1, 1) := by decide +kernel
theorem dX9_drawn_1 : decode cX9_drawn 1 = .ok (.iconst 1, 1) := by decide +kernel
theorem dX9_drawn_2 : decode cX9_drawn 2 = .ok (.if_icmp .lt 9, 3) := by decide +kernel
theorem dX9_drawn_5 : decode cX9_drawn 5 = .ok (.iload_n 1, 1) := by decide +kernel
theorem dX9_drawn_6 : decode cX9_drawn 6 = .ok (.bipush 20, 2) := by decide +kernel
theorem dX9_drawn_8 : decode cX9_drawn 8 = .ok (.if_icmp .le 6, 3) := by decide +kernel
theorem dX9_drawn_11 : decode cX9_drawn 11 = .ok (.bipush (-2), 2) := by decide +kernel
theorem dX9_drawn_13 : decode cX9_drawn 13 = .ok (.ireturn, 1) := by decide +kernel
theorem dX9_drawn_14 : decode cX9_drawn 14 = .ok (.aload_n 0, 1) := by decide +kernel
theorem dX9_drawn_15 : decode cX9_drawn 15 = .ok (.getfield 33, 3) := by decide +kernel
theorem dX9_drawn_18 : decode cX9_drawn 18 = .ok (.invokevirtual 287, 3) := by decide +kernel
theorem dX9_drawn_21 : decode cX9_drawn 21 = .ok (.ifCond .eq 8, 3) := by decide +kernel
theorem dX9_drawn_24 : decode cX9_drawn 24 = .ok (.bipush (-4), 2) := by decide +kernel
theorem dX9_drawn_26 : decode cX9_drawn 26 = .ok (.goto 11, 3) := by decide +kernel
theorem dX9_drawn_29 : decode cX9_drawn 29 = .ok (.aload_n 0, 1) := by decide +kernel
theorem dX9_drawn_30 : decode cX9_drawn 30 = .ok (.getfield 33, 3) := by decide +kernel
theorem dX9_drawn_33 : decode cX9_drawn 33 = .ok (.iload_n 1, 1) := by decide +kernel
theorem dX9_drawn_34 : decode cX9_drawn 34 = .ok (.invokevirtual 332, 3) := by decide +kernel
theorem dX9_drawn_37 : decode cX9_drawn 37 = .ok (.ireturn, 1) := by decide +kernel
theorem dX9_seed_0 : decode cX9_seed 0 = .ok (.aload_n 0, 1) := by decide +kernel
theorem dX9_seed_1 : decode cX9_seed 1 = .ok (.getfield 12, 3) := by decide +kernel
theorem dX9_seed_4 : decode cX9_seed 4 = .ok (.getfield 335, 3) := by decide +kernel
theorem dX9_seed_7 : decode cX9_seed 7 = .ok (.istore_n 2, 1) := by decide +kernel
theorem dX9_seed_8 : decode cX9_seed 8 = .ok (.aload_n 0, 1) := by decide +kernel
theorem dX9_seed_9 : decode cX9_seed 9 = .ok (.getfield 12, 3) := by decide +kernel
theorem dX9_seed_12 : decode cX9_seed 12 = .ok (.iload_n 1, 1) := by decide +kernel
theorem dX9_seed_13 : decode cX9_seed 13 = .ok (.putfield 335, 3) := by decide +kernel
theorem dX9_seed_16 : decode cX9_seed 16 = .ok (.iload_n 2, 1) := by decide +kernel
theorem dX9_seed_17 : decode cX9_seed 17 = .ok (.ireturn, 1) := by decide +kernel
theorem dX9_mean_0 : decode cX9_mean 0 = .ok (.iload_n 1, 1) := by decide +kernel
theorem dX9_mean_1 : decode cX9_mean 1 = .ok (.ifCond .eq 8, 3) := by decide +kernel
theorem dX9_mean_4 : decode cX9_mean 4 = .ok (.iload_n 1, 1) := by decide +kernel
theorem dX9_mean_5 : decode cX9_mean 5 = .ok (.iconst 1, 1) := by decide +kernel
theorem dX9_mean_6 : decode cX9_mean 6 = .ok (.if_icmp .ne 13, 3) := by decide +kernel
theorem dX9_mean_9 : decode cX9_mean 9 = .ok (.aload_n 0, 1) := by decide +kernel
theorem dX9_mean_10 : decode cX9_mean 10 = .ok (.getfield 12, 3) := by decide +kernel
theorem dX9_mean_13 : decode cX9_mean 13 = .ok (.getfield 271, 3) := by decide +kernel
theorem dX9_mean_16 : decode cX9_mean 16 = .ok (.ifCond .ne 7, 3) := by decide +kernel
theorem dX9_mean_19 : decode cX9_mean 19 = .ok (.ldc2_w 315, 3) := by decide +kernel
theorem dX9_mean_22 : decode cX9_mean 22 = .ok (.lreturn, 1) := by decide +kernel
theorem dX9_mean_23 : decode cX9_mean 23 = .ok (.lconst 0, 1) := by decide +kernel
theorem dX9_mean_24 : decode cX9_mean 24 = .ok (.lstore_n 2, 1) := by decide +kernel
theorem dX9_mean_25 : decode cX9_mean 25 = .ok (.iconst 0, 1) := by decide +kernel
theorem dX9_mean_26 : decode cX9_mean 26 = .ok (.istore 4, 2) := by decide +kernel
theorem dX9_mean_28 : decode cX9_mean 28 = .ok (.iload 4, 2) := by decide +kernel
theorem dX9_mean_30 : decode cX9_mean 30 = .ok (.aload_n 0, 1) := by decide +kernel
theorem dX9_mean_31 : decode cX9_mean 31 = .ok (.getfield 12, 3) := by decide +kernel
theorem dX9_mean_34 : decode cX9_mean 34 = .ok (.getfield 75, 3) := by decide +kernel
theorem dX9_mean_37 : decode cX9_mean 37 = .ok (.if_icmp .ge 41, 3) := by decide +kernel
theorem dX9_mean_40 : decode cX9_mean 40 = .ok (.aload_n 0, 1) := by decide +kernel
theorem dX9_mean_41 : decode cX9_mean 41 = .ok (.getfield 12, 3) := by decide +kernel
theorem dX9_mean_44 : decode cX9_mean 44 = .ok (.iload 4, 2) := by decide +kernel
theorem dX9_mean_46 : decode cX9_mean 46 = .ok (.invokevirtual 83, 3) := by decide +kernel
theorem dX9_mean_49 : decode cX9_mean 49 = .ok (.ifCond .eq 23, 3) := by decide +kernel
theorem dX9_mean_52 : decode cX9_mean 52 = .ok (.lload_n 2, 1) := by decide +kernel
theorem dX9_mean_53 : decode cX9_mean 53 = .ok (.aload_n 0, 1) := by decide +kernel
theorem dX9_mean_54 : decode cX9_mean 54 = .ok (.getfield 12, 3) := by decide +kernel
theorem dX9_mean_57 : decode cX9_mean 57 = .ok (.getfield 86, 3) := by decide +kernel
theorem dX9_mean_60 : decode cX9_mean 60 = .ok (.iload 4, 2) := by decide +kernel
theorem dX9_mean_62 : decode cX9_mean 62 = .ok (.aaload, 1) := by decide +kernel
theorem dX9_mean_63 : decode cX9_mean 63 = .ok (.getfield 211, 3) := by decide +kernel
theorem dX9_mean_66 : decode cX9_mean 66 = .ok (.getfield 233, 3) := by decide +kernel
theorem dX9_mean_69 : decode cX9_mean 69 = .ok (.i2l, 1) := by decide +kernel
theorem dX9_mean_70 : decode cX9_mean 70 = .ok (.ladd, 1) := by decide +kernel
theorem dX9_mean_71 : decode cX9_mean 71 = .ok (.lstore_n 2, 1) := by decide +kernel
theorem dX9_mean_72 : decode cX9_mean 72 = .ok (.iinc 4 1, 3) := by decide +kernel
theorem dX9_mean_75 : decode cX9_mean 75 = .ok (.goto (-47), 3) := by decide +kernel
theorem dX9_mean_78 : decode cX9_mean 78 = .ok (.lload_n 2, 1) := by decide +kernel
theorem dX9_mean_79 : decode cX9_mean 79 = .ok (.aload_n 0, 1) := by decide +kernel
theorem dX9_mean_80 : decode cX9_mean 80 = .ok (.getfield 12, 3) := by decide +kernel
theorem dX9_mean_83 : decode cX9_mean 83 = .ok (.invokevirtual 338, 3) := by decide +kernel
theorem dX9_mean_86 : decode cX9_mean 86 = .ok (.i2l, 1) := by decide +kernel
theorem dX9_mean_87 : decode cX9_mean 87 = .ok (.iload_n 1, 1) := by decide +kernel
theorem dX9_mean_88 : decode cX9_mean 88 = .ok (.invokestatic 328, 3) := by decide +kernel
theorem dX9_mean_91 : decode cX9_mean 91 = .ok (.lreturn, 1) := by decide +kernel
theorem dX9_taken_0 : decode cX9_taken 0 = .ok (.iload_n 2, 1) := by decide +kernel
theorem dX9_taken_1 : decode cX9_taken 1 = .ok (.invokestatic 341, 3) := by decide +kernel
theorem dX9_taken_4 : decode cX9_taken 4 = .ok (.ifCond .ne 6, 3) := by decide +kernel
theorem dX9_taken_7 : decode cX9_taken 7 = .ok (.bipush (-2), 2) := by decide +kernel
theorem dX9_taken_9 : decode cX9_taken 9 = .ok (.ireturn, 1) := by decide +kernel
theorem dX9_taken_10 : decode cX9_taken 10 = .ok (.aload_n 0, 1) := by decide +kernel
theorem dX9_taken_11 : decode cX9_taken 11 = .ok (.getfield 12, 3) := by decide +kernel
theorem dX9_taken_14 : decode cX9_taken 14 = .ok (.iload_n 1, 1) := by decide +kernel
theorem dX9_taken_15 : decode cX9_taken 15 = .ok (.invokevirtual 83, 3) := by decide +kernel
theorem dX9_taken_18 : decode cX9_taken 18 = .ok (.ifCond .ne 6, 3) := by decide +kernel
theorem dX9_taken_21 : decode cX9_taken 21 = .ok (.bipush (-11), 2) := by decide +kernel
theorem dX9_taken_23 : decode cX9_taken 23 = .ok (.ireturn, 1) := by decide +kernel
theorem dX9_taken_24 : decode cX9_taken 24 = .ok (.aload_n 0, 1) := by decide +kernel
theorem dX9_taken_25 : decode cX9_taken 25 = .ok (.getfield 12, 3) := by decide +kernel
theorem dX9_taken_28 : decode cX9_taken 28 = .ok (.getfield 86, 3) := by decide +kernel
theorem dX9_taken_31 : decode cX9_taken 31 = .ok (.iload_n 1, 1) := by decide +kernel
theorem dX9_taken_32 : decode cX9_taken 32 = .ok (.aaload, 1) := by decide +kernel
theorem dX9_taken_33 : decode cX9_taken 33 = .ok (.getfield 127, 3) := by decide +kernel
theorem dX9_taken_36 : decode cX9_taken 36 = .ok (.istore_n 3, 1) := by decide +kernel
theorem dX9_taken_37 : decode cX9_taken 37 = .ok (.iload_n 3, 1) := by decide +kernel
theorem dX9_taken_38 : decode cX9_taken 38 = .ok (.iload_n 2, 1) := by decide +kernel
theorem dX9_taken_39 : decode cX9_taken 39 = .ok (.invokestatic 344, 3) := by decide +kernel
theorem dX9_taken_42 : decode cX9_taken 42 = .ok (.ifCond .eq 7, 3) := by decide +kernel
theorem dX9_taken_45 : decode cX9_taken 45 = .ok (.iload_n 3, 1) := by decide +kernel
theorem dX9_taken_46 : decode cX9_taken 46 = .ok (.goto 5, 3) := by decide +kernel
theorem dX9_taken_49 : decode cX9_taken 49 = .ok (.bipush (-12), 2) := by decide +kernel
theorem dX9_taken_51 : decode cX9_taken 51 = .ok (.ireturn, 1) := by decide +kernel
theorem dX9_judge_0 : decode cX9_judge 0 = .ok (.iload_n 1, 1) := by decide +kernel
theorem dX9_judge_1 : decode cX9_judge 1 = .ok (.invokestatic 347, 3) := by decide +kernel
theorem dX9_judge_4 : decode cX9_judge 4 = .ok (.ifCond .ne 5, 3) := by decide +kernel
theorem dX9_judge_7 : decode cX9_judge 7 = .ok (.iconst (-1), 1) := by decide +kernel
theorem dX9_judge_8 : decode cX9_judge 8 = .ok (.ireturn, 1) := by decide +kernel
theorem dX9_judge_9 : decode cX9_judge 9 = .ok (.aload_n 0, 1) := by decide +kernel
theorem dX9_judge_10 : decode cX9_judge 10 = .ok (.getfield 57, 3) := by decide +kernel
theorem dX9_judge_13 : decode cX9_judge 13 = .ok (.iload_n 1, 1) := by decide +kernel
theorem dX9_judge_14 : decode cX9_judge 14 = .ok (.aaload, 1) := by decide +kernel
theorem dX9_judge_15 : decode cX9_judge 15 = .ok (.astore_n 3, 1) := by decide +kernel
theorem dX9_judge_16 : decode cX9_judge 16 = .ok (.aload_n 3, 1) := by decide +kernel
theorem dX9_judge_17 : decode cX9_judge 17 = .ok (.getfield 350, 3) := by decide +kernel
theorem dX9_judge_20 : decode cX9_judge 20 = .ok (.iconst (-1), 1) := by decide +kernel
theorem dX9_judge_21 : decode cX9_judge 21 = .ok (.if_icmp .ne 6, 3) := by decide +kernel
theorem dX9_judge_24 : decode cX9_judge 24 = .ok (.bipush 100, 2) := by decide +kernel
theorem dX9_judge_26 : decode cX9_judge 26 = .ok (.ireturn, 1) := by decide +kernel
theorem dX9_judge_27 : decode cX9_judge 27 = .ok (.aload_n 3, 1) := by decide +kernel
theorem dX9_judge_28 : decode cX9_judge 28 = .ok (.getfield 350, 3) := by decide +kernel
theorem dX9_judge_31 : decode cX9_judge 31 = .ok (.iconst 2, 1) := by decide +kernel
theorem dX9_judge_32 : decode cX9_judge 32 = .ok (.if_icmp .eq 6, 3) := by decide +kernel
theorem dX9_judge_35 : decode cX9_judge 35 = .ok (.bipush (-12), 2) := by decide +kernel
theorem dX9_judge_37 : decode cX9_judge 37 = .ok (.ireturn, 1) := by decide +kernel
theorem dX9_judge_38 : decode cX9_judge 38 = .ok (.iload_n 2, 1) := by decide +kernel
theorem dX9_judge_39 : decode cX9_judge 39 = .ok (.ifCond .ge 8, 3) := by decide +kernel
theorem dX9_judge_42 : decode cX9_judge 42 = .ok (.bipush 100, 2) := by decide +kernel
theorem dX9_judge_44 : decode cX9_judge 44 = .ok (.goto 9, 3) := by decide +kernel
theorem dX9_judge_47 : decode cX9_judge 47 = .ok (.aload_n 0, 1) := by decide +kernel
theorem dX9_judge_48 : decode cX9_judge 48 = .ok (.aload_n 3, 1) := by decide +kernel
theorem dX9_judge_49 : decode cX9_judge 49 = .ok (.iload_n 2, 1) := by decide +kernel
theorem dX9_judge_50 : decode cX9_judge 50 = .ok (.invokevirtual 353, 3) := by decide +kernel
theorem dX9_judge_53 : decode cX9_judge 53 = .ok (.ireturn, 1) := by decide +kernel
theorem dX9_tape_0 : decode cX9_tape 0 = .ok (.iload_n 1, 1) := by decide +kernel
theorem dX9_tape_1 : decode cX9_tape 1 = .ok (.invokestatic 347, 3) := by decide +kernel
theorem dX9_tape_4 : decode cX9_tape 4 = .ok (.ifCond .ne 5, 3) := by decide +kernel
theorem dX9_tape_7 : decode cX9_tape 7 = .ok (.iconst (-1), 1) := by decide +kernel
theorem dX9_tape_8 : decode cX9_tape 8 = .ok (.ireturn, 1) := by decide +kernel
theorem dX9_tape_9 : decode cX9_tape 9 = .ok (.iload_n 2, 1) := by decide +kernel
theorem dX9_tape_10 : decode cX9_tape 10 = .ok (.iconst (-1), 1) := by decide +kernel
theorem dX9_tape_11 : decode cX9_tape 11 = .ok (.if_icmp .ne 16, 3) := by decide +kernel
theorem dX9_tape_14 : decode cX9_tape 14 = .ok (.aload_n 0, 1) := by decide +kernel
theorem dX9_tape_15 : decode cX9_tape 15 = .ok (.getfield 57, 3) := by decide +kernel
theorem dX9_tape_18 : decode cX9_tape 18 = .ok (.iload_n 1, 1) := by decide +kernel
theorem dX9_tape_19 : decode cX9_tape 19 = .ok (.aaload, 1) := by decide +kernel
theorem dX9_tape_20 : decode cX9_tape 20 = .ok (.iload_n 2, 1) := by decide +kernel
theorem dX9_tape_21 : decode cX9_tape 21 = .ok (.iconst 0, 1) := by decide +kernel
theorem dX9_tape_22 : decode cX9_tape 22 = .ok (.invokevirtual 357, 3) := by decide +kernel
theorem dX9_tape_25 : decode cX9_tape 25 = .ok (.iconst 1, 1) := by decide +kernel
theorem dX9_tape_26 : decode cX9_tape 26 = .ok (.ireturn, 1) := by decide +kernel
theorem dX9_tape_27 : decode cX9_tape 27 = .ok (.iload_n 2, 1) := by decide +kernel
theorem dX9_tape_28 : decode cX9_tape 28 = .ok (.ifCond .lt 14, 3) := by decide +kernel
theorem dX9_tape_31 : decode cX9_tape 31 = .ok (.iload_n 2, 1) := by decide +kernel
theorem dX9_tape_32 : decode cX9_tape 32 = .ok (.iconst 3, 1) := by decide +kernel
theorem dX9_tape_33 : decode cX9_tape 33 = .ok (.if_icmp .gt 9, 3) := by decide +kernel
theorem dX9_tape_36 : decode cX9_tape 36 = .ok (.iload_n 3, 1) := by decide +kernel
theorem dX9_tape_37 : decode cX9_tape 37 = .ok (.bipush 60, 2) := by decide +kernel
theorem dX9_tape_39 : decode cX9_tape 39 = .ok (.if_icmp .le 6, 3) := by decide +kernel
theorem dX9_tape_42 : decode cX9_tape 42 = .ok (.bipush (-2), 2) := by decide +kernel
theorem dX9_tape_44 : decode cX9_tape 44 = .ok (.ireturn, 1) := by decide +kernel
theorem dX9_tape_45 : decode cX9_tape 45 = .ok (.iload_n 3, 1) := by decide +kernel
theorem dX9_tape_46 : decode cX9_tape 46 = .ok (.ifCond .ge 6, 3) := by decide +kernel
theorem dX9_tape_49 : decode cX9_tape 49 = .ok (.bipush (-14), 2) := by decide +kernel
theorem dX9_tape_51 : decode cX9_tape 51 = .ok (.ireturn, 1) := by decide +kernel
theorem dX9_tape_52 : decode cX9_tape 52 = .ok (.aload_n 0, 1) := by decide +kernel
theorem dX9_tape_53 : decode cX9_tape 53 = .ok (.getfield 57, 3) := by decide +kernel
theorem dX9_tape_56 : decode cX9_tape 56 = .ok (.iload_n 1, 1) := by decide +kernel
theorem dX9_tape_57 : decode cX9_tape 57 = .ok (.aaload, 1) := by decide +kernel
theorem dX9_tape_58 : decode cX9_tape 58 = .ok (.iload_n 2, 1) := by decide +kernel
theorem dX9_tape_59 : decode cX9_tape 59 = .ok (.iload_n 3, 1) := by decide +kernel
theorem dX9_tape_60 : decode cX9_tape 60 = .ok (.invokevirtual 357, 3) := by decide +kernel
theorem dX9_tape_63 : decode cX9_tape 63 = .ok (.iconst 1, 1) := by decide +kernel
theorem dX9_tape_64 : decode cX9_tape 64 = .ok (.ireturn, 1) := by decide +kernel
theorem dX9_item_0 : decode cX9_item 0 = .ok (.iload_n 1, 1) := by decide +kernel
theorem dX9_item_1 : decode cX9_item 1 = .ok (.invokestatic 347, 3) := by decide +kernel
theorem dX9_item_4 : decode cX9_item 4 = .ok (.ifCond .ne 5, 3) := by decide +kernel
theorem dX9_item_7 : decode cX9_item 7 = .ok (.iconst (-1), 1) := by decide +kernel
theorem dX9_item_8 : decode cX9_item 8 = .ok (.ireturn, 1) := by decide +kernel
theorem dX9_item_9 : decode cX9_item 9 = .ok (.aload_n 0, 1) := by decide +kernel
theorem dX9_item_10 : decode cX9_item 10 = .ok (.getfield 57, 3) := by decide +kernel
theorem dX9_item_13 : decode cX9_item 13 = .ok (.iload_n 1, 1) := by decide +kernel
theorem dX9_item_14 : decode cX9_item 14 = .ok (.aaload, 1) := by decide +kernel
theorem dX9_item_15 : decode cX9_item 15 = .ok (.astore 5, 2) := by decide +kernel
theorem dX9_item_17 : decode cX9_item 17 = .ok (.aload 5, 2) := by decide +kernel
theorem dX9_item_19 : decode cX9_item 19 = .ok (.getfield 350, 3) := by decide +kernel
theorem dX9_item_22 : decode cX9_item 22 = .ok (.iconst (-1), 1) := by decide +kernel
theorem dX9_item_23 : decode cX9_item 23 = .ok (.if_icmp .ne 6, 3) := by decide +kernel
theorem dX9_item_26 : decode cX9_item 26 = .ok (.bipush (-11), 2) := by decide +kernel
theorem dX9_item_28 : decode cX9_item 28 = .ok (.ireturn, 1) := by decide +kernel
theorem dX9_item_29 : decode cX9_item 29 = .ok (.aload 5, 2) := by decide +kernel
theorem dX9_item_31 : decode cX9_item 31 = .ok (.iload_n 2, 1) := by decide +kernel
theorem dX9_item_32 : decode cX9_item 32 = .ok (.invokevirtual 360, 3) := by decide +kernel
theorem dX9_item_35 : decode cX9_item 35 = .ok (.ifCond .ne 6, 3) := by decide +kernel
theorem dX9_item_38 : decode cX9_item 38 = .ok (.bipush (-13), 2) := by decide +kernel
theorem dX9_item_40 : decode cX9_item 40 = .ok (.ireturn, 1) := by decide +kernel
theorem dX9_item_41 : decode cX9_item 41 = .ok (.aload 5, 2) := by decide +kernel
theorem dX9_item_43 : decode cX9_item 43 = .ok (.getfield 363, 3) := by decide +kernel
theorem dX9_item_46 : decode cX9_item 46 = .ok (.iload_n 2, 1) := by decide +kernel
theorem dX9_item_47 : decode cX9_item 47 = .ok (.aload 5, 2) := by decide +kernel
theorem dX9_item_49 : decode cX9_item 49 = .ok (.lload_n 3, 1) := by decide +kernel
theorem dX9_item_50 : decode cX9_item 50 = .ok (.invokevirtual 367, 3) := by decide +kernel
theorem dX9_item_53 : decode cX9_item 53 = .ok (.lastore, 1) := by decide +kernel
theorem dX9_item_54 : decode cX9_item 54 = .ok (.iconst 1, 1) := by decide +kernel
theorem dX9_item_55 : decode cX9_item 55 = .ok (.ireturn, 1) := by decide +kernel
theorem dX9_peek_0 : decode cX9_peek 0 = .ok (.iload_n 1, 1) := by decide +kernel
theorem dX9_peek_1 : decode cX9_peek 1 = .ok (.invokestatic 347, 3) := by decide +kernel
theorem dX9_peek_4 : decode cX9_peek 4 = .ok (.ifCond .eq 30, 3) := by decide +kernel
theorem dX9_peek_7 : decode cX9_peek 7 = .ok (.aload_n 0, 1) := by decide +kernel
theorem dX9_peek_8 : decode cX9_peek 8 = .ok (.getfield 57, 3) := by decide +kernel
theorem dX9_peek_11 : decode cX9_peek 11 = .ok (.iload_n 1, 1) := by decide +kernel
theorem dX9_peek_12 : decode cX9_peek 12 = .ok (.aaload, 1) := by decide +kernel
theorem dX9_peek_13 : decode cX9_peek 13 = .ok (.iload_n 2, 1) := by decide +kernel
theorem dX9_peek_14 : decode cX9_peek 14 = .ok (.invokevirtual 360, 3) := by decide +kernel
theorem dX9_peek_17 : decode cX9_peek 17 = .ok (.ifCond .eq 17, 3) := by decide +kernel
theorem dX9_peek_20 : decode cX9_peek 20 = .ok (.aload_n 0, 1) := by decide +kernel
theorem dX9_peek_21 : decode cX9_peek 21 = .ok (.getfield 57, 3) := by decide +kernel
theorem dX9_peek_24 : decode cX9_peek 24 = .ok (.iload_n 1, 1) := by decide +kernel
theorem dX9_peek_25 : decode cX9_peek 25 = .ok (.aaload, 1) := by decide +kernel
theorem dX9_peek_26 : decode cX9_peek 26 = .ok (.getfield 363, 3) := by decide +kernel
theorem dX9_peek_29 : decode cX9_peek 29 = .ok (.iload_n 2, 1) := by decide +kernel
theorem dX9_peek_30 : decode cX9_peek 30 = .ok (.laload, 1) := by decide +kernel
theorem dX9_peek_31 : decode cX9_peek 31 = .ok (.goto 6, 3) := by decide +kernel
theorem dX9_peek_34 : decode cX9_peek 34 = .ok (.ldc2_w 315, 3) := by decide +kernel
theorem dX9_peek_37 : decode cX9_peek 37 = .ok (.lreturn, 1) := by decide +kernel
theorem dX9_shift_0 : decode cX9_shift 0 = .ok (.iload_n 1, 1) := by decide +kernel
theorem dX9_shift_1 : decode cX9_shift 1 = .ok (.invokestatic 347, 3) := by decide +kernel
theorem dX9_shift_4 : decode cX9_shift 4 = .ok (.ifCond .eq 10, 3) := by decide +kernel
theorem dX9_shift_7 : decode cX9_shift 7 = .ok (.iload_n 3, 1) := by decide +kernel
theorem dX9_shift_8 : decode cX9_shift 8 = .ok (.invokestatic 347, 3) := by decide +kernel
theorem dX9_shift_11 : decode cX9_shift 11 = .ok (.ifCond .ne 5, 3) := by decide +kernel
theorem dX9_shift_14 : decode cX9_shift 14 = .ok (.iconst (-1), 1) := by decide +kernel
theorem dX9_shift_15 : decode cX9_shift 15 = .ok (.ireturn, 1) := by decide +kernel
theorem dX9_shift_16 : decode cX9_shift 16 = .ok (.aload_n 0, 1) := by decide +kernel
theorem dX9_shift_17 : decode cX9_shift 17 = .ok (.getfield 57, 3) := by decide +kernel
theorem dX9_shift_20 : decode cX9_shift 20 = .ok (.iload_n 1, 1) := by decide +kernel
theorem dX9_shift_21 : decode cX9_shift 21 = .ok (.aaload, 1) := by decide +kernel
theorem dX9_shift_22 : decode cX9_shift 22 = .ok (.astore 6, 2) := by decide +kernel
theorem dX9_shift_24 : decode cX9_shift 24 = .ok (.aload_n 0, 1) := by decide +kernel
theorem dX9_shift_25 : decode cX9_shift 25 = .ok (.getfield 57, 3) := by decide +kernel
theorem dX9_shift_28 : decode cX9_shift 28 = .ok (.iload_n 3, 1) := by decide +kernel
theorem dX9_shift_29 : decode cX9_shift 29 = .ok (.aaload, 1) := by decide +kernel
theorem dX9_shift_30 : decode cX9_shift 30 = .ok (.astore 7, 2) := by decide +kernel
theorem dX9_shift_32 : decode cX9_shift 32 = .ok (.aload 6, 2) := by decide +kernel
theorem dX9_shift_34 : decode cX9_shift 34 = .ok (.getfield 350, 3) := by decide +kernel
theorem dX9_shift_37 : decode cX9_shift 37 = .ok (.iconst (-1), 1) := by decide +kernel
theorem dX9_shift_38 : decode cX9_shift 38 = .ok (.if_icmp .eq 12, 3) := by decide +kernel
theorem dX9_shift_41 : decode cX9_shift 41 = .ok (.aload 7, 2) := by decide +kernel
theorem dX9_shift_43 : decode cX9_shift 43 = .ok (.getfield 350, 3) := by decide +kernel
theorem dX9_shift_46 : decode cX9_shift 46 = .ok (.iconst (-1), 1) := by decide +kernel
theorem dX9_shift_47 : decode cX9_shift 47 = .ok (.if_icmp .ne 6, 3) := by decide +kernel
theorem dX9_shift_50 : decode cX9_shift 50 = .ok (.bipush (-11), 2) := by decide +kernel
theorem dX9_shift_52 : decode cX9_shift 52 = .ok (.ireturn, 1) := by decide +kernel
theorem dX9_shift_53 : decode cX9_shift 53 = .ok (.aload 6, 2) := by decide +kernel
theorem dX9_shift_55 : decode cX9_shift 55 = .ok (.getfield 350, 3) := by decide +kernel
theorem dX9_shift_58 : decode cX9_shift 58 = .ok (.aload 7, 2) := by decide +kernel
theorem dX9_shift_60 : decode cX9_shift 60 = .ok (.getfield 350, 3) := by decide +kernel
theorem dX9_shift_63 : decode cX9_shift 63 = .ok (.if_icmp .eq 6, 3) := by decide +kernel
theorem dX9_shift_66 : decode cX9_shift 66 = .ok (.bipush (-12), 2) := by decide +kernel
theorem dX9_shift_68 : decode cX9_shift 68 = .ok (.ireturn, 1) := by decide +kernel
theorem dX9_shift_69 : decode cX9_shift 69 = .ok (.aload 6, 2) := by decide +kernel
theorem dX9_shift_71 : decode cX9_shift 71 = .ok (.iload_n 2, 1) := by decide +kernel
theorem dX9_shift_72 : decode cX9_shift 72 = .ok (.iload 5, 2) := by decide +kernel
theorem dX9_shift_74 : decode cX9_shift 74 = .ok (.invokevirtual 371, 3) := by decide +kernel
theorem dX9_shift_77 : decode cX9_shift 77 = .ok (.ifCond .eq 15, 3) := by decide +kernel
theorem dX9_shift_80 : decode cX9_shift 80 = .ok (.aload 7, 2) := by decide +kernel
theorem dX9_shift_82 : decode cX9_shift 82 = .ok (.iload 4, 2) := by decide +kernel
theorem dX9_shift_84 : decode cX9_shift 84 = .ok (.iload 5, 2) := by decide +kernel
theorem dX9_shift_86 : decode cX9_shift 86 = .ok (.invokevirtual 371, 3) := by decide +kernel
theorem dX9_shift_89 : decode cX9_shift 89 = .ok (.ifCond .ne 6, 3) := by decide +kernel
theorem dX9_shift_92 : decode cX9_shift 92 = .ok (.bipush (-13), 2) := by decide +kernel
theorem dX9_shift_94 : decode cX9_shift 94 = .ok (.ireturn, 1) := by decide +kernel
theorem dX9_shift_95 : decode cX9_shift 95 = .ok (.aload 6, 2) := by decide +kernel
theorem dX9_shift_97 : decode cX9_shift 97 = .ok (.getfield 363, 3) := by decide +kernel
theorem dX9_shift_100 : decode cX9_shift 100 = .ok (.iload_n 2, 1) := by decide +kernel
theorem dX9_shift_101 : decode cX9_shift 101 = .ok (.aload 7, 2) := by decide +kernel
theorem dX9_shift_103 : decode cX9_shift 103 = .ok (.getfield 363, 3) := by decide +kernel
theorem dX9_shift_106 : decode cX9_shift 106 = .ok (.iload 4, 2) := by decide +kernel
theorem dX9_shift_108 : decode cX9_shift 108 = .ok (.iload 5, 2) := by decide +kernel
theorem dX9_shift_110 : decode cX9_shift 110 = .ok (.invokestatic 374, 3) := by decide +kernel
theorem dX9_shift_113 : decode cX9_shift 113 = .ok (.iload 5, 2) := by decide +kernel
theorem dX9_shift_115 : decode cX9_shift 115 = .ok (.ireturn, 1) := by decide +kernel
theorem dX9_image_0 : decode cX9_image 0 = .ok (.aload_n 0, 1) := by decide +kernel
theorem dX9_image_1 : decode cX9_image 1 = .ok (.getfield 18, 3) := by decide +kernel
theorem dX9_image_4 : decode cX9_image 4 = .ok (.aload_n 0, 1) := by decide +kernel
theorem dX9_image_5 : decode cX9_image 5 = .ok (.getfield 12, 3) := by decide +kernel
theorem dX9_image_8 : decode cX9_image 8 = .ok (.invokevirtual 380, 3) := by decide +kernel
theorem dX9_image_11 : decode cX9_image 11 = .ok (.aload_n 0, 1) := by decide +kernel
theorem dX9_image_12 : decode cX9_image 12 = .ok (.iconst 1, 1) := by decide +kernel
theorem dX9_image_13 : decode cX9_image 13 = .ok (.putfield 383, 3) := by decide +kernel
theorem dX9_image_16 : decode cX9_image 16 = .ok (.aload_n 0, 1) := by decide +kernel
theorem dX9_image_17 : decode cX9_image 17 = .ok (.getfield 12, 3) := by decide +kernel
theorem dX9_image_20 : decode cX9_image 20 = .ok (.invokevirtual 338, 3) := by decide +kernel
theorem dX9_image_23 : decode cX9_image 23 = .ok (.ireturn, 1) := by decide +kernel
theorem dX9_undo_0 : decode cX9_undo 0 = .ok (.aload_n 0, 1) := by decide +kernel
theorem dX9_undo_1 : decode cX9_undo 1 = .ok (.getfield 383, 3) := by decide +kernel
theorem dX9_undo_4 : decode cX9_undo 4 = .ok (.ifCond .ne 6, 3) := by decide +kernel
theorem dX9_undo_7 : decode cX9_undo 7 = .ok (.bipush (-3), 2) := by decide +kernel
theorem dX9_undo_9 : decode cX9_undo 9 = .ok (.ireturn, 1) := by decide +kernel
theorem dX9_undo_10 : decode cX9_undo 10 = .ok (.aload_n 0, 1) := by decide +kernel
theorem dX9_undo_11 : decode cX9_undo 11 = .ok (.getfield 12, 3) := by decide +kernel
theorem dX9_undo_14 : decode cX9_undo 14 = .ok (.aload_n 0, 1) := by decide +kernel
theorem dX9_undo_15 : decode cX9_undo 15 = .ok (.getfield 18, 3) := by decide +kernel
theorem dX9_undo_18 : decode cX9_undo 18 = .ok (.invokevirtual 380, 3) := by decide +kernel
theorem dX9_undo_21 : decode cX9_undo 21 = .ok (.aload_n 0, 1) := by decide +kernel
theorem dX9_undo_22 : decode cX9_undo 22 = .ok (.getfield 12, 3) := by decide +kernel
theorem dX9_undo_25 : decode cX9_undo 25 = .ok (.invokevirtual 338, 3) := by decide +kernel
theorem dX9_undo_28 : decode cX9_undo 28 = .ok (.ireturn, 1) := by decide +kernel
theorem dX9_mayHoldChildren_0 : decode cX9_mayHoldChildren 0 = .ok (.iload_n 1, 1) := by decide +kernel
theorem dX9_mayHoldChildren_1 : decode cX9_mayHoldChildren 1 = .ok (.iconst (-1), 1) := by decide +kernel
theorem dX9_mayHoldChildren_2 : decode cX9_mayHoldChildren 2 = .ok (.if_icmp .eq 14, 3) := by decide +kernel
theorem dX9_mayHoldChildren_5 : decode cX9_mayHoldChildren 5 = .ok (.aload_n 0, 1) := by decide +kernel
theorem dX9_mayHoldChildren_6 : decode cX9_mayHoldChildren 6 = .ok (.getfield 12, 3) := by decide +kernel
theorem dX9_mayHoldChildren_9 : decode cX9_mayHoldChildren 9 = .ok (.iload_n 1, 1) := by decide +kernel
theorem dX9_mayHoldChildren_10 : decode cX9_mayHoldChildren 10 = .ok (.invokevirtual 83, 3) := by decide +kernel
theorem dX9_mayHoldChildren_13 : decode cX9_mayHoldChildren 13 = .ok (.ifCond .eq 7, 3) := by decide +kernel
theorem dX9_mayHoldChildren_16 : decode cX9_mayHoldChildren 16 = .ok (.iconst 1, 1) := by decide +kernel
theorem dX9_mayHoldChildren_17 : decode cX9_mayHoldChildren 17 = .ok (.goto 4, 3) := by decide +kernel
theorem dX9_mayHoldChildren_20 : decode cX9_mayHoldChildren 20 = .ok (.iconst 0, 1) := by decide +kernel
theorem dX9_mayHoldChildren_21 : decode cX9_mayHoldChildren 21 = .ok (.ireturn, 1) := by decide +kernel
theorem dX9_isTape_0 : decode cX9_isTape 0 = .ok (.iload_n 0, 1) := by decide +kernel
theorem dX9_isTape_1 : decode cX9_isTape 1 = .ok (.ifCond .lt 12, 3) := by decide +kernel
theorem dX9_isTape_4 : decode cX9_isTape 4 = .ok (.iload_n 0, 1) := by decide +kernel
theorem dX9_isTape_5 : decode cX9_isTape 5 = .ok (.iconst 4, 1) := by decide +kernel
theorem dX9_isTape_6 : decode cX9_isTape 6 = .ok (.if_icmp .ge 7, 3) := by decide +kernel
theorem dX9_isTape_9 : decode cX9_isTape 9 = .ok (.iconst 1, 1) := by decide +kernel
theorem dX9_isTape_10 : decode cX9_isTape 10 = .ok (.goto 4, 3) := by decide +kernel
theorem dX9_isTape_13 : decode cX9_isTape 13 = .ok (.iconst 0, 1) := by decide +kernel
theorem dX9_isTape_14 : decode cX9_isTape 14 = .ok (.ireturn, 1) := by decide +kernel
theorem dX9_bitOf_0 : decode cX9_bitOf 0 = .ok (.iload_n 0, 1) := by decide +kernel
theorem dX9_bitOf_1 : decode cX9_bitOf 1 = .ok (.iload_n 1, 1) := by decide +kernel
theorem dX9_bitOf_2 : decode cX9_bitOf 2 = .ok (.iushr, 1) := by decide +kernel
theorem dX9_bitOf_3 : decode cX9_bitOf 3 = .ok (.iconst 1, 1) := by decide +kernel
theorem dX9_bitOf_4 : decode cX9_bitOf 4 = .ok (.iand, 1) := by decide +kernel
theorem dX9_bitOf_5 : decode cX9_bitOf 5 = .ok (.ireturn, 1) := by decide +kernel
theorem dX9_firstOtherwise_0 : decode cX9_firstOtherwise 0 = .ok (.iconst 0, 1) := by decide +kernel
theorem dX9_firstOtherwise_1 : decode cX9_firstOtherwise 1 = .ok (.istore_n 3, 1) := by decide +kernel
theorem dX9_firstOtherwise_2 : decode cX9_firstOtherwise 2 = .ok (.iconst 0, 1) := by decide +kernel
theorem dX9_firstOtherwise_3 : decode cX9_firstOtherwise 3 = .ok (.istore 4, 2) := by decide +kernel
theorem dX9_firstOtherwise_5 : decode cX9_firstOtherwise 5 = .ok (.iload 4, 2) := by decide +kernel
theorem dX9_firstOtherwise_7 : decode cX9_firstOtherwise 7 = .ok (.aload_n 0, 1) := by decide +kernel
theorem dX9_firstOtherwise_8 : decode cX9_firstOtherwise 8 = .ok (.getfield 12, 3) := by decide +kernel
theorem dX9_firstOtherwise_11 : decode cX9_firstOtherwise 11 = .ok (.getfield 75, 3) := by decide +kernel
theorem dX9_firstOtherwise_14 : decode cX9_firstOtherwise 14 = .ok (.if_icmp .ge 74, 3) := by decide +kernel
theorem dX9_firstOtherwise_17 : decode cX9_firstOtherwise 17 = .ok (.aload_n 0, 1) := by decide +kernel
theorem dX9_firstOtherwise_18 : decode cX9_firstOtherwise 18 = .ok (.getfield 12, 3) := by decide +kernel
theorem dX9_firstOtherwise_21 : decode cX9_firstOtherwise 21 = .ok (.iload 4, 2) := by decide +kernel
theorem dX9_firstOtherwise_23 : decode cX9_firstOtherwise 23 = .ok (.invokevirtual 83, 3) := by decide +kernel
theorem dX9_firstOtherwise_26 : decode cX9_firstOtherwise 26 = .ok (.ifCond .ne 6, 3) := by decide +kernel
theorem dX9_firstOtherwise_29 : decode cX9_firstOtherwise 29 = .ok (.goto 53, 3) := by decide +kernel
theorem dX9_firstOtherwise_32 : decode cX9_firstOtherwise 32 = .ok (.iload_n 2, 1) := by decide +kernel
theorem dX9_firstOtherwise_33 : decode cX9_firstOtherwise 33 = .ok (.aload_n 1, 1) := by decide +kernel
theorem dX9_firstOtherwise_34 : decode cX9_firstOtherwise 34 = .ok (.getfield 386, 3) := by decide +kernel
theorem dX9_firstOtherwise_37 : decode cX9_firstOtherwise 37 = .ok (.iload_n 3, 1) := by decide +kernel
theorem dX9_firstOtherwise_38 : decode cX9_firstOtherwise 38 = .ok (.isub, 1) := by decide +kernel
theorem dX9_firstOtherwise_39 : decode cX9_firstOtherwise 39 = .ok (.if_icmp .lt 8, 3) := by decide +kernel
theorem dX9_firstOtherwise_42 : decode cX9_firstOtherwise 42 = .ok (.bipush 100, 2) := by decide +kernel
theorem dX9_firstOtherwise_44 : decode cX9_firstOtherwise 44 = .ok (.iload_n 3, 1) := by decide +kernel
theorem dX9_firstOtherwise_45 : decode cX9_firstOtherwise 45 = .ok (.iadd, 1) := by decide +kernel
theorem dX9_firstOtherwise_46 : decode cX9_firstOtherwise 46 = .ok (.ireturn, 1) := by decide +kernel
theorem dX9_firstOtherwise_47 : decode cX9_firstOtherwise 47 = .ok (.aload_n 1, 1) := by decide +kernel
theorem dX9_firstOtherwise_48 : decode cX9_firstOtherwise 48 = .ok (.getfield 363, 3) := by decide +kernel
theorem dX9_firstOtherwise_51 : decode cX9_firstOtherwise 51 = .ok (.iload_n 2, 1) := by decide +kernel
theorem dX9_firstOtherwise_52 : decode cX9_firstOtherwise 52 = .ok (.iload_n 3, 1) := by decide +kernel
theorem dX9_firstOtherwise_53 : decode cX9_firstOtherwise 53 = .ok (.iadd, 1) := by decide +kernel
theorem dX9_firstOtherwise_54 : decode cX9_firstOtherwise 54 = .ok (.laload, 1) := by decide +kernel
theorem dX9_firstOtherwise_55 : decode cX9_firstOtherwise 55 = .ok (.aload_n 0, 1) := by decide +kernel
theorem dX9_firstOtherwise_56 : decode cX9_firstOtherwise 56 = .ok (.getfield 12, 3) := by decide +kernel
theorem dX9_firstOtherwise_59 : decode cX9_firstOtherwise 59 = .ok (.getfield 86, 3) := by decide +kernel
theorem dX9_firstOtherwise_62 : decode cX9_firstOtherwise 62 = .ok (.iload 4, 2) := by decide +kernel
theorem dX9_firstOtherwise_64 : decode cX9_firstOtherwise 64 = .ok (.aaload, 1) := by decide +kernel
theorem dX9_firstOtherwise_65 : decode cX9_firstOtherwise 65 = .ok (.getfield 211, 3) := by decide +kernel
theorem dX9_firstOtherwise_68 : decode cX9_firstOtherwise 68 = .ok (.getfield 233, 3) := by decide +kernel
theorem dX9_firstOtherwise_71 : decode cX9_firstOtherwise 71 = .ok (.i2l, 1) := by decide +kernel
theorem dX9_firstOtherwise_72 : decode cX9_firstOtherwise 72 = .ok (.lcmp, 1) := by decide +kernel
theorem dX9_firstOtherwise_73 : decode cX9_firstOtherwise 73 = .ok (.ifCond .eq 6, 3) := by decide +kernel
theorem dX9_firstOtherwise_76 : decode cX9_firstOtherwise 76 = .ok (.iload 4, 2) := by decide +kernel
theorem dX9_firstOtherwise_78 : decode cX9_firstOtherwise 78 = .ok (.ireturn, 1) := by decide +kernel
theorem dX9_firstOtherwise_79 : decode cX9_firstOtherwise 79 = .ok (.iinc 3 1, 3) := by decide +kernel
theorem dX9_firstOtherwise_82 : decode cX9_firstOtherwise 82 = .ok (.iinc 4 1, 3) := by decide +kernel
theorem dX9_firstOtherwise_85 : decode cX9_firstOtherwise 85 = .ok (.goto (-80), 3) := by decide +kernel
theorem dX9_firstOtherwise_88 : decode cX9_firstOtherwise 88 = .ok (.bipush (-5), 2) := by decide +kernel
theorem dX9_firstOtherwise_90 : decode cX9_firstOtherwise 90 = .ok (.ireturn, 1) := by decide +kernel
theorem dX9_held_0 : decode cX9_held 0 = .ok (.iload_n 0, 1) := by decide +kernel
theorem dX9_held_1 : decode cX9_held 1 = .ok (.iload_n 1, 1) := by decide +kernel
theorem dX9_held_2 : decode cX9_held 2 = .ok (.if_icmp .ge 5, 3) := by decide +kernel
theorem dX9_held_5 : decode cX9_held 5 = .ok (.iload_n 1, 1) := by decide +kernel
theorem dX9_held_6 : decode cX9_held 6 = .ok (.ireturn, 1) := by decide +kernel
theorem dX9_held_7 : decode cX9_held 7 = .ok (.iload_n 0, 1) := by decide +kernel
theorem dX9_held_8 : decode cX9_held 8 = .ok (.iload_n 2, 1) := by decide +kernel
theorem dX9_held_9 : decode cX9_held 9 = .ok (.if_icmp .le 7, 3) := by decide +kernel
theorem dX9_held_12 : decode cX9_held 12 = .ok (.iload_n 2, 1) := by decide +kernel
theorem dX9_held_13 : decode cX9_held 13 = .ok (.goto 4, 3) := by decide +kernel
theorem dX9_held_16 : decode cX9_held 16 = .ok (.iload_n 0, 1) := by decide +kernel
theorem dX9_held_17 : decode cX9_held 17 = .ok (.ireturn, 1) := by decide +kernel
theorem dX9_timesBy_0 : decode cX9_timesBy 0 = .ok (.iload_n 2, 1) := by decide +kernel
theorem dX9_timesBy_1 : decode cX9_timesBy 1 = .ok (.ifCond .ne 7, 3) := by decide +kernel
theorem dX9_timesBy_4 : decode cX9_timesBy 4 = .ok (.iconst 0, 1) := by decide +kernel
theorem dX9_timesBy_5 : decode cX9_timesBy 5 = .ok (.goto 8, 3) := by decide +kernel
theorem dX9_timesBy_8 : decode cX9_timesBy 8 = .ok (.iload_n 0, 1) := by decide +kernel
theorem dX9_timesBy_9 : decode cX9_timesBy 9 = .ok (.iload_n 1, 1) := by decide +kernel
theorem dX9_timesBy_10 : decode cX9_timesBy 10 = .ok (.imul, 1) := by decide +kernel
theorem dX9_timesBy_11 : decode cX9_timesBy 11 = .ok (.iload_n 2, 1) := by decide +kernel
theorem dX9_timesBy_12 : decode cX9_timesBy 12 = .ok (.idiv, 1) := by decide +kernel
theorem dX9_timesBy_13 : decode cX9_timesBy 13 = .ok (.ireturn, 1) := by decide +kernel
theorem dX9_power_0 : decode cX9_power 0 = .ok (.lconst 1, 1) := by decide +kernel
theorem dX9_power_1 : decode cX9_power 1 = .ok (.lstore_n 3, 1) := by decide +kernel
theorem dX9_power_2 : decode cX9_power 2 = .ok (.iconst 0, 1) := by decide +kernel
theorem dX9_power_3 : decode cX9_power 3 = .ok (.istore 5, 2) := by decide +kernel
theorem dX9_power_5 : decode cX9_power 5 = .ok (.iload 5, 2) := by decide +kernel
theorem dX9_power_7 : decode cX9_power 7 = .ok (.iload_n 2, 1) := by decide +kernel
theorem dX9_power_8 : decode cX9_power 8 = .ok (.if_icmp .ge 13, 3) := by decide +kernel
theorem dX9_power_11 : decode cX9_power 11 = .ok (.lload_n 3, 1) := by decide +kernel
theorem dX9_power_12 : decode cX9_power 12 = .ok (.lload_n 0, 1) := by decide +kernel
theorem dX9_power_13 : decode cX9_power 13 = .ok (.lmul, 1) := by decide +kernel
theorem dX9_power_14 : decode cX9_power 14 = .ok (.lstore_n 3, 1) := by decide +kernel
theorem dX9_power_15 : decode cX9_power 15 = .ok (.iinc 5 1, 3) := by decide +kernel
theorem dX9_power_18 : decode cX9_power 18 = .ok (.goto (-13), 3) := by decide +kernel
theorem dX9_power_21 : decode cX9_power 21 = .ok (.lload_n 3, 1) := by decide +kernel
theorem dX9_power_22 : decode cX9_power 22 = .ok (.lreturn, 1) := by decide +kernel
theorem dX9_partOfFraction_0 : decode cX9_partOfFraction 0 = .ok (.lload_n 0, 1) := by decide +kernel
theorem dX9_partOfFraction_1 : decode cX9_partOfFraction 1 = .ok (.lload_n 2, 1) := by decide +kernel
theorem dX9_partOfFraction_2 : decode cX9_partOfFraction 2 = .ok (.invokestatic 387, 3) := by decide +kernel
theorem dX9_partOfFraction_5 : decode cX9_partOfFraction 5 = .ok (.lstore 5, 2) := by decide +kernel
theorem dX9_partOfFraction_7 : decode cX9_partOfFraction 7 = .ok (.lload 5, 2) := by decide +kernel
theorem dX9_partOfFraction_9 : decode cX9_partOfFraction 9 = .ok (.lconst 0, 1) := by decide +kernel
theorem dX9_partOfFraction_10 : decode cX9_partOfFraction 10 = .ok (.lcmp, 1) := by decide +kernel
theorem dX9_partOfFraction_11 : decode cX9_partOfFraction 11 = .ok (.ifCond .ne 7, 3) := by decide +kernel
theorem dX9_partOfFraction_14 : decode cX9_partOfFraction 14 = .ok (.ldc2_w 315, 3) := by decide +kernel
theorem dX9_partOfFraction_17 : decode cX9_partOfFraction 17 = .ok (.lreturn, 1) := by decide +kernel
theorem dX9_partOfFraction_18 : decode cX9_partOfFraction 18 = .ok (.iload 4, 2) := by decide +kernel
theorem dX9_partOfFraction_20 : decode cX9_partOfFraction 20 = .ok (.ifCond .ne 7, 3) := by decide +kernel
theorem dX9_partOfFraction_23 : decode cX9_partOfFraction 23 = .ok (.lload_n 0, 1) := by decide +kernel
theorem dX9_partOfFraction_24 : decode cX9_partOfFraction 24 = .ok (.goto 4, 3) := by decide +kernel
theorem dX9_partOfFraction_27 : decode cX9_partOfFraction 27 = .ok (.lload_n 2, 1) := by decide +kernel
theorem dX9_partOfFraction_28 : decode cX9_partOfFraction 28 = .ok (.lload 5, 2) := by decide +kernel
theorem dX9_partOfFraction_30 : decode cX9_partOfFraction 30 = .ok (.ldiv, 1) := by decide +kernel
theorem dX9_partOfFraction_31 : decode cX9_partOfFraction 31 = .ok (.lreturn, 1) := by decide +kernel
theorem dX9_commonDivisor_0 : decode cX9_commonDivisor 0 = .ok (.lload_n 0, 1) := by decide +kernel
theorem dX9_commonDivisor_1 : decode cX9_commonDivisor 1 = .ok (.lstore 4, 2) := by decide +kernel
theorem dX9_commonDivisor_3 : decode cX9_commonDivisor 3 = .ok (.lload_n 2, 1) := by decide +kernel
theorem dX9_commonDivisor_4 : decode cX9_commonDivisor 4 = .ok (.lstore 6, 2) := by decide +kernel
theorem dX9_commonDivisor_6 : decode cX9_commonDivisor 6 = .ok (.iconst 0, 1) := by decide +kernel
theorem dX9_commonDivisor_7 : decode cX9_commonDivisor 7 = .ok (.istore 8, 2) := by decide +kernel
theorem dX9_commonDivisor_9 : decode cX9_commonDivisor 9 = .ok (.iload 8, 2) := by decide +kernel
theorem dX9_commonDivisor_11 : decode cX9_commonDivisor 11 = .ok (.bipush 100, 2) := by decide +kernel
theorem dX9_commonDivisor_13 : decode cX9_commonDivisor 13 = .ok (.if_icmp .ge 31, 3) := by decide +kernel
theorem dX9_commonDivisor_16 : decode cX9_commonDivisor 16 = .ok (.lload 6, 2) := by decide +kernel
theorem dX9_commonDivisor_18 : decode cX9_commonDivisor 18 = .ok (.lconst 0, 1) := by decide +kernel
theorem dX9_commonDivisor_19 : decode cX9_commonDivisor 19 = .ok (.lcmp, 1) := by decide +kernel
theorem dX9_commonDivisor_20 : decode cX9_commonDivisor 20 = .ok (.ifCond .eq 24, 3) := by decide +kernel
theorem dX9_commonDivisor_23 : decode cX9_commonDivisor 23 = .ok (.lload 4, 2) := by decide +kernel
theorem dX9_commonDivisor_25 : decode cX9_commonDivisor 25 = .ok (.lload 6, 2) := by decide +kernel
theorem dX9_commonDivisor_27 : decode cX9_commonDivisor 27 = .ok (.lrem, 1) := by decide +kernel
theorem dX9_commonDivisor_28 : decode cX9_commonDivisor 28 = .ok (.lstore 9, 2) := by decide +kernel
theorem dX9_commonDivisor_30 : decode cX9_commonDivisor 30 = .ok (.lload 6, 2) := by decide +kernel
theorem dX9_commonDivisor_32 : decode cX9_commonDivisor 32 = .ok (.lstore 4, 2) := by decide +kernel
theorem dX9_commonDivisor_34 : decode cX9_commonDivisor 34 = .ok (.lload 9, 2) := by decide +kernel
theorem dX9_commonDivisor_36 : decode cX9_commonDivisor 36 = .ok (.lstore 6, 2) := by decide +kernel
theorem dX9_commonDivisor_38 : decode cX9_commonDivisor 38 = .ok (.iinc 8 1, 3) := by decide +kernel
theorem dX9_commonDivisor_41 : decode cX9_commonDivisor 41 = .ok (.goto (-32), 3) := by decide +kernel
theorem dX9_commonDivisor_44 : decode cX9_commonDivisor 44 = .ok (.lload 4, 2) := by decide +kernel
theorem dX9_commonDivisor_46 : decode cX9_commonDivisor 46 = .ok (.lreturn, 1) := by decide +kernel
theorem dJ6_bitCount_0f7a4_0 : decode cJ6_bitCount_0f7a4 0 = .ok (.iload_n 0, 1) := by decide +kernel
theorem dJ6_bitCount_0f7a4_1 : decode cJ6_bitCount_0f7a4 1 = .ok (.iload_n 0, 1) := by decide +kernel
theorem dJ6_bitCount_0f7a4_2 : decode cJ6_bitCount_0f7a4 2 = .ok (.iconst 1, 1) := by decide +kernel
theorem dJ6_bitCount_0f7a4_3 : decode cJ6_bitCount_0f7a4 3 = .ok (.iushr, 1) := by decide +kernel
theorem dJ6_bitCount_0f7a4_4 : decode cJ6_bitCount_0f7a4 4 = .ok (.ldc_w 265, 3) := by decide +kernel
theorem dJ6_bitCount_0f7a4_7 : decode cJ6_bitCount_0f7a4 7 = .ok (.iand, 1) := by decide +kernel
theorem dJ6_bitCount_0f7a4_8 : decode cJ6_bitCount_0f7a4 8 = .ok (.isub, 1) := by decide +kernel
theorem dJ6_bitCount_0f7a4_9 : decode cJ6_bitCount_0f7a4 9 = .ok (.istore_n 0, 1) := by decide +kernel
theorem dJ6_bitCount_0f7a4_10 : decode cJ6_bitCount_0f7a4 10 = .ok (.iload_n 0, 1) := by decide +kernel
theorem dJ6_bitCount_0f7a4_11 : decode cJ6_bitCount_0f7a4 11 = .ok (.ldc_w 266, 3) := by decide +kernel
theorem dJ6_bitCount_0f7a4_14 : decode cJ6_bitCount_0f7a4 14 = .ok (.iand, 1) := by decide +kernel
theorem dJ6_bitCount_0f7a4_15 : decode cJ6_bitCount_0f7a4 15 = .ok (.iload_n 0, 1) := by decide +kernel
theorem dJ6_bitCount_0f7a4_16 : decode cJ6_bitCount_0f7a4 16 = .ok (.iconst 2, 1) := by decide +kernel
theorem dJ6_bitCount_0f7a4_17 : decode cJ6_bitCount_0f7a4 17 = .ok (.iushr, 1) := by decide +kernel
theorem dJ6_bitCount_0f7a4_18 : decode cJ6_bitCount_0f7a4 18 = .ok (.ldc_w 266, 3) := by decide +kernel
theorem dJ6_bitCount_0f7a4_21 : decode cJ6_bitCount_0f7a4 21 = .ok (.iand, 1) := by decide +kernel
theorem dJ6_bitCount_0f7a4_22 : decode cJ6_bitCount_0f7a4 22 = .ok (.iadd, 1) := by decide +kernel
theorem dJ6_bitCount_0f7a4_23 : decode cJ6_bitCount_0f7a4 23 = .ok (.istore_n 0, 1) := by decide +kernel
theorem dJ6_bitCount_0f7a4_24 : decode cJ6_bitCount_0f7a4 24 = .ok (.iload_n 0, 1) := by decide +kernel
theorem dJ6_bitCount_0f7a4_25 : decode cJ6_bitCount_0f7a4 25 = .ok (.iload_n 0, 1) := by decide +kernel
theorem dJ6_bitCount_0f7a4_26 : decode cJ6_bitCount_0f7a4 26 = .ok (.iconst 4, 1) := by decide +kernel
theorem dJ6_bitCount_0f7a4_27 : decode cJ6_bitCount_0f7a4 27 = .ok (.iushr, 1) := by decide +kernel
theorem dJ6_bitCount_0f7a4_28 : decode cJ6_bitCount_0f7a4 28 = .ok (.iadd, 1) := by decide +kernel
theorem dJ6_bitCount_0f7a4_29 : decode cJ6_bitCount_0f7a4 29 = .ok (.ldc_w 267, 3) := by decide +kernel
theorem dJ6_bitCount_0f7a4_32 : decode cJ6_bitCount_0f7a4 32 = .ok (.iand, 1) := by decide +kernel
theorem dJ6_bitCount_0f7a4_33 : decode cJ6_bitCount_0f7a4 33 = .ok (.istore_n 0, 1) := by decide +kernel
theorem dJ6_bitCount_0f7a4_34 : decode cJ6_bitCount_0f7a4 34 = .ok (.iload_n 0, 1) := by decide +kernel
theorem dJ6_bitCount_0f7a4_35 : decode cJ6_bitCount_0f7a4 35 = .ok (.iload_n 0, 1) := by decide +kernel
theorem dJ6_bitCount_0f7a4_36 : decode cJ6_bitCount_0f7a4 36 = .ok (.bipush 8, 2) := by decide +kernel
theorem dJ6_bitCount_0f7a4_38 : decode cJ6_bitCount_0f7a4 38 = .ok (.iushr, 1) := by decide +kernel
theorem dJ6_bitCount_0f7a4_39 : decode cJ6_bitCount_0f7a4 39 = .ok (.iadd, 1) := by decide +kernel
theorem dJ6_bitCount_0f7a4_40 : decode cJ6_bitCount_0f7a4 40 = .ok (.istore_n 0, 1) := by decide +kernel
theorem dJ6_bitCount_0f7a4_41 : decode cJ6_bitCount_0f7a4 41 = .ok (.iload_n 0, 1) := by decide +kernel
theorem dJ6_bitCount_0f7a4_42 : decode cJ6_bitCount_0f7a4 42 = .ok (.iload_n 0, 1) := by decide +kernel
theorem dJ6_bitCount_0f7a4_43 : decode cJ6_bitCount_0f7a4 43 = .ok (.bipush 16, 2) := by decide +kernel
theorem dJ6_bitCount_0f7a4_45 : decode cJ6_bitCount_0f7a4 45 = .ok (.iushr, 1) := by decide +kernel
theorem dJ6_bitCount_0f7a4_46 : decode cJ6_bitCount_0f7a4 46 = .ok (.iadd, 1) := by decide +kernel
theorem dJ6_bitCount_0f7a4_47 : decode cJ6_bitCount_0f7a4 47 = .ok (.istore_n 0, 1) := by decide +kernel
theorem dJ6_bitCount_0f7a4_48 : decode cJ6_bitCount_0f7a4 48 = .ok (.iload_n 0, 1) := by decide +kernel
theorem dJ6_bitCount_0f7a4_49 : decode cJ6_bitCount_0f7a4 49 = .ok (.bipush 63, 2) := by decide +kernel
theorem dJ6_bitCount_0f7a4_51 : decode cJ6_bitCount_0f7a4 51 = .ok (.iand, 1) := by decide +kernel
theorem dJ6_bitCount_0f7a4_52 : decode cJ6_bitCount_0f7a4 52 = .ok (.ireturn, 1) := by decide +kernel
theorem dJ9_max_7cf53_0 : decode cJ9_max_7cf53 0 = .ok (.iload_n 0, 1) := by decide +kernel
theorem dJ9_max_7cf53_1 : decode cJ9_max_7cf53 1 = .ok (.iload_n 1, 1) := by decide +kernel
theorem dJ9_max_7cf53_2 : decode cJ9_max_7cf53 2 = .ok (.if_icmp .lt 7, 3) := by decide +kernel
theorem dJ9_max_7cf53_5 : decode cJ9_max_7cf53 5 = .ok (.iload_n 0, 1) := by decide +kernel
theorem dJ9_max_7cf53_6 : decode cJ9_max_7cf53 6 = .ok (.goto 4, 3) := by decide +kernel
theorem dJ9_max_7cf53_9 : decode cJ9_max_7cf53 9 = .ok (.iload_n 1, 1) := by decide +kernel
theorem dJ9_max_7cf53_10 : decode cJ9_max_7cf53 10 = .ok (.ireturn, 1) := by decide +kernel
theorem dJ9_min_7cf53_0 : decode cJ9_min_7cf53 0 = .ok (.iload_n 0, 1) := by decide +kernel
theorem dJ9_min_7cf53_1 : decode cJ9_min_7cf53 1 = .ok (.iload_n 1, 1) := by decide +kernel
theorem dJ9_min_7cf53_2 : decode cJ9_min_7cf53 2 = .ok (.if_icmp .gt 7, 3) := by decide +kernel
theorem dJ9_min_7cf53_5 : decode cJ9_min_7cf53 5 = .ok (.iload_n 0, 1) := by decide +kernel
theorem dJ9_min_7cf53_6 : decode cJ9_min_7cf53 6 = .ok (.goto 4, 3) := by decide +kernel
theorem dJ9_min_7cf53_9 : decode cJ9_min_7cf53 9 = .ok (.iload_n 1, 1) := by decide +kernel
theorem dJ9_min_7cf53_10 : decode cJ9_min_7cf53 10 = .ok (.ireturn, 1) := by decide +kernel
theorem dJ0_length_8abf5_0 : decode cJ0_length_8abf5 0 = .ok (.aload_n 0, 1) := by decide +kernel
theorem dJ0_length_8abf5_1 : decode cJ0_length_8abf5 1 = .ok (.getfield 9, 3) := by decide +kernel
theorem dJ0_length_8abf5_4 : decode cJ0_length_8abf5 4 = .ok (.arraylength, 1) := by decide +kernel
theorem dJ0_length_8abf5_5 : decode cJ0_length_8abf5 5 = .ok (.aload_n 0, 1) := by decide +kernel
theorem dJ0_length_8abf5_6 : decode cJ0_length_8abf5 6 = .ok (.invokevirtual 335, 3) := by decide +kernel
theorem dJ0_length_8abf5_9 : decode cJ0_length_8abf5 9 = .ok (.ishr, 1) := by decide +kernel
theorem dJ0_length_8abf5_10 : decode cJ0_length_8abf5 10 = .ok (.ireturn, 1) := by decide +kernel
theorem dJ0_charAt_5068e_0 : decode cJ0_charAt_5068e 0 = .ok (.aload_n 0, 1) := by decide +kernel
theorem dJ0_charAt_5068e_1 : decode cJ0_charAt_5068e 1 = .ok (.invokevirtual 492, 3) := by decide +kernel
theorem dJ0_charAt_5068e_4 : decode cJ0_charAt_5068e 4 = .ok (.ifCond .eq 12, 3) := by decide +kernel
theorem dJ0_charAt_5068e_7 : decode cJ0_charAt_5068e 7 = .ok (.aload_n 0, 1) := by decide +kernel
theorem dJ0_charAt_5068e_8 : decode cJ0_charAt_5068e 8 = .ok (.getfield 9, 3) := by decide +kernel
theorem dJ0_charAt_5068e_11 : decode cJ0_charAt_5068e 11 = .ok (.iload_n 1, 1) := by decide +kernel
theorem dJ0_charAt_5068e_12 : decode cJ0_charAt_5068e 12 = .ok (.invokestatic 495, 3) := by decide +kernel
theorem dJ0_charAt_5068e_15 : decode cJ0_charAt_5068e 15 = .ok (.ireturn, 1) := by decide +kernel
theorem dJ0_charAt_5068e_16 : decode cJ0_charAt_5068e 16 = .ok (.aload_n 0, 1) := by decide +kernel
theorem dJ0_charAt_5068e_17 : decode cJ0_charAt_5068e 17 = .ok (.getfield 9, 3) := by decide +kernel
theorem dJ0_charAt_5068e_20 : decode cJ0_charAt_5068e 20 = .ok (.iload_n 1, 1) := by decide +kernel
theorem dJ0_charAt_5068e_21 : decode cJ0_charAt_5068e 21 = .ok (.invokestatic 498, 3) := by decide +kernel
theorem dJ0_charAt_5068e_24 : decode cJ0_charAt_5068e 24 = .ok (.ireturn, 1) := by decide +kernel
theorem dJ0_coder_7d493_0 : decode cJ0_coder_7d493 0 = .ok (.getstatic 38, 3) := by decide +kernel
theorem dJ0_coder_7d493_3 : decode cJ0_coder_7d493 3 = .ok (.ifCond .eq 10, 3) := by decide +kernel
theorem dJ0_coder_7d493_6 : decode cJ0_coder_7d493 6 = .ok (.aload_n 0, 1) := by decide +kernel
theorem dJ0_coder_7d493_7 : decode cJ0_coder_7d493 7 = .ok (.getfield 15, 3) := by decide +kernel
theorem dJ0_coder_7d493_10 : decode cJ0_coder_7d493 10 = .ok (.goto 4, 3) := by decide +kernel
theorem dJ0_coder_7d493_13 : decode cJ0_coder_7d493 13 = .ok (.iconst 1, 1) := by decide +kernel
theorem dJ0_coder_7d493_14 : decode cJ0_coder_7d493 14 = .ok (.ireturn, 1) := by decide +kernel
theorem dJ0_isLatin1_aae02_0 : decode cJ0_isLatin1_aae02 0 = .ok (.getstatic 38, 3) := by decide +kernel
theorem dJ0_isLatin1_aae02_3 : decode cJ0_isLatin1_aae02 3 = .ok (.ifCond .eq 14, 3) := by decide +kernel
theorem dJ0_isLatin1_aae02_6 : decode cJ0_isLatin1_aae02 6 = .ok (.aload_n 0, 1) := by decide +kernel
theorem dJ0_isLatin1_aae02_7 : decode cJ0_isLatin1_aae02 7 = .ok (.getfield 15, 3) := by decide +kernel
theorem dJ0_isLatin1_aae02_10 : decode cJ0_isLatin1_aae02 10 = .ok (.ifCond .ne 7, 3) := by decide +kernel
theorem dJ0_isLatin1_aae02_13 : decode cJ0_isLatin1_aae02 13 = .ok (.iconst 1, 1) := by decide +kernel
theorem dJ0_isLatin1_aae02_14 : decode cJ0_isLatin1_aae02 14 = .ok (.goto 4, 3) := by decide +kernel
theorem dJ0_isLatin1_aae02_17 : decode cJ0_isLatin1_aae02 17 = .ok (.iconst 0, 1) := by decide +kernel
theorem dJ0_isLatin1_aae02_18 : decode cJ0_isLatin1_aae02 18 = .ok (.ireturn, 1) := by decide +kernel
theorem dJ0_checkIndex_df160_0 : decode cJ0_checkIndex_df160 0 = .ok (.iload_n 0, 1) := by decide +kernel
theorem dJ0_checkIndex_df160_1 : decode cJ0_checkIndex_df160 1 = .ok (.iload_n 1, 1) := by decide +kernel
theorem dJ0_checkIndex_df160_2 : decode cJ0_checkIndex_df160 2 = .ok (.getstatic 1053, 3) := by decide +kernel
theorem dJ0_checkIndex_df160_5 : decode cJ0_checkIndex_df160 5 = .ok (.invokestatic 1059, 3) := by decide +kernel
theorem dJ0_checkIndex_df160_8 : decode cJ0_checkIndex_df160 8 = .ok (.pop, 1) := by decide +kernel
theorem dJ0_checkIndex_df160_9 : decode cJ0_checkIndex_df160 9 = .ok (.return_, 1) := by decide +kernel
theorem dJ1_charAt_3b067_0 : decode cJ1_charAt_3b067 0 = .ok (.iload_n 1, 1) := by decide +kernel
theorem dJ1_charAt_3b067_1 : decode cJ1_charAt_3b067 1 = .ok (.aload_n 0, 1) := by decide +kernel
theorem dJ1_charAt_3b067_2 : decode cJ1_charAt_3b067 2 = .ok (.arraylength, 1) := by decide +kernel
theorem dJ1_charAt_3b067_3 : decode cJ1_charAt_3b067 3 = .ok (.invokestatic 9, 3) := by decide +kernel
theorem dJ1_charAt_3b067_6 : decode cJ1_charAt_3b067 6 = .ok (.aload_n 0, 1) := by decide +kernel
theorem dJ1_charAt_3b067_7 : decode cJ1_charAt_3b067 7 = .ok (.iload_n 1, 1) := by decide +kernel
theorem dJ1_charAt_3b067_8 : decode cJ1_charAt_3b067 8 = .ok (.baload, 1) := by decide +kernel
theorem dJ1_charAt_3b067_9 : decode cJ1_charAt_3b067 9 = .ok (.sipush 255, 3) := by decide +kernel
theorem dJ1_charAt_3b067_12 : decode cJ1_charAt_3b067 12 = .ok (.iand, 1) := by decide +kernel
theorem dJ1_charAt_3b067_13 : decode cJ1_charAt_3b067 13 = .ok (.i2c, 1) := by decide +kernel
theorem dJ1_charAt_3b067_14 : decode cJ1_charAt_3b067 14 = .ok (.ireturn, 1) := by decide +kernel
theorem dJ2_getChar_3b067_0 : decode cJ2_getChar_3b067 0 = .ok (.getstatic 44, 3) := by decide +kernel
theorem dJ2_getChar_3b067_3 : decode cJ2_getChar_3b067 3 = .ok (.ifCond .ne 25, 3) := by decide +kernel
theorem dJ2_getChar_3b067_6 : decode cJ2_getChar_3b067 6 = .ok (.iload_n 1, 1) := by decide +kernel
theorem dJ2_getChar_3b067_7 : decode cJ2_getChar_3b067 7 = .ok (.ifCond .lt 11, 3) := by decide +kernel
theorem dJ2_getChar_3b067_10 : decode cJ2_getChar_3b067 10 = .ok (.iload_n 1, 1) := by decide +kernel
theorem dJ2_getChar_3b067_11 : decode cJ2_getChar_3b067 11 = .ok (.aload_n 0, 1) := by decide +kernel
theorem dJ2_getChar_3b067_12 : decode cJ2_getChar_3b067 12 = .ok (.invokestatic 48, 3) := by decide +kernel
theorem dJ2_getChar_3b067_15 : decode cJ2_getChar_3b067 15 = .ok (.if_icmp .lt 13, 3) := by decide +kernel
theorem dJ2_getChar_3b067_18 : decode cJ2_getChar_3b067 18 = .ok (.new 52, 3) := by decide +kernel
theorem dJ2_getChar_3b067_21 : decode cJ2_getChar_3b067 21 = .ok (.dup, 1) := by decide +kernel
theorem dJ2_getChar_3b067_22 : decode cJ2_getChar_3b067 22 = .ok (.ldc 54, 2) := by decide +kernel
theorem dJ2_getChar_3b067_24 : decode cJ2_getChar_3b067 24 = .ok (.invokespecial 56, 3) := by decide +kernel
theorem dJ2_getChar_3b067_27 : decode cJ2_getChar_3b067 27 = .ok (.athrow, 1) := by decide +kernel
theorem dJ2_getChar_3b067_28 : decode cJ2_getChar_3b067 28 = .ok (.iload_n 1, 1) := by decide +kernel
theorem dJ2_getChar_3b067_29 : decode cJ2_getChar_3b067 29 = .ok (.iconst 1, 1) := by decide +kernel
theorem dJ2_getChar_3b067_30 : decode cJ2_getChar_3b067 30 = .ok (.ishl, 1) := by decide +kernel
theorem dJ2_getChar_3b067_31 : decode cJ2_getChar_3b067 31 = .ok (.istore_n 1, 1) := by decide +kernel
theorem dJ2_getChar_3b067_32 : decode cJ2_getChar_3b067 32 = .ok (.aload_n 0, 1) := by decide +kernel
theorem dJ2_getChar_3b067_33 : decode cJ2_getChar_3b067 33 = .ok (.iload_n 1, 1) := by decide +kernel
theorem dJ2_getChar_3b067_34 : decode cJ2_getChar_3b067 34 = .ok (.iinc 1 1, 3) := by decide +kernel
theorem dJ2_getChar_3b067_37 : decode cJ2_getChar_3b067 37 = .ok (.baload, 1) := by decide +kernel
theorem dJ2_getChar_3b067_38 : decode cJ2_getChar_3b067 38 = .ok (.sipush 255, 3) := by decide +kernel
theorem dJ2_getChar_3b067_41 : decode cJ2_getChar_3b067 41 = .ok (.iand, 1) := by decide +kernel
theorem dJ2_getChar_3b067_42 : decode cJ2_getChar_3b067 42 = .ok (.getstatic 59, 3) := by decide +kernel
theorem dJ2_getChar_3b067_45 : decode cJ2_getChar_3b067 45 = .ok (.ishl, 1) := by decide +kernel
theorem dJ2_getChar_3b067_46 : decode cJ2_getChar_3b067 46 = .ok (.aload_n 0, 1) := by decide +kernel
theorem dJ2_getChar_3b067_47 : decode cJ2_getChar_3b067 47 = .ok (.iload_n 1, 1) := by decide +kernel
theorem dJ2_getChar_3b067_48 : decode cJ2_getChar_3b067 48 = .ok (.baload, 1) := by decide +kernel
theorem dJ2_getChar_3b067_49 : decode cJ2_getChar_3b067 49 = .ok (.sipush 255, 3) := by decide +kernel
theorem dJ2_getChar_3b067_52 : decode cJ2_getChar_3b067 52 = .ok (.iand, 1) := by decide +kernel
theorem dJ2_getChar_3b067_53 : decode cJ2_getChar_3b067 53 = .ok (.getstatic 63, 3) := by decide +kernel
theorem dJ2_getChar_3b067_56 : decode cJ2_getChar_3b067 56 = .ok (.ishl, 1) := by decide +kernel
theorem dJ2_getChar_3b067_57 : decode cJ2_getChar_3b067 57 = .ok (.ior, 1) := by decide +kernel
theorem dJ2_getChar_3b067_58 : decode cJ2_getChar_3b067 58 = .ok (.i2c, 1) := by decide +kernel
theorem dJ2_getChar_3b067_59 : decode cJ2_getChar_3b067 59 = .ok (.ireturn, 1) := by decide +kernel
theorem dJ2_length_9d52b_0 : decode cJ2_length_9d52b 0 = .ok (.aload_n 0, 1) := by decide +kernel
theorem dJ2_length_9d52b_1 : decode cJ2_length_9d52b 1 = .ok (.arraylength, 1) := by decide +kernel
theorem dJ2_length_9d52b_2 : decode cJ2_length_9d52b 2 = .ok (.iconst 1, 1) := by decide +kernel
theorem dJ2_length_9d52b_3 : decode cJ2_length_9d52b 3 = .ok (.ishr, 1) := by decide +kernel
theorem dJ2_length_9d52b_4 : decode cJ2_length_9d52b 4 = .ok (.ireturn, 1) := by decide +kernel
theorem dJ2_charAt_3b067_0 : decode cJ2_charAt_3b067 0 = .ok (.iload_n 1, 1) := by decide +kernel
theorem dJ2_charAt_3b067_1 : decode cJ2_charAt_3b067 1 = .ok (.aload_n 0, 1) := by decide +kernel
theorem dJ2_charAt_3b067_2 : decode cJ2_charAt_3b067 2 = .ok (.invokestatic 67, 3) := by decide +kernel
theorem dJ2_charAt_3b067_5 : decode cJ2_charAt_3b067 5 = .ok (.aload_n 0, 1) := by decide +kernel
theorem dJ2_charAt_3b067_6 : decode cJ2_charAt_3b067 6 = .ok (.iload_n 1, 1) := by decide +kernel
theorem dJ2_charAt_3b067_7 : decode cJ2_charAt_3b067 7 = .ok (.invokestatic 71, 3) := by decide +kernel
theorem dJ2_charAt_3b067_10 : decode cJ2_charAt_3b067 10 = .ok (.ireturn, 1) := by decide +kernel
theorem dJ2_checkIndex_2214a_0 : decode cJ2_checkIndex_2214a 0 = .ok (.iload_n 0, 1) := by decide +kernel
theorem dJ2_checkIndex_2214a_1 : decode cJ2_checkIndex_2214a 1 = .ok (.aload_n 1, 1) := by decide +kernel
theorem dJ2_checkIndex_2214a_2 : decode cJ2_checkIndex_2214a 2 = .ok (.invokestatic 48, 3) := by decide +kernel
theorem dJ2_checkIndex_2214a_5 : decode cJ2_checkIndex_2214a 5 = .ok (.invokestatic 414, 3) := by decide +kernel
theorem dJ2_checkIndex_2214a_8 : decode cJ2_checkIndex_2214a 8 = .ok (.return_, 1) := by decide +kernel
theorem dJ7_fill_d0a16_0 : decode cJ7_fill_d0a16 0 = .ok (.iconst 0, 1) := by decide +kernel
theorem dJ7_fill_d0a16_1 : decode cJ7_fill_d0a16 1 = .ok (.istore_n 3, 1) := by decide +kernel
theorem dJ7_fill_d0a16_2 : decode cJ7_fill_d0a16 2 = .ok (.aload_n 0, 1) := by decide +kernel
theorem dJ7_fill_d0a16_3 : decode cJ7_fill_d0a16 3 = .ok (.arraylength, 1) := by decide +kernel
theorem dJ7_fill_d0a16_4 : decode cJ7_fill_d0a16 4 = .ok (.istore 4, 2) := by decide +kernel
theorem dJ7_fill_d0a16_6 : decode cJ7_fill_d0a16 6 = .ok (.iload_n 3, 1) := by decide +kernel
theorem dJ7_fill_d0a16_7 : decode cJ7_fill_d0a16 7 = .ok (.iload 4, 2) := by decide +kernel
theorem dJ7_fill_d0a16_9 : decode cJ7_fill_d0a16 9 = .ok (.if_icmp .ge 13, 3) := by decide +kernel
theorem dJ7_fill_d0a16_12 : decode cJ7_fill_d0a16 12 = .ok (.aload_n 0, 1) := by decide +kernel
theorem dJ7_fill_d0a16_13 : decode cJ7_fill_d0a16 13 = .ok (.iload_n 3, 1) := by decide +kernel
theorem dJ7_fill_d0a16_14 : decode cJ7_fill_d0a16 14 = .ok (.lload_n 1, 1) := by decide +kernel
theorem dJ7_fill_d0a16_15 : decode cJ7_fill_d0a16 15 = .ok (.lastore, 1) := by decide +kernel
theorem dJ7_fill_d0a16_16 : decode cJ7_fill_d0a16 16 = .ok (.iinc 3 1, 3) := by decide +kernel
theorem dJ7_fill_d0a16_19 : decode cJ7_fill_d0a16 19 = .ok (.goto (-13), 3) := by decide +kernel
theorem dJ7_fill_d0a16_22 : decode cJ7_fill_d0a16 22 = .ok (.return_, 1) := by decide +kernel
theorem dJ7_fill_53178_0 : decode cJ7_fill_53178 0 = .ok (.iconst 0, 1) := by decide +kernel
theorem dJ7_fill_53178_1 : decode cJ7_fill_53178 1 = .ok (.istore_n 2, 1) := by decide +kernel
theorem dJ7_fill_53178_2 : decode cJ7_fill_53178 2 = .ok (.aload_n 0, 1) := by decide +kernel
theorem dJ7_fill_53178_3 : decode cJ7_fill_53178 3 = .ok (.arraylength, 1) := by decide +kernel
theorem dJ7_fill_53178_4 : decode cJ7_fill_53178 4 = .ok (.istore_n 3, 1) := by decide +kernel
theorem dJ7_fill_53178_5 : decode cJ7_fill_53178 5 = .ok (.iload_n 2, 1) := by decide +kernel
theorem dJ7_fill_53178_6 : decode cJ7_fill_53178 6 = .ok (.iload_n 3, 1) := by decide +kernel
theorem dJ7_fill_53178_7 : decode cJ7_fill_53178 7 = .ok (.if_icmp .ge 13, 3) := by decide +kernel
theorem dJ7_fill_53178_10 : decode cJ7_fill_53178 10 = .ok (.aload_n 0, 1) := by decide +kernel
theorem dJ7_fill_53178_11 : decode cJ7_fill_53178 11 = .ok (.iload_n 2, 1) := by decide +kernel
theorem dJ7_fill_53178_12 : decode cJ7_fill_53178 12 = .ok (.iload_n 1, 1) := by decide +kernel
theorem dJ7_fill_53178_13 : decode cJ7_fill_53178 13 = .ok (.iastore, 1) := by decide +kernel
theorem dJ7_fill_53178_14 : decode cJ7_fill_53178 14 = .ok (.iinc 2 1, 3) := by decide +kernel
theorem dJ7_fill_53178_17 : decode cJ7_fill_53178 17 = .ok (.goto (-12), 3) := by decide +kernel
theorem dJ7_fill_53178_20 : decode cJ7_fill_53178 20 = .ok (.return_, 1) := by decide +kernel
theorem dJ3_checkIndex_8e157_0 : decode cJ3_checkIndex_8e157 0 = .ok (.iload_n 0, 1) := by decide +kernel
theorem dJ3_checkIndex_8e157_1 : decode cJ3_checkIndex_8e157 1 = .ok (.ifCond .lt 8, 3) := by decide +kernel
theorem dJ3_checkIndex_8e157_4 : decode cJ3_checkIndex_8e157 4 = .ok (.iload_n 0, 1) := by decide +kernel
theorem dJ3_checkIndex_8e157_5 : decode cJ3_checkIndex_8e157 5 = .ok (.iload_n 1, 1) := by decide +kernel
theorem dJ3_checkIndex_8e157_6 : decode cJ3_checkIndex_8e157 6 = .ok (.if_icmp .lt 10, 3) := by decide +kernel
theorem dJ3_checkIndex_8e157_9 : decode cJ3_checkIndex_8e157 9 = .ok (.aload_n 2, 1) := by decide +kernel
theorem dJ3_checkIndex_8e157_10 : decode cJ3_checkIndex_8e157 10 = .ok (.iload_n 0, 1) := by decide +kernel
theorem dJ3_checkIndex_8e157_11 : decode cJ3_checkIndex_8e157 11 = .ok (.iload_n 1, 1) := by decide +kernel
theorem dJ3_checkIndex_8e157_12 : decode cJ3_checkIndex_8e157 12 = .ok (.invokestatic 95, 3) := by decide +kernel
theorem dJ3_checkIndex_8e157_15 : decode cJ3_checkIndex_8e157 15 = .ok (.athrow, 1) := by decide +kernel
theorem dJ3_checkIndex_8e157_16 : decode cJ3_checkIndex_8e157 16 = .ok (.iload_n 0, 1) := by decide +kernel
theorem dJ3_checkIndex_8e157_17 : decode cJ3_checkIndex_8e157 17 = .ok (.ireturn, 1) := by decide +kernel
