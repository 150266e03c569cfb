theorem dX0_init_0 : decode cX0_init 0 = .ok (.aload_n 0, 1) := by decide +kernel
theorem dX0_init_1 : decode cX0_init 1 = .ok (.invokespecial 3, 3) := by decide +kernel
theorem dX0_init_4 : decode cX0_init 4 = .ok (.aload_n 0, 1) := by decide +kernel
theorem dX0_init_5 : decode cX0_init 5 = .ok (.iconst 4, 1) := by decide +kernel
theorem dX0_init_6 : decode cX0_init 6 = .ok (.newarray .int, 2) := by decide +kernel
theorem dX0_init_8 : decode cX0_init 8 = .ok (.putfield 9, 3) := by decide +kernel
theorem dX0_init_11 : decode cX0_init 11 = .ok (.aload_n 0, 1) := by decide +kernel
theorem dX0_init_12 : decode cX0_init 12 = .ok (.bipush 8, 2) := by decide +kernel
theorem dX0_init_14 : decode cX0_init 14 = .ok (.newarray .int, 2) := by decide +kernel
theorem dX0_init_16 : decode cX0_init 16 = .ok (.putfield 15, 3) := by decide +kernel
theorem dX0_init_19 : decode cX0_init 19 = .ok (.aload_n 0, 1) := by decide +kernel
theorem dX0_init_20 : decode cX0_init 20 = .ok (.new 18, 3) := by decide +kernel
theorem dX0_init_23 : decode cX0_init 23 = .ok (.dup, 1) := by decide +kernel
theorem dX0_init_24 : decode cX0_init 24 = .ok (.invokespecial 20, 3) := by decide +kernel
theorem dX0_init_27 : decode cX0_init 27 = .ok (.putfield 21, 3) := by decide +kernel
theorem dX0_init_30 : decode cX0_init 30 = .ok (.aload_n 0, 1) := by decide +kernel
theorem dX0_init_31 : decode cX0_init 31 = .ok (.iload_n 1, 1) := by decide +kernel
theorem dX0_init_32 : decode cX0_init 32 = .ok (.putfield 25, 3) := by decide +kernel
theorem dX0_init_35 : decode cX0_init 35 = .ok (.return_, 1) := by decide +kernel
theorem dX0_begin_0 : decode cX0_begin 0 = .ok (.aload_n 0, 1) := by decide +kernel
theorem dX0_begin_1 : decode cX0_begin 1 = .ok (.iload_n 1, 1) := by decide +kernel
theorem dX0_begin_2 : decode cX0_begin 2 = .ok (.putfield 29, 3) := by decide +kernel
theorem dX0_begin_5 : decode cX0_begin 5 = .ok (.aload_n 0, 1) := by decide +kernel
theorem dX0_begin_6 : decode cX0_begin 6 = .ok (.iload_n 2, 1) := by decide +kernel
theorem dX0_begin_7 : decode cX0_begin 7 = .ok (.putfield 32, 3) := by decide +kernel
theorem dX0_begin_10 : decode cX0_begin 10 = .ok (.aload_n 0, 1) := by decide +kernel
theorem dX0_begin_11 : decode cX0_begin 11 = .ok (.iload_n 3, 1) := by decide +kernel
theorem dX0_begin_12 : decode cX0_begin 12 = .ok (.putfield 35, 3) := by decide +kernel
theorem dX0_begin_15 : decode cX0_begin 15 = .ok (.aload_n 0, 1) := by decide +kernel
theorem dX0_begin_16 : decode cX0_begin 16 = .ok (.iload 4, 2) := by decide +kernel
theorem dX0_begin_18 : decode cX0_begin 18 = .ok (.putfield 38, 3) := by decide +kernel
theorem dX0_begin_21 : decode cX0_begin 21 = .ok (.aload_n 0, 1) := by decide +kernel
theorem dX0_begin_22 : decode cX0_begin 22 = .ok (.iconst 0, 1) := by decide +kernel
theorem dX0_begin_23 : decode cX0_begin 23 = .ok (.putfield 41, 3) := by decide +kernel
theorem dX0_begin_26 : decode cX0_begin 26 = .ok (.aload_n 0, 1) := by decide +kernel
theorem dX0_begin_27 : decode cX0_begin 27 = .ok (.bipush 99, 2) := by decide +kernel
theorem dX0_begin_29 : decode cX0_begin 29 = .ok (.putfield 44, 3) := by decide +kernel
theorem dX0_begin_32 : decode cX0_begin 32 = .ok (.aload_n 0, 1) := by decide +kernel
theorem dX0_begin_33 : decode cX0_begin 33 = .ok (.iconst 0, 1) := by decide +kernel
theorem dX0_begin_34 : decode cX0_begin 34 = .ok (.putfield 47, 3) := by decide +kernel
theorem dX0_begin_37 : decode cX0_begin 37 = .ok (.aload_n 0, 1) := by decide +kernel
theorem dX0_begin_38 : decode cX0_begin 38 = .ok (.iconst 0, 1) := by decide +kernel
theorem dX0_begin_39 : decode cX0_begin 39 = .ok (.putfield 50, 3) := by decide +kernel
theorem dX0_begin_42 : decode cX0_begin 42 = .ok (.aload_n 0, 1) := by decide +kernel
theorem dX0_begin_43 : decode cX0_begin 43 = .ok (.getfield 21, 3) := by decide +kernel
theorem dX0_begin_46 : decode cX0_begin 46 = .ok (.invokevirtual 53, 3) := by decide +kernel
theorem dX0_begin_49 : decode cX0_begin 49 = .ok (.return_, 1) := by decide +kernel
theorem dX0_setNumbers_0 : decode cX0_setNumbers 0 = .ok (.aload_n 0, 1) := by decide +kernel
theorem dX0_setNumbers_1 : decode cX0_setNumbers 1 = .ok (.getfield 29, 3) := by decide +kernel
theorem dX0_setNumbers_4 : decode cX0_setNumbers 4 = .ok (.invokestatic 56, 3) := by decide +kernel
theorem dX0_setNumbers_7 : decode cX0_setNumbers 7 = .ok (.istore 5, 2) := by decide +kernel
theorem dX0_setNumbers_9 : decode cX0_setNumbers 9 = .ok (.aload_n 0, 1) := by decide +kernel
theorem dX0_setNumbers_10 : decode cX0_setNumbers 10 = .ok (.getfield 9, 3) := by decide +kernel
theorem dX0_setNumbers_13 : decode cX0_setNumbers 13 = .ok (.iconst 0, 1) := by decide +kernel
theorem dX0_setNumbers_14 : decode cX0_setNumbers 14 = .ok (.iload 5, 2) := by decide +kernel
theorem dX0_setNumbers_16 : decode cX0_setNumbers 16 = .ok (.ifCond .le 7, 3) := by decide +kernel
theorem dX0_setNumbers_19 : decode cX0_setNumbers 19 = .ok (.iload_n 1, 1) := by decide +kernel
theorem dX0_setNumbers_20 : decode cX0_setNumbers 20 = .ok (.goto 4, 3) := by decide +kernel
theorem dX0_setNumbers_23 : decode cX0_setNumbers 23 = .ok (.iconst 0, 1) := by decide +kernel
theorem dX0_setNumbers_24 : decode cX0_setNumbers 24 = .ok (.iastore, 1) := by decide +kernel
theorem dX0_setNumbers_25 : decode cX0_setNumbers 25 = .ok (.aload_n 0, 1) := by decide +kernel
theorem dX0_setNumbers_26 : decode cX0_setNumbers 26 = .ok (.getfield 9, 3) := by decide +kernel
theorem dX0_setNumbers_29 : decode cX0_setNumbers 29 = .ok (.iconst 1, 1) := by decide +kernel
theorem dX0_setNumbers_30 : decode cX0_setNumbers 30 = .ok (.iload 5, 2) := by decide +kernel
theorem dX0_setNumbers_32 : decode cX0_setNumbers 32 = .ok (.iconst 1, 1) := by decide +kernel
theorem dX0_setNumbers_33 : decode cX0_setNumbers 33 = .ok (.if_icmp .le 7, 3) := by decide +kernel
theorem dX0_setNumbers_36 : decode cX0_setNumbers 36 = .ok (.iload_n 2, 1) := by decide +kernel
theorem dX0_setNumbers_37 : decode cX0_setNumbers 37 = .ok (.goto 4, 3) := by decide +kernel
theorem dX0_setNumbers_40 : decode cX0_setNumbers 40 = .ok (.iconst 0, 1) := by decide +kernel
theorem dX0_setNumbers_41 : decode cX0_setNumbers 41 = .ok (.iastore, 1) := by decide +kernel
theorem dX0_setNumbers_42 : decode cX0_setNumbers 42 = .ok (.aload_n 0, 1) := by decide +kernel
theorem dX0_setNumbers_43 : decode cX0_setNumbers 43 = .ok (.getfield 9, 3) := by decide +kernel
theorem dX0_setNumbers_46 : decode cX0_setNumbers 46 = .ok (.iconst 2, 1) := by decide +kernel
theorem dX0_setNumbers_47 : decode cX0_setNumbers 47 = .ok (.iload 5, 2) := by decide +kernel
theorem dX0_setNumbers_49 : decode cX0_setNumbers 49 = .ok (.iconst 2, 1) := by decide +kernel
theorem dX0_setNumbers_50 : decode cX0_setNumbers 50 = .ok (.if_icmp .le 7, 3) := by decide +kernel
theorem dX0_setNumbers_53 : decode cX0_setNumbers 53 = .ok (.iload_n 3, 1) := by decide +kernel
theorem dX0_setNumbers_54 : decode cX0_setNumbers 54 = .ok (.goto 4, 3) := by decide +kernel
theorem dX0_setNumbers_57 : decode cX0_setNumbers 57 = .ok (.iconst 0, 1) := by decide +kernel
theorem dX0_setNumbers_58 : decode cX0_setNumbers 58 = .ok (.iastore, 1) := by decide +kernel
theorem dX0_setNumbers_59 : decode cX0_setNumbers 59 = .ok (.aload_n 0, 1) := by decide +kernel
theorem dX0_setNumbers_60 : decode cX0_setNumbers 60 = .ok (.getfield 9, 3) := by decide +kernel
theorem dX0_setNumbers_63 : decode cX0_setNumbers 63 = .ok (.iconst 3, 1) := by decide +kernel
theorem dX0_setNumbers_64 : decode cX0_setNumbers 64 = .ok (.iload 5, 2) := by decide +kernel
theorem dX0_setNumbers_66 : decode cX0_setNumbers 66 = .ok (.iconst 3, 1) := by decide +kernel
theorem dX0_setNumbers_67 : decode cX0_setNumbers 67 = .ok (.if_icmp .le 8, 3) := by decide +kernel
theorem dX0_setNumbers_70 : decode cX0_setNumbers 70 = .ok (.iload 4, 2) := by decide +kernel
theorem dX0_setNumbers_72 : decode cX0_setNumbers 72 = .ok (.goto 4, 3) := by decide +kernel
theorem dX0_setNumbers_75 : decode cX0_setNumbers 75 = .ok (.iconst 0, 1) := by decide +kernel
theorem dX0_setNumbers_76 : decode cX0_setNumbers 76 = .ok (.iastore, 1) := by decide +kernel
theorem dX0_setNumbers_77 : decode cX0_setNumbers 77 = .ok (.return_, 1) := by decide +kernel
theorem dX0_hasTold_0 : decode cX0_hasTold 0 = .ok (.iload_n 1, 1) := by decide +kernel
theorem dX0_hasTold_1 : decode cX0_hasTold 1 = .ok (.ifCond .lt 29, 3) := by decide +kernel
theorem dX0_hasTold_4 : decode cX0_hasTold 4 = .ok (.iload_n 1, 1) := by decide +kernel
theorem dX0_hasTold_5 : decode cX0_hasTold 5 = .ok (.aload_n 0, 1) := by decide +kernel
theorem dX0_hasTold_6 : decode cX0_hasTold 6 = .ok (.getfield 29, 3) := by decide +kernel
theorem dX0_hasTold_9 : decode cX0_hasTold 9 = .ok (.invokestatic 56, 3) := by decide +kernel
theorem dX0_hasTold_12 : decode cX0_hasTold 12 = .ok (.if_icmp .lt 14, 3) := by decide +kernel
theorem dX0_hasTold_15 : decode cX0_hasTold 15 = .ok (.iload_n 1, 1) := by decide +kernel
theorem dX0_hasTold_16 : decode cX0_hasTold 16 = .ok (.iconst 4, 1) := by decide +kernel
theorem dX0_hasTold_17 : decode cX0_hasTold 17 = .ok (.if_icmp .lt 13, 3) := by decide +kernel
theorem dX0_hasTold_20 : decode cX0_hasTold 20 = .ok (.iload_n 1, 1) := by decide +kernel
theorem dX0_hasTold_21 : decode cX0_hasTold 21 = .ok (.bipush 6, 2) := by decide +kernel
theorem dX0_hasTold_23 : decode cX0_hasTold 23 = .ok (.if_icmp .gt 7, 3) := by decide +kernel
theorem dX0_hasTold_26 : decode cX0_hasTold 26 = .ok (.iconst 1, 1) := by decide +kernel
theorem dX0_hasTold_27 : decode cX0_hasTold 27 = .ok (.goto 4, 3) := by decide +kernel
theorem dX0_hasTold_30 : decode cX0_hasTold 30 = .ok (.iconst 0, 1) := by decide +kernel
theorem dX0_hasTold_31 : decode cX0_hasTold 31 = .ok (.ireturn, 1) := by decide +kernel
theorem dX0_mayBeTold_0 : decode cX0_mayBeTold 0 = .ok (.iload_n 1, 1) := by decide +kernel
theorem dX0_mayBeTold_1 : decode cX0_mayBeTold 1 = .ok (.tableswitch 81 4 6 #[27, 43, 61], 27) := by decide +kernel
theorem dX0_mayBeTold_28 : decode cX0_mayBeTold 28 = .ok (.iload_n 2, 1) := by decide +kernel
theorem dX0_mayBeTold_29 : decode cX0_mayBeTold 29 = .ok (.ifCond .lt 13, 3) := by decide +kernel
theorem dX0_mayBeTold_32 : decode cX0_mayBeTold 32 = .ok (.iload_n 2, 1) := by decide +kernel
theorem dX0_mayBeTold_33 : decode cX0_mayBeTold 33 = .ok (.bipush 9, 2) := by decide +kernel
theorem dX0_mayBeTold_35 : decode cX0_mayBeTold 35 = .ok (.if_icmp .gt 7, 3) := by decide +kernel
theorem dX0_mayBeTold_38 : decode cX0_mayBeTold 38 = .ok (.iconst 1, 1) := by decide +kernel
theorem dX0_mayBeTold_39 : decode cX0_mayBeTold 39 = .ok (.goto 4, 3) := by decide +kernel
theorem dX0_mayBeTold_42 : decode cX0_mayBeTold 42 = .ok (.iconst 0, 1) := by decide +kernel
theorem dX0_mayBeTold_43 : decode cX0_mayBeTold 43 = .ok (.ireturn, 1) := by decide +kernel
theorem dX0_mayBeTold_44 : decode cX0_mayBeTold 44 = .ok (.iload_n 2, 1) := by decide +kernel
theorem dX0_mayBeTold_45 : decode cX0_mayBeTold 45 = .ok (.ifCond .lt 15, 3) := by decide +kernel
theorem dX0_mayBeTold_48 : decode cX0_mayBeTold 48 = .ok (.iload_n 2, 1) := by decide +kernel
theorem dX0_mayBeTold_49 : decode cX0_mayBeTold 49 = .ok (.aload_n 0, 1) := by decide +kernel
theorem dX0_mayBeTold_50 : decode cX0_mayBeTold 50 = .ok (.getfield 44, 3) := by decide +kernel
theorem dX0_mayBeTold_53 : decode cX0_mayBeTold 53 = .ok (.if_icmp .gt 7, 3) := by decide +kernel
theorem dX0_mayBeTold_56 : decode cX0_mayBeTold 56 = .ok (.iconst 1, 1) := by decide +kernel
theorem dX0_mayBeTold_57 : decode cX0_mayBeTold 57 = .ok (.goto 4, 3) := by decide +kernel
theorem dX0_mayBeTold_60 : decode cX0_mayBeTold 60 = .ok (.iconst 0, 1) := by decide +kernel
theorem dX0_mayBeTold_61 : decode cX0_mayBeTold 61 = .ok (.ireturn, 1) := by decide +kernel
theorem dX0_mayBeTold_62 : decode cX0_mayBeTold 62 = .ok (.iload_n 2, 1) := by decide +kernel
theorem dX0_mayBeTold_63 : decode cX0_mayBeTold 63 = .ok (.aload_n 0, 1) := by decide +kernel
theorem dX0_mayBeTold_64 : decode cX0_mayBeTold 64 = .ok (.getfield 41, 3) := by decide +kernel
theorem dX0_mayBeTold_67 : decode cX0_mayBeTold 67 = .ok (.if_icmp .lt 13, 3) := by decide +kernel
theorem dX0_mayBeTold_70 : decode cX0_mayBeTold 70 = .ok (.iload_n 2, 1) := by decide +kernel
theorem dX0_mayBeTold_71 : decode cX0_mayBeTold 71 = .ok (.bipush 99, 2) := by decide +kernel
theorem dX0_mayBeTold_73 : decode cX0_mayBeTold 73 = .ok (.if_icmp .gt 7, 3) := by decide +kernel
theorem dX0_mayBeTold_76 : decode cX0_mayBeTold 76 = .ok (.iconst 1, 1) := by decide +kernel
theorem dX0_mayBeTold_77 : decode cX0_mayBeTold 77 = .ok (.goto 4, 3) := by decide +kernel
theorem dX0_mayBeTold_80 : decode cX0_mayBeTold 80 = .ok (.iconst 0, 1) := by decide +kernel
theorem dX0_mayBeTold_81 : decode cX0_mayBeTold 81 = .ok (.ireturn, 1) := by decide +kernel
theorem dX0_mayBeTold_82 : decode cX0_mayBeTold 82 = .ok (.aload_n 0, 1) := by decide +kernel
theorem dX0_mayBeTold_83 : decode cX0_mayBeTold 83 = .ok (.getfield 29, 3) := by decide +kernel
theorem dX0_mayBeTold_86 : decode cX0_mayBeTold 86 = .ok (.iload_n 1, 1) := by decide +kernel
theorem dX0_mayBeTold_87 : decode cX0_mayBeTold 87 = .ok (.iload_n 2, 1) := by decide +kernel
theorem dX0_mayBeTold_88 : decode cX0_mayBeTold 88 = .ok (.invokestatic 62, 3) := by decide +kernel
theorem dX0_mayBeTold_91 : decode cX0_mayBeTold 91 = .ok (.ifCond .eq 16, 3) := by decide +kernel
theorem dX0_mayBeTold_94 : decode cX0_mayBeTold 94 = .ok (.aload_n 0, 1) := by decide +kernel
theorem dX0_mayBeTold_95 : decode cX0_mayBeTold 95 = .ok (.iload_n 1, 1) := by decide +kernel
theorem dX0_mayBeTold_96 : decode cX0_mayBeTold 96 = .ok (.iload_n 2, 1) := by decide +kernel
theorem dX0_mayBeTold_97 : decode cX0_mayBeTold 97 = .ok (.invokevirtual 66, 3) := by decide +kernel
theorem dX0_mayBeTold_100 : decode cX0_mayBeTold 100 = .ok (.ifCond .eq 7, 3) := by decide +kernel
theorem dX0_mayBeTold_103 : decode cX0_mayBeTold 103 = .ok (.iconst 1, 1) := by decide +kernel
theorem dX0_mayBeTold_104 : decode cX0_mayBeTold 104 = .ok (.goto 4, 3) := by decide +kernel
theorem dX0_mayBeTold_107 : decode cX0_mayBeTold 107 = .ok (.iconst 0, 1) := by decide +kernel
theorem dX0_mayBeTold_108 : decode cX0_mayBeTold 108 = .ok (.ireturn, 1) := by decide +kernel
theorem dX0_keepsOrder_0 : decode cX0_keepsOrder 0 = .ok (.aload_n 0, 1) := by decide +kernel
theorem dX0_keepsOrder_1 : decode cX0_keepsOrder 1 = .ok (.getfield 29, 3) := by decide +kernel
theorem dX0_keepsOrder_4 : decode cX0_keepsOrder 4 = .ok (.iconst 3, 1) := by decide +kernel
theorem dX0_keepsOrder_5 : decode cX0_keepsOrder 5 = .ok (.if_icmp .eq 5, 3) := by decide +kernel
theorem dX0_keepsOrder_8 : decode cX0_keepsOrder 8 = .ok (.iconst 1, 1) := by decide +kernel
theorem dX0_keepsOrder_9 : decode cX0_keepsOrder 9 = .ok (.ireturn, 1) := by decide +kernel
theorem dX0_keepsOrder_10 : decode cX0_keepsOrder 10 = .ok (.iload_n 1, 1) := by decide +kernel
theorem dX0_keepsOrder_11 : decode cX0_keepsOrder 11 = .ok (.iconst 2, 1) := by decide +kernel
theorem dX0_keepsOrder_12 : decode cX0_keepsOrder 12 = .ok (.irem, 1) := by decide +kernel
theorem dX0_keepsOrder_13 : decode cX0_keepsOrder 13 = .ok (.ifCond .ne 23, 3) := by decide +kernel
theorem dX0_keepsOrder_16 : decode cX0_keepsOrder 16 = .ok (.iload_n 2, 1) := by decide +kernel
theorem dX0_keepsOrder_17 : decode cX0_keepsOrder 17 = .ok (.aload_n 0, 1) := by decide +kernel
theorem dX0_keepsOrder_18 : decode cX0_keepsOrder 18 = .ok (.getfield 9, 3) := by decide +kernel
theorem dX0_keepsOrder_21 : decode cX0_keepsOrder 21 = .ok (.iload_n 1, 1) := by decide +kernel
theorem dX0_keepsOrder_22 : decode cX0_keepsOrder 22 = .ok (.iconst 1, 1) := by decide +kernel
theorem dX0_keepsOrder_23 : decode cX0_keepsOrder 23 = .ok (.iadd, 1) := by decide +kernel
theorem dX0_keepsOrder_24 : decode cX0_keepsOrder 24 = .ok (.iaload, 1) := by decide +kernel
theorem dX0_keepsOrder_25 : decode cX0_keepsOrder 25 = .ok (.if_icmp .gt 7, 3) := by decide +kernel
theorem dX0_keepsOrder_28 : decode cX0_keepsOrder 28 = .ok (.iconst 1, 1) := by decide +kernel
theorem dX0_keepsOrder_29 : decode cX0_keepsOrder 29 = .ok (.goto 24, 3) := by decide +kernel
theorem dX0_keepsOrder_32 : decode cX0_keepsOrder 32 = .ok (.iconst 0, 1) := by decide +kernel
theorem dX0_keepsOrder_33 : decode cX0_keepsOrder 33 = .ok (.goto 20, 3) := by decide +kernel
theorem dX0_keepsOrder_36 : decode cX0_keepsOrder 36 = .ok (.iload_n 2, 1) := by decide +kernel
theorem dX0_keepsOrder_37 : decode cX0_keepsOrder 37 = .ok (.aload_n 0, 1) := by decide +kernel
theorem dX0_keepsOrder_38 : decode cX0_keepsOrder 38 = .ok (.getfield 9, 3) := by decide +kernel
theorem dX0_keepsOrder_41 : decode cX0_keepsOrder 41 = .ok (.iload_n 1, 1) := by decide +kernel
theorem dX0_keepsOrder_42 : decode cX0_keepsOrder 42 = .ok (.iconst 1, 1) := by decide +kernel
theorem dX0_keepsOrder_43 : decode cX0_keepsOrder 43 = .ok (.isub, 1) := by decide +kernel
theorem dX0_keepsOrder_44 : decode cX0_keepsOrder 44 = .ok (.iaload, 1) := by decide +kernel
theorem dX0_keepsOrder_45 : decode cX0_keepsOrder 45 = .ok (.if_icmp .lt 7, 3) := by decide +kernel
theorem dX0_keepsOrder_48 : decode cX0_keepsOrder 48 = .ok (.iconst 1, 1) := by decide +kernel
theorem dX0_keepsOrder_49 : decode cX0_keepsOrder 49 = .ok (.goto 4, 3) := by decide +kernel
theorem dX0_keepsOrder_52 : decode cX0_keepsOrder 52 = .ok (.iconst 0, 1) := by decide +kernel
theorem dX0_keepsOrder_53 : decode cX0_keepsOrder 53 = .ok (.ireturn, 1) := by decide +kernel
theorem dX0_orNoEnd_0 : decode cX0_orNoEnd 0 = .ok (.iload_n 0, 1) := by decide +kernel
theorem dX0_orNoEnd_1 : decode cX0_orNoEnd 1 = .ok (.bipush 99, 2) := by decide +kernel
theorem dX0_orNoEnd_3 : decode cX0_orNoEnd 3 = .ok (.if_icmp .ne 9, 3) := by decide +kernel
theorem dX0_orNoEnd_6 : decode cX0_orNoEnd 6 = .ok (.sipush 1000, 3) := by decide +kernel
theorem dX0_orNoEnd_9 : decode cX0_orNoEnd 9 = .ok (.goto 4, 3) := by decide +kernel
theorem dX0_orNoEnd_12 : decode cX0_orNoEnd 12 = .ok (.iload_n 0, 1) := by decide +kernel
theorem dX0_orNoEnd_13 : decode cX0_orNoEnd 13 = .ok (.ireturn, 1) := by decide +kernel
theorem dX0_hasMemo_0 : decode cX0_hasMemo 0 = .ok (.aload_n 0, 1) := by decide +kernel
theorem dX0_hasMemo_1 : decode cX0_hasMemo 1 = .ok (.getfield 50, 3) := by decide +kernel
theorem dX0_hasMemo_4 : decode cX0_hasMemo 4 = .ok (.iload_n 1, 1) := by decide +kernel
theorem dX0_hasMemo_5 : decode cX0_hasMemo 5 = .ok (.iushr, 1) := by decide +kernel
theorem dX0_hasMemo_6 : decode cX0_hasMemo 6 = .ok (.iconst 1, 1) := by decide +kernel
theorem dX0_hasMemo_7 : decode cX0_hasMemo 7 = .ok (.iand, 1) := by decide +kernel
theorem dX0_hasMemo_8 : decode cX0_hasMemo 8 = .ok (.iconst 1, 1) := by decide +kernel
theorem dX0_hasMemo_9 : decode cX0_hasMemo 9 = .ok (.if_icmp .ne 7, 3) := by decide +kernel
theorem dX0_hasMemo_12 : decode cX0_hasMemo 12 = .ok (.iconst 1, 1) := by decide +kernel
theorem dX0_hasMemo_13 : decode cX0_hasMemo 13 = .ok (.goto 4, 3) := by decide +kernel
theorem dX0_hasMemo_16 : decode cX0_hasMemo 16 = .ok (.iconst 0, 1) := by decide +kernel
theorem dX0_hasMemo_17 : decode cX0_hasMemo 17 = .ok (.ireturn, 1) := by decide +kernel
theorem dX0_memoOf_0 : decode cX0_memoOf 0 = .ok (.iload_n 1, 1) := by decide +kernel
theorem dX0_memoOf_1 : decode cX0_memoOf 1 = .ok (.ifCond .ne 10, 3) := by decide +kernel
theorem dX0_memoOf_4 : decode cX0_memoOf 4 = .ok (.aload_n 0, 1) := by decide +kernel
theorem dX0_memoOf_5 : decode cX0_memoOf 5 = .ok (.getfield 70, 3) := by decide +kernel
theorem dX0_memoOf_8 : decode cX0_memoOf 8 = .ok (.goto 7, 3) := by decide +kernel
theorem dX0_memoOf_11 : decode cX0_memoOf 11 = .ok (.aload_n 0, 1) := by decide +kernel
theorem dX0_memoOf_12 : decode cX0_memoOf 12 = .ok (.getfield 73, 3) := by decide +kernel
theorem dX0_memoOf_15 : decode cX0_memoOf 15 = .ok (.ireturn, 1) := by decide +kernel
theorem dX0_keepMemo_0 : decode cX0_keepMemo 0 = .ok (.aload_n 0, 1) := by decide +kernel
theorem dX0_keepMemo_1 : decode cX0_keepMemo 1 = .ok (.dup, 1) := by decide +kernel
theorem dX0_keepMemo_2 : decode cX0_keepMemo 2 = .ok (.getfield 50, 3) := by decide +kernel
theorem dX0_keepMemo_5 : decode cX0_keepMemo 5 = .ok (.iconst 1, 1) := by decide +kernel
theorem dX0_keepMemo_6 : decode cX0_keepMemo 6 = .ok (.iload_n 1, 1) := by decide +kernel
theorem dX0_keepMemo_7 : decode cX0_keepMemo 7 = .ok (.ishl, 1) := by decide +kernel
theorem dX0_keepMemo_8 : decode cX0_keepMemo 8 = .ok (.ior, 1) := by decide +kernel
theorem dX0_keepMemo_9 : decode cX0_keepMemo 9 = .ok (.putfield 50, 3) := by decide +kernel
theorem dX0_keepMemo_12 : decode cX0_keepMemo 12 = .ok (.iload_n 1, 1) := by decide +kernel
theorem dX0_keepMemo_13 : decode cX0_keepMemo 13 = .ok (.ifCond .ne 11, 3) := by decide +kernel
theorem dX0_keepMemo_16 : decode cX0_keepMemo 16 = .ok (.aload_n 0, 1) := by decide +kernel
theorem dX0_keepMemo_17 : decode cX0_keepMemo 17 = .ok (.iload_n 2, 1) := by decide +kernel
theorem dX0_keepMemo_18 : decode cX0_keepMemo 18 = .ok (.putfield 70, 3) := by decide +kernel
theorem dX0_keepMemo_21 : decode cX0_keepMemo 21 = .ok (.goto 8, 3) := by decide +kernel
theorem dX0_keepMemo_24 : decode cX0_keepMemo 24 = .ok (.aload_n 0, 1) := by decide +kernel
theorem dX0_keepMemo_25 : decode cX0_keepMemo 25 = .ok (.iload_n 2, 1) := by decide +kernel
theorem dX0_keepMemo_26 : decode cX0_keepMemo 26 = .ok (.putfield 73, 3) := by decide +kernel
theorem dX0_keepMemo_29 : decode cX0_keepMemo 29 = .ok (.return_, 1) := by decide +kernel
theorem dX0_placeOfKid_0 : decode cX0_placeOfKid 0 = .ok (.iconst 0, 1) := by decide +kernel
theorem dX0_placeOfKid_1 : decode cX0_placeOfKid 1 = .ok (.istore_n 2, 1) := by decide +kernel
theorem dX0_placeOfKid_2 : decode cX0_placeOfKid 2 = .ok (.iload_n 2, 1) := by decide +kernel
theorem dX0_placeOfKid_3 : decode cX0_placeOfKid 3 = .ok (.aload_n 0, 1) := by decide +kernel
theorem dX0_placeOfKid_4 : decode cX0_placeOfKid 4 = .ok (.getfield 47, 3) := by decide +kernel
theorem dX0_placeOfKid_7 : decode cX0_placeOfKid 7 = .ok (.if_icmp .ge 21, 3) := by decide +kernel
theorem dX0_placeOfKid_10 : decode cX0_placeOfKid 10 = .ok (.aload_n 0, 1) := by decide +kernel
theorem dX0_placeOfKid_11 : decode cX0_placeOfKid 11 = .ok (.getfield 15, 3) := by decide +kernel
theorem dX0_placeOfKid_14 : decode cX0_placeOfKid 14 = .ok (.iload_n 2, 1) := by decide +kernel
theorem dX0_placeOfKid_15 : decode cX0_placeOfKid 15 = .ok (.iaload, 1) := by decide +kernel
theorem dX0_placeOfKid_16 : decode cX0_placeOfKid 16 = .ok (.iload_n 1, 1) := by decide +kernel
theorem dX0_placeOfKid_17 : decode cX0_placeOfKid 17 = .ok (.if_icmp .ne 5, 3) := by decide +kernel
theorem dX0_placeOfKid_20 : decode cX0_placeOfKid 20 = .ok (.iload_n 2, 1) := by decide +kernel
theorem dX0_placeOfKid_21 : decode cX0_placeOfKid 21 = .ok (.ireturn, 1) := by decide +kernel
theorem dX0_placeOfKid_22 : decode cX0_placeOfKid 22 = .ok (.iinc 2 1, 3) := by decide +kernel
theorem dX0_placeOfKid_25 : decode cX0_placeOfKid 25 = .ok (.goto (-23), 3) := by decide +kernel
theorem dX0_placeOfKid_28 : decode cX0_placeOfKid 28 = .ok (.iconst (-1), 1) := by decide +kernel
theorem dX0_placeOfKid_29 : decode cX0_placeOfKid 29 = .ok (.ireturn, 1) := by decide +kernel
theorem dX0_addKid_0 : decode cX0_addKid 0 = .ok (.aload_n 0, 1) := by decide +kernel
theorem dX0_addKid_1 : decode cX0_addKid 1 = .ok (.getfield 47, 3) := by decide +kernel
theorem dX0_addKid_4 : decode cX0_addKid 4 = .ok (.bipush 8, 2) := by decide +kernel
theorem dX0_addKid_6 : decode cX0_addKid 6 = .ok (.if_icmp .ge 15, 3) := by decide +kernel
theorem dX0_addKid_9 : decode cX0_addKid 9 = .ok (.iload_n 2, 1) := by decide +kernel
theorem dX0_addKid_10 : decode cX0_addKid 10 = .ok (.ifCond .lt 11, 3) := by decide +kernel
theorem dX0_addKid_13 : decode cX0_addKid 13 = .ok (.iload_n 2, 1) := by decide +kernel
theorem dX0_addKid_14 : decode cX0_addKid 14 = .ok (.aload_n 0, 1) := by decide +kernel
theorem dX0_addKid_15 : decode cX0_addKid 15 = .ok (.getfield 47, 3) := by decide +kernel
theorem dX0_addKid_18 : decode cX0_addKid 18 = .ok (.if_icmp .le 4, 3) := by decide +kernel
theorem dX0_addKid_21 : decode cX0_addKid 21 = .ok (.return_, 1) := by decide +kernel
theorem dX0_addKid_22 : decode cX0_addKid 22 = .ok (.aload_n 0, 1) := by decide +kernel
theorem dX0_addKid_23 : decode cX0_addKid 23 = .ok (.getfield 15, 3) := by decide +kernel
theorem dX0_addKid_26 : decode cX0_addKid 26 = .ok (.iload_n 2, 1) := by decide +kernel
theorem dX0_addKid_27 : decode cX0_addKid 27 = .ok (.aload_n 0, 1) := by decide +kernel
theorem dX0_addKid_28 : decode cX0_addKid 28 = .ok (.getfield 15, 3) := by decide +kernel
theorem dX0_addKid_31 : decode cX0_addKid 31 = .ok (.iload_n 2, 1) := by decide +kernel
theorem dX0_addKid_32 : decode cX0_addKid 32 = .ok (.iconst 1, 1) := by decide +kernel
theorem dX0_addKid_33 : decode cX0_addKid 33 = .ok (.iadd, 1) := by decide +kernel
theorem dX0_addKid_34 : decode cX0_addKid 34 = .ok (.aload_n 0, 1) := by decide +kernel
theorem dX0_addKid_35 : decode cX0_addKid 35 = .ok (.getfield 47, 3) := by decide +kernel
theorem dX0_addKid_38 : decode cX0_addKid 38 = .ok (.iload_n 2, 1) := by decide +kernel
theorem dX0_addKid_39 : decode cX0_addKid 39 = .ok (.isub, 1) := by decide +kernel
theorem dX0_addKid_40 : decode cX0_addKid 40 = .ok (.invokestatic 76, 3) := by decide +kernel
theorem dX0_addKid_43 : decode cX0_addKid 43 = .ok (.aload_n 0, 1) := by decide +kernel
theorem dX0_addKid_44 : decode cX0_addKid 44 = .ok (.getfield 15, 3) := by decide +kernel
theorem dX0_addKid_47 : decode cX0_addKid 47 = .ok (.iload_n 2, 1) := by decide +kernel
theorem dX0_addKid_48 : decode cX0_addKid 48 = .ok (.iload_n 1, 1) := by decide +kernel
theorem dX0_addKid_49 : decode cX0_addKid 49 = .ok (.iastore, 1) := by decide +kernel
theorem dX0_addKid_50 : decode cX0_addKid 50 = .ok (.aload_n 0, 1) := by decide +kernel
theorem dX0_addKid_51 : decode cX0_addKid 51 = .ok (.dup, 1) := by decide +kernel
theorem dX0_addKid_52 : decode cX0_addKid 52 = .ok (.getfield 47, 3) := by decide +kernel
theorem dX0_addKid_55 : decode cX0_addKid 55 = .ok (.iconst 1, 1) := by decide +kernel
theorem dX0_addKid_56 : decode cX0_addKid 56 = .ok (.iadd, 1) := by decide +kernel
theorem dX0_addKid_57 : decode cX0_addKid 57 = .ok (.putfield 47, 3) := by decide +kernel
theorem dX0_addKid_60 : decode cX0_addKid 60 = .ok (.return_, 1) := by decide +kernel
theorem dX0_removeKid_0 : decode cX0_removeKid 0 = .ok (.iload_n 1, 1) := by decide +kernel
theorem dX0_removeKid_1 : decode cX0_removeKid 1 = .ok (.ifCond .lt 11, 3) := by decide +kernel
theorem dX0_removeKid_4 : decode cX0_removeKid 4 = .ok (.iload_n 1, 1) := by decide +kernel
theorem dX0_removeKid_5 : decode cX0_removeKid 5 = .ok (.aload_n 0, 1) := by decide +kernel
theorem dX0_removeKid_6 : decode cX0_removeKid 6 = .ok (.getfield 47, 3) := by decide +kernel
theorem dX0_removeKid_9 : decode cX0_removeKid 9 = .ok (.if_icmp .lt 4, 3) := by decide +kernel
theorem dX0_removeKid_12 : decode cX0_removeKid 12 = .ok (.return_, 1) := by decide +kernel
theorem dX0_removeKid_13 : decode cX0_removeKid 13 = .ok (.aload_n 0, 1) := by decide +kernel
theorem dX0_removeKid_14 : decode cX0_removeKid 14 = .ok (.getfield 15, 3) := by decide +kernel
theorem dX0_removeKid_17 : decode cX0_removeKid 17 = .ok (.iload_n 1, 1) := by decide +kernel
theorem dX0_removeKid_18 : decode cX0_removeKid 18 = .ok (.iconst 1, 1) := by decide +kernel
theorem dX0_removeKid_19 : decode cX0_removeKid 19 = .ok (.iadd, 1) := by decide +kernel
theorem dX0_removeKid_20 : decode cX0_removeKid 20 = .ok (.aload_n 0, 1) := by decide +kernel
theorem dX0_removeKid_21 : decode cX0_removeKid 21 = .ok (.getfield 15, 3) := by decide +kernel
theorem dX0_removeKid_24 : decode cX0_removeKid 24 = .ok (.iload_n 1, 1) := by decide +kernel
theorem dX0_removeKid_25 : decode cX0_removeKid 25 = .ok (.aload_n 0, 1) := by decide +kernel
theorem dX0_removeKid_26 : decode cX0_removeKid 26 = .ok (.getfield 47, 3) := by decide +kernel
theorem dX0_removeKid_29 : decode cX0_removeKid 29 = .ok (.iload_n 1, 1) := by decide +kernel
theorem dX0_removeKid_30 : decode cX0_removeKid 30 = .ok (.isub, 1) := by decide +kernel
theorem dX0_removeKid_31 : decode cX0_removeKid 31 = .ok (.iconst 1, 1) := by decide +kernel
theorem dX0_removeKid_32 : decode cX0_removeKid 32 = .ok (.isub, 1) := by decide +kernel
theorem dX0_removeKid_33 : decode cX0_removeKid 33 = .ok (.invokestatic 76, 3) := by decide +kernel
theorem dX0_removeKid_36 : decode cX0_removeKid 36 = .ok (.aload_n 0, 1) := by decide +kernel
theorem dX0_removeKid_37 : decode cX0_removeKid 37 = .ok (.dup, 1) := by decide +kernel
theorem dX0_removeKid_38 : decode cX0_removeKid 38 = .ok (.getfield 47, 3) := by decide +kernel
theorem dX0_removeKid_41 : decode cX0_removeKid 41 = .ok (.iconst 1, 1) := by decide +kernel
theorem dX0_removeKid_42 : decode cX0_removeKid 42 = .ok (.isub, 1) := by decide +kernel
theorem dX0_removeKid_43 : decode cX0_removeKid 43 = .ok (.putfield 47, 3) := by decide +kernel
theorem dX0_removeKid_46 : decode cX0_removeKid 46 = .ok (.return_, 1) := by decide +kernel
theorem dX0_copyFrom_0 : decode cX0_copyFrom 0 = .ok (.aload_n 0, 1) := by decide +kernel
theorem dX0_copyFrom_1 : decode cX0_copyFrom 1 = .ok (.aload_n 1, 1) := by decide +kernel
theorem dX0_copyFrom_2 : decode cX0_copyFrom 2 = .ok (.getfield 29, 3) := by decide +kernel
theorem dX0_copyFrom_5 : decode cX0_copyFrom 5 = .ok (.putfield 29, 3) := by decide +kernel
theorem dX0_copyFrom_8 : decode cX0_copyFrom 8 = .ok (.aload_n 0, 1) := by decide +kernel
theorem dX0_copyFrom_9 : decode cX0_copyFrom 9 = .ok (.aload_n 1, 1) := by decide +kernel
theorem dX0_copyFrom_10 : decode cX0_copyFrom 10 = .ok (.getfield 32, 3) := by decide +kernel
theorem dX0_copyFrom_13 : decode cX0_copyFrom 13 = .ok (.putfield 32, 3) := by decide +kernel
theorem dX0_copyFrom_16 : decode cX0_copyFrom 16 = .ok (.aload_n 0, 1) := by decide +kernel
theorem dX0_copyFrom_17 : decode cX0_copyFrom 17 = .ok (.aload_n 1, 1) := by decide +kernel
theorem dX0_copyFrom_18 : decode cX0_copyFrom 18 = .ok (.getfield 35, 3) := by decide +kernel
theorem dX0_copyFrom_21 : decode cX0_copyFrom 21 = .ok (.putfield 35, 3) := by decide +kernel
theorem dX0_copyFrom_24 : decode cX0_copyFrom 24 = .ok (.aload_n 0, 1) := by decide +kernel
theorem dX0_copyFrom_25 : decode cX0_copyFrom 25 = .ok (.aload_n 1, 1) := by decide +kernel
theorem dX0_copyFrom_26 : decode cX0_copyFrom 26 = .ok (.getfield 38, 3) := by decide +kernel
theorem dX0_copyFrom_29 : decode cX0_copyFrom 29 = .ok (.putfield 38, 3) := by decide +kernel
theorem dX0_copyFrom_32 : decode cX0_copyFrom 32 = .ok (.aload_n 1, 1) := by decide +kernel
theorem dX0_copyFrom_33 : decode cX0_copyFrom 33 = .ok (.getfield 9, 3) := by decide +kernel
theorem dX0_copyFrom_36 : decode cX0_copyFrom 36 = .ok (.iconst 0, 1) := by decide +kernel
theorem dX0_copyFrom_37 : decode cX0_copyFrom 37 = .ok (.aload_n 0, 1) := by decide +kernel
theorem dX0_copyFrom_38 : decode cX0_copyFrom 38 = .ok (.getfield 9, 3) := by decide +kernel
theorem dX0_copyFrom_41 : decode cX0_copyFrom 41 = .ok (.iconst 0, 1) := by decide +kernel
theorem dX0_copyFrom_42 : decode cX0_copyFrom 42 = .ok (.iconst 4, 1) := by decide +kernel
theorem dX0_copyFrom_43 : decode cX0_copyFrom 43 = .ok (.invokestatic 76, 3) := by decide +kernel
theorem dX0_copyFrom_46 : decode cX0_copyFrom 46 = .ok (.aload_n 1, 1) := by decide +kernel
theorem dX0_copyFrom_47 : decode cX0_copyFrom 47 = .ok (.getfield 15, 3) := by decide +kernel
theorem dX0_copyFrom_50 : decode cX0_copyFrom 50 = .ok (.iconst 0, 1) := by decide +kernel
theorem dX0_copyFrom_51 : decode cX0_copyFrom 51 = .ok (.aload_n 0, 1) := by decide +kernel
theorem dX0_copyFrom_52 : decode cX0_copyFrom 52 = .ok (.getfield 15, 3) := by decide +kernel
theorem dX0_copyFrom_55 : decode cX0_copyFrom 55 = .ok (.iconst 0, 1) := by decide +kernel
theorem dX0_copyFrom_56 : decode cX0_copyFrom 56 = .ok (.aload_n 1, 1) := by decide +kernel
theorem dX0_copyFrom_57 : decode cX0_copyFrom 57 = .ok (.getfield 47, 3) := by decide +kernel
theorem dX0_copyFrom_60 : decode cX0_copyFrom 60 = .ok (.invokestatic 76, 3) := by decide +kernel
theorem dX0_copyFrom_63 : decode cX0_copyFrom 63 = .ok (.aload_n 0, 1) := by decide +kernel
theorem dX0_copyFrom_64 : decode cX0_copyFrom 64 = .ok (.aload_n 1, 1) := by decide +kernel
theorem dX0_copyFrom_65 : decode cX0_copyFrom 65 = .ok (.getfield 41, 3) := by decide +kernel
theorem dX0_copyFrom_68 : decode cX0_copyFrom 68 = .ok (.putfield 41, 3) := by decide +kernel
theorem dX0_copyFrom_71 : decode cX0_copyFrom 71 = .ok (.aload_n 0, 1) := by decide +kernel
theorem dX0_copyFrom_72 : decode cX0_copyFrom 72 = .ok (.aload_n 1, 1) := by decide +kernel
theorem dX0_copyFrom_73 : decode cX0_copyFrom 73 = .ok (.getfield 44, 3) := by decide +kernel
theorem dX0_copyFrom_76 : decode cX0_copyFrom 76 = .ok (.putfield 44, 3) := by decide +kernel
theorem dX0_copyFrom_79 : decode cX0_copyFrom 79 = .ok (.aload_n 0, 1) := by decide +kernel
theorem dX0_copyFrom_80 : decode cX0_copyFrom 80 = .ok (.aload_n 1, 1) := by decide +kernel
theorem dX0_copyFrom_81 : decode cX0_copyFrom 81 = .ok (.getfield 47, 3) := by decide +kernel
theorem dX0_copyFrom_84 : decode cX0_copyFrom 84 = .ok (.putfield 47, 3) := by decide +kernel
theorem dX0_copyFrom_87 : decode cX0_copyFrom 87 = .ok (.aload_n 0, 1) := by decide +kernel
theorem dX0_copyFrom_88 : decode cX0_copyFrom 88 = .ok (.aload_n 1, 1) := by decide +kernel
theorem dX0_copyFrom_89 : decode cX0_copyFrom 89 = .ok (.getfield 50, 3) := by decide +kernel
theorem dX0_copyFrom_92 : decode cX0_copyFrom 92 = .ok (.putfield 50, 3) := by decide +kernel
theorem dX0_copyFrom_95 : decode cX0_copyFrom 95 = .ok (.aload_n 0, 1) := by decide +kernel
theorem dX0_copyFrom_96 : decode cX0_copyFrom 96 = .ok (.aload_n 1, 1) := by decide +kernel
theorem dX0_copyFrom_97 : decode cX0_copyFrom 97 = .ok (.getfield 70, 3) := by decide +kernel
theorem dX0_copyFrom_100 : decode cX0_copyFrom 100 = .ok (.putfield 70, 3) := by decide +kernel
theorem dX0_copyFrom_103 : decode cX0_copyFrom 103 = .ok (.aload_n 0, 1) := by decide +kernel
theorem dX0_copyFrom_104 : decode cX0_copyFrom 104 = .ok (.aload_n 1, 1) := by decide +kernel
theorem dX0_copyFrom_105 : decode cX0_copyFrom 105 = .ok (.getfield 73, 3) := by decide +kernel
theorem dX0_copyFrom_108 : decode cX0_copyFrom 108 = .ok (.putfield 73, 3) := by decide +kernel
theorem dX0_copyFrom_111 : decode cX0_copyFrom 111 = .ok (.aload_n 0, 1) := by decide +kernel
theorem dX0_copyFrom_112 : decode cX0_copyFrom 112 = .ok (.getfield 21, 3) := by decide +kernel
theorem dX0_copyFrom_115 : decode cX0_copyFrom 115 = .ok (.aload_n 1, 1) := by decide +kernel
theorem dX0_copyFrom_116 : decode cX0_copyFrom 116 = .ok (.getfield 21, 3) := by decide +kernel
theorem dX0_copyFrom_119 : decode cX0_copyFrom 119 = .ok (.invokevirtual 82, 3) := by decide +kernel
theorem dX0_copyFrom_122 : decode cX0_copyFrom 122 = .ok (.return_, 1) := by decide +kernel
theorem dX1_isKind_0 : decode cX1_isKind 0 = .ok (.iload_n 0, 1) := by decide +kernel
theorem dX1_isKind_1 : decode cX1_isKind 1 = .ok (.ifCond .lt 13, 3) := by decide +kernel
theorem dX1_isKind_4 : decode cX1_isKind 4 = .ok (.iload_n 0, 1) := by decide +kernel
theorem dX1_isKind_5 : decode cX1_isKind 5 = .ok (.bipush 10, 2) := by decide +kernel
theorem dX1_isKind_7 : decode cX1_isKind 7 = .ok (.if_icmp .ge 7, 3) := by decide +kernel
theorem dX1_isKind_10 : decode cX1_isKind 10 = .ok (.iconst 1, 1) := by decide +kernel
theorem dX1_isKind_11 : decode cX1_isKind 11 = .ok (.goto 4, 3) := by decide +kernel
theorem dX1_isKind_14 : decode cX1_isKind 14 = .ok (.iconst 0, 1) := by decide +kernel
theorem dX1_isKind_15 : decode cX1_isKind 15 = .ok (.ireturn, 1) := by decide +kernel
theorem dX1_numbersOf_0 : decode cX1_numbersOf 0 = .ok (.iload_n 0, 1) := by decide +kernel
theorem dX1_numbersOf_1 : decode cX1_numbersOf 1 = .ok (.invokestatic 9, 3) := by decide +kernel
theorem dX1_numbersOf_4 : decode cX1_numbersOf 4 = .ok (.ifCond .eq 11, 3) := by decide +kernel
theorem dX1_numbersOf_7 : decode cX1_numbersOf 7 = .ok (.getstatic 15, 3) := by decide +kernel
theorem dX1_numbersOf_10 : decode cX1_numbersOf 10 = .ok (.iload_n 0, 1) := by decide +kernel
theorem dX1_numbersOf_11 : decode cX1_numbersOf 11 = .ok (.iaload, 1) := by decide +kernel
theorem dX1_numbersOf_12 : decode cX1_numbersOf 12 = .ok (.goto 4, 3) := by decide +kernel
theorem dX1_numbersOf_15 : decode cX1_numbersOf 15 = .ok (.iconst 0, 1) := by decide +kernel
theorem dX1_numbersOf_16 : decode cX1_numbersOf 16 = .ok (.ireturn, 1) := by decide +kernel
theorem dX1_childrenOf_0 : decode cX1_childrenOf 0 = .ok (.iload_n 0, 1) := by decide +kernel
theorem dX1_childrenOf_1 : decode cX1_childrenOf 1 = .ok (.invokestatic 9, 3) := by decide +kernel
theorem dX1_childrenOf_4 : decode cX1_childrenOf 4 = .ok (.ifCond .eq 11, 3) := by decide +kernel
theorem dX1_childrenOf_7 : decode cX1_childrenOf 7 = .ok (.getstatic 19, 3) := by decide +kernel
theorem dX1_childrenOf_10 : decode cX1_childrenOf 10 = .ok (.iload_n 0, 1) := by decide +kernel
theorem dX1_childrenOf_11 : decode cX1_childrenOf 11 = .ok (.iaload, 1) := by decide +kernel
theorem dX1_childrenOf_12 : decode cX1_childrenOf 12 = .ok (.goto 4, 3) := by decide +kernel
theorem dX1_childrenOf_15 : decode cX1_childrenOf 15 = .ok (.iconst 0, 1) := by decide +kernel
theorem dX1_childrenOf_16 : decode cX1_childrenOf 16 = .ok (.ireturn, 1) := by decide +kernel
theorem dX1_isInRange_0 : decode cX1_isInRange 0 = .ok (.iload_n 1, 1) := by decide +kernel
theorem dX1_isInRange_1 : decode cX1_isInRange 1 = .ok (.ifCond .lt 11, 3) := by decide +kernel
theorem dX1_isInRange_4 : decode cX1_isInRange 4 = .ok (.iload_n 1, 1) := by decide +kernel
theorem dX1_isInRange_5 : decode cX1_isInRange 5 = .ok (.iload_n 0, 1) := by decide +kernel
theorem dX1_isInRange_6 : decode cX1_isInRange 6 = .ok (.invokestatic 22, 3) := by decide +kernel
theorem dX1_isInRange_9 : decode cX1_isInRange 9 = .ok (.if_icmp .lt 5, 3) := by decide +kernel
theorem dX1_isInRange_12 : decode cX1_isInRange 12 = .ok (.iconst 0, 1) := by decide +kernel
theorem dX1_isInRange_13 : decode cX1_isInRange 13 = .ok (.ireturn, 1) := by decide +kernel
theorem dX1_isInRange_14 : decode cX1_isInRange 14 = .ok (.iload_n 1, 1) := by decide +kernel
theorem dX1_isInRange_15 : decode cX1_isInRange 15 = .ok (.iconst 2, 1) := by decide +kernel
theorem dX1_isInRange_16 : decode cX1_isInRange 16 = .ok (.irem, 1) := by decide +kernel
theorem dX1_isInRange_17 : decode cX1_isInRange 17 = .ok (.ifCond .ne 11, 3) := by decide +kernel
theorem dX1_isInRange_20 : decode cX1_isInRange 20 = .ok (.getstatic 26, 3) := by decide +kernel
theorem dX1_isInRange_23 : decode cX1_isInRange 23 = .ok (.iload_n 0, 1) := by decide +kernel
theorem dX1_isInRange_24 : decode cX1_isInRange 24 = .ok (.iaload, 1) := by decide +kernel
theorem dX1_isInRange_25 : decode cX1_isInRange 25 = .ok (.goto 8, 3) := by decide +kernel
theorem dX1_isInRange_28 : decode cX1_isInRange 28 = .ok (.getstatic 29, 3) := by decide +kernel
theorem dX1_isInRange_31 : decode cX1_isInRange 31 = .ok (.iload_n 0, 1) := by decide +kernel
theorem dX1_isInRange_32 : decode cX1_isInRange 32 = .ok (.iaload, 1) := by decide +kernel
theorem dX1_isInRange_33 : decode cX1_isInRange 33 = .ok (.istore_n 3, 1) := by decide +kernel
theorem dX1_isInRange_34 : decode cX1_isInRange 34 = .ok (.iload_n 2, 1) := by decide +kernel
theorem dX1_isInRange_35 : decode cX1_isInRange 35 = .ok (.getstatic 32, 3) := by decide +kernel
theorem dX1_isInRange_38 : decode cX1_isInRange 38 = .ok (.iload_n 0, 1) := by decide +kernel
theorem dX1_isInRange_39 : decode cX1_isInRange 39 = .ok (.iaload, 1) := by decide +kernel
theorem dX1_isInRange_40 : decode cX1_isInRange 40 = .ok (.if_icmp .lt 12, 3) := by decide +kernel
theorem dX1_isInRange_43 : decode cX1_isInRange 43 = .ok (.iload_n 2, 1) := by decide +kernel
theorem dX1_isInRange_44 : decode cX1_isInRange 44 = .ok (.iload_n 3, 1) := by decide +kernel
theorem dX1_isInRange_45 : decode cX1_isInRange 45 = .ok (.if_icmp .gt 7, 3) := by decide +kernel
theorem dX1_isInRange_48 : decode cX1_isInRange 48 = .ok (.iconst 1, 1) := by decide +kernel
theorem dX1_isInRange_49 : decode cX1_isInRange 49 = .ok (.goto 4, 3) := by decide +kernel
theorem dX1_isInRange_52 : decode cX1_isInRange 52 = .ok (.iconst 0, 1) := by decide +kernel
theorem dX1_isInRange_53 : decode cX1_isInRange 53 = .ok (.ireturn, 1) := by decide +kernel
theorem dX1_mayHave_0 : decode cX1_mayHave 0 = .ok (.iload_n 0, 1) := by decide +kernel
theorem dX1_mayHave_1 : decode cX1_mayHave 1 = .ok (.invokestatic 9, 3) := by decide +kernel
theorem dX1_mayHave_4 : decode cX1_mayHave 4 = .ok (.ifCond .ne 5, 3) := by decide +kernel
theorem dX1_mayHave_7 : decode cX1_mayHave 7 = .ok (.iconst 0, 1) := by decide +kernel
theorem dX1_mayHave_8 : decode cX1_mayHave 8 = .ok (.ireturn, 1) := by decide +kernel
theorem dX1_mayHave_9 : decode cX1_mayHave 9 = .ok (.getstatic 15, 3) := by decide +kernel
theorem dX1_mayHave_12 : decode cX1_mayHave 12 = .ok (.iload_n 0, 1) := by decide +kernel
theorem dX1_mayHave_13 : decode cX1_mayHave 13 = .ok (.iaload, 1) := by decide +kernel
theorem dX1_mayHave_14 : decode cX1_mayHave 14 = .ok (.istore 5, 2) := by decide +kernel
theorem dX1_mayHave_16 : decode cX1_mayHave 16 = .ok (.iload 5, 2) := by decide +kernel
theorem dX1_mayHave_18 : decode cX1_mayHave 18 = .ok (.ifCond .le 12, 3) := by decide +kernel
theorem dX1_mayHave_21 : decode cX1_mayHave 21 = .ok (.iload_n 0, 1) := by decide +kernel
theorem dX1_mayHave_22 : decode cX1_mayHave 22 = .ok (.iconst 0, 1) := by decide +kernel
theorem dX1_mayHave_23 : decode cX1_mayHave 23 = .ok (.iload_n 1, 1) := by decide +kernel
theorem dX1_mayHave_24 : decode cX1_mayHave 24 = .ok (.invokestatic 35, 3) := by decide +kernel
theorem dX1_mayHave_27 : decode cX1_mayHave 27 = .ok (.ifCond .eq 49, 3) := by decide +kernel
theorem dX1_mayHave_30 : decode cX1_mayHave 30 = .ok (.iload 5, 2) := by decide +kernel
theorem dX1_mayHave_32 : decode cX1_mayHave 32 = .ok (.iconst 1, 1) := by decide +kernel
theorem dX1_mayHave_33 : decode cX1_mayHave 33 = .ok (.if_icmp .le 12, 3) := by decide +kernel
theorem dX1_mayHave_36 : decode cX1_mayHave 36 = .ok (.iload_n 0, 1) := by decide +kernel
theorem dX1_mayHave_37 : decode cX1_mayHave 37 = .ok (.iconst 1, 1) := by decide +kernel
theorem dX1_mayHave_38 : decode cX1_mayHave 38 = .ok (.iload_n 2, 1) := by decide +kernel
theorem dX1_mayHave_39 : decode cX1_mayHave 39 = .ok (.invokestatic 35, 3) := by decide +kernel
theorem dX1_mayHave_42 : decode cX1_mayHave 42 = .ok (.ifCond .eq 34, 3) := by decide +kernel
theorem dX1_mayHave_45 : decode cX1_mayHave 45 = .ok (.iload 5, 2) := by decide +kernel
theorem dX1_mayHave_47 : decode cX1_mayHave 47 = .ok (.iconst 2, 1) := by decide +kernel
theorem dX1_mayHave_48 : decode cX1_mayHave 48 = .ok (.if_icmp .le 12, 3) := by decide +kernel
theorem dX1_mayHave_51 : decode cX1_mayHave 51 = .ok (.iload_n 0, 1) := by decide +kernel
theorem dX1_mayHave_52 : decode cX1_mayHave 52 = .ok (.iconst 2, 1) := by decide +kernel
theorem dX1_mayHave_53 : decode cX1_mayHave 53 = .ok (.iload_n 3, 1) := by decide +kernel
theorem dX1_mayHave_54 : decode cX1_mayHave 54 = .ok (.invokestatic 35, 3) := by decide +kernel
theorem dX1_mayHave_57 : decode cX1_mayHave 57 = .ok (.ifCond .eq 19, 3) := by decide +kernel
theorem dX1_mayHave_60 : decode cX1_mayHave 60 = .ok (.iload 5, 2) := by decide +kernel
theorem dX1_mayHave_62 : decode cX1_mayHave 62 = .ok (.iconst 3, 1) := by decide +kernel
theorem dX1_mayHave_63 : decode cX1_mayHave 63 = .ok (.if_icmp .le 15, 3) := by decide +kernel
theorem dX1_mayHave_66 : decode cX1_mayHave 66 = .ok (.iload_n 0, 1) := by decide +kernel
theorem dX1_mayHave_67 : decode cX1_mayHave 67 = .ok (.iconst 3, 1) := by decide +kernel
theorem dX1_mayHave_68 : decode cX1_mayHave 68 = .ok (.iload 4, 2) := by decide +kernel
theorem dX1_mayHave_70 : decode cX1_mayHave 70 = .ok (.invokestatic 35, 3) := by decide +kernel
theorem dX1_mayHave_73 : decode cX1_mayHave 73 = .ok (.ifCond .ne 5, 3) := by decide +kernel
theorem dX1_mayHave_76 : decode cX1_mayHave 76 = .ok (.iconst 0, 1) := by decide +kernel
theorem dX1_mayHave_77 : decode cX1_mayHave 77 = .ok (.ireturn, 1) := by decide +kernel
theorem dX1_mayHave_78 : decode cX1_mayHave 78 = .ok (.iload_n 0, 1) := by decide +kernel
theorem dX1_mayHave_79 : decode cX1_mayHave 79 = .ok (.iconst 3, 1) := by decide +kernel
theorem dX1_mayHave_80 : decode cX1_mayHave 80 = .ok (.if_icmp .ne 14, 3) := by decide +kernel
theorem dX1_mayHave_83 : decode cX1_mayHave 83 = .ok (.iload_n 1, 1) := by decide +kernel
theorem dX1_mayHave_84 : decode cX1_mayHave 84 = .ok (.iload_n 2, 1) := by decide +kernel
theorem dX1_mayHave_85 : decode cX1_mayHave 85 = .ok (.if_icmp .gt 13, 3) := by decide +kernel
theorem dX1_mayHave_88 : decode cX1_mayHave 88 = .ok (.iload_n 3, 1) := by decide +kernel
theorem dX1_mayHave_89 : decode cX1_mayHave 89 = .ok (.iload 4, 2) := by decide +kernel
theorem dX1_mayHave_91 : decode cX1_mayHave 91 = .ok (.if_icmp .gt 7, 3) := by decide +kernel
theorem dX1_mayHave_94 : decode cX1_mayHave 94 = .ok (.iconst 1, 1) := by decide +kernel
theorem dX1_mayHave_95 : decode cX1_mayHave 95 = .ok (.goto 4, 3) := by decide +kernel
theorem dX1_mayHave_98 : decode cX1_mayHave 98 = .ok (.iconst 0, 1) := by decide +kernel
theorem dX1_mayHave_99 : decode cX1_mayHave 99 = .ok (.ireturn, 1) := by decide +kernel
theorem dX1_passesFor_0 : decode cX1_passesFor 0 = .ok (.iload_n 0, 1) := by decide +kernel
theorem dX1_passesFor_1 : decode cX1_passesFor 1 = .ok (.iload_n 1, 1) := by decide +kernel
theorem dX1_passesFor_2 : decode cX1_passesFor 2 = .ok (.if_icmp .eq 35, 3) := by decide +kernel
theorem dX1_passesFor_5 : decode cX1_passesFor 5 = .ok (.iload_n 0, 1) := by decide +kernel
theorem dX1_passesFor_6 : decode cX1_passesFor 6 = .ok (.bipush 9, 2) := by decide +kernel
theorem dX1_passesFor_8 : decode cX1_passesFor 8 = .ok (.if_icmp .ne 9, 3) := by decide +kernel
theorem dX1_passesFor_11 : decode cX1_passesFor 11 = .ok (.iload_n 1, 1) := by decide +kernel
theorem dX1_passesFor_12 : decode cX1_passesFor 12 = .ok (.bipush 8, 2) := by decide +kernel
theorem dX1_passesFor_14 : decode cX1_passesFor 14 = .ok (.if_icmp .eq 23, 3) := by decide +kernel
theorem dX1_passesFor_17 : decode cX1_passesFor 17 = .ok (.iload_n 0, 1) := by decide +kernel
theorem dX1_passesFor_18 : decode cX1_passesFor 18 = .ok (.iconst 5, 1) := by decide +kernel
theorem dX1_passesFor_19 : decode cX1_passesFor 19 = .ok (.if_icmp .ne 8, 3) := by decide +kernel
theorem dX1_passesFor_22 : decode cX1_passesFor 22 = .ok (.iload_n 1, 1) := by decide +kernel
theorem dX1_passesFor_23 : decode cX1_passesFor 23 = .ok (.iconst 4, 1) := by decide +kernel
theorem dX1_passesFor_24 : decode cX1_passesFor 24 = .ok (.if_icmp .eq 13, 3) := by decide +kernel
theorem dX1_passesFor_27 : decode cX1_passesFor 27 = .ok (.iload_n 0, 1) := by decide +kernel
theorem dX1_passesFor_28 : decode cX1_passesFor 28 = .ok (.iconst 3, 1) := by decide +kernel
theorem dX1_passesFor_29 : decode cX1_passesFor 29 = .ok (.if_icmp .ne 12, 3) := by decide +kernel
theorem dX1_passesFor_32 : decode cX1_passesFor 32 = .ok (.iload_n 1, 1) := by decide +kernel
theorem dX1_passesFor_33 : decode cX1_passesFor 33 = .ok (.iconst 2, 1) := by decide +kernel
theorem dX1_passesFor_34 : decode cX1_passesFor 34 = .ok (.if_icmp .ne 7, 3) := by decide +kernel
theorem dX1_passesFor_37 : decode cX1_passesFor 37 = .ok (.iconst 1, 1) := by decide +kernel
theorem dX1_passesFor_38 : decode cX1_passesFor 38 = .ok (.goto 4, 3) := by decide +kernel
theorem dX1_passesFor_41 : decode cX1_passesFor 41 = .ok (.iconst 0, 1) := by decide +kernel
theorem dX1_passesFor_42 : decode cX1_passesFor 42 = .ok (.ireturn, 1) := by decide +kernel
theorem dX1_nameOf_0 : decode cX1_nameOf 0 = .ok (.iload_n 0, 1) := by decide +kernel
theorem dX1_nameOf_1 : decode cX1_nameOf 1 = .ok (.tableswitch 78 0 8 #[51, 54, 57, 60, 63, 66, 69, 72, 75], 51) := by decide +kernel
theorem dX1_nameOf_52 : decode cX1_nameOf 52 = .ok (.ldc 39, 2) := by decide +kernel
theorem dX1_nameOf_54 : decode cX1_nameOf 54 = .ok (.areturn, 1) := by decide +kernel
theorem dX1_nameOf_55 : decode cX1_nameOf 55 = .ok (.ldc 41, 2) := by decide +kernel
theorem dX1_nameOf_57 : decode cX1_nameOf 57 = .ok (.areturn, 1) := by decide +kernel
theorem dX1_nameOf_58 : decode cX1_nameOf 58 = .ok (.ldc 43, 2) := by decide +kernel
theorem dX1_nameOf_60 : decode cX1_nameOf 60 = .ok (.areturn, 1) := by decide +kernel
theorem dX1_nameOf_61 : decode cX1_nameOf 61 = .ok (.ldc 45, 2) := by decide +kernel
theorem dX1_nameOf_63 : decode cX1_nameOf 63 = .ok (.areturn, 1) := by decide +kernel
theorem dX1_nameOf_64 : decode cX1_nameOf 64 = .ok (.ldc 47, 2) := by decide +kernel
theorem dX1_nameOf_66 : decode cX1_nameOf 66 = .ok (.areturn, 1) := by decide +kernel
theorem dX1_nameOf_67 : decode cX1_nameOf 67 = .ok (.ldc 49, 2) := by decide +kernel
theorem dX1_nameOf_69 : decode cX1_nameOf 69 = .ok (.areturn, 1) := by decide +kernel
theorem dX1_nameOf_70 : decode cX1_nameOf 70 = .ok (.ldc 51, 2) := by decide +kernel
theorem dX1_nameOf_72 : decode cX1_nameOf 72 = .ok (.areturn, 1) := by decide +kernel
theorem dX1_nameOf_73 : decode cX1_nameOf 73 = .ok (.ldc 53, 2) := by decide +kernel
theorem dX1_nameOf_75 : decode cX1_nameOf 75 = .ok (.areturn, 1) := by decide +kernel
theorem dX1_nameOf_76 : decode cX1_nameOf 76 = .ok (.ldc 55, 2) := by decide +kernel
theorem dX1_nameOf_78 : decode cX1_nameOf 78 = .ok (.areturn, 1) := by decide +kernel
theorem dX1_nameOf_79 : decode cX1_nameOf 79 = .ok (.ldc 57, 2) := by decide +kernel
theorem dX1_nameOf_81 : decode cX1_nameOf 81 = .ok (.areturn, 1) := by decide +kernel
theorem dX2_init_0 : decode cX2_init 0 = .ok (.aload_n 0, 1) := by decide +kernel
theorem dX2_init_1 : decode cX2_init 1 = .ok (.invokespecial 3, 3) := by decide +kernel
theorem dX2_init_4 : decode cX2_init 4 = .ok (.aload_n 0, 1) := by decide +kernel
theorem dX2_init_5 : decode cX2_init 5 = .ok (.bipush (-5), 2) := by decide +kernel
theorem dX2_init_7 : decode cX2_init 7 = .ok (.putfield 9, 3) := by decide +kernel
theorem dX2_init_10 : decode cX2_init 10 = .ok (.return_, 1) := by decide +kernel
theorem dX2_forget_0 : decode cX2_forget 0 = .ok (.aload_n 0, 1) := by decide +kernel
theorem dX2_forget_1 : decode cX2_forget 1 = .ok (.iconst 0, 1) := by decide +kernel
theorem dX2_forget_2 : decode cX2_forget 2 = .ok (.iconst 0, 1) := by decide +kernel
theorem dX2_forget_3 : decode cX2_forget 3 = .ok (.iconst 0, 1) := by decide +kernel
theorem dX2_forget_4 : decode cX2_forget 4 = .ok (.iconst 0, 1) := by decide +kernel
theorem dX2_forget_5 : decode cX2_forget 5 = .ok (.invokevirtual 15, 3) := by decide +kernel
theorem dX2_forget_8 : decode cX2_forget 8 = .ok (.aload_n 0, 1) := by decide +kernel
theorem dX2_forget_9 : decode cX2_forget 9 = .ok (.iconst 0, 1) := by decide +kernel
theorem dX2_forget_10 : decode cX2_forget 10 = .ok (.putfield 19, 3) := by decide +kernel
theorem dX2_forget_13 : decode cX2_forget 13 = .ok (.aload_n 0, 1) := by decide +kernel
theorem dX2_forget_14 : decode cX2_forget 14 = .ok (.iconst 0, 1) := by decide +kernel
theorem dX2_forget_15 : decode cX2_forget 15 = .ok (.iconst 0, 1) := by decide +kernel
theorem dX2_forget_16 : decode cX2_forget 16 = .ok (.invokevirtual 23, 3) := by decide +kernel
theorem dX2_forget_19 : decode cX2_forget 19 = .ok (.aload_n 0, 1) := by decide +kernel
theorem dX2_forget_20 : decode cX2_forget 20 = .ok (.iconst 0, 1) := by decide +kernel
theorem dX2_forget_21 : decode cX2_forget 21 = .ok (.putfield 27, 3) := by decide +kernel
theorem dX2_forget_24 : decode cX2_forget 24 = .ok (.aload_n 0, 1) := by decide +kernel
theorem dX2_forget_25 : decode cX2_forget 25 = .ok (.iconst 0, 1) := by decide +kernel
theorem dX2_forget_26 : decode cX2_forget 26 = .ok (.putfield 30, 3) := by decide +kernel
theorem dX2_forget_29 : decode cX2_forget 29 = .ok (.return_, 1) := by decide +kernel
theorem dX2_begin_0 : decode cX2_begin 0 = .ok (.aload_n 0, 1) := by decide +kernel
theorem dX2_begin_1 : decode cX2_begin 1 = .ok (.iconst 1, 1) := by decide +kernel
theorem dX2_begin_2 : decode cX2_begin 2 = .ok (.putfield 19, 3) := by decide +kernel
theorem dX2_begin_5 : decode cX2_begin 5 = .ok (.aload_n 0, 1) := by decide +kernel
theorem dX2_begin_6 : decode cX2_begin 6 = .ok (.iload_n 1, 1) := by decide +kernel
theorem dX2_begin_7 : decode cX2_begin 7 = .ok (.putfield 33, 3) := by decide +kernel
theorem dX2_begin_10 : decode cX2_begin 10 = .ok (.aload_n 0, 1) := by decide +kernel
theorem dX2_begin_11 : decode cX2_begin 11 = .ok (.iload_n 2, 1) := by decide +kernel
theorem dX2_begin_12 : decode cX2_begin 12 = .ok (.putfield 36, 3) := by decide +kernel
theorem dX2_begin_15 : decode cX2_begin 15 = .ok (.aload_n 0, 1) := by decide +kernel
theorem dX2_begin_16 : decode cX2_begin 16 = .ok (.iload_n 3, 1) := by decide +kernel
theorem dX2_begin_17 : decode cX2_begin 17 = .ok (.putfield 39, 3) := by decide +kernel
theorem dX2_begin_20 : decode cX2_begin 20 = .ok (.aload_n 0, 1) := by decide +kernel
theorem dX2_begin_21 : decode cX2_begin 21 = .ok (.iload 4, 2) := by decide +kernel
theorem dX2_begin_23 : decode cX2_begin 23 = .ok (.putfield 42, 3) := by decide +kernel
theorem dX2_begin_26 : decode cX2_begin 26 = .ok (.aload_n 0, 1) := by decide +kernel
theorem dX2_begin_27 : decode cX2_begin 27 = .ok (.iconst 0, 1) := by decide +kernel
theorem dX2_begin_28 : decode cX2_begin 28 = .ok (.putfield 45, 3) := by decide +kernel
theorem dX2_begin_31 : decode cX2_begin 31 = .ok (.aload_n 0, 1) := by decide +kernel
theorem dX2_begin_32 : decode cX2_begin 32 = .ok (.iconst 0, 1) := by decide +kernel
theorem dX2_begin_33 : decode cX2_begin 33 = .ok (.putfield 48, 3) := by decide +kernel
theorem dX2_begin_36 : decode cX2_begin 36 = .ok (.aload_n 0, 1) := by decide +kernel
theorem dX2_begin_37 : decode cX2_begin 37 = .ok (.bipush (-5), 2) := by decide +kernel
theorem dX2_begin_39 : decode cX2_begin 39 = .ok (.putfield 9, 3) := by decide +kernel
theorem dX2_begin_42 : decode cX2_begin 42 = .ok (.return_, 1) := by decide +kernel
theorem dX2_wasLaidBy_0 : decode cX2_wasLaidBy 0 = .ok (.aload_n 0, 1) := by decide +kernel
theorem dX2_wasLaidBy_1 : decode cX2_wasLaidBy 1 = .ok (.getfield 19, 3) := by decide +kernel
theorem dX2_wasLaidBy_4 : decode cX2_wasLaidBy 4 = .ok (.ifCond .eq 40, 3) := by decide +kernel
theorem dX2_wasLaidBy_7 : decode cX2_wasLaidBy 7 = .ok (.aload_n 0, 1) := by decide +kernel
theorem dX2_wasLaidBy_8 : decode cX2_wasLaidBy 8 = .ok (.getfield 33, 3) := by decide +kernel
theorem dX2_wasLaidBy_11 : decode cX2_wasLaidBy 11 = .ok (.iload_n 1, 1) := by decide +kernel
theorem dX2_wasLaidBy_12 : decode cX2_wasLaidBy 12 = .ok (.if_icmp .ne 32, 3) := by decide +kernel
theorem dX2_wasLaidBy_15 : decode cX2_wasLaidBy 15 = .ok (.aload_n 0, 1) := by decide +kernel
theorem dX2_wasLaidBy_16 : decode cX2_wasLaidBy 16 = .ok (.getfield 36, 3) := by decide +kernel
theorem dX2_wasLaidBy_19 : decode cX2_wasLaidBy 19 = .ok (.iload_n 2, 1) := by decide +kernel
theorem dX2_wasLaidBy_20 : decode cX2_wasLaidBy 20 = .ok (.if_icmp .ne 24, 3) := by decide +kernel
theorem dX2_wasLaidBy_23 : decode cX2_wasLaidBy 23 = .ok (.aload_n 0, 1) := by decide +kernel
theorem dX2_wasLaidBy_24 : decode cX2_wasLaidBy 24 = .ok (.getfield 39, 3) := by decide +kernel
theorem dX2_wasLaidBy_27 : decode cX2_wasLaidBy 27 = .ok (.iload_n 3, 1) := by decide +kernel
theorem dX2_wasLaidBy_28 : decode cX2_wasLaidBy 28 = .ok (.if_icmp .ne 16, 3) := by decide +kernel
theorem dX2_wasLaidBy_31 : decode cX2_wasLaidBy 31 = .ok (.aload_n 0, 1) := by decide +kernel
theorem dX2_wasLaidBy_32 : decode cX2_wasLaidBy 32 = .ok (.getfield 42, 3) := by decide +kernel
theorem dX2_wasLaidBy_35 : decode cX2_wasLaidBy 35 = .ok (.iload 4, 2) := by decide +kernel
theorem dX2_wasLaidBy_37 : decode cX2_wasLaidBy 37 = .ok (.if_icmp .ne 7, 3) := by decide +kernel
theorem dX2_wasLaidBy_40 : decode cX2_wasLaidBy 40 = .ok (.iconst 1, 1) := by decide +kernel
theorem dX2_wasLaidBy_41 : decode cX2_wasLaidBy 41 = .ok (.goto 4, 3) := by decide +kernel
theorem dX2_wasLaidBy_44 : decode cX2_wasLaidBy 44 = .ok (.iconst 0, 1) := by decide +kernel
theorem dX2_wasLaidBy_45 : decode cX2_wasLaidBy 45 = .ok (.ireturn, 1) := by decide +kernel
theorem dX2_wasJust_0 : decode cX2_wasJust 0 = .ok (.aload_n 0, 1) := by decide +kernel
theorem dX2_wasJust_1 : decode cX2_wasJust 1 = .ok (.getfield 19, 3) := by decide +kernel
theorem dX2_wasJust_4 : decode cX2_wasJust 4 = .ok (.ifCond .eq 29, 3) := by decide +kernel
theorem dX2_wasJust_7 : decode cX2_wasJust 7 = .ok (.aload_n 0, 1) := by decide +kernel
theorem dX2_wasJust_8 : decode cX2_wasJust 8 = .ok (.getfield 33, 3) := by decide +kernel
theorem dX2_wasJust_11 : decode cX2_wasJust 11 = .ok (.aload_n 0, 1) := by decide +kernel
theorem dX2_wasJust_12 : decode cX2_wasJust 12 = .ok (.getfield 36, 3) := by decide +kernel
theorem dX2_wasJust_15 : decode cX2_wasJust 15 = .ok (.if_icmp .ne 18, 3) := by decide +kernel
theorem dX2_wasJust_18 : decode cX2_wasJust 18 = .ok (.aload_n 0, 1) := by decide +kernel
theorem dX2_wasJust_19 : decode cX2_wasJust 19 = .ok (.getfield 39, 3) := by decide +kernel
theorem dX2_wasJust_22 : decode cX2_wasJust 22 = .ok (.aload_n 0, 1) := by decide +kernel
theorem dX2_wasJust_23 : decode cX2_wasJust 23 = .ok (.getfield 42, 3) := by decide +kernel
theorem dX2_wasJust_26 : decode cX2_wasJust 26 = .ok (.if_icmp .ne 7, 3) := by decide +kernel
theorem dX2_wasJust_29 : decode cX2_wasJust 29 = .ok (.iconst 1, 1) := by decide +kernel
theorem dX2_wasJust_30 : decode cX2_wasJust 30 = .ok (.goto 4, 3) := by decide +kernel
theorem dX2_wasJust_33 : decode cX2_wasJust 33 = .ok (.iconst 0, 1) := by decide +kernel
theorem dX2_wasJust_34 : decode cX2_wasJust 34 = .ok (.ireturn, 1) := by decide +kernel
theorem dX2_sizeTo_0 : decode cX2_sizeTo 0 = .ok (.aload_n 0, 1) := by decide +kernel
theorem dX2_sizeTo_1 : decode cX2_sizeTo 1 = .ok (.iload_n 1, 1) := by decide +kernel
theorem dX2_sizeTo_2 : decode cX2_sizeTo 2 = .ok (.aload_n 0, 1) := by decide +kernel
theorem dX2_sizeTo_3 : decode cX2_sizeTo 3 = .ok (.getfield 33, 3) := by decide +kernel
theorem dX2_sizeTo_6 : decode cX2_sizeTo 6 = .ok (.aload_n 0, 1) := by decide +kernel
theorem dX2_sizeTo_7 : decode cX2_sizeTo 7 = .ok (.getfield 36, 3) := by decide +kernel
theorem dX2_sizeTo_10 : decode cX2_sizeTo 10 = .ok (.invokestatic 51, 3) := by decide +kernel
theorem dX2_sizeTo_13 : decode cX2_sizeTo 13 = .ok (.putfield 27, 3) := by decide +kernel
theorem dX2_sizeTo_16 : decode cX2_sizeTo 16 = .ok (.aload_n 0, 1) := by decide +kernel
theorem dX2_sizeTo_17 : decode cX2_sizeTo 17 = .ok (.iload_n 2, 1) := by decide +kernel
theorem dX2_sizeTo_18 : decode cX2_sizeTo 18 = .ok (.aload_n 0, 1) := by decide +kernel
theorem dX2_sizeTo_19 : decode cX2_sizeTo 19 = .ok (.getfield 39, 3) := by decide +kernel
theorem dX2_sizeTo_22 : decode cX2_sizeTo 22 = .ok (.aload_n 0, 1) := by decide +kernel
theorem dX2_sizeTo_23 : decode cX2_sizeTo 23 = .ok (.getfield 42, 3) := by decide +kernel
theorem dX2_sizeTo_26 : decode cX2_sizeTo 26 = .ok (.invokestatic 51, 3) := by decide +kernel
theorem dX2_sizeTo_29 : decode cX2_sizeTo 29 = .ok (.putfield 30, 3) := by decide +kernel
theorem dX2_sizeTo_32 : decode cX2_sizeTo 32 = .ok (.return_, 1) := by decide +kernel
theorem dX2_placeAt_0 : decode cX2_placeAt 0 = .ok (.aload_n 0, 1) := by decide +kernel
theorem dX2_placeAt_1 : decode cX2_placeAt 1 = .ok (.iload_n 1, 1) := by decide +kernel
theorem dX2_placeAt_2 : decode cX2_placeAt 2 = .ok (.putfield 55, 3) := by decide +kernel
theorem dX2_placeAt_5 : decode cX2_placeAt 5 = .ok (.aload_n 0, 1) := by decide +kernel
theorem dX2_placeAt_6 : decode cX2_placeAt 6 = .ok (.iload_n 2, 1) := by decide +kernel
theorem dX2_placeAt_7 : decode cX2_placeAt 7 = .ok (.putfield 58, 3) := by decide +kernel
theorem dX2_placeAt_10 : decode cX2_placeAt 10 = .ok (.return_, 1) := by decide +kernel
theorem dX2_isLike_0 : decode cX2_isLike 0 = .ok (.aload_n 0, 1) := by decide +kernel
theorem dX2_isLike_1 : decode cX2_isLike 1 = .ok (.getfield 55, 3) := by decide +kernel
theorem dX2_isLike_4 : decode cX2_isLike 4 = .ok (.aload_n 1, 1) := by decide +kernel
theorem dX2_isLike_5 : decode cX2_isLike 5 = .ok (.getfield 55, 3) := by decide +kernel
theorem dX2_isLike_8 : decode cX2_isLike 8 = .ok (.if_icmp .ne 51, 3) := by decide +kernel
theorem dX2_isLike_11 : decode cX2_isLike 11 = .ok (.aload_n 0, 1) := by decide +kernel
theorem dX2_isLike_12 : decode cX2_isLike 12 = .ok (.getfield 58, 3) := by decide +kernel
theorem dX2_isLike_15 : decode cX2_isLike 15 = .ok (.aload_n 1, 1) := by decide +kernel
theorem dX2_isLike_16 : decode cX2_isLike 16 = .ok (.getfield 58, 3) := by decide +kernel
theorem dX2_isLike_19 : decode cX2_isLike 19 = .ok (.if_icmp .ne 40, 3) := by decide +kernel
theorem dX2_isLike_22 : decode cX2_isLike 22 = .ok (.aload_n 0, 1) := by decide +kernel
theorem dX2_isLike_23 : decode cX2_isLike 23 = .ok (.getfield 27, 3) := by decide +kernel
theorem dX2_isLike_26 : decode cX2_isLike 26 = .ok (.aload_n 1, 1) := by decide +kernel
theorem dX2_isLike_27 : decode cX2_isLike 27 = .ok (.getfield 27, 3) := by decide +kernel
theorem dX2_isLike_30 : decode cX2_isLike 30 = .ok (.if_icmp .ne 29, 3) := by decide +kernel
theorem dX2_isLike_33 : decode cX2_isLike 33 = .ok (.aload_n 0, 1) := by decide +kernel
theorem dX2_isLike_34 : decode cX2_isLike 34 = .ok (.getfield 30, 3) := by decide +kernel
theorem dX2_isLike_37 : decode cX2_isLike 37 = .ok (.aload_n 1, 1) := by decide +kernel
theorem dX2_isLike_38 : decode cX2_isLike 38 = .ok (.getfield 30, 3) := by decide +kernel
theorem dX2_isLike_41 : decode cX2_isLike 41 = .ok (.if_icmp .ne 18, 3) := by decide +kernel
theorem dX2_isLike_44 : decode cX2_isLike 44 = .ok (.aload_n 0, 1) := by decide +kernel
theorem dX2_isLike_45 : decode cX2_isLike 45 = .ok (.getfield 45, 3) := by decide +kernel
theorem dX2_isLike_48 : decode cX2_isLike 48 = .ok (.aload_n 1, 1) := by decide +kernel
theorem dX2_isLike_49 : decode cX2_isLike 49 = .ok (.getfield 45, 3) := by decide +kernel
theorem dX2_isLike_52 : decode cX2_isLike 52 = .ok (.if_icmp .ne 7, 3) := by decide +kernel
theorem dX2_isLike_55 : decode cX2_isLike 55 = .ok (.iconst 1, 1) := by decide +kernel
theorem dX2_isLike_56 : decode cX2_isLike 56 = .ok (.goto 4, 3) := by decide +kernel
theorem dX2_isLike_59 : decode cX2_isLike 59 = .ok (.iconst 0, 1) := by decide +kernel
theorem dX2_isLike_60 : decode cX2_isLike 60 = .ok (.ireturn, 1) := by decide +kernel
theorem dX2_copyFrom_0 : decode cX2_copyFrom 0 = .ok (.aload_n 0, 1) := by decide +kernel
theorem dX2_copyFrom_1 : decode cX2_copyFrom 1 = .ok (.aload_n 1, 1) := by decide +kernel
theorem dX2_copyFrom_2 : decode cX2_copyFrom 2 = .ok (.getfield 19, 3) := by decide +kernel
theorem dX2_copyFrom_5 : decode cX2_copyFrom 5 = .ok (.putfield 19, 3) := by decide +kernel
theorem dX2_copyFrom_8 : decode cX2_copyFrom 8 = .ok (.aload_n 0, 1) := by decide +kernel
theorem dX2_copyFrom_9 : decode cX2_copyFrom 9 = .ok (.aload_n 1, 1) := by decide +kernel
theorem dX2_copyFrom_10 : decode cX2_copyFrom 10 = .ok (.getfield 33, 3) := by decide +kernel
theorem dX2_copyFrom_13 : decode cX2_copyFrom 13 = .ok (.putfield 33, 3) := by decide +kernel
theorem dX2_copyFrom_16 : decode cX2_copyFrom 16 = .ok (.aload_n 0, 1) := by decide +kernel
theorem dX2_copyFrom_17 : decode cX2_copyFrom 17 = .ok (.aload_n 1, 1) := by decide +kernel
theorem dX2_copyFrom_18 : decode cX2_copyFrom 18 = .ok (.getfield 36, 3) := by decide +kernel
theorem dX2_copyFrom_21 : decode cX2_copyFrom 21 = .ok (.putfield 36, 3) := by decide +kernel
theorem dX2_copyFrom_24 : decode cX2_copyFrom 24 = .ok (.aload_n 0, 1) := by decide +kernel
theorem dX2_copyFrom_25 : decode cX2_copyFrom 25 = .ok (.aload_n 1, 1) := by decide +kernel
theorem dX2_copyFrom_26 : decode cX2_copyFrom 26 = .ok (.getfield 39, 3) := by decide +kernel
theorem dX2_copyFrom_29 : decode cX2_copyFrom 29 = .ok (.putfield 39, 3) := by decide +kernel
theorem dX2_copyFrom_32 : decode cX2_copyFrom 32 = .ok (.aload_n 0, 1) := by decide +kernel
theorem dX2_copyFrom_33 : decode cX2_copyFrom 33 = .ok (.aload_n 1, 1) := by decide +kernel
theorem dX2_copyFrom_34 : decode cX2_copyFrom 34 = .ok (.getfield 42, 3) := by decide +kernel
theorem dX2_copyFrom_37 : decode cX2_copyFrom 37 = .ok (.putfield 42, 3) := by decide +kernel
theorem dX2_copyFrom_40 : decode cX2_copyFrom 40 = .ok (.aload_n 0, 1) := by decide +kernel
theorem dX2_copyFrom_41 : decode cX2_copyFrom 41 = .ok (.aload_n 1, 1) := by decide +kernel
theorem dX2_copyFrom_42 : decode cX2_copyFrom 42 = .ok (.getfield 55, 3) := by decide +kernel
theorem dX2_copyFrom_45 : decode cX2_copyFrom 45 = .ok (.putfield 55, 3) := by decide +kernel
theorem dX2_copyFrom_48 : decode cX2_copyFrom 48 = .ok (.aload_n 0, 1) := by decide +kernel
theorem dX2_copyFrom_49 : decode cX2_copyFrom 49 = .ok (.aload_n 1, 1) := by decide +kernel
theorem dX2_copyFrom_50 : decode cX2_copyFrom 50 = .ok (.getfield 58, 3) := by decide +kernel
theorem dX2_copyFrom_53 : decode cX2_copyFrom 53 = .ok (.putfield 58, 3) := by decide +kernel
theorem dX2_copyFrom_56 : decode cX2_copyFrom 56 = .ok (.aload_n 0, 1) := by decide +kernel
theorem dX2_copyFrom_57 : decode cX2_copyFrom 57 = .ok (.aload_n 1, 1) := by decide +kernel
theorem dX2_copyFrom_58 : decode cX2_copyFrom 58 = .ok (.getfield 27, 3) := by decide +kernel
theorem dX2_copyFrom_61 : decode cX2_copyFrom 61 = .ok (.putfield 27, 3) := by decide +kernel
theorem dX2_copyFrom_64 : decode cX2_copyFrom 64 = .ok (.aload_n 0, 1) := by decide +kernel
theorem dX2_copyFrom_65 : decode cX2_copyFrom 65 = .ok (.aload_n 1, 1) := by decide +kernel
theorem dX2_copyFrom_66 : decode cX2_copyFrom 66 = .ok (.getfield 30, 3) := by decide +kernel
theorem dX2_copyFrom_69 : decode cX2_copyFrom 69 = .ok (.putfield 30, 3) := by decide +kernel
theorem dX2_copyFrom_72 : decode cX2_copyFrom 72 = .ok (.aload_n 0, 1) := by decide +kernel
theorem dX2_copyFrom_73 : decode cX2_copyFrom 73 = .ok (.aload_n 1, 1) := by decide +kernel
theorem dX2_copyFrom_74 : decode cX2_copyFrom 74 = .ok (.getfield 45, 3) := by decide +kernel
theorem dX2_copyFrom_77 : decode cX2_copyFrom 77 = .ok (.putfield 45, 3) := by decide +kernel
theorem dX2_copyFrom_80 : decode cX2_copyFrom 80 = .ok (.aload_n 0, 1) := by decide +kernel
theorem dX2_copyFrom_81 : decode cX2_copyFrom 81 = .ok (.aload_n 1, 1) := by decide +kernel
theorem dX2_copyFrom_82 : decode cX2_copyFrom 82 = .ok (.getfield 48, 3) := by decide +kernel
theorem dX2_copyFrom_85 : decode cX2_copyFrom 85 = .ok (.putfield 48, 3) := by decide +kernel
theorem dX2_copyFrom_88 : decode cX2_copyFrom 88 = .ok (.aload_n 0, 1) := by decide +kernel
theorem dX2_copyFrom_89 : decode cX2_copyFrom 89 = .ok (.aload_n 1, 1) := by decide +kernel
theorem dX2_copyFrom_90 : decode cX2_copyFrom 90 = .ok (.getfield 9, 3) := by decide +kernel
theorem dX2_copyFrom_93 : decode cX2_copyFrom 93 = .ok (.putfield 9, 3) := by decide +kernel
theorem dX2_copyFrom_96 : decode cX2_copyFrom 96 = .ok (.return_, 1) := by decide +kernel
theorem dX3_init_0 : decode cX3_init 0 = .ok (.aload_n 0, 1) := by decide +kernel
theorem dX3_init_1 : decode cX3_init 1 = .ok (.invokespecial 3, 3) := by decide +kernel
theorem dX3_init_4 : decode cX3_init 4 = .ok (.aload_n 0, 1) := by decide +kernel
theorem dX3_init_5 : decode cX3_init 5 = .ok (.aload_n 1, 1) := by decide +kernel
theorem dX3_init_6 : decode cX3_init 6 = .ok (.putfield 9, 3) := by decide +kernel
theorem dX3_init_9 : decode cX3_init 9 = .ok (.return_, 1) := by decide +kernel
theorem dX3_layOut_0 : decode cX3_layOut 0 = .ok (.aload_n 0, 1) := by decide +kernel
theorem dX3_layOut_1 : decode cX3_layOut 1 = .ok (.iconst 0, 1) := by decide +kernel
theorem dX3_layOut_2 : decode cX3_layOut 2 = .ok (.putfield 15, 3) := by decide +kernel
theorem dX3_layOut_5 : decode cX3_layOut 5 = .ok (.aload_n 0, 1) := by decide +kernel
theorem dX3_layOut_6 : decode cX3_layOut 6 = .ok (.iconst 0, 1) := by decide +kernel
theorem dX3_layOut_7 : decode cX3_layOut 7 = .ok (.putfield 19, 3) := by decide +kernel
theorem dX3_layOut_10 : decode cX3_layOut 10 = .ok (.aload_n 0, 1) := by decide +kernel
theorem dX3_layOut_11 : decode cX3_layOut 11 = .ok (.iconst 0, 1) := by decide +kernel
theorem dX3_layOut_12 : decode cX3_layOut 12 = .ok (.putfield 22, 3) := by decide +kernel
theorem dX3_layOut_15 : decode cX3_layOut 15 = .ok (.aload_n 0, 1) := by decide +kernel
theorem dX3_layOut_16 : decode cX3_layOut 16 = .ok (.aload_n 0, 1) := by decide +kernel
theorem dX3_layOut_17 : decode cX3_layOut 17 = .ok (.getfield 9, 3) := by decide +kernel
theorem dX3_layOut_20 : decode cX3_layOut 20 = .ok (.getfield 25, 3) := by decide +kernel
theorem dX3_layOut_23 : decode cX3_layOut 23 = .ok (.iconst 0, 1) := by decide +kernel
theorem dX3_layOut_24 : decode cX3_layOut 24 = .ok (.invokevirtual 30, 3) := by decide +kernel
theorem dX3_layOut_27 : decode cX3_layOut 27 = .ok (.ifCond .eq 39, 3) := by decide +kernel
theorem dX3_layOut_30 : decode cX3_layOut 30 = .ok (.aload_n 0, 1) := by decide +kernel
theorem dX3_layOut_31 : decode cX3_layOut 31 = .ok (.aload_n 0, 1) := by decide +kernel
theorem dX3_layOut_32 : decode cX3_layOut 32 = .ok (.getfield 9, 3) := by decide +kernel
theorem dX3_layOut_35 : decode cX3_layOut 35 = .ok (.getfield 34, 3) := by decide +kernel
theorem dX3_layOut_38 : decode cX3_layOut 38 = .ok (.aload_n 0, 1) := by decide +kernel
theorem dX3_layOut_39 : decode cX3_layOut 39 = .ok (.getfield 9, 3) := by decide +kernel
theorem dX3_layOut_42 : decode cX3_layOut 42 = .ok (.getfield 25, 3) := by decide +kernel
theorem dX3_layOut_45 : decode cX3_layOut 45 = .ok (.aaload, 1) := by decide +kernel
theorem dX3_layOut_46 : decode cX3_layOut 46 = .ok (.iconst 0, 1) := by decide +kernel
theorem dX3_layOut_47 : decode cX3_layOut 47 = .ok (.aload_n 0, 1) := by decide +kernel
theorem dX3_layOut_48 : decode cX3_layOut 48 = .ok (.getfield 9, 3) := by decide +kernel
theorem dX3_layOut_51 : decode cX3_layOut 51 = .ok (.getfield 38, 3) := by decide +kernel
theorem dX3_layOut_54 : decode cX3_layOut 54 = .ok (.iconst 0, 1) := by decide +kernel
theorem dX3_layOut_55 : decode cX3_layOut 55 = .ok (.aload_n 0, 1) := by decide +kernel
theorem dX3_layOut_56 : decode cX3_layOut 56 = .ok (.getfield 9, 3) := by decide +kernel
theorem dX3_layOut_59 : decode cX3_layOut 59 = .ok (.getfield 41, 3) := by decide +kernel
theorem dX3_layOut_62 : decode cX3_layOut 62 = .ok (.iconst 0, 1) := by decide +kernel
theorem dX3_layOut_63 : decode cX3_layOut 63 = .ok (.invokevirtual 44, 3) := by decide +kernel
theorem dX3_layOut_66 : decode cX3_layOut 66 = .ok (.iconst 1, 1) := by decide +kernel
theorem dX3_layOut_67 : decode cX3_layOut 67 = .ok (.istore_n 1, 1) := by decide +kernel
theorem dX3_layOut_68 : decode cX3_layOut 68 = .ok (.iload_n 1, 1) := by decide +kernel
theorem dX3_layOut_69 : decode cX3_layOut 69 = .ok (.bipush 24, 2) := by decide +kernel
theorem dX3_layOut_71 : decode cX3_layOut 71 = .ok (.if_icmp .ge 97, 3) := by decide +kernel
theorem dX3_layOut_74 : decode cX3_layOut 74 = .ok (.aload_n 0, 1) := by decide +kernel
theorem dX3_layOut_75 : decode cX3_layOut 75 = .ok (.getfield 9, 3) := by decide +kernel
theorem dX3_layOut_78 : decode cX3_layOut 78 = .ok (.getfield 48, 3) := by decide +kernel
theorem dX3_layOut_81 : decode cX3_layOut 81 = .ok (.aload_n 0, 1) := by decide +kernel
theorem dX3_layOut_82 : decode cX3_layOut 82 = .ok (.getfield 9, 3) := by decide +kernel
theorem dX3_layOut_85 : decode cX3_layOut 85 = .ok (.getfield 51, 3) := by decide +kernel
theorem dX3_layOut_88 : decode cX3_layOut 88 = .ok (.iand, 1) := by decide +kernel
theorem dX3_layOut_89 : decode cX3_layOut 89 = .ok (.ifCond .eq 79, 3) := by decide +kernel
theorem dX3_layOut_92 : decode cX3_layOut 92 = .ok (.iconst 0, 1) := by decide +kernel
theorem dX3_layOut_93 : decode cX3_layOut 93 = .ok (.istore_n 2, 1) := by decide +kernel
theorem dX3_layOut_94 : decode cX3_layOut 94 = .ok (.iload_n 2, 1) := by decide +kernel
theorem dX3_layOut_95 : decode cX3_layOut 95 = .ok (.aload_n 0, 1) := by decide +kernel
theorem dX3_layOut_96 : decode cX3_layOut 96 = .ok (.getfield 9, 3) := by decide +kernel
theorem dX3_layOut_99 : decode cX3_layOut 99 = .ok (.getfield 54, 3) := by decide +kernel
theorem dX3_layOut_102 : decode cX3_layOut 102 = .ok (.if_icmp .ge 60, 3) := by decide +kernel
theorem dX3_layOut_105 : decode cX3_layOut 105 = .ok (.aload_n 0, 1) := by decide +kernel
theorem dX3_layOut_106 : decode cX3_layOut 106 = .ok (.iload_n 2, 1) := by decide +kernel
theorem dX3_layOut_107 : decode cX3_layOut 107 = .ok (.iload_n 1, 1) := by decide +kernel
theorem dX3_layOut_108 : decode cX3_layOut 108 = .ok (.invokevirtual 30, 3) := by decide +kernel
theorem dX3_layOut_111 : decode cX3_layOut 111 = .ok (.ifCond .eq 45, 3) := by decide +kernel
theorem dX3_layOut_114 : decode cX3_layOut 114 = .ok (.aload_n 0, 1) := by decide +kernel
theorem dX3_layOut_115 : decode cX3_layOut 115 = .ok (.getfield 9, 3) := by decide +kernel
theorem dX3_layOut_118 : decode cX3_layOut 118 = .ok (.getfield 34, 3) := by decide +kernel
theorem dX3_layOut_121 : decode cX3_layOut 121 = .ok (.iload_n 2, 1) := by decide +kernel
theorem dX3_layOut_122 : decode cX3_layOut 122 = .ok (.aaload, 1) := by decide +kernel
theorem dX3_layOut_123 : decode cX3_layOut 123 = .ok (.astore_n 3, 1) := by decide +kernel
theorem dX3_layOut_124 : decode cX3_layOut 124 = .ok (.aload_n 3, 1) := by decide +kernel
theorem dX3_layOut_125 : decode cX3_layOut 125 = .ok (.getfield 57, 3) := by decide +kernel
theorem dX3_layOut_128 : decode cX3_layOut 128 = .ok (.astore 4, 2) := by decide +kernel
theorem dX3_layOut_130 : decode cX3_layOut 130 = .ok (.aload_n 0, 1) := by decide +kernel
theorem dX3_layOut_131 : decode cX3_layOut 131 = .ok (.aload_n 3, 1) := by decide +kernel
theorem dX3_layOut_132 : decode cX3_layOut 132 = .ok (.aload 4, 2) := by decide +kernel
theorem dX3_layOut_134 : decode cX3_layOut 134 = .ok (.getfield 63, 3) := by decide +kernel
theorem dX3_layOut_137 : decode cX3_layOut 137 = .ok (.aload 4, 2) := by decide +kernel
theorem dX3_layOut_139 : decode cX3_layOut 139 = .ok (.getfield 68, 3) := by decide +kernel
theorem dX3_layOut_142 : decode cX3_layOut 142 = .ok (.aload 4, 2) := by decide +kernel
theorem dX3_layOut_144 : decode cX3_layOut 144 = .ok (.getfield 71, 3) := by decide +kernel
theorem dX3_layOut_147 : decode cX3_layOut 147 = .ok (.aload 4, 2) := by decide +kernel
theorem dX3_layOut_149 : decode cX3_layOut 149 = .ok (.getfield 74, 3) := by decide +kernel
theorem dX3_layOut_152 : decode cX3_layOut 152 = .ok (.iload_n 1, 1) := by decide +kernel
theorem dX3_layOut_153 : decode cX3_layOut 153 = .ok (.invokevirtual 44, 3) := by decide +kernel
theorem dX3_layOut_156 : decode cX3_layOut 156 = .ok (.iinc 2 1, 3) := by decide +kernel
theorem dX3_layOut_159 : decode cX3_layOut 159 = .ok (.goto (-65), 3) := by decide +kernel
theorem dX3_layOut_162 : decode cX3_layOut 162 = .ok (.iinc 1 1, 3) := by decide +kernel
theorem dX3_layOut_165 : decode cX3_layOut 165 = .ok (.goto (-97), 3) := by decide +kernel
theorem dX3_layOut_168 : decode cX3_layOut 168 = .ok (.aload_n 0, 1) := by decide +kernel
theorem dX3_layOut_169 : decode cX3_layOut 169 = .ok (.getfield 9, 3) := by decide +kernel
theorem dX3_layOut_172 : decode cX3_layOut 172 = .ok (.iconst 0, 1) := by decide +kernel
theorem dX3_layOut_173 : decode cX3_layOut 173 = .ok (.putfield 48, 3) := by decide +kernel
theorem dX3_layOut_176 : decode cX3_layOut 176 = .ok (.aload_n 0, 1) := by decide +kernel
theorem dX3_layOut_177 : decode cX3_layOut 177 = .ok (.dup, 1) := by decide +kernel
theorem dX3_layOut_178 : decode cX3_layOut 178 = .ok (.getfield 77, 3) := by decide +kernel
theorem dX3_layOut_181 : decode cX3_layOut 181 = .ok (.aload_n 0, 1) := by decide +kernel
theorem dX3_layOut_182 : decode cX3_layOut 182 = .ok (.getfield 15, 3) := by decide +kernel
theorem dX3_layOut_185 : decode cX3_layOut 185 = .ok (.aload_n 0, 1) := by decide +kernel
theorem dX3_layOut_186 : decode cX3_layOut 186 = .ok (.getfield 19, 3) := by decide +kernel
theorem dX3_layOut_189 : decode cX3_layOut 189 = .ok (.iadd, 1) := by decide +kernel
theorem dX3_layOut_190 : decode cX3_layOut 190 = .ok (.iadd, 1) := by decide +kernel
theorem dX3_layOut_191 : decode cX3_layOut 191 = .ok (.putfield 77, 3) := by decide +kernel
theorem dX3_layOut_194 : decode cX3_layOut 194 = .ok (.return_, 1) := by decide +kernel
theorem dX3_isDue_0 : decode cX3_isDue 0 = .ok (.aload_n 0, 1) := by decide +kernel
theorem dX3_isDue_1 : decode cX3_isDue 1 = .ok (.getfield 9, 3) := by decide +kernel
theorem dX3_isDue_4 : decode cX3_isDue 4 = .ok (.iload_n 1, 1) := by decide +kernel
theorem dX3_isDue_5 : decode cX3_isDue 5 = .ok (.invokevirtual 80, 3) := by decide +kernel
theorem dX3_isDue_8 : decode cX3_isDue 8 = .ok (.ifCond .eq 46, 3) := by decide +kernel
theorem dX3_isDue_11 : decode cX3_isDue 11 = .ok (.aload_n 0, 1) := by decide +kernel
theorem dX3_isDue_12 : decode cX3_isDue 12 = .ok (.getfield 9, 3) := by decide +kernel
theorem dX3_isDue_15 : decode cX3_isDue 15 = .ok (.getfield 48, 3) := by decide +kernel
theorem dX3_isDue_18 : decode cX3_isDue 18 = .ok (.aload_n 0, 1) := by decide +kernel
theorem dX3_isDue_19 : decode cX3_isDue 19 = .ok (.getfield 9, 3) := by decide +kernel
theorem dX3_isDue_22 : decode cX3_isDue 22 = .ok (.getfield 51, 3) := by decide +kernel
theorem dX3_isDue_25 : decode cX3_isDue 25 = .ok (.iand, 1) := by decide +kernel
theorem dX3_isDue_26 : decode cX3_isDue 26 = .ok (.iload_n 1, 1) := by decide +kernel
theorem dX3_isDue_27 : decode cX3_isDue 27 = .ok (.iushr, 1) := by decide +kernel
theorem dX3_isDue_28 : decode cX3_isDue 28 = .ok (.iconst 1, 1) := by decide +kernel
theorem dX3_isDue_29 : decode cX3_isDue 29 = .ok (.iand, 1) := by decide +kernel
theorem dX3_isDue_30 : decode cX3_isDue 30 = .ok (.iconst 1, 1) := by decide +kernel
theorem dX3_isDue_31 : decode cX3_isDue 31 = .ok (.if_icmp .ne 23, 3) := by decide +kernel
theorem dX3_isDue_34 : decode cX3_isDue 34 = .ok (.aload_n 0, 1) := by decide +kernel
theorem dX3_isDue_35 : decode cX3_isDue 35 = .ok (.getfield 9, 3) := by decide +kernel
theorem dX3_isDue_38 : decode cX3_isDue 38 = .ok (.getfield 34, 3) := by decide +kernel
theorem dX3_isDue_41 : decode cX3_isDue 41 = .ok (.iload_n 1, 1) := by decide +kernel
theorem dX3_isDue_42 : decode cX3_isDue 42 = .ok (.aaload, 1) := by decide +kernel
theorem dX3_isDue_43 : decode cX3_isDue 43 = .ok (.getfield 84, 3) := by decide +kernel
theorem dX3_isDue_46 : decode cX3_isDue 46 = .ok (.iload_n 2, 1) := by decide +kernel
theorem dX3_isDue_47 : decode cX3_isDue 47 = .ok (.if_icmp .ne 7, 3) := by decide +kernel
theorem dX3_isDue_50 : decode cX3_isDue 50 = .ok (.iconst 1, 1) := by decide +kernel
theorem dX3_isDue_51 : decode cX3_isDue 51 = .ok (.goto 4, 3) := by decide +kernel
theorem dX3_isDue_54 : decode cX3_isDue 54 = .ok (.iconst 0, 1) := by decide +kernel
theorem dX3_isDue_55 : decode cX3_isDue 55 = .ok (.ireturn, 1) := by decide +kernel
theorem dX3_lay_0 : decode cX3_lay 0 = .ok (.iload 6, 2) := by decide +kernel
theorem dX3_lay_2 : decode cX3_lay 2 = .ok (.bipush 24, 2) := by decide +kernel
theorem dX3_lay_4 : decode cX3_lay 4 = .ok (.if_icmp .lt 4, 3) := by decide +kernel
theorem dX3_lay_7 : decode cX3_lay 7 = .ok (.return_, 1) := by decide +kernel
theorem dX3_lay_8 : decode cX3_lay 8 = .ok (.aload_n 0, 1) := by decide +kernel
theorem dX3_lay_9 : decode cX3_lay 9 = .ok (.getfield 9, 3) := by decide +kernel
theorem dX3_lay_12 : decode cX3_lay 12 = .ok (.aload_n 1, 1) := by decide +kernel
theorem dX3_lay_13 : decode cX3_lay 13 = .ok (.getfield 87, 3) := by decide +kernel
theorem dX3_lay_16 : decode cX3_lay 16 = .ok (.invokevirtual 90, 3) := by decide +kernel
theorem dX3_lay_19 : decode cX3_lay 19 = .ok (.ifCond .ne 30, 3) := by decide +kernel
theorem dX3_lay_22 : decode cX3_lay 22 = .ok (.aload_n 1, 1) := by decide +kernel
theorem dX3_lay_23 : decode cX3_lay 23 = .ok (.getfield 57, 3) := by decide +kernel
theorem dX3_lay_26 : decode cX3_lay 26 = .ok (.iload_n 2, 1) := by decide +kernel
theorem dX3_lay_27 : decode cX3_lay 27 = .ok (.iload_n 3, 1) := by decide +kernel
theorem dX3_lay_28 : decode cX3_lay 28 = .ok (.iload 4, 2) := by decide +kernel
theorem dX3_lay_30 : decode cX3_lay 30 = .ok (.iload 5, 2) := by decide +kernel
theorem dX3_lay_32 : decode cX3_lay 32 = .ok (.invokevirtual 93, 3) := by decide +kernel
theorem dX3_lay_35 : decode cX3_lay 35 = .ok (.ifCond .eq 14, 3) := by decide +kernel
theorem dX3_lay_38 : decode cX3_lay 38 = .ok (.aload_n 0, 1) := by decide +kernel
theorem dX3_lay_39 : decode cX3_lay 39 = .ok (.dup, 1) := by decide +kernel
theorem dX3_lay_40 : decode cX3_lay 40 = .ok (.getfield 19, 3) := by decide +kernel
theorem dX3_lay_43 : decode cX3_lay 43 = .ok (.iconst 1, 1) := by decide +kernel
theorem dX3_lay_44 : decode cX3_lay 44 = .ok (.iadd, 1) := by decide +kernel
theorem dX3_lay_45 : decode cX3_lay 45 = .ok (.putfield 19, 3) := by decide +kernel
theorem dX3_lay_48 : decode cX3_lay 48 = .ok (.return_, 1) := by decide +kernel
theorem dX3_lay_49 : decode cX3_lay 49 = .ok (.iconst 1, 1) := by decide +kernel
theorem dX3_lay_50 : decode cX3_lay 50 = .ok (.aload_n 1, 1) := by decide +kernel
theorem dX3_lay_51 : decode cX3_lay 51 = .ok (.getfield 87, 3) := by decide +kernel
theorem dX3_lay_54 : decode cX3_lay 54 = .ok (.ishl, 1) := by decide +kernel
theorem dX3_lay_55 : decode cX3_lay 55 = .ok (.istore 7, 2) := by decide +kernel
theorem dX3_lay_57 : decode cX3_lay 57 = .ok (.aload_n 0, 1) := by decide +kernel
theorem dX3_lay_58 : decode cX3_lay 58 = .ok (.dup, 1) := by decide +kernel
theorem dX3_lay_59 : decode cX3_lay 59 = .ok (.getfield 15, 3) := by decide +kernel
theorem dX3_lay_62 : decode cX3_lay 62 = .ok (.iconst 1, 1) := by decide +kernel
theorem dX3_lay_63 : decode cX3_lay 63 = .ok (.iadd, 1) := by decide +kernel
theorem dX3_lay_64 : decode cX3_lay 64 = .ok (.putfield 15, 3) := by decide +kernel
theorem dX3_lay_67 : decode cX3_lay 67 = .ok (.aload_n 0, 1) := by decide +kernel
theorem dX3_lay_68 : decode cX3_lay 68 = .ok (.dup, 1) := by decide +kernel
theorem dX3_lay_69 : decode cX3_lay 69 = .ok (.getfield 22, 3) := by decide +kernel
theorem dX3_lay_72 : decode cX3_lay 72 = .ok (.iload 7, 2) := by decide +kernel
theorem dX3_lay_74 : decode cX3_lay 74 = .ok (.ior, 1) := by decide +kernel
theorem dX3_lay_75 : decode cX3_lay 75 = .ok (.putfield 22, 3) := by decide +kernel
theorem dX3_lay_78 : decode cX3_lay 78 = .ok (.aload_n 1, 1) := by decide +kernel
theorem dX3_lay_79 : decode cX3_lay 79 = .ok (.getfield 57, 3) := by decide +kernel
theorem dX3_lay_82 : decode cX3_lay 82 = .ok (.iload_n 2, 1) := by decide +kernel
theorem dX3_lay_83 : decode cX3_lay 83 = .ok (.iload_n 3, 1) := by decide +kernel
theorem dX3_lay_84 : decode cX3_lay 84 = .ok (.iload 4, 2) := by decide +kernel
theorem dX3_lay_86 : decode cX3_lay 86 = .ok (.iload 5, 2) := by decide +kernel
theorem dX3_lay_88 : decode cX3_lay 88 = .ok (.invokevirtual 97, 3) := by decide +kernel
theorem dX3_lay_91 : decode cX3_lay 91 = .ok (.aload_n 0, 1) := by decide +kernel
theorem dX3_lay_92 : decode cX3_lay 92 = .ok (.aload_n 1, 1) := by decide +kernel
theorem dX3_lay_93 : decode cX3_lay 93 = .ok (.iload 6, 2) := by decide +kernel
theorem dX3_lay_95 : decode cX3_lay 95 = .ok (.invokevirtual 101, 3) := by decide +kernel
theorem dX3_lay_98 : decode cX3_lay 98 = .ok (.aload_n 0, 1) := by decide +kernel
theorem dX3_lay_99 : decode cX3_lay 99 = .ok (.getfield 9, 3) := by decide +kernel
theorem dX3_lay_102 : decode cX3_lay 102 = .ok (.dup, 1) := by decide +kernel
theorem dX3_lay_103 : decode cX3_lay 103 = .ok (.getfield 51, 3) := by decide +kernel
theorem dX3_lay_106 : decode cX3_lay 106 = .ok (.iload 7, 2) := by decide +kernel
theorem dX3_lay_108 : decode cX3_lay 108 = .ok (.iconst (-1), 1) := by decide +kernel
theorem dX3_lay_109 : decode cX3_lay 109 = .ok (.ixor, 1) := by decide +kernel
theorem dX3_lay_110 : decode cX3_lay 110 = .ok (.iand, 1) := by decide +kernel
theorem dX3_lay_111 : decode cX3_lay 111 = .ok (.putfield 51, 3) := by decide +kernel
theorem dX3_lay_114 : decode cX3_lay 114 = .ok (.aload_n 0, 1) := by decide +kernel
theorem dX3_lay_115 : decode cX3_lay 115 = .ok (.getfield 9, 3) := by decide +kernel
theorem dX3_lay_118 : decode cX3_lay 118 = .ok (.dup, 1) := by decide +kernel
theorem dX3_lay_119 : decode cX3_lay 119 = .ok (.getfield 105, 3) := by decide +kernel
theorem dX3_lay_122 : decode cX3_lay 122 = .ok (.iload 7, 2) := by decide +kernel
theorem dX3_lay_124 : decode cX3_lay 124 = .ok (.iconst (-1), 1) := by decide +kernel
theorem dX3_lay_125 : decode cX3_lay 125 = .ok (.ixor, 1) := by decide +kernel
theorem dX3_lay_126 : decode cX3_lay 126 = .ok (.iand, 1) := by decide +kernel
theorem dX3_lay_127 : decode cX3_lay 127 = .ok (.putfield 105, 3) := by decide +kernel
theorem dX3_lay_130 : decode cX3_lay 130 = .ok (.return_, 1) := by decide +kernel
theorem dX3_layByKind_0 : decode cX3_layByKind 0 = .ok (.aload_n 1, 1) := by decide +kernel
theorem dX3_layByKind_1 : decode cX3_layByKind 1 = .ok (.getfield 108, 3) := by decide +kernel
theorem dX3_layByKind_4 : decode cX3_layByKind 4 = .ok (.tableswitch 132 0 7 #[48, 70, 78, 87, 96, 105, 114, 123], 48) := by decide +kernel
theorem dX3_layByKind_52 : decode cX3_layByKind 52 = .ok (.aload_n 1, 1) := by decide +kernel
theorem dX3_layByKind_53 : decode cX3_layByKind 53 = .ok (.getfield 57, 3) := by decide +kernel
theorem dX3_layByKind_56 : decode cX3_layByKind 56 = .ok (.aload_n 1, 1) := by decide +kernel
theorem dX3_layByKind_57 : decode cX3_layByKind 57 = .ok (.getfield 111, 3) := by decide +kernel
theorem dX3_layByKind_60 : decode cX3_layByKind 60 = .ok (.iconst 0, 1) := by decide +kernel
theorem dX3_layByKind_61 : decode cX3_layByKind 61 = .ok (.iaload, 1) := by decide +kernel
theorem dX3_layByKind_62 : decode cX3_layByKind 62 = .ok (.aload_n 1, 1) := by decide +kernel
theorem dX3_layByKind_63 : decode cX3_layByKind 63 = .ok (.getfield 111, 3) := by decide +kernel
theorem dX3_layByKind_66 : decode cX3_layByKind 66 = .ok (.iconst 1, 1) := by decide +kernel
theorem dX3_layByKind_67 : decode cX3_layByKind 67 = .ok (.iaload, 1) := by decide +kernel
theorem dX3_layByKind_68 : decode cX3_layByKind 68 = .ok (.invokevirtual 115, 3) := by decide +kernel
theorem dX3_layByKind_71 : decode cX3_layByKind 71 = .ok (.goto 71, 3) := by decide +kernel
theorem dX3_layByKind_74 : decode cX3_layByKind 74 = .ok (.aload_n 0, 1) := by decide +kernel
theorem dX3_layByKind_75 : decode cX3_layByKind 75 = .ok (.aload_n 1, 1) := by decide +kernel
theorem dX3_layByKind_76 : decode cX3_layByKind 76 = .ok (.invokevirtual 119, 3) := by decide +kernel
theorem dX3_layByKind_79 : decode cX3_layByKind 79 = .ok (.goto 63, 3) := by decide +kernel
theorem dX3_layByKind_82 : decode cX3_layByKind 82 = .ok (.aload_n 0, 1) := by decide +kernel
theorem dX3_layByKind_83 : decode cX3_layByKind 83 = .ok (.aload_n 1, 1) := by decide +kernel
theorem dX3_layByKind_84 : decode cX3_layByKind 84 = .ok (.iload_n 2, 1) := by decide +kernel
theorem dX3_layByKind_85 : decode cX3_layByKind 85 = .ok (.invokevirtual 123, 3) := by decide +kernel
theorem dX3_layByKind_88 : decode cX3_layByKind 88 = .ok (.goto 54, 3) := by decide +kernel
theorem dX3_layByKind_91 : decode cX3_layByKind 91 = .ok (.aload_n 0, 1) := by decide +kernel
theorem dX3_layByKind_92 : decode cX3_layByKind 92 = .ok (.aload_n 1, 1) := by decide +kernel
theorem dX3_layByKind_93 : decode cX3_layByKind 93 = .ok (.iload_n 2, 1) := by decide +kernel
theorem dX3_layByKind_94 : decode cX3_layByKind 94 = .ok (.invokevirtual 126, 3) := by decide +kernel
theorem dX3_layByKind_97 : decode cX3_layByKind 97 = .ok (.goto 45, 3) := by decide +kernel
theorem dX3_layByKind_100 : decode cX3_layByKind 100 = .ok (.aload_n 0, 1) := by decide +kernel
theorem dX3_layByKind_101 : decode cX3_layByKind 101 = .ok (.aload_n 1, 1) := by decide +kernel
theorem dX3_layByKind_102 : decode cX3_layByKind 102 = .ok (.iload_n 2, 1) := by decide +kernel
theorem dX3_layByKind_103 : decode cX3_layByKind 103 = .ok (.invokevirtual 129, 3) := by decide +kernel
theorem dX3_layByKind_106 : decode cX3_layByKind 106 = .ok (.goto 36, 3) := by decide +kernel
theorem dX3_layByKind_109 : decode cX3_layByKind 109 = .ok (.aload_n 0, 1) := by decide +kernel
theorem dX3_layByKind_110 : decode cX3_layByKind 110 = .ok (.aload_n 1, 1) := by decide +kernel
theorem dX3_layByKind_111 : decode cX3_layByKind 111 = .ok (.iload_n 2, 1) := by decide +kernel
theorem dX3_layByKind_112 : decode cX3_layByKind 112 = .ok (.invokevirtual 132, 3) := by decide +kernel
theorem dX3_layByKind_115 : decode cX3_layByKind 115 = .ok (.goto 27, 3) := by decide +kernel
theorem dX3_layByKind_118 : decode cX3_layByKind 118 = .ok (.aload_n 0, 1) := by decide +kernel
theorem dX3_layByKind_119 : decode cX3_layByKind 119 = .ok (.aload_n 1, 1) := by decide +kernel
theorem dX3_layByKind_120 : decode cX3_layByKind 120 = .ok (.iload_n 2, 1) := by decide +kernel
theorem dX3_layByKind_121 : decode cX3_layByKind 121 = .ok (.invokevirtual 135, 3) := by decide +kernel
theorem dX3_layByKind_124 : decode cX3_layByKind 124 = .ok (.goto 18, 3) := by decide +kernel
theorem dX3_layByKind_127 : decode cX3_layByKind 127 = .ok (.aload_n 0, 1) := by decide +kernel
theorem dX3_layByKind_128 : decode cX3_layByKind 128 = .ok (.aload_n 1, 1) := by decide +kernel
theorem dX3_layByKind_129 : decode cX3_layByKind 129 = .ok (.iload_n 2, 1) := by decide +kernel
theorem dX3_layByKind_130 : decode cX3_layByKind 130 = .ok (.invokevirtual 138, 3) := by decide +kernel
theorem dX3_layByKind_133 : decode cX3_layByKind 133 = .ok (.goto 9, 3) := by decide +kernel
theorem dX3_layByKind_136 : decode cX3_layByKind 136 = .ok (.aload_n 0, 1) := by decide +kernel
theorem dX3_layByKind_137 : decode cX3_layByKind 137 = .ok (.aload_n 1, 1) := by decide +kernel
theorem dX3_layByKind_138 : decode cX3_layByKind 138 = .ok (.iload_n 2, 1) := by decide +kernel
theorem dX3_layByKind_139 : decode cX3_layByKind 139 = .ok (.invokevirtual 141, 3) := by decide +kernel
theorem dX3_layByKind_142 : decode cX3_layByKind 142 = .ok (.return_, 1) := by decide +kernel
theorem dX3_onlyKid_0 : decode cX3_onlyKid 0 = .ok (.aload_n 1, 1) := by decide +kernel
theorem dX3_onlyKid_1 : decode cX3_onlyKid 1 = .ok (.getfield 144, 3) := by decide +kernel
theorem dX3_onlyKid_4 : decode cX3_onlyKid 4 = .ok (.ifCond .le 15, 3) := by decide +kernel
theorem dX3_onlyKid_7 : decode cX3_onlyKid 7 = .ok (.aload_n 0, 1) := by decide +kernel
theorem dX3_onlyKid_8 : decode cX3_onlyKid 8 = .ok (.getfield 9, 3) := by decide +kernel
theorem dX3_onlyKid_11 : decode cX3_onlyKid 11 = .ok (.aload_n 1, 1) := by decide +kernel
theorem dX3_onlyKid_12 : decode cX3_onlyKid 12 = .ok (.iconst 0, 1) := by decide +kernel
theorem dX3_onlyKid_13 : decode cX3_onlyKid 13 = .ok (.invokevirtual 147, 3) := by decide +kernel
theorem dX3_onlyKid_16 : decode cX3_onlyKid 16 = .ok (.goto 4, 3) := by decide +kernel
theorem dX3_onlyKid_19 : decode cX3_onlyKid 19 = .ok (.aconst_null, 1) := by decide +kernel
theorem dX3_onlyKid_20 : decode cX3_onlyKid 20 = .ok (.areturn, 1) := by decide +kernel
theorem dX3_wordWide_0 : decode cX3_wordWide 0 = .ok (.iload_n 0, 1) := by decide +kernel
theorem dX3_wordWide_1 : decode cX3_wordWide 1 = .ok (.iload_n 1, 1) := by decide +kernel
theorem dX3_wordWide_2 : decode cX3_wordWide 2 = .ok (.iadd, 1) := by decide +kernel
theorem dX3_wordWide_3 : decode cX3_wordWide 3 = .ok (.bipush 32, 2) := by decide +kernel
theorem dX3_wordWide_5 : decode cX3_wordWide 5 = .ok (.irem, 1) := by decide +kernel
theorem dX3_wordWide_6 : decode cX3_wordWide 6 = .ok (.istore_n 2, 1) := by decide +kernel
theorem dX3_wordWide_7 : decode cX3_wordWide 7 = .ok (.iconst 1, 1) := by decide +kernel
theorem dX3_wordWide_8 : decode cX3_wordWide 8 = .ok (.bipush 7, 2) := by decide +kernel
theorem dX3_wordWide_10 : decode cX3_wordWide 10 = .ok (.iload_n 2, 1) := by decide +kernel
theorem dX3_wordWide_11 : decode cX3_wordWide 11 = .ok (.imul, 1) := by decide +kernel
theorem dX3_wordWide_12 : decode cX3_wordWide 12 = .ok (.iload_n 2, 1) := by decide +kernel
theorem dX3_wordWide_13 : decode cX3_wordWide 13 = .ok (.imul, 1) := by decide +kernel
theorem dX3_wordWide_14 : decode cX3_wordWide 14 = .ok (.iconst 3, 1) := by decide +kernel
theorem dX3_wordWide_15 : decode cX3_wordWide 15 = .ok (.iload_n 2, 1) := by decide +kernel
theorem dX3_wordWide_16 : decode cX3_wordWide 16 = .ok (.imul, 1) := by decide +kernel
theorem dX3_wordWide_17 : decode cX3_wordWide 17 = .ok (.iadd, 1) := by decide +kernel
theorem dX3_wordWide_18 : decode cX3_wordWide 18 = .ok (.bipush 9, 2) := by decide +kernel
theorem dX3_wordWide_20 : decode cX3_wordWide 20 = .ok (.irem, 1) := by decide +kernel
theorem dX3_wordWide_21 : decode cX3_wordWide 21 = .ok (.iadd, 1) := by decide +kernel
theorem dX3_wordWide_22 : decode cX3_wordWide 22 = .ok (.ireturn, 1) := by decide +kernel
theorem dX3_layText_0 : decode cX3_layText 0 = .ok (.iconst 0, 1) := by decide +kernel
theorem dX3_layText_1 : decode cX3_layText 1 = .ok (.istore_n 2, 1) := by decide +kernel
theorem dX3_layText_2 : decode cX3_layText 2 = .ok (.iconst 0, 1) := by decide +kernel
theorem dX3_layText_3 : decode cX3_layText 3 = .ok (.istore_n 3, 1) := by decide +kernel
theorem dX3_layText_4 : decode cX3_layText 4 = .ok (.iconst 0, 1) := by decide +kernel
theorem dX3_layText_5 : decode cX3_layText 5 = .ok (.istore 4, 2) := by decide +kernel
theorem dX3_layText_7 : decode cX3_layText 7 = .ok (.iconst 0, 1) := by decide +kernel
theorem dX3_layText_8 : decode cX3_layText 8 = .ok (.istore 5, 2) := by decide +kernel
theorem dX3_layText_10 : decode cX3_layText 10 = .ok (.iload 5, 2) := by decide +kernel
theorem dX3_layText_12 : decode cX3_layText 12 = .ok (.aload_n 1, 1) := by decide +kernel
theorem dX3_layText_13 : decode cX3_layText 13 = .ok (.getfield 111, 3) := by decide +kernel
theorem dX3_layText_16 : decode cX3_layText 16 = .ok (.iconst 0, 1) := by decide +kernel
theorem dX3_layText_17 : decode cX3_layText 17 = .ok (.iaload, 1) := by decide +kernel
theorem dX3_layText_18 : decode cX3_layText 18 = .ok (.if_icmp .ge 69, 3) := by decide +kernel
theorem dX3_layText_21 : decode cX3_layText 21 = .ok (.aload_n 1, 1) := by decide +kernel
theorem dX3_layText_22 : decode cX3_layText 22 = .ok (.getfield 111, 3) := by decide +kernel
theorem dX3_layText_25 : decode cX3_layText 25 = .ok (.iconst 1, 1) := by decide +kernel
theorem dX3_layText_26 : decode cX3_layText 26 = .ok (.iaload, 1) := by decide +kernel
theorem dX3_layText_27 : decode cX3_layText 27 = .ok (.iload 5, 2) := by decide +kernel
theorem dX3_layText_29 : decode cX3_layText 29 = .ok (.invokestatic 151, 3) := by decide +kernel
theorem dX3_layText_32 : decode cX3_layText 32 = .ok (.istore 6, 2) := by decide +kernel
theorem dX3_layText_34 : decode cX3_layText 34 = .ok (.iload_n 3, 1) := by decide +kernel
theorem dX3_layText_35 : decode cX3_layText 35 = .ok (.ifCond .le 32, 3) := by decide +kernel
theorem dX3_layText_38 : decode cX3_layText 38 = .ok (.iload 4, 2) := by decide +kernel
theorem dX3_layText_40 : decode cX3_layText 40 = .ok (.iconst 1, 1) := by decide +kernel
theorem dX3_layText_41 : decode cX3_layText 41 = .ok (.iadd, 1) := by decide +kernel
theorem dX3_layText_42 : decode cX3_layText 42 = .ok (.iload 6, 2) := by decide +kernel
theorem dX3_layText_44 : decode cX3_layText 44 = .ok (.iadd, 1) := by decide +kernel
theorem dX3_layText_45 : decode cX3_layText 45 = .ok (.aload_n 1, 1) := by decide +kernel
theorem dX3_layText_46 : decode cX3_layText 46 = .ok (.getfield 57, 3) := by decide +kernel
theorem dX3_layText_49 : decode cX3_layText 49 = .ok (.getfield 68, 3) := by decide +kernel
theorem dX3_layText_52 : decode cX3_layText 52 = .ok (.if_icmp .gt 15, 3) := by decide +kernel
theorem dX3_layText_55 : decode cX3_layText 55 = .ok (.iload 4, 2) := by decide +kernel
theorem dX3_layText_57 : decode cX3_layText 57 = .ok (.iconst 1, 1) := by decide +kernel
theorem dX3_layText_58 : decode cX3_layText 58 = .ok (.iload 6, 2) := by decide +kernel
theorem dX3_layText_60 : decode cX3_layText 60 = .ok (.iadd, 1) := by decide +kernel
theorem dX3_layText_61 : decode cX3_layText 61 = .ok (.iadd, 1) := by decide +kernel
theorem dX3_layText_62 : decode cX3_layText 62 = .ok (.istore 4, 2) := by decide +kernel
theorem dX3_layText_64 : decode cX3_layText 64 = .ok (.goto 10, 3) := by decide +kernel
theorem dX3_layText_67 : decode cX3_layText 67 = .ok (.iload 6, 2) := by decide +kernel
theorem dX3_layText_69 : decode cX3_layText 69 = .ok (.istore 4, 2) := by decide +kernel
theorem dX3_layText_71 : decode cX3_layText 71 = .ok (.iinc 3 1, 3) := by decide +kernel
theorem dX3_layText_74 : decode cX3_layText 74 = .ok (.iload_n 2, 1) := by decide +kernel
theorem dX3_layText_75 : decode cX3_layText 75 = .ok (.iload 4, 2) := by decide +kernel
theorem dX3_layText_77 : decode cX3_layText 77 = .ok (.invokestatic 155, 3) := by decide +kernel
theorem dX3_layText_80 : decode cX3_layText 80 = .ok (.istore_n 2, 1) := by decide +kernel
theorem dX3_layText_81 : decode cX3_layText 81 = .ok (.iinc 5 1, 3) := by decide +kernel
theorem dX3_layText_84 : decode cX3_layText 84 = .ok (.goto (-74), 3) := by decide +kernel
theorem dX3_layText_87 : decode cX3_layText 87 = .ok (.aload_n 1, 1) := by decide +kernel
theorem dX3_layText_88 : decode cX3_layText 88 = .ok (.getfield 57, 3) := by decide +kernel
theorem dX3_layText_91 : decode cX3_layText 91 = .ok (.iload_n 2, 1) := by decide +kernel
theorem dX3_layText_92 : decode cX3_layText 92 = .ok (.iconst 2, 1) := by decide +kernel
theorem dX3_layText_93 : decode cX3_layText 93 = .ok (.iload_n 3, 1) := by decide +kernel
theorem dX3_layText_94 : decode cX3_layText 94 = .ok (.imul, 1) := by decide +kernel
theorem dX3_layText_95 : decode cX3_layText 95 = .ok (.invokevirtual 115, 3) := by decide +kernel
theorem dX3_layText_98 : decode cX3_layText 98 = .ok (.iload_n 3, 1) := by decide +kernel
theorem dX3_layText_99 : decode cX3_layText 99 = .ok (.ifCond .le 11, 3) := by decide +kernel
theorem dX3_layText_102 : decode cX3_layText 102 = .ok (.aload_n 1, 1) := by decide +kernel
theorem dX3_layText_103 : decode cX3_layText 103 = .ok (.getfield 57, 3) := by decide +kernel
theorem dX3_layText_106 : decode cX3_layText 106 = .ok (.iconst 1, 1) := by decide +kernel
theorem dX3_layText_107 : decode cX3_layText 107 = .ok (.putfield 160, 3) := by decide +kernel
theorem dX3_layText_110 : decode cX3_layText 110 = .ok (.return_, 1) := by decide +kernel
theorem dX3_lessBy_0 : decode cX3_lessBy 0 = .ok (.iload_n 0, 1) := by decide +kernel
theorem dX3_lessBy_1 : decode cX3_lessBy 1 = .ok (.sipush 1000, 3) := by decide +kernel
theorem dX3_lessBy_4 : decode cX3_lessBy 4 = .ok (.if_icmp .lt 9, 3) := by decide +kernel
theorem dX3_lessBy_7 : decode cX3_lessBy 7 = .ok (.sipush 1000, 3) := by decide +kernel
theorem dX3_lessBy_10 : decode cX3_lessBy 10 = .ok (.goto 10, 3) := by decide +kernel
theorem dX3_lessBy_13 : decode cX3_lessBy 13 = .ok (.iconst 0, 1) := by decide +kernel
theorem dX3_lessBy_14 : decode cX3_lessBy 14 = .ok (.iload_n 0, 1) := by decide +kernel
theorem dX3_lessBy_15 : decode cX3_lessBy 15 = .ok (.iload_n 1, 1) := by decide +kernel
theorem dX3_lessBy_16 : decode cX3_lessBy 16 = .ok (.isub, 1) := by decide +kernel
theorem dX3_lessBy_17 : decode cX3_lessBy 17 = .ok (.invokestatic 155, 3) := by decide +kernel
theorem dX3_lessBy_20 : decode cX3_lessBy 20 = .ok (.ireturn, 1) := by decide +kernel
theorem dX3_layPad_0 : decode cX3_layPad 0 = .ok (.aload_n 1, 1) := by decide +kernel
theorem dX3_layPad_1 : decode cX3_layPad 1 = .ok (.getfield 57, 3) := by decide +kernel
theorem dX3_layPad_4 : decode cX3_layPad 4 = .ok (.astore_n 3, 1) := by decide +kernel
theorem dX3_layPad_5 : decode cX3_layPad 5 = .ok (.aload_n 1, 1) := by decide +kernel
theorem dX3_layPad_6 : decode cX3_layPad 6 = .ok (.getfield 111, 3) := by decide +kernel
theorem dX3_layPad_9 : decode cX3_layPad 9 = .ok (.iconst 0, 1) := by decide +kernel
theorem dX3_layPad_10 : decode cX3_layPad 10 = .ok (.iaload, 1) := by decide +kernel
theorem dX3_layPad_11 : decode cX3_layPad 11 = .ok (.istore 4, 2) := by decide +kernel
theorem dX3_layPad_13 : decode cX3_layPad 13 = .ok (.aload_n 1, 1) := by decide +kernel
theorem dX3_layPad_14 : decode cX3_layPad 14 = .ok (.getfield 111, 3) := by decide +kernel
theorem dX3_layPad_17 : decode cX3_layPad 17 = .ok (.iconst 1, 1) := by decide +kernel
theorem dX3_layPad_18 : decode cX3_layPad 18 = .ok (.iaload, 1) := by decide +kernel
theorem dX3_layPad_19 : decode cX3_layPad 19 = .ok (.istore 5, 2) := by decide +kernel
theorem dX3_layPad_21 : decode cX3_layPad 21 = .ok (.aload_n 0, 1) := by decide +kernel
theorem dX3_layPad_22 : decode cX3_layPad 22 = .ok (.aload_n 1, 1) := by decide +kernel
theorem dX3_layPad_23 : decode cX3_layPad 23 = .ok (.invokevirtual 163, 3) := by decide +kernel
theorem dX3_layPad_26 : decode cX3_layPad 26 = .ok (.astore 6, 2) := by decide +kernel
theorem dX3_layPad_28 : decode cX3_layPad 28 = .ok (.aload 6, 2) := by decide +kernel
theorem dX3_layPad_30 : decode cX3_layPad 30 = .ok (.ifnonnull 16, 3) := by decide +kernel
theorem dX3_layPad_33 : decode cX3_layPad 33 = .ok (.aload_n 3, 1) := by decide +kernel
theorem dX3_layPad_34 : decode cX3_layPad 34 = .ok (.iconst 2, 1) := by decide +kernel
theorem dX3_layPad_35 : decode cX3_layPad 35 = .ok (.iload 4, 2) := by decide +kernel
theorem dX3_layPad_37 : decode cX3_layPad 37 = .ok (.imul, 1) := by decide +kernel
theorem dX3_layPad_38 : decode cX3_layPad 38 = .ok (.iconst 2, 1) := by decide +kernel
theorem dX3_layPad_39 : decode cX3_layPad 39 = .ok (.iload 5, 2) := by decide +kernel
theorem dX3_layPad_41 : decode cX3_layPad 41 = .ok (.imul, 1) := by decide +kernel
theorem dX3_layPad_42 : decode cX3_layPad 42 = .ok (.invokevirtual 115, 3) := by decide +kernel
theorem dX3_layPad_45 : decode cX3_layPad 45 = .ok (.return_, 1) := by decide +kernel
theorem dX3_layPad_46 : decode cX3_layPad 46 = .ok (.aload_n 0, 1) := by decide +kernel
theorem dX3_layPad_47 : decode cX3_layPad 47 = .ok (.aload 6, 2) := by decide +kernel
theorem dX3_layPad_49 : decode cX3_layPad 49 = .ok (.aload_n 3, 1) := by decide +kernel
theorem dX3_layPad_50 : decode cX3_layPad 50 = .ok (.getfield 63, 3) := by decide +kernel
theorem dX3_layPad_53 : decode cX3_layPad 53 = .ok (.iconst 2, 1) := by decide +kernel
theorem dX3_layPad_54 : decode cX3_layPad 54 = .ok (.iload 4, 2) := by decide +kernel
theorem dX3_layPad_56 : decode cX3_layPad 56 = .ok (.imul, 1) := by decide +kernel
theorem dX3_layPad_57 : decode cX3_layPad 57 = .ok (.invokestatic 167, 3) := by decide +kernel
theorem dX3_layPad_60 : decode cX3_layPad 60 = .ok (.aload_n 3, 1) := by decide +kernel
theorem dX3_layPad_61 : decode cX3_layPad 61 = .ok (.getfield 68, 3) := by decide +kernel
theorem dX3_layPad_64 : decode cX3_layPad 64 = .ok (.iconst 2, 1) := by decide +kernel
theorem dX3_layPad_65 : decode cX3_layPad 65 = .ok (.iload 4, 2) := by decide +kernel
theorem dX3_layPad_67 : decode cX3_layPad 67 = .ok (.imul, 1) := by decide +kernel
theorem dX3_layPad_68 : decode cX3_layPad 68 = .ok (.invokestatic 167, 3) := by decide +kernel
theorem dX3_layPad_71 : decode cX3_layPad 71 = .ok (.aload_n 3, 1) := by decide +kernel
theorem dX3_layPad_72 : decode cX3_layPad 72 = .ok (.getfield 71, 3) := by decide +kernel
theorem dX3_layPad_75 : decode cX3_layPad 75 = .ok (.iconst 2, 1) := by decide +kernel
theorem dX3_layPad_76 : decode cX3_layPad 76 = .ok (.iload 5, 2) := by decide +kernel
theorem dX3_layPad_78 : decode cX3_layPad 78 = .ok (.imul, 1) := by decide +kernel
theorem dX3_layPad_79 : decode cX3_layPad 79 = .ok (.invokestatic 167, 3) := by decide +kernel
theorem dX3_layPad_82 : decode cX3_layPad 82 = .ok (.aload_n 3, 1) := by decide +kernel
theorem dX3_layPad_83 : decode cX3_layPad 83 = .ok (.getfield 74, 3) := by decide +kernel
theorem dX3_layPad_86 : decode cX3_layPad 86 = .ok (.iconst 2, 1) := by decide +kernel
theorem dX3_layPad_87 : decode cX3_layPad 87 = .ok (.iload 5, 2) := by decide +kernel
theorem dX3_layPad_89 : decode cX3_layPad 89 = .ok (.imul, 1) := by decide +kernel
theorem dX3_layPad_90 : decode cX3_layPad 90 = .ok (.invokestatic 167, 3) := by decide +kernel
theorem dX3_layPad_93 : decode cX3_layPad 93 = .ok (.iload_n 2, 1) := by decide +kernel
theorem dX3_layPad_94 : decode cX3_layPad 94 = .ok (.iconst 1, 1) := by decide +kernel
theorem dX3_layPad_95 : decode cX3_layPad 95 = .ok (.iadd, 1) := by decide +kernel
theorem dX3_layPad_96 : decode cX3_layPad 96 = .ok (.invokevirtual 44, 3) := by decide +kernel
theorem dX3_layPad_99 : decode cX3_layPad 99 = .ok (.aload 6, 2) := by decide +kernel
theorem dX3_layPad_101 : decode cX3_layPad 101 = .ok (.getfield 57, 3) := by decide +kernel
theorem dX3_layPad_104 : decode cX3_layPad 104 = .ok (.iload 4, 2) := by decide +kernel
theorem dX3_layPad_106 : decode cX3_layPad 106 = .ok (.iload 5, 2) := by decide +kernel
theorem dX3_layPad_108 : decode cX3_layPad 108 = .ok (.invokevirtual 170, 3) := by decide +kernel
theorem dX3_layPad_111 : decode cX3_layPad 111 = .ok (.aload_n 3, 1) := by decide +kernel
theorem dX3_layPad_112 : decode cX3_layPad 112 = .ok (.aload 6, 2) := by decide +kernel
theorem dX3_layPad_114 : decode cX3_layPad 114 = .ok (.getfield 57, 3) := by decide +kernel
theorem dX3_layPad_117 : decode cX3_layPad 117 = .ok (.getfield 173, 3) := by decide +kernel
theorem dX3_layPad_120 : decode cX3_layPad 120 = .ok (.iconst 2, 1) := by decide +kernel
theorem dX3_layPad_121 : decode cX3_layPad 121 = .ok (.iload 4, 2) := by decide +kernel
theorem dX3_layPad_123 : decode cX3_layPad 123 = .ok (.imul, 1) := by decide +kernel
theorem dX3_layPad_124 : decode cX3_layPad 124 = .ok (.iadd, 1) := by decide +kernel
theorem dX3_layPad_125 : decode cX3_layPad 125 = .ok (.aload 6, 2) := by decide +kernel
theorem dX3_layPad_127 : decode cX3_layPad 127 = .ok (.getfield 57, 3) := by decide +kernel
theorem dX3_layPad_130 : decode cX3_layPad 130 = .ok (.getfield 176, 3) := by decide +kernel
theorem dX3_layPad_133 : decode cX3_layPad 133 = .ok (.iconst 2, 1) := by decide +kernel
theorem dX3_layPad_134 : decode cX3_layPad 134 = .ok (.iload 5, 2) := by decide +kernel
theorem dX3_layPad_136 : decode cX3_layPad 136 = .ok (.imul, 1) := by decide +kernel
theorem dX3_layPad_137 : decode cX3_layPad 137 = .ok (.iadd, 1) := by decide +kernel
theorem dX3_layPad_138 : decode cX3_layPad 138 = .ok (.invokevirtual 115, 3) := by decide +kernel
theorem dX3_layPad_141 : decode cX3_layPad 141 = .ok (.return_, 1) := by decide +kernel
theorem dX3_layLimit_0 : decode cX3_layLimit 0 = .ok (.aload_n 1, 1) := by decide +kernel
theorem dX3_layLimit_1 : decode cX3_layLimit 1 = .ok (.getfield 57, 3) := by decide +kernel
theorem dX3_layLimit_4 : decode cX3_layLimit 4 = .ok (.astore_n 3, 1) := by decide +kernel
theorem dX3_layLimit_5 : decode cX3_layLimit 5 = .ok (.aload_n 1, 1) := by decide +kernel
theorem dX3_layLimit_6 : decode cX3_layLimit 6 = .ok (.getfield 111, 3) := by decide +kernel
theorem dX3_layLimit_9 : decode cX3_layLimit 9 = .ok (.iconst 0, 1) := by decide +kernel
theorem dX3_layLimit_10 : decode cX3_layLimit 10 = .ok (.iaload, 1) := by decide +kernel
theorem dX3_layLimit_11 : decode cX3_layLimit 11 = .ok (.aload_n 3, 1) := by decide +kernel
theorem dX3_layLimit_12 : decode cX3_layLimit 12 = .ok (.getfield 63, 3) := by decide +kernel
theorem dX3_layLimit_15 : decode cX3_layLimit 15 = .ok (.aload_n 3, 1) := by decide +kernel
theorem dX3_layLimit_16 : decode cX3_layLimit 16 = .ok (.getfield 68, 3) := by decide +kernel
theorem dX3_layLimit_19 : decode cX3_layLimit 19 = .ok (.invokestatic 179, 3) := by decide +kernel
theorem dX3_layLimit_22 : decode cX3_layLimit 22 = .ok (.istore 4, 2) := by decide +kernel
theorem dX3_layLimit_24 : decode cX3_layLimit 24 = .ok (.aload_n 1, 1) := by decide +kernel
theorem dX3_layLimit_25 : decode cX3_layLimit 25 = .ok (.getfield 111, 3) := by decide +kernel
theorem dX3_layLimit_28 : decode cX3_layLimit 28 = .ok (.iconst 1, 1) := by decide +kernel
theorem dX3_layLimit_29 : decode cX3_layLimit 29 = .ok (.iaload, 1) := by decide +kernel
theorem dX3_layLimit_30 : decode cX3_layLimit 30 = .ok (.invokestatic 183, 3) := by decide +kernel
theorem dX3_layLimit_33 : decode cX3_layLimit 33 = .ok (.aload_n 3, 1) := by decide +kernel
theorem dX3_layLimit_34 : decode cX3_layLimit 34 = .ok (.getfield 63, 3) := by decide +kernel
theorem dX3_layLimit_37 : decode cX3_layLimit 37 = .ok (.aload_n 3, 1) := by decide +kernel
theorem dX3_layLimit_38 : decode cX3_layLimit 38 = .ok (.getfield 68, 3) := by decide +kernel
theorem dX3_layLimit_41 : decode cX3_layLimit 41 = .ok (.invokestatic 179, 3) := by decide +kernel
theorem dX3_layLimit_44 : decode cX3_layLimit 44 = .ok (.istore 5, 2) := by decide +kernel
theorem dX3_layLimit_46 : decode cX3_layLimit 46 = .ok (.aload_n 1, 1) := by decide +kernel
theorem dX3_layLimit_47 : decode cX3_layLimit 47 = .ok (.getfield 111, 3) := by decide +kernel
theorem dX3_layLimit_50 : decode cX3_layLimit 50 = .ok (.iconst 2, 1) := by decide +kernel
theorem dX3_layLimit_51 : decode cX3_layLimit 51 = .ok (.iaload, 1) := by decide +kernel
theorem dX3_layLimit_52 : decode cX3_layLimit 52 = .ok (.aload_n 3, 1) := by decide +kernel
theorem dX3_layLimit_53 : decode cX3_layLimit 53 = .ok (.getfield 71, 3) := by decide +kernel
theorem dX3_layLimit_56 : decode cX3_layLimit 56 = .ok (.aload_n 3, 1) := by decide +kernel
theorem dX3_layLimit_57 : decode cX3_layLimit 57 = .ok (.getfield 74, 3) := by decide +kernel
theorem dX3_layLimit_60 : decode cX3_layLimit 60 = .ok (.invokestatic 179, 3) := by decide +kernel
theorem dX3_layLimit_63 : decode cX3_layLimit 63 = .ok (.istore 6, 2) := by decide +kernel
theorem dX3_layLimit_65 : decode cX3_layLimit 65 = .ok (.aload_n 1, 1) := by decide +kernel
theorem dX3_layLimit_66 : decode cX3_layLimit 66 = .ok (.getfield 111, 3) := by decide +kernel
theorem dX3_layLimit_69 : decode cX3_layLimit 69 = .ok (.iconst 3, 1) := by decide +kernel
theorem dX3_layLimit_70 : decode cX3_layLimit 70 = .ok (.iaload, 1) := by decide +kernel
theorem dX3_layLimit_71 : decode cX3_layLimit 71 = .ok (.invokestatic 183, 3) := by decide +kernel
theorem dX3_layLimit_74 : decode cX3_layLimit 74 = .ok (.aload_n 3, 1) := by decide +kernel
theorem dX3_layLimit_75 : decode cX3_layLimit 75 = .ok (.getfield 71, 3) := by decide +kernel
theorem dX3_layLimit_78 : decode cX3_layLimit 78 = .ok (.aload_n 3, 1) := by decide +kernel
theorem dX3_layLimit_79 : decode cX3_layLimit 79 = .ok (.getfield 74, 3) := by decide +kernel
theorem dX3_layLimit_82 : decode cX3_layLimit 82 = .ok (.invokestatic 179, 3) := by decide +kernel
theorem dX3_layLimit_85 : decode cX3_layLimit 85 = .ok (.istore 7, 2) := by decide +kernel
theorem dX3_layLimit_87 : decode cX3_layLimit 87 = .ok (.aload_n 0, 1) := by decide +kernel
theorem dX3_layLimit_88 : decode cX3_layLimit 88 = .ok (.aload_n 1, 1) := by decide +kernel
theorem dX3_layLimit_89 : decode cX3_layLimit 89 = .ok (.invokevirtual 163, 3) := by decide +kernel
theorem dX3_layLimit_92 : decode cX3_layLimit 92 = .ok (.astore 8, 2) := by decide +kernel
theorem dX3_layLimit_94 : decode cX3_layLimit 94 = .ok (.aload 8, 2) := by decide +kernel
theorem dX3_layLimit_96 : decode cX3_layLimit 96 = .ok (.ifnonnull 12, 3) := by decide +kernel
theorem dX3_layLimit_99 : decode cX3_layLimit 99 = .ok (.aload_n 3, 1) := by decide +kernel
theorem dX3_layLimit_100 : decode cX3_layLimit 100 = .ok (.iload 4, 2) := by decide +kernel
theorem dX3_layLimit_102 : decode cX3_layLimit 102 = .ok (.iload 6, 2) := by decide +kernel
theorem dX3_layLimit_104 : decode cX3_layLimit 104 = .ok (.invokevirtual 115, 3) := by decide +kernel
theorem dX3_layLimit_107 : decode cX3_layLimit 107 = .ok (.return_, 1) := by decide +kernel
theorem dX3_layLimit_108 : decode cX3_layLimit 108 = .ok (.aload_n 0, 1) := by decide +kernel
theorem dX3_layLimit_109 : decode cX3_layLimit 109 = .ok (.aload 8, 2) := by decide +kernel
theorem dX3_layLimit_111 : decode cX3_layLimit 111 = .ok (.iload 4, 2) := by decide +kernel
theorem dX3_layLimit_113 : decode cX3_layLimit 113 = .ok (.iload 5, 2) := by decide +kernel
theorem dX3_layLimit_115 : decode cX3_layLimit 115 = .ok (.iload 6, 2) := by decide +kernel
theorem dX3_layLimit_117 : decode cX3_layLimit 117 = .ok (.iload 7, 2) := by decide +kernel
theorem dX3_layLimit_119 : decode cX3_layLimit 119 = .ok (.iload_n 2, 1) := by decide +kernel
theorem dX3_layLimit_120 : decode cX3_layLimit 120 = .ok (.iconst 1, 1) := by decide +kernel
theorem dX3_layLimit_121 : decode cX3_layLimit 121 = .ok (.iadd, 1) := by decide +kernel
theorem dX3_layLimit_122 : decode cX3_layLimit 122 = .ok (.invokevirtual 44, 3) := by decide +kernel
theorem dX3_layLimit_125 : decode cX3_layLimit 125 = .ok (.aload 8, 2) := by decide +kernel
theorem dX3_layLimit_127 : decode cX3_layLimit 127 = .ok (.getfield 57, 3) := by decide +kernel
theorem dX3_layLimit_130 : decode cX3_layLimit 130 = .ok (.iconst 0, 1) := by decide +kernel
theorem dX3_layLimit_131 : decode cX3_layLimit 131 = .ok (.iconst 0, 1) := by decide +kernel
theorem dX3_layLimit_132 : decode cX3_layLimit 132 = .ok (.invokevirtual 170, 3) := by decide +kernel
theorem dX3_layLimit_135 : decode cX3_layLimit 135 = .ok (.aload_n 3, 1) := by decide +kernel
theorem dX3_layLimit_136 : decode cX3_layLimit 136 = .ok (.aload 8, 2) := by decide +kernel
theorem dX3_layLimit_138 : decode cX3_layLimit 138 = .ok (.getfield 57, 3) := by decide +kernel
theorem dX3_layLimit_141 : decode cX3_layLimit 141 = .ok (.getfield 173, 3) := by decide +kernel
theorem dX3_layLimit_144 : decode cX3_layLimit 144 = .ok (.aload 8, 2) := by decide +kernel
theorem dX3_layLimit_146 : decode cX3_layLimit 146 = .ok (.getfield 57, 3) := by decide +kernel
theorem dX3_layLimit_149 : decode cX3_layLimit 149 = .ok (.getfield 176, 3) := by decide +kernel
theorem dX3_layLimit_152 : decode cX3_layLimit 152 = .ok (.invokevirtual 115, 3) := by decide +kernel
theorem dX3_layLimit_155 : decode cX3_layLimit 155 = .ok (.return_, 1) := by decide +kernel
theorem dX3_layLoose_0 : decode cX3_layLoose 0 = .ok (.aload_n 0, 1) := by decide +kernel
theorem dX3_layLoose_1 : decode cX3_layLoose 1 = .ok (.aload_n 2, 1) := by decide +kernel
theorem dX3_layLoose_2 : decode cX3_layLoose 2 = .ok (.iconst 0, 1) := by decide +kernel
theorem dX3_layLoose_3 : decode cX3_layLoose 3 = .ok (.aload_n 1, 1) := by decide +kernel
theorem dX3_layLoose_4 : decode cX3_layLoose 4 = .ok (.getfield 57, 3) := by decide +kernel
theorem dX3_layLoose_7 : decode cX3_layLoose 7 = .ok (.getfield 68, 3) := by decide +kernel
theorem dX3_layLoose_10 : decode cX3_layLoose 10 = .ok (.iconst 0, 1) := by decide +kernel
theorem dX3_layLoose_11 : decode cX3_layLoose 11 = .ok (.aload_n 1, 1) := by decide +kernel
theorem dX3_layLoose_12 : decode cX3_layLoose 12 = .ok (.getfield 57, 3) := by decide +kernel
theorem dX3_layLoose_15 : decode cX3_layLoose 15 = .ok (.getfield 74, 3) := by decide +kernel
theorem dX3_layLoose_18 : decode cX3_layLoose 18 = .ok (.iload_n 3, 1) := by decide +kernel
theorem dX3_layLoose_19 : decode cX3_layLoose 19 = .ok (.iconst 1, 1) := by decide +kernel
theorem dX3_layLoose_20 : decode cX3_layLoose 20 = .ok (.iadd, 1) := by decide +kernel
theorem dX3_layLoose_21 : decode cX3_layLoose 21 = .ok (.invokevirtual 44, 3) := by decide +kernel
theorem dX3_layLoose_24 : decode cX3_layLoose 24 = .ok (.return_, 1) := by decide +kernel
theorem dX3_layCentre_0 : decode cX3_layCentre 0 = .ok (.aload_n 1, 1) := by decide +kernel
theorem dX3_layCentre_1 : decode cX3_layCentre 1 = .ok (.getfield 57, 3) := by decide +kernel
theorem dX3_layCentre_4 : decode cX3_layCentre 4 = .ok (.astore_n 3, 1) := by decide +kernel
theorem dX3_layCentre_5 : decode cX3_layCentre 5 = .ok (.aload_n 0, 1) := by decide +kernel
theorem dX3_layCentre_6 : decode cX3_layCentre 6 = .ok (.aload_n 1, 1) := by decide +kernel
theorem dX3_layCentre_7 : decode cX3_layCentre 7 = .ok (.invokevirtual 163, 3) := by decide +kernel
theorem dX3_layCentre_10 : decode cX3_layCentre 10 = .ok (.astore 4, 2) := by decide +kernel
theorem dX3_layCentre_12 : decode cX3_layCentre 12 = .ok (.iconst 0, 1) := by decide +kernel
theorem dX3_layCentre_13 : decode cX3_layCentre 13 = .ok (.istore 5, 2) := by decide +kernel
theorem dX3_layCentre_15 : decode cX3_layCentre 15 = .ok (.iconst 0, 1) := by decide +kernel
theorem dX3_layCentre_16 : decode cX3_layCentre 16 = .ok (.istore 6, 2) := by decide +kernel
theorem dX3_layCentre_18 : decode cX3_layCentre 18 = .ok (.aload 4, 2) := by decide +kernel
theorem dX3_layCentre_20 : decode cX3_layCentre 20 = .ok (.ifnull 31, 3) := by decide +kernel
theorem dX3_layCentre_23 : decode cX3_layCentre 23 = .ok (.aload_n 0, 1) := by decide +kernel
theorem dX3_layCentre_24 : decode cX3_layCentre 24 = .ok (.aload_n 1, 1) := by decide +kernel
theorem dX3_layCentre_25 : decode cX3_layCentre 25 = .ok (.aload 4, 2) := by decide +kernel
theorem dX3_layCentre_27 : decode cX3_layCentre 27 = .ok (.iload_n 2, 1) := by decide +kernel
theorem dX3_layCentre_28 : decode cX3_layCentre 28 = .ok (.invokevirtual 187, 3) := by decide +kernel
theorem dX3_layCentre_31 : decode cX3_layCentre 31 = .ok (.aload 4, 2) := by decide +kernel
theorem dX3_layCentre_33 : decode cX3_layCentre 33 = .ok (.getfield 57, 3) := by decide +kernel
theorem dX3_layCentre_36 : decode cX3_layCentre 36 = .ok (.getfield 173, 3) := by decide +kernel
theorem dX3_layCentre_39 : decode cX3_layCentre 39 = .ok (.istore 5, 2) := by decide +kernel
theorem dX3_layCentre_41 : decode cX3_layCentre 41 = .ok (.aload 4, 2) := by decide +kernel
theorem dX3_layCentre_43 : decode cX3_layCentre 43 = .ok (.getfield 57, 3) := by decide +kernel
theorem dX3_layCentre_46 : decode cX3_layCentre 46 = .ok (.getfield 176, 3) := by decide +kernel
theorem dX3_layCentre_49 : decode cX3_layCentre 49 = .ok (.istore 6, 2) := by decide +kernel
theorem dX3_layCentre_51 : decode cX3_layCentre 51 = .ok (.aload_n 3, 1) := by decide +kernel
theorem dX3_layCentre_52 : decode cX3_layCentre 52 = .ok (.aload_n 3, 1) := by decide +kernel
theorem dX3_layCentre_53 : decode cX3_layCentre 53 = .ok (.getfield 68, 3) := by decide +kernel
theorem dX3_layCentre_56 : decode cX3_layCentre 56 = .ok (.sipush 1000, 3) := by decide +kernel
theorem dX3_layCentre_59 : decode cX3_layCentre 59 = .ok (.if_icmp .ge 10, 3) := by decide +kernel
theorem dX3_layCentre_62 : decode cX3_layCentre 62 = .ok (.aload_n 3, 1) := by decide +kernel
theorem dX3_layCentre_63 : decode cX3_layCentre 63 = .ok (.getfield 68, 3) := by decide +kernel
theorem dX3_layCentre_66 : decode cX3_layCentre 66 = .ok (.goto 5, 3) := by decide +kernel
theorem dX3_layCentre_69 : decode cX3_layCentre 69 = .ok (.iload 5, 2) := by decide +kernel
theorem dX3_layCentre_71 : decode cX3_layCentre 71 = .ok (.aload_n 3, 1) := by decide +kernel
theorem dX3_layCentre_72 : decode cX3_layCentre 72 = .ok (.getfield 74, 3) := by decide +kernel
theorem dX3_layCentre_75 : decode cX3_layCentre 75 = .ok (.sipush 1000, 3) := by decide +kernel
theorem dX3_layCentre_78 : decode cX3_layCentre 78 = .ok (.if_icmp .ge 10, 3) := by decide +kernel
theorem dX3_layCentre_81 : decode cX3_layCentre 81 = .ok (.aload_n 3, 1) := by decide +kernel
theorem dX3_layCentre_82 : decode cX3_layCentre 82 = .ok (.getfield 74, 3) := by decide +kernel
theorem dX3_layCentre_85 : decode cX3_layCentre 85 = .ok (.goto 5, 3) := by decide +kernel
theorem dX3_layCentre_88 : decode cX3_layCentre 88 = .ok (.iload 6, 2) := by decide +kernel
theorem dX3_layCentre_90 : decode cX3_layCentre 90 = .ok (.invokevirtual 115, 3) := by decide +kernel
theorem dX3_layCentre_93 : decode cX3_layCentre 93 = .ok (.aload 4, 2) := by decide +kernel
theorem dX3_layCentre_95 : decode cX3_layCentre 95 = .ok (.ifnull 29, 3) := by decide +kernel
theorem dX3_layCentre_98 : decode cX3_layCentre 98 = .ok (.aload 4, 2) := by decide +kernel
theorem dX3_layCentre_100 : decode cX3_layCentre 100 = .ok (.getfield 57, 3) := by decide +kernel
theorem dX3_layCentre_103 : decode cX3_layCentre 103 = .ok (.aload_n 3, 1) := by decide +kernel
theorem dX3_layCentre_104 : decode cX3_layCentre 104 = .ok (.getfield 173, 3) := by decide +kernel
theorem dX3_layCentre_107 : decode cX3_layCentre 107 = .ok (.iload 5, 2) := by decide +kernel
theorem dX3_layCentre_109 : decode cX3_layCentre 109 = .ok (.isub, 1) := by decide +kernel
theorem dX3_layCentre_110 : decode cX3_layCentre 110 = .ok (.iconst 2, 1) := by decide +kernel
theorem dX3_layCentre_111 : decode cX3_layCentre 111 = .ok (.idiv, 1) := by decide +kernel
theorem dX3_layCentre_112 : decode cX3_layCentre 112 = .ok (.aload_n 3, 1) := by decide +kernel
theorem dX3_layCentre_113 : decode cX3_layCentre 113 = .ok (.getfield 176, 3) := by decide +kernel
theorem dX3_layCentre_116 : decode cX3_layCentre 116 = .ok (.iload 6, 2) := by decide +kernel
theorem dX3_layCentre_118 : decode cX3_layCentre 118 = .ok (.isub, 1) := by decide +kernel
theorem dX3_layCentre_119 : decode cX3_layCentre 119 = .ok (.iconst 2, 1) := by decide +kernel
theorem dX3_layCentre_120 : decode cX3_layCentre 120 = .ok (.idiv, 1) := by decide +kernel
theorem dX3_layCentre_121 : decode cX3_layCentre 121 = .ok (.invokevirtual 170, 3) := by decide +kernel
theorem dX3_layCentre_124 : decode cX3_layCentre 124 = .ok (.return_, 1) := by decide +kernel
theorem dX3_layFit_0 : decode cX3_layFit 0 = .ok (.aload_n 1, 1) := by decide +kernel
theorem dX3_layFit_1 : decode cX3_layFit 1 = .ok (.getfield 57, 3) := by decide +kernel
theorem dX3_layFit_4 : decode cX3_layFit 4 = .ok (.astore_n 3, 1) := by decide +kernel
theorem dX3_layFit_5 : decode cX3_layFit 5 = .ok (.aload_n 0, 1) := by decide +kernel
theorem dX3_layFit_6 : decode cX3_layFit 6 = .ok (.aload_n 1, 1) := by decide +kernel
theorem dX3_layFit_7 : decode cX3_layFit 7 = .ok (.invokevirtual 163, 3) := by decide +kernel
theorem dX3_layFit_10 : decode cX3_layFit 10 = .ok (.astore 4, 2) := by decide +kernel
theorem dX3_layFit_12 : decode cX3_layFit 12 = .ok (.aload 4, 2) := by decide +kernel
theorem dX3_layFit_14 : decode cX3_layFit 14 = .ok (.ifnonnull 13, 3) := by decide +kernel
theorem dX3_layFit_17 : decode cX3_layFit 17 = .ok (.aload_n 3, 1) := by decide +kernel
theorem dX3_layFit_18 : decode cX3_layFit 18 = .ok (.iconst 0, 1) := by decide +kernel
theorem dX3_layFit_19 : decode cX3_layFit 19 = .ok (.aload_n 3, 1) := by decide +kernel
theorem dX3_layFit_20 : decode cX3_layFit 20 = .ok (.getfield 71, 3) := by decide +kernel
theorem dX3_layFit_23 : decode cX3_layFit 23 = .ok (.invokevirtual 115, 3) := by decide +kernel
theorem dX3_layFit_26 : decode cX3_layFit 26 = .ok (.return_, 1) := by decide +kernel
theorem dX3_layFit_27 : decode cX3_layFit 27 = .ok (.aload_n 0, 1) := by decide +kernel
theorem dX3_layFit_28 : decode cX3_layFit 28 = .ok (.aload 4, 2) := by decide +kernel
theorem dX3_layFit_30 : decode cX3_layFit 30 = .ok (.iconst 0, 1) := by decide +kernel
theorem dX3_layFit_31 : decode cX3_layFit 31 = .ok (.iload_n 2, 1) := by decide +kernel
theorem dX3_layFit_32 : decode cX3_layFit 32 = .ok (.iconst 1, 1) := by decide +kernel
theorem dX3_layFit_33 : decode cX3_layFit 33 = .ok (.iadd, 1) := by decide +kernel
theorem dX3_layFit_34 : decode cX3_layFit 34 = .ok (.invokevirtual 191, 3) := by decide +kernel
theorem dX3_layFit_37 : decode cX3_layFit 37 = .ok (.aload_n 3, 1) := by decide +kernel
theorem dX3_layFit_38 : decode cX3_layFit 38 = .ok (.getfield 63, 3) := by decide +kernel
theorem dX3_layFit_41 : decode cX3_layFit 41 = .ok (.aload_n 3, 1) := by decide +kernel
theorem dX3_layFit_42 : decode cX3_layFit 42 = .ok (.getfield 68, 3) := by decide +kernel
theorem dX3_layFit_45 : decode cX3_layFit 45 = .ok (.invokestatic 179, 3) := by decide +kernel
theorem dX3_layFit_48 : decode cX3_layFit 48 = .ok (.istore 5, 2) := by decide +kernel
theorem dX3_layFit_50 : decode cX3_layFit 50 = .ok (.aload_n 0, 1) := by decide +kernel
theorem dX3_layFit_51 : decode cX3_layFit 51 = .ok (.aload 4, 2) := by decide +kernel
theorem dX3_layFit_53 : decode cX3_layFit 53 = .ok (.iload 5, 2) := by decide +kernel
theorem dX3_layFit_55 : decode cX3_layFit 55 = .ok (.iload 5, 2) := by decide +kernel
theorem dX3_layFit_57 : decode cX3_layFit 57 = .ok (.aload_n 3, 1) := by decide +kernel
theorem dX3_layFit_58 : decode cX3_layFit 58 = .ok (.getfield 71, 3) := by decide +kernel
theorem dX3_layFit_61 : decode cX3_layFit 61 = .ok (.aload_n 3, 1) := by decide +kernel
theorem dX3_layFit_62 : decode cX3_layFit 62 = .ok (.getfield 74, 3) := by decide +kernel
theorem dX3_layFit_65 : decode cX3_layFit 65 = .ok (.iload_n 2, 1) := by decide +kernel
theorem dX3_layFit_66 : decode cX3_layFit 66 = .ok (.iconst 1, 1) := by decide +kernel
theorem dX3_layFit_67 : decode cX3_layFit 67 = .ok (.iadd, 1) := by decide +kernel
theorem dX3_layFit_68 : decode cX3_layFit 68 = .ok (.invokevirtual 44, 3) := by decide +kernel
theorem dX3_layFit_71 : decode cX3_layFit 71 = .ok (.aload 4, 2) := by decide +kernel
theorem dX3_layFit_73 : decode cX3_layFit 73 = .ok (.getfield 57, 3) := by decide +kernel
theorem dX3_layFit_76 : decode cX3_layFit 76 = .ok (.iconst 0, 1) := by decide +kernel
theorem dX3_layFit_77 : decode cX3_layFit 77 = .ok (.iconst 0, 1) := by decide +kernel
theorem dX3_layFit_78 : decode cX3_layFit 78 = .ok (.invokevirtual 170, 3) := by decide +kernel
theorem dX3_layFit_81 : decode cX3_layFit 81 = .ok (.aload_n 3, 1) := by decide +kernel
theorem dX3_layFit_82 : decode cX3_layFit 82 = .ok (.aload 4, 2) := by decide +kernel
theorem dX3_layFit_84 : decode cX3_layFit 84 = .ok (.getfield 57, 3) := by decide +kernel
theorem dX3_layFit_87 : decode cX3_layFit 87 = .ok (.getfield 173, 3) := by decide +kernel
theorem dX3_layFit_90 : decode cX3_layFit 90 = .ok (.aload 4, 2) := by decide +kernel
theorem dX3_layFit_92 : decode cX3_layFit 92 = .ok (.getfield 57, 3) := by decide +kernel
theorem dX3_layFit_95 : decode cX3_layFit 95 = .ok (.getfield 176, 3) := by decide +kernel
theorem dX3_layFit_98 : decode cX3_layFit 98 = .ok (.invokevirtual 115, 3) := by decide +kernel
theorem dX3_layFit_101 : decode cX3_layFit 101 = .ok (.return_, 1) := by decide +kernel
theorem dX3_layRatio_0 : decode cX3_layRatio 0 = .ok (.aload_n 1, 1) := by decide +kernel
theorem dX3_layRatio_1 : decode cX3_layRatio 1 = .ok (.getfield 57, 3) := by decide +kernel
theorem dX3_layRatio_4 : decode cX3_layRatio 4 = .ok (.astore_n 3, 1) := by decide +kernel
theorem dX3_layRatio_5 : decode cX3_layRatio 5 = .ok (.aload_n 1, 1) := by decide +kernel
theorem dX3_layRatio_6 : decode cX3_layRatio 6 = .ok (.getfield 111, 3) := by decide +kernel
theorem dX3_layRatio_9 : decode cX3_layRatio 9 = .ok (.iconst 0, 1) := by decide +kernel
theorem dX3_layRatio_10 : decode cX3_layRatio 10 = .ok (.iaload, 1) := by decide +kernel
theorem dX3_layRatio_11 : decode cX3_layRatio 11 = .ok (.istore 4, 2) := by decide +kernel
theorem dX3_layRatio_13 : decode cX3_layRatio 13 = .ok (.aload_n 1, 1) := by decide +kernel
theorem dX3_layRatio_14 : decode cX3_layRatio 14 = .ok (.getfield 111, 3) := by decide +kernel
theorem dX3_layRatio_17 : decode cX3_layRatio 17 = .ok (.iconst 1, 1) := by decide +kernel
theorem dX3_layRatio_18 : decode cX3_layRatio 18 = .ok (.iaload, 1) := by decide +kernel
theorem dX3_layRatio_19 : decode cX3_layRatio 19 = .ok (.istore 5, 2) := by decide +kernel
theorem dX3_layRatio_21 : decode cX3_layRatio 21 = .ok (.aload_n 3, 1) := by decide +kernel
theorem dX3_layRatio_22 : decode cX3_layRatio 22 = .ok (.getfield 68, 3) := by decide +kernel
theorem dX3_layRatio_25 : decode cX3_layRatio 25 = .ok (.istore 6, 2) := by decide +kernel
theorem dX3_layRatio_27 : decode cX3_layRatio 27 = .ok (.iload 6, 2) := by decide +kernel
theorem dX3_layRatio_29 : decode cX3_layRatio 29 = .ok (.sipush 1000, 3) := by decide +kernel
theorem dX3_layRatio_32 : decode cX3_layRatio 32 = .ok (.if_icmp .lt 34, 3) := by decide +kernel
theorem dX3_layRatio_35 : decode cX3_layRatio 35 = .ok (.aload_n 3, 1) := by decide +kernel
theorem dX3_layRatio_36 : decode cX3_layRatio 36 = .ok (.getfield 74, 3) := by decide +kernel
theorem dX3_layRatio_39 : decode cX3_layRatio 39 = .ok (.sipush 1000, 3) := by decide +kernel
theorem dX3_layRatio_42 : decode cX3_layRatio 42 = .ok (.if_icmp .lt 11, 3) := by decide +kernel
theorem dX3_layRatio_45 : decode cX3_layRatio 45 = .ok (.bipush 10, 2) := by decide +kernel
theorem dX3_layRatio_47 : decode cX3_layRatio 47 = .ok (.iload 4, 2) := by decide +kernel
theorem dX3_layRatio_49 : decode cX3_layRatio 49 = .ok (.imul, 1) := by decide +kernel
theorem dX3_layRatio_50 : decode cX3_layRatio 50 = .ok (.goto 14, 3) := by decide +kernel
theorem dX3_layRatio_53 : decode cX3_layRatio 53 = .ok (.aload_n 3, 1) := by decide +kernel
theorem dX3_layRatio_54 : decode cX3_layRatio 54 = .ok (.getfield 74, 3) := by decide +kernel
theorem dX3_layRatio_57 : decode cX3_layRatio 57 = .ok (.iload 4, 2) := by decide +kernel
theorem dX3_layRatio_59 : decode cX3_layRatio 59 = .ok (.iload 5, 2) := by decide +kernel
theorem dX3_layRatio_61 : decode cX3_layRatio 61 = .ok (.invokestatic 195, 3) := by decide +kernel
theorem dX3_layRatio_64 : decode cX3_layRatio 64 = .ok (.istore 6, 2) := by decide +kernel
theorem dX3_layRatio_66 : decode cX3_layRatio 66 = .ok (.iload 6, 2) := by decide +kernel
theorem dX3_layRatio_68 : decode cX3_layRatio 68 = .ok (.iload 5, 2) := by decide +kernel
theorem dX3_layRatio_70 : decode cX3_layRatio 70 = .ok (.iload 4, 2) := by decide +kernel
theorem dX3_layRatio_72 : decode cX3_layRatio 72 = .ok (.invokestatic 195, 3) := by decide +kernel
theorem dX3_layRatio_75 : decode cX3_layRatio 75 = .ok (.istore 7, 2) := by decide +kernel
theorem dX3_layRatio_77 : decode cX3_layRatio 77 = .ok (.iload 7, 2) := by decide +kernel
theorem dX3_layRatio_79 : decode cX3_layRatio 79 = .ok (.aload_n 3, 1) := by decide +kernel
theorem dX3_layRatio_80 : decode cX3_layRatio 80 = .ok (.getfield 74, 3) := by decide +kernel
theorem dX3_layRatio_83 : decode cX3_layRatio 83 = .ok (.if_icmp .le 20, 3) := by decide +kernel
theorem dX3_layRatio_86 : decode cX3_layRatio 86 = .ok (.aload_n 3, 1) := by decide +kernel
theorem dX3_layRatio_87 : decode cX3_layRatio 87 = .ok (.getfield 74, 3) := by decide +kernel
theorem dX3_layRatio_90 : decode cX3_layRatio 90 = .ok (.istore 7, 2) := by decide +kernel
theorem dX3_layRatio_92 : decode cX3_layRatio 92 = .ok (.iload 7, 2) := by decide +kernel
theorem dX3_layRatio_94 : decode cX3_layRatio 94 = .ok (.iload 4, 2) := by decide +kernel
theorem dX3_layRatio_96 : decode cX3_layRatio 96 = .ok (.iload 5, 2) := by decide +kernel
theorem dX3_layRatio_98 : decode cX3_layRatio 98 = .ok (.invokestatic 195, 3) := by decide +kernel
theorem dX3_layRatio_101 : decode cX3_layRatio 101 = .ok (.istore 6, 2) := by decide +kernel
theorem dX3_layRatio_103 : decode cX3_layRatio 103 = .ok (.aload_n 3, 1) := by decide +kernel
theorem dX3_layRatio_104 : decode cX3_layRatio 104 = .ok (.iload 6, 2) := by decide +kernel
theorem dX3_layRatio_106 : decode cX3_layRatio 106 = .ok (.iload 7, 2) := by decide +kernel
theorem dX3_layRatio_108 : decode cX3_layRatio 108 = .ok (.invokevirtual 115, 3) := by decide +kernel
theorem dX3_layRatio_111 : decode cX3_layRatio 111 = .ok (.aload_n 0, 1) := by decide +kernel
theorem dX3_layRatio_112 : decode cX3_layRatio 112 = .ok (.aload_n 1, 1) := by decide +kernel
theorem dX3_layRatio_113 : decode cX3_layRatio 113 = .ok (.invokevirtual 163, 3) := by decide +kernel
theorem dX3_layRatio_116 : decode cX3_layRatio 116 = .ok (.astore 8, 2) := by decide +kernel
theorem dX3_layRatio_118 : decode cX3_layRatio 118 = .ok (.aload 8, 2) := by decide +kernel
theorem dX3_layRatio_120 : decode cX3_layRatio 120 = .ok (.ifnull 38, 3) := by decide +kernel
theorem dX3_layRatio_123 : decode cX3_layRatio 123 = .ok (.aload_n 0, 1) := by decide +kernel
theorem dX3_layRatio_124 : decode cX3_layRatio 124 = .ok (.aload 8, 2) := by decide +kernel
theorem dX3_layRatio_126 : decode cX3_layRatio 126 = .ok (.aload_n 3, 1) := by decide +kernel
theorem dX3_layRatio_127 : decode cX3_layRatio 127 = .ok (.getfield 173, 3) := by decide +kernel
theorem dX3_layRatio_130 : decode cX3_layRatio 130 = .ok (.aload_n 3, 1) := by decide +kernel
theorem dX3_layRatio_131 : decode cX3_layRatio 131 = .ok (.getfield 173, 3) := by decide +kernel
theorem dX3_layRatio_134 : decode cX3_layRatio 134 = .ok (.aload_n 3, 1) := by decide +kernel
theorem dX3_layRatio_135 : decode cX3_layRatio 135 = .ok (.getfield 176, 3) := by decide +kernel
theorem dX3_layRatio_138 : decode cX3_layRatio 138 = .ok (.aload_n 3, 1) := by decide +kernel
theorem dX3_layRatio_139 : decode cX3_layRatio 139 = .ok (.getfield 176, 3) := by decide +kernel
theorem dX3_layRatio_142 : decode cX3_layRatio 142 = .ok (.iload_n 2, 1) := by decide +kernel
theorem dX3_layRatio_143 : decode cX3_layRatio 143 = .ok (.iconst 1, 1) := by decide +kernel
theorem dX3_layRatio_144 : decode cX3_layRatio 144 = .ok (.iadd, 1) := by decide +kernel
theorem dX3_layRatio_145 : decode cX3_layRatio 145 = .ok (.invokevirtual 44, 3) := by decide +kernel
theorem dX3_layRatio_148 : decode cX3_layRatio 148 = .ok (.aload 8, 2) := by decide +kernel
theorem dX3_layRatio_150 : decode cX3_layRatio 150 = .ok (.getfield 57, 3) := by decide +kernel
theorem dX3_layRatio_153 : decode cX3_layRatio 153 = .ok (.iconst 0, 1) := by decide +kernel
theorem dX3_layRatio_154 : decode cX3_layRatio 154 = .ok (.iconst 0, 1) := by decide +kernel
theorem dX3_layRatio_155 : decode cX3_layRatio 155 = .ok (.invokevirtual 170, 3) := by decide +kernel
theorem dX3_layRatio_158 : decode cX3_layRatio 158 = .ok (.return_, 1) := by decide +kernel
theorem dX3_layLayers_0 : decode cX3_layLayers 0 = .ok (.aload_n 1, 1) := by decide +kernel
theorem dX3_layLayers_1 : decode cX3_layLayers 1 = .ok (.getfield 57, 3) := by decide +kernel
theorem dX3_layLayers_4 : decode cX3_layLayers 4 = .ok (.astore_n 3, 1) := by decide +kernel
theorem dX3_layLayers_5 : decode cX3_layLayers 5 = .ok (.iconst 0, 1) := by decide +kernel
theorem dX3_layLayers_6 : decode cX3_layLayers 6 = .ok (.istore 4, 2) := by decide +kernel
theorem dX3_layLayers_8 : decode cX3_layLayers 8 = .ok (.iconst 0, 1) := by decide +kernel
theorem dX3_layLayers_9 : decode cX3_layLayers 9 = .ok (.istore 5, 2) := by decide +kernel
theorem dX3_layLayers_11 : decode cX3_layLayers 11 = .ok (.iconst 0, 1) := by decide +kernel
theorem dX3_layLayers_12 : decode cX3_layLayers 12 = .ok (.istore 6, 2) := by decide +kernel
theorem dX3_layLayers_14 : decode cX3_layLayers 14 = .ok (.iload 6, 2) := by decide +kernel
theorem dX3_layLayers_16 : decode cX3_layLayers 16 = .ok (.aload_n 1, 1) := by decide +kernel
theorem dX3_layLayers_17 : decode cX3_layLayers 17 = .ok (.getfield 144, 3) := by decide +kernel
theorem dX3_layLayers_20 : decode cX3_layLayers 20 = .ok (.if_icmp .ge 59, 3) := by decide +kernel
theorem dX3_layLayers_23 : decode cX3_layLayers 23 = .ok (.aload_n 0, 1) := by decide +kernel
theorem dX3_layLayers_24 : decode cX3_layLayers 24 = .ok (.getfield 9, 3) := by decide +kernel
theorem dX3_layLayers_27 : decode cX3_layLayers 27 = .ok (.aload_n 1, 1) := by decide +kernel
theorem dX3_layLayers_28 : decode cX3_layLayers 28 = .ok (.iload 6, 2) := by decide +kernel
theorem dX3_layLayers_30 : decode cX3_layLayers 30 = .ok (.invokevirtual 147, 3) := by decide +kernel
theorem dX3_layLayers_33 : decode cX3_layLayers 33 = .ok (.astore 7, 2) := by decide +kernel
theorem dX3_layLayers_35 : decode cX3_layLayers 35 = .ok (.aload_n 0, 1) := by decide +kernel
theorem dX3_layLayers_36 : decode cX3_layLayers 36 = .ok (.aload_n 1, 1) := by decide +kernel
theorem dX3_layLayers_37 : decode cX3_layLayers 37 = .ok (.aload 7, 2) := by decide +kernel
theorem dX3_layLayers_39 : decode cX3_layLayers 39 = .ok (.iload_n 2, 1) := by decide +kernel
theorem dX3_layLayers_40 : decode cX3_layLayers 40 = .ok (.invokevirtual 187, 3) := by decide +kernel
theorem dX3_layLayers_43 : decode cX3_layLayers 43 = .ok (.iload 4, 2) := by decide +kernel
theorem dX3_layLayers_45 : decode cX3_layLayers 45 = .ok (.aload 7, 2) := by decide +kernel
theorem dX3_layLayers_47 : decode cX3_layLayers 47 = .ok (.getfield 57, 3) := by decide +kernel
theorem dX3_layLayers_50 : decode cX3_layLayers 50 = .ok (.getfield 173, 3) := by decide +kernel
theorem dX3_layLayers_53 : decode cX3_layLayers 53 = .ok (.invokestatic 155, 3) := by decide +kernel
theorem dX3_layLayers_56 : decode cX3_layLayers 56 = .ok (.istore 4, 2) := by decide +kernel
theorem dX3_layLayers_58 : decode cX3_layLayers 58 = .ok (.iload 5, 2) := by decide +kernel
theorem dX3_layLayers_60 : decode cX3_layLayers 60 = .ok (.aload 7, 2) := by decide +kernel
theorem dX3_layLayers_62 : decode cX3_layLayers 62 = .ok (.getfield 57, 3) := by decide +kernel
theorem dX3_layLayers_65 : decode cX3_layLayers 65 = .ok (.getfield 176, 3) := by decide +kernel
theorem dX3_layLayers_68 : decode cX3_layLayers 68 = .ok (.invokestatic 155, 3) := by decide +kernel
theorem dX3_layLayers_71 : decode cX3_layLayers 71 = .ok (.istore 5, 2) := by decide +kernel
theorem dX3_layLayers_73 : decode cX3_layLayers 73 = .ok (.iinc 6 1, 3) := by decide +kernel
theorem dX3_layLayers_76 : decode cX3_layLayers 76 = .ok (.goto (-62), 3) := by decide +kernel
theorem dX3_layLayers_79 : decode cX3_layLayers 79 = .ok (.aload_n 3, 1) := by decide +kernel
theorem dX3_layLayers_80 : decode cX3_layLayers 80 = .ok (.iload 4, 2) := by decide +kernel
theorem dX3_layLayers_82 : decode cX3_layLayers 82 = .ok (.iload 5, 2) := by decide +kernel
theorem dX3_layLayers_84 : decode cX3_layLayers 84 = .ok (.invokevirtual 115, 3) := by decide +kernel
theorem dX3_layLayers_87 : decode cX3_layLayers 87 = .ok (.iconst 0, 1) := by decide +kernel
theorem dX3_layLayers_88 : decode cX3_layLayers 88 = .ok (.istore 6, 2) := by decide +kernel
theorem dX3_layLayers_90 : decode cX3_layLayers 90 = .ok (.iload 6, 2) := by decide +kernel
theorem dX3_layLayers_92 : decode cX3_layLayers 92 = .ok (.aload_n 1, 1) := by decide +kernel
theorem dX3_layLayers_93 : decode cX3_layLayers 93 = .ok (.getfield 144, 3) := by decide +kernel
theorem dX3_layLayers_96 : decode cX3_layLayers 96 = .ok (.if_icmp .ge 67, 3) := by decide +kernel
theorem dX3_layLayers_99 : decode cX3_layLayers 99 = .ok (.aload_n 0, 1) := by decide +kernel
theorem dX3_layLayers_100 : decode cX3_layLayers 100 = .ok (.getfield 9, 3) := by decide +kernel
theorem dX3_layLayers_103 : decode cX3_layLayers 103 = .ok (.aload_n 1, 1) := by decide +kernel
theorem dX3_layLayers_104 : decode cX3_layLayers 104 = .ok (.iload 6, 2) := by decide +kernel
theorem dX3_layLayers_106 : decode cX3_layLayers 106 = .ok (.invokevirtual 147, 3) := by decide +kernel
theorem dX3_layLayers_109 : decode cX3_layLayers 109 = .ok (.getfield 57, 3) := by decide +kernel
theorem dX3_layLayers_112 : decode cX3_layLayers 112 = .ok (.astore 7, 2) := by decide +kernel
theorem dX3_layLayers_114 : decode cX3_layLayers 114 = .ok (.aload_n 1, 1) := by decide +kernel
theorem dX3_layLayers_115 : decode cX3_layLayers 115 = .ok (.getfield 111, 3) := by decide +kernel
theorem dX3_layLayers_118 : decode cX3_layLayers 118 = .ok (.iconst 0, 1) := by decide +kernel
theorem dX3_layLayers_119 : decode cX3_layLayers 119 = .ok (.iaload, 1) := by decide +kernel
theorem dX3_layLayers_120 : decode cX3_layLayers 120 = .ok (.istore 8, 2) := by decide +kernel
theorem dX3_layLayers_122 : decode cX3_layLayers 122 = .ok (.aload 7, 2) := by decide +kernel
theorem dX3_layLayers_124 : decode cX3_layLayers 124 = .ok (.aload_n 3, 1) := by decide +kernel
theorem dX3_layLayers_125 : decode cX3_layLayers 125 = .ok (.getfield 173, 3) := by decide +kernel
theorem dX3_layLayers_128 : decode cX3_layLayers 128 = .ok (.aload 7, 2) := by decide +kernel
theorem dX3_layLayers_130 : decode cX3_layLayers 130 = .ok (.getfield 173, 3) := by decide +kernel
theorem dX3_layLayers_133 : decode cX3_layLayers 133 = .ok (.isub, 1) := by decide +kernel
theorem dX3_layLayers_134 : decode cX3_layLayers 134 = .ok (.iload 8, 2) := by decide +kernel
theorem dX3_layLayers_136 : decode cX3_layLayers 136 = .ok (.invokestatic 198, 3) := by decide +kernel
theorem dX3_layLayers_139 : decode cX3_layLayers 139 = .ok (.aload_n 3, 1) := by decide +kernel
theorem dX3_layLayers_140 : decode cX3_layLayers 140 = .ok (.getfield 176, 3) := by decide +kernel
theorem dX3_layLayers_143 : decode cX3_layLayers 143 = .ok (.aload 7, 2) := by decide +kernel
theorem dX3_layLayers_145 : decode cX3_layLayers 145 = .ok (.getfield 176, 3) := by decide +kernel
theorem dX3_layLayers_148 : decode cX3_layLayers 148 = .ok (.isub, 1) := by decide +kernel
theorem dX3_layLayers_149 : decode cX3_layLayers 149 = .ok (.iload 8, 2) := by decide +kernel
theorem dX3_layLayers_151 : decode cX3_layLayers 151 = .ok (.invokestatic 198, 3) := by decide +kernel
theorem dX3_layLayers_154 : decode cX3_layLayers 154 = .ok (.invokevirtual 170, 3) := by decide +kernel
theorem dX3_layLayers_157 : decode cX3_layLayers 157 = .ok (.iinc 6 1, 3) := by decide +kernel
theorem dX3_layLayers_160 : decode cX3_layLayers 160 = .ok (.goto (-70), 3) := by decide +kernel
theorem dX3_layLayers_163 : decode cX3_layLayers 163 = .ok (.return_, 1) := by decide +kernel
theorem dX3_aligned_0 : decode cX3_aligned 0 = .ok (.iload_n 1, 1) := by decide +kernel
theorem dX3_aligned_1 : decode cX3_aligned 1 = .ok (.lookupswitch 33 #[(1, 27), (2, 31)], 27) := by decide +kernel
theorem dX3_aligned_28 : decode cX3_aligned 28 = .ok (.iload_n 0, 1) := by decide +kernel
theorem dX3_aligned_29 : decode cX3_aligned 29 = .ok (.iconst 2, 1) := by decide +kernel
theorem dX3_aligned_30 : decode cX3_aligned 30 = .ok (.idiv, 1) := by decide +kernel
theorem dX3_aligned_31 : decode cX3_aligned 31 = .ok (.ireturn, 1) := by decide +kernel
theorem dX3_aligned_32 : decode cX3_aligned 32 = .ok (.iload_n 0, 1) := by decide +kernel
theorem dX3_aligned_33 : decode cX3_aligned 33 = .ok (.ireturn, 1) := by decide +kernel
theorem dX3_aligned_34 : decode cX3_aligned 34 = .ok (.iconst 0, 1) := by decide +kernel
theorem dX3_aligned_35 : decode cX3_aligned 35 = .ok (.ireturn, 1) := by decide +kernel
theorem dX3_layLine_0 : decode cX3_layLine 0 = .ok (.aload_n 1, 1) := by decide +kernel
theorem dX3_layLine_1 : decode cX3_layLine 1 = .ok (.getfield 57, 3) := by decide +kernel
theorem dX3_layLine_4 : decode cX3_layLine 4 = .ok (.astore_n 3, 1) := by decide +kernel
theorem dX3_layLine_5 : decode cX3_layLine 5 = .ok (.aload_n 1, 1) := by decide +kernel
theorem dX3_layLine_6 : decode cX3_layLine 6 = .ok (.getfield 108, 3) := by decide +kernel
theorem dX3_layLine_9 : decode cX3_layLine 9 = .ok (.bipush 8, 2) := by decide +kernel
theorem dX3_layLine_11 : decode cX3_layLine 11 = .ok (.if_icmp .ne 7, 3) := by decide +kernel
theorem dX3_layLine_14 : decode cX3_layLine 14 = .ok (.iconst 1, 1) := by decide +kernel
theorem dX3_layLine_15 : decode cX3_layLine 15 = .ok (.goto 4, 3) := by decide +kernel
theorem dX3_layLine_18 : decode cX3_layLine 18 = .ok (.iconst 0, 1) := by decide +kernel
theorem dX3_layLine_19 : decode cX3_layLine 19 = .ok (.istore 4, 2) := by decide +kernel
theorem dX3_layLine_21 : decode cX3_layLine 21 = .ok (.iload 4, 2) := by decide +kernel
theorem dX3_layLine_23 : decode cX3_layLine 23 = .ok (.ifCond .eq 10, 3) := by decide +kernel
theorem dX3_layLine_26 : decode cX3_layLine 26 = .ok (.aload_n 3, 1) := by decide +kernel
theorem dX3_layLine_27 : decode cX3_layLine 27 = .ok (.getfield 68, 3) := by decide +kernel
theorem dX3_layLine_30 : decode cX3_layLine 30 = .ok (.goto 7, 3) := by decide +kernel
theorem dX3_layLine_33 : decode cX3_layLine 33 = .ok (.aload_n 3, 1) := by decide +kernel
theorem dX3_layLine_34 : decode cX3_layLine 34 = .ok (.getfield 74, 3) := by decide +kernel
theorem dX3_layLine_37 : decode cX3_layLine 37 = .ok (.istore 5, 2) := by decide +kernel
theorem dX3_layLine_39 : decode cX3_layLine 39 = .ok (.iconst 0, 1) := by decide +kernel
theorem dX3_layLine_40 : decode cX3_layLine 40 = .ok (.aload_n 1, 1) := by decide +kernel
theorem dX3_layLine_41 : decode cX3_layLine 41 = .ok (.getfield 144, 3) := by decide +kernel
theorem dX3_layLine_44 : decode cX3_layLine 44 = .ok (.iconst 1, 1) := by decide +kernel
theorem dX3_layLine_45 : decode cX3_layLine 45 = .ok (.isub, 1) := by decide +kernel
theorem dX3_layLine_46 : decode cX3_layLine 46 = .ok (.invokestatic 155, 3) := by decide +kernel
theorem dX3_layLine_49 : decode cX3_layLine 49 = .ok (.aload_n 1, 1) := by decide +kernel
theorem dX3_layLine_50 : decode cX3_layLine 50 = .ok (.getfield 111, 3) := by decide +kernel
theorem dX3_layLine_53 : decode cX3_layLine 53 = .ok (.iconst 1, 1) := by decide +kernel
theorem dX3_layLine_54 : decode cX3_layLine 54 = .ok (.iaload, 1) := by decide +kernel
theorem dX3_layLine_55 : decode cX3_layLine 55 = .ok (.imul, 1) := by decide +kernel
theorem dX3_layLine_56 : decode cX3_layLine 56 = .ok (.istore 6, 2) := by decide +kernel
theorem dX3_layLine_58 : decode cX3_layLine 58 = .ok (.iload 5, 2) := by decide +kernel
theorem dX3_layLine_60 : decode cX3_layLine 60 = .ok (.sipush 1000, 3) := by decide +kernel
theorem dX3_layLine_63 : decode cX3_layLine 63 = .ok (.if_icmp .ge 15, 3) := by decide +kernel
theorem dX3_layLine_66 : decode cX3_layLine 66 = .ok (.aload_n 0, 1) := by decide +kernel
theorem dX3_layLine_67 : decode cX3_layLine 67 = .ok (.aload_n 1, 1) := by decide +kernel
theorem dX3_layLine_68 : decode cX3_layLine 68 = .ok (.invokevirtual 201, 3) := by decide +kernel
theorem dX3_layLine_71 : decode cX3_layLine 71 = .ok (.ifCond .eq 7, 3) := by decide +kernel
theorem dX3_layLine_74 : decode cX3_layLine 74 = .ok (.iconst 1, 1) := by decide +kernel
theorem dX3_layLine_75 : decode cX3_layLine 75 = .ok (.goto 4, 3) := by decide +kernel
theorem dX3_layLine_78 : decode cX3_layLine 78 = .ok (.iconst 0, 1) := by decide +kernel
theorem dX3_layLine_79 : decode cX3_layLine 79 = .ok (.istore 7, 2) := by decide +kernel
theorem dX3_layLine_81 : decode cX3_layLine 81 = .ok (.iload 6, 2) := by decide +kernel
theorem dX3_layLine_83 : decode cX3_layLine 83 = .ok (.aload_n 0, 1) := by decide +kernel
theorem dX3_layLine_84 : decode cX3_layLine 84 = .ok (.aload_n 1, 1) := by decide +kernel
theorem dX3_layLine_85 : decode cX3_layLine 85 = .ok (.iload 7, 2) := by decide +kernel
theorem dX3_layLine_87 : decode cX3_layLine 87 = .ok (.iload_n 2, 1) := by decide +kernel
theorem dX3_layLine_88 : decode cX3_layLine 88 = .ok (.invokevirtual 205, 3) := by decide +kernel
theorem dX3_layLine_91 : decode cX3_layLine 91 = .ok (.iadd, 1) := by decide +kernel
theorem dX3_layLine_92 : decode cX3_layLine 92 = .ok (.istore 6, 2) := by decide +kernel
theorem dX3_layLine_94 : decode cX3_layLine 94 = .ok (.iload 7, 2) := by decide +kernel
theorem dX3_layLine_96 : decode cX3_layLine 96 = .ok (.ifCond .eq 32, 3) := by decide +kernel
theorem dX3_layLine_99 : decode cX3_layLine 99 = .ok (.aload_n 3, 1) := by decide +kernel
theorem dX3_layLine_100 : decode cX3_layLine 100 = .ok (.aload_n 0, 1) := by decide +kernel
theorem dX3_layLine_101 : decode cX3_layLine 101 = .ok (.aload_n 1, 1) := by decide +kernel
theorem dX3_layLine_102 : decode cX3_layLine 102 = .ok (.iconst 0, 1) := by decide +kernel
theorem dX3_layLine_103 : decode cX3_layLine 103 = .ok (.iload 5, 2) := by decide +kernel
theorem dX3_layLine_105 : decode cX3_layLine 105 = .ok (.iload 6, 2) := by decide +kernel
theorem dX3_layLine_107 : decode cX3_layLine 107 = .ok (.isub, 1) := by decide +kernel
theorem dX3_layLine_108 : decode cX3_layLine 108 = .ok (.invokestatic 155, 3) := by decide +kernel
theorem dX3_layLine_111 : decode cX3_layLine 111 = .ok (.invokevirtual 209, 3) := by decide +kernel
theorem dX3_layLine_114 : decode cX3_layLine 114 = .ok (.putfield 213, 3) := by decide +kernel
theorem dX3_layLine_117 : decode cX3_layLine 117 = .ok (.iload 6, 2) := by decide +kernel
theorem dX3_layLine_119 : decode cX3_layLine 119 = .ok (.aload_n 0, 1) := by decide +kernel
theorem dX3_layLine_120 : decode cX3_layLine 120 = .ok (.aload_n 1, 1) := by decide +kernel
theorem dX3_layLine_121 : decode cX3_layLine 121 = .ok (.iload_n 2, 1) := by decide +kernel
theorem dX3_layLine_122 : decode cX3_layLine 122 = .ok (.invokevirtual 216, 3) := by decide +kernel
theorem dX3_layLine_125 : decode cX3_layLine 125 = .ok (.iadd, 1) := by decide +kernel
theorem dX3_layLine_126 : decode cX3_layLine 126 = .ok (.istore 6, 2) := by decide +kernel
theorem dX3_layLine_128 : decode cX3_layLine 128 = .ok (.iload 7, 2) := by decide +kernel
theorem dX3_layLine_130 : decode cX3_layLine 130 = .ok (.ifCond .eq 8, 3) := by decide +kernel
theorem dX3_layLine_133 : decode cX3_layLine 133 = .ok (.iload 5, 2) := by decide +kernel
theorem dX3_layLine_135 : decode cX3_layLine 135 = .ok (.goto 5, 3) := by decide +kernel
theorem dX3_layLine_138 : decode cX3_layLine 138 = .ok (.iload 6, 2) := by decide +kernel
theorem dX3_layLine_140 : decode cX3_layLine 140 = .ok (.iload 4, 2) := by decide +kernel
theorem dX3_layLine_142 : decode cX3_layLine 142 = .ok (.ifCond .eq 10, 3) := by decide +kernel
theorem dX3_layLine_145 : decode cX3_layLine 145 = .ok (.aload_n 3, 1) := by decide +kernel
theorem dX3_layLine_146 : decode cX3_layLine 146 = .ok (.getfield 63, 3) := by decide +kernel
theorem dX3_layLine_149 : decode cX3_layLine 149 = .ok (.goto 7, 3) := by decide +kernel
theorem dX3_layLine_152 : decode cX3_layLine 152 = .ok (.aload_n 3, 1) := by decide +kernel
theorem dX3_layLine_153 : decode cX3_layLine 153 = .ok (.getfield 71, 3) := by decide +kernel
theorem dX3_layLine_156 : decode cX3_layLine 156 = .ok (.iload 5, 2) := by decide +kernel
theorem dX3_layLine_158 : decode cX3_layLine 158 = .ok (.invokestatic 179, 3) := by decide +kernel
theorem dX3_layLine_161 : decode cX3_layLine 161 = .ok (.istore 8, 2) := by decide +kernel
theorem dX3_layLine_163 : decode cX3_layLine 163 = .ok (.aload_n 3, 1) := by decide +kernel
theorem dX3_layLine_164 : decode cX3_layLine 164 = .ok (.iconst 0, 1) := by decide +kernel
theorem dX3_layLine_165 : decode cX3_layLine 165 = .ok (.iload 6, 2) := by decide +kernel
theorem dX3_layLine_167 : decode cX3_layLine 167 = .ok (.iload 8, 2) := by decide +kernel
theorem dX3_layLine_169 : decode cX3_layLine 169 = .ok (.isub, 1) := by decide +kernel
theorem dX3_layLine_170 : decode cX3_layLine 170 = .ok (.invokestatic 155, 3) := by decide +kernel
theorem dX3_layLine_173 : decode cX3_layLine 173 = .ok (.putfield 219, 3) := by decide +kernel
theorem dX3_layLine_176 : decode cX3_layLine 176 = .ok (.iload 4, 2) := by decide +kernel
theorem dX3_layLine_178 : decode cX3_layLine 178 = .ok (.ifCond .eq 24, 3) := by decide +kernel
theorem dX3_layLine_181 : decode cX3_layLine 181 = .ok (.aload_n 1, 1) := by decide +kernel
theorem dX3_layLine_182 : decode cX3_layLine 182 = .ok (.getfield 111, 3) := by decide +kernel
theorem dX3_layLine_185 : decode cX3_layLine 185 = .ok (.iconst 0, 1) := by decide +kernel
theorem dX3_layLine_186 : decode cX3_layLine 186 = .ok (.iaload, 1) := by decide +kernel
theorem dX3_layLine_187 : decode cX3_layLine 187 = .ok (.iconst 4, 1) := by decide +kernel
theorem dX3_layLine_188 : decode cX3_layLine 188 = .ok (.if_icmp .ne 14, 3) := by decide +kernel
theorem dX3_layLine_191 : decode cX3_layLine 191 = .ok (.aload_n 0, 1) := by decide +kernel
theorem dX3_layLine_192 : decode cX3_layLine 192 = .ok (.aload_n 1, 1) := by decide +kernel
theorem dX3_layLine_193 : decode cX3_layLine 193 = .ok (.iload 8, 2) := by decide +kernel
theorem dX3_layLine_195 : decode cX3_layLine 195 = .ok (.iload_n 2, 1) := by decide +kernel
theorem dX3_layLine_196 : decode cX3_layLine 196 = .ok (.invokevirtual 222, 3) := by decide +kernel
theorem dX3_layLine_199 : decode cX3_layLine 199 = .ok (.goto 47, 3) := by decide +kernel
theorem dX3_layLine_202 : decode cX3_layLine 202 = .ok (.aload_n 0, 1) := by decide +kernel
theorem dX3_layLine_203 : decode cX3_layLine 203 = .ok (.aload_n 1, 1) := by decide +kernel
theorem dX3_layLine_204 : decode cX3_layLine 204 = .ok (.iload 4, 2) := by decide +kernel
theorem dX3_layLine_206 : decode cX3_layLine 206 = .ok (.invokevirtual 226, 3) := by decide +kernel
theorem dX3_layLine_209 : decode cX3_layLine 209 = .ok (.istore 9, 2) := by decide +kernel
theorem dX3_layLine_211 : decode cX3_layLine 211 = .ok (.aload_n 3, 1) := by decide +kernel
theorem dX3_layLine_212 : decode cX3_layLine 212 = .ok (.iload 4, 2) := by decide +kernel
theorem dX3_layLine_214 : decode cX3_layLine 214 = .ok (.ifCond .eq 8, 3) := by decide +kernel
theorem dX3_layLine_217 : decode cX3_layLine 217 = .ok (.iload 8, 2) := by decide +kernel
theorem dX3_layLine_219 : decode cX3_layLine 219 = .ok (.goto 5, 3) := by decide +kernel
theorem dX3_layLine_222 : decode cX3_layLine 222 = .ok (.iload 9, 2) := by decide +kernel
theorem dX3_layLine_224 : decode cX3_layLine 224 = .ok (.iload 4, 2) := by decide +kernel
theorem dX3_layLine_226 : decode cX3_layLine 226 = .ok (.ifCond .eq 8, 3) := by decide +kernel
theorem dX3_layLine_229 : decode cX3_layLine 229 = .ok (.iload 9, 2) := by decide +kernel
theorem dX3_layLine_231 : decode cX3_layLine 231 = .ok (.goto 5, 3) := by decide +kernel
theorem dX3_layLine_234 : decode cX3_layLine 234 = .ok (.iload 8, 2) := by decide +kernel
theorem dX3_layLine_236 : decode cX3_layLine 236 = .ok (.invokevirtual 115, 3) := by decide +kernel
theorem dX3_layLine_239 : decode cX3_layLine 239 = .ok (.aload_n 0, 1) := by decide +kernel
theorem dX3_layLine_240 : decode cX3_layLine 240 = .ok (.aload_n 1, 1) := by decide +kernel
theorem dX3_layLine_241 : decode cX3_layLine 241 = .ok (.iload 4, 2) := by decide +kernel
theorem dX3_layLine_243 : decode cX3_layLine 243 = .ok (.invokevirtual 230, 3) := by decide +kernel
theorem dX3_layLine_246 : decode cX3_layLine 246 = .ok (.return_, 1) := by decide +kernel
theorem dX3_hasSharers_0 : decode cX3_hasSharers 0 = .ok (.iconst 0, 1) := by decide +kernel
theorem dX3_hasSharers_1 : decode cX3_hasSharers 1 = .ok (.istore_n 2, 1) := by decide +kernel
theorem dX3_hasSharers_2 : decode cX3_hasSharers 2 = .ok (.iload_n 2, 1) := by decide +kernel
theorem dX3_hasSharers_3 : decode cX3_hasSharers 3 = .ok (.aload_n 1, 1) := by decide +kernel
theorem dX3_hasSharers_4 : decode cX3_hasSharers 4 = .ok (.getfield 144, 3) := by decide +kernel
theorem dX3_hasSharers_7 : decode cX3_hasSharers 7 = .ok (.if_icmp .ge 26, 3) := by decide +kernel
theorem dX3_hasSharers_10 : decode cX3_hasSharers 10 = .ok (.aload_n 0, 1) := by decide +kernel
theorem dX3_hasSharers_11 : decode cX3_hasSharers 11 = .ok (.getfield 9, 3) := by decide +kernel
theorem dX3_hasSharers_14 : decode cX3_hasSharers 14 = .ok (.aload_n 1, 1) := by decide +kernel
theorem dX3_hasSharers_15 : decode cX3_hasSharers 15 = .ok (.iload_n 2, 1) := by decide +kernel
theorem dX3_hasSharers_16 : decode cX3_hasSharers 16 = .ok (.invokevirtual 147, 3) := by decide +kernel
theorem dX3_hasSharers_19 : decode cX3_hasSharers 19 = .ok (.getfield 234, 3) := by decide +kernel
theorem dX3_hasSharers_22 : decode cX3_hasSharers 22 = .ok (.ifCond .le 5, 3) := by decide +kernel
theorem dX3_hasSharers_25 : decode cX3_hasSharers 25 = .ok (.iconst 1, 1) := by decide +kernel
theorem dX3_hasSharers_26 : decode cX3_hasSharers 26 = .ok (.ireturn, 1) := by decide +kernel
theorem dX3_hasSharers_27 : decode cX3_hasSharers 27 = .ok (.iinc 2 1, 3) := by decide +kernel
theorem dX3_hasSharers_30 : decode cX3_hasSharers 30 = .ok (.goto (-28), 3) := by decide +kernel
theorem dX3_hasSharers_33 : decode cX3_hasSharers 33 = .ok (.iconst 0, 1) := by decide +kernel
theorem dX3_hasSharers_34 : decode cX3_hasSharers 34 = .ok (.ireturn, 1) := by decide +kernel
theorem dX3_layAlong_0 : decode cX3_layAlong 0 = .ok (.aload_n 1, 1) := by decide +kernel
theorem dX3_layAlong_1 : decode cX3_layAlong 1 = .ok (.getfield 108, 3) := by decide +kernel
theorem dX3_layAlong_4 : decode cX3_layAlong 4 = .ok (.bipush 8, 2) := by decide +kernel
theorem dX3_layAlong_6 : decode cX3_layAlong 6 = .ok (.if_icmp .ne 7, 3) := by decide +kernel
theorem dX3_layAlong_9 : decode cX3_layAlong 9 = .ok (.iconst 1, 1) := by decide +kernel
theorem dX3_layAlong_10 : decode cX3_layAlong 10 = .ok (.goto 4, 3) := by decide +kernel
theorem dX3_layAlong_13 : decode cX3_layAlong 13 = .ok (.iconst 0, 1) := by decide +kernel
theorem dX3_layAlong_14 : decode cX3_layAlong 14 = .ok (.istore 6, 2) := by decide +kernel
theorem dX3_layAlong_16 : decode cX3_layAlong 16 = .ok (.iload 6, 2) := by decide +kernel
theorem dX3_layAlong_18 : decode cX3_layAlong 18 = .ok (.ifCond .eq 13, 3) := by decide +kernel
theorem dX3_layAlong_21 : decode cX3_layAlong 21 = .ok (.aload_n 1, 1) := by decide +kernel
theorem dX3_layAlong_22 : decode cX3_layAlong 22 = .ok (.getfield 57, 3) := by decide +kernel
theorem dX3_layAlong_25 : decode cX3_layAlong 25 = .ok (.getfield 74, 3) := by decide +kernel
theorem dX3_layAlong_28 : decode cX3_layAlong 28 = .ok (.goto 10, 3) := by decide +kernel
theorem dX3_layAlong_31 : decode cX3_layAlong 31 = .ok (.aload_n 1, 1) := by decide +kernel
theorem dX3_layAlong_32 : decode cX3_layAlong 32 = .ok (.getfield 57, 3) := by decide +kernel
theorem dX3_layAlong_35 : decode cX3_layAlong 35 = .ok (.getfield 68, 3) := by decide +kernel
theorem dX3_layAlong_38 : decode cX3_layAlong 38 = .ok (.istore 7, 2) := by decide +kernel
theorem dX3_layAlong_40 : decode cX3_layAlong 40 = .ok (.aload_n 1, 1) := by decide +kernel
theorem dX3_layAlong_41 : decode cX3_layAlong 41 = .ok (.getfield 111, 3) := by decide +kernel
theorem dX3_layAlong_44 : decode cX3_layAlong 44 = .ok (.iconst 0, 1) := by decide +kernel
theorem dX3_layAlong_45 : decode cX3_layAlong 45 = .ok (.iaload, 1) := by decide +kernel
theorem dX3_layAlong_46 : decode cX3_layAlong 46 = .ok (.iconst 3, 1) := by decide +kernel
theorem dX3_layAlong_47 : decode cX3_layAlong 47 = .ok (.if_icmp .ne 16, 3) := by decide +kernel
theorem dX3_layAlong_50 : decode cX3_layAlong 50 = .ok (.iload 7, 2) := by decide +kernel
theorem dX3_layAlong_52 : decode cX3_layAlong 52 = .ok (.sipush 1000, 3) := by decide +kernel
theorem dX3_layAlong_55 : decode cX3_layAlong 55 = .ok (.if_icmp .ge 8, 3) := by decide +kernel
theorem dX3_layAlong_58 : decode cX3_layAlong 58 = .ok (.iload 7, 2) := by decide +kernel
theorem dX3_layAlong_60 : decode cX3_layAlong 60 = .ok (.goto 4, 3) := by decide +kernel
theorem dX3_layAlong_63 : decode cX3_layAlong 63 = .ok (.iconst 0, 1) := by decide +kernel
theorem dX3_layAlong_64 : decode cX3_layAlong 64 = .ok (.istore 8, 2) := by decide +kernel
theorem dX3_layAlong_66 : decode cX3_layAlong 66 = .ok (.iload 6, 2) := by decide +kernel
theorem dX3_layAlong_68 : decode cX3_layAlong 68 = .ok (.ifCond .eq 27, 3) := by decide +kernel
theorem dX3_layAlong_71 : decode cX3_layAlong 71 = .ok (.aload_n 0, 1) := by decide +kernel
theorem dX3_layAlong_72 : decode cX3_layAlong 72 = .ok (.aload_n 2, 1) := by decide +kernel
theorem dX3_layAlong_73 : decode cX3_layAlong 73 = .ok (.iload_n 3, 1) := by decide +kernel
theorem dX3_layAlong_74 : decode cX3_layAlong 74 = .ok (.iload 4, 2) := by decide +kernel
theorem dX3_layAlong_76 : decode cX3_layAlong 76 = .ok (.iload 8, 2) := by decide +kernel
theorem dX3_layAlong_78 : decode cX3_layAlong 78 = .ok (.iload 7, 2) := by decide +kernel
theorem dX3_layAlong_80 : decode cX3_layAlong 80 = .ok (.iload 5, 2) := by decide +kernel
theorem dX3_layAlong_82 : decode cX3_layAlong 82 = .ok (.iconst 1, 1) := by decide +kernel
theorem dX3_layAlong_83 : decode cX3_layAlong 83 = .ok (.iadd, 1) := by decide +kernel
theorem dX3_layAlong_84 : decode cX3_layAlong 84 = .ok (.invokevirtual 44, 3) := by decide +kernel
theorem dX3_layAlong_87 : decode cX3_layAlong 87 = .ok (.aload_n 2, 1) := by decide +kernel
theorem dX3_layAlong_88 : decode cX3_layAlong 88 = .ok (.getfield 57, 3) := by decide +kernel
theorem dX3_layAlong_91 : decode cX3_layAlong 91 = .ok (.getfield 173, 3) := by decide +kernel
theorem dX3_layAlong_94 : decode cX3_layAlong 94 = .ok (.ireturn, 1) := by decide +kernel
theorem dX3_layAlong_95 : decode cX3_layAlong 95 = .ok (.aload_n 0, 1) := by decide +kernel
theorem dX3_layAlong_96 : decode cX3_layAlong 96 = .ok (.aload_n 2, 1) := by decide +kernel
theorem dX3_layAlong_97 : decode cX3_layAlong 97 = .ok (.iload 8, 2) := by decide +kernel
theorem dX3_layAlong_99 : decode cX3_layAlong 99 = .ok (.iload 7, 2) := by decide +kernel
theorem dX3_layAlong_101 : decode cX3_layAlong 101 = .ok (.iload_n 3, 1) := by decide +kernel
theorem dX3_layAlong_102 : decode cX3_layAlong 102 = .ok (.iload 4, 2) := by decide +kernel
theorem dX3_layAlong_104 : decode cX3_layAlong 104 = .ok (.iload 5, 2) := by decide +kernel
theorem dX3_layAlong_106 : decode cX3_layAlong 106 = .ok (.iconst 1, 1) := by decide +kernel
theorem dX3_layAlong_107 : decode cX3_layAlong 107 = .ok (.iadd, 1) := by decide +kernel
theorem dX3_layAlong_108 : decode cX3_layAlong 108 = .ok (.invokevirtual 44, 3) := by decide +kernel
theorem dX3_layAlong_111 : decode cX3_layAlong 111 = .ok (.aload_n 2, 1) := by decide +kernel
theorem dX3_layAlong_112 : decode cX3_layAlong 112 = .ok (.getfield 57, 3) := by decide +kernel
theorem dX3_layAlong_115 : decode cX3_layAlong 115 = .ok (.getfield 176, 3) := by decide +kernel
theorem dX3_layAlong_118 : decode cX3_layAlong 118 = .ok (.ireturn, 1) := by decide +kernel
theorem dX3_layWithoutShare_0 : decode cX3_layWithoutShare 0 = .ok (.iconst 0, 1) := by decide +kernel
theorem dX3_layWithoutShare_1 : decode cX3_layWithoutShare 1 = .ok (.istore 4, 2) := by decide +kernel
theorem dX3_layWithoutShare_3 : decode cX3_layWithoutShare 3 = .ok (.iconst 0, 1) := by decide +kernel
theorem dX3_layWithoutShare_4 : decode cX3_layWithoutShare 4 = .ok (.istore 5, 2) := by decide +kernel
theorem dX3_layWithoutShare_6 : decode cX3_layWithoutShare 6 = .ok (.iload 5, 2) := by decide +kernel
theorem dX3_layWithoutShare_8 : decode cX3_layWithoutShare 8 = .ok (.aload_n 1, 1) := by decide +kernel
theorem dX3_layWithoutShare_9 : decode cX3_layWithoutShare 9 = .ok (.getfield 144, 3) := by decide +kernel
theorem dX3_layWithoutShare_12 : decode cX3_layWithoutShare 12 = .ok (.if_icmp .ge 59, 3) := by decide +kernel
theorem dX3_layWithoutShare_15 : decode cX3_layWithoutShare 15 = .ok (.aload_n 0, 1) := by decide +kernel
theorem dX3_layWithoutShare_16 : decode cX3_layWithoutShare 16 = .ok (.getfield 9, 3) := by decide +kernel
theorem dX3_layWithoutShare_19 : decode cX3_layWithoutShare 19 = .ok (.aload_n 1, 1) := by decide +kernel
theorem dX3_layWithoutShare_20 : decode cX3_layWithoutShare 20 = .ok (.iload 5, 2) := by decide +kernel
theorem dX3_layWithoutShare_22 : decode cX3_layWithoutShare 22 = .ok (.invokevirtual 147, 3) := by decide +kernel
theorem dX3_layWithoutShare_25 : decode cX3_layWithoutShare 25 = .ok (.astore 6, 2) := by decide +kernel
theorem dX3_layWithoutShare_27 : decode cX3_layWithoutShare 27 = .ok (.iload_n 2, 1) := by decide +kernel
theorem dX3_layWithoutShare_28 : decode cX3_layWithoutShare 28 = .ok (.ifCond .eq 11, 3) := by decide +kernel
theorem dX3_layWithoutShare_31 : decode cX3_layWithoutShare 31 = .ok (.aload 6, 2) := by decide +kernel
theorem dX3_layWithoutShare_33 : decode cX3_layWithoutShare 33 = .ok (.getfield 234, 3) := by decide +kernel
theorem dX3_layWithoutShare_36 : decode cX3_layWithoutShare 36 = .ok (.ifCond .ne 29, 3) := by decide +kernel
theorem dX3_layWithoutShare_39 : decode cX3_layWithoutShare 39 = .ok (.iload 4, 2) := by decide +kernel
theorem dX3_layWithoutShare_41 : decode cX3_layWithoutShare 41 = .ok (.aload_n 0, 1) := by decide +kernel
theorem dX3_layWithoutShare_42 : decode cX3_layWithoutShare 42 = .ok (.aload_n 1, 1) := by decide +kernel
theorem dX3_layWithoutShare_43 : decode cX3_layWithoutShare 43 = .ok (.aload 6, 2) := by decide +kernel
theorem dX3_layWithoutShare_45 : decode cX3_layWithoutShare 45 = .ok (.aload 6, 2) := by decide +kernel
theorem dX3_layWithoutShare_47 : decode cX3_layWithoutShare 47 = .ok (.getfield 237, 3) := by decide +kernel
theorem dX3_layWithoutShare_50 : decode cX3_layWithoutShare 50 = .ok (.aload 6, 2) := by decide +kernel
theorem dX3_layWithoutShare_52 : decode cX3_layWithoutShare 52 = .ok (.getfield 240, 3) := by decide +kernel
theorem dX3_layWithoutShare_55 : decode cX3_layWithoutShare 55 = .ok (.invokestatic 183, 3) := by decide +kernel
theorem dX3_layWithoutShare_58 : decode cX3_layWithoutShare 58 = .ok (.iload_n 3, 1) := by decide +kernel
theorem dX3_layWithoutShare_59 : decode cX3_layWithoutShare 59 = .ok (.invokevirtual 243, 3) := by decide +kernel
theorem dX3_layWithoutShare_62 : decode cX3_layWithoutShare 62 = .ok (.iadd, 1) := by decide +kernel
theorem dX3_layWithoutShare_63 : decode cX3_layWithoutShare 63 = .ok (.istore 4, 2) := by decide +kernel
theorem dX3_layWithoutShare_65 : decode cX3_layWithoutShare 65 = .ok (.iinc 5 1, 3) := by decide +kernel
theorem dX3_layWithoutShare_68 : decode cX3_layWithoutShare 68 = .ok (.goto (-62), 3) := by decide +kernel
theorem dX3_layWithoutShare_71 : decode cX3_layWithoutShare 71 = .ok (.iload 4, 2) := by decide +kernel
theorem dX3_layWithoutShare_73 : decode cX3_layWithoutShare 73 = .ok (.ireturn, 1) := by decide +kernel
theorem dX3_layByShare_0 : decode cX3_layByShare 0 = .ok (.iconst 0, 1) := by decide +kernel
theorem dX3_layByShare_1 : decode cX3_layByShare 1 = .ok (.istore_n 3, 1) := by decide +kernel
theorem dX3_layByShare_2 : decode cX3_layByShare 2 = .ok (.iconst 0, 1) := by decide +kernel
theorem dX3_layByShare_3 : decode cX3_layByShare 3 = .ok (.istore 4, 2) := by decide +kernel
theorem dX3_layByShare_5 : decode cX3_layByShare 5 = .ok (.iload 4, 2) := by decide +kernel
theorem dX3_layByShare_7 : decode cX3_layByShare 7 = .ok (.aload_n 1, 1) := by decide +kernel
theorem dX3_layByShare_8 : decode cX3_layByShare 8 = .ok (.getfield 144, 3) := by decide +kernel
theorem dX3_layByShare_11 : decode cX3_layByShare 11 = .ok (.if_icmp .ge 50, 3) := by decide +kernel
theorem dX3_layByShare_14 : decode cX3_layByShare 14 = .ok (.aload_n 0, 1) := by decide +kernel
theorem dX3_layByShare_15 : decode cX3_layByShare 15 = .ok (.getfield 9, 3) := by decide +kernel
theorem dX3_layByShare_18 : decode cX3_layByShare 18 = .ok (.aload_n 1, 1) := by decide +kernel
theorem dX3_layByShare_19 : decode cX3_layByShare 19 = .ok (.iload 4, 2) := by decide +kernel
theorem dX3_layByShare_21 : decode cX3_layByShare 21 = .ok (.invokevirtual 147, 3) := by decide +kernel
theorem dX3_layByShare_24 : decode cX3_layByShare 24 = .ok (.astore 5, 2) := by decide +kernel
theorem dX3_layByShare_26 : decode cX3_layByShare 26 = .ok (.aload 5, 2) := by decide +kernel
theorem dX3_layByShare_28 : decode cX3_layByShare 28 = .ok (.getfield 234, 3) := by decide +kernel
theorem dX3_layByShare_31 : decode cX3_layByShare 31 = .ok (.ifCond .le 24, 3) := by decide +kernel
theorem dX3_layByShare_34 : decode cX3_layByShare 34 = .ok (.iload_n 3, 1) := by decide +kernel
theorem dX3_layByShare_35 : decode cX3_layByShare 35 = .ok (.aload_n 0, 1) := by decide +kernel
theorem dX3_layByShare_36 : decode cX3_layByShare 36 = .ok (.aload_n 1, 1) := by decide +kernel
theorem dX3_layByShare_37 : decode cX3_layByShare 37 = .ok (.aload 5, 2) := by decide +kernel
theorem dX3_layByShare_39 : decode cX3_layByShare 39 = .ok (.aload 5, 2) := by decide +kernel
theorem dX3_layByShare_41 : decode cX3_layByShare 41 = .ok (.getfield 247, 3) := by decide +kernel
theorem dX3_layByShare_44 : decode cX3_layByShare 44 = .ok (.aload 5, 2) := by decide +kernel
theorem dX3_layByShare_46 : decode cX3_layByShare 46 = .ok (.getfield 247, 3) := by decide +kernel
theorem dX3_layByShare_49 : decode cX3_layByShare 49 = .ok (.iload_n 2, 1) := by decide +kernel
theorem dX3_layByShare_50 : decode cX3_layByShare 50 = .ok (.invokevirtual 243, 3) := by decide +kernel
theorem dX3_layByShare_53 : decode cX3_layByShare 53 = .ok (.iadd, 1) := by decide +kernel
theorem dX3_layByShare_54 : decode cX3_layByShare 54 = .ok (.istore_n 3, 1) := by decide +kernel
theorem dX3_layByShare_55 : decode cX3_layByShare 55 = .ok (.iinc 4 1, 3) := by decide +kernel
theorem dX3_layByShare_58 : decode cX3_layByShare 58 = .ok (.goto (-53), 3) := by decide +kernel
theorem dX3_layByShare_61 : decode cX3_layByShare 61 = .ok (.iload_n 3, 1) := by decide +kernel
theorem dX3_layByShare_62 : decode cX3_layByShare 62 = .ok (.ireturn, 1) := by decide +kernel
theorem dX3_roundsOf_0 : decode cX3_roundsOf 0 = .ok (.iconst 0, 1) := by decide +kernel
theorem dX3_roundsOf_1 : decode cX3_roundsOf 1 = .ok (.istore_n 3, 1) := by decide +kernel
theorem dX3_roundsOf_2 : decode cX3_roundsOf 2 = .ok (.iconst 0, 1) := by decide +kernel
theorem dX3_roundsOf_3 : decode cX3_roundsOf 3 = .ok (.istore 4, 2) := by decide +kernel
theorem dX3_roundsOf_5 : decode cX3_roundsOf 5 = .ok (.iload 4, 2) := by decide +kernel
theorem dX3_roundsOf_7 : decode cX3_roundsOf 7 = .ok (.aload_n 1, 1) := by decide +kernel
theorem dX3_roundsOf_8 : decode cX3_roundsOf 8 = .ok (.getfield 144, 3) := by decide +kernel
theorem dX3_roundsOf_11 : decode cX3_roundsOf 11 = .ok (.if_icmp .ge 61, 3) := by decide +kernel
theorem dX3_roundsOf_14 : decode cX3_roundsOf 14 = .ok (.aload_n 0, 1) := by decide +kernel
theorem dX3_roundsOf_15 : decode cX3_roundsOf 15 = .ok (.getfield 9, 3) := by decide +kernel
theorem dX3_roundsOf_18 : decode cX3_roundsOf 18 = .ok (.aload_n 1, 1) := by decide +kernel
theorem dX3_roundsOf_19 : decode cX3_roundsOf 19 = .ok (.iload 4, 2) := by decide +kernel
theorem dX3_roundsOf_21 : decode cX3_roundsOf 21 = .ok (.invokevirtual 147, 3) := by decide +kernel
theorem dX3_roundsOf_24 : decode cX3_roundsOf 24 = .ok (.astore 5, 2) := by decide +kernel
theorem dX3_roundsOf_26 : decode cX3_roundsOf 26 = .ok (.aload 5, 2) := by decide +kernel
theorem dX3_roundsOf_28 : decode cX3_roundsOf 28 = .ok (.iconst 0, 1) := by decide +kernel
theorem dX3_roundsOf_29 : decode cX3_roundsOf 29 = .ok (.putfield 247, 3) := by decide +kernel
theorem dX3_roundsOf_32 : decode cX3_roundsOf 32 = .ok (.aload 5, 2) := by decide +kernel
theorem dX3_roundsOf_34 : decode cX3_roundsOf 34 = .ok (.aload 5, 2) := by decide +kernel
theorem dX3_roundsOf_36 : decode cX3_roundsOf 36 = .ok (.getfield 234, 3) := by decide +kernel
theorem dX3_roundsOf_39 : decode cX3_roundsOf 39 = .ok (.ifCond .ne 7, 3) := by decide +kernel
theorem dX3_roundsOf_42 : decode cX3_roundsOf 42 = .ok (.iconst 1, 1) := by decide +kernel
theorem dX3_roundsOf_43 : decode cX3_roundsOf 43 = .ok (.goto 4, 3) := by decide +kernel
theorem dX3_roundsOf_46 : decode cX3_roundsOf 46 = .ok (.iconst 0, 1) := by decide +kernel
theorem dX3_roundsOf_47 : decode cX3_roundsOf 47 = .ok (.putfield 250, 3) := by decide +kernel
theorem dX3_roundsOf_50 : decode cX3_roundsOf 50 = .ok (.iload_n 3, 1) := by decide +kernel
theorem dX3_roundsOf_51 : decode cX3_roundsOf 51 = .ok (.aload 5, 2) := by decide +kernel
theorem dX3_roundsOf_53 : decode cX3_roundsOf 53 = .ok (.getfield 250, 3) := by decide +kernel
theorem dX3_roundsOf_56 : decode cX3_roundsOf 56 = .ok (.ifCond .eq 7, 3) := by decide +kernel
theorem dX3_roundsOf_59 : decode cX3_roundsOf 59 = .ok (.iconst 0, 1) := by decide +kernel
theorem dX3_roundsOf_60 : decode cX3_roundsOf 60 = .ok (.goto 4, 3) := by decide +kernel
theorem dX3_roundsOf_63 : decode cX3_roundsOf 63 = .ok (.iconst 1, 1) := by decide +kernel
theorem dX3_roundsOf_64 : decode cX3_roundsOf 64 = .ok (.iadd, 1) := by decide +kernel
theorem dX3_roundsOf_65 : decode cX3_roundsOf 65 = .ok (.istore_n 3, 1) := by decide +kernel
theorem dX3_roundsOf_66 : decode cX3_roundsOf 66 = .ok (.iinc 4 1, 3) := by decide +kernel
theorem dX3_roundsOf_69 : decode cX3_roundsOf 69 = .ok (.goto (-64), 3) := by decide +kernel
theorem dX3_roundsOf_72 : decode cX3_roundsOf 72 = .ok (.iconst 0, 1) := by decide +kernel
theorem dX3_roundsOf_73 : decode cX3_roundsOf 73 = .ok (.istore 4, 2) := by decide +kernel
theorem dX3_roundsOf_75 : decode cX3_roundsOf 75 = .ok (.iload 4, 2) := by decide +kernel
theorem dX3_roundsOf_77 : decode cX3_roundsOf 77 = .ok (.bipush 8, 2) := by decide +kernel
theorem dX3_roundsOf_79 : decode cX3_roundsOf 79 = .ok (.if_icmp .ge 27, 3) := by decide +kernel
theorem dX3_roundsOf_82 : decode cX3_roundsOf 82 = .ok (.iload_n 3, 1) := by decide +kernel
theorem dX3_roundsOf_83 : decode cX3_roundsOf 83 = .ok (.ifCond .le 23, 3) := by decide +kernel
theorem dX3_roundsOf_86 : decode cX3_roundsOf 86 = .ok (.aload_n 0, 1) := by decide +kernel
theorem dX3_roundsOf_87 : decode cX3_roundsOf 87 = .ok (.aload_n 1, 1) := by decide +kernel
theorem dX3_roundsOf_88 : decode cX3_roundsOf 88 = .ok (.iload_n 2, 1) := by decide +kernel
theorem dX3_roundsOf_89 : decode cX3_roundsOf 89 = .ok (.invokevirtual 254, 3) := by decide +kernel
theorem dX3_roundsOf_92 : decode cX3_roundsOf 92 = .ok (.iload_n 3, 1) := by decide +kernel
theorem dX3_roundsOf_93 : decode cX3_roundsOf 93 = .ok (.aload_n 0, 1) := by decide +kernel
theorem dX3_roundsOf_94 : decode cX3_roundsOf 94 = .ok (.aload_n 1, 1) := by decide +kernel
theorem dX3_roundsOf_95 : decode cX3_roundsOf 95 = .ok (.invokevirtual 257, 3) := by decide +kernel
theorem dX3_roundsOf_98 : decode cX3_roundsOf 98 = .ok (.isub, 1) := by decide +kernel
theorem dX3_roundsOf_99 : decode cX3_roundsOf 99 = .ok (.istore_n 3, 1) := by decide +kernel
theorem dX3_roundsOf_100 : decode cX3_roundsOf 100 = .ok (.iinc 4 1, 3) := by decide +kernel
theorem dX3_roundsOf_103 : decode cX3_roundsOf 103 = .ok (.goto (-28), 3) := by decide +kernel
theorem dX3_roundsOf_106 : decode cX3_roundsOf 106 = .ok (.iload 4, 2) := by decide +kernel
theorem dX3_roundsOf_108 : decode cX3_roundsOf 108 = .ok (.ireturn, 1) := by decide +kernel
theorem dX3_shareOut_0 : decode cX3_shareOut 0 = .ok (.iload_n 2, 1) := by decide +kernel
theorem dX3_shareOut_1 : decode cX3_shareOut 1 = .ok (.istore_n 3, 1) := by decide +kernel
theorem dX3_shareOut_2 : decode cX3_shareOut 2 = .ok (.iconst 0, 1) := by decide +kernel
theorem dX3_shareOut_3 : decode cX3_shareOut 3 = .ok (.istore 4, 2) := by decide +kernel
theorem dX3_shareOut_5 : decode cX3_shareOut 5 = .ok (.iconst 0, 1) := by decide +kernel
theorem dX3_shareOut_6 : decode cX3_shareOut 6 = .ok (.istore 5, 2) := by decide +kernel
theorem dX3_shareOut_8 : decode cX3_shareOut 8 = .ok (.iload 5, 2) := by decide +kernel
theorem dX3_shareOut_10 : decode cX3_shareOut 10 = .ok (.aload_n 1, 1) := by decide +kernel
theorem dX3_shareOut_11 : decode cX3_shareOut 11 = .ok (.getfield 144, 3) := by decide +kernel
theorem dX3_shareOut_14 : decode cX3_shareOut 14 = .ok (.if_icmp .ge 63, 3) := by decide +kernel
theorem dX3_shareOut_17 : decode cX3_shareOut 17 = .ok (.aload_n 0, 1) := by decide +kernel
theorem dX3_shareOut_18 : decode cX3_shareOut 18 = .ok (.getfield 9, 3) := by decide +kernel
theorem dX3_shareOut_21 : decode cX3_shareOut 21 = .ok (.aload_n 1, 1) := by decide +kernel
theorem dX3_shareOut_22 : decode cX3_shareOut 22 = .ok (.iload 5, 2) := by decide +kernel
theorem dX3_shareOut_24 : decode cX3_shareOut 24 = .ok (.invokevirtual 147, 3) := by decide +kernel
theorem dX3_shareOut_27 : decode cX3_shareOut 27 = .ok (.astore 6, 2) := by decide +kernel
theorem dX3_shareOut_29 : decode cX3_shareOut 29 = .ok (.iload_n 3, 1) := by decide +kernel
theorem dX3_shareOut_30 : decode cX3_shareOut 30 = .ok (.aload 6, 2) := by decide +kernel
theorem dX3_shareOut_32 : decode cX3_shareOut 32 = .ok (.getfield 250, 3) := by decide +kernel
theorem dX3_shareOut_35 : decode cX3_shareOut 35 = .ok (.ifCond .eq 11, 3) := by decide +kernel
theorem dX3_shareOut_38 : decode cX3_shareOut 38 = .ok (.aload 6, 2) := by decide +kernel
theorem dX3_shareOut_40 : decode cX3_shareOut 40 = .ok (.getfield 247, 3) := by decide +kernel
theorem dX3_shareOut_43 : decode cX3_shareOut 43 = .ok (.goto 4, 3) := by decide +kernel
theorem dX3_shareOut_46 : decode cX3_shareOut 46 = .ok (.iconst 0, 1) := by decide +kernel
theorem dX3_shareOut_47 : decode cX3_shareOut 47 = .ok (.isub, 1) := by decide +kernel
theorem dX3_shareOut_48 : decode cX3_shareOut 48 = .ok (.istore_n 3, 1) := by decide +kernel
theorem dX3_shareOut_49 : decode cX3_shareOut 49 = .ok (.iload 4, 2) := by decide +kernel
theorem dX3_shareOut_51 : decode cX3_shareOut 51 = .ok (.aload 6, 2) := by decide +kernel
theorem dX3_shareOut_53 : decode cX3_shareOut 53 = .ok (.getfield 250, 3) := by decide +kernel
theorem dX3_shareOut_56 : decode cX3_shareOut 56 = .ok (.ifCond .eq 7, 3) := by decide +kernel
theorem dX3_shareOut_59 : decode cX3_shareOut 59 = .ok (.iconst 0, 1) := by decide +kernel
theorem dX3_shareOut_60 : decode cX3_shareOut 60 = .ok (.goto 8, 3) := by decide +kernel
theorem dX3_shareOut_63 : decode cX3_shareOut 63 = .ok (.aload 6, 2) := by decide +kernel
theorem dX3_shareOut_65 : decode cX3_shareOut 65 = .ok (.getfield 234, 3) := by decide +kernel
theorem dX3_shareOut_68 : decode cX3_shareOut 68 = .ok (.iadd, 1) := by decide +kernel
theorem dX3_shareOut_69 : decode cX3_shareOut 69 = .ok (.istore 4, 2) := by decide +kernel
theorem dX3_shareOut_71 : decode cX3_shareOut 71 = .ok (.iinc 5 1, 3) := by decide +kernel
theorem dX3_shareOut_74 : decode cX3_shareOut 74 = .ok (.goto (-66), 3) := by decide +kernel
theorem dX3_shareOut_77 : decode cX3_shareOut 77 = .ok (.iconst 0, 1) := by decide +kernel
theorem dX3_shareOut_78 : decode cX3_shareOut 78 = .ok (.iload_n 3, 1) := by decide +kernel
theorem dX3_shareOut_79 : decode cX3_shareOut 79 = .ok (.invokestatic 155, 3) := by decide +kernel
theorem dX3_shareOut_82 : decode cX3_shareOut 82 = .ok (.istore_n 3, 1) := by decide +kernel
theorem dX3_shareOut_83 : decode cX3_shareOut 83 = .ok (.iload_n 3, 1) := by decide +kernel
theorem dX3_shareOut_84 : decode cX3_shareOut 84 = .ok (.istore 5, 2) := by decide +kernel
theorem dX3_shareOut_86 : decode cX3_shareOut 86 = .ok (.iconst 0, 1) := by decide +kernel
theorem dX3_shareOut_87 : decode cX3_shareOut 87 = .ok (.istore 6, 2) := by decide +kernel
theorem dX3_shareOut_89 : decode cX3_shareOut 89 = .ok (.iload 6, 2) := by decide +kernel
theorem dX3_shareOut_91 : decode cX3_shareOut 91 = .ok (.aload_n 1, 1) := by decide +kernel
theorem dX3_shareOut_92 : decode cX3_shareOut 92 = .ok (.getfield 144, 3) := by decide +kernel
theorem dX3_shareOut_95 : decode cX3_shareOut 95 = .ok (.if_icmp .ge 55, 3) := by decide +kernel
theorem dX3_shareOut_98 : decode cX3_shareOut 98 = .ok (.aload_n 0, 1) := by decide +kernel
theorem dX3_shareOut_99 : decode cX3_shareOut 99 = .ok (.getfield 9, 3) := by decide +kernel
theorem dX3_shareOut_102 : decode cX3_shareOut 102 = .ok (.aload_n 1, 1) := by decide +kernel
theorem dX3_shareOut_103 : decode cX3_shareOut 103 = .ok (.iload 6, 2) := by decide +kernel
theorem dX3_shareOut_105 : decode cX3_shareOut 105 = .ok (.invokevirtual 147, 3) := by decide +kernel
theorem dX3_shareOut_108 : decode cX3_shareOut 108 = .ok (.astore 7, 2) := by decide +kernel
theorem dX3_shareOut_110 : decode cX3_shareOut 110 = .ok (.aload 7, 2) := by decide +kernel
theorem dX3_shareOut_112 : decode cX3_shareOut 112 = .ok (.getfield 250, 3) := by decide +kernel
theorem dX3_shareOut_115 : decode cX3_shareOut 115 = .ok (.ifCond .ne 29, 3) := by decide +kernel
theorem dX3_shareOut_118 : decode cX3_shareOut 118 = .ok (.aload 7, 2) := by decide +kernel
theorem dX3_shareOut_120 : decode cX3_shareOut 120 = .ok (.iload_n 3, 1) := by decide +kernel
theorem dX3_shareOut_121 : decode cX3_shareOut 121 = .ok (.aload 7, 2) := by decide +kernel
theorem dX3_shareOut_123 : decode cX3_shareOut 123 = .ok (.getfield 234, 3) := by decide +kernel
theorem dX3_shareOut_126 : decode cX3_shareOut 126 = .ok (.iload 4, 2) := by decide +kernel
theorem dX3_shareOut_128 : decode cX3_shareOut 128 = .ok (.invokestatic 195, 3) := by decide +kernel
theorem dX3_shareOut_131 : decode cX3_shareOut 131 = .ok (.putfield 247, 3) := by decide +kernel
theorem dX3_shareOut_134 : decode cX3_shareOut 134 = .ok (.iload 5, 2) := by decide +kernel
theorem dX3_shareOut_136 : decode cX3_shareOut 136 = .ok (.aload 7, 2) := by decide +kernel
theorem dX3_shareOut_138 : decode cX3_shareOut 138 = .ok (.getfield 247, 3) := by decide +kernel
theorem dX3_shareOut_141 : decode cX3_shareOut 141 = .ok (.isub, 1) := by decide +kernel
theorem dX3_shareOut_142 : decode cX3_shareOut 142 = .ok (.istore 5, 2) := by decide +kernel
theorem dX3_shareOut_144 : decode cX3_shareOut 144 = .ok (.iinc 6 1, 3) := by decide +kernel
theorem dX3_shareOut_147 : decode cX3_shareOut 147 = .ok (.goto (-58), 3) := by decide +kernel
theorem dX3_shareOut_150 : decode cX3_shareOut 150 = .ok (.iconst 0, 1) := by decide +kernel
theorem dX3_shareOut_151 : decode cX3_shareOut 151 = .ok (.istore 6, 2) := by decide +kernel
theorem dX3_shareOut_153 : decode cX3_shareOut 153 = .ok (.iload 6, 2) := by decide +kernel
theorem dX3_shareOut_155 : decode cX3_shareOut 155 = .ok (.aload_n 1, 1) := by decide +kernel
theorem dX3_shareOut_156 : decode cX3_shareOut 156 = .ok (.getfield 144, 3) := by decide +kernel
theorem dX3_shareOut_159 : decode cX3_shareOut 159 = .ok (.if_icmp .ge 48, 3) := by decide +kernel
theorem dX3_shareOut_162 : decode cX3_shareOut 162 = .ok (.iload 5, 2) := by decide +kernel
theorem dX3_shareOut_164 : decode cX3_shareOut 164 = .ok (.ifCond .le 43, 3) := by decide +kernel
theorem dX3_shareOut_167 : decode cX3_shareOut 167 = .ok (.aload_n 0, 1) := by decide +kernel
theorem dX3_shareOut_168 : decode cX3_shareOut 168 = .ok (.getfield 9, 3) := by decide +kernel
theorem dX3_shareOut_171 : decode cX3_shareOut 171 = .ok (.aload_n 1, 1) := by decide +kernel
theorem dX3_shareOut_172 : decode cX3_shareOut 172 = .ok (.iload 6, 2) := by decide +kernel
theorem dX3_shareOut_174 : decode cX3_shareOut 174 = .ok (.invokevirtual 147, 3) := by decide +kernel
theorem dX3_shareOut_177 : decode cX3_shareOut 177 = .ok (.astore 7, 2) := by decide +kernel
theorem dX3_shareOut_179 : decode cX3_shareOut 179 = .ok (.aload 7, 2) := by decide +kernel
theorem dX3_shareOut_181 : decode cX3_shareOut 181 = .ok (.getfield 250, 3) := by decide +kernel
theorem dX3_shareOut_184 : decode cX3_shareOut 184 = .ok (.ifCond .ne 17, 3) := by decide +kernel
theorem dX3_shareOut_187 : decode cX3_shareOut 187 = .ok (.aload 7, 2) := by decide +kernel
theorem dX3_shareOut_189 : decode cX3_shareOut 189 = .ok (.dup, 1) := by decide +kernel
theorem dX3_shareOut_190 : decode cX3_shareOut 190 = .ok (.getfield 247, 3) := by decide +kernel
theorem dX3_shareOut_193 : decode cX3_shareOut 193 = .ok (.iconst 1, 1) := by decide +kernel
theorem dX3_shareOut_194 : decode cX3_shareOut 194 = .ok (.iadd, 1) := by decide +kernel
theorem dX3_shareOut_195 : decode cX3_shareOut 195 = .ok (.putfield 247, 3) := by decide +kernel
theorem dX3_shareOut_198 : decode cX3_shareOut 198 = .ok (.iinc 5 (-1), 3) := by decide +kernel
theorem dX3_shareOut_201 : decode cX3_shareOut 201 = .ok (.iinc 6 1, 3) := by decide +kernel
theorem dX3_shareOut_204 : decode cX3_shareOut 204 = .ok (.goto (-51), 3) := by decide +kernel
theorem dX3_shareOut_207 : decode cX3_shareOut 207 = .ok (.return_, 1) := by decide +kernel
theorem dX3_freeze_0 : decode cX3_freeze 0 = .ok (.iconst 0, 1) := by decide +kernel
theorem dX3_freeze_1 : decode cX3_freeze 1 = .ok (.istore_n 2, 1) := by decide +kernel
theorem dX3_freeze_2 : decode cX3_freeze 2 = .ok (.iconst 0, 1) := by decide +kernel
theorem dX3_freeze_3 : decode cX3_freeze 3 = .ok (.istore_n 3, 1) := by decide +kernel
theorem dX3_freeze_4 : decode cX3_freeze 4 = .ok (.iload_n 3, 1) := by decide +kernel
theorem dX3_freeze_5 : decode cX3_freeze 5 = .ok (.aload_n 1, 1) := by decide +kernel
theorem dX3_freeze_6 : decode cX3_freeze 6 = .ok (.getfield 144, 3) := by decide +kernel
theorem dX3_freeze_9 : decode cX3_freeze 9 = .ok (.if_icmp .ge 62, 3) := by decide +kernel
theorem dX3_freeze_12 : decode cX3_freeze 12 = .ok (.aload_n 0, 1) := by decide +kernel
theorem dX3_freeze_13 : decode cX3_freeze 13 = .ok (.getfield 9, 3) := by decide +kernel
theorem dX3_freeze_16 : decode cX3_freeze 16 = .ok (.aload_n 1, 1) := by decide +kernel
theorem dX3_freeze_17 : decode cX3_freeze 17 = .ok (.iload_n 3, 1) := by decide +kernel
theorem dX3_freeze_18 : decode cX3_freeze 18 = .ok (.invokevirtual 147, 3) := by decide +kernel
theorem dX3_freeze_21 : decode cX3_freeze 21 = .ok (.astore 4, 2) := by decide +kernel
theorem dX3_freeze_23 : decode cX3_freeze 23 = .ok (.iload_n 2, 1) := by decide +kernel
theorem dX3_freeze_24 : decode cX3_freeze 24 = .ok (.aload 4, 2) := by decide +kernel
theorem dX3_freeze_26 : decode cX3_freeze 26 = .ok (.getfield 250, 3) := by decide +kernel
theorem dX3_freeze_29 : decode cX3_freeze 29 = .ok (.ifCond .eq 7, 3) := by decide +kernel
theorem dX3_freeze_32 : decode cX3_freeze 32 = .ok (.iconst 0, 1) := by decide +kernel
theorem dX3_freeze_33 : decode cX3_freeze 33 = .ok (.goto 30, 3) := by decide +kernel
theorem dX3_freeze_36 : decode cX3_freeze 36 = .ok (.aload 4, 2) := by decide +kernel
theorem dX3_freeze_38 : decode cX3_freeze 38 = .ok (.getfield 247, 3) := by decide +kernel
theorem dX3_freeze_41 : decode cX3_freeze 41 = .ok (.aload 4, 2) := by decide +kernel
theorem dX3_freeze_43 : decode cX3_freeze 43 = .ok (.getfield 237, 3) := by decide +kernel
theorem dX3_freeze_46 : decode cX3_freeze 46 = .ok (.aload 4, 2) := by decide +kernel
theorem dX3_freeze_48 : decode cX3_freeze 48 = .ok (.getfield 240, 3) := by decide +kernel
theorem dX3_freeze_51 : decode cX3_freeze 51 = .ok (.invokestatic 183, 3) := by decide +kernel
theorem dX3_freeze_54 : decode cX3_freeze 54 = .ok (.invokestatic 179, 3) := by decide +kernel
theorem dX3_freeze_57 : decode cX3_freeze 57 = .ok (.aload 4, 2) := by decide +kernel
theorem dX3_freeze_59 : decode cX3_freeze 59 = .ok (.getfield 247, 3) := by decide +kernel
theorem dX3_freeze_62 : decode cX3_freeze 62 = .ok (.isub, 1) := by decide +kernel
theorem dX3_freeze_63 : decode cX3_freeze 63 = .ok (.iadd, 1) := by decide +kernel
theorem dX3_freeze_64 : decode cX3_freeze 64 = .ok (.istore_n 2, 1) := by decide +kernel
theorem dX3_freeze_65 : decode cX3_freeze 65 = .ok (.iinc 3 1, 3) := by decide +kernel
theorem dX3_freeze_68 : decode cX3_freeze 68 = .ok (.goto (-64), 3) := by decide +kernel
theorem dX3_freeze_71 : decode cX3_freeze 71 = .ok (.iconst 0, 1) := by decide +kernel
theorem dX3_freeze_72 : decode cX3_freeze 72 = .ok (.istore_n 3, 1) := by decide +kernel
theorem dX3_freeze_73 : decode cX3_freeze 73 = .ok (.iconst 0, 1) := by decide +kernel
theorem dX3_freeze_74 : decode cX3_freeze 74 = .ok (.istore 4, 2) := by decide +kernel
theorem dX3_freeze_76 : decode cX3_freeze 76 = .ok (.iload 4, 2) := by decide +kernel
theorem dX3_freeze_78 : decode cX3_freeze 78 = .ok (.aload_n 1, 1) := by decide +kernel
theorem dX3_freeze_79 : decode cX3_freeze 79 = .ok (.getfield 144, 3) := by decide +kernel
theorem dX3_freeze_82 : decode cX3_freeze 82 = .ok (.if_icmp .ge 101, 3) := by decide +kernel
theorem dX3_freeze_85 : decode cX3_freeze 85 = .ok (.aload_n 0, 1) := by decide +kernel
theorem dX3_freeze_86 : decode cX3_freeze 86 = .ok (.getfield 9, 3) := by decide +kernel
theorem dX3_freeze_89 : decode cX3_freeze 89 = .ok (.aload_n 1, 1) := by decide +kernel
theorem dX3_freeze_90 : decode cX3_freeze 90 = .ok (.iload 4, 2) := by decide +kernel
theorem dX3_freeze_92 : decode cX3_freeze 92 = .ok (.invokevirtual 147, 3) := by decide +kernel
theorem dX3_freeze_95 : decode cX3_freeze 95 = .ok (.astore 5, 2) := by decide +kernel
theorem dX3_freeze_97 : decode cX3_freeze 97 = .ok (.aload 5, 2) := by decide +kernel
theorem dX3_freeze_99 : decode cX3_freeze 99 = .ok (.getfield 247, 3) := by decide +kernel
theorem dX3_freeze_102 : decode cX3_freeze 102 = .ok (.aload 5, 2) := by decide +kernel
theorem dX3_freeze_104 : decode cX3_freeze 104 = .ok (.getfield 237, 3) := by decide +kernel
theorem dX3_freeze_107 : decode cX3_freeze 107 = .ok (.aload 5, 2) := by decide +kernel
theorem dX3_freeze_109 : decode cX3_freeze 109 = .ok (.getfield 240, 3) := by decide +kernel
theorem dX3_freeze_112 : decode cX3_freeze 112 = .ok (.invokestatic 183, 3) := by decide +kernel
theorem dX3_freeze_115 : decode cX3_freeze 115 = .ok (.invokestatic 179, 3) := by decide +kernel
theorem dX3_freeze_118 : decode cX3_freeze 118 = .ok (.aload 5, 2) := by decide +kernel
theorem dX3_freeze_120 : decode cX3_freeze 120 = .ok (.getfield 247, 3) := by decide +kernel
theorem dX3_freeze_123 : decode cX3_freeze 123 = .ok (.isub, 1) := by decide +kernel
theorem dX3_freeze_124 : decode cX3_freeze 124 = .ok (.istore 6, 2) := by decide +kernel
theorem dX3_freeze_126 : decode cX3_freeze 126 = .ok (.aload 5, 2) := by decide +kernel
theorem dX3_freeze_128 : decode cX3_freeze 128 = .ok (.getfield 250, 3) := by decide +kernel
theorem dX3_freeze_131 : decode cX3_freeze 131 = .ok (.ifCond .ne 46, 3) := by decide +kernel
theorem dX3_freeze_134 : decode cX3_freeze 134 = .ok (.iload_n 2, 1) := by decide +kernel
theorem dX3_freeze_135 : decode cX3_freeze 135 = .ok (.ifCond .eq 21, 3) := by decide +kernel
theorem dX3_freeze_138 : decode cX3_freeze 138 = .ok (.iload_n 2, 1) := by decide +kernel
theorem dX3_freeze_139 : decode cX3_freeze 139 = .ok (.ifCond .le 8, 3) := by decide +kernel
theorem dX3_freeze_142 : decode cX3_freeze 142 = .ok (.iload 6, 2) := by decide +kernel
theorem dX3_freeze_144 : decode cX3_freeze 144 = .ok (.ifCond .gt 12, 3) := by decide +kernel
theorem dX3_freeze_147 : decode cX3_freeze 147 = .ok (.iload_n 2, 1) := by decide +kernel
theorem dX3_freeze_148 : decode cX3_freeze 148 = .ok (.ifCond .ge 29, 3) := by decide +kernel
theorem dX3_freeze_151 : decode cX3_freeze 151 = .ok (.iload 6, 2) := by decide +kernel
theorem dX3_freeze_153 : decode cX3_freeze 153 = .ok (.ifCond .ge 24, 3) := by decide +kernel
theorem dX3_freeze_156 : decode cX3_freeze 156 = .ok (.aload 5, 2) := by decide +kernel
theorem dX3_freeze_158 : decode cX3_freeze 158 = .ok (.dup, 1) := by decide +kernel
theorem dX3_freeze_159 : decode cX3_freeze 159 = .ok (.getfield 247, 3) := by decide +kernel
theorem dX3_freeze_162 : decode cX3_freeze 162 = .ok (.iload 6, 2) := by decide +kernel
theorem dX3_freeze_164 : decode cX3_freeze 164 = .ok (.iadd, 1) := by decide +kernel
theorem dX3_freeze_165 : decode cX3_freeze 165 = .ok (.putfield 247, 3) := by decide +kernel
theorem dX3_freeze_168 : decode cX3_freeze 168 = .ok (.aload 5, 2) := by decide +kernel
theorem dX3_freeze_170 : decode cX3_freeze 170 = .ok (.iconst 1, 1) := by decide +kernel
theorem dX3_freeze_171 : decode cX3_freeze 171 = .ok (.putfield 250, 3) := by decide +kernel
theorem dX3_freeze_174 : decode cX3_freeze 174 = .ok (.iinc 3 1, 3) := by decide +kernel
theorem dX3_freeze_177 : decode cX3_freeze 177 = .ok (.iinc 4 1, 3) := by decide +kernel
theorem dX3_freeze_180 : decode cX3_freeze 180 = .ok (.goto (-104), 3) := by decide +kernel
theorem dX3_freeze_183 : decode cX3_freeze 183 = .ok (.iload_n 3, 1) := by decide +kernel
theorem dX3_freeze_184 : decode cX3_freeze 184 = .ok (.ireturn, 1) := by decide +kernel
theorem dX3_greatestAcross_0 : decode cX3_greatestAcross 0 = .ok (.iconst 0, 1) := by decide +kernel
theorem dX3_greatestAcross_1 : decode cX3_greatestAcross 1 = .ok (.istore_n 3, 1) := by decide +kernel
theorem dX3_greatestAcross_2 : decode cX3_greatestAcross 2 = .ok (.iconst 0, 1) := by decide +kernel
theorem dX3_greatestAcross_3 : decode cX3_greatestAcross 3 = .ok (.istore 4, 2) := by decide +kernel
theorem dX3_greatestAcross_5 : decode cX3_greatestAcross 5 = .ok (.iload 4, 2) := by decide +kernel
theorem dX3_greatestAcross_7 : decode cX3_greatestAcross 7 = .ok (.aload_n 1, 1) := by decide +kernel
theorem dX3_greatestAcross_8 : decode cX3_greatestAcross 8 = .ok (.getfield 144, 3) := by decide +kernel
theorem dX3_greatestAcross_11 : decode cX3_greatestAcross 11 = .ok (.if_icmp .ge 46, 3) := by decide +kernel
theorem dX3_greatestAcross_14 : decode cX3_greatestAcross 14 = .ok (.aload_n 0, 1) := by decide +kernel
theorem dX3_greatestAcross_15 : decode cX3_greatestAcross 15 = .ok (.getfield 9, 3) := by decide +kernel
theorem dX3_greatestAcross_18 : decode cX3_greatestAcross 18 = .ok (.aload_n 1, 1) := by decide +kernel
theorem dX3_greatestAcross_19 : decode cX3_greatestAcross 19 = .ok (.iload 4, 2) := by decide +kernel
theorem dX3_greatestAcross_21 : decode cX3_greatestAcross 21 = .ok (.invokevirtual 147, 3) := by decide +kernel
theorem dX3_greatestAcross_24 : decode cX3_greatestAcross 24 = .ok (.getfield 57, 3) := by decide +kernel
theorem dX3_greatestAcross_27 : decode cX3_greatestAcross 27 = .ok (.astore 5, 2) := by decide +kernel
theorem dX3_greatestAcross_29 : decode cX3_greatestAcross 29 = .ok (.iload_n 3, 1) := by decide +kernel
theorem dX3_greatestAcross_30 : decode cX3_greatestAcross 30 = .ok (.iload_n 2, 1) := by decide +kernel
theorem dX3_greatestAcross_31 : decode cX3_greatestAcross 31 = .ok (.ifCond .eq 11, 3) := by decide +kernel
theorem dX3_greatestAcross_34 : decode cX3_greatestAcross 34 = .ok (.aload 5, 2) := by decide +kernel
theorem dX3_greatestAcross_36 : decode cX3_greatestAcross 36 = .ok (.getfield 176, 3) := by decide +kernel
theorem dX3_greatestAcross_39 : decode cX3_greatestAcross 39 = .ok (.goto 8, 3) := by decide +kernel
theorem dX3_greatestAcross_42 : decode cX3_greatestAcross 42 = .ok (.aload 5, 2) := by decide +kernel
theorem dX3_greatestAcross_44 : decode cX3_greatestAcross 44 = .ok (.getfield 173, 3) := by decide +kernel
theorem dX3_greatestAcross_47 : decode cX3_greatestAcross 47 = .ok (.invokestatic 155, 3) := by decide +kernel
theorem dX3_greatestAcross_50 : decode cX3_greatestAcross 50 = .ok (.istore_n 3, 1) := by decide +kernel
theorem dX3_greatestAcross_51 : decode cX3_greatestAcross 51 = .ok (.iinc 4 1, 3) := by decide +kernel
theorem dX3_greatestAcross_54 : decode cX3_greatestAcross 54 = .ok (.goto (-49), 3) := by decide +kernel
theorem dX3_greatestAcross_57 : decode cX3_greatestAcross 57 = .ok (.iload_n 3, 1) := by decide +kernel
theorem dX3_greatestAcross_58 : decode cX3_greatestAcross 58 = .ok (.ireturn, 1) := by decide +kernel
theorem dX3_placeInLine_0 : decode cX3_placeInLine 0 = .ok (.iconst 0, 1) := by decide +kernel
theorem dX3_placeInLine_1 : decode cX3_placeInLine 1 = .ok (.istore_n 3, 1) := by decide +kernel
theorem dX3_placeInLine_2 : decode cX3_placeInLine 2 = .ok (.aload_n 1, 1) := by decide +kernel
theorem dX3_placeInLine_3 : decode cX3_placeInLine 3 = .ok (.getfield 111, 3) := by decide +kernel
theorem dX3_placeInLine_6 : decode cX3_placeInLine 6 = .ok (.iconst 0, 1) := by decide +kernel
theorem dX3_placeInLine_7 : decode cX3_placeInLine 7 = .ok (.iaload, 1) := by decide +kernel
theorem dX3_placeInLine_8 : decode cX3_placeInLine 8 = .ok (.istore 4, 2) := by decide +kernel
theorem dX3_placeInLine_10 : decode cX3_placeInLine 10 = .ok (.iconst 0, 1) := by decide +kernel
theorem dX3_placeInLine_11 : decode cX3_placeInLine 11 = .ok (.istore 5, 2) := by decide +kernel
theorem dX3_placeInLine_13 : decode cX3_placeInLine 13 = .ok (.iload 5, 2) := by decide +kernel
theorem dX3_placeInLine_15 : decode cX3_placeInLine 15 = .ok (.aload_n 1, 1) := by decide +kernel
theorem dX3_placeInLine_16 : decode cX3_placeInLine 16 = .ok (.getfield 144, 3) := by decide +kernel
theorem dX3_placeInLine_19 : decode cX3_placeInLine 19 = .ok (.if_icmp .ge 106, 3) := by decide +kernel
theorem dX3_placeInLine_22 : decode cX3_placeInLine 22 = .ok (.aload_n 0, 1) := by decide +kernel
theorem dX3_placeInLine_23 : decode cX3_placeInLine 23 = .ok (.getfield 9, 3) := by decide +kernel
theorem dX3_placeInLine_26 : decode cX3_placeInLine 26 = .ok (.aload_n 1, 1) := by decide +kernel
theorem dX3_placeInLine_27 : decode cX3_placeInLine 27 = .ok (.iload 5, 2) := by decide +kernel
theorem dX3_placeInLine_29 : decode cX3_placeInLine 29 = .ok (.invokevirtual 147, 3) := by decide +kernel
theorem dX3_placeInLine_32 : decode cX3_placeInLine 32 = .ok (.getfield 57, 3) := by decide +kernel
theorem dX3_placeInLine_35 : decode cX3_placeInLine 35 = .ok (.astore 6, 2) := by decide +kernel
theorem dX3_placeInLine_37 : decode cX3_placeInLine 37 = .ok (.iload_n 2, 1) := by decide +kernel
theorem dX3_placeInLine_38 : decode cX3_placeInLine 38 = .ok (.ifCond .eq 30, 3) := by decide +kernel
theorem dX3_placeInLine_41 : decode cX3_placeInLine 41 = .ok (.aload 6, 2) := by decide +kernel
theorem dX3_placeInLine_43 : decode cX3_placeInLine 43 = .ok (.iload_n 3, 1) := by decide +kernel
theorem dX3_placeInLine_44 : decode cX3_placeInLine 44 = .ok (.aload_n 1, 1) := by decide +kernel
theorem dX3_placeInLine_45 : decode cX3_placeInLine 45 = .ok (.getfield 57, 3) := by decide +kernel
theorem dX3_placeInLine_48 : decode cX3_placeInLine 48 = .ok (.getfield 176, 3) := by decide +kernel
theorem dX3_placeInLine_51 : decode cX3_placeInLine 51 = .ok (.aload 6, 2) := by decide +kernel
theorem dX3_placeInLine_53 : decode cX3_placeInLine 53 = .ok (.getfield 176, 3) := by decide +kernel
theorem dX3_placeInLine_56 : decode cX3_placeInLine 56 = .ok (.isub, 1) := by decide +kernel
theorem dX3_placeInLine_57 : decode cX3_placeInLine 57 = .ok (.iload 4, 2) := by decide +kernel
theorem dX3_placeInLine_59 : decode cX3_placeInLine 59 = .ok (.invokestatic 198, 3) := by decide +kernel
theorem dX3_placeInLine_62 : decode cX3_placeInLine 62 = .ok (.invokevirtual 170, 3) := by decide +kernel
theorem dX3_placeInLine_65 : decode cX3_placeInLine 65 = .ok (.goto 27, 3) := by decide +kernel
theorem dX3_placeInLine_68 : decode cX3_placeInLine 68 = .ok (.aload 6, 2) := by decide +kernel
theorem dX3_placeInLine_70 : decode cX3_placeInLine 70 = .ok (.aload_n 1, 1) := by decide +kernel
theorem dX3_placeInLine_71 : decode cX3_placeInLine 71 = .ok (.getfield 57, 3) := by decide +kernel
theorem dX3_placeInLine_74 : decode cX3_placeInLine 74 = .ok (.getfield 173, 3) := by decide +kernel
theorem dX3_placeInLine_77 : decode cX3_placeInLine 77 = .ok (.aload 6, 2) := by decide +kernel
theorem dX3_placeInLine_79 : decode cX3_placeInLine 79 = .ok (.getfield 173, 3) := by decide +kernel
theorem dX3_placeInLine_82 : decode cX3_placeInLine 82 = .ok (.isub, 1) := by decide +kernel
theorem dX3_placeInLine_83 : decode cX3_placeInLine 83 = .ok (.iload 4, 2) := by decide +kernel
theorem dX3_placeInLine_85 : decode cX3_placeInLine 85 = .ok (.invokestatic 198, 3) := by decide +kernel
theorem dX3_placeInLine_88 : decode cX3_placeInLine 88 = .ok (.iload_n 3, 1) := by decide +kernel
theorem dX3_placeInLine_89 : decode cX3_placeInLine 89 = .ok (.invokevirtual 170, 3) := by decide +kernel
theorem dX3_placeInLine_92 : decode cX3_placeInLine 92 = .ok (.iload_n 3, 1) := by decide +kernel
theorem dX3_placeInLine_93 : decode cX3_placeInLine 93 = .ok (.iload_n 2, 1) := by decide +kernel
theorem dX3_placeInLine_94 : decode cX3_placeInLine 94 = .ok (.ifCond .eq 11, 3) := by decide +kernel
theorem dX3_placeInLine_97 : decode cX3_placeInLine 97 = .ok (.aload 6, 2) := by decide +kernel
theorem dX3_placeInLine_99 : decode cX3_placeInLine 99 = .ok (.getfield 173, 3) := by decide +kernel
theorem dX3_placeInLine_102 : decode cX3_placeInLine 102 = .ok (.goto 8, 3) := by decide +kernel
theorem dX3_placeInLine_105 : decode cX3_placeInLine 105 = .ok (.aload 6, 2) := by decide +kernel
theorem dX3_placeInLine_107 : decode cX3_placeInLine 107 = .ok (.getfield 176, 3) := by decide +kernel
theorem dX3_placeInLine_110 : decode cX3_placeInLine 110 = .ok (.aload_n 1, 1) := by decide +kernel
theorem dX3_placeInLine_111 : decode cX3_placeInLine 111 = .ok (.getfield 111, 3) := by decide +kernel
theorem dX3_placeInLine_114 : decode cX3_placeInLine 114 = .ok (.iconst 1, 1) := by decide +kernel
theorem dX3_placeInLine_115 : decode cX3_placeInLine 115 = .ok (.iaload, 1) := by decide +kernel
theorem dX3_placeInLine_116 : decode cX3_placeInLine 116 = .ok (.iadd, 1) := by decide +kernel
theorem dX3_placeInLine_117 : decode cX3_placeInLine 117 = .ok (.iadd, 1) := by decide +kernel
theorem dX3_placeInLine_118 : decode cX3_placeInLine 118 = .ok (.istore_n 3, 1) := by decide +kernel
theorem dX3_placeInLine_119 : decode cX3_placeInLine 119 = .ok (.iinc 5 1, 3) := by decide +kernel
theorem dX3_placeInLine_122 : decode cX3_placeInLine 122 = .ok (.goto (-109), 3) := by decide +kernel
theorem dX3_placeInLine_125 : decode cX3_placeInLine 125 = .ok (.return_, 1) := by decide +kernel
theorem dX3_standOnBase_0 : decode cX3_standOnBase 0 = .ok (.iconst 0, 1) := by decide +kernel
theorem dX3_standOnBase_1 : decode cX3_standOnBase 1 = .ok (.istore 4, 2) := by decide +kernel
theorem dX3_standOnBase_3 : decode cX3_standOnBase 3 = .ok (.iconst 0, 1) := by decide +kernel
theorem dX3_standOnBase_4 : decode cX3_standOnBase 4 = .ok (.istore 5, 2) := by decide +kernel
theorem dX3_standOnBase_6 : decode cX3_standOnBase 6 = .ok (.iconst 0, 1) := by decide +kernel
theorem dX3_standOnBase_7 : decode cX3_standOnBase 7 = .ok (.istore 6, 2) := by decide +kernel
theorem dX3_standOnBase_9 : decode cX3_standOnBase 9 = .ok (.iload 6, 2) := by decide +kernel
theorem dX3_standOnBase_11 : decode cX3_standOnBase 11 = .ok (.aload_n 1, 1) := by decide +kernel
theorem dX3_standOnBase_12 : decode cX3_standOnBase 12 = .ok (.getfield 144, 3) := by decide +kernel
theorem dX3_standOnBase_15 : decode cX3_standOnBase 15 = .ok (.if_icmp .ge 91, 3) := by decide +kernel
theorem dX3_standOnBase_18 : decode cX3_standOnBase 18 = .ok (.aload_n 0, 1) := by decide +kernel
theorem dX3_standOnBase_19 : decode cX3_standOnBase 19 = .ok (.getfield 9, 3) := by decide +kernel
theorem dX3_standOnBase_22 : decode cX3_standOnBase 22 = .ok (.aload_n 1, 1) := by decide +kernel
theorem dX3_standOnBase_23 : decode cX3_standOnBase 23 = .ok (.iload 6, 2) := by decide +kernel
theorem dX3_standOnBase_25 : decode cX3_standOnBase 25 = .ok (.invokevirtual 147, 3) := by decide +kernel
theorem dX3_standOnBase_28 : decode cX3_standOnBase 28 = .ok (.astore 7, 2) := by decide +kernel
theorem dX3_standOnBase_30 : decode cX3_standOnBase 30 = .ok (.aload_n 0, 1) := by decide +kernel
theorem dX3_standOnBase_31 : decode cX3_standOnBase 31 = .ok (.aload 7, 2) := by decide +kernel
theorem dX3_standOnBase_33 : decode cX3_standOnBase 33 = .ok (.iconst 1, 1) := by decide +kernel
theorem dX3_standOnBase_34 : decode cX3_standOnBase 34 = .ok (.iload_n 3, 1) := by decide +kernel
theorem dX3_standOnBase_35 : decode cX3_standOnBase 35 = .ok (.iconst 1, 1) := by decide +kernel
theorem dX3_standOnBase_36 : decode cX3_standOnBase 36 = .ok (.iadd, 1) := by decide +kernel
theorem dX3_standOnBase_37 : decode cX3_standOnBase 37 = .ok (.invokevirtual 261, 3) := by decide +kernel
theorem dX3_standOnBase_40 : decode cX3_standOnBase 40 = .ok (.istore 8, 2) := by decide +kernel
theorem dX3_standOnBase_42 : decode cX3_standOnBase 42 = .ok (.aload 7, 2) := by decide +kernel
theorem dX3_standOnBase_44 : decode cX3_standOnBase 44 = .ok (.iload 8, 2) := by decide +kernel
theorem dX3_standOnBase_46 : decode cX3_standOnBase 46 = .ok (.bipush (-5), 2) := by decide +kernel
theorem dX3_standOnBase_48 : decode cX3_standOnBase 48 = .ok (.if_icmp .ne 14, 3) := by decide +kernel
theorem dX3_standOnBase_51 : decode cX3_standOnBase 51 = .ok (.aload 7, 2) := by decide +kernel
theorem dX3_standOnBase_53 : decode cX3_standOnBase 53 = .ok (.getfield 57, 3) := by decide +kernel
theorem dX3_standOnBase_56 : decode cX3_standOnBase 56 = .ok (.getfield 176, 3) := by decide +kernel
theorem dX3_standOnBase_59 : decode cX3_standOnBase 59 = .ok (.goto 5, 3) := by decide +kernel
theorem dX3_standOnBase_62 : decode cX3_standOnBase 62 = .ok (.iload 8, 2) := by decide +kernel
theorem dX3_standOnBase_64 : decode cX3_standOnBase 64 = .ok (.putfield 247, 3) := by decide +kernel
theorem dX3_standOnBase_67 : decode cX3_standOnBase 67 = .ok (.iload 4, 2) := by decide +kernel
theorem dX3_standOnBase_69 : decode cX3_standOnBase 69 = .ok (.aload 7, 2) := by decide +kernel
theorem dX3_standOnBase_71 : decode cX3_standOnBase 71 = .ok (.getfield 247, 3) := by decide +kernel
theorem dX3_standOnBase_74 : decode cX3_standOnBase 74 = .ok (.invokestatic 155, 3) := by decide +kernel
theorem dX3_standOnBase_77 : decode cX3_standOnBase 77 = .ok (.istore 4, 2) := by decide +kernel
theorem dX3_standOnBase_79 : decode cX3_standOnBase 79 = .ok (.iload 5, 2) := by decide +kernel
theorem dX3_standOnBase_81 : decode cX3_standOnBase 81 = .ok (.aload 7, 2) := by decide +kernel
theorem dX3_standOnBase_83 : decode cX3_standOnBase 83 = .ok (.getfield 57, 3) := by decide +kernel
theorem dX3_standOnBase_86 : decode cX3_standOnBase 86 = .ok (.getfield 176, 3) := by decide +kernel
theorem dX3_standOnBase_89 : decode cX3_standOnBase 89 = .ok (.aload 7, 2) := by decide +kernel
theorem dX3_standOnBase_91 : decode cX3_standOnBase 91 = .ok (.getfield 247, 3) := by decide +kernel
theorem dX3_standOnBase_94 : decode cX3_standOnBase 94 = .ok (.isub, 1) := by decide +kernel
theorem dX3_standOnBase_95 : decode cX3_standOnBase 95 = .ok (.invokestatic 155, 3) := by decide +kernel
theorem dX3_standOnBase_98 : decode cX3_standOnBase 98 = .ok (.istore 5, 2) := by decide +kernel
theorem dX3_standOnBase_100 : decode cX3_standOnBase 100 = .ok (.iinc 6 1, 3) := by decide +kernel
theorem dX3_standOnBase_103 : decode cX3_standOnBase 103 = .ok (.goto (-94), 3) := by decide +kernel
theorem dX3_standOnBase_106 : decode cX3_standOnBase 106 = .ok (.aload_n 1, 1) := by decide +kernel
theorem dX3_standOnBase_107 : decode cX3_standOnBase 107 = .ok (.getfield 57, 3) := by decide +kernel
theorem dX3_standOnBase_110 : decode cX3_standOnBase 110 = .ok (.iload_n 2, 1) := by decide +kernel
theorem dX3_standOnBase_111 : decode cX3_standOnBase 111 = .ok (.iload 4, 2) := by decide +kernel
theorem dX3_standOnBase_113 : decode cX3_standOnBase 113 = .ok (.iload 5, 2) := by decide +kernel
theorem dX3_standOnBase_115 : decode cX3_standOnBase 115 = .ok (.iadd, 1) := by decide +kernel
theorem dX3_standOnBase_116 : decode cX3_standOnBase 116 = .ok (.invokevirtual 115, 3) := by decide +kernel
theorem dX3_standOnBase_119 : decode cX3_standOnBase 119 = .ok (.iconst 0, 1) := by decide +kernel
theorem dX3_standOnBase_120 : decode cX3_standOnBase 120 = .ok (.istore 6, 2) := by decide +kernel
theorem dX3_standOnBase_122 : decode cX3_standOnBase 122 = .ok (.iconst 0, 1) := by decide +kernel
theorem dX3_standOnBase_123 : decode cX3_standOnBase 123 = .ok (.istore 7, 2) := by decide +kernel
theorem dX3_standOnBase_125 : decode cX3_standOnBase 125 = .ok (.iload 7, 2) := by decide +kernel
theorem dX3_standOnBase_127 : decode cX3_standOnBase 127 = .ok (.aload_n 1, 1) := by decide +kernel
theorem dX3_standOnBase_128 : decode cX3_standOnBase 128 = .ok (.getfield 144, 3) := by decide +kernel
theorem dX3_standOnBase_131 : decode cX3_standOnBase 131 = .ok (.if_icmp .ge 59, 3) := by decide +kernel
theorem dX3_standOnBase_134 : decode cX3_standOnBase 134 = .ok (.aload_n 0, 1) := by decide +kernel
theorem dX3_standOnBase_135 : decode cX3_standOnBase 135 = .ok (.getfield 9, 3) := by decide +kernel
theorem dX3_standOnBase_138 : decode cX3_standOnBase 138 = .ok (.aload_n 1, 1) := by decide +kernel
theorem dX3_standOnBase_139 : decode cX3_standOnBase 139 = .ok (.iload 7, 2) := by decide +kernel
theorem dX3_standOnBase_141 : decode cX3_standOnBase 141 = .ok (.invokevirtual 147, 3) := by decide +kernel
theorem dX3_standOnBase_144 : decode cX3_standOnBase 144 = .ok (.astore 8, 2) := by decide +kernel
theorem dX3_standOnBase_146 : decode cX3_standOnBase 146 = .ok (.aload 8, 2) := by decide +kernel
theorem dX3_standOnBase_148 : decode cX3_standOnBase 148 = .ok (.getfield 57, 3) := by decide +kernel
theorem dX3_standOnBase_151 : decode cX3_standOnBase 151 = .ok (.iload 6, 2) := by decide +kernel
theorem dX3_standOnBase_153 : decode cX3_standOnBase 153 = .ok (.iload 4, 2) := by decide +kernel
theorem dX3_standOnBase_155 : decode cX3_standOnBase 155 = .ok (.aload 8, 2) := by decide +kernel
theorem dX3_standOnBase_157 : decode cX3_standOnBase 157 = .ok (.getfield 247, 3) := by decide +kernel
theorem dX3_standOnBase_160 : decode cX3_standOnBase 160 = .ok (.isub, 1) := by decide +kernel
theorem dX3_standOnBase_161 : decode cX3_standOnBase 161 = .ok (.invokevirtual 170, 3) := by decide +kernel
theorem dX3_standOnBase_164 : decode cX3_standOnBase 164 = .ok (.iload 6, 2) := by decide +kernel
theorem dX3_standOnBase_166 : decode cX3_standOnBase 166 = .ok (.aload 8, 2) := by decide +kernel
theorem dX3_standOnBase_168 : decode cX3_standOnBase 168 = .ok (.getfield 57, 3) := by decide +kernel
theorem dX3_standOnBase_171 : decode cX3_standOnBase 171 = .ok (.getfield 173, 3) := by decide +kernel
theorem dX3_standOnBase_174 : decode cX3_standOnBase 174 = .ok (.aload_n 1, 1) := by decide +kernel
theorem dX3_standOnBase_175 : decode cX3_standOnBase 175 = .ok (.getfield 111, 3) := by decide +kernel
theorem dX3_standOnBase_178 : decode cX3_standOnBase 178 = .ok (.iconst 1, 1) := by decide +kernel
theorem dX3_standOnBase_179 : decode cX3_standOnBase 179 = .ok (.iaload, 1) := by decide +kernel
theorem dX3_standOnBase_180 : decode cX3_standOnBase 180 = .ok (.iadd, 1) := by decide +kernel
theorem dX3_standOnBase_181 : decode cX3_standOnBase 181 = .ok (.iadd, 1) := by decide +kernel
theorem dX3_standOnBase_182 : decode cX3_standOnBase 182 = .ok (.istore 6, 2) := by decide +kernel
theorem dX3_standOnBase_184 : decode cX3_standOnBase 184 = .ok (.iinc 7 1, 3) := by decide +kernel
theorem dX3_standOnBase_187 : decode cX3_standOnBase 187 = .ok (.goto (-62), 3) := by decide +kernel
theorem dX3_standOnBase_190 : decode cX3_standOnBase 190 = .ok (.aload_n 1, 1) := by decide +kernel
theorem dX3_standOnBase_191 : decode cX3_standOnBase 191 = .ok (.getfield 144, 3) := by decide +kernel
theorem dX3_standOnBase_194 : decode cX3_standOnBase 194 = .ok (.ifCond .le 12, 3) := by decide +kernel
theorem dX3_standOnBase_197 : decode cX3_standOnBase 197 = .ok (.aload_n 1, 1) := by decide +kernel
theorem dX3_standOnBase_198 : decode cX3_standOnBase 198 = .ok (.getfield 57, 3) := by decide +kernel
theorem dX3_standOnBase_201 : decode cX3_standOnBase 201 = .ok (.iload 4, 2) := by decide +kernel
theorem dX3_standOnBase_203 : decode cX3_standOnBase 203 = .ok (.putfield 160, 3) := by decide +kernel
theorem dX3_standOnBase_206 : decode cX3_standOnBase 206 = .ok (.return_, 1) := by decide +kernel
theorem dX3_baseAsLaid_0 : decode cX3_baseAsLaid 0 = .ok (.aload_n 0, 1) := by decide +kernel
theorem dX3_baseAsLaid_1 : decode cX3_baseAsLaid 1 = .ok (.aload_n 1, 1) := by decide +kernel
theorem dX3_baseAsLaid_2 : decode cX3_baseAsLaid 2 = .ok (.iconst 0, 1) := by decide +kernel
theorem dX3_baseAsLaid_3 : decode cX3_baseAsLaid 3 = .ok (.iconst 0, 1) := by decide +kernel
theorem dX3_baseAsLaid_4 : decode cX3_baseAsLaid 4 = .ok (.invokevirtual 261, 3) := by decide +kernel
theorem dX3_baseAsLaid_7 : decode cX3_baseAsLaid 7 = .ok (.ireturn, 1) := by decide +kernel
theorem dX3_baseOf_0 : decode cX3_baseOf 0 = .ok (.iload_n 2, 1) := by decide +kernel
theorem dX3_baseOf_1 : decode cX3_baseOf 1 = .ok (.ifCond .eq 21, 3) := by decide +kernel
theorem dX3_baseOf_4 : decode cX3_baseOf 4 = .ok (.aload_n 0, 1) := by decide +kernel
theorem dX3_baseOf_5 : decode cX3_baseOf 5 = .ok (.getfield 9, 3) := by decide +kernel
theorem dX3_baseOf_8 : decode cX3_baseOf 8 = .ok (.dup, 1) := by decide +kernel
theorem dX3_baseOf_9 : decode cX3_baseOf 9 = .ok (.getfield 105, 3) := by decide +kernel
theorem dX3_baseOf_12 : decode cX3_baseOf 12 = .ok (.iconst 1, 1) := by decide +kernel
theorem dX3_baseOf_13 : decode cX3_baseOf 13 = .ok (.aload_n 1, 1) := by decide +kernel
theorem dX3_baseOf_14 : decode cX3_baseOf 14 = .ok (.getfield 87, 3) := by decide +kernel
theorem dX3_baseOf_17 : decode cX3_baseOf 17 = .ok (.ishl, 1) := by decide +kernel
theorem dX3_baseOf_18 : decode cX3_baseOf 18 = .ok (.ior, 1) := by decide +kernel
theorem dX3_baseOf_19 : decode cX3_baseOf 19 = .ok (.putfield 105, 3) := by decide +kernel
theorem dX3_baseOf_22 : decode cX3_baseOf 22 = .ok (.aload_n 1, 1) := by decide +kernel
theorem dX3_baseOf_23 : decode cX3_baseOf 23 = .ok (.getfield 57, 3) := by decide +kernel
theorem dX3_baseOf_26 : decode cX3_baseOf 26 = .ok (.getfield 264, 3) := by decide +kernel
theorem dX3_baseOf_29 : decode cX3_baseOf 29 = .ok (.ifCond .eq 21, 3) := by decide +kernel
theorem dX3_baseOf_32 : decode cX3_baseOf 32 = .ok (.aload_n 1, 1) := by decide +kernel
theorem dX3_baseOf_33 : decode cX3_baseOf 33 = .ok (.getfield 57, 3) := by decide +kernel
theorem dX3_baseOf_36 : decode cX3_baseOf 36 = .ok (.getfield 160, 3) := by decide +kernel
theorem dX3_baseOf_39 : decode cX3_baseOf 39 = .ok (.bipush (-5), 2) := by decide +kernel
theorem dX3_baseOf_41 : decode cX3_baseOf 41 = .ok (.if_icmp .ne 9, 3) := by decide +kernel
theorem dX3_baseOf_44 : decode cX3_baseOf 44 = .ok (.iload_n 3, 1) := by decide +kernel
theorem dX3_baseOf_45 : decode cX3_baseOf 45 = .ok (.bipush 24, 2) := by decide +kernel
theorem dX3_baseOf_47 : decode cX3_baseOf 47 = .ok (.if_icmp .lt 11, 3) := by decide +kernel
theorem dX3_baseOf_50 : decode cX3_baseOf 50 = .ok (.aload_n 1, 1) := by decide +kernel
theorem dX3_baseOf_51 : decode cX3_baseOf 51 = .ok (.getfield 57, 3) := by decide +kernel
theorem dX3_baseOf_54 : decode cX3_baseOf 54 = .ok (.getfield 160, 3) := by decide +kernel
theorem dX3_baseOf_57 : decode cX3_baseOf 57 = .ok (.ireturn, 1) := by decide +kernel
theorem dX3_baseOf_58 : decode cX3_baseOf 58 = .ok (.iconst 0, 1) := by decide +kernel
theorem dX3_baseOf_59 : decode cX3_baseOf 59 = .ok (.istore 4, 2) := by decide +kernel
theorem dX3_baseOf_61 : decode cX3_baseOf 61 = .ok (.iload 4, 2) := by decide +kernel
theorem dX3_baseOf_63 : decode cX3_baseOf 63 = .ok (.aload_n 1, 1) := by decide +kernel
theorem dX3_baseOf_64 : decode cX3_baseOf 64 = .ok (.getfield 144, 3) := by decide +kernel
theorem dX3_baseOf_67 : decode cX3_baseOf 67 = .ok (.if_icmp .ge 52, 3) := by decide +kernel
theorem dX3_baseOf_70 : decode cX3_baseOf 70 = .ok (.aload_n 0, 1) := by decide +kernel
theorem dX3_baseOf_71 : decode cX3_baseOf 71 = .ok (.getfield 9, 3) := by decide +kernel
theorem dX3_baseOf_74 : decode cX3_baseOf 74 = .ok (.aload_n 1, 1) := by decide +kernel
theorem dX3_baseOf_75 : decode cX3_baseOf 75 = .ok (.iload 4, 2) := by decide +kernel
theorem dX3_baseOf_77 : decode cX3_baseOf 77 = .ok (.invokevirtual 147, 3) := by decide +kernel
theorem dX3_baseOf_80 : decode cX3_baseOf 80 = .ok (.astore 5, 2) := by decide +kernel
theorem dX3_baseOf_82 : decode cX3_baseOf 82 = .ok (.aload_n 0, 1) := by decide +kernel
theorem dX3_baseOf_83 : decode cX3_baseOf 83 = .ok (.aload 5, 2) := by decide +kernel
theorem dX3_baseOf_85 : decode cX3_baseOf 85 = .ok (.iload_n 2, 1) := by decide +kernel
theorem dX3_baseOf_86 : decode cX3_baseOf 86 = .ok (.iload_n 3, 1) := by decide +kernel
theorem dX3_baseOf_87 : decode cX3_baseOf 87 = .ok (.iconst 1, 1) := by decide +kernel
theorem dX3_baseOf_88 : decode cX3_baseOf 88 = .ok (.iadd, 1) := by decide +kernel
theorem dX3_baseOf_89 : decode cX3_baseOf 89 = .ok (.invokevirtual 261, 3) := by decide +kernel
theorem dX3_baseOf_92 : decode cX3_baseOf 92 = .ok (.istore 6, 2) := by decide +kernel
theorem dX3_baseOf_94 : decode cX3_baseOf 94 = .ok (.iload 6, 2) := by decide +kernel
theorem dX3_baseOf_96 : decode cX3_baseOf 96 = .ok (.bipush (-5), 2) := by decide +kernel
theorem dX3_baseOf_98 : decode cX3_baseOf 98 = .ok (.if_icmp .eq 15, 3) := by decide +kernel
theorem dX3_baseOf_101 : decode cX3_baseOf 101 = .ok (.aload 5, 2) := by decide +kernel
theorem dX3_baseOf_103 : decode cX3_baseOf 103 = .ok (.getfield 57, 3) := by decide +kernel
theorem dX3_baseOf_106 : decode cX3_baseOf 106 = .ok (.getfield 267, 3) := by decide +kernel
theorem dX3_baseOf_109 : decode cX3_baseOf 109 = .ok (.iload 6, 2) := by decide +kernel
theorem dX3_baseOf_111 : decode cX3_baseOf 111 = .ok (.iadd, 1) := by decide +kernel
theorem dX3_baseOf_112 : decode cX3_baseOf 112 = .ok (.ireturn, 1) := by decide +kernel
theorem dX3_baseOf_113 : decode cX3_baseOf 113 = .ok (.iinc 4 1, 3) := by decide +kernel
theorem dX3_baseOf_116 : decode cX3_baseOf 116 = .ok (.goto (-55), 3) := by decide +kernel
theorem dX3_baseOf_119 : decode cX3_baseOf 119 = .ok (.bipush (-5), 2) := by decide +kernel
theorem dX3_baseOf_121 : decode cX3_baseOf 121 = .ok (.ireturn, 1) := by decide +kernel
theorem dX3_ask_0 : decode cX3_ask 0 = .ok (.aload_n 0, 1) := by decide +kernel
theorem dX3_ask_1 : decode cX3_ask 1 = .ok (.aload_n 1, 1) := by decide +kernel
theorem dX3_ask_2 : decode cX3_ask 2 = .ok (.iload_n 2, 1) := by decide +kernel
theorem dX3_ask_3 : decode cX3_ask 3 = .ok (.iconst 0, 1) := by decide +kernel
theorem dX3_ask_4 : decode cX3_ask 4 = .ok (.invokevirtual 191, 3) := by decide +kernel
theorem dX3_ask_7 : decode cX3_ask 7 = .ok (.ireturn, 1) := by decide +kernel
theorem dX3_askedOf_0 : decode cX3_askedOf 0 = .ok (.aload_n 1, 1) := by decide +kernel
theorem dX3_askedOf_1 : decode cX3_askedOf 1 = .ok (.iload_n 2, 1) := by decide +kernel
theorem dX3_askedOf_2 : decode cX3_askedOf 2 = .ok (.invokevirtual 270, 3) := by decide +kernel
theorem dX3_askedOf_5 : decode cX3_askedOf 5 = .ok (.ifCond .ne 9, 3) := by decide +kernel
theorem dX3_askedOf_8 : decode cX3_askedOf 8 = .ok (.iload_n 3, 1) := by decide +kernel
theorem dX3_askedOf_9 : decode cX3_askedOf 9 = .ok (.bipush 24, 2) := by decide +kernel
theorem dX3_askedOf_11 : decode cX3_askedOf 11 = .ok (.if_icmp .lt 9, 3) := by decide +kernel
theorem dX3_askedOf_14 : decode cX3_askedOf 14 = .ok (.aload_n 1, 1) := by decide +kernel
theorem dX3_askedOf_15 : decode cX3_askedOf 15 = .ok (.iload_n 2, 1) := by decide +kernel
theorem dX3_askedOf_16 : decode cX3_askedOf 16 = .ok (.invokevirtual 273, 3) := by decide +kernel
theorem dX3_askedOf_19 : decode cX3_askedOf 19 = .ok (.ireturn, 1) := by decide +kernel
theorem dX3_askedOf_20 : decode cX3_askedOf 20 = .ok (.aload_n 0, 1) := by decide +kernel
theorem dX3_askedOf_21 : decode cX3_askedOf 21 = .ok (.aload_n 1, 1) := by decide +kernel
theorem dX3_askedOf_22 : decode cX3_askedOf 22 = .ok (.iload_n 2, 1) := by decide +kernel
theorem dX3_askedOf_23 : decode cX3_askedOf 23 = .ok (.iload_n 3, 1) := by decide +kernel
theorem dX3_askedOf_24 : decode cX3_askedOf 24 = .ok (.invokevirtual 276, 3) := by decide +kernel
theorem dX3_askedOf_27 : decode cX3_askedOf 27 = .ok (.istore 4, 2) := by decide +kernel
theorem dX3_askedOf_29 : decode cX3_askedOf 29 = .ok (.aload_n 1, 1) := by decide +kernel
theorem dX3_askedOf_30 : decode cX3_askedOf 30 = .ok (.iload_n 2, 1) := by decide +kernel
theorem dX3_askedOf_31 : decode cX3_askedOf 31 = .ok (.iload 4, 2) := by decide +kernel
theorem dX3_askedOf_33 : decode cX3_askedOf 33 = .ok (.invokevirtual 279, 3) := by decide +kernel
theorem dX3_askedOf_36 : decode cX3_askedOf 36 = .ok (.aload_n 0, 1) := by decide +kernel
theorem dX3_askedOf_37 : decode cX3_askedOf 37 = .ok (.dup, 1) := by decide +kernel
theorem dX3_askedOf_38 : decode cX3_askedOf 38 = .ok (.getfield 282, 3) := by decide +kernel
theorem dX3_askedOf_41 : decode cX3_askedOf 41 = .ok (.iconst 1, 1) := by decide +kernel
theorem dX3_askedOf_42 : decode cX3_askedOf 42 = .ok (.iadd, 1) := by decide +kernel
theorem dX3_askedOf_43 : decode cX3_askedOf 43 = .ok (.putfield 282, 3) := by decide +kernel
theorem dX3_askedOf_46 : decode cX3_askedOf 46 = .ok (.iload 4, 2) := by decide +kernel
theorem dX3_askedOf_48 : decode cX3_askedOf 48 = .ok (.ireturn, 1) := by decide +kernel
theorem dX3_figured_0 : decode cX3_figured 0 = .ok (.aload_n 1, 1) := by decide +kernel
theorem dX3_figured_1 : decode cX3_figured 1 = .ok (.getfield 111, 3) := by decide +kernel
theorem dX3_figured_4 : decode cX3_figured 4 = .ok (.iconst 0, 1) := by decide +kernel
theorem dX3_figured_5 : decode cX3_figured 5 = .ok (.iaload, 1) := by decide +kernel
theorem dX3_figured_6 : decode cX3_figured 6 = .ok (.istore 4, 2) := by decide +kernel
theorem dX3_figured_8 : decode cX3_figured 8 = .ok (.aload_n 1, 1) := by decide +kernel
theorem dX3_figured_9 : decode cX3_figured 9 = .ok (.getfield 108, 3) := by decide +kernel
theorem dX3_figured_12 : decode cX3_figured 12 = .ok (.tableswitch 137 0 8 #[52, 55, 71, 84, 137, 106, 114, 137, 129], 52) := by decide +kernel
theorem dX3_figured_64 : decode cX3_figured 64 = .ok (.iload 4, 2) := by decide +kernel
theorem dX3_figured_66 : decode cX3_figured 66 = .ok (.ireturn, 1) := by decide +kernel
theorem dX3_figured_67 : decode cX3_figured 67 = .ok (.iload_n 2, 1) := by decide +kernel
theorem dX3_figured_68 : decode cX3_figured 68 = .ok (.ifCond .ne 10, 3) := by decide +kernel
theorem dX3_figured_71 : decode cX3_figured 71 = .ok (.aload_n 1, 1) := by decide +kernel
theorem dX3_figured_72 : decode cX3_figured 72 = .ok (.invokestatic 285, 3) := by decide +kernel
theorem dX3_figured_75 : decode cX3_figured 75 = .ok (.goto 7, 3) := by decide +kernel
theorem dX3_figured_78 : decode cX3_figured 78 = .ok (.aload_n 1, 1) := by decide +kernel
theorem dX3_figured_79 : decode cX3_figured 79 = .ok (.invokestatic 288, 3) := by decide +kernel
theorem dX3_figured_82 : decode cX3_figured 82 = .ok (.ireturn, 1) := by decide +kernel
theorem dX3_figured_83 : decode cX3_figured 83 = .ok (.aload_n 0, 1) := by decide +kernel
theorem dX3_figured_84 : decode cX3_figured 84 = .ok (.aload_n 1, 1) := by decide +kernel
theorem dX3_figured_85 : decode cX3_figured 85 = .ok (.iload_n 2, 1) := by decide +kernel
theorem dX3_figured_86 : decode cX3_figured 86 = .ok (.iload_n 3, 1) := by decide +kernel
theorem dX3_figured_87 : decode cX3_figured 87 = .ok (.invokevirtual 291, 3) := by decide +kernel
theorem dX3_figured_90 : decode cX3_figured 90 = .ok (.iconst 2, 1) := by decide +kernel
theorem dX3_figured_91 : decode cX3_figured 91 = .ok (.iload 4, 2) := by decide +kernel
theorem dX3_figured_93 : decode cX3_figured 93 = .ok (.imul, 1) := by decide +kernel
theorem dX3_figured_94 : decode cX3_figured 94 = .ok (.iadd, 1) := by decide +kernel
theorem dX3_figured_95 : decode cX3_figured 95 = .ok (.ireturn, 1) := by decide +kernel
theorem dX3_figured_96 : decode cX3_figured 96 = .ok (.aload_n 0, 1) := by decide +kernel
theorem dX3_figured_97 : decode cX3_figured 97 = .ok (.aload_n 1, 1) := by decide +kernel
theorem dX3_figured_98 : decode cX3_figured 98 = .ok (.iload_n 2, 1) := by decide +kernel
theorem dX3_figured_99 : decode cX3_figured 99 = .ok (.iload_n 3, 1) := by decide +kernel
theorem dX3_figured_100 : decode cX3_figured 100 = .ok (.invokevirtual 291, 3) := by decide +kernel
theorem dX3_figured_103 : decode cX3_figured 103 = .ok (.iload 4, 2) := by decide +kernel
theorem dX3_figured_105 : decode cX3_figured 105 = .ok (.aload_n 1, 1) := by decide +kernel
theorem dX3_figured_106 : decode cX3_figured 106 = .ok (.getfield 111, 3) := by decide +kernel
theorem dX3_figured_109 : decode cX3_figured 109 = .ok (.iconst 1, 1) := by decide +kernel
theorem dX3_figured_110 : decode cX3_figured 110 = .ok (.iaload, 1) := by decide +kernel
theorem dX3_figured_111 : decode cX3_figured 111 = .ok (.invokestatic 183, 3) := by decide +kernel
theorem dX3_figured_114 : decode cX3_figured 114 = .ok (.invokestatic 179, 3) := by decide +kernel
theorem dX3_figured_117 : decode cX3_figured 117 = .ok (.ireturn, 1) := by decide +kernel
theorem dX3_figured_118 : decode cX3_figured 118 = .ok (.aload_n 0, 1) := by decide +kernel
theorem dX3_figured_119 : decode cX3_figured 119 = .ok (.aload_n 1, 1) := by decide +kernel
theorem dX3_figured_120 : decode cX3_figured 120 = .ok (.iconst 0, 1) := by decide +kernel
theorem dX3_figured_121 : decode cX3_figured 121 = .ok (.iload_n 3, 1) := by decide +kernel
theorem dX3_figured_122 : decode cX3_figured 122 = .ok (.invokevirtual 291, 3) := by decide +kernel
theorem dX3_figured_125 : decode cX3_figured 125 = .ok (.ireturn, 1) := by decide +kernel
theorem dX3_figured_126 : decode cX3_figured 126 = .ok (.iload_n 2, 1) := by decide +kernel
theorem dX3_figured_127 : decode cX3_figured 127 = .ok (.ifCond .ne 11, 3) := by decide +kernel
theorem dX3_figured_130 : decode cX3_figured 130 = .ok (.bipush 10, 2) := by decide +kernel
theorem dX3_figured_132 : decode cX3_figured 132 = .ok (.iload 4, 2) := by decide +kernel
theorem dX3_figured_134 : decode cX3_figured 134 = .ok (.imul, 1) := by decide +kernel
theorem dX3_figured_135 : decode cX3_figured 135 = .ok (.goto 5, 3) := by decide +kernel
theorem dX3_figured_138 : decode cX3_figured 138 = .ok (.iload 4, 2) := by decide +kernel
theorem dX3_figured_140 : decode cX3_figured 140 = .ok (.ireturn, 1) := by decide +kernel
theorem dX3_figured_141 : decode cX3_figured 141 = .ok (.aload_n 0, 1) := by decide +kernel
theorem dX3_figured_142 : decode cX3_figured 142 = .ok (.aload_n 1, 1) := by decide +kernel
theorem dX3_figured_143 : decode cX3_figured 143 = .ok (.iload_n 2, 1) := by decide +kernel
theorem dX3_figured_144 : decode cX3_figured 144 = .ok (.iload_n 3, 1) := by decide +kernel
theorem dX3_figured_145 : decode cX3_figured 145 = .ok (.invokevirtual 294, 3) := by decide +kernel
theorem dX3_figured_148 : decode cX3_figured 148 = .ok (.ireturn, 1) := by decide +kernel
theorem dX3_figured_149 : decode cX3_figured 149 = .ok (.aload_n 0, 1) := by decide +kernel
theorem dX3_figured_150 : decode cX3_figured 150 = .ok (.aload_n 1, 1) := by decide +kernel
theorem dX3_figured_151 : decode cX3_figured 151 = .ok (.iload_n 2, 1) := by decide +kernel
theorem dX3_figured_152 : decode cX3_figured 152 = .ok (.iload_n 3, 1) := by decide +kernel
theorem dX3_figured_153 : decode cX3_figured 153 = .ok (.invokevirtual 291, 3) := by decide +kernel
theorem dX3_figured_156 : decode cX3_figured 156 = .ok (.ireturn, 1) := by decide +kernel
theorem dX3_wordsInALine_0 : decode cX3_wordsInALine 0 = .ok (.iconst 0, 1) := by decide +kernel
theorem dX3_wordsInALine_1 : decode cX3_wordsInALine 1 = .ok (.aload_n 0, 1) := by decide +kernel
theorem dX3_wordsInALine_2 : decode cX3_wordsInALine 2 = .ok (.getfield 111, 3) := by decide +kernel
theorem dX3_wordsInALine_5 : decode cX3_wordsInALine 5 = .ok (.iconst 0, 1) := by decide +kernel
theorem dX3_wordsInALine_6 : decode cX3_wordsInALine 6 = .ok (.iaload, 1) := by decide +kernel
theorem dX3_wordsInALine_7 : decode cX3_wordsInALine 7 = .ok (.iconst 1, 1) := by decide +kernel
theorem dX3_wordsInALine_8 : decode cX3_wordsInALine 8 = .ok (.isub, 1) := by decide +kernel
theorem dX3_wordsInALine_9 : decode cX3_wordsInALine 9 = .ok (.invokestatic 155, 3) := by decide +kernel
theorem dX3_wordsInALine_12 : decode cX3_wordsInALine 12 = .ok (.istore_n 1, 1) := by decide +kernel
theorem dX3_wordsInALine_13 : decode cX3_wordsInALine 13 = .ok (.iconst 0, 1) := by decide +kernel
theorem dX3_wordsInALine_14 : decode cX3_wordsInALine 14 = .ok (.istore_n 2, 1) := by decide +kernel
theorem dX3_wordsInALine_15 : decode cX3_wordsInALine 15 = .ok (.iload_n 2, 1) := by decide +kernel
theorem dX3_wordsInALine_16 : decode cX3_wordsInALine 16 = .ok (.aload_n 0, 1) := by decide +kernel
theorem dX3_wordsInALine_17 : decode cX3_wordsInALine 17 = .ok (.getfield 111, 3) := by decide +kernel
theorem dX3_wordsInALine_20 : decode cX3_wordsInALine 20 = .ok (.iconst 0, 1) := by decide +kernel
theorem dX3_wordsInALine_21 : decode cX3_wordsInALine 21 = .ok (.iaload, 1) := by decide +kernel
theorem dX3_wordsInALine_22 : decode cX3_wordsInALine 22 = .ok (.if_icmp .ge 22, 3) := by decide +kernel
theorem dX3_wordsInALine_25 : decode cX3_wordsInALine 25 = .ok (.iload_n 1, 1) := by decide +kernel
theorem dX3_wordsInALine_26 : decode cX3_wordsInALine 26 = .ok (.aload_n 0, 1) := by decide +kernel
theorem dX3_wordsInALine_27 : decode cX3_wordsInALine 27 = .ok (.getfield 111, 3) := by decide +kernel
theorem dX3_wordsInALine_30 : decode cX3_wordsInALine 30 = .ok (.iconst 1, 1) := by decide +kernel
theorem dX3_wordsInALine_31 : decode cX3_wordsInALine 31 = .ok (.iaload, 1) := by decide +kernel
theorem dX3_wordsInALine_32 : decode cX3_wordsInALine 32 = .ok (.iload_n 2, 1) := by decide +kernel
theorem dX3_wordsInALine_33 : decode cX3_wordsInALine 33 = .ok (.invokestatic 151, 3) := by decide +kernel
theorem dX3_wordsInALine_36 : decode cX3_wordsInALine 36 = .ok (.iadd, 1) := by decide +kernel
theorem dX3_wordsInALine_37 : decode cX3_wordsInALine 37 = .ok (.istore_n 1, 1) := by decide +kernel
theorem dX3_wordsInALine_38 : decode cX3_wordsInALine 38 = .ok (.iinc 2 1, 3) := by decide +kernel
theorem dX3_wordsInALine_41 : decode cX3_wordsInALine 41 = .ok (.goto (-26), 3) := by decide +kernel
theorem dX3_wordsInALine_44 : decode cX3_wordsInALine 44 = .ok (.iload_n 1, 1) := by decide +kernel
theorem dX3_wordsInALine_45 : decode cX3_wordsInALine 45 = .ok (.ireturn, 1) := by decide +kernel
theorem dX3_widestWord_0 : decode cX3_widestWord 0 = .ok (.iconst 0, 1) := by decide +kernel
theorem dX3_widestWord_1 : decode cX3_widestWord 1 = .ok (.istore_n 1, 1) := by decide +kernel
theorem dX3_widestWord_2 : decode cX3_widestWord 2 = .ok (.iconst 0, 1) := by decide +kernel
theorem dX3_widestWord_3 : decode cX3_widestWord 3 = .ok (.istore_n 2, 1) := by decide +kernel
theorem dX3_widestWord_4 : decode cX3_widestWord 4 = .ok (.iload_n 2, 1) := by decide +kernel
theorem dX3_widestWord_5 : decode cX3_widestWord 5 = .ok (.aload_n 0, 1) := by decide +kernel
theorem dX3_widestWord_6 : decode cX3_widestWord 6 = .ok (.getfield 111, 3) := by decide +kernel
theorem dX3_widestWord_9 : decode cX3_widestWord 9 = .ok (.iconst 0, 1) := by decide +kernel
theorem dX3_widestWord_10 : decode cX3_widestWord 10 = .ok (.iaload, 1) := by decide +kernel
theorem dX3_widestWord_11 : decode cX3_widestWord 11 = .ok (.if_icmp .ge 24, 3) := by decide +kernel
theorem dX3_widestWord_14 : decode cX3_widestWord 14 = .ok (.iload_n 1, 1) := by decide +kernel
theorem dX3_widestWord_15 : decode cX3_widestWord 15 = .ok (.aload_n 0, 1) := by decide +kernel
theorem dX3_widestWord_16 : decode cX3_widestWord 16 = .ok (.getfield 111, 3) := by decide +kernel
theorem dX3_widestWord_19 : decode cX3_widestWord 19 = .ok (.iconst 1, 1) := by decide +kernel
theorem dX3_widestWord_20 : decode cX3_widestWord 20 = .ok (.iaload, 1) := by decide +kernel
theorem dX3_widestWord_21 : decode cX3_widestWord 21 = .ok (.iload_n 2, 1) := by decide +kernel
theorem dX3_widestWord_22 : decode cX3_widestWord 22 = .ok (.invokestatic 151, 3) := by decide +kernel
theorem dX3_widestWord_25 : decode cX3_widestWord 25 = .ok (.invokestatic 155, 3) := by decide +kernel
theorem dX3_widestWord_28 : decode cX3_widestWord 28 = .ok (.istore_n 1, 1) := by decide +kernel
theorem dX3_widestWord_29 : decode cX3_widestWord 29 = .ok (.iinc 2 1, 3) := by decide +kernel
theorem dX3_widestWord_32 : decode cX3_widestWord 32 = .ok (.goto (-28), 3) := by decide +kernel
theorem dX3_widestWord_35 : decode cX3_widestWord 35 = .ok (.iload_n 1, 1) := by decide +kernel
theorem dX3_widestWord_36 : decode cX3_widestWord 36 = .ok (.ireturn, 1) := by decide +kernel
theorem dX3_greatestOfKids_0 : decode cX3_greatestOfKids 0 = .ok (.iconst 0, 1) := by decide +kernel
theorem dX3_greatestOfKids_1 : decode cX3_greatestOfKids 1 = .ok (.istore 4, 2) := by decide +kernel
theorem dX3_greatestOfKids_3 : decode cX3_greatestOfKids 3 = .ok (.iconst 0, 1) := by decide +kernel
theorem dX3_greatestOfKids_4 : decode cX3_greatestOfKids 4 = .ok (.istore 5, 2) := by decide +kernel
theorem dX3_greatestOfKids_6 : decode cX3_greatestOfKids 6 = .ok (.iload 5, 2) := by decide +kernel
theorem dX3_greatestOfKids_8 : decode cX3_greatestOfKids 8 = .ok (.aload_n 1, 1) := by decide +kernel
theorem dX3_greatestOfKids_9 : decode cX3_greatestOfKids 9 = .ok (.getfield 144, 3) := by decide +kernel
theorem dX3_greatestOfKids_12 : decode cX3_greatestOfKids 12 = .ok (.if_icmp .ge 34, 3) := by decide +kernel
theorem dX3_greatestOfKids_15 : decode cX3_greatestOfKids 15 = .ok (.iload 4, 2) := by decide +kernel
theorem dX3_greatestOfKids_17 : decode cX3_greatestOfKids 17 = .ok (.aload_n 0, 1) := by decide +kernel
theorem dX3_greatestOfKids_18 : decode cX3_greatestOfKids 18 = .ok (.aload_n 0, 1) := by decide +kernel
theorem dX3_greatestOfKids_19 : decode cX3_greatestOfKids 19 = .ok (.getfield 9, 3) := by decide +kernel
theorem dX3_greatestOfKids_22 : decode cX3_greatestOfKids 22 = .ok (.aload_n 1, 1) := by decide +kernel
theorem dX3_greatestOfKids_23 : decode cX3_greatestOfKids 23 = .ok (.iload 5, 2) := by decide +kernel
theorem dX3_greatestOfKids_25 : decode cX3_greatestOfKids 25 = .ok (.invokevirtual 147, 3) := by decide +kernel
theorem dX3_greatestOfKids_28 : decode cX3_greatestOfKids 28 = .ok (.iload_n 2, 1) := by decide +kernel
theorem dX3_greatestOfKids_29 : decode cX3_greatestOfKids 29 = .ok (.iload_n 3, 1) := by decide +kernel
theorem dX3_greatestOfKids_30 : decode cX3_greatestOfKids 30 = .ok (.iconst 1, 1) := by decide +kernel
theorem dX3_greatestOfKids_31 : decode cX3_greatestOfKids 31 = .ok (.iadd, 1) := by decide +kernel
theorem dX3_greatestOfKids_32 : decode cX3_greatestOfKids 32 = .ok (.invokevirtual 191, 3) := by decide +kernel
theorem dX3_greatestOfKids_35 : decode cX3_greatestOfKids 35 = .ok (.invokestatic 155, 3) := by decide +kernel
theorem dX3_greatestOfKids_38 : decode cX3_greatestOfKids 38 = .ok (.istore 4, 2) := by decide +kernel
theorem dX3_greatestOfKids_40 : decode cX3_greatestOfKids 40 = .ok (.iinc 5 1, 3) := by decide +kernel
theorem dX3_greatestOfKids_43 : decode cX3_greatestOfKids 43 = .ok (.goto (-37), 3) := by decide +kernel
theorem dX3_greatestOfKids_46 : decode cX3_greatestOfKids 46 = .ok (.iload 4, 2) := by decide +kernel
theorem dX3_greatestOfKids_48 : decode cX3_greatestOfKids 48 = .ok (.ireturn, 1) := by decide +kernel
theorem dX3_kidsTogether_0 : decode cX3_kidsTogether 0 = .ok (.iconst 0, 1) := by decide +kernel
theorem dX3_kidsTogether_1 : decode cX3_kidsTogether 1 = .ok (.aload_n 1, 1) := by decide +kernel
theorem dX3_kidsTogether_2 : decode cX3_kidsTogether 2 = .ok (.getfield 144, 3) := by decide +kernel
theorem dX3_kidsTogether_5 : decode cX3_kidsTogether 5 = .ok (.iconst 1, 1) := by decide +kernel
theorem dX3_kidsTogether_6 : decode cX3_kidsTogether 6 = .ok (.isub, 1) := by decide +kernel
theorem dX3_kidsTogether_7 : decode cX3_kidsTogether 7 = .ok (.invokestatic 155, 3) := by decide +kernel
theorem dX3_kidsTogether_10 : decode cX3_kidsTogether 10 = .ok (.aload_n 1, 1) := by decide +kernel
theorem dX3_kidsTogether_11 : decode cX3_kidsTogether 11 = .ok (.getfield 111, 3) := by decide +kernel
theorem dX3_kidsTogether_14 : decode cX3_kidsTogether 14 = .ok (.iconst 1, 1) := by decide +kernel
theorem dX3_kidsTogether_15 : decode cX3_kidsTogether 15 = .ok (.iaload, 1) := by decide +kernel
theorem dX3_kidsTogether_16 : decode cX3_kidsTogether 16 = .ok (.imul, 1) := by decide +kernel
theorem dX3_kidsTogether_17 : decode cX3_kidsTogether 17 = .ok (.istore 4, 2) := by decide +kernel
theorem dX3_kidsTogether_19 : decode cX3_kidsTogether 19 = .ok (.iconst 0, 1) := by decide +kernel
theorem dX3_kidsTogether_20 : decode cX3_kidsTogether 20 = .ok (.istore 5, 2) := by decide +kernel
theorem dX3_kidsTogether_22 : decode cX3_kidsTogether 22 = .ok (.iload 5, 2) := by decide +kernel
theorem dX3_kidsTogether_24 : decode cX3_kidsTogether 24 = .ok (.aload_n 1, 1) := by decide +kernel
theorem dX3_kidsTogether_25 : decode cX3_kidsTogether 25 = .ok (.getfield 144, 3) := by decide +kernel
theorem dX3_kidsTogether_28 : decode cX3_kidsTogether 28 = .ok (.if_icmp .ge 52, 3) := by decide +kernel
theorem dX3_kidsTogether_31 : decode cX3_kidsTogether 31 = .ok (.aload_n 0, 1) := by decide +kernel
theorem dX3_kidsTogether_32 : decode cX3_kidsTogether 32 = .ok (.getfield 9, 3) := by decide +kernel
theorem dX3_kidsTogether_35 : decode cX3_kidsTogether 35 = .ok (.aload_n 1, 1) := by decide +kernel
theorem dX3_kidsTogether_36 : decode cX3_kidsTogether 36 = .ok (.iload 5, 2) := by decide +kernel
theorem dX3_kidsTogether_38 : decode cX3_kidsTogether 38 = .ok (.invokevirtual 147, 3) := by decide +kernel
theorem dX3_kidsTogether_41 : decode cX3_kidsTogether 41 = .ok (.astore 6, 2) := by decide +kernel
theorem dX3_kidsTogether_43 : decode cX3_kidsTogether 43 = .ok (.iload 4, 2) := by decide +kernel
theorem dX3_kidsTogether_45 : decode cX3_kidsTogether 45 = .ok (.aload_n 0, 1) := by decide +kernel
theorem dX3_kidsTogether_46 : decode cX3_kidsTogether 46 = .ok (.aload 6, 2) := by decide +kernel
theorem dX3_kidsTogether_48 : decode cX3_kidsTogether 48 = .ok (.iload_n 2, 1) := by decide +kernel
theorem dX3_kidsTogether_49 : decode cX3_kidsTogether 49 = .ok (.iload_n 3, 1) := by decide +kernel
theorem dX3_kidsTogether_50 : decode cX3_kidsTogether 50 = .ok (.iconst 1, 1) := by decide +kernel
theorem dX3_kidsTogether_51 : decode cX3_kidsTogether 51 = .ok (.iadd, 1) := by decide +kernel
theorem dX3_kidsTogether_52 : decode cX3_kidsTogether 52 = .ok (.invokevirtual 191, 3) := by decide +kernel
theorem dX3_kidsTogether_55 : decode cX3_kidsTogether 55 = .ok (.aload 6, 2) := by decide +kernel
theorem dX3_kidsTogether_57 : decode cX3_kidsTogether 57 = .ok (.getfield 237, 3) := by decide +kernel
theorem dX3_kidsTogether_60 : decode cX3_kidsTogether 60 = .ok (.aload 6, 2) := by decide +kernel
theorem dX3_kidsTogether_62 : decode cX3_kidsTogether 62 = .ok (.getfield 240, 3) := by decide +kernel
theorem dX3_kidsTogether_65 : decode cX3_kidsTogether 65 = .ok (.invokestatic 183, 3) := by decide +kernel
theorem dX3_kidsTogether_68 : decode cX3_kidsTogether 68 = .ok (.invokestatic 179, 3) := by decide +kernel
theorem dX3_kidsTogether_71 : decode cX3_kidsTogether 71 = .ok (.iadd, 1) := by decide +kernel
theorem dX3_kidsTogether_72 : decode cX3_kidsTogether 72 = .ok (.istore 4, 2) := by decide +kernel
theorem dX3_kidsTogether_74 : decode cX3_kidsTogether 74 = .ok (.iinc 5 1, 3) := by decide +kernel
theorem dX3_kidsTogether_77 : decode cX3_kidsTogether 77 = .ok (.goto (-55), 3) := by decide +kernel
theorem dX3_kidsTogether_80 : decode cX3_kidsTogether 80 = .ok (.iload 4, 2) := by decide +kernel
theorem dX3_kidsTogether_82 : decode cX3_kidsTogether 82 = .ok (.ireturn, 1) := by decide +kernel
