theorem dX3_init_0 : decode cX3_init 0 = .ok (.aload_n 0, 1) := by decide +kernel
theorem dX3_init_1 : decode cX3_init 1 = .ok (.invokespecial 3, 3) := by decide +kernel
theorem dX3_init_4 : decode cX3_init 4 = .ok (.aload_n 0, 1) := by decide +kernel
theorem dX3_init_5 : decode cX3_init 5 = .ok (.bipush 20, 2) := by decide +kernel
theorem dX3_init_7 : decode cX3_init 7 = .ok (.newarray .int, 2) := by decide +kernel
theorem dX3_init_9 : decode cX3_init 9 = .ok (.putfield 9, 3) := by decide +kernel
theorem dX3_init_12 : decode cX3_init 12 = .ok (.aload_n 0, 1) := by decide +kernel
theorem dX3_init_13 : decode cX3_init 13 = .ok (.bipush 20, 2) := by decide +kernel
theorem dX3_init_15 : decode cX3_init 15 = .ok (.newarray .int, 2) := by decide +kernel
theorem dX3_init_17 : decode cX3_init 17 = .ok (.putfield 15, 3) := by decide +kernel
theorem dX3_init_20 : decode cX3_init 20 = .ok (.aload_n 0, 1) := by decide +kernel
theorem dX3_init_21 : decode cX3_init 21 = .ok (.bipush 20, 2) := by decide +kernel
theorem dX3_init_23 : decode cX3_init 23 = .ok (.newarray .int, 2) := by decide +kernel
theorem dX3_init_25 : decode cX3_init 25 = .ok (.putfield 18, 3) := by decide +kernel
theorem dX3_init_28 : decode cX3_init 28 = .ok (.aload_n 0, 1) := by decide +kernel
theorem dX3_init_29 : decode cX3_init 29 = .ok (.bipush 20, 2) := by decide +kernel
theorem dX3_init_31 : decode cX3_init 31 = .ok (.newarray .int, 2) := by decide +kernel
theorem dX3_init_33 : decode cX3_init 33 = .ok (.putfield 21, 3) := by decide +kernel
theorem dX3_init_36 : decode cX3_init 36 = .ok (.aload_n 0, 1) := by decide +kernel
theorem dX3_init_37 : decode cX3_init 37 = .ok (.iconst 0, 1) := by decide +kernel
theorem dX3_init_38 : decode cX3_init 38 = .ok (.putfield 24, 3) := by decide +kernel
theorem dX3_init_41 : decode cX3_init 41 = .ok (.return_, 1) := by decide +kernel
theorem dX3_copyFrom_0 : decode cX3_copyFrom 0 = .ok (.aload_n 1, 1) := by decide +kernel
theorem dX3_copyFrom_1 : decode cX3_copyFrom 1 = .ok (.getfield 9, 3) := by decide +kernel
theorem dX3_copyFrom_4 : decode cX3_copyFrom 4 = .ok (.iconst 0, 1) := by decide +kernel
theorem dX3_copyFrom_5 : decode cX3_copyFrom 5 = .ok (.aload_n 0, 1) := by decide +kernel
theorem dX3_copyFrom_6 : decode cX3_copyFrom 6 = .ok (.getfield 9, 3) := by decide +kernel
theorem dX3_copyFrom_9 : decode cX3_copyFrom 9 = .ok (.iconst 0, 1) := by decide +kernel
theorem dX3_copyFrom_10 : decode cX3_copyFrom 10 = .ok (.aload_n 0, 1) := by decide +kernel
theorem dX3_copyFrom_11 : decode cX3_copyFrom 11 = .ok (.getfield 9, 3) := by decide +kernel
theorem dX3_copyFrom_14 : decode cX3_copyFrom 14 = .ok (.arraylength, 1) := by decide +kernel
theorem dX3_copyFrom_15 : decode cX3_copyFrom 15 = .ok (.invokestatic 28, 3) := by decide +kernel
theorem dX3_copyFrom_18 : decode cX3_copyFrom 18 = .ok (.aload_n 1, 1) := by decide +kernel
theorem dX3_copyFrom_19 : decode cX3_copyFrom 19 = .ok (.getfield 15, 3) := by decide +kernel
theorem dX3_copyFrom_22 : decode cX3_copyFrom 22 = .ok (.iconst 0, 1) := by decide +kernel
theorem dX3_copyFrom_23 : decode cX3_copyFrom 23 = .ok (.aload_n 0, 1) := by decide +kernel
theorem dX3_copyFrom_24 : decode cX3_copyFrom 24 = .ok (.getfield 15, 3) := by decide +kernel
theorem dX3_copyFrom_27 : decode cX3_copyFrom 27 = .ok (.iconst 0, 1) := by decide +kernel
theorem dX3_copyFrom_28 : decode cX3_copyFrom 28 = .ok (.aload_n 0, 1) := by decide +kernel
theorem dX3_copyFrom_29 : decode cX3_copyFrom 29 = .ok (.getfield 15, 3) := by decide +kernel
theorem dX3_copyFrom_32 : decode cX3_copyFrom 32 = .ok (.arraylength, 1) := by decide +kernel
theorem dX3_copyFrom_33 : decode cX3_copyFrom 33 = .ok (.invokestatic 28, 3) := by decide +kernel
theorem dX3_copyFrom_36 : decode cX3_copyFrom 36 = .ok (.aload_n 1, 1) := by decide +kernel
theorem dX3_copyFrom_37 : decode cX3_copyFrom 37 = .ok (.getfield 18, 3) := by decide +kernel
theorem dX3_copyFrom_40 : decode cX3_copyFrom 40 = .ok (.iconst 0, 1) := by decide +kernel
theorem dX3_copyFrom_41 : decode cX3_copyFrom 41 = .ok (.aload_n 0, 1) := by decide +kernel
theorem dX3_copyFrom_42 : decode cX3_copyFrom 42 = .ok (.getfield 18, 3) := by decide +kernel
theorem dX3_copyFrom_45 : decode cX3_copyFrom 45 = .ok (.iconst 0, 1) := by decide +kernel
theorem dX3_copyFrom_46 : decode cX3_copyFrom 46 = .ok (.aload_n 0, 1) := by decide +kernel
theorem dX3_copyFrom_47 : decode cX3_copyFrom 47 = .ok (.getfield 18, 3) := by decide +kernel
theorem dX3_copyFrom_50 : decode cX3_copyFrom 50 = .ok (.arraylength, 1) := by decide +kernel
theorem dX3_copyFrom_51 : decode cX3_copyFrom 51 = .ok (.invokestatic 28, 3) := by decide +kernel
theorem dX3_copyFrom_54 : decode cX3_copyFrom 54 = .ok (.aload_n 1, 1) := by decide +kernel
theorem dX3_copyFrom_55 : decode cX3_copyFrom 55 = .ok (.getfield 21, 3) := by decide +kernel
theorem dX3_copyFrom_58 : decode cX3_copyFrom 58 = .ok (.iconst 0, 1) := by decide +kernel
theorem dX3_copyFrom_59 : decode cX3_copyFrom 59 = .ok (.aload_n 0, 1) := by decide +kernel
theorem dX3_copyFrom_60 : decode cX3_copyFrom 60 = .ok (.getfield 21, 3) := by decide +kernel
theorem dX3_copyFrom_63 : decode cX3_copyFrom 63 = .ok (.iconst 0, 1) := by decide +kernel
theorem dX3_copyFrom_64 : decode cX3_copyFrom 64 = .ok (.aload_n 0, 1) := by decide +kernel
theorem dX3_copyFrom_65 : decode cX3_copyFrom 65 = .ok (.getfield 21, 3) := by decide +kernel
theorem dX3_copyFrom_68 : decode cX3_copyFrom 68 = .ok (.arraylength, 1) := by decide +kernel
theorem dX3_copyFrom_69 : decode cX3_copyFrom 69 = .ok (.invokestatic 28, 3) := by decide +kernel
theorem dX3_copyFrom_72 : decode cX3_copyFrom 72 = .ok (.aload_n 0, 1) := by decide +kernel
theorem dX3_copyFrom_73 : decode cX3_copyFrom 73 = .ok (.aload_n 1, 1) := by decide +kernel
theorem dX3_copyFrom_74 : decode cX3_copyFrom 74 = .ok (.getfield 24, 3) := by decide +kernel
theorem dX3_copyFrom_77 : decode cX3_copyFrom 77 = .ok (.putfield 24, 3) := by decide +kernel
theorem dX3_copyFrom_80 : decode cX3_copyFrom 80 = .ok (.return_, 1) := by decide +kernel
theorem dX3_add_0 : decode cX3_add 0 = .ok (.aload_n 0, 1) := by decide +kernel
theorem dX3_add_1 : decode cX3_add 1 = .ok (.getfield 24, 3) := by decide +kernel
theorem dX3_add_4 : decode cX3_add 4 = .ok (.istore 5, 2) := by decide +kernel
theorem dX3_add_6 : decode cX3_add 6 = .ok (.aload_n 0, 1) := by decide +kernel
theorem dX3_add_7 : decode cX3_add 7 = .ok (.getfield 9, 3) := by decide +kernel
theorem dX3_add_10 : decode cX3_add 10 = .ok (.iload 5, 2) := by decide +kernel
theorem dX3_add_12 : decode cX3_add 12 = .ok (.iload_n 2, 1) := by decide +kernel
theorem dX3_add_13 : decode cX3_add 13 = .ok (.iastore, 1) := by decide +kernel
theorem dX3_add_14 : decode cX3_add 14 = .ok (.aload_n 0, 1) := by decide +kernel
theorem dX3_add_15 : decode cX3_add 15 = .ok (.getfield 15, 3) := by decide +kernel
theorem dX3_add_18 : decode cX3_add 18 = .ok (.iload 5, 2) := by decide +kernel
theorem dX3_add_20 : decode cX3_add 20 = .ok (.iload_n 3, 1) := by decide +kernel
theorem dX3_add_21 : decode cX3_add 21 = .ok (.iastore, 1) := by decide +kernel
theorem dX3_add_22 : decode cX3_add 22 = .ok (.aload_n 0, 1) := by decide +kernel
theorem dX3_add_23 : decode cX3_add 23 = .ok (.getfield 18, 3) := by decide +kernel
theorem dX3_add_26 : decode cX3_add 26 = .ok (.iload 5, 2) := by decide +kernel
theorem dX3_add_28 : decode cX3_add 28 = .ok (.iload 4, 2) := by decide +kernel
theorem dX3_add_30 : decode cX3_add 30 = .ok (.iastore, 1) := by decide +kernel
theorem dX3_add_31 : decode cX3_add 31 = .ok (.aload_n 0, 1) := by decide +kernel
theorem dX3_add_32 : decode cX3_add 32 = .ok (.getfield 21, 3) := by decide +kernel
theorem dX3_add_35 : decode cX3_add 35 = .ok (.iload 5, 2) := by decide +kernel
theorem dX3_add_37 : decode cX3_add 37 = .ok (.iload_n 1, 1) := by decide +kernel
theorem dX3_add_38 : decode cX3_add 38 = .ok (.ifCond .eq 7, 3) := by decide +kernel
theorem dX3_add_41 : decode cX3_add 41 = .ok (.iconst 1, 1) := by decide +kernel
theorem dX3_add_42 : decode cX3_add 42 = .ok (.goto 4, 3) := by decide +kernel
theorem dX3_add_45 : decode cX3_add 45 = .ok (.iconst 0, 1) := by decide +kernel
theorem dX3_add_46 : decode cX3_add 46 = .ok (.iastore, 1) := by decide +kernel
theorem dX3_add_47 : decode cX3_add 47 = .ok (.aload_n 0, 1) := by decide +kernel
theorem dX3_add_48 : decode cX3_add 48 = .ok (.dup, 1) := by decide +kernel
theorem dX3_add_49 : decode cX3_add 49 = .ok (.getfield 24, 3) := by decide +kernel
theorem dX3_add_52 : decode cX3_add 52 = .ok (.iconst 1, 1) := by decide +kernel
theorem dX3_add_53 : decode cX3_add 53 = .ok (.iadd, 1) := by decide +kernel
theorem dX3_add_54 : decode cX3_add 54 = .ok (.putfield 24, 3) := by decide +kernel
theorem dX3_add_57 : decode cX3_add 57 = .ok (.iload 5, 2) := by decide +kernel
theorem dX3_add_59 : decode cX3_add 59 = .ok (.ireturn, 1) := by decide +kernel
theorem dX3_distance_0 : decode cX3_distance 0 = .ok (.aload_n 0, 1) := by decide +kernel
theorem dX3_distance_1 : decode cX3_distance 1 = .ok (.getfield 15, 3) := by decide +kernel
theorem dX3_distance_4 : decode cX3_distance 4 = .ok (.iload_n 1, 1) := by decide +kernel
theorem dX3_distance_5 : decode cX3_distance 5 = .ok (.iaload, 1) := by decide +kernel
theorem dX3_distance_6 : decode cX3_distance 6 = .ok (.aload_n 0, 1) := by decide +kernel
theorem dX3_distance_7 : decode cX3_distance 7 = .ok (.getfield 15, 3) := by decide +kernel
theorem dX3_distance_10 : decode cX3_distance 10 = .ok (.iload_n 2, 1) := by decide +kernel
theorem dX3_distance_11 : decode cX3_distance 11 = .ok (.iaload, 1) := by decide +kernel
theorem dX3_distance_12 : decode cX3_distance 12 = .ok (.isub, 1) := by decide +kernel
theorem dX3_distance_13 : decode cX3_distance 13 = .ok (.istore_n 3, 1) := by decide +kernel
theorem dX3_distance_14 : decode cX3_distance 14 = .ok (.aload_n 0, 1) := by decide +kernel
theorem dX3_distance_15 : decode cX3_distance 15 = .ok (.getfield 18, 3) := by decide +kernel
theorem dX3_distance_18 : decode cX3_distance 18 = .ok (.iload_n 1, 1) := by decide +kernel
theorem dX3_distance_19 : decode cX3_distance 19 = .ok (.iaload, 1) := by decide +kernel
theorem dX3_distance_20 : decode cX3_distance 20 = .ok (.aload_n 0, 1) := by decide +kernel
theorem dX3_distance_21 : decode cX3_distance 21 = .ok (.getfield 18, 3) := by decide +kernel
theorem dX3_distance_24 : decode cX3_distance 24 = .ok (.iload_n 2, 1) := by decide +kernel
theorem dX3_distance_25 : decode cX3_distance 25 = .ok (.iaload, 1) := by decide +kernel
theorem dX3_distance_26 : decode cX3_distance 26 = .ok (.isub, 1) := by decide +kernel
theorem dX3_distance_27 : decode cX3_distance 27 = .ok (.istore 4, 2) := by decide +kernel
theorem dX3_distance_29 : decode cX3_distance 29 = .ok (.iload_n 3, 1) := by decide +kernel
theorem dX3_distance_30 : decode cX3_distance 30 = .ok (.iload_n 3, 1) := by decide +kernel
theorem dX3_distance_31 : decode cX3_distance 31 = .ok (.imul, 1) := by decide +kernel
theorem dX3_distance_32 : decode cX3_distance 32 = .ok (.iload 4, 2) := by decide +kernel
theorem dX3_distance_34 : decode cX3_distance 34 = .ok (.iload 4, 2) := by decide +kernel
theorem dX3_distance_36 : decode cX3_distance 36 = .ok (.imul, 1) := by decide +kernel
theorem dX3_distance_37 : decode cX3_distance 37 = .ok (.iadd, 1) := by decide +kernel
theorem dX3_distance_38 : decode cX3_distance 38 = .ok (.ireturn, 1) := by decide +kernel
theorem dX3_greatestOfOneMinute_0 : decode cX3_greatestOfOneMinute 0 = .ok (.iconst (-1), 1) := by decide +kernel
theorem dX3_greatestOfOneMinute_1 : decode cX3_greatestOfOneMinute 1 = .ok (.istore_n 1, 1) := by decide +kernel
theorem dX3_greatestOfOneMinute_2 : decode cX3_greatestOfOneMinute 2 = .ok (.iconst 0, 1) := by decide +kernel
theorem dX3_greatestOfOneMinute_3 : decode cX3_greatestOfOneMinute 3 = .ok (.istore_n 2, 1) := by decide +kernel
theorem dX3_greatestOfOneMinute_4 : decode cX3_greatestOfOneMinute 4 = .ok (.iload_n 2, 1) := by decide +kernel
theorem dX3_greatestOfOneMinute_5 : decode cX3_greatestOfOneMinute 5 = .ok (.aload_n 0, 1) := by decide +kernel
theorem dX3_greatestOfOneMinute_6 : decode cX3_greatestOfOneMinute 6 = .ok (.getfield 24, 3) := by decide +kernel
theorem dX3_greatestOfOneMinute_9 : decode cX3_greatestOfOneMinute 9 = .ok (.if_icmp .ge 68, 3) := by decide +kernel
theorem dX3_greatestOfOneMinute_12 : decode cX3_greatestOfOneMinute 12 = .ok (.iload_n 2, 1) := by decide +kernel
theorem dX3_greatestOfOneMinute_13 : decode cX3_greatestOfOneMinute 13 = .ok (.iconst 1, 1) := by decide +kernel
theorem dX3_greatestOfOneMinute_14 : decode cX3_greatestOfOneMinute 14 = .ok (.iadd, 1) := by decide +kernel
theorem dX3_greatestOfOneMinute_15 : decode cX3_greatestOfOneMinute 15 = .ok (.istore_n 3, 1) := by decide +kernel
theorem dX3_greatestOfOneMinute_16 : decode cX3_greatestOfOneMinute 16 = .ok (.iload_n 3, 1) := by decide +kernel
theorem dX3_greatestOfOneMinute_17 : decode cX3_greatestOfOneMinute 17 = .ok (.aload_n 0, 1) := by decide +kernel
theorem dX3_greatestOfOneMinute_18 : decode cX3_greatestOfOneMinute 18 = .ok (.getfield 24, 3) := by decide +kernel
theorem dX3_greatestOfOneMinute_21 : decode cX3_greatestOfOneMinute 21 = .ok (.if_icmp .ge 50, 3) := by decide +kernel
theorem dX3_greatestOfOneMinute_24 : decode cX3_greatestOfOneMinute 24 = .ok (.aload_n 0, 1) := by decide +kernel
theorem dX3_greatestOfOneMinute_25 : decode cX3_greatestOfOneMinute 25 = .ok (.getfield 21, 3) := by decide +kernel
theorem dX3_greatestOfOneMinute_28 : decode cX3_greatestOfOneMinute 28 = .ok (.iload_n 2, 1) := by decide +kernel
theorem dX3_greatestOfOneMinute_29 : decode cX3_greatestOfOneMinute 29 = .ok (.iaload, 1) := by decide +kernel
theorem dX3_greatestOfOneMinute_30 : decode cX3_greatestOfOneMinute 30 = .ok (.aload_n 0, 1) := by decide +kernel
theorem dX3_greatestOfOneMinute_31 : decode cX3_greatestOfOneMinute 31 = .ok (.getfield 21, 3) := by decide +kernel
theorem dX3_greatestOfOneMinute_34 : decode cX3_greatestOfOneMinute 34 = .ok (.iload_n 3, 1) := by decide +kernel
theorem dX3_greatestOfOneMinute_35 : decode cX3_greatestOfOneMinute 35 = .ok (.iaload, 1) := by decide +kernel
theorem dX3_greatestOfOneMinute_36 : decode cX3_greatestOfOneMinute 36 = .ok (.if_icmp .eq 29, 3) := by decide +kernel
theorem dX3_greatestOfOneMinute_39 : decode cX3_greatestOfOneMinute 39 = .ok (.aload_n 0, 1) := by decide +kernel
theorem dX3_greatestOfOneMinute_40 : decode cX3_greatestOfOneMinute 40 = .ok (.getfield 9, 3) := by decide +kernel
theorem dX3_greatestOfOneMinute_43 : decode cX3_greatestOfOneMinute 43 = .ok (.iload_n 2, 1) := by decide +kernel
theorem dX3_greatestOfOneMinute_44 : decode cX3_greatestOfOneMinute 44 = .ok (.iaload, 1) := by decide +kernel
theorem dX3_greatestOfOneMinute_45 : decode cX3_greatestOfOneMinute 45 = .ok (.aload_n 0, 1) := by decide +kernel
theorem dX3_greatestOfOneMinute_46 : decode cX3_greatestOfOneMinute 46 = .ok (.getfield 9, 3) := by decide +kernel
theorem dX3_greatestOfOneMinute_49 : decode cX3_greatestOfOneMinute 49 = .ok (.iload_n 3, 1) := by decide +kernel
theorem dX3_greatestOfOneMinute_50 : decode cX3_greatestOfOneMinute 50 = .ok (.iaload, 1) := by decide +kernel
theorem dX3_greatestOfOneMinute_51 : decode cX3_greatestOfOneMinute 51 = .ok (.if_icmp .ne 14, 3) := by decide +kernel
theorem dX3_greatestOfOneMinute_54 : decode cX3_greatestOfOneMinute 54 = .ok (.iload_n 1, 1) := by decide +kernel
theorem dX3_greatestOfOneMinute_55 : decode cX3_greatestOfOneMinute 55 = .ok (.aload_n 0, 1) := by decide +kernel
theorem dX3_greatestOfOneMinute_56 : decode cX3_greatestOfOneMinute 56 = .ok (.iload_n 2, 1) := by decide +kernel
theorem dX3_greatestOfOneMinute_57 : decode cX3_greatestOfOneMinute 57 = .ok (.iload_n 3, 1) := by decide +kernel
theorem dX3_greatestOfOneMinute_58 : decode cX3_greatestOfOneMinute 58 = .ok (.invokevirtual 34, 3) := by decide +kernel
theorem dX3_greatestOfOneMinute_61 : decode cX3_greatestOfOneMinute 61 = .ok (.invokestatic 38, 3) := by decide +kernel
theorem dX3_greatestOfOneMinute_64 : decode cX3_greatestOfOneMinute 64 = .ok (.istore_n 1, 1) := by decide +kernel
theorem dX3_greatestOfOneMinute_65 : decode cX3_greatestOfOneMinute 65 = .ok (.iinc 3 1, 3) := by decide +kernel
theorem dX3_greatestOfOneMinute_68 : decode cX3_greatestOfOneMinute 68 = .ok (.goto (-52), 3) := by decide +kernel
theorem dX3_greatestOfOneMinute_71 : decode cX3_greatestOfOneMinute 71 = .ok (.iinc 2 1, 3) := by decide +kernel
theorem dX3_greatestOfOneMinute_74 : decode cX3_greatestOfOneMinute 74 = .ok (.goto (-70), 3) := by decide +kernel
theorem dX3_greatestOfOneMinute_77 : decode cX3_greatestOfOneMinute 77 = .ok (.iload_n 1, 1) := by decide +kernel
theorem dX3_greatestOfOneMinute_78 : decode cX3_greatestOfOneMinute 78 = .ok (.ireturn, 1) := by decide +kernel
theorem dX3_isFit_0 : decode cX3_isFit 0 = .ok (.iload 4, 2) := by decide +kernel
theorem dX3_isFit_2 : decode cX3_isFit 2 = .ok (.aload_n 0, 1) := by decide +kernel
theorem dX3_isFit_3 : decode cX3_isFit 3 = .ok (.getfield 9, 3) := by decide +kernel
theorem dX3_isFit_6 : decode cX3_isFit 6 = .ok (.iload_n 1, 1) := by decide +kernel
theorem dX3_isFit_7 : decode cX3_isFit 7 = .ok (.iaload, 1) := by decide +kernel
theorem dX3_isFit_8 : decode cX3_isFit 8 = .ok (.aload_n 0, 1) := by decide +kernel
theorem dX3_isFit_9 : decode cX3_isFit 9 = .ok (.getfield 9, 3) := by decide +kernel
theorem dX3_isFit_12 : decode cX3_isFit 12 = .ok (.iload_n 2, 1) := by decide +kernel
theorem dX3_isFit_13 : decode cX3_isFit 13 = .ok (.iaload, 1) := by decide +kernel
theorem dX3_isFit_14 : decode cX3_isFit 14 = .ok (.isub, 1) := by decide +kernel
theorem dX3_isFit_15 : decode cX3_isFit 15 = .ok (.invokestatic 43, 3) := by decide +kernel
theorem dX3_isFit_18 : decode cX3_isFit 18 = .ok (.imul, 1) := by decide +kernel
theorem dX3_isFit_19 : decode cX3_isFit 19 = .ok (.i2l, 1) := by decide +kernel
theorem dX3_isFit_20 : decode cX3_isFit 20 = .ok (.lstore 5, 2) := by decide +kernel
theorem dX3_isFit_22 : decode cX3_isFit 22 = .ok (.aload_n 0, 1) := by decide +kernel
theorem dX3_isFit_23 : decode cX3_isFit 23 = .ok (.getfield 21, 3) := by decide +kernel
theorem dX3_isFit_26 : decode cX3_isFit 26 = .ok (.iload_n 1, 1) := by decide +kernel
theorem dX3_isFit_27 : decode cX3_isFit 27 = .ok (.iaload, 1) := by decide +kernel
theorem dX3_isFit_28 : decode cX3_isFit 28 = .ok (.aload_n 0, 1) := by decide +kernel
theorem dX3_isFit_29 : decode cX3_isFit 29 = .ok (.getfield 21, 3) := by decide +kernel
theorem dX3_isFit_32 : decode cX3_isFit 32 = .ok (.iload_n 2, 1) := by decide +kernel
theorem dX3_isFit_33 : decode cX3_isFit 33 = .ok (.iaload, 1) := by decide +kernel
theorem dX3_isFit_34 : decode cX3_isFit 34 = .ok (.if_icmp .eq 10, 3) := by decide +kernel
theorem dX3_isFit_37 : decode cX3_isFit 37 = .ok (.lload 5, 2) := by decide +kernel
theorem dX3_isFit_39 : decode cX3_isFit 39 = .ok (.iload_n 3, 1) := by decide +kernel
theorem dX3_isFit_40 : decode cX3_isFit 40 = .ok (.i2l, 1) := by decide +kernel
theorem dX3_isFit_41 : decode cX3_isFit 41 = .ok (.ladd, 1) := by decide +kernel
theorem dX3_isFit_42 : decode cX3_isFit 42 = .ok (.lstore 5, 2) := by decide +kernel
theorem dX3_isFit_44 : decode cX3_isFit 44 = .ok (.aload_n 0, 1) := by decide +kernel
theorem dX3_isFit_45 : decode cX3_isFit 45 = .ok (.iload_n 1, 1) := by decide +kernel
theorem dX3_isFit_46 : decode cX3_isFit 46 = .ok (.iload_n 2, 1) := by decide +kernel
theorem dX3_isFit_47 : decode cX3_isFit 47 = .ok (.invokevirtual 34, 3) := by decide +kernel
theorem dX3_isFit_50 : decode cX3_isFit 50 = .ok (.i2l, 1) := by decide +kernel
theorem dX3_isFit_51 : decode cX3_isFit 51 = .ok (.lload 5, 2) := by decide +kernel
theorem dX3_isFit_53 : decode cX3_isFit 53 = .ok (.lload 5, 2) := by decide +kernel
theorem dX3_isFit_55 : decode cX3_isFit 55 = .ok (.lmul, 1) := by decide +kernel
theorem dX3_isFit_56 : decode cX3_isFit 56 = .ok (.lcmp, 1) := by decide +kernel
theorem dX3_isFit_57 : decode cX3_isFit 57 = .ok (.ifCond .gt 7, 3) := by decide +kernel
theorem dX3_isFit_60 : decode cX3_isFit 60 = .ok (.iconst 1, 1) := by decide +kernel
theorem dX3_isFit_61 : decode cX3_isFit 61 = .ok (.goto 4, 3) := by decide +kernel
theorem dX3_isFit_64 : decode cX3_isFit 64 = .ok (.iconst 0, 1) := by decide +kernel
theorem dX3_isFit_65 : decode cX3_isFit 65 = .ok (.ireturn, 1) := by decide +kernel
theorem dX3_countMisfits_0 : decode cX3_countMisfits 0 = .ok (.iconst 0, 1) := by decide +kernel
theorem dX3_countMisfits_1 : decode cX3_countMisfits 1 = .ok (.istore_n 3, 1) := by decide +kernel
theorem dX3_countMisfits_2 : decode cX3_countMisfits 2 = .ok (.iconst 0, 1) := by decide +kernel
theorem dX3_countMisfits_3 : decode cX3_countMisfits 3 = .ok (.istore 4, 2) := by decide +kernel
theorem dX3_countMisfits_5 : decode cX3_countMisfits 5 = .ok (.iload 4, 2) := by decide +kernel
theorem dX3_countMisfits_7 : decode cX3_countMisfits 7 = .ok (.aload_n 0, 1) := by decide +kernel
theorem dX3_countMisfits_8 : decode cX3_countMisfits 8 = .ok (.getfield 24, 3) := by decide +kernel
theorem dX3_countMisfits_11 : decode cX3_countMisfits 11 = .ok (.if_icmp .ge 46, 3) := by decide +kernel
theorem dX3_countMisfits_14 : decode cX3_countMisfits 14 = .ok (.iload 4, 2) := by decide +kernel
theorem dX3_countMisfits_16 : decode cX3_countMisfits 16 = .ok (.iconst 1, 1) := by decide +kernel
theorem dX3_countMisfits_17 : decode cX3_countMisfits 17 = .ok (.iadd, 1) := by decide +kernel
theorem dX3_countMisfits_18 : decode cX3_countMisfits 18 = .ok (.istore 5, 2) := by decide +kernel
theorem dX3_countMisfits_20 : decode cX3_countMisfits 20 = .ok (.iload 5, 2) := by decide +kernel
theorem dX3_countMisfits_22 : decode cX3_countMisfits 22 = .ok (.aload_n 0, 1) := by decide +kernel
theorem dX3_countMisfits_23 : decode cX3_countMisfits 23 = .ok (.getfield 24, 3) := by decide +kernel
theorem dX3_countMisfits_26 : decode cX3_countMisfits 26 = .ok (.if_icmp .ge 25, 3) := by decide +kernel
theorem dX3_countMisfits_29 : decode cX3_countMisfits 29 = .ok (.aload_n 0, 1) := by decide +kernel
theorem dX3_countMisfits_30 : decode cX3_countMisfits 30 = .ok (.iload 4, 2) := by decide +kernel
theorem dX3_countMisfits_32 : decode cX3_countMisfits 32 = .ok (.iload 5, 2) := by decide +kernel
theorem dX3_countMisfits_34 : decode cX3_countMisfits 34 = .ok (.iload_n 1, 1) := by decide +kernel
theorem dX3_countMisfits_35 : decode cX3_countMisfits 35 = .ok (.iload_n 2, 1) := by decide +kernel
theorem dX3_countMisfits_36 : decode cX3_countMisfits 36 = .ok (.invokevirtual 47, 3) := by decide +kernel
theorem dX3_countMisfits_39 : decode cX3_countMisfits 39 = .ok (.ifCond .ne 6, 3) := by decide +kernel
theorem dX3_countMisfits_42 : decode cX3_countMisfits 42 = .ok (.iinc 3 1, 3) := by decide +kernel
theorem dX3_countMisfits_45 : decode cX3_countMisfits 45 = .ok (.iinc 5 1, 3) := by decide +kernel
theorem dX3_countMisfits_48 : decode cX3_countMisfits 48 = .ok (.goto (-28), 3) := by decide +kernel
theorem dX3_countMisfits_51 : decode cX3_countMisfits 51 = .ok (.iinc 4 1, 3) := by decide +kernel
theorem dX3_countMisfits_54 : decode cX3_countMisfits 54 = .ok (.goto (-49), 3) := by decide +kernel
theorem dX3_countMisfits_57 : decode cX3_countMisfits 57 = .ok (.iload_n 3, 1) := by decide +kernel
theorem dX3_countMisfits_58 : decode cX3_countMisfits 58 = .ok (.ireturn, 1) := by decide +kernel
theorem dX3_firstMisfit_0 : decode cX3_firstMisfit 0 = .ok (.iconst 0, 1) := by decide +kernel
theorem dX3_firstMisfit_1 : decode cX3_firstMisfit 1 = .ok (.istore_n 3, 1) := by decide +kernel
theorem dX3_firstMisfit_2 : decode cX3_firstMisfit 2 = .ok (.iload_n 3, 1) := by decide +kernel
theorem dX3_firstMisfit_3 : decode cX3_firstMisfit 3 = .ok (.aload_n 0, 1) := by decide +kernel
theorem dX3_firstMisfit_4 : decode cX3_firstMisfit 4 = .ok (.getfield 24, 3) := by decide +kernel
theorem dX3_firstMisfit_7 : decode cX3_firstMisfit 7 = .ok (.if_icmp .ge 49, 3) := by decide +kernel
theorem dX3_firstMisfit_10 : decode cX3_firstMisfit 10 = .ok (.iload_n 3, 1) := by decide +kernel
theorem dX3_firstMisfit_11 : decode cX3_firstMisfit 11 = .ok (.iconst 1, 1) := by decide +kernel
theorem dX3_firstMisfit_12 : decode cX3_firstMisfit 12 = .ok (.iadd, 1) := by decide +kernel
theorem dX3_firstMisfit_13 : decode cX3_firstMisfit 13 = .ok (.istore 4, 2) := by decide +kernel
theorem dX3_firstMisfit_15 : decode cX3_firstMisfit 15 = .ok (.iload 4, 2) := by decide +kernel
theorem dX3_firstMisfit_17 : decode cX3_firstMisfit 17 = .ok (.aload_n 0, 1) := by decide +kernel
theorem dX3_firstMisfit_18 : decode cX3_firstMisfit 18 = .ok (.getfield 24, 3) := by decide +kernel
theorem dX3_firstMisfit_21 : decode cX3_firstMisfit 21 = .ok (.if_icmp .ge 29, 3) := by decide +kernel
theorem dX3_firstMisfit_24 : decode cX3_firstMisfit 24 = .ok (.aload_n 0, 1) := by decide +kernel
theorem dX3_firstMisfit_25 : decode cX3_firstMisfit 25 = .ok (.iload_n 3, 1) := by decide +kernel
theorem dX3_firstMisfit_26 : decode cX3_firstMisfit 26 = .ok (.iload 4, 2) := by decide +kernel
theorem dX3_firstMisfit_28 : decode cX3_firstMisfit 28 = .ok (.iload_n 1, 1) := by decide +kernel
theorem dX3_firstMisfit_29 : decode cX3_firstMisfit 29 = .ok (.iload_n 2, 1) := by decide +kernel
theorem dX3_firstMisfit_30 : decode cX3_firstMisfit 30 = .ok (.invokevirtual 47, 3) := by decide +kernel
theorem dX3_firstMisfit_33 : decode cX3_firstMisfit 33 = .ok (.ifCond .ne 11, 3) := by decide +kernel
theorem dX3_firstMisfit_36 : decode cX3_firstMisfit 36 = .ok (.bipush 100, 2) := by decide +kernel
theorem dX3_firstMisfit_38 : decode cX3_firstMisfit 38 = .ok (.iload_n 3, 1) := by decide +kernel
theorem dX3_firstMisfit_39 : decode cX3_firstMisfit 39 = .ok (.imul, 1) := by decide +kernel
theorem dX3_firstMisfit_40 : decode cX3_firstMisfit 40 = .ok (.iload 4, 2) := by decide +kernel
theorem dX3_firstMisfit_42 : decode cX3_firstMisfit 42 = .ok (.iadd, 1) := by decide +kernel
theorem dX3_firstMisfit_43 : decode cX3_firstMisfit 43 = .ok (.ireturn, 1) := by decide +kernel
theorem dX3_firstMisfit_44 : decode cX3_firstMisfit 44 = .ok (.iinc 4 1, 3) := by decide +kernel
theorem dX3_firstMisfit_47 : decode cX3_firstMisfit 47 = .ok (.goto (-32), 3) := by decide +kernel
theorem dX3_firstMisfit_50 : decode cX3_firstMisfit 50 = .ok (.iinc 3 1, 3) := by decide +kernel
theorem dX3_firstMisfit_53 : decode cX3_firstMisfit 53 = .ok (.goto (-51), 3) := by decide +kernel
theorem dX3_firstMisfit_56 : decode cX3_firstMisfit 56 = .ok (.iconst (-1), 1) := by decide +kernel
theorem dX3_firstMisfit_57 : decode cX3_firstMisfit 57 = .ok (.ireturn, 1) := by decide +kernel
set_option maxRecDepth 20000 in
theorem ggX3_greatestOfOneMinute_X3_distance : GoodIn wsX3_greatestOfOneMinute wsX3_distance := goodIn_r _ [12, 13, 14, 15, 16, 17, 18, 19] (by decide +kernel) (by decide +kernel)
set_option maxRecDepth 20000 in
theorem gX3_greatestOfOneMinute_X3_distance : GoodIn wsX3_greatestOfOneMinute (wsV RX3 34 RX3 yX3_distance wsX3_distance) := goodIn_app (goodIn_of _ (by decide +kernel)) ggX3_greatestOfOneMinute_X3_distance
set_option maxRecDepth 20000 in
theorem ggX3_isFit_X3_distance : GoodIn wsX3_isFit wsX3_distance := goodIn_r _ [11, 12, 13, 14, 15, 16, 17, 18] (by decide +kernel) (by decide +kernel)
set_option maxRecDepth 20000 in
theorem gX3_isFit_X3_distance : GoodIn wsX3_isFit (wsV RX3 34 RX3 yX3_distance wsX3_distance) := goodIn_app (goodIn_of _ (by decide +kernel)) ggX3_isFit_X3_distance
set_option maxRecDepth 20000 in
theorem ggX3_countMisfits_X3_isFit : GoodIn wsX3_countMisfits wsX3_isFit := goodIn_r _ [6, 7, 8, 9, 10, 11, 12, 13, 14, 15, 5, 16, 17, 18, 19, 20, 21, 22, 23] (by decide +kernel) (by decide +kernel)
set_option maxRecDepth 20000 in
theorem gX3_countMisfits_X3_isFit : GoodIn wsX3_countMisfits (wsV RX3 47 RX3 yX3_isFit wsX3_isFit) := goodIn_app (goodIn_of _ (by decide +kernel)) ggX3_countMisfits_X3_isFit
set_option maxRecDepth 20000 in
theorem ggX3_firstMisfit_X3_isFit : GoodIn wsX3_firstMisfit wsX3_isFit := goodIn_r _ [6, 7, 8, 9, 10, 11, 12, 13, 14, 15, 5, 16, 17, 18, 19, 20, 21, 22, 23] (by decide +kernel) (by decide +kernel)
set_option maxRecDepth 20000 in
theorem gX3_firstMisfit_X3_isFit : GoodIn wsX3_firstMisfit (wsV RX3 47 RX3 yX3_isFit wsX3_isFit) := goodIn_app (goodIn_of _ (by decide +kernel)) ggX3_firstMisfit_X3_isFit
