def in_X10_init_0 : List (Nat × Instr × Nat) := [(0, (.aload_n 0, 1)), (1, (.invokespecial 3, 3)), (4, (.aload_n 0, 1)), (5, (.new 9, 3)), (8, (.dup, 1)), (9, (.invokespecial 11, 3)), (12, (.putfield 12, 3)), (15, (.aload_n 0, 1)), (16, (.new 16, 3)), (19, (.dup, 1)), (20, (.invokespecial 18, 3)), (23, (.putfield 19, 3)), (26, (.aload_n 0, 1)), (27, (.new 16, 3)), (30, (.dup, 1)), (31, (.invokespecial 18, 3)), (34, (.putfield 23, 3)), (37, (.aload_n 0, 1)), (38, (.new 26, 3)), (41, (.dup, 1)), (42, (.invokespecial 28, 3)), (45, (.putfield 29, 3)), (48, (.aload_n 0, 1)), (49, (.new 33, 3)), (52, (.dup, 1)), (53, (.invokespecial 35, 3)), (56, (.putfield 36, 3)), (59, (.aload_n 0, 1)), (60, (.new 40, 3)), (63, (.dup, 1)), (64, (.invokespecial 42, 3)), (67, (.putfield 43, 3)), (70, (.aload_n 0, 1)), (71, (.new 47, 3)), (74, (.dup, 1)), (75, (.invokespecial 49, 3)), (78, (.putfield 50, 3)), (81, (.aload_n 0, 1)), (82, (.new 54, 3)), (85, (.dup, 1)), (86, (.invokespecial 56, 3)), (89, (.putfield 57, 3)), (92, (.aload_n 0, 1)), (93, (.new 61, 3)), (96, (.dup, 1)), (97, (.invokespecial 63, 3)), (100, (.putfield 64, 3)), (103, (.aload_n 0, 1)), (104, (.iconst 0, 1)), (105, (.putfield 68, 3)), (108, (.aload_n 0, 1)), (109, (.iconst (-1), 1)), (110, (.putfield 72, 3)), (113, (.return_, 1))]
theorem al_X10_init_0 : ∀ q ∈ in_X10_init_0, decode cX10_init q.1 = .ok q.2 := by decide +kernel
theorem dX10_init_0 : decode cX10_init 0 = .ok (.aload_n 0, 1) := al_X10_init_0 (0, (.aload_n 0, 1)) (List.mem_of_getElem? (i := 0) rfl)
theorem dX10_init_1 : decode cX10_init 1 = .ok (.invokespecial 3, 3) := al_X10_init_0 (1, (.invokespecial 3, 3)) (List.mem_of_getElem? (i := 1) rfl)
theorem dX10_init_4 : decode cX10_init 4 = .ok (.aload_n 0, 1) := al_X10_init_0 (4, (.aload_n 0, 1)) (List.mem_of_getElem? (i := 2) rfl)
theorem dX10_init_5 : decode cX10_init 5 = .ok (.new 9, 3) := al_X10_init_0 (5, (.new 9, 3)) (List.mem_of_getElem? (i := 3) rfl)
theorem dX10_init_8 : decode cX10_init 8 = .ok (.dup, 1) := al_X10_init_0 (8, (.dup, 1)) (List.mem_of_getElem? (i := 4) rfl)
theorem dX10_init_9 : decode cX10_init 9 = .ok (.invokespecial 11, 3) := al_X10_init_0 (9, (.invokespecial 11, 3)) (List.mem_of_getElem? (i := 5) rfl)
theorem dX10_init_12 : decode cX10_init 12 = .ok (.putfield 12, 3) := al_X10_init_0 (12, (.putfield 12, 3)) (List.mem_of_getElem? (i := 6) rfl)
theorem dX10_init_15 : decode cX10_init 15 = .ok (.aload_n 0, 1) := al_X10_init_0 (15, (.aload_n 0, 1)) (List.mem_of_getElem? (i := 7) rfl)
theorem dX10_init_16 : decode cX10_init 16 = .ok (.new 16, 3) := al_X10_init_0 (16, (.new 16, 3)) (List.mem_of_getElem? (i := 8) rfl)
theorem dX10_init_19 : decode cX10_init 19 = .ok (.dup, 1) := al_X10_init_0 (19, (.dup, 1)) (List.mem_of_getElem? (i := 9) rfl)
theorem dX10_init_20 : decode cX10_init 20 = .ok (.invokespecial 18, 3) := al_X10_init_0 (20, (.invokespecial 18, 3)) (List.mem_of_getElem? (i := 10) rfl)
theorem dX10_init_23 : decode cX10_init 23 = .ok (.putfield 19, 3) := al_X10_init_0 (23, (.putfield 19, 3)) (List.mem_of_getElem? (i := 11) rfl)
theorem dX10_init_26 : decode cX10_init 26 = .ok (.aload_n 0, 1) := al_X10_init_0 (26, (.aload_n 0, 1)) (List.mem_of_getElem? (i := 12) rfl)
theorem dX10_init_27 : decode cX10_init 27 = .ok (.new 16, 3) := al_X10_init_0 (27, (.new 16, 3)) (List.mem_of_getElem? (i := 13) rfl)
theorem dX10_init_30 : decode cX10_init 30 = .ok (.dup, 1) := al_X10_init_0 (30, (.dup, 1)) (List.mem_of_getElem? (i := 14) rfl)
theorem dX10_init_31 : decode cX10_init 31 = .ok (.invokespecial 18, 3) := al_X10_init_0 (31, (.invokespecial 18, 3)) (List.mem_of_getElem? (i := 15) rfl)
theorem dX10_init_34 : decode cX10_init 34 = .ok (.putfield 23, 3) := al_X10_init_0 (34, (.putfield 23, 3)) (List.mem_of_getElem? (i := 16) rfl)
theorem dX10_init_37 : decode cX10_init 37 = .ok (.aload_n 0, 1) := al_X10_init_0 (37, (.aload_n 0, 1)) (List.mem_of_getElem? (i := 17) rfl)
theorem dX10_init_38 : decode cX10_init 38 = .ok (.new 26, 3) := al_X10_init_0 (38, (.new 26, 3)) (List.mem_of_getElem? (i := 18) rfl)
theorem dX10_init_41 : decode cX10_init 41 = .ok (.dup, 1) := al_X10_init_0 (41, (.dup, 1)) (List.mem_of_getElem? (i := 19) rfl)
theorem dX10_init_42 : decode cX10_init 42 = .ok (.invokespecial 28, 3) := al_X10_init_0 (42, (.invokespecial 28, 3)) (List.mem_of_getElem? (i := 20) rfl)
theorem dX10_init_45 : decode cX10_init 45 = .ok (.putfield 29, 3) := al_X10_init_0 (45, (.putfield 29, 3)) (List.mem_of_getElem? (i := 21) rfl)
theorem dX10_init_48 : decode cX10_init 48 = .ok (.aload_n 0, 1) := al_X10_init_0 (48, (.aload_n 0, 1)) (List.mem_of_getElem? (i := 22) rfl)
theorem dX10_init_49 : decode cX10_init 49 = .ok (.new 33, 3) := al_X10_init_0 (49, (.new 33, 3)) (List.mem_of_getElem? (i := 23) rfl)
theorem dX10_init_52 : decode cX10_init 52 = .ok (.dup, 1) := al_X10_init_0 (52, (.dup, 1)) (List.mem_of_getElem? (i := 24) rfl)
theorem dX10_init_53 : decode cX10_init 53 = .ok (.invokespecial 35, 3) := al_X10_init_0 (53, (.invokespecial 35, 3)) (List.mem_of_getElem? (i := 25) rfl)
theorem dX10_init_56 : decode cX10_init 56 = .ok (.putfield 36, 3) := al_X10_init_0 (56, (.putfield 36, 3)) (List.mem_of_getElem? (i := 26) rfl)
theorem dX10_init_59 : decode cX10_init 59 = .ok (.aload_n 0, 1) := al_X10_init_0 (59, (.aload_n 0, 1)) (List.mem_of_getElem? (i := 27) rfl)
theorem dX10_init_60 : decode cX10_init 60 = .ok (.new 40, 3) := al_X10_init_0 (60, (.new 40, 3)) (List.mem_of_getElem? (i := 28) rfl)
theorem dX10_init_63 : decode cX10_init 63 = .ok (.dup, 1) := al_X10_init_0 (63, (.dup, 1)) (List.mem_of_getElem? (i := 29) rfl)
theorem dX10_init_64 : decode cX10_init 64 = .ok (.invokespecial 42, 3) := al_X10_init_0 (64, (.invokespecial 42, 3)) (List.mem_of_getElem? (i := 30) rfl)
theorem dX10_init_67 : decode cX10_init 67 = .ok (.putfield 43, 3) := al_X10_init_0 (67, (.putfield 43, 3)) (List.mem_of_getElem? (i := 31) rfl)
theorem dX10_init_70 : decode cX10_init 70 = .ok (.aload_n 0, 1) := al_X10_init_0 (70, (.aload_n 0, 1)) (List.mem_of_getElem? (i := 32) rfl)
theorem dX10_init_71 : decode cX10_init 71 = .ok (.new 47, 3) := al_X10_init_0 (71, (.new 47, 3)) (List.mem_of_getElem? (i := 33) rfl)
theorem dX10_init_74 : decode cX10_init 74 = .ok (.dup, 1) := al_X10_init_0 (74, (.dup, 1)) (List.mem_of_getElem? (i := 34) rfl)
theorem dX10_init_75 : decode cX10_init 75 = .ok (.invokespecial 49, 3) := al_X10_init_0 (75, (.invokespecial 49, 3)) (List.mem_of_getElem? (i := 35) rfl)
theorem dX10_init_78 : decode cX10_init 78 = .ok (.putfield 50, 3) := al_X10_init_0 (78, (.putfield 50, 3)) (List.mem_of_getElem? (i := 36) rfl)
theorem dX10_init_81 : decode cX10_init 81 = .ok (.aload_n 0, 1) := al_X10_init_0 (81, (.aload_n 0, 1)) (List.mem_of_getElem? (i := 37) rfl)
theorem dX10_init_82 : decode cX10_init 82 = .ok (.new 54, 3) := al_X10_init_0 (82, (.new 54, 3)) (List.mem_of_getElem? (i := 38) rfl)
theorem dX10_init_85 : decode cX10_init 85 = .ok (.dup, 1) := al_X10_init_0 (85, (.dup, 1)) (List.mem_of_getElem? (i := 39) rfl)
theorem dX10_init_86 : decode cX10_init 86 = .ok (.invokespecial 56, 3) := al_X10_init_0 (86, (.invokespecial 56, 3)) (List.mem_of_getElem? (i := 40) rfl)
theorem dX10_init_89 : decode cX10_init 89 = .ok (.putfield 57, 3) := al_X10_init_0 (89, (.putfield 57, 3)) (List.mem_of_getElem? (i := 41) rfl)
theorem dX10_init_92 : decode cX10_init 92 = .ok (.aload_n 0, 1) := al_X10_init_0 (92, (.aload_n 0, 1)) (List.mem_of_getElem? (i := 42) rfl)
theorem dX10_init_93 : decode cX10_init 93 = .ok (.new 61, 3) := al_X10_init_0 (93, (.new 61, 3)) (List.mem_of_getElem? (i := 43) rfl)
theorem dX10_init_96 : decode cX10_init 96 = .ok (.dup, 1) := al_X10_init_0 (96, (.dup, 1)) (List.mem_of_getElem? (i := 44) rfl)
theorem dX10_init_97 : decode cX10_init 97 = .ok (.invokespecial 63, 3) := al_X10_init_0 (97, (.invokespecial 63, 3)) (List.mem_of_getElem? (i := 45) rfl)
theorem dX10_init_100 : decode cX10_init 100 = .ok (.putfield 64, 3) := al_X10_init_0 (100, (.putfield 64, 3)) (List.mem_of_getElem? (i := 46) rfl)
theorem dX10_init_103 : decode cX10_init 103 = .ok (.aload_n 0, 1) := al_X10_init_0 (103, (.aload_n 0, 1)) (List.mem_of_getElem? (i := 47) rfl)
theorem dX10_init_104 : decode cX10_init 104 = .ok (.iconst 0, 1) := al_X10_init_0 (104, (.iconst 0, 1)) (List.mem_of_getElem? (i := 48) rfl)
theorem dX10_init_105 : decode cX10_init 105 = .ok (.putfield 68, 3) := al_X10_init_0 (105, (.putfield 68, 3)) (List.mem_of_getElem? (i := 49) rfl)
theorem dX10_init_108 : decode cX10_init 108 = .ok (.aload_n 0, 1) := al_X10_init_0 (108, (.aload_n 0, 1)) (List.mem_of_getElem? (i := 50) rfl)
theorem dX10_init_109 : decode cX10_init 109 = .ok (.iconst (-1), 1) := al_X10_init_0 (109, (.iconst (-1), 1)) (List.mem_of_getElem? (i := 51) rfl)
theorem dX10_init_110 : decode cX10_init 110 = .ok (.putfield 72, 3) := al_X10_init_0 (110, (.putfield 72, 3)) (List.mem_of_getElem? (i := 52) rfl)
theorem dX10_init_113 : decode cX10_init 113 = .ok (.return_, 1) := al_X10_init_0 (113, (.return_, 1)) (List.mem_of_getElem? (i := 53) rfl)
def in_X10_feed_0 : List (Nat × Instr × Nat) := [(0, (.aload_n 0, 1)), (1, (.getfield 12, 3)), (4, (.bipush 20, 2)), (6, (.invokevirtual 76, 3)), (9, (.ifCond .ne 5, 3)), (12, (.iconst (-1), 1)), (13, (.ireturn, 1)), (14, (.aload_n 0, 1)), (15, (.getfield 12, 3)), (18, (.iload_n 1, 1)), (19, (.invokevirtual 80, 3)), (22, (.aload_n 0, 1)), (23, (.getfield 12, 3)), (26, (.iload_n 2, 1)), (27, (.invokevirtual 80, 3)), (30, (.aload_n 0, 1)), (31, (.getfield 12, 3)), (34, (.iload_n 3, 1)), (35, (.invokevirtual 80, 3)), (38, (.aload_n 0, 1)), (39, (.getfield 12, 3)), (42, (.iload 4, 2)), (44, (.invokevirtual 80, 3)), (47, (.aload_n 0, 1)), (48, (.getfield 12, 3)), (51, (.iload 5, 2)), (53, (.invokevirtual 80, 3)), (56, (.aload_n 0, 1)), (57, (.getfield 12, 3)), (60, (.getfield 84, 3)), (63, (.ireturn, 1))]
theorem al_X10_feed_0 : ∀ q ∈ in_X10_feed_0, decode cX10_feed q.1 = .ok q.2 := by decide +kernel
theorem dX10_feed_0 : decode cX10_feed 0 = .ok (.aload_n 0, 1) := al_X10_feed_0 (0, (.aload_n 0, 1)) (List.mem_of_getElem? (i := 0) rfl)
theorem dX10_feed_1 : decode cX10_feed 1 = .ok (.getfield 12, 3) := al_X10_feed_0 (1, (.getfield 12, 3)) (List.mem_of_getElem? (i := 1) rfl)
theorem dX10_feed_4 : decode cX10_feed 4 = .ok (.bipush 20, 2) := al_X10_feed_0 (4, (.bipush 20, 2)) (List.mem_of_getElem? (i := 2) rfl)
theorem dX10_feed_6 : decode cX10_feed 6 = .ok (.invokevirtual 76, 3) := al_X10_feed_0 (6, (.invokevirtual 76, 3)) (List.mem_of_getElem? (i := 3) rfl)
theorem dX10_feed_9 : decode cX10_feed 9 = .ok (.ifCond .ne 5, 3) := al_X10_feed_0 (9, (.ifCond .ne 5, 3)) (List.mem_of_getElem? (i := 4) rfl)
theorem dX10_feed_12 : decode cX10_feed 12 = .ok (.iconst (-1), 1) := al_X10_feed_0 (12, (.iconst (-1), 1)) (List.mem_of_getElem? (i := 5) rfl)
theorem dX10_feed_13 : decode cX10_feed 13 = .ok (.ireturn, 1) := al_X10_feed_0 (13, (.ireturn, 1)) (List.mem_of_getElem? (i := 6) rfl)
theorem dX10_feed_14 : decode cX10_feed 14 = .ok (.aload_n 0, 1) := al_X10_feed_0 (14, (.aload_n 0, 1)) (List.mem_of_getElem? (i := 7) rfl)
theorem dX10_feed_15 : decode cX10_feed 15 = .ok (.getfield 12, 3) := al_X10_feed_0 (15, (.getfield 12, 3)) (List.mem_of_getElem? (i := 8) rfl)
theorem dX10_feed_18 : decode cX10_feed 18 = .ok (.iload_n 1, 1) := al_X10_feed_0 (18, (.iload_n 1, 1)) (List.mem_of_getElem? (i := 9) rfl)
theorem dX10_feed_19 : decode cX10_feed 19 = .ok (.invokevirtual 80, 3) := al_X10_feed_0 (19, (.invokevirtual 80, 3)) (List.mem_of_getElem? (i := 10) rfl)
theorem dX10_feed_22 : decode cX10_feed 22 = .ok (.aload_n 0, 1) := al_X10_feed_0 (22, (.aload_n 0, 1)) (List.mem_of_getElem? (i := 11) rfl)
theorem dX10_feed_23 : decode cX10_feed 23 = .ok (.getfield 12, 3) := al_X10_feed_0 (23, (.getfield 12, 3)) (List.mem_of_getElem? (i := 12) rfl)
theorem dX10_feed_26 : decode cX10_feed 26 = .ok (.iload_n 2, 1) := al_X10_feed_0 (26, (.iload_n 2, 1)) (List.mem_of_getElem? (i := 13) rfl)
theorem dX10_feed_27 : decode cX10_feed 27 = .ok (.invokevirtual 80, 3) := al_X10_feed_0 (27, (.invokevirtual 80, 3)) (List.mem_of_getElem? (i := 14) rfl)
theorem dX10_feed_30 : decode cX10_feed 30 = .ok (.aload_n 0, 1) := al_X10_feed_0 (30, (.aload_n 0, 1)) (List.mem_of_getElem? (i := 15) rfl)
theorem dX10_feed_31 : decode cX10_feed 31 = .ok (.getfield 12, 3) := al_X10_feed_0 (31, (.getfield 12, 3)) (List.mem_of_getElem? (i := 16) rfl)
theorem dX10_feed_34 : decode cX10_feed 34 = .ok (.iload_n 3, 1) := al_X10_feed_0 (34, (.iload_n 3, 1)) (List.mem_of_getElem? (i := 17) rfl)
theorem dX10_feed_35 : decode cX10_feed 35 = .ok (.invokevirtual 80, 3) := al_X10_feed_0 (35, (.invokevirtual 80, 3)) (List.mem_of_getElem? (i := 18) rfl)
theorem dX10_feed_38 : decode cX10_feed 38 = .ok (.aload_n 0, 1) := al_X10_feed_0 (38, (.aload_n 0, 1)) (List.mem_of_getElem? (i := 19) rfl)
theorem dX10_feed_39 : decode cX10_feed 39 = .ok (.getfield 12, 3) := al_X10_feed_0 (39, (.getfield 12, 3)) (List.mem_of_getElem? (i := 20) rfl)
theorem dX10_feed_42 : decode cX10_feed 42 = .ok (.iload 4, 2) := al_X10_feed_0 (42, (.iload 4, 2)) (List.mem_of_getElem? (i := 21) rfl)
theorem dX10_feed_44 : decode cX10_feed 44 = .ok (.invokevirtual 80, 3) := al_X10_feed_0 (44, (.invokevirtual 80, 3)) (List.mem_of_getElem? (i := 22) rfl)
theorem dX10_feed_47 : decode cX10_feed 47 = .ok (.aload_n 0, 1) := al_X10_feed_0 (47, (.aload_n 0, 1)) (List.mem_of_getElem? (i := 23) rfl)
theorem dX10_feed_48 : decode cX10_feed 48 = .ok (.getfield 12, 3) := al_X10_feed_0 (48, (.getfield 12, 3)) (List.mem_of_getElem? (i := 24) rfl)
theorem dX10_feed_51 : decode cX10_feed 51 = .ok (.iload 5, 2) := al_X10_feed_0 (51, (.iload 5, 2)) (List.mem_of_getElem? (i := 25) rfl)
theorem dX10_feed_53 : decode cX10_feed 53 = .ok (.invokevirtual 80, 3) := al_X10_feed_0 (53, (.invokevirtual 80, 3)) (List.mem_of_getElem? (i := 26) rfl)
theorem dX10_feed_56 : decode cX10_feed 56 = .ok (.aload_n 0, 1) := al_X10_feed_0 (56, (.aload_n 0, 1)) (List.mem_of_getElem? (i := 27) rfl)
theorem dX10_feed_57 : decode cX10_feed 57 = .ok (.getfield 12, 3) := al_X10_feed_0 (57, (.getfield 12, 3)) (List.mem_of_getElem? (i := 28) rfl)
theorem dX10_feed_60 : decode cX10_feed 60 = .ok (.getfield 84, 3) := al_X10_feed_0 (60, (.getfield 84, 3)) (List.mem_of_getElem? (i := 29) rfl)
theorem dX10_feed_63 : decode cX10_feed 63 = .ok (.ireturn, 1) := al_X10_feed_0 (63, (.ireturn, 1)) (List.mem_of_getElem? (i := 30) rfl)
def in_X10_end_0 : List (Nat × Instr × Nat) := [(0, (.iload_n 1, 1)), (1, (.ifCond .lt 14, 3)), (4, (.iload_n 1, 1)), (5, (.aload_n 0, 1)), (6, (.getfield 12, 3)), (9, (.getfield 84, 3)), (12, (.if_icmp .le 5, 3)), (15, (.iconst 0, 1)), (16, (.ireturn, 1)), (17, (.aload_n 0, 1)), (18, (.getfield 12, 3)), (21, (.iload_n 1, 1)), (22, (.putfield 84, 3)), (25, (.iconst 1, 1)), (26, (.ireturn, 1))]
theorem al_X10_end_0 : ∀ q ∈ in_X10_end_0, decode cX10_end q.1 = .ok q.2 := by decide +kernel
theorem dX10_end_0 : decode cX10_end 0 = .ok (.iload_n 1, 1) := al_X10_end_0 (0, (.iload_n 1, 1)) (List.mem_of_getElem? (i := 0) rfl)
theorem dX10_end_1 : decode cX10_end 1 = .ok (.ifCond .lt 14, 3) := al_X10_end_0 (1, (.ifCond .lt 14, 3)) (List.mem_of_getElem? (i := 1) rfl)
theorem dX10_end_4 : decode cX10_end 4 = .ok (.iload_n 1, 1) := al_X10_end_0 (4, (.iload_n 1, 1)) (List.mem_of_getElem? (i := 2) rfl)
theorem dX10_end_5 : decode cX10_end 5 = .ok (.aload_n 0, 1) := al_X10_end_0 (5, (.aload_n 0, 1)) (List.mem_of_getElem? (i := 3) rfl)
theorem dX10_end_6 : decode cX10_end 6 = .ok (.getfield 12, 3) := al_X10_end_0 (6, (.getfield 12, 3)) (List.mem_of_getElem? (i := 4) rfl)
theorem dX10_end_9 : decode cX10_end 9 = .ok (.getfield 84, 3) := al_X10_end_0 (9, (.getfield 84, 3)) (List.mem_of_getElem? (i := 5) rfl)
theorem dX10_end_12 : decode cX10_end 12 = .ok (.if_icmp .le 5, 3) := al_X10_end_0 (12, (.if_icmp .le 5, 3)) (List.mem_of_getElem? (i := 6) rfl)
theorem dX10_end_15 : decode cX10_end 15 = .ok (.iconst 0, 1) := al_X10_end_0 (15, (.iconst 0, 1)) (List.mem_of_getElem? (i := 7) rfl)
theorem dX10_end_16 : decode cX10_end 16 = .ok (.ireturn, 1) := al_X10_end_0 (16, (.ireturn, 1)) (List.mem_of_getElem? (i := 8) rfl)
theorem dX10_end_17 : decode cX10_end 17 = .ok (.aload_n 0, 1) := al_X10_end_0 (17, (.aload_n 0, 1)) (List.mem_of_getElem? (i := 9) rfl)
theorem dX10_end_18 : decode cX10_end 18 = .ok (.getfield 12, 3) := al_X10_end_0 (18, (.getfield 12, 3)) (List.mem_of_getElem? (i := 10) rfl)
theorem dX10_end_21 : decode cX10_end 21 = .ok (.iload_n 1, 1) := al_X10_end_0 (21, (.iload_n 1, 1)) (List.mem_of_getElem? (i := 11) rfl)
theorem dX10_end_22 : decode cX10_end 22 = .ok (.putfield 84, 3) := al_X10_end_0 (22, (.putfield 84, 3)) (List.mem_of_getElem? (i := 12) rfl)
theorem dX10_end_25 : decode cX10_end 25 = .ok (.iconst 1, 1) := al_X10_end_0 (25, (.iconst 1, 1)) (List.mem_of_getElem? (i := 13) rfl)
theorem dX10_end_26 : decode cX10_end 26 = .ok (.ireturn, 1) := al_X10_end_0 (26, (.ireturn, 1)) (List.mem_of_getElem? (i := 14) rfl)
def in_X10_park_0 : List (Nat × Instr × Nat) := [(0, (.aload_n 0, 1)), (1, (.getfield 29, 3)), (4, (.aload_n 0, 1)), (5, (.getfield 19, 3)), (8, (.getfield 87, 3)), (11, (.invokevirtual 90, 3)), (14, (.aload_n 0, 1)), (15, (.getfield 29, 3)), (18, (.aload_n 0, 1)), (19, (.getfield 12, 3)), (22, (.invokevirtual 94, 3)), (25, (.istore_n 1, 1)), (26, (.aload_n 0, 1)), (27, (.iload_n 1, 1)), (28, (.invokevirtual 98, 3)), (31, (.iload_n 1, 1)), (32, (.ifCond .ne 13, 3)), (35, (.new 102, 3)), (38, (.dup, 1)), (39, (.ldc 104, 2)), (41, (.invokespecial 106, 3)), (44, (.athrow, 1)), (45, (.aload_n 0, 1)), (46, (.getfield 19, 3)), (49, (.getfield 87, 3)), (52, (.getfield 109, 3)), (55, (.bipush 16, 2)), (57, (.if_icmp .lt 13, 3)), (60, (.new 112, 3)), (63, (.dup, 1)), (64, (.ldc 114, 2)), (66, (.invokespecial 116, 3)), (69, (.athrow, 1)), (70, (.aload_n 0, 1)), (71, (.getfield 29, 3)), (74, (.dup, 1)), (75, (.getfield 109, 3)), (78, (.iconst 1, 1)), (79, (.iadd, 1)), (80, (.putfield 109, 3)), (83, (.aload_n 0, 1)), (84, (.getfield 19, 3)), (87, (.getfield 87, 3)), (90, (.aload_n 0, 1)), (91, (.getfield 29, 3)), (94, (.invokevirtual 90, 3)), (97, (.aload_n 0, 1)), (98, (.getfield 19, 3)), (101, (.getfield 117, 3)), (104, (.iconst 0, 1)), (105, (.putfield 121, 3)), (108, (.aload_n 0, 1)), (109, (.getfield 19, 3)), (112, (.getfield 87, 3)), (115, (.getfield 109, 3)), (118, (.ireturn, 1))]
theorem al_X10_park_0 : ∀ q ∈ in_X10_park_0, decode cX10_park q.1 = .ok q.2 := by decide +kernel
theorem dX10_park_0 : decode cX10_park 0 = .ok (.aload_n 0, 1) := al_X10_park_0 (0, (.aload_n 0, 1)) (List.mem_of_getElem? (i := 0) rfl)
theorem dX10_park_1 : decode cX10_park 1 = .ok (.getfield 29, 3) := al_X10_park_0 (1, (.getfield 29, 3)) (List.mem_of_getElem? (i := 1) rfl)
theorem dX10_park_4 : decode cX10_park 4 = .ok (.aload_n 0, 1) := al_X10_park_0 (4, (.aload_n 0, 1)) (List.mem_of_getElem? (i := 2) rfl)
theorem dX10_park_5 : decode cX10_park 5 = .ok (.getfield 19, 3) := al_X10_park_0 (5, (.getfield 19, 3)) (List.mem_of_getElem? (i := 3) rfl)
theorem dX10_park_8 : decode cX10_park 8 = .ok (.getfield 87, 3) := al_X10_park_0 (8, (.getfield 87, 3)) (List.mem_of_getElem? (i := 4) rfl)
theorem dX10_park_11 : decode cX10_park 11 = .ok (.invokevirtual 90, 3) := al_X10_park_0 (11, (.invokevirtual 90, 3)) (List.mem_of_getElem? (i := 5) rfl)
theorem dX10_park_14 : decode cX10_park 14 = .ok (.aload_n 0, 1) := al_X10_park_0 (14, (.aload_n 0, 1)) (List.mem_of_getElem? (i := 6) rfl)
theorem dX10_park_15 : decode cX10_park 15 = .ok (.getfield 29, 3) := al_X10_park_0 (15, (.getfield 29, 3)) (List.mem_of_getElem? (i := 7) rfl)
theorem dX10_park_18 : decode cX10_park 18 = .ok (.aload_n 0, 1) := al_X10_park_0 (18, (.aload_n 0, 1)) (List.mem_of_getElem? (i := 8) rfl)
theorem dX10_park_19 : decode cX10_park 19 = .ok (.getfield 12, 3) := al_X10_park_0 (19, (.getfield 12, 3)) (List.mem_of_getElem? (i := 9) rfl)
theorem dX10_park_22 : decode cX10_park 22 = .ok (.invokevirtual 94, 3) := al_X10_park_0 (22, (.invokevirtual 94, 3)) (List.mem_of_getElem? (i := 10) rfl)
theorem dX10_park_25 : decode cX10_park 25 = .ok (.istore_n 1, 1) := al_X10_park_0 (25, (.istore_n 1, 1)) (List.mem_of_getElem? (i := 11) rfl)
theorem dX10_park_26 : decode cX10_park 26 = .ok (.aload_n 0, 1) := al_X10_park_0 (26, (.aload_n 0, 1)) (List.mem_of_getElem? (i := 12) rfl)
theorem dX10_park_27 : decode cX10_park 27 = .ok (.iload_n 1, 1) := al_X10_park_0 (27, (.iload_n 1, 1)) (List.mem_of_getElem? (i := 13) rfl)
theorem dX10_park_28 : decode cX10_park 28 = .ok (.invokevirtual 98, 3) := al_X10_park_0 (28, (.invokevirtual 98, 3)) (List.mem_of_getElem? (i := 14) rfl)
theorem dX10_park_31 : decode cX10_park 31 = .ok (.iload_n 1, 1) := al_X10_park_0 (31, (.iload_n 1, 1)) (List.mem_of_getElem? (i := 15) rfl)
theorem dX10_park_32 : decode cX10_park 32 = .ok (.ifCond .ne 13, 3) := al_X10_park_0 (32, (.ifCond .ne 13, 3)) (List.mem_of_getElem? (i := 16) rfl)
theorem dX10_park_35 : decode cX10_park 35 = .ok (.new 102, 3) := al_X10_park_0 (35, (.new 102, 3)) (List.mem_of_getElem? (i := 17) rfl)
theorem dX10_park_38 : decode cX10_park 38 = .ok (.dup, 1) := al_X10_park_0 (38, (.dup, 1)) (List.mem_of_getElem? (i := 18) rfl)
theorem dX10_park_39 : decode cX10_park 39 = .ok (.ldc 104, 2) := al_X10_park_0 (39, (.ldc 104, 2)) (List.mem_of_getElem? (i := 19) rfl)
theorem dX10_park_41 : decode cX10_park 41 = .ok (.invokespecial 106, 3) := al_X10_park_0 (41, (.invokespecial 106, 3)) (List.mem_of_getElem? (i := 20) rfl)
theorem dX10_park_44 : decode cX10_park 44 = .ok (.athrow, 1) := al_X10_park_0 (44, (.athrow, 1)) (List.mem_of_getElem? (i := 21) rfl)
theorem dX10_park_45 : decode cX10_park 45 = .ok (.aload_n 0, 1) := al_X10_park_0 (45, (.aload_n 0, 1)) (List.mem_of_getElem? (i := 22) rfl)
theorem dX10_park_46 : decode cX10_park 46 = .ok (.getfield 19, 3) := al_X10_park_0 (46, (.getfield 19, 3)) (List.mem_of_getElem? (i := 23) rfl)
theorem dX10_park_49 : decode cX10_park 49 = .ok (.getfield 87, 3) := al_X10_park_0 (49, (.getfield 87, 3)) (List.mem_of_getElem? (i := 24) rfl)
theorem dX10_park_52 : decode cX10_park 52 = .ok (.getfield 109, 3) := al_X10_park_0 (52, (.getfield 109, 3)) (List.mem_of_getElem? (i := 25) rfl)
theorem dX10_park_55 : decode cX10_park 55 = .ok (.bipush 16, 2) := al_X10_park_0 (55, (.bipush 16, 2)) (List.mem_of_getElem? (i := 26) rfl)
theorem dX10_park_57 : decode cX10_park 57 = .ok (.if_icmp .lt 13, 3) := al_X10_park_0 (57, (.if_icmp .lt 13, 3)) (List.mem_of_getElem? (i := 27) rfl)
theorem dX10_park_60 : decode cX10_park 60 = .ok (.new 112, 3) := al_X10_park_0 (60, (.new 112, 3)) (List.mem_of_getElem? (i := 28) rfl)
theorem dX10_park_63 : decode cX10_park 63 = .ok (.dup, 1) := al_X10_park_0 (63, (.dup, 1)) (List.mem_of_getElem? (i := 29) rfl)
theorem dX10_park_64 : decode cX10_park 64 = .ok (.ldc 114, 2) := al_X10_park_0 (64, (.ldc 114, 2)) (List.mem_of_getElem? (i := 30) rfl)
theorem dX10_park_66 : decode cX10_park 66 = .ok (.invokespecial 116, 3) := al_X10_park_0 (66, (.invokespecial 116, 3)) (List.mem_of_getElem? (i := 31) rfl)
theorem dX10_park_69 : decode cX10_park 69 = .ok (.athrow, 1) := al_X10_park_0 (69, (.athrow, 1)) (List.mem_of_getElem? (i := 32) rfl)
theorem dX10_park_70 : decode cX10_park 70 = .ok (.aload_n 0, 1) := al_X10_park_0 (70, (.aload_n 0, 1)) (List.mem_of_getElem? (i := 33) rfl)
theorem dX10_park_71 : decode cX10_park 71 = .ok (.getfield 29, 3) := al_X10_park_0 (71, (.getfield 29, 3)) (List.mem_of_getElem? (i := 34) rfl)
theorem dX10_park_74 : decode cX10_park 74 = .ok (.dup, 1) := al_X10_park_0 (74, (.dup, 1)) (List.mem_of_getElem? (i := 35) rfl)
theorem dX10_park_75 : decode cX10_park 75 = .ok (.getfield 109, 3) := al_X10_park_0 (75, (.getfield 109, 3)) (List.mem_of_getElem? (i := 36) rfl)
theorem dX10_park_78 : decode cX10_park 78 = .ok (.iconst 1, 1) := al_X10_park_0 (78, (.iconst 1, 1)) (List.mem_of_getElem? (i := 37) rfl)
theorem dX10_park_79 : decode cX10_park 79 = .ok (.iadd, 1) := al_X10_park_0 (79, (.iadd, 1)) (List.mem_of_getElem? (i := 38) rfl)
theorem dX10_park_80 : decode cX10_park 80 = .ok (.putfield 109, 3) := al_X10_park_0 (80, (.putfield 109, 3)) (List.mem_of_getElem? (i := 39) rfl)
theorem dX10_park_83 : decode cX10_park 83 = .ok (.aload_n 0, 1) := al_X10_park_0 (83, (.aload_n 0, 1)) (List.mem_of_getElem? (i := 40) rfl)
theorem dX10_park_84 : decode cX10_park 84 = .ok (.getfield 19, 3) := al_X10_park_0 (84, (.getfield 19, 3)) (List.mem_of_getElem? (i := 41) rfl)
theorem dX10_park_87 : decode cX10_park 87 = .ok (.getfield 87, 3) := al_X10_park_0 (87, (.getfield 87, 3)) (List.mem_of_getElem? (i := 42) rfl)
theorem dX10_park_90 : decode cX10_park 90 = .ok (.aload_n 0, 1) := al_X10_park_0 (90, (.aload_n 0, 1)) (List.mem_of_getElem? (i := 43) rfl)
theorem dX10_park_91 : decode cX10_park 91 = .ok (.getfield 29, 3) := al_X10_park_0 (91, (.getfield 29, 3)) (List.mem_of_getElem? (i := 44) rfl)
theorem dX10_park_94 : decode cX10_park 94 = .ok (.invokevirtual 90, 3) := al_X10_park_0 (94, (.invokevirtual 90, 3)) (List.mem_of_getElem? (i := 45) rfl)
theorem dX10_park_97 : decode cX10_park 97 = .ok (.aload_n 0, 1) := al_X10_park_0 (97, (.aload_n 0, 1)) (List.mem_of_getElem? (i := 46) rfl)
theorem dX10_park_98 : decode cX10_park 98 = .ok (.getfield 19, 3) := al_X10_park_0 (98, (.getfield 19, 3)) (List.mem_of_getElem? (i := 47) rfl)
theorem dX10_park_101 : decode cX10_park 101 = .ok (.getfield 117, 3) := al_X10_park_0 (101, (.getfield 117, 3)) (List.mem_of_getElem? (i := 48) rfl)
theorem dX10_park_104 : decode cX10_park 104 = .ok (.iconst 0, 1) := al_X10_park_0 (104, (.iconst 0, 1)) (List.mem_of_getElem? (i := 49) rfl)
theorem dX10_park_105 : decode cX10_park 105 = .ok (.putfield 121, 3) := al_X10_park_0 (105, (.putfield 121, 3)) (List.mem_of_getElem? (i := 50) rfl)
theorem dX10_park_108 : decode cX10_park 108 = .ok (.aload_n 0, 1) := al_X10_park_0 (108, (.aload_n 0, 1)) (List.mem_of_getElem? (i := 51) rfl)
theorem dX10_park_109 : decode cX10_park 109 = .ok (.getfield 19, 3) := al_X10_park_0 (109, (.getfield 19, 3)) (List.mem_of_getElem? (i := 52) rfl)
theorem dX10_park_112 : decode cX10_park 112 = .ok (.getfield 87, 3) := al_X10_park_0 (112, (.getfield 87, 3)) (List.mem_of_getElem? (i := 53) rfl)
theorem dX10_park_115 : decode cX10_park 115 = .ok (.getfield 109, 3) := al_X10_park_0 (115, (.getfield 109, 3)) (List.mem_of_getElem? (i := 54) rfl)
theorem dX10_park_118 : decode cX10_park 118 = .ok (.ireturn, 1) := al_X10_park_0 (118, (.ireturn, 1)) (List.mem_of_getElem? (i := 55) rfl)
def in_X10_law_0 : List (Nat × Instr × Nat) := [(0, (.aload_n 0, 1)), (1, (.getfield 36, 3)), (4, (.aload_n 0, 1)), (5, (.getfield 12, 3)), (8, (.invokevirtual 126, 3)), (11, (.istore_n 1, 1)), (12, (.aload_n 0, 1)), (13, (.iload_n 1, 1)), (14, (.invokevirtual 98, 3)), (17, (.iload_n 1, 1)), (18, (.ifCond .ne 13, 3)), (21, (.new 102, 3)), (24, (.dup, 1)), (25, (.ldc 127, 2)), (27, (.invokespecial 106, 3)), (30, (.athrow, 1)), (31, (.aload_n 0, 1)), (32, (.getfield 19, 3)), (35, (.getfield 129, 3)), (38, (.aload_n 0, 1)), (39, (.getfield 36, 3)), (42, (.invokevirtual 132, 3)), (45, (.aload_n 0, 1)), (46, (.getfield 19, 3)), (49, (.getfield 117, 3)), (52, (.iconst 0, 1)), (53, (.putfield 121, 3)), (56, (.aload_n 0, 1)), (57, (.getfield 19, 3)), (60, (.getfield 129, 3)), (63, (.getfield 135, 3)), (66, (.ireturn, 1))]
theorem al_X10_law_0 : ∀ q ∈ in_X10_law_0, decode cX10_law q.1 = .ok q.2 := by decide +kernel
theorem dX10_law_0 : decode cX10_law 0 = .ok (.aload_n 0, 1) := al_X10_law_0 (0, (.aload_n 0, 1)) (List.mem_of_getElem? (i := 0) rfl)
theorem dX10_law_1 : decode cX10_law 1 = .ok (.getfield 36, 3) := al_X10_law_0 (1, (.getfield 36, 3)) (List.mem_of_getElem? (i := 1) rfl)
theorem dX10_law_4 : decode cX10_law 4 = .ok (.aload_n 0, 1) := al_X10_law_0 (4, (.aload_n 0, 1)) (List.mem_of_getElem? (i := 2) rfl)
theorem dX10_law_5 : decode cX10_law 5 = .ok (.getfield 12, 3) := al_X10_law_0 (5, (.getfield 12, 3)) (List.mem_of_getElem? (i := 3) rfl)
theorem dX10_law_8 : decode cX10_law 8 = .ok (.invokevirtual 126, 3) := al_X10_law_0 (8, (.invokevirtual 126, 3)) (List.mem_of_getElem? (i := 4) rfl)
theorem dX10_law_11 : decode cX10_law 11 = .ok (.istore_n 1, 1) := al_X10_law_0 (11, (.istore_n 1, 1)) (List.mem_of_getElem? (i := 5) rfl)
theorem dX10_law_12 : decode cX10_law 12 = .ok (.aload_n 0, 1) := al_X10_law_0 (12, (.aload_n 0, 1)) (List.mem_of_getElem? (i := 6) rfl)
theorem dX10_law_13 : decode cX10_law 13 = .ok (.iload_n 1, 1) := al_X10_law_0 (13, (.iload_n 1, 1)) (List.mem_of_getElem? (i := 7) rfl)
theorem dX10_law_14 : decode cX10_law 14 = .ok (.invokevirtual 98, 3) := al_X10_law_0 (14, (.invokevirtual 98, 3)) (List.mem_of_getElem? (i := 8) rfl)
theorem dX10_law_17 : decode cX10_law 17 = .ok (.iload_n 1, 1) := al_X10_law_0 (17, (.iload_n 1, 1)) (List.mem_of_getElem? (i := 9) rfl)
theorem dX10_law_18 : decode cX10_law 18 = .ok (.ifCond .ne 13, 3) := al_X10_law_0 (18, (.ifCond .ne 13, 3)) (List.mem_of_getElem? (i := 10) rfl)
theorem dX10_law_21 : decode cX10_law 21 = .ok (.new 102, 3) := al_X10_law_0 (21, (.new 102, 3)) (List.mem_of_getElem? (i := 11) rfl)
theorem dX10_law_24 : decode cX10_law 24 = .ok (.dup, 1) := al_X10_law_0 (24, (.dup, 1)) (List.mem_of_getElem? (i := 12) rfl)
theorem dX10_law_25 : decode cX10_law 25 = .ok (.ldc 127, 2) := al_X10_law_0 (25, (.ldc 127, 2)) (List.mem_of_getElem? (i := 13) rfl)
theorem dX10_law_27 : decode cX10_law 27 = .ok (.invokespecial 106, 3) := al_X10_law_0 (27, (.invokespecial 106, 3)) (List.mem_of_getElem? (i := 14) rfl)
theorem dX10_law_30 : decode cX10_law 30 = .ok (.athrow, 1) := al_X10_law_0 (30, (.athrow, 1)) (List.mem_of_getElem? (i := 15) rfl)
theorem dX10_law_31 : decode cX10_law 31 = .ok (.aload_n 0, 1) := al_X10_law_0 (31, (.aload_n 0, 1)) (List.mem_of_getElem? (i := 16) rfl)
theorem dX10_law_32 : decode cX10_law 32 = .ok (.getfield 19, 3) := al_X10_law_0 (32, (.getfield 19, 3)) (List.mem_of_getElem? (i := 17) rfl)
theorem dX10_law_35 : decode cX10_law 35 = .ok (.getfield 129, 3) := al_X10_law_0 (35, (.getfield 129, 3)) (List.mem_of_getElem? (i := 18) rfl)
theorem dX10_law_38 : decode cX10_law 38 = .ok (.aload_n 0, 1) := al_X10_law_0 (38, (.aload_n 0, 1)) (List.mem_of_getElem? (i := 19) rfl)
theorem dX10_law_39 : decode cX10_law 39 = .ok (.getfield 36, 3) := al_X10_law_0 (39, (.getfield 36, 3)) (List.mem_of_getElem? (i := 20) rfl)
theorem dX10_law_42 : decode cX10_law 42 = .ok (.invokevirtual 132, 3) := al_X10_law_0 (42, (.invokevirtual 132, 3)) (List.mem_of_getElem? (i := 21) rfl)
theorem dX10_law_45 : decode cX10_law 45 = .ok (.aload_n 0, 1) := al_X10_law_0 (45, (.aload_n 0, 1)) (List.mem_of_getElem? (i := 22) rfl)
theorem dX10_law_46 : decode cX10_law 46 = .ok (.getfield 19, 3) := al_X10_law_0 (46, (.getfield 19, 3)) (List.mem_of_getElem? (i := 23) rfl)
theorem dX10_law_49 : decode cX10_law 49 = .ok (.getfield 117, 3) := al_X10_law_0 (49, (.getfield 117, 3)) (List.mem_of_getElem? (i := 24) rfl)
theorem dX10_law_52 : decode cX10_law 52 = .ok (.iconst 0, 1) := al_X10_law_0 (52, (.iconst 0, 1)) (List.mem_of_getElem? (i := 25) rfl)
theorem dX10_law_53 : decode cX10_law 53 = .ok (.putfield 121, 3) := al_X10_law_0 (53, (.putfield 121, 3)) (List.mem_of_getElem? (i := 26) rfl)
theorem dX10_law_56 : decode cX10_law 56 = .ok (.aload_n 0, 1) := al_X10_law_0 (56, (.aload_n 0, 1)) (List.mem_of_getElem? (i := 27) rfl)
theorem dX10_law_57 : decode cX10_law 57 = .ok (.getfield 19, 3) := al_X10_law_0 (57, (.getfield 19, 3)) (List.mem_of_getElem? (i := 28) rfl)
theorem dX10_law_60 : decode cX10_law 60 = .ok (.getfield 129, 3) := al_X10_law_0 (60, (.getfield 129, 3)) (List.mem_of_getElem? (i := 29) rfl)
theorem dX10_law_63 : decode cX10_law 63 = .ok (.getfield 135, 3) := al_X10_law_0 (63, (.getfield 135, 3)) (List.mem_of_getElem? (i := 30) rfl)
theorem dX10_law_66 : decode cX10_law 66 = .ok (.ireturn, 1) := al_X10_law_0 (66, (.ireturn, 1)) (List.mem_of_getElem? (i := 31) rfl)
def in_X10_fault_0 : List (Nat × Instr × Nat) := [(0, (.aload_n 0, 1)), (1, (.getfield 72, 3)), (4, (.ireturn, 1))]
theorem al_X10_fault_0 : ∀ q ∈ in_X10_fault_0, decode cX10_fault q.1 = .ok q.2 := by decide +kernel
theorem dX10_fault_0 : decode cX10_fault 0 = .ok (.aload_n 0, 1) := al_X10_fault_0 (0, (.aload_n 0, 1)) (List.mem_of_getElem? (i := 0) rfl)
theorem dX10_fault_1 : decode cX10_fault 1 = .ok (.getfield 72, 3) := al_X10_fault_0 (1, (.getfield 72, 3)) (List.mem_of_getElem? (i := 1) rfl)
theorem dX10_fault_4 : decode cX10_fault 4 = .ok (.ireturn, 1) := al_X10_fault_0 (4, (.ireturn, 1)) (List.mem_of_getElem? (i := 2) rfl)
def in_X10_corner_0 : List (Nat × Instr × Nat) := [(0, (.aload_n 0, 1)), (1, (.iload_n 1, 1)), (2, (.iload_n 2, 1)), (3, (.invokevirtual 138, 3)), (6, (.iload_n 3, 1)), (7, (.ifCond .eq 18, 3)), (10, (.aload_n 0, 1)), (11, (.getfield 19, 3)), (14, (.getfield 87, 3)), (17, (.iload_n 1, 1)), (18, (.iload_n 2, 1)), (19, (.invokevirtual 142, 3)), (22, (.goto 15, 3)), (25, (.aload_n 0, 1)), (26, (.getfield 19, 3)), (29, (.getfield 87, 3)), (32, (.iload_n 1, 1)), (33, (.iload_n 2, 1)), (34, (.invokevirtual 146, 3)), (37, (.ireturn, 1))]
theorem al_X10_corner_0 : ∀ q ∈ in_X10_corner_0, decode cX10_corner q.1 = .ok q.2 := by decide +kernel
theorem dX10_corner_0 : decode cX10_corner 0 = .ok (.aload_n 0, 1) := al_X10_corner_0 (0, (.aload_n 0, 1)) (List.mem_of_getElem? (i := 0) rfl)
theorem dX10_corner_1 : decode cX10_corner 1 = .ok (.iload_n 1, 1) := al_X10_corner_0 (1, (.iload_n 1, 1)) (List.mem_of_getElem? (i := 1) rfl)
theorem dX10_corner_2 : decode cX10_corner 2 = .ok (.iload_n 2, 1) := al_X10_corner_0 (2, (.iload_n 2, 1)) (List.mem_of_getElem? (i := 2) rfl)
theorem dX10_corner_3 : decode cX10_corner 3 = .ok (.invokevirtual 138, 3) := al_X10_corner_0 (3, (.invokevirtual 138, 3)) (List.mem_of_getElem? (i := 3) rfl)
theorem dX10_corner_6 : decode cX10_corner 6 = .ok (.iload_n 3, 1) := al_X10_corner_0 (6, (.iload_n 3, 1)) (List.mem_of_getElem? (i := 4) rfl)
theorem dX10_corner_7 : decode cX10_corner 7 = .ok (.ifCond .eq 18, 3) := al_X10_corner_0 (7, (.ifCond .eq 18, 3)) (List.mem_of_getElem? (i := 5) rfl)
theorem dX10_corner_10 : decode cX10_corner 10 = .ok (.aload_n 0, 1) := al_X10_corner_0 (10, (.aload_n 0, 1)) (List.mem_of_getElem? (i := 6) rfl)
theorem dX10_corner_11 : decode cX10_corner 11 = .ok (.getfield 19, 3) := al_X10_corner_0 (11, (.getfield 19, 3)) (List.mem_of_getElem? (i := 7) rfl)
theorem dX10_corner_14 : decode cX10_corner 14 = .ok (.getfield 87, 3) := al_X10_corner_0 (14, (.getfield 87, 3)) (List.mem_of_getElem? (i := 8) rfl)
theorem dX10_corner_17 : decode cX10_corner 17 = .ok (.iload_n 1, 1) := al_X10_corner_0 (17, (.iload_n 1, 1)) (List.mem_of_getElem? (i := 9) rfl)
theorem dX10_corner_18 : decode cX10_corner 18 = .ok (.iload_n 2, 1) := al_X10_corner_0 (18, (.iload_n 2, 1)) (List.mem_of_getElem? (i := 10) rfl)
theorem dX10_corner_19 : decode cX10_corner 19 = .ok (.invokevirtual 142, 3) := al_X10_corner_0 (19, (.invokevirtual 142, 3)) (List.mem_of_getElem? (i := 11) rfl)
theorem dX10_corner_22 : decode cX10_corner 22 = .ok (.goto 15, 3) := al_X10_corner_0 (22, (.goto 15, 3)) (List.mem_of_getElem? (i := 12) rfl)
theorem dX10_corner_25 : decode cX10_corner 25 = .ok (.aload_n 0, 1) := al_X10_corner_0 (25, (.aload_n 0, 1)) (List.mem_of_getElem? (i := 13) rfl)
theorem dX10_corner_26 : decode cX10_corner 26 = .ok (.getfield 19, 3) := al_X10_corner_0 (26, (.getfield 19, 3)) (List.mem_of_getElem? (i := 14) rfl)
theorem dX10_corner_29 : decode cX10_corner 29 = .ok (.getfield 87, 3) := al_X10_corner_0 (29, (.getfield 87, 3)) (List.mem_of_getElem? (i := 15) rfl)
theorem dX10_corner_32 : decode cX10_corner 32 = .ok (.iload_n 1, 1) := al_X10_corner_0 (32, (.iload_n 1, 1)) (List.mem_of_getElem? (i := 16) rfl)
theorem dX10_corner_33 : decode cX10_corner 33 = .ok (.iload_n 2, 1) := al_X10_corner_0 (33, (.iload_n 2, 1)) (List.mem_of_getElem? (i := 17) rfl)
theorem dX10_corner_34 : decode cX10_corner 34 = .ok (.invokevirtual 146, 3) := al_X10_corner_0 (34, (.invokevirtual 146, 3)) (List.mem_of_getElem? (i := 18) rfl)
theorem dX10_corner_37 : decode cX10_corner 37 = .ok (.ireturn, 1) := al_X10_corner_0 (37, (.ireturn, 1)) (List.mem_of_getElem? (i := 19) rfl)
def in_X10_corners_0 : List (Nat × Instr × Nat) := [(0, (.aload_n 0, 1)), (1, (.iload_n 1, 1)), (2, (.invokevirtual 149, 3)), (5, (.aload_n 0, 1)), (6, (.getfield 19, 3)), (9, (.getfield 87, 3)), (12, (.getfield 152, 3)), (15, (.iload_n 1, 1)), (16, (.iaload, 1)), (17, (.ireturn, 1))]
theorem al_X10_corners_0 : ∀ q ∈ in_X10_corners_0, decode cX10_corners q.1 = .ok q.2 := by decide +kernel
theorem dX10_corners_0 : decode cX10_corners 0 = .ok (.aload_n 0, 1) := al_X10_corners_0 (0, (.aload_n 0, 1)) (List.mem_of_getElem? (i := 0) rfl)
theorem dX10_corners_1 : decode cX10_corners 1 = .ok (.iload_n 1, 1) := al_X10_corners_0 (1, (.iload_n 1, 1)) (List.mem_of_getElem? (i := 1) rfl)
theorem dX10_corners_2 : decode cX10_corners 2 = .ok (.invokevirtual 149, 3) := al_X10_corners_0 (2, (.invokevirtual 149, 3)) (List.mem_of_getElem? (i := 2) rfl)
theorem dX10_corners_5 : decode cX10_corners 5 = .ok (.aload_n 0, 1) := al_X10_corners_0 (5, (.aload_n 0, 1)) (List.mem_of_getElem? (i := 3) rfl)
theorem dX10_corners_6 : decode cX10_corners 6 = .ok (.getfield 19, 3) := al_X10_corners_0 (6, (.getfield 19, 3)) (List.mem_of_getElem? (i := 4) rfl)
theorem dX10_corners_9 : decode cX10_corners 9 = .ok (.getfield 87, 3) := al_X10_corners_0 (9, (.getfield 87, 3)) (List.mem_of_getElem? (i := 5) rfl)
theorem dX10_corners_12 : decode cX10_corners 12 = .ok (.getfield 152, 3) := al_X10_corners_0 (12, (.getfield 152, 3)) (List.mem_of_getElem? (i := 6) rfl)
theorem dX10_corners_15 : decode cX10_corners 15 = .ok (.iload_n 1, 1) := al_X10_corners_0 (15, (.iload_n 1, 1)) (List.mem_of_getElem? (i := 7) rfl)
theorem dX10_corners_16 : decode cX10_corners 16 = .ok (.iaload, 1) := al_X10_corners_0 (16, (.iaload, 1)) (List.mem_of_getElem? (i := 8) rfl)
theorem dX10_corners_17 : decode cX10_corners 17 = .ok (.ireturn, 1) := al_X10_corners_0 (17, (.ireturn, 1)) (List.mem_of_getElem? (i := 9) rfl)
def in_X10_far_0 : List (Nat × Instr × Nat) := [(0, (.aload_n 0, 1)), (1, (.iload_n 1, 1)), (2, (.iload_n 2, 1)), (3, (.invokevirtual 138, 3)), (6, (.aload_n 0, 1)), (7, (.iload_n 3, 1)), (8, (.iload 4, 2)), (10, (.invokevirtual 138, 3)), (13, (.aload_n 0, 1)), (14, (.getfield 19, 3)), (17, (.getfield 87, 3)), (20, (.iload_n 1, 1)), (21, (.iload_n 2, 1)), (22, (.iload_n 3, 1)), (23, (.iload 4, 2)), (25, (.invokevirtual 156, 3)), (28, (.ireturn, 1))]
theorem al_X10_far_0 : ∀ q ∈ in_X10_far_0, decode cX10_far q.1 = .ok q.2 := by decide +kernel
theorem dX10_far_0 : decode cX10_far 0 = .ok (.aload_n 0, 1) := al_X10_far_0 (0, (.aload_n 0, 1)) (List.mem_of_getElem? (i := 0) rfl)
theorem dX10_far_1 : decode cX10_far 1 = .ok (.iload_n 1, 1) := al_X10_far_0 (1, (.iload_n 1, 1)) (List.mem_of_getElem? (i := 1) rfl)
theorem dX10_far_2 : decode cX10_far 2 = .ok (.iload_n 2, 1) := al_X10_far_0 (2, (.iload_n 2, 1)) (List.mem_of_getElem? (i := 2) rfl)
theorem dX10_far_3 : decode cX10_far 3 = .ok (.invokevirtual 138, 3) := al_X10_far_0 (3, (.invokevirtual 138, 3)) (List.mem_of_getElem? (i := 3) rfl)
theorem dX10_far_6 : decode cX10_far 6 = .ok (.aload_n 0, 1) := al_X10_far_0 (6, (.aload_n 0, 1)) (List.mem_of_getElem? (i := 4) rfl)
theorem dX10_far_7 : decode cX10_far 7 = .ok (.iload_n 3, 1) := al_X10_far_0 (7, (.iload_n 3, 1)) (List.mem_of_getElem? (i := 5) rfl)
theorem dX10_far_8 : decode cX10_far 8 = .ok (.iload 4, 2) := al_X10_far_0 (8, (.iload 4, 2)) (List.mem_of_getElem? (i := 6) rfl)
theorem dX10_far_10 : decode cX10_far 10 = .ok (.invokevirtual 138, 3) := al_X10_far_0 (10, (.invokevirtual 138, 3)) (List.mem_of_getElem? (i := 7) rfl)
theorem dX10_far_13 : decode cX10_far 13 = .ok (.aload_n 0, 1) := al_X10_far_0 (13, (.aload_n 0, 1)) (List.mem_of_getElem? (i := 8) rfl)
theorem dX10_far_14 : decode cX10_far 14 = .ok (.getfield 19, 3) := al_X10_far_0 (14, (.getfield 19, 3)) (List.mem_of_getElem? (i := 9) rfl)
theorem dX10_far_17 : decode cX10_far 17 = .ok (.getfield 87, 3) := al_X10_far_0 (17, (.getfield 87, 3)) (List.mem_of_getElem? (i := 10) rfl)
theorem dX10_far_20 : decode cX10_far 20 = .ok (.iload_n 1, 1) := al_X10_far_0 (20, (.iload_n 1, 1)) (List.mem_of_getElem? (i := 11) rfl)
theorem dX10_far_21 : decode cX10_far 21 = .ok (.iload_n 2, 1) := al_X10_far_0 (21, (.iload_n 2, 1)) (List.mem_of_getElem? (i := 12) rfl)
theorem dX10_far_22 : decode cX10_far 22 = .ok (.iload_n 3, 1) := al_X10_far_0 (22, (.iload_n 3, 1)) (List.mem_of_getElem? (i := 13) rfl)
theorem dX10_far_23 : decode cX10_far 23 = .ok (.iload 4, 2) := al_X10_far_0 (23, (.iload 4, 2)) (List.mem_of_getElem? (i := 14) rfl)
theorem dX10_far_25 : decode cX10_far 25 = .ok (.invokevirtual 156, 3) := al_X10_far_0 (25, (.invokevirtual 156, 3)) (List.mem_of_getElem? (i := 15) rfl)
theorem dX10_far_28 : decode cX10_far 28 = .ok (.ireturn, 1) := al_X10_far_0 (28, (.ireturn, 1)) (List.mem_of_getElem? (i := 16) rfl)
def in_X10_shut_0 : List (Nat × Instr × Nat) := [(0, (.aload_n 0, 1)), (1, (.iload_n 1, 1)), (2, (.iload_n 2, 1)), (3, (.invokevirtual 138, 3)), (6, (.aload_n 0, 1)), (7, (.iload_n 3, 1)), (8, (.iload 4, 2)), (10, (.invokevirtual 138, 3)), (13, (.aload_n 0, 1)), (14, (.getfield 19, 3)), (17, (.iload_n 1, 1)), (18, (.iload_n 2, 1)), (19, (.iload_n 3, 1)), (20, (.iload 4, 2)), (22, (.invokevirtual 160, 3)), (25, (.ireturn, 1))]
theorem al_X10_shut_0 : ∀ q ∈ in_X10_shut_0, decode cX10_shut q.1 = .ok q.2 := by decide +kernel
theorem dX10_shut_0 : decode cX10_shut 0 = .ok (.aload_n 0, 1) := al_X10_shut_0 (0, (.aload_n 0, 1)) (List.mem_of_getElem? (i := 0) rfl)
theorem dX10_shut_1 : decode cX10_shut 1 = .ok (.iload_n 1, 1) := al_X10_shut_0 (1, (.iload_n 1, 1)) (List.mem_of_getElem? (i := 1) rfl)
theorem dX10_shut_2 : decode cX10_shut 2 = .ok (.iload_n 2, 1) := al_X10_shut_0 (2, (.iload_n 2, 1)) (List.mem_of_getElem? (i := 2) rfl)
theorem dX10_shut_3 : decode cX10_shut 3 = .ok (.invokevirtual 138, 3) := al_X10_shut_0 (3, (.invokevirtual 138, 3)) (List.mem_of_getElem? (i := 3) rfl)
theorem dX10_shut_6 : decode cX10_shut 6 = .ok (.aload_n 0, 1) := al_X10_shut_0 (6, (.aload_n 0, 1)) (List.mem_of_getElem? (i := 4) rfl)
theorem dX10_shut_7 : decode cX10_shut 7 = .ok (.iload_n 3, 1) := al_X10_shut_0 (7, (.iload_n 3, 1)) (List.mem_of_getElem? (i := 5) rfl)
theorem dX10_shut_8 : decode cX10_shut 8 = .ok (.iload 4, 2) := al_X10_shut_0 (8, (.iload 4, 2)) (List.mem_of_getElem? (i := 6) rfl)
theorem dX10_shut_10 : decode cX10_shut 10 = .ok (.invokevirtual 138, 3) := al_X10_shut_0 (10, (.invokevirtual 138, 3)) (List.mem_of_getElem? (i := 7) rfl)
theorem dX10_shut_13 : decode cX10_shut 13 = .ok (.aload_n 0, 1) := al_X10_shut_0 (13, (.aload_n 0, 1)) (List.mem_of_getElem? (i := 8) rfl)
theorem dX10_shut_14 : decode cX10_shut 14 = .ok (.getfield 19, 3) := al_X10_shut_0 (14, (.getfield 19, 3)) (List.mem_of_getElem? (i := 9) rfl)
theorem dX10_shut_17 : decode cX10_shut 17 = .ok (.iload_n 1, 1) := al_X10_shut_0 (17, (.iload_n 1, 1)) (List.mem_of_getElem? (i := 10) rfl)
theorem dX10_shut_18 : decode cX10_shut 18 = .ok (.iload_n 2, 1) := al_X10_shut_0 (18, (.iload_n 2, 1)) (List.mem_of_getElem? (i := 11) rfl)
theorem dX10_shut_19 : decode cX10_shut 19 = .ok (.iload_n 3, 1) := al_X10_shut_0 (19, (.iload_n 3, 1)) (List.mem_of_getElem? (i := 12) rfl)
theorem dX10_shut_20 : decode cX10_shut 20 = .ok (.iload 4, 2) := al_X10_shut_0 (20, (.iload 4, 2)) (List.mem_of_getElem? (i := 13) rfl)
theorem dX10_shut_22 : decode cX10_shut 22 = .ok (.invokevirtual 160, 3) := al_X10_shut_0 (22, (.invokevirtual 160, 3)) (List.mem_of_getElem? (i := 14) rfl)
theorem dX10_shut_25 : decode cX10_shut 25 = .ok (.ireturn, 1) := al_X10_shut_0 (25, (.ireturn, 1)) (List.mem_of_getElem? (i := 15) rfl)
def in_X10_least_0 : List (Nat × Instr × Nat) := [(0, (.aload_n 0, 1)), (1, (.iload_n 1, 1)), (2, (.invokevirtual 149, 3)), (5, (.aload_n 0, 1)), (6, (.iload_n 2, 1)), (7, (.invokevirtual 149, 3)), (10, (.aload_n 0, 1)), (11, (.iload_n 1, 1)), (12, (.iload_n 2, 1)), (13, (.invokevirtual 164, 3)), (16, (.ireturn, 1))]
theorem al_X10_least_0 : ∀ q ∈ in_X10_least_0, decode cX10_least q.1 = .ok q.2 := by decide +kernel
theorem dX10_least_0 : decode cX10_least 0 = .ok (.aload_n 0, 1) := al_X10_least_0 (0, (.aload_n 0, 1)) (List.mem_of_getElem? (i := 0) rfl)
theorem dX10_least_1 : decode cX10_least 1 = .ok (.iload_n 1, 1) := al_X10_least_0 (1, (.iload_n 1, 1)) (List.mem_of_getElem? (i := 1) rfl)
theorem dX10_least_2 : decode cX10_least 2 = .ok (.invokevirtual 149, 3) := al_X10_least_0 (2, (.invokevirtual 149, 3)) (List.mem_of_getElem? (i := 2) rfl)
theorem dX10_least_5 : decode cX10_least 5 = .ok (.aload_n 0, 1) := al_X10_least_0 (5, (.aload_n 0, 1)) (List.mem_of_getElem? (i := 3) rfl)
theorem dX10_least_6 : decode cX10_least 6 = .ok (.iload_n 2, 1) := al_X10_least_0 (6, (.iload_n 2, 1)) (List.mem_of_getElem? (i := 4) rfl)
theorem dX10_least_7 : decode cX10_least 7 = .ok (.invokevirtual 149, 3) := al_X10_least_0 (7, (.invokevirtual 149, 3)) (List.mem_of_getElem? (i := 5) rfl)
theorem dX10_least_10 : decode cX10_least 10 = .ok (.aload_n 0, 1) := al_X10_least_0 (10, (.aload_n 0, 1)) (List.mem_of_getElem? (i := 6) rfl)
theorem dX10_least_11 : decode cX10_least 11 = .ok (.iload_n 1, 1) := al_X10_least_0 (11, (.iload_n 1, 1)) (List.mem_of_getElem? (i := 7) rfl)
theorem dX10_least_12 : decode cX10_least 12 = .ok (.iload_n 2, 1) := al_X10_least_0 (12, (.iload_n 2, 1)) (List.mem_of_getElem? (i := 8) rfl)
theorem dX10_least_13 : decode cX10_least 13 = .ok (.invokevirtual 164, 3) := al_X10_least_0 (13, (.invokevirtual 164, 3)) (List.mem_of_getElem? (i := 9) rfl)
theorem dX10_least_16 : decode cX10_least 16 = .ok (.ireturn, 1) := al_X10_least_0 (16, (.ireturn, 1)) (List.mem_of_getElem? (i := 10) rfl)
def in_X10_first_0 : List (Nat × Instr × Nat) := [(0, (.aload_n 0, 1)), (1, (.iload_n 1, 1)), (2, (.invokevirtual 149, 3)), (5, (.aload_n 0, 1)), (6, (.iload_n 2, 1)), (7, (.invokevirtual 149, 3)), (10, (.iload_n 3, 1)), (11, (.iconst (-1), 1)), (12, (.if_icmp .ge 13, 3)), (15, (.new 102, 3)), (18, (.dup, 1)), (19, (.ldc 167, 2)), (21, (.invokespecial 106, 3)), (24, (.athrow, 1)), (25, (.aload_n 0, 1)), (26, (.iload_n 1, 1)), (27, (.iload_n 2, 1)), (28, (.invokevirtual 164, 3)), (31, (.iconst (-1), 1)), (32, (.if_icmp .ne 7, 3)), (35, (.iconst (-1), 1)), (36, (.goto 11, 3)), (39, (.aload_n 0, 1)), (40, (.getfield 43, 3)), (43, (.iload_n 3, 1)), (44, (.invokevirtual 169, 3)), (47, (.ireturn, 1))]
theorem al_X10_first_0 : ∀ q ∈ in_X10_first_0, decode cX10_first q.1 = .ok q.2 := by decide +kernel
theorem dX10_first_0 : decode cX10_first 0 = .ok (.aload_n 0, 1) := al_X10_first_0 (0, (.aload_n 0, 1)) (List.mem_of_getElem? (i := 0) rfl)
theorem dX10_first_1 : decode cX10_first 1 = .ok (.iload_n 1, 1) := al_X10_first_0 (1, (.iload_n 1, 1)) (List.mem_of_getElem? (i := 1) rfl)
theorem dX10_first_2 : decode cX10_first 2 = .ok (.invokevirtual 149, 3) := al_X10_first_0 (2, (.invokevirtual 149, 3)) (List.mem_of_getElem? (i := 2) rfl)
theorem dX10_first_5 : decode cX10_first 5 = .ok (.aload_n 0, 1) := al_X10_first_0 (5, (.aload_n 0, 1)) (List.mem_of_getElem? (i := 3) rfl)
theorem dX10_first_6 : decode cX10_first 6 = .ok (.iload_n 2, 1) := al_X10_first_0 (6, (.iload_n 2, 1)) (List.mem_of_getElem? (i := 4) rfl)
theorem dX10_first_7 : decode cX10_first 7 = .ok (.invokevirtual 149, 3) := al_X10_first_0 (7, (.invokevirtual 149, 3)) (List.mem_of_getElem? (i := 5) rfl)
theorem dX10_first_10 : decode cX10_first 10 = .ok (.iload_n 3, 1) := al_X10_first_0 (10, (.iload_n 3, 1)) (List.mem_of_getElem? (i := 6) rfl)
theorem dX10_first_11 : decode cX10_first 11 = .ok (.iconst (-1), 1) := al_X10_first_0 (11, (.iconst (-1), 1)) (List.mem_of_getElem? (i := 7) rfl)
theorem dX10_first_12 : decode cX10_first 12 = .ok (.if_icmp .ge 13, 3) := al_X10_first_0 (12, (.if_icmp .ge 13, 3)) (List.mem_of_getElem? (i := 8) rfl)
theorem dX10_first_15 : decode cX10_first 15 = .ok (.new 102, 3) := al_X10_first_0 (15, (.new 102, 3)) (List.mem_of_getElem? (i := 9) rfl)
theorem dX10_first_18 : decode cX10_first 18 = .ok (.dup, 1) := al_X10_first_0 (18, (.dup, 1)) (List.mem_of_getElem? (i := 10) rfl)
theorem dX10_first_19 : decode cX10_first 19 = .ok (.ldc 167, 2) := al_X10_first_0 (19, (.ldc 167, 2)) (List.mem_of_getElem? (i := 11) rfl)
theorem dX10_first_21 : decode cX10_first 21 = .ok (.invokespecial 106, 3) := al_X10_first_0 (21, (.invokespecial 106, 3)) (List.mem_of_getElem? (i := 12) rfl)
theorem dX10_first_24 : decode cX10_first 24 = .ok (.athrow, 1) := al_X10_first_0 (24, (.athrow, 1)) (List.mem_of_getElem? (i := 13) rfl)
theorem dX10_first_25 : decode cX10_first 25 = .ok (.aload_n 0, 1) := al_X10_first_0 (25, (.aload_n 0, 1)) (List.mem_of_getElem? (i := 14) rfl)
theorem dX10_first_26 : decode cX10_first 26 = .ok (.iload_n 1, 1) := al_X10_first_0 (26, (.iload_n 1, 1)) (List.mem_of_getElem? (i := 15) rfl)
theorem dX10_first_27 : decode cX10_first 27 = .ok (.iload_n 2, 1) := al_X10_first_0 (27, (.iload_n 2, 1)) (List.mem_of_getElem? (i := 16) rfl)
theorem dX10_first_28 : decode cX10_first 28 = .ok (.invokevirtual 164, 3) := al_X10_first_0 (28, (.invokevirtual 164, 3)) (List.mem_of_getElem? (i := 17) rfl)
theorem dX10_first_31 : decode cX10_first 31 = .ok (.iconst (-1), 1) := al_X10_first_0 (31, (.iconst (-1), 1)) (List.mem_of_getElem? (i := 18) rfl)
theorem dX10_first_32 : decode cX10_first 32 = .ok (.if_icmp .ne 7, 3) := al_X10_first_0 (32, (.if_icmp .ne 7, 3)) (List.mem_of_getElem? (i := 19) rfl)
theorem dX10_first_35 : decode cX10_first 35 = .ok (.iconst (-1), 1) := al_X10_first_0 (35, (.iconst (-1), 1)) (List.mem_of_getElem? (i := 20) rfl)
theorem dX10_first_36 : decode cX10_first 36 = .ok (.goto 11, 3) := al_X10_first_0 (36, (.goto 11, 3)) (List.mem_of_getElem? (i := 21) rfl)
theorem dX10_first_39 : decode cX10_first 39 = .ok (.aload_n 0, 1) := al_X10_first_0 (39, (.aload_n 0, 1)) (List.mem_of_getElem? (i := 22) rfl)
theorem dX10_first_40 : decode cX10_first 40 = .ok (.getfield 43, 3) := al_X10_first_0 (40, (.getfield 43, 3)) (List.mem_of_getElem? (i := 23) rfl)
theorem dX10_first_43 : decode cX10_first 43 = .ok (.iload_n 3, 1) := al_X10_first_0 (43, (.iload_n 3, 1)) (List.mem_of_getElem? (i := 24) rfl)
theorem dX10_first_44 : decode cX10_first 44 = .ok (.invokevirtual 169, 3) := al_X10_first_0 (44, (.invokevirtual 169, 3)) (List.mem_of_getElem? (i := 25) rfl)
theorem dX10_first_47 : decode cX10_first 47 = .ok (.ireturn, 1) := al_X10_first_0 (47, (.ireturn, 1)) (List.mem_of_getElem? (i := 26) rfl)
def in_X10_bars_0 : List (Nat × Instr × Nat) := [(0, (.aload_n 0, 1)), (1, (.iload_n 1, 1)), (2, (.invokevirtual 149, 3)), (5, (.aload_n 0, 1)), (6, (.iload_n 2, 1)), (7, (.invokevirtual 149, 3)), (10, (.aload_n 0, 1)), (11, (.iload_n 1, 1)), (12, (.iload_n 2, 1)), (13, (.invokevirtual 164, 3)), (16, (.iconst (-1), 1)), (17, (.if_icmp .ne 7, 3)), (20, (.iconst (-1), 1)), (21, (.goto 10, 3)), (24, (.aload_n 0, 1)), (25, (.getfield 43, 3)), (28, (.invokevirtual 173, 3)), (31, (.ireturn, 1))]
theorem al_X10_bars_0 : ∀ q ∈ in_X10_bars_0, decode cX10_bars q.1 = .ok q.2 := by decide +kernel
theorem dX10_bars_0 : decode cX10_bars 0 = .ok (.aload_n 0, 1) := al_X10_bars_0 (0, (.aload_n 0, 1)) (List.mem_of_getElem? (i := 0) rfl)
theorem dX10_bars_1 : decode cX10_bars 1 = .ok (.iload_n 1, 1) := al_X10_bars_0 (1, (.iload_n 1, 1)) (List.mem_of_getElem? (i := 1) rfl)
theorem dX10_bars_2 : decode cX10_bars 2 = .ok (.invokevirtual 149, 3) := al_X10_bars_0 (2, (.invokevirtual 149, 3)) (List.mem_of_getElem? (i := 2) rfl)
theorem dX10_bars_5 : decode cX10_bars 5 = .ok (.aload_n 0, 1) := al_X10_bars_0 (5, (.aload_n 0, 1)) (List.mem_of_getElem? (i := 3) rfl)
theorem dX10_bars_6 : decode cX10_bars 6 = .ok (.iload_n 2, 1) := al_X10_bars_0 (6, (.iload_n 2, 1)) (List.mem_of_getElem? (i := 4) rfl)
theorem dX10_bars_7 : decode cX10_bars 7 = .ok (.invokevirtual 149, 3) := al_X10_bars_0 (7, (.invokevirtual 149, 3)) (List.mem_of_getElem? (i := 5) rfl)
theorem dX10_bars_10 : decode cX10_bars 10 = .ok (.aload_n 0, 1) := al_X10_bars_0 (10, (.aload_n 0, 1)) (List.mem_of_getElem? (i := 6) rfl)
theorem dX10_bars_11 : decode cX10_bars 11 = .ok (.iload_n 1, 1) := al_X10_bars_0 (11, (.iload_n 1, 1)) (List.mem_of_getElem? (i := 7) rfl)
theorem dX10_bars_12 : decode cX10_bars 12 = .ok (.iload_n 2, 1) := al_X10_bars_0 (12, (.iload_n 2, 1)) (List.mem_of_getElem? (i := 8) rfl)
theorem dX10_bars_13 : decode cX10_bars 13 = .ok (.invokevirtual 164, 3) := al_X10_bars_0 (13, (.invokevirtual 164, 3)) (List.mem_of_getElem? (i := 9) rfl)
theorem dX10_bars_16 : decode cX10_bars 16 = .ok (.iconst (-1), 1) := al_X10_bars_0 (16, (.iconst (-1), 1)) (List.mem_of_getElem? (i := 10) rfl)
theorem dX10_bars_17 : decode cX10_bars 17 = .ok (.if_icmp .ne 7, 3) := al_X10_bars_0 (17, (.if_icmp .ne 7, 3)) (List.mem_of_getElem? (i := 11) rfl)
theorem dX10_bars_20 : decode cX10_bars 20 = .ok (.iconst (-1), 1) := al_X10_bars_0 (20, (.iconst (-1), 1)) (List.mem_of_getElem? (i := 12) rfl)
theorem dX10_bars_21 : decode cX10_bars 21 = .ok (.goto 10, 3) := al_X10_bars_0 (21, (.goto 10, 3)) (List.mem_of_getElem? (i := 13) rfl)
theorem dX10_bars_24 : decode cX10_bars 24 = .ok (.aload_n 0, 1) := al_X10_bars_0 (24, (.aload_n 0, 1)) (List.mem_of_getElem? (i := 14) rfl)
theorem dX10_bars_25 : decode cX10_bars 25 = .ok (.getfield 43, 3) := al_X10_bars_0 (25, (.getfield 43, 3)) (List.mem_of_getElem? (i := 15) rfl)
theorem dX10_bars_28 : decode cX10_bars 28 = .ok (.invokevirtual 173, 3) := al_X10_bars_0 (28, (.invokevirtual 173, 3)) (List.mem_of_getElem? (i := 16) rfl)
theorem dX10_bars_31 : decode cX10_bars 31 = .ok (.ireturn, 1) := al_X10_bars_0 (31, (.ireturn, 1)) (List.mem_of_getElem? (i := 17) rfl)
def in_X10_judge_0 : List (Nat × Instr × Nat) := [(0, (.aload_n 0, 1)), (1, (.getfield 12, 3)), (4, (.getfield 84, 3)), (7, (.istore 4, 2)), (9, (.aload_n 0, 1)), (10, (.getfield 12, 3)), (13, (.iconst 0, 1)), (14, (.putfield 84, 3)), (17, (.aload_n 0, 1)), (18, (.iload_n 1, 1)), (19, (.invokevirtual 149, 3)), (22, (.aload_n 0, 1)), (23, (.iload_n 2, 1)), (24, (.invokevirtual 149, 3)), (27, (.iload_n 3, 1)), (28, (.ifCond .lt 15, 3)), (31, (.aload_n 0, 1)), (32, (.getfield 12, 3)), (35, (.iload 4, 2)), (37, (.invokevirtual 177, 3)), (40, (.ifCond .ne 13, 3)), (43, (.new 102, 3)), (46, (.dup, 1)), (47, (.ldc 180, 2)), (49, (.invokespecial 106, 3)), (52, (.athrow, 1)), (53, (.aload_n 0, 1)), (54, (.getfield 19, 3)), (57, (.iload_n 1, 1)), (58, (.iconst 0, 1)), (59, (.iload_n 2, 1)), (60, (.iconst 0, 1)), (61, (.iload_n 3, 1)), (62, (.invokevirtual 182, 3)), (65, (.ifCond .ne 6, 3)), (68, (.bipush (-2), 2)), (70, (.ireturn, 1)), (71, (.iconst 0, 1)), (72, (.istore 5, 2)), (74, (.iconst 0, 1)), (75, (.istore 6, 2)), (77, (.iconst 0, 1)), (78, (.istore 7, 2)), (80, (.iload 7, 2)), (82, (.iload 4, 2)), (84, (.if_icmp .ge 60, 3)), (87, (.aload_n 0, 1)), (88, (.getfield 12, 3)), (91, (.iload 7, 2)), (93, (.invokevirtual 186, 3)), (96, (.istore 8, 2)), (98, (.iload 5, 2)), (100, (.iload 8, 2)), (102, (.invokestatic 189, 3)), (105, (.iadd, 1)), (106, (.istore 5, 2)), (108, (.iload 6, 2)), (110, (.iload 8, 2)), (112, (.invokestatic 192, 3)), (115, (.iadd, 1))]
theorem al_X10_judge_0 : ∀ q ∈ in_X10_judge_0, decode cX10_judge q.1 = .ok q.2 := by decide +kernel
theorem dX10_judge_0 : decode cX10_judge 0 = .ok (.aload_n 0, 1) := al_X10_judge_0 (0, (.aload_n 0, 1)) (List.mem_of_getElem? (i := 0) rfl)
theorem dX10_judge_1 : decode cX10_judge 1 = .ok (.getfield 12, 3) := al_X10_judge_0 (1, (.getfield 12, 3)) (List.mem_of_getElem? (i := 1) rfl)
theorem dX10_judge_4 : decode cX10_judge 4 = .ok (.getfield 84, 3) := al_X10_judge_0 (4, (.getfield 84, 3)) (List.mem_of_getElem? (i := 2) rfl)
theorem dX10_judge_7 : decode cX10_judge 7 = .ok (.istore 4, 2) := al_X10_judge_0 (7, (.istore 4, 2)) (List.mem_of_getElem? (i := 3) rfl)
theorem dX10_judge_9 : decode cX10_judge 9 = .ok (.aload_n 0, 1) := al_X10_judge_0 (9, (.aload_n 0, 1)) (List.mem_of_getElem? (i := 4) rfl)
theorem dX10_judge_10 : decode cX10_judge 10 = .ok (.getfield 12, 3) := al_X10_judge_0 (10, (.getfield 12, 3)) (List.mem_of_getElem? (i := 5) rfl)
theorem dX10_judge_13 : decode cX10_judge 13 = .ok (.iconst 0, 1) := al_X10_judge_0 (13, (.iconst 0, 1)) (List.mem_of_getElem? (i := 6) rfl)
theorem dX10_judge_14 : decode cX10_judge 14 = .ok (.putfield 84, 3) := al_X10_judge_0 (14, (.putfield 84, 3)) (List.mem_of_getElem? (i := 7) rfl)
theorem dX10_judge_17 : decode cX10_judge 17 = .ok (.aload_n 0, 1) := al_X10_judge_0 (17, (.aload_n 0, 1)) (List.mem_of_getElem? (i := 8) rfl)
theorem dX10_judge_18 : decode cX10_judge 18 = .ok (.iload_n 1, 1) := al_X10_judge_0 (18, (.iload_n 1, 1)) (List.mem_of_getElem? (i := 9) rfl)
theorem dX10_judge_19 : decode cX10_judge 19 = .ok (.invokevirtual 149, 3) := al_X10_judge_0 (19, (.invokevirtual 149, 3)) (List.mem_of_getElem? (i := 10) rfl)
theorem dX10_judge_22 : decode cX10_judge 22 = .ok (.aload_n 0, 1) := al_X10_judge_0 (22, (.aload_n 0, 1)) (List.mem_of_getElem? (i := 11) rfl)
theorem dX10_judge_23 : decode cX10_judge 23 = .ok (.iload_n 2, 1) := al_X10_judge_0 (23, (.iload_n 2, 1)) (List.mem_of_getElem? (i := 12) rfl)
theorem dX10_judge_24 : decode cX10_judge 24 = .ok (.invokevirtual 149, 3) := al_X10_judge_0 (24, (.invokevirtual 149, 3)) (List.mem_of_getElem? (i := 13) rfl)
theorem dX10_judge_27 : decode cX10_judge 27 = .ok (.iload_n 3, 1) := al_X10_judge_0 (27, (.iload_n 3, 1)) (List.mem_of_getElem? (i := 14) rfl)
theorem dX10_judge_28 : decode cX10_judge 28 = .ok (.ifCond .lt 15, 3) := al_X10_judge_0 (28, (.ifCond .lt 15, 3)) (List.mem_of_getElem? (i := 15) rfl)
theorem dX10_judge_31 : decode cX10_judge 31 = .ok (.aload_n 0, 1) := al_X10_judge_0 (31, (.aload_n 0, 1)) (List.mem_of_getElem? (i := 16) rfl)
theorem dX10_judge_32 : decode cX10_judge 32 = .ok (.getfield 12, 3) := al_X10_judge_0 (32, (.getfield 12, 3)) (List.mem_of_getElem? (i := 17) rfl)
theorem dX10_judge_35 : decode cX10_judge 35 = .ok (.iload 4, 2) := al_X10_judge_0 (35, (.iload 4, 2)) (List.mem_of_getElem? (i := 18) rfl)
theorem dX10_judge_37 : decode cX10_judge 37 = .ok (.invokevirtual 177, 3) := al_X10_judge_0 (37, (.invokevirtual 177, 3)) (List.mem_of_getElem? (i := 19) rfl)
theorem dX10_judge_40 : decode cX10_judge 40 = .ok (.ifCond .ne 13, 3) := al_X10_judge_0 (40, (.ifCond .ne 13, 3)) (List.mem_of_getElem? (i := 20) rfl)
theorem dX10_judge_43 : decode cX10_judge 43 = .ok (.new 102, 3) := al_X10_judge_0 (43, (.new 102, 3)) (List.mem_of_getElem? (i := 21) rfl)
theorem dX10_judge_46 : decode cX10_judge 46 = .ok (.dup, 1) := al_X10_judge_0 (46, (.dup, 1)) (List.mem_of_getElem? (i := 22) rfl)
theorem dX10_judge_47 : decode cX10_judge 47 = .ok (.ldc 180, 2) := al_X10_judge_0 (47, (.ldc 180, 2)) (List.mem_of_getElem? (i := 23) rfl)
theorem dX10_judge_49 : decode cX10_judge 49 = .ok (.invokespecial 106, 3) := al_X10_judge_0 (49, (.invokespecial 106, 3)) (List.mem_of_getElem? (i := 24) rfl)
theorem dX10_judge_52 : decode cX10_judge 52 = .ok (.athrow, 1) := al_X10_judge_0 (52, (.athrow, 1)) (List.mem_of_getElem? (i := 25) rfl)
theorem dX10_judge_53 : decode cX10_judge 53 = .ok (.aload_n 0, 1) := al_X10_judge_0 (53, (.aload_n 0, 1)) (List.mem_of_getElem? (i := 26) rfl)
theorem dX10_judge_54 : decode cX10_judge 54 = .ok (.getfield 19, 3) := al_X10_judge_0 (54, (.getfield 19, 3)) (List.mem_of_getElem? (i := 27) rfl)
theorem dX10_judge_57 : decode cX10_judge 57 = .ok (.iload_n 1, 1) := al_X10_judge_0 (57, (.iload_n 1, 1)) (List.mem_of_getElem? (i := 28) rfl)
theorem dX10_judge_58 : decode cX10_judge 58 = .ok (.iconst 0, 1) := al_X10_judge_0 (58, (.iconst 0, 1)) (List.mem_of_getElem? (i := 29) rfl)
theorem dX10_judge_59 : decode cX10_judge 59 = .ok (.iload_n 2, 1) := al_X10_judge_0 (59, (.iload_n 2, 1)) (List.mem_of_getElem? (i := 30) rfl)
theorem dX10_judge_60 : decode cX10_judge 60 = .ok (.iconst 0, 1) := al_X10_judge_0 (60, (.iconst 0, 1)) (List.mem_of_getElem? (i := 31) rfl)
theorem dX10_judge_61 : decode cX10_judge 61 = .ok (.iload_n 3, 1) := al_X10_judge_0 (61, (.iload_n 3, 1)) (List.mem_of_getElem? (i := 32) rfl)
theorem dX10_judge_62 : decode cX10_judge 62 = .ok (.invokevirtual 182, 3) := al_X10_judge_0 (62, (.invokevirtual 182, 3)) (List.mem_of_getElem? (i := 33) rfl)
theorem dX10_judge_65 : decode cX10_judge 65 = .ok (.ifCond .ne 6, 3) := al_X10_judge_0 (65, (.ifCond .ne 6, 3)) (List.mem_of_getElem? (i := 34) rfl)
theorem dX10_judge_68 : decode cX10_judge 68 = .ok (.bipush (-2), 2) := al_X10_judge_0 (68, (.bipush (-2), 2)) (List.mem_of_getElem? (i := 35) rfl)
theorem dX10_judge_70 : decode cX10_judge 70 = .ok (.ireturn, 1) := al_X10_judge_0 (70, (.ireturn, 1)) (List.mem_of_getElem? (i := 36) rfl)
theorem dX10_judge_71 : decode cX10_judge 71 = .ok (.iconst 0, 1) := al_X10_judge_0 (71, (.iconst 0, 1)) (List.mem_of_getElem? (i := 37) rfl)
theorem dX10_judge_72 : decode cX10_judge 72 = .ok (.istore 5, 2) := al_X10_judge_0 (72, (.istore 5, 2)) (List.mem_of_getElem? (i := 38) rfl)
theorem dX10_judge_74 : decode cX10_judge 74 = .ok (.iconst 0, 1) := al_X10_judge_0 (74, (.iconst 0, 1)) (List.mem_of_getElem? (i := 39) rfl)
theorem dX10_judge_75 : decode cX10_judge 75 = .ok (.istore 6, 2) := al_X10_judge_0 (75, (.istore 6, 2)) (List.mem_of_getElem? (i := 40) rfl)
theorem dX10_judge_77 : decode cX10_judge 77 = .ok (.iconst 0, 1) := al_X10_judge_0 (77, (.iconst 0, 1)) (List.mem_of_getElem? (i := 41) rfl)
theorem dX10_judge_78 : decode cX10_judge 78 = .ok (.istore 7, 2) := al_X10_judge_0 (78, (.istore 7, 2)) (List.mem_of_getElem? (i := 42) rfl)
theorem dX10_judge_80 : decode cX10_judge 80 = .ok (.iload 7, 2) := al_X10_judge_0 (80, (.iload 7, 2)) (List.mem_of_getElem? (i := 43) rfl)
theorem dX10_judge_82 : decode cX10_judge 82 = .ok (.iload 4, 2) := al_X10_judge_0 (82, (.iload 4, 2)) (List.mem_of_getElem? (i := 44) rfl)
theorem dX10_judge_84 : decode cX10_judge 84 = .ok (.if_icmp .ge 60, 3) := al_X10_judge_0 (84, (.if_icmp .ge 60, 3)) (List.mem_of_getElem? (i := 45) rfl)
theorem dX10_judge_87 : decode cX10_judge 87 = .ok (.aload_n 0, 1) := al_X10_judge_0 (87, (.aload_n 0, 1)) (List.mem_of_getElem? (i := 46) rfl)
theorem dX10_judge_88 : decode cX10_judge 88 = .ok (.getfield 12, 3) := al_X10_judge_0 (88, (.getfield 12, 3)) (List.mem_of_getElem? (i := 47) rfl)
theorem dX10_judge_91 : decode cX10_judge 91 = .ok (.iload 7, 2) := al_X10_judge_0 (91, (.iload 7, 2)) (List.mem_of_getElem? (i := 48) rfl)
theorem dX10_judge_93 : decode cX10_judge 93 = .ok (.invokevirtual 186, 3) := al_X10_judge_0 (93, (.invokevirtual 186, 3)) (List.mem_of_getElem? (i := 49) rfl)
theorem dX10_judge_96 : decode cX10_judge 96 = .ok (.istore 8, 2) := al_X10_judge_0 (96, (.istore 8, 2)) (List.mem_of_getElem? (i := 50) rfl)
theorem dX10_judge_98 : decode cX10_judge 98 = .ok (.iload 5, 2) := al_X10_judge_0 (98, (.iload 5, 2)) (List.mem_of_getElem? (i := 51) rfl)
theorem dX10_judge_100 : decode cX10_judge 100 = .ok (.iload 8, 2) := al_X10_judge_0 (100, (.iload 8, 2)) (List.mem_of_getElem? (i := 52) rfl)
theorem dX10_judge_102 : decode cX10_judge 102 = .ok (.invokestatic 189, 3) := al_X10_judge_0 (102, (.invokestatic 189, 3)) (List.mem_of_getElem? (i := 53) rfl)
theorem dX10_judge_105 : decode cX10_judge 105 = .ok (.iadd, 1) := al_X10_judge_0 (105, (.iadd, 1)) (List.mem_of_getElem? (i := 54) rfl)
theorem dX10_judge_106 : decode cX10_judge 106 = .ok (.istore 5, 2) := al_X10_judge_0 (106, (.istore 5, 2)) (List.mem_of_getElem? (i := 55) rfl)
theorem dX10_judge_108 : decode cX10_judge 108 = .ok (.iload 6, 2) := al_X10_judge_0 (108, (.iload 6, 2)) (List.mem_of_getElem? (i := 56) rfl)
theorem dX10_judge_110 : decode cX10_judge 110 = .ok (.iload 8, 2) := al_X10_judge_0 (110, (.iload 8, 2)) (List.mem_of_getElem? (i := 57) rfl)
theorem dX10_judge_112 : decode cX10_judge 112 = .ok (.invokestatic 192, 3) := al_X10_judge_0 (112, (.invokestatic 192, 3)) (List.mem_of_getElem? (i := 58) rfl)
theorem dX10_judge_115 : decode cX10_judge 115 = .ok (.iadd, 1) := al_X10_judge_0 (115, (.iadd, 1)) (List.mem_of_getElem? (i := 59) rfl)
def in_X10_judge_1 : List (Nat × Instr × Nat) := [(116, (.istore 6, 2)), (118, (.aload_n 0, 1)), (119, (.getfield 19, 3)), (122, (.iload_n 1, 1)), (123, (.iload 5, 2)), (125, (.iload_n 2, 1)), (126, (.iload 6, 2)), (128, (.iload_n 3, 1)), (129, (.invokevirtual 182, 3)), (132, (.ifCond .ne 6, 3)), (135, (.iload 7, 2)), (137, (.ireturn, 1)), (138, (.iinc 7 1, 3)), (141, (.goto (-61), 3)), (144, (.iconst (-1), 1)), (145, (.ireturn, 1))]
theorem al_X10_judge_1 : ∀ q ∈ in_X10_judge_1, decode cX10_judge q.1 = .ok q.2 := by decide +kernel
theorem dX10_judge_116 : decode cX10_judge 116 = .ok (.istore 6, 2) := al_X10_judge_1 (116, (.istore 6, 2)) (List.mem_of_getElem? (i := 0) rfl)
theorem dX10_judge_118 : decode cX10_judge 118 = .ok (.aload_n 0, 1) := al_X10_judge_1 (118, (.aload_n 0, 1)) (List.mem_of_getElem? (i := 1) rfl)
theorem dX10_judge_119 : decode cX10_judge 119 = .ok (.getfield 19, 3) := al_X10_judge_1 (119, (.getfield 19, 3)) (List.mem_of_getElem? (i := 2) rfl)
theorem dX10_judge_122 : decode cX10_judge 122 = .ok (.iload_n 1, 1) := al_X10_judge_1 (122, (.iload_n 1, 1)) (List.mem_of_getElem? (i := 3) rfl)
theorem dX10_judge_123 : decode cX10_judge 123 = .ok (.iload 5, 2) := al_X10_judge_1 (123, (.iload 5, 2)) (List.mem_of_getElem? (i := 4) rfl)
theorem dX10_judge_125 : decode cX10_judge 125 = .ok (.iload_n 2, 1) := al_X10_judge_1 (125, (.iload_n 2, 1)) (List.mem_of_getElem? (i := 5) rfl)
theorem dX10_judge_126 : decode cX10_judge 126 = .ok (.iload 6, 2) := al_X10_judge_1 (126, (.iload 6, 2)) (List.mem_of_getElem? (i := 6) rfl)
theorem dX10_judge_128 : decode cX10_judge 128 = .ok (.iload_n 3, 1) := al_X10_judge_1 (128, (.iload_n 3, 1)) (List.mem_of_getElem? (i := 7) rfl)
theorem dX10_judge_129 : decode cX10_judge 129 = .ok (.invokevirtual 182, 3) := al_X10_judge_1 (129, (.invokevirtual 182, 3)) (List.mem_of_getElem? (i := 8) rfl)
theorem dX10_judge_132 : decode cX10_judge 132 = .ok (.ifCond .ne 6, 3) := al_X10_judge_1 (132, (.ifCond .ne 6, 3)) (List.mem_of_getElem? (i := 9) rfl)
theorem dX10_judge_135 : decode cX10_judge 135 = .ok (.iload 7, 2) := al_X10_judge_1 (135, (.iload 7, 2)) (List.mem_of_getElem? (i := 10) rfl)
theorem dX10_judge_137 : decode cX10_judge 137 = .ok (.ireturn, 1) := al_X10_judge_1 (137, (.ireturn, 1)) (List.mem_of_getElem? (i := 11) rfl)
theorem dX10_judge_138 : decode cX10_judge 138 = .ok (.iinc 7 1, 3) := al_X10_judge_1 (138, (.iinc 7 1, 3)) (List.mem_of_getElem? (i := 12) rfl)
theorem dX10_judge_141 : decode cX10_judge 141 = .ok (.goto (-61), 3) := al_X10_judge_1 (141, (.goto (-61), 3)) (List.mem_of_getElem? (i := 13) rfl)
theorem dX10_judge_144 : decode cX10_judge 144 = .ok (.iconst (-1), 1) := al_X10_judge_1 (144, (.iconst (-1), 1)) (List.mem_of_getElem? (i := 14) rfl)
theorem dX10_judge_145 : decode cX10_judge 145 = .ok (.ireturn, 1) := al_X10_judge_1 (145, (.ireturn, 1)) (List.mem_of_getElem? (i := 15) rfl)
def in_X10_parts_0 : List (Nat × Instr × Nat) := [(0, (.aload_n 0, 1)), (1, (.iload_n 1, 1)), (2, (.invokevirtual 149, 3)), (5, (.aload_n 0, 1)), (6, (.iload_n 2, 1)), (7, (.invokevirtual 149, 3)), (10, (.iload_n 3, 1)), (11, (.iconst 1, 1)), (12, (.if_icmp .lt 9, 3)), (15, (.iload_n 3, 1)), (16, (.bipush 8, 2)), (18, (.if_icmp .le 13, 3)), (21, (.new 102, 3)), (24, (.dup, 1)), (25, (.ldc 195, 2)), (27, (.invokespecial 106, 3)), (30, (.athrow, 1)), (31, (.aload_n 0, 1)), (32, (.getfield 57, 3)), (35, (.aload_n 0, 1)), (36, (.getfield 19, 3)), (39, (.getfield 87, 3)), (42, (.iload_n 1, 1)), (43, (.iload_n 2, 1)), (44, (.iload_n 3, 1)), (45, (.invokevirtual 197, 3)), (48, (.i2l, 1)), (49, (.lreturn, 1))]
theorem al_X10_parts_0 : ∀ q ∈ in_X10_parts_0, decode cX10_parts q.1 = .ok q.2 := by decide +kernel
theorem dX10_parts_0 : decode cX10_parts 0 = .ok (.aload_n 0, 1) := al_X10_parts_0 (0, (.aload_n 0, 1)) (List.mem_of_getElem? (i := 0) rfl)
theorem dX10_parts_1 : decode cX10_parts 1 = .ok (.iload_n 1, 1) := al_X10_parts_0 (1, (.iload_n 1, 1)) (List.mem_of_getElem? (i := 1) rfl)
theorem dX10_parts_2 : decode cX10_parts 2 = .ok (.invokevirtual 149, 3) := al_X10_parts_0 (2, (.invokevirtual 149, 3)) (List.mem_of_getElem? (i := 2) rfl)
theorem dX10_parts_5 : decode cX10_parts 5 = .ok (.aload_n 0, 1) := al_X10_parts_0 (5, (.aload_n 0, 1)) (List.mem_of_getElem? (i := 3) rfl)
theorem dX10_parts_6 : decode cX10_parts 6 = .ok (.iload_n 2, 1) := al_X10_parts_0 (6, (.iload_n 2, 1)) (List.mem_of_getElem? (i := 4) rfl)
theorem dX10_parts_7 : decode cX10_parts 7 = .ok (.invokevirtual 149, 3) := al_X10_parts_0 (7, (.invokevirtual 149, 3)) (List.mem_of_getElem? (i := 5) rfl)
theorem dX10_parts_10 : decode cX10_parts 10 = .ok (.iload_n 3, 1) := al_X10_parts_0 (10, (.iload_n 3, 1)) (List.mem_of_getElem? (i := 6) rfl)
theorem dX10_parts_11 : decode cX10_parts 11 = .ok (.iconst 1, 1) := al_X10_parts_0 (11, (.iconst 1, 1)) (List.mem_of_getElem? (i := 7) rfl)
theorem dX10_parts_12 : decode cX10_parts 12 = .ok (.if_icmp .lt 9, 3) := al_X10_parts_0 (12, (.if_icmp .lt 9, 3)) (List.mem_of_getElem? (i := 8) rfl)
theorem dX10_parts_15 : decode cX10_parts 15 = .ok (.iload_n 3, 1) := al_X10_parts_0 (15, (.iload_n 3, 1)) (List.mem_of_getElem? (i := 9) rfl)
theorem dX10_parts_16 : decode cX10_parts 16 = .ok (.bipush 8, 2) := al_X10_parts_0 (16, (.bipush 8, 2)) (List.mem_of_getElem? (i := 10) rfl)
theorem dX10_parts_18 : decode cX10_parts 18 = .ok (.if_icmp .le 13, 3) := al_X10_parts_0 (18, (.if_icmp .le 13, 3)) (List.mem_of_getElem? (i := 11) rfl)
theorem dX10_parts_21 : decode cX10_parts 21 = .ok (.new 102, 3) := al_X10_parts_0 (21, (.new 102, 3)) (List.mem_of_getElem? (i := 12) rfl)
theorem dX10_parts_24 : decode cX10_parts 24 = .ok (.dup, 1) := al_X10_parts_0 (24, (.dup, 1)) (List.mem_of_getElem? (i := 13) rfl)
theorem dX10_parts_25 : decode cX10_parts 25 = .ok (.ldc 195, 2) := al_X10_parts_0 (25, (.ldc 195, 2)) (List.mem_of_getElem? (i := 14) rfl)
theorem dX10_parts_27 : decode cX10_parts 27 = .ok (.invokespecial 106, 3) := al_X10_parts_0 (27, (.invokespecial 106, 3)) (List.mem_of_getElem? (i := 15) rfl)
theorem dX10_parts_30 : decode cX10_parts 30 = .ok (.athrow, 1) := al_X10_parts_0 (30, (.athrow, 1)) (List.mem_of_getElem? (i := 16) rfl)
theorem dX10_parts_31 : decode cX10_parts 31 = .ok (.aload_n 0, 1) := al_X10_parts_0 (31, (.aload_n 0, 1)) (List.mem_of_getElem? (i := 17) rfl)
theorem dX10_parts_32 : decode cX10_parts 32 = .ok (.getfield 57, 3) := al_X10_parts_0 (32, (.getfield 57, 3)) (List.mem_of_getElem? (i := 18) rfl)
theorem dX10_parts_35 : decode cX10_parts 35 = .ok (.aload_n 0, 1) := al_X10_parts_0 (35, (.aload_n 0, 1)) (List.mem_of_getElem? (i := 19) rfl)
theorem dX10_parts_36 : decode cX10_parts 36 = .ok (.getfield 19, 3) := al_X10_parts_0 (36, (.getfield 19, 3)) (List.mem_of_getElem? (i := 20) rfl)
theorem dX10_parts_39 : decode cX10_parts 39 = .ok (.getfield 87, 3) := al_X10_parts_0 (39, (.getfield 87, 3)) (List.mem_of_getElem? (i := 21) rfl)
theorem dX10_parts_42 : decode cX10_parts 42 = .ok (.iload_n 1, 1) := al_X10_parts_0 (42, (.iload_n 1, 1)) (List.mem_of_getElem? (i := 22) rfl)
theorem dX10_parts_43 : decode cX10_parts 43 = .ok (.iload_n 2, 1) := al_X10_parts_0 (43, (.iload_n 2, 1)) (List.mem_of_getElem? (i := 23) rfl)
theorem dX10_parts_44 : decode cX10_parts 44 = .ok (.iload_n 3, 1) := al_X10_parts_0 (44, (.iload_n 3, 1)) (List.mem_of_getElem? (i := 24) rfl)
theorem dX10_parts_45 : decode cX10_parts 45 = .ok (.invokevirtual 197, 3) := al_X10_parts_0 (45, (.invokevirtual 197, 3)) (List.mem_of_getElem? (i := 25) rfl)
theorem dX10_parts_48 : decode cX10_parts 48 = .ok (.i2l, 1) := al_X10_parts_0 (48, (.i2l, 1)) (List.mem_of_getElem? (i := 26) rfl)
theorem dX10_parts_49 : decode cX10_parts 49 = .ok (.lreturn, 1) := al_X10_parts_0 (49, (.lreturn, 1)) (List.mem_of_getElem? (i := 27) rfl)
def in_X10_back_0 : List (Nat × Instr × Nat) := [(0, (.aload_n 0, 1)), (1, (.iload_n 1, 1)), (2, (.invokevirtual 149, 3)), (5, (.aload_n 0, 1)), (6, (.iload_n 2, 1)), (7, (.invokevirtual 149, 3)), (10, (.aload_n 0, 1)), (11, (.getfield 43, 3)), (14, (.aload_n 0, 1)), (15, (.getfield 19, 3)), (18, (.iload_n 1, 1)), (19, (.iload_n 2, 1)), (20, (.invokevirtual 201, 3)), (23, (.aload_n 0, 1)), (24, (.getfield 43, 3)), (27, (.invokevirtual 205, 3)), (30, (.invokestatic 208, 3)), (33, (.ireturn, 1))]
theorem al_X10_back_0 : ∀ q ∈ in_X10_back_0, decode cX10_back q.1 = .ok q.2 := by decide +kernel
theorem dX10_back_0 : decode cX10_back 0 = .ok (.aload_n 0, 1) := al_X10_back_0 (0, (.aload_n 0, 1)) (List.mem_of_getElem? (i := 0) rfl)
theorem dX10_back_1 : decode cX10_back 1 = .ok (.iload_n 1, 1) := al_X10_back_0 (1, (.iload_n 1, 1)) (List.mem_of_getElem? (i := 1) rfl)
theorem dX10_back_2 : decode cX10_back 2 = .ok (.invokevirtual 149, 3) := al_X10_back_0 (2, (.invokevirtual 149, 3)) (List.mem_of_getElem? (i := 2) rfl)
theorem dX10_back_5 : decode cX10_back 5 = .ok (.aload_n 0, 1) := al_X10_back_0 (5, (.aload_n 0, 1)) (List.mem_of_getElem? (i := 3) rfl)
theorem dX10_back_6 : decode cX10_back 6 = .ok (.iload_n 2, 1) := al_X10_back_0 (6, (.iload_n 2, 1)) (List.mem_of_getElem? (i := 4) rfl)
theorem dX10_back_7 : decode cX10_back 7 = .ok (.invokevirtual 149, 3) := al_X10_back_0 (7, (.invokevirtual 149, 3)) (List.mem_of_getElem? (i := 5) rfl)
theorem dX10_back_10 : decode cX10_back 10 = .ok (.aload_n 0, 1) := al_X10_back_0 (10, (.aload_n 0, 1)) (List.mem_of_getElem? (i := 6) rfl)
theorem dX10_back_11 : decode cX10_back 11 = .ok (.getfield 43, 3) := al_X10_back_0 (11, (.getfield 43, 3)) (List.mem_of_getElem? (i := 7) rfl)
theorem dX10_back_14 : decode cX10_back 14 = .ok (.aload_n 0, 1) := al_X10_back_0 (14, (.aload_n 0, 1)) (List.mem_of_getElem? (i := 8) rfl)
theorem dX10_back_15 : decode cX10_back 15 = .ok (.getfield 19, 3) := al_X10_back_0 (15, (.getfield 19, 3)) (List.mem_of_getElem? (i := 9) rfl)
theorem dX10_back_18 : decode cX10_back 18 = .ok (.iload_n 1, 1) := al_X10_back_0 (18, (.iload_n 1, 1)) (List.mem_of_getElem? (i := 10) rfl)
theorem dX10_back_19 : decode cX10_back 19 = .ok (.iload_n 2, 1) := al_X10_back_0 (19, (.iload_n 2, 1)) (List.mem_of_getElem? (i := 11) rfl)
theorem dX10_back_20 : decode cX10_back 20 = .ok (.invokevirtual 201, 3) := al_X10_back_0 (20, (.invokevirtual 201, 3)) (List.mem_of_getElem? (i := 12) rfl)
theorem dX10_back_23 : decode cX10_back 23 = .ok (.aload_n 0, 1) := al_X10_back_0 (23, (.aload_n 0, 1)) (List.mem_of_getElem? (i := 13) rfl)
theorem dX10_back_24 : decode cX10_back 24 = .ok (.getfield 43, 3) := al_X10_back_0 (24, (.getfield 43, 3)) (List.mem_of_getElem? (i := 14) rfl)
theorem dX10_back_27 : decode cX10_back 27 = .ok (.invokevirtual 205, 3) := al_X10_back_0 (27, (.invokevirtual 205, 3)) (List.mem_of_getElem? (i := 15) rfl)
theorem dX10_back_30 : decode cX10_back 30 = .ok (.invokestatic 208, 3) := al_X10_back_0 (30, (.invokestatic 208, 3)) (List.mem_of_getElem? (i := 16) rfl)
theorem dX10_back_33 : decode cX10_back 33 = .ok (.ireturn, 1) := al_X10_back_0 (33, (.ireturn, 1)) (List.mem_of_getElem? (i := 17) rfl)
def in_X10_ring_0 : List (Nat × Instr × Nat) := [(0, (.aload_n 0, 1)), (1, (.iload_n 1, 1)), (2, (.invokevirtual 149, 3)), (5, (.aload_n 0, 1)), (6, (.iload_n 2, 1)), (7, (.invokevirtual 149, 3)), (10, (.aload_n 0, 1)), (11, (.getfield 43, 3)), (14, (.aload_n 0, 1)), (15, (.getfield 19, 3)), (18, (.iload_n 1, 1)), (19, (.iload_n 2, 1)), (20, (.invokevirtual 201, 3)), (23, (.aload_n 0, 1)), (24, (.getfield 43, 3)), (27, (.iload_n 3, 1)), (28, (.invokevirtual 211, 3)), (31, (.ireturn, 1))]
theorem al_X10_ring_0 : ∀ q ∈ in_X10_ring_0, decode cX10_ring q.1 = .ok q.2 := by decide +kernel
theorem dX10_ring_0 : decode cX10_ring 0 = .ok (.aload_n 0, 1) := al_X10_ring_0 (0, (.aload_n 0, 1)) (List.mem_of_getElem? (i := 0) rfl)
theorem dX10_ring_1 : decode cX10_ring 1 = .ok (.iload_n 1, 1) := al_X10_ring_0 (1, (.iload_n 1, 1)) (List.mem_of_getElem? (i := 1) rfl)
theorem dX10_ring_2 : decode cX10_ring 2 = .ok (.invokevirtual 149, 3) := al_X10_ring_0 (2, (.invokevirtual 149, 3)) (List.mem_of_getElem? (i := 2) rfl)
theorem dX10_ring_5 : decode cX10_ring 5 = .ok (.aload_n 0, 1) := al_X10_ring_0 (5, (.aload_n 0, 1)) (List.mem_of_getElem? (i := 3) rfl)
theorem dX10_ring_6 : decode cX10_ring 6 = .ok (.iload_n 2, 1) := al_X10_ring_0 (6, (.iload_n 2, 1)) (List.mem_of_getElem? (i := 4) rfl)
theorem dX10_ring_7 : decode cX10_ring 7 = .ok (.invokevirtual 149, 3) := al_X10_ring_0 (7, (.invokevirtual 149, 3)) (List.mem_of_getElem? (i := 5) rfl)
theorem dX10_ring_10 : decode cX10_ring 10 = .ok (.aload_n 0, 1) := al_X10_ring_0 (10, (.aload_n 0, 1)) (List.mem_of_getElem? (i := 6) rfl)
theorem dX10_ring_11 : decode cX10_ring 11 = .ok (.getfield 43, 3) := al_X10_ring_0 (11, (.getfield 43, 3)) (List.mem_of_getElem? (i := 7) rfl)
theorem dX10_ring_14 : decode cX10_ring 14 = .ok (.aload_n 0, 1) := al_X10_ring_0 (14, (.aload_n 0, 1)) (List.mem_of_getElem? (i := 8) rfl)
theorem dX10_ring_15 : decode cX10_ring 15 = .ok (.getfield 19, 3) := al_X10_ring_0 (15, (.getfield 19, 3)) (List.mem_of_getElem? (i := 9) rfl)
theorem dX10_ring_18 : decode cX10_ring 18 = .ok (.iload_n 1, 1) := al_X10_ring_0 (18, (.iload_n 1, 1)) (List.mem_of_getElem? (i := 10) rfl)
theorem dX10_ring_19 : decode cX10_ring 19 = .ok (.iload_n 2, 1) := al_X10_ring_0 (19, (.iload_n 2, 1)) (List.mem_of_getElem? (i := 11) rfl)
theorem dX10_ring_20 : decode cX10_ring 20 = .ok (.invokevirtual 201, 3) := al_X10_ring_0 (20, (.invokevirtual 201, 3)) (List.mem_of_getElem? (i := 12) rfl)
theorem dX10_ring_23 : decode cX10_ring 23 = .ok (.aload_n 0, 1) := al_X10_ring_0 (23, (.aload_n 0, 1)) (List.mem_of_getElem? (i := 13) rfl)
theorem dX10_ring_24 : decode cX10_ring 24 = .ok (.getfield 43, 3) := al_X10_ring_0 (24, (.getfield 43, 3)) (List.mem_of_getElem? (i := 14) rfl)
theorem dX10_ring_27 : decode cX10_ring 27 = .ok (.iload_n 3, 1) := al_X10_ring_0 (27, (.iload_n 3, 1)) (List.mem_of_getElem? (i := 15) rfl)
theorem dX10_ring_28 : decode cX10_ring 28 = .ok (.invokevirtual 211, 3) := al_X10_ring_0 (28, (.invokevirtual 211, 3)) (List.mem_of_getElem? (i := 16) rfl)
theorem dX10_ring_31 : decode cX10_ring 31 = .ok (.ireturn, 1) := al_X10_ring_0 (31, (.ireturn, 1)) (List.mem_of_getElem? (i := 17) rfl)
def in_X10_dogs_0 : List (Nat × Instr × Nat) := [(0, (.aload_n 0, 1)), (1, (.iload_n 1, 1)), (2, (.invokevirtual 149, 3)), (5, (.aload_n 0, 1)), (6, (.iload_n 2, 1)), (7, (.invokevirtual 149, 3)), (10, (.aload_n 0, 1)), (11, (.iload_n 3, 1)), (12, (.invokevirtual 149, 3)), (15, (.aload_n 0, 1)), (16, (.getfield 50, 3)), (19, (.aload_n 0, 1)), (20, (.getfield 19, 3)), (23, (.iload_n 1, 1)), (24, (.iload_n 2, 1)), (25, (.iload_n 3, 1)), (26, (.iconst 0, 1)), (27, (.invokevirtual 215, 3)), (30, (.invokestatic 208, 3)), (33, (.ireturn, 1))]
theorem al_X10_dogs_0 : ∀ q ∈ in_X10_dogs_0, decode cX10_dogs q.1 = .ok q.2 := by decide +kernel
theorem dX10_dogs_0 : decode cX10_dogs 0 = .ok (.aload_n 0, 1) := al_X10_dogs_0 (0, (.aload_n 0, 1)) (List.mem_of_getElem? (i := 0) rfl)
theorem dX10_dogs_1 : decode cX10_dogs 1 = .ok (.iload_n 1, 1) := al_X10_dogs_0 (1, (.iload_n 1, 1)) (List.mem_of_getElem? (i := 1) rfl)
theorem dX10_dogs_2 : decode cX10_dogs 2 = .ok (.invokevirtual 149, 3) := al_X10_dogs_0 (2, (.invokevirtual 149, 3)) (List.mem_of_getElem? (i := 2) rfl)
theorem dX10_dogs_5 : decode cX10_dogs 5 = .ok (.aload_n 0, 1) := al_X10_dogs_0 (5, (.aload_n 0, 1)) (List.mem_of_getElem? (i := 3) rfl)
theorem dX10_dogs_6 : decode cX10_dogs 6 = .ok (.iload_n 2, 1) := al_X10_dogs_0 (6, (.iload_n 2, 1)) (List.mem_of_getElem? (i := 4) rfl)
theorem dX10_dogs_7 : decode cX10_dogs 7 = .ok (.invokevirtual 149, 3) := al_X10_dogs_0 (7, (.invokevirtual 149, 3)) (List.mem_of_getElem? (i := 5) rfl)
theorem dX10_dogs_10 : decode cX10_dogs 10 = .ok (.aload_n 0, 1) := al_X10_dogs_0 (10, (.aload_n 0, 1)) (List.mem_of_getElem? (i := 6) rfl)
theorem dX10_dogs_11 : decode cX10_dogs 11 = .ok (.iload_n 3, 1) := al_X10_dogs_0 (11, (.iload_n 3, 1)) (List.mem_of_getElem? (i := 7) rfl)
theorem dX10_dogs_12 : decode cX10_dogs 12 = .ok (.invokevirtual 149, 3) := al_X10_dogs_0 (12, (.invokevirtual 149, 3)) (List.mem_of_getElem? (i := 8) rfl)
theorem dX10_dogs_15 : decode cX10_dogs 15 = .ok (.aload_n 0, 1) := al_X10_dogs_0 (15, (.aload_n 0, 1)) (List.mem_of_getElem? (i := 9) rfl)
theorem dX10_dogs_16 : decode cX10_dogs 16 = .ok (.getfield 50, 3) := al_X10_dogs_0 (16, (.getfield 50, 3)) (List.mem_of_getElem? (i := 10) rfl)
theorem dX10_dogs_19 : decode cX10_dogs 19 = .ok (.aload_n 0, 1) := al_X10_dogs_0 (19, (.aload_n 0, 1)) (List.mem_of_getElem? (i := 11) rfl)
theorem dX10_dogs_20 : decode cX10_dogs 20 = .ok (.getfield 19, 3) := al_X10_dogs_0 (20, (.getfield 19, 3)) (List.mem_of_getElem? (i := 12) rfl)
theorem dX10_dogs_23 : decode cX10_dogs 23 = .ok (.iload_n 1, 1) := al_X10_dogs_0 (23, (.iload_n 1, 1)) (List.mem_of_getElem? (i := 13) rfl)
theorem dX10_dogs_24 : decode cX10_dogs 24 = .ok (.iload_n 2, 1) := al_X10_dogs_0 (24, (.iload_n 2, 1)) (List.mem_of_getElem? (i := 14) rfl)
theorem dX10_dogs_25 : decode cX10_dogs 25 = .ok (.iload_n 3, 1) := al_X10_dogs_0 (25, (.iload_n 3, 1)) (List.mem_of_getElem? (i := 15) rfl)
theorem dX10_dogs_26 : decode cX10_dogs 26 = .ok (.iconst 0, 1) := al_X10_dogs_0 (26, (.iconst 0, 1)) (List.mem_of_getElem? (i := 16) rfl)
theorem dX10_dogs_27 : decode cX10_dogs 27 = .ok (.invokevirtual 215, 3) := al_X10_dogs_0 (27, (.invokevirtual 215, 3)) (List.mem_of_getElem? (i := 17) rfl)
theorem dX10_dogs_30 : decode cX10_dogs 30 = .ok (.invokestatic 208, 3) := al_X10_dogs_0 (30, (.invokestatic 208, 3)) (List.mem_of_getElem? (i := 18) rfl)
theorem dX10_dogs_33 : decode cX10_dogs 33 = .ok (.ireturn, 1) := al_X10_dogs_0 (33, (.ireturn, 1)) (List.mem_of_getElem? (i := 19) rfl)
def in_X10_three_0 : List (Nat × Instr × Nat) := [(0, (.aload_n 0, 1)), (1, (.iload_n 1, 1)), (2, (.invokevirtual 149, 3)), (5, (.aload_n 0, 1)), (6, (.iload_n 2, 1)), (7, (.invokevirtual 149, 3)), (10, (.aload_n 0, 1)), (11, (.iload_n 3, 1)), (12, (.invokevirtual 149, 3)), (15, (.aload_n 0, 1)), (16, (.getfield 50, 3)), (19, (.aload_n 0, 1)), (20, (.getfield 19, 3)), (23, (.iload_n 1, 1)), (24, (.iload_n 2, 1)), (25, (.iload_n 3, 1)), (26, (.iconst 1, 1)), (27, (.invokevirtual 215, 3)), (30, (.invokestatic 208, 3)), (33, (.ireturn, 1))]
theorem al_X10_three_0 : ∀ q ∈ in_X10_three_0, decode cX10_three q.1 = .ok q.2 := by decide +kernel
theorem dX10_three_0 : decode cX10_three 0 = .ok (.aload_n 0, 1) := al_X10_three_0 (0, (.aload_n 0, 1)) (List.mem_of_getElem? (i := 0) rfl)
theorem dX10_three_1 : decode cX10_three 1 = .ok (.iload_n 1, 1) := al_X10_three_0 (1, (.iload_n 1, 1)) (List.mem_of_getElem? (i := 1) rfl)
theorem dX10_three_2 : decode cX10_three 2 = .ok (.invokevirtual 149, 3) := al_X10_three_0 (2, (.invokevirtual 149, 3)) (List.mem_of_getElem? (i := 2) rfl)
theorem dX10_three_5 : decode cX10_three 5 = .ok (.aload_n 0, 1) := al_X10_three_0 (5, (.aload_n 0, 1)) (List.mem_of_getElem? (i := 3) rfl)
theorem dX10_three_6 : decode cX10_three 6 = .ok (.iload_n 2, 1) := al_X10_three_0 (6, (.iload_n 2, 1)) (List.mem_of_getElem? (i := 4) rfl)
theorem dX10_three_7 : decode cX10_three 7 = .ok (.invokevirtual 149, 3) := al_X10_three_0 (7, (.invokevirtual 149, 3)) (List.mem_of_getElem? (i := 5) rfl)
theorem dX10_three_10 : decode cX10_three 10 = .ok (.aload_n 0, 1) := al_X10_three_0 (10, (.aload_n 0, 1)) (List.mem_of_getElem? (i := 6) rfl)
theorem dX10_three_11 : decode cX10_three 11 = .ok (.iload_n 3, 1) := al_X10_three_0 (11, (.iload_n 3, 1)) (List.mem_of_getElem? (i := 7) rfl)
theorem dX10_three_12 : decode cX10_three 12 = .ok (.invokevirtual 149, 3) := al_X10_three_0 (12, (.invokevirtual 149, 3)) (List.mem_of_getElem? (i := 8) rfl)
theorem dX10_three_15 : decode cX10_three 15 = .ok (.aload_n 0, 1) := al_X10_three_0 (15, (.aload_n 0, 1)) (List.mem_of_getElem? (i := 9) rfl)
theorem dX10_three_16 : decode cX10_three 16 = .ok (.getfield 50, 3) := al_X10_three_0 (16, (.getfield 50, 3)) (List.mem_of_getElem? (i := 10) rfl)
theorem dX10_three_19 : decode cX10_three 19 = .ok (.aload_n 0, 1) := al_X10_three_0 (19, (.aload_n 0, 1)) (List.mem_of_getElem? (i := 11) rfl)
theorem dX10_three_20 : decode cX10_three 20 = .ok (.getfield 19, 3) := al_X10_three_0 (20, (.getfield 19, 3)) (List.mem_of_getElem? (i := 12) rfl)
theorem dX10_three_23 : decode cX10_three 23 = .ok (.iload_n 1, 1) := al_X10_three_0 (23, (.iload_n 1, 1)) (List.mem_of_getElem? (i := 13) rfl)
theorem dX10_three_24 : decode cX10_three 24 = .ok (.iload_n 2, 1) := al_X10_three_0 (24, (.iload_n 2, 1)) (List.mem_of_getElem? (i := 14) rfl)
theorem dX10_three_25 : decode cX10_three 25 = .ok (.iload_n 3, 1) := al_X10_three_0 (25, (.iload_n 3, 1)) (List.mem_of_getElem? (i := 15) rfl)
theorem dX10_three_26 : decode cX10_three 26 = .ok (.iconst 1, 1) := al_X10_three_0 (26, (.iconst 1, 1)) (List.mem_of_getElem? (i := 16) rfl)
theorem dX10_three_27 : decode cX10_three 27 = .ok (.invokevirtual 215, 3) := al_X10_three_0 (27, (.invokevirtual 215, 3)) (List.mem_of_getElem? (i := 17) rfl)
theorem dX10_three_30 : decode cX10_three 30 = .ok (.invokestatic 208, 3) := al_X10_three_0 (30, (.invokestatic 208, 3)) (List.mem_of_getElem? (i := 18) rfl)
theorem dX10_three_33 : decode cX10_three 33 = .ok (.ireturn, 1) := al_X10_three_0 (33, (.ireturn, 1)) (List.mem_of_getElem? (i := 19) rfl)
def in_X10_drag_0 : List (Nat × Instr × Nat) := [(0, (.aload_n 0, 1)), (1, (.iload_n 1, 1)), (2, (.invokevirtual 149, 3)), (5, (.aload_n 0, 1)), (6, (.iload_n 2, 1)), (7, (.invokevirtual 149, 3)), (10, (.aload_n 0, 1)), (11, (.getfield 43, 3)), (14, (.aload_n 0, 1)), (15, (.getfield 19, 3)), (18, (.iload_n 1, 1)), (19, (.iload_n 2, 1)), (20, (.invokevirtual 201, 3)), (23, (.aload_n 0, 1)), (24, (.getfield 43, 3)), (27, (.invokevirtual 218, 3)), (30, (.invokestatic 208, 3)), (33, (.i2l, 1)), (34, (.lreturn, 1))]
theorem al_X10_drag_0 : ∀ q ∈ in_X10_drag_0, decode cX10_drag q.1 = .ok q.2 := by decide +kernel
theorem dX10_drag_0 : decode cX10_drag 0 = .ok (.aload_n 0, 1) := al_X10_drag_0 (0, (.aload_n 0, 1)) (List.mem_of_getElem? (i := 0) rfl)
theorem dX10_drag_1 : decode cX10_drag 1 = .ok (.iload_n 1, 1) := al_X10_drag_0 (1, (.iload_n 1, 1)) (List.mem_of_getElem? (i := 1) rfl)
theorem dX10_drag_2 : decode cX10_drag 2 = .ok (.invokevirtual 149, 3) := al_X10_drag_0 (2, (.invokevirtual 149, 3)) (List.mem_of_getElem? (i := 2) rfl)
theorem dX10_drag_5 : decode cX10_drag 5 = .ok (.aload_n 0, 1) := al_X10_drag_0 (5, (.aload_n 0, 1)) (List.mem_of_getElem? (i := 3) rfl)
theorem dX10_drag_6 : decode cX10_drag 6 = .ok (.iload_n 2, 1) := al_X10_drag_0 (6, (.iload_n 2, 1)) (List.mem_of_getElem? (i := 4) rfl)
theorem dX10_drag_7 : decode cX10_drag 7 = .ok (.invokevirtual 149, 3) := al_X10_drag_0 (7, (.invokevirtual 149, 3)) (List.mem_of_getElem? (i := 5) rfl)
theorem dX10_drag_10 : decode cX10_drag 10 = .ok (.aload_n 0, 1) := al_X10_drag_0 (10, (.aload_n 0, 1)) (List.mem_of_getElem? (i := 6) rfl)
theorem dX10_drag_11 : decode cX10_drag 11 = .ok (.getfield 43, 3) := al_X10_drag_0 (11, (.getfield 43, 3)) (List.mem_of_getElem? (i := 7) rfl)
theorem dX10_drag_14 : decode cX10_drag 14 = .ok (.aload_n 0, 1) := al_X10_drag_0 (14, (.aload_n 0, 1)) (List.mem_of_getElem? (i := 8) rfl)
theorem dX10_drag_15 : decode cX10_drag 15 = .ok (.getfield 19, 3) := al_X10_drag_0 (15, (.getfield 19, 3)) (List.mem_of_getElem? (i := 9) rfl)
theorem dX10_drag_18 : decode cX10_drag 18 = .ok (.iload_n 1, 1) := al_X10_drag_0 (18, (.iload_n 1, 1)) (List.mem_of_getElem? (i := 10) rfl)
theorem dX10_drag_19 : decode cX10_drag 19 = .ok (.iload_n 2, 1) := al_X10_drag_0 (19, (.iload_n 2, 1)) (List.mem_of_getElem? (i := 11) rfl)
theorem dX10_drag_20 : decode cX10_drag 20 = .ok (.invokevirtual 201, 3) := al_X10_drag_0 (20, (.invokevirtual 201, 3)) (List.mem_of_getElem? (i := 12) rfl)
theorem dX10_drag_23 : decode cX10_drag 23 = .ok (.aload_n 0, 1) := al_X10_drag_0 (23, (.aload_n 0, 1)) (List.mem_of_getElem? (i := 13) rfl)
theorem dX10_drag_24 : decode cX10_drag 24 = .ok (.getfield 43, 3) := al_X10_drag_0 (24, (.getfield 43, 3)) (List.mem_of_getElem? (i := 14) rfl)
theorem dX10_drag_27 : decode cX10_drag 27 = .ok (.invokevirtual 218, 3) := al_X10_drag_0 (27, (.invokevirtual 218, 3)) (List.mem_of_getElem? (i := 15) rfl)
theorem dX10_drag_30 : decode cX10_drag 30 = .ok (.invokestatic 208, 3) := al_X10_drag_0 (30, (.invokestatic 208, 3)) (List.mem_of_getElem? (i := 16) rfl)
theorem dX10_drag_33 : decode cX10_drag 33 = .ok (.i2l, 1) := al_X10_drag_0 (33, (.i2l, 1)) (List.mem_of_getElem? (i := 17) rfl)
theorem dX10_drag_34 : decode cX10_drag 34 = .ok (.lreturn, 1) := al_X10_drag_0 (34, (.lreturn, 1)) (List.mem_of_getElem? (i := 18) rfl)
def in_X10_nearest_0 : List (Nat × Instr × Nat) := [(0, (.aload_n 0, 1)), (1, (.iload_n 1, 1)), (2, (.invokevirtual 149, 3)), (5, (.aload_n 0, 1)), (6, (.iload_n 1, 1)), (7, (.iload_n 2, 1)), (8, (.invokevirtual 221, 3)), (11, (.ireturn, 1))]
theorem al_X10_nearest_0 : ∀ q ∈ in_X10_nearest_0, decode cX10_nearest q.1 = .ok q.2 := by decide +kernel
theorem dX10_nearest_0 : decode cX10_nearest 0 = .ok (.aload_n 0, 1) := al_X10_nearest_0 (0, (.aload_n 0, 1)) (List.mem_of_getElem? (i := 0) rfl)
theorem dX10_nearest_1 : decode cX10_nearest 1 = .ok (.iload_n 1, 1) := al_X10_nearest_0 (1, (.iload_n 1, 1)) (List.mem_of_getElem? (i := 1) rfl)
theorem dX10_nearest_2 : decode cX10_nearest 2 = .ok (.invokevirtual 149, 3) := al_X10_nearest_0 (2, (.invokevirtual 149, 3)) (List.mem_of_getElem? (i := 2) rfl)
theorem dX10_nearest_5 : decode cX10_nearest 5 = .ok (.aload_n 0, 1) := al_X10_nearest_0 (5, (.aload_n 0, 1)) (List.mem_of_getElem? (i := 3) rfl)
theorem dX10_nearest_6 : decode cX10_nearest 6 = .ok (.iload_n 1, 1) := al_X10_nearest_0 (6, (.iload_n 1, 1)) (List.mem_of_getElem? (i := 4) rfl)
theorem dX10_nearest_7 : decode cX10_nearest 7 = .ok (.iload_n 2, 1) := al_X10_nearest_0 (7, (.iload_n 2, 1)) (List.mem_of_getElem? (i := 5) rfl)
theorem dX10_nearest_8 : decode cX10_nearest 8 = .ok (.invokevirtual 221, 3) := al_X10_nearest_0 (8, (.invokevirtual 221, 3)) (List.mem_of_getElem? (i := 6) rfl)
theorem dX10_nearest_11 : decode cX10_nearest 11 = .ok (.ireturn, 1) := al_X10_nearest_0 (11, (.ireturn, 1)) (List.mem_of_getElem? (i := 7) rfl)
def in_X10_middle_0 : List (Nat × Instr × Nat) := [(0, (.iconst (-1), 1)), (1, (.istore_n 2, 1)), (2, (.ldc 224, 2)), (4, (.istore_n 3, 1)), (5, (.iconst 0, 1)), (6, (.istore 4, 2)), (8, (.iload 4, 2)), (10, (.aload_n 0, 1)), (11, (.getfield 19, 3)), (14, (.getfield 87, 3)), (17, (.getfield 225, 3)), (20, (.if_icmp .ge 48, 3)), (23, (.iload_n 1, 1)), (24, (.iload 4, 2)), (26, (.invokestatic 228, 3)), (29, (.ifCond .ne 6, 3)), (32, (.goto 30, 3)), (35, (.aload_n 0, 1)), (36, (.iload 4, 2)), (38, (.iload_n 1, 1)), (39, (.invokevirtual 232, 3)), (42, (.istore 5, 2)), (44, (.iload 5, 2)), (46, (.iconst (-1), 1)), (47, (.if_icmp .eq 15, 3)), (50, (.iload 5, 2)), (52, (.iload_n 3, 1)), (53, (.if_icmp .ge 9, 3)), (56, (.iload 5, 2)), (58, (.istore_n 3, 1)), (59, (.iload 4, 2)), (61, (.istore_n 2, 1)), (62, (.iinc 4 1, 3)), (65, (.goto (-57), 3)), (68, (.iload_n 2, 1)), (69, (.ireturn, 1))]
theorem al_X10_middle_0 : ∀ q ∈ in_X10_middle_0, decode cX10_middle q.1 = .ok q.2 := by decide +kernel
theorem dX10_middle_0 : decode cX10_middle 0 = .ok (.iconst (-1), 1) := al_X10_middle_0 (0, (.iconst (-1), 1)) (List.mem_of_getElem? (i := 0) rfl)
theorem dX10_middle_1 : decode cX10_middle 1 = .ok (.istore_n 2, 1) := al_X10_middle_0 (1, (.istore_n 2, 1)) (List.mem_of_getElem? (i := 1) rfl)
theorem dX10_middle_2 : decode cX10_middle 2 = .ok (.ldc 224, 2) := al_X10_middle_0 (2, (.ldc 224, 2)) (List.mem_of_getElem? (i := 2) rfl)
theorem dX10_middle_4 : decode cX10_middle 4 = .ok (.istore_n 3, 1) := al_X10_middle_0 (4, (.istore_n 3, 1)) (List.mem_of_getElem? (i := 3) rfl)
theorem dX10_middle_5 : decode cX10_middle 5 = .ok (.iconst 0, 1) := al_X10_middle_0 (5, (.iconst 0, 1)) (List.mem_of_getElem? (i := 4) rfl)
theorem dX10_middle_6 : decode cX10_middle 6 = .ok (.istore 4, 2) := al_X10_middle_0 (6, (.istore 4, 2)) (List.mem_of_getElem? (i := 5) rfl)
theorem dX10_middle_8 : decode cX10_middle 8 = .ok (.iload 4, 2) := al_X10_middle_0 (8, (.iload 4, 2)) (List.mem_of_getElem? (i := 6) rfl)
theorem dX10_middle_10 : decode cX10_middle 10 = .ok (.aload_n 0, 1) := al_X10_middle_0 (10, (.aload_n 0, 1)) (List.mem_of_getElem? (i := 7) rfl)
theorem dX10_middle_11 : decode cX10_middle 11 = .ok (.getfield 19, 3) := al_X10_middle_0 (11, (.getfield 19, 3)) (List.mem_of_getElem? (i := 8) rfl)
theorem dX10_middle_14 : decode cX10_middle 14 = .ok (.getfield 87, 3) := al_X10_middle_0 (14, (.getfield 87, 3)) (List.mem_of_getElem? (i := 9) rfl)
theorem dX10_middle_17 : decode cX10_middle 17 = .ok (.getfield 225, 3) := al_X10_middle_0 (17, (.getfield 225, 3)) (List.mem_of_getElem? (i := 10) rfl)
theorem dX10_middle_20 : decode cX10_middle 20 = .ok (.if_icmp .ge 48, 3) := al_X10_middle_0 (20, (.if_icmp .ge 48, 3)) (List.mem_of_getElem? (i := 11) rfl)
theorem dX10_middle_23 : decode cX10_middle 23 = .ok (.iload_n 1, 1) := al_X10_middle_0 (23, (.iload_n 1, 1)) (List.mem_of_getElem? (i := 12) rfl)
theorem dX10_middle_24 : decode cX10_middle 24 = .ok (.iload 4, 2) := al_X10_middle_0 (24, (.iload 4, 2)) (List.mem_of_getElem? (i := 13) rfl)
theorem dX10_middle_26 : decode cX10_middle 26 = .ok (.invokestatic 228, 3) := al_X10_middle_0 (26, (.invokestatic 228, 3)) (List.mem_of_getElem? (i := 14) rfl)
theorem dX10_middle_29 : decode cX10_middle 29 = .ok (.ifCond .ne 6, 3) := al_X10_middle_0 (29, (.ifCond .ne 6, 3)) (List.mem_of_getElem? (i := 15) rfl)
theorem dX10_middle_32 : decode cX10_middle 32 = .ok (.goto 30, 3) := al_X10_middle_0 (32, (.goto 30, 3)) (List.mem_of_getElem? (i := 16) rfl)
theorem dX10_middle_35 : decode cX10_middle 35 = .ok (.aload_n 0, 1) := al_X10_middle_0 (35, (.aload_n 0, 1)) (List.mem_of_getElem? (i := 17) rfl)
theorem dX10_middle_36 : decode cX10_middle 36 = .ok (.iload 4, 2) := al_X10_middle_0 (36, (.iload 4, 2)) (List.mem_of_getElem? (i := 18) rfl)
theorem dX10_middle_38 : decode cX10_middle 38 = .ok (.iload_n 1, 1) := al_X10_middle_0 (38, (.iload_n 1, 1)) (List.mem_of_getElem? (i := 19) rfl)
theorem dX10_middle_39 : decode cX10_middle 39 = .ok (.invokevirtual 232, 3) := al_X10_middle_0 (39, (.invokevirtual 232, 3)) (List.mem_of_getElem? (i := 20) rfl)
theorem dX10_middle_42 : decode cX10_middle 42 = .ok (.istore 5, 2) := al_X10_middle_0 (42, (.istore 5, 2)) (List.mem_of_getElem? (i := 21) rfl)
theorem dX10_middle_44 : decode cX10_middle 44 = .ok (.iload 5, 2) := al_X10_middle_0 (44, (.iload 5, 2)) (List.mem_of_getElem? (i := 22) rfl)
theorem dX10_middle_46 : decode cX10_middle 46 = .ok (.iconst (-1), 1) := al_X10_middle_0 (46, (.iconst (-1), 1)) (List.mem_of_getElem? (i := 23) rfl)
theorem dX10_middle_47 : decode cX10_middle 47 = .ok (.if_icmp .eq 15, 3) := al_X10_middle_0 (47, (.if_icmp .eq 15, 3)) (List.mem_of_getElem? (i := 24) rfl)
theorem dX10_middle_50 : decode cX10_middle 50 = .ok (.iload 5, 2) := al_X10_middle_0 (50, (.iload 5, 2)) (List.mem_of_getElem? (i := 25) rfl)
theorem dX10_middle_52 : decode cX10_middle 52 = .ok (.iload_n 3, 1) := al_X10_middle_0 (52, (.iload_n 3, 1)) (List.mem_of_getElem? (i := 26) rfl)
theorem dX10_middle_53 : decode cX10_middle 53 = .ok (.if_icmp .ge 9, 3) := al_X10_middle_0 (53, (.if_icmp .ge 9, 3)) (List.mem_of_getElem? (i := 27) rfl)
theorem dX10_middle_56 : decode cX10_middle 56 = .ok (.iload 5, 2) := al_X10_middle_0 (56, (.iload 5, 2)) (List.mem_of_getElem? (i := 28) rfl)
theorem dX10_middle_58 : decode cX10_middle 58 = .ok (.istore_n 3, 1) := al_X10_middle_0 (58, (.istore_n 3, 1)) (List.mem_of_getElem? (i := 29) rfl)
theorem dX10_middle_59 : decode cX10_middle 59 = .ok (.iload 4, 2) := al_X10_middle_0 (59, (.iload 4, 2)) (List.mem_of_getElem? (i := 30) rfl)
theorem dX10_middle_61 : decode cX10_middle 61 = .ok (.istore_n 2, 1) := al_X10_middle_0 (61, (.istore_n 2, 1)) (List.mem_of_getElem? (i := 31) rfl)
theorem dX10_middle_62 : decode cX10_middle 62 = .ok (.iinc 4 1, 3) := al_X10_middle_0 (62, (.iinc 4 1, 3)) (List.mem_of_getElem? (i := 32) rfl)
theorem dX10_middle_65 : decode cX10_middle 65 = .ok (.goto (-57), 3) := al_X10_middle_0 (65, (.goto (-57), 3)) (List.mem_of_getElem? (i := 33) rfl)
theorem dX10_middle_68 : decode cX10_middle 68 = .ok (.iload_n 2, 1) := al_X10_middle_0 (68, (.iload_n 2, 1)) (List.mem_of_getElem? (i := 34) rfl)
theorem dX10_middle_69 : decode cX10_middle 69 = .ok (.ireturn, 1) := al_X10_middle_0 (69, (.ireturn, 1)) (List.mem_of_getElem? (i := 35) rfl)
def in_X10_fewer_0 : List (Nat × Instr × Nat) := [(0, (.aload_n 0, 1)), (1, (.iload_n 1, 1)), (2, (.invokevirtual 149, 3)), (5, (.iload_n 2, 1)), (6, (.ifCond .ge 13, 3)), (9, (.new 102, 3)), (12, (.dup, 1)), (13, (.ldc 235, 2)), (15, (.invokespecial 106, 3)), (18, (.athrow, 1)), (19, (.aload_n 0, 1)), (20, (.getfield 64, 3)), (23, (.aload_n 0, 1)), (24, (.getfield 19, 3)), (27, (.getfield 87, 3)), (30, (.iload_n 1, 1)), (31, (.iload_n 2, 1)), (32, (.invokevirtual 237, 3)), (35, (.ireturn, 1))]
theorem al_X10_fewer_0 : ∀ q ∈ in_X10_fewer_0, decode cX10_fewer q.1 = .ok q.2 := by decide +kernel
theorem dX10_fewer_0 : decode cX10_fewer 0 = .ok (.aload_n 0, 1) := al_X10_fewer_0 (0, (.aload_n 0, 1)) (List.mem_of_getElem? (i := 0) rfl)
theorem dX10_fewer_1 : decode cX10_fewer 1 = .ok (.iload_n 1, 1) := al_X10_fewer_0 (1, (.iload_n 1, 1)) (List.mem_of_getElem? (i := 1) rfl)
theorem dX10_fewer_2 : decode cX10_fewer 2 = .ok (.invokevirtual 149, 3) := al_X10_fewer_0 (2, (.invokevirtual 149, 3)) (List.mem_of_getElem? (i := 2) rfl)
theorem dX10_fewer_5 : decode cX10_fewer 5 = .ok (.iload_n 2, 1) := al_X10_fewer_0 (5, (.iload_n 2, 1)) (List.mem_of_getElem? (i := 3) rfl)
theorem dX10_fewer_6 : decode cX10_fewer 6 = .ok (.ifCond .ge 13, 3) := al_X10_fewer_0 (6, (.ifCond .ge 13, 3)) (List.mem_of_getElem? (i := 4) rfl)
theorem dX10_fewer_9 : decode cX10_fewer 9 = .ok (.new 102, 3) := al_X10_fewer_0 (9, (.new 102, 3)) (List.mem_of_getElem? (i := 5) rfl)
theorem dX10_fewer_12 : decode cX10_fewer 12 = .ok (.dup, 1) := al_X10_fewer_0 (12, (.dup, 1)) (List.mem_of_getElem? (i := 6) rfl)
theorem dX10_fewer_13 : decode cX10_fewer 13 = .ok (.ldc 235, 2) := al_X10_fewer_0 (13, (.ldc 235, 2)) (List.mem_of_getElem? (i := 7) rfl)
theorem dX10_fewer_15 : decode cX10_fewer 15 = .ok (.invokespecial 106, 3) := al_X10_fewer_0 (15, (.invokespecial 106, 3)) (List.mem_of_getElem? (i := 8) rfl)
theorem dX10_fewer_18 : decode cX10_fewer 18 = .ok (.athrow, 1) := al_X10_fewer_0 (18, (.athrow, 1)) (List.mem_of_getElem? (i := 9) rfl)
theorem dX10_fewer_19 : decode cX10_fewer 19 = .ok (.aload_n 0, 1) := al_X10_fewer_0 (19, (.aload_n 0, 1)) (List.mem_of_getElem? (i := 10) rfl)
theorem dX10_fewer_20 : decode cX10_fewer 20 = .ok (.getfield 64, 3) := al_X10_fewer_0 (20, (.getfield 64, 3)) (List.mem_of_getElem? (i := 11) rfl)
theorem dX10_fewer_23 : decode cX10_fewer 23 = .ok (.aload_n 0, 1) := al_X10_fewer_0 (23, (.aload_n 0, 1)) (List.mem_of_getElem? (i := 12) rfl)
theorem dX10_fewer_24 : decode cX10_fewer 24 = .ok (.getfield 19, 3) := al_X10_fewer_0 (24, (.getfield 19, 3)) (List.mem_of_getElem? (i := 13) rfl)
theorem dX10_fewer_27 : decode cX10_fewer 27 = .ok (.getfield 87, 3) := al_X10_fewer_0 (27, (.getfield 87, 3)) (List.mem_of_getElem? (i := 14) rfl)
theorem dX10_fewer_30 : decode cX10_fewer 30 = .ok (.iload_n 1, 1) := al_X10_fewer_0 (30, (.iload_n 1, 1)) (List.mem_of_getElem? (i := 15) rfl)
theorem dX10_fewer_31 : decode cX10_fewer 31 = .ok (.iload_n 2, 1) := al_X10_fewer_0 (31, (.iload_n 2, 1)) (List.mem_of_getElem? (i := 16) rfl)
theorem dX10_fewer_32 : decode cX10_fewer 32 = .ok (.invokevirtual 237, 3) := al_X10_fewer_0 (32, (.invokevirtual 237, 3)) (List.mem_of_getElem? (i := 17) rfl)
theorem dX10_fewer_35 : decode cX10_fewer 35 = .ok (.ireturn, 1) := al_X10_fewer_0 (35, (.ireturn, 1)) (List.mem_of_getElem? (i := 18) rfl)
def in_X10_own_0 : List (Nat × Instr × Nat) := [(0, (.aload_n 0, 1)), (1, (.iload_n 1, 1)), (2, (.invokevirtual 241, 3)), (5, (.ireturn, 1))]
theorem al_X10_own_0 : ∀ q ∈ in_X10_own_0, decode cX10_own q.1 = .ok q.2 := by decide +kernel
theorem dX10_own_0 : decode cX10_own 0 = .ok (.aload_n 0, 1) := al_X10_own_0 (0, (.aload_n 0, 1)) (List.mem_of_getElem? (i := 0) rfl)
theorem dX10_own_1 : decode cX10_own 1 = .ok (.iload_n 1, 1) := al_X10_own_0 (1, (.iload_n 1, 1)) (List.mem_of_getElem? (i := 1) rfl)
theorem dX10_own_2 : decode cX10_own 2 = .ok (.invokevirtual 241, 3) := al_X10_own_0 (2, (.invokevirtual 241, 3)) (List.mem_of_getElem? (i := 2) rfl)
theorem dX10_own_5 : decode cX10_own 5 = .ok (.ireturn, 1) := al_X10_own_0 (5, (.ireturn, 1)) (List.mem_of_getElem? (i := 3) rfl)
def in_X10_forged_0 : List (Nat × Instr × Nat) := [(0, (.aload_n 0, 1)), (1, (.iload_n 1, 1)), (2, (.invokevirtual 149, 3)), (5, (.aload_n 0, 1)), (6, (.iload_n 2, 1)), (7, (.invokevirtual 241, 3)), (10, (.istore_n 3, 1)), (11, (.aload_n 0, 1)), (12, (.iload_n 1, 1)), (13, (.iload_n 2, 1)), (14, (.invokevirtual 221, 3)), (17, (.istore 4, 2)), (19, (.iload_n 3, 1)), (20, (.iconst (-1), 1)), (21, (.if_icmp .eq 20, 3)), (24, (.iload 4, 2)), (26, (.iconst (-1), 1)), (27, (.if_icmp .eq 14, 3)), (30, (.aload_n 0, 1)), (31, (.iload_n 1, 1)), (32, (.iload 4, 2)), (34, (.invokevirtual 164, 3)), (37, (.iload_n 3, 1)), (38, (.if_icmp .le 7, 3)), (41, (.iconst 1, 1)), (42, (.goto 4, 3)), (45, (.iconst 0, 1)), (46, (.ireturn, 1))]
theorem al_X10_forged_0 : ∀ q ∈ in_X10_forged_0, decode cX10_forged q.1 = .ok q.2 := by decide +kernel
theorem dX10_forged_0 : decode cX10_forged 0 = .ok (.aload_n 0, 1) := al_X10_forged_0 (0, (.aload_n 0, 1)) (List.mem_of_getElem? (i := 0) rfl)
theorem dX10_forged_1 : decode cX10_forged 1 = .ok (.iload_n 1, 1) := al_X10_forged_0 (1, (.iload_n 1, 1)) (List.mem_of_getElem? (i := 1) rfl)
theorem dX10_forged_2 : decode cX10_forged 2 = .ok (.invokevirtual 149, 3) := al_X10_forged_0 (2, (.invokevirtual 149, 3)) (List.mem_of_getElem? (i := 2) rfl)
theorem dX10_forged_5 : decode cX10_forged 5 = .ok (.aload_n 0, 1) := al_X10_forged_0 (5, (.aload_n 0, 1)) (List.mem_of_getElem? (i := 3) rfl)
theorem dX10_forged_6 : decode cX10_forged 6 = .ok (.iload_n 2, 1) := al_X10_forged_0 (6, (.iload_n 2, 1)) (List.mem_of_getElem? (i := 4) rfl)
theorem dX10_forged_7 : decode cX10_forged 7 = .ok (.invokevirtual 241, 3) := al_X10_forged_0 (7, (.invokevirtual 241, 3)) (List.mem_of_getElem? (i := 5) rfl)
theorem dX10_forged_10 : decode cX10_forged 10 = .ok (.istore_n 3, 1) := al_X10_forged_0 (10, (.istore_n 3, 1)) (List.mem_of_getElem? (i := 6) rfl)
theorem dX10_forged_11 : decode cX10_forged 11 = .ok (.aload_n 0, 1) := al_X10_forged_0 (11, (.aload_n 0, 1)) (List.mem_of_getElem? (i := 7) rfl)
theorem dX10_forged_12 : decode cX10_forged 12 = .ok (.iload_n 1, 1) := al_X10_forged_0 (12, (.iload_n 1, 1)) (List.mem_of_getElem? (i := 8) rfl)
theorem dX10_forged_13 : decode cX10_forged 13 = .ok (.iload_n 2, 1) := al_X10_forged_0 (13, (.iload_n 2, 1)) (List.mem_of_getElem? (i := 9) rfl)
theorem dX10_forged_14 : decode cX10_forged 14 = .ok (.invokevirtual 221, 3) := al_X10_forged_0 (14, (.invokevirtual 221, 3)) (List.mem_of_getElem? (i := 10) rfl)
theorem dX10_forged_17 : decode cX10_forged 17 = .ok (.istore 4, 2) := al_X10_forged_0 (17, (.istore 4, 2)) (List.mem_of_getElem? (i := 11) rfl)
theorem dX10_forged_19 : decode cX10_forged 19 = .ok (.iload_n 3, 1) := al_X10_forged_0 (19, (.iload_n 3, 1)) (List.mem_of_getElem? (i := 12) rfl)
theorem dX10_forged_20 : decode cX10_forged 20 = .ok (.iconst (-1), 1) := al_X10_forged_0 (20, (.iconst (-1), 1)) (List.mem_of_getElem? (i := 13) rfl)
theorem dX10_forged_21 : decode cX10_forged 21 = .ok (.if_icmp .eq 20, 3) := al_X10_forged_0 (21, (.if_icmp .eq 20, 3)) (List.mem_of_getElem? (i := 14) rfl)
theorem dX10_forged_24 : decode cX10_forged 24 = .ok (.iload 4, 2) := al_X10_forged_0 (24, (.iload 4, 2)) (List.mem_of_getElem? (i := 15) rfl)
theorem dX10_forged_26 : decode cX10_forged 26 = .ok (.iconst (-1), 1) := al_X10_forged_0 (26, (.iconst (-1), 1)) (List.mem_of_getElem? (i := 16) rfl)
theorem dX10_forged_27 : decode cX10_forged 27 = .ok (.if_icmp .eq 14, 3) := al_X10_forged_0 (27, (.if_icmp .eq 14, 3)) (List.mem_of_getElem? (i := 17) rfl)
theorem dX10_forged_30 : decode cX10_forged 30 = .ok (.aload_n 0, 1) := al_X10_forged_0 (30, (.aload_n 0, 1)) (List.mem_of_getElem? (i := 18) rfl)
theorem dX10_forged_31 : decode cX10_forged 31 = .ok (.iload_n 1, 1) := al_X10_forged_0 (31, (.iload_n 1, 1)) (List.mem_of_getElem? (i := 19) rfl)
theorem dX10_forged_32 : decode cX10_forged 32 = .ok (.iload 4, 2) := al_X10_forged_0 (32, (.iload 4, 2)) (List.mem_of_getElem? (i := 20) rfl)
theorem dX10_forged_34 : decode cX10_forged 34 = .ok (.invokevirtual 164, 3) := al_X10_forged_0 (34, (.invokevirtual 164, 3)) (List.mem_of_getElem? (i := 21) rfl)
theorem dX10_forged_37 : decode cX10_forged 37 = .ok (.iload_n 3, 1) := al_X10_forged_0 (37, (.iload_n 3, 1)) (List.mem_of_getElem? (i := 22) rfl)
theorem dX10_forged_38 : decode cX10_forged 38 = .ok (.if_icmp .le 7, 3) := al_X10_forged_0 (38, (.if_icmp .le 7, 3)) (List.mem_of_getElem? (i := 23) rfl)
theorem dX10_forged_41 : decode cX10_forged 41 = .ok (.iconst 1, 1) := al_X10_forged_0 (41, (.iconst 1, 1)) (List.mem_of_getElem? (i := 24) rfl)
theorem dX10_forged_42 : decode cX10_forged 42 = .ok (.goto 4, 3) := al_X10_forged_0 (42, (.goto 4, 3)) (List.mem_of_getElem? (i := 25) rfl)
theorem dX10_forged_45 : decode cX10_forged 45 = .ok (.iconst 0, 1) := al_X10_forged_0 (45, (.iconst 0, 1)) (List.mem_of_getElem? (i := 26) rfl)
theorem dX10_forged_46 : decode cX10_forged 46 = .ok (.ireturn, 1) := al_X10_forged_0 (46, (.ireturn, 1)) (List.mem_of_getElem? (i := 27) rfl)
def in_X10_mark_0 : List (Nat × Instr × Nat) := [(0, (.iload_n 2, 1)), (1, (.sipush 999, 3)), (4, (.invokestatic 244, 3)), (7, (.ifCond .ne 24, 3)), (10, (.iload_n 3, 1)), (11, (.sipush 999, 3)), (14, (.invokestatic 244, 3)), (17, (.ifCond .ne 14, 3)), (20, (.iload 4, 2)), (22, (.sipush 999, 3)), (25, (.invokestatic 244, 3)), (28, (.ifCond .eq 13, 3)), (31, (.new 102, 3)), (34, (.dup, 1)), (35, (.ldc 247, 2)), (37, (.invokespecial 106, 3)), (40, (.athrow, 1)), (41, (.aload_n 0, 1)), (42, (.getfield 19, 3)), (45, (.getfield 249, 3)), (48, (.getfield 253, 3)), (51, (.bipush 20, 2)), (53, (.if_icmp .lt 14, 3)), (56, (.new 112, 3)), (59, (.dup, 1)), (60, (.ldc_w 256, 3)), (63, (.invokespecial 116, 3)), (66, (.athrow, 1)), (67, (.aload_n 0, 1)), (68, (.getfield 19, 3)), (71, (.getfield 249, 3)), (74, (.iload_n 1, 1)), (75, (.iload_n 2, 1)), (76, (.iload_n 3, 1)), (77, (.iload 4, 2)), (79, (.invokevirtual 258, 3)), (82, (.ireturn, 1))]
theorem al_X10_mark_0 : ∀ q ∈ in_X10_mark_0, decode cX10_mark q.1 = .ok q.2 := by decide +kernel
theorem dX10_mark_0 : decode cX10_mark 0 = .ok (.iload_n 2, 1) := al_X10_mark_0 (0, (.iload_n 2, 1)) (List.mem_of_getElem? (i := 0) rfl)
theorem dX10_mark_1 : decode cX10_mark 1 = .ok (.sipush 999, 3) := al_X10_mark_0 (1, (.sipush 999, 3)) (List.mem_of_getElem? (i := 1) rfl)
theorem dX10_mark_4 : decode cX10_mark 4 = .ok (.invokestatic 244, 3) := al_X10_mark_0 (4, (.invokestatic 244, 3)) (List.mem_of_getElem? (i := 2) rfl)
theorem dX10_mark_7 : decode cX10_mark 7 = .ok (.ifCond .ne 24, 3) := al_X10_mark_0 (7, (.ifCond .ne 24, 3)) (List.mem_of_getElem? (i := 3) rfl)
theorem dX10_mark_10 : decode cX10_mark 10 = .ok (.iload_n 3, 1) := al_X10_mark_0 (10, (.iload_n 3, 1)) (List.mem_of_getElem? (i := 4) rfl)
theorem dX10_mark_11 : decode cX10_mark 11 = .ok (.sipush 999, 3) := al_X10_mark_0 (11, (.sipush 999, 3)) (List.mem_of_getElem? (i := 5) rfl)
theorem dX10_mark_14 : decode cX10_mark 14 = .ok (.invokestatic 244, 3) := al_X10_mark_0 (14, (.invokestatic 244, 3)) (List.mem_of_getElem? (i := 6) rfl)
theorem dX10_mark_17 : decode cX10_mark 17 = .ok (.ifCond .ne 14, 3) := al_X10_mark_0 (17, (.ifCond .ne 14, 3)) (List.mem_of_getElem? (i := 7) rfl)
theorem dX10_mark_20 : decode cX10_mark 20 = .ok (.iload 4, 2) := al_X10_mark_0 (20, (.iload 4, 2)) (List.mem_of_getElem? (i := 8) rfl)
theorem dX10_mark_22 : decode cX10_mark 22 = .ok (.sipush 999, 3) := al_X10_mark_0 (22, (.sipush 999, 3)) (List.mem_of_getElem? (i := 9) rfl)
theorem dX10_mark_25 : decode cX10_mark 25 = .ok (.invokestatic 244, 3) := al_X10_mark_0 (25, (.invokestatic 244, 3)) (List.mem_of_getElem? (i := 10) rfl)
theorem dX10_mark_28 : decode cX10_mark 28 = .ok (.ifCond .eq 13, 3) := al_X10_mark_0 (28, (.ifCond .eq 13, 3)) (List.mem_of_getElem? (i := 11) rfl)
theorem dX10_mark_31 : decode cX10_mark 31 = .ok (.new 102, 3) := al_X10_mark_0 (31, (.new 102, 3)) (List.mem_of_getElem? (i := 12) rfl)
theorem dX10_mark_34 : decode cX10_mark 34 = .ok (.dup, 1) := al_X10_mark_0 (34, (.dup, 1)) (List.mem_of_getElem? (i := 13) rfl)
theorem dX10_mark_35 : decode cX10_mark 35 = .ok (.ldc 247, 2) := al_X10_mark_0 (35, (.ldc 247, 2)) (List.mem_of_getElem? (i := 14) rfl)
theorem dX10_mark_37 : decode cX10_mark 37 = .ok (.invokespecial 106, 3) := al_X10_mark_0 (37, (.invokespecial 106, 3)) (List.mem_of_getElem? (i := 15) rfl)
theorem dX10_mark_40 : decode cX10_mark 40 = .ok (.athrow, 1) := al_X10_mark_0 (40, (.athrow, 1)) (List.mem_of_getElem? (i := 16) rfl)
theorem dX10_mark_41 : decode cX10_mark 41 = .ok (.aload_n 0, 1) := al_X10_mark_0 (41, (.aload_n 0, 1)) (List.mem_of_getElem? (i := 17) rfl)
theorem dX10_mark_42 : decode cX10_mark 42 = .ok (.getfield 19, 3) := al_X10_mark_0 (42, (.getfield 19, 3)) (List.mem_of_getElem? (i := 18) rfl)
theorem dX10_mark_45 : decode cX10_mark 45 = .ok (.getfield 249, 3) := al_X10_mark_0 (45, (.getfield 249, 3)) (List.mem_of_getElem? (i := 19) rfl)
theorem dX10_mark_48 : decode cX10_mark 48 = .ok (.getfield 253, 3) := al_X10_mark_0 (48, (.getfield 253, 3)) (List.mem_of_getElem? (i := 20) rfl)
theorem dX10_mark_51 : decode cX10_mark 51 = .ok (.bipush 20, 2) := al_X10_mark_0 (51, (.bipush 20, 2)) (List.mem_of_getElem? (i := 21) rfl)
theorem dX10_mark_53 : decode cX10_mark 53 = .ok (.if_icmp .lt 14, 3) := al_X10_mark_0 (53, (.if_icmp .lt 14, 3)) (List.mem_of_getElem? (i := 22) rfl)
theorem dX10_mark_56 : decode cX10_mark 56 = .ok (.new 112, 3) := al_X10_mark_0 (56, (.new 112, 3)) (List.mem_of_getElem? (i := 23) rfl)
theorem dX10_mark_59 : decode cX10_mark 59 = .ok (.dup, 1) := al_X10_mark_0 (59, (.dup, 1)) (List.mem_of_getElem? (i := 24) rfl)
theorem dX10_mark_60 : decode cX10_mark 60 = .ok (.ldc_w 256, 3) := al_X10_mark_0 (60, (.ldc_w 256, 3)) (List.mem_of_getElem? (i := 25) rfl)
theorem dX10_mark_63 : decode cX10_mark 63 = .ok (.invokespecial 116, 3) := al_X10_mark_0 (63, (.invokespecial 116, 3)) (List.mem_of_getElem? (i := 26) rfl)
theorem dX10_mark_66 : decode cX10_mark 66 = .ok (.athrow, 1) := al_X10_mark_0 (66, (.athrow, 1)) (List.mem_of_getElem? (i := 27) rfl)
theorem dX10_mark_67 : decode cX10_mark 67 = .ok (.aload_n 0, 1) := al_X10_mark_0 (67, (.aload_n 0, 1)) (List.mem_of_getElem? (i := 28) rfl)
theorem dX10_mark_68 : decode cX10_mark 68 = .ok (.getfield 19, 3) := al_X10_mark_0 (68, (.getfield 19, 3)) (List.mem_of_getElem? (i := 29) rfl)
theorem dX10_mark_71 : decode cX10_mark 71 = .ok (.getfield 249, 3) := al_X10_mark_0 (71, (.getfield 249, 3)) (List.mem_of_getElem? (i := 30) rfl)
theorem dX10_mark_74 : decode cX10_mark 74 = .ok (.iload_n 1, 1) := al_X10_mark_0 (74, (.iload_n 1, 1)) (List.mem_of_getElem? (i := 31) rfl)
theorem dX10_mark_75 : decode cX10_mark 75 = .ok (.iload_n 2, 1) := al_X10_mark_0 (75, (.iload_n 2, 1)) (List.mem_of_getElem? (i := 32) rfl)
theorem dX10_mark_76 : decode cX10_mark 76 = .ok (.iload_n 3, 1) := al_X10_mark_0 (76, (.iload_n 3, 1)) (List.mem_of_getElem? (i := 33) rfl)
theorem dX10_mark_77 : decode cX10_mark 77 = .ok (.iload 4, 2) := al_X10_mark_0 (77, (.iload 4, 2)) (List.mem_of_getElem? (i := 34) rfl)
theorem dX10_mark_79 : decode cX10_mark 79 = .ok (.invokevirtual 258, 3) := al_X10_mark_0 (79, (.invokevirtual 258, 3)) (List.mem_of_getElem? (i := 35) rfl)
theorem dX10_mark_82 : decode cX10_mark 82 = .ok (.ireturn, 1) := al_X10_mark_0 (82, (.ireturn, 1)) (List.mem_of_getElem? (i := 36) rfl)
def in_X10_unmark_0 : List (Nat × Instr × Nat) := [(0, (.aload_n 0, 1)), (1, (.getfield 19, 3)), (4, (.getfield 249, 3)), (7, (.getfield 253, 3)), (10, (.ifCond .ne 5, 3)), (13, (.iconst (-1), 1)), (14, (.ireturn, 1)), (15, (.aload_n 0, 1)), (16, (.getfield 19, 3)), (19, (.getfield 249, 3)), (22, (.dup, 1)), (23, (.getfield 253, 3)), (26, (.iconst 1, 1)), (27, (.isub, 1)), (28, (.putfield 253, 3)), (31, (.aload_n 0, 1)), (32, (.getfield 19, 3)), (35, (.getfield 249, 3)), (38, (.getfield 253, 3)), (41, (.ireturn, 1))]
theorem al_X10_unmark_0 : ∀ q ∈ in_X10_unmark_0, decode cX10_unmark q.1 = .ok q.2 := by decide +kernel
theorem dX10_unmark_0 : decode cX10_unmark 0 = .ok (.aload_n 0, 1) := al_X10_unmark_0 (0, (.aload_n 0, 1)) (List.mem_of_getElem? (i := 0) rfl)
theorem dX10_unmark_1 : decode cX10_unmark 1 = .ok (.getfield 19, 3) := al_X10_unmark_0 (1, (.getfield 19, 3)) (List.mem_of_getElem? (i := 1) rfl)
theorem dX10_unmark_4 : decode cX10_unmark 4 = .ok (.getfield 249, 3) := al_X10_unmark_0 (4, (.getfield 249, 3)) (List.mem_of_getElem? (i := 2) rfl)
theorem dX10_unmark_7 : decode cX10_unmark 7 = .ok (.getfield 253, 3) := al_X10_unmark_0 (7, (.getfield 253, 3)) (List.mem_of_getElem? (i := 3) rfl)
theorem dX10_unmark_10 : decode cX10_unmark 10 = .ok (.ifCond .ne 5, 3) := al_X10_unmark_0 (10, (.ifCond .ne 5, 3)) (List.mem_of_getElem? (i := 4) rfl)
theorem dX10_unmark_13 : decode cX10_unmark 13 = .ok (.iconst (-1), 1) := al_X10_unmark_0 (13, (.iconst (-1), 1)) (List.mem_of_getElem? (i := 5) rfl)
theorem dX10_unmark_14 : decode cX10_unmark 14 = .ok (.ireturn, 1) := al_X10_unmark_0 (14, (.ireturn, 1)) (List.mem_of_getElem? (i := 6) rfl)
theorem dX10_unmark_15 : decode cX10_unmark 15 = .ok (.aload_n 0, 1) := al_X10_unmark_0 (15, (.aload_n 0, 1)) (List.mem_of_getElem? (i := 7) rfl)
theorem dX10_unmark_16 : decode cX10_unmark 16 = .ok (.getfield 19, 3) := al_X10_unmark_0 (16, (.getfield 19, 3)) (List.mem_of_getElem? (i := 8) rfl)
theorem dX10_unmark_19 : decode cX10_unmark 19 = .ok (.getfield 249, 3) := al_X10_unmark_0 (19, (.getfield 249, 3)) (List.mem_of_getElem? (i := 9) rfl)
theorem dX10_unmark_22 : decode cX10_unmark 22 = .ok (.dup, 1) := al_X10_unmark_0 (22, (.dup, 1)) (List.mem_of_getElem? (i := 10) rfl)
theorem dX10_unmark_23 : decode cX10_unmark 23 = .ok (.getfield 253, 3) := al_X10_unmark_0 (23, (.getfield 253, 3)) (List.mem_of_getElem? (i := 11) rfl)
theorem dX10_unmark_26 : decode cX10_unmark 26 = .ok (.iconst 1, 1) := al_X10_unmark_0 (26, (.iconst 1, 1)) (List.mem_of_getElem? (i := 12) rfl)
theorem dX10_unmark_27 : decode cX10_unmark 27 = .ok (.isub, 1) := al_X10_unmark_0 (27, (.isub, 1)) (List.mem_of_getElem? (i := 13) rfl)
theorem dX10_unmark_28 : decode cX10_unmark 28 = .ok (.putfield 253, 3) := al_X10_unmark_0 (28, (.putfield 253, 3)) (List.mem_of_getElem? (i := 14) rfl)
theorem dX10_unmark_31 : decode cX10_unmark 31 = .ok (.aload_n 0, 1) := al_X10_unmark_0 (31, (.aload_n 0, 1)) (List.mem_of_getElem? (i := 15) rfl)
theorem dX10_unmark_32 : decode cX10_unmark 32 = .ok (.getfield 19, 3) := al_X10_unmark_0 (32, (.getfield 19, 3)) (List.mem_of_getElem? (i := 16) rfl)
theorem dX10_unmark_35 : decode cX10_unmark 35 = .ok (.getfield 249, 3) := al_X10_unmark_0 (35, (.getfield 249, 3)) (List.mem_of_getElem? (i := 17) rfl)
theorem dX10_unmark_38 : decode cX10_unmark 38 = .ok (.getfield 253, 3) := al_X10_unmark_0 (38, (.getfield 253, 3)) (List.mem_of_getElem? (i := 18) rfl)
theorem dX10_unmark_41 : decode cX10_unmark 41 = .ok (.ireturn, 1) := al_X10_unmark_0 (41, (.ireturn, 1)) (List.mem_of_getElem? (i := 19) rfl)
def in_X10_needed_0 : List (Nat × Instr × Nat) := [(0, (.aload_n 0, 1)), (1, (.getfield 19, 3)), (4, (.getfield 249, 3)), (7, (.invokevirtual 262, 3)), (10, (.ireturn, 1))]
theorem al_X10_needed_0 : ∀ q ∈ in_X10_needed_0, decode cX10_needed q.1 = .ok q.2 := by decide +kernel
theorem dX10_needed_0 : decode cX10_needed 0 = .ok (.aload_n 0, 1) := al_X10_needed_0 (0, (.aload_n 0, 1)) (List.mem_of_getElem? (i := 0) rfl)
theorem dX10_needed_1 : decode cX10_needed 1 = .ok (.getfield 19, 3) := al_X10_needed_0 (1, (.getfield 19, 3)) (List.mem_of_getElem? (i := 1) rfl)
theorem dX10_needed_4 : decode cX10_needed 4 = .ok (.getfield 249, 3) := al_X10_needed_0 (4, (.getfield 249, 3)) (List.mem_of_getElem? (i := 2) rfl)
theorem dX10_needed_7 : decode cX10_needed 7 = .ok (.invokevirtual 262, 3) := al_X10_needed_0 (7, (.invokevirtual 262, 3)) (List.mem_of_getElem? (i := 3) rfl)
theorem dX10_needed_10 : decode cX10_needed 10 = .ok (.ireturn, 1) := al_X10_needed_0 (10, (.ireturn, 1)) (List.mem_of_getElem? (i := 4) rfl)
def in_X10_fits_0 : List (Nat × Instr × Nat) := [(0, (.iload_n 1, 1)), (1, (.sipush 999, 3)), (4, (.invokestatic 244, 3)), (7, (.ifCond .ne 12, 3)), (10, (.iload_n 2, 1)), (11, (.bipush 99, 2)), (13, (.invokestatic 244, 3)), (16, (.ifCond .eq 14, 3)), (19, (.new 102, 3)), (22, (.dup, 1)), (23, (.ldc_w 265, 3)), (26, (.invokespecial 106, 3)), (29, (.athrow, 1)), (30, (.iload_n 3, 1)), (31, (.ifCond .eq 18, 3)), (34, (.aload_n 0, 1)), (35, (.getfield 19, 3)), (38, (.getfield 249, 3)), (41, (.iload_n 1, 1)), (42, (.iload_n 2, 1)), (43, (.invokevirtual 267, 3)), (46, (.goto 15, 3)), (49, (.aload_n 0, 1)), (50, (.getfield 19, 3)), (53, (.getfield 249, 3)), (56, (.iload_n 1, 1)), (57, (.iload_n 2, 1)), (58, (.invokevirtual 270, 3)), (61, (.ireturn, 1))]
theorem al_X10_fits_0 : ∀ q ∈ in_X10_fits_0, decode cX10_fits q.1 = .ok q.2 := by decide +kernel
theorem dX10_fits_0 : decode cX10_fits 0 = .ok (.iload_n 1, 1) := al_X10_fits_0 (0, (.iload_n 1, 1)) (List.mem_of_getElem? (i := 0) rfl)
theorem dX10_fits_1 : decode cX10_fits 1 = .ok (.sipush 999, 3) := al_X10_fits_0 (1, (.sipush 999, 3)) (List.mem_of_getElem? (i := 1) rfl)
theorem dX10_fits_4 : decode cX10_fits 4 = .ok (.invokestatic 244, 3) := al_X10_fits_0 (4, (.invokestatic 244, 3)) (List.mem_of_getElem? (i := 2) rfl)
theorem dX10_fits_7 : decode cX10_fits 7 = .ok (.ifCond .ne 12, 3) := al_X10_fits_0 (7, (.ifCond .ne 12, 3)) (List.mem_of_getElem? (i := 3) rfl)
theorem dX10_fits_10 : decode cX10_fits 10 = .ok (.iload_n 2, 1) := al_X10_fits_0 (10, (.iload_n 2, 1)) (List.mem_of_getElem? (i := 4) rfl)
theorem dX10_fits_11 : decode cX10_fits 11 = .ok (.bipush 99, 2) := al_X10_fits_0 (11, (.bipush 99, 2)) (List.mem_of_getElem? (i := 5) rfl)
theorem dX10_fits_13 : decode cX10_fits 13 = .ok (.invokestatic 244, 3) := al_X10_fits_0 (13, (.invokestatic 244, 3)) (List.mem_of_getElem? (i := 6) rfl)
theorem dX10_fits_16 : decode cX10_fits 16 = .ok (.ifCond .eq 14, 3) := al_X10_fits_0 (16, (.ifCond .eq 14, 3)) (List.mem_of_getElem? (i := 7) rfl)
theorem dX10_fits_19 : decode cX10_fits 19 = .ok (.new 102, 3) := al_X10_fits_0 (19, (.new 102, 3)) (List.mem_of_getElem? (i := 8) rfl)
theorem dX10_fits_22 : decode cX10_fits 22 = .ok (.dup, 1) := al_X10_fits_0 (22, (.dup, 1)) (List.mem_of_getElem? (i := 9) rfl)
theorem dX10_fits_23 : decode cX10_fits 23 = .ok (.ldc_w 265, 3) := al_X10_fits_0 (23, (.ldc_w 265, 3)) (List.mem_of_getElem? (i := 10) rfl)
theorem dX10_fits_26 : decode cX10_fits 26 = .ok (.invokespecial 106, 3) := al_X10_fits_0 (26, (.invokespecial 106, 3)) (List.mem_of_getElem? (i := 11) rfl)
theorem dX10_fits_29 : decode cX10_fits 29 = .ok (.athrow, 1) := al_X10_fits_0 (29, (.athrow, 1)) (List.mem_of_getElem? (i := 12) rfl)
theorem dX10_fits_30 : decode cX10_fits 30 = .ok (.iload_n 3, 1) := al_X10_fits_0 (30, (.iload_n 3, 1)) (List.mem_of_getElem? (i := 13) rfl)
theorem dX10_fits_31 : decode cX10_fits 31 = .ok (.ifCond .eq 18, 3) := al_X10_fits_0 (31, (.ifCond .eq 18, 3)) (List.mem_of_getElem? (i := 14) rfl)
theorem dX10_fits_34 : decode cX10_fits 34 = .ok (.aload_n 0, 1) := al_X10_fits_0 (34, (.aload_n 0, 1)) (List.mem_of_getElem? (i := 15) rfl)
theorem dX10_fits_35 : decode cX10_fits 35 = .ok (.getfield 19, 3) := al_X10_fits_0 (35, (.getfield 19, 3)) (List.mem_of_getElem? (i := 16) rfl)
theorem dX10_fits_38 : decode cX10_fits 38 = .ok (.getfield 249, 3) := al_X10_fits_0 (38, (.getfield 249, 3)) (List.mem_of_getElem? (i := 17) rfl)
theorem dX10_fits_41 : decode cX10_fits 41 = .ok (.iload_n 1, 1) := al_X10_fits_0 (41, (.iload_n 1, 1)) (List.mem_of_getElem? (i := 18) rfl)
theorem dX10_fits_42 : decode cX10_fits 42 = .ok (.iload_n 2, 1) := al_X10_fits_0 (42, (.iload_n 2, 1)) (List.mem_of_getElem? (i := 19) rfl)
theorem dX10_fits_43 : decode cX10_fits 43 = .ok (.invokevirtual 267, 3) := al_X10_fits_0 (43, (.invokevirtual 267, 3)) (List.mem_of_getElem? (i := 20) rfl)
theorem dX10_fits_46 : decode cX10_fits 46 = .ok (.goto 15, 3) := al_X10_fits_0 (46, (.goto 15, 3)) (List.mem_of_getElem? (i := 21) rfl)
theorem dX10_fits_49 : decode cX10_fits 49 = .ok (.aload_n 0, 1) := al_X10_fits_0 (49, (.aload_n 0, 1)) (List.mem_of_getElem? (i := 22) rfl)
theorem dX10_fits_50 : decode cX10_fits 50 = .ok (.getfield 19, 3) := al_X10_fits_0 (50, (.getfield 19, 3)) (List.mem_of_getElem? (i := 23) rfl)
theorem dX10_fits_53 : decode cX10_fits 53 = .ok (.getfield 249, 3) := al_X10_fits_0 (53, (.getfield 249, 3)) (List.mem_of_getElem? (i := 24) rfl)
theorem dX10_fits_56 : decode cX10_fits 56 = .ok (.iload_n 1, 1) := al_X10_fits_0 (56, (.iload_n 1, 1)) (List.mem_of_getElem? (i := 25) rfl)
theorem dX10_fits_57 : decode cX10_fits 57 = .ok (.iload_n 2, 1) := al_X10_fits_0 (57, (.iload_n 2, 1)) (List.mem_of_getElem? (i := 26) rfl)
theorem dX10_fits_58 : decode cX10_fits 58 = .ok (.invokevirtual 270, 3) := al_X10_fits_0 (58, (.invokevirtual 270, 3)) (List.mem_of_getElem? (i := 27) rfl)
theorem dX10_fits_61 : decode cX10_fits 61 = .ok (.ireturn, 1) := al_X10_fits_0 (61, (.ireturn, 1)) (List.mem_of_getElem? (i := 28) rfl)
def in_X10_begin_0 : List (Nat × Instr × Nat) := [(0, (.aload_n 0, 1)), (1, (.iload_n 1, 1)), (2, (.invokevirtual 149, 3)), (5, (.aload_n 0, 1)), (6, (.iload_n 2, 1)), (7, (.invokevirtual 149, 3)), (10, (.iload_n 3, 1)), (11, (.ifCond .ge 13, 3)), (14, (.new 102, 3)), (17, (.dup, 1)), (18, (.ldc 235, 2)), (20, (.invokespecial 106, 3)), (23, (.athrow, 1)), (24, (.aload_n 0, 1)), (25, (.getfield 19, 3)), (28, (.iload_n 1, 1)), (29, (.iconst 0, 1)), (30, (.iload_n 2, 1)), (31, (.iconst 0, 1)), (32, (.iload_n 3, 1)), (33, (.invokevirtual 182, 3)), (36, (.ifCond .ne 5, 3)), (39, (.iconst 0, 1)), (40, (.ireturn, 1)), (41, (.aload_n 0, 1)), (42, (.getfield 19, 3)), (45, (.getfield 117, 3)), (48, (.iload_n 1, 1)), (49, (.iload_n 2, 1)), (50, (.iload_n 3, 1)), (51, (.aload_n 0, 1)), (52, (.getfield 19, 3)), (55, (.getfield 87, 3)), (58, (.iload_n 1, 1)), (59, (.iconst 0, 1)), (60, (.iload_n 2, 1)), (61, (.iconst 0, 1)), (62, (.invokevirtual 156, 3)), (65, (.invokevirtual 273, 3)), (68, (.iconst 1, 1)), (69, (.ireturn, 1))]
theorem al_X10_begin_0 : ∀ q ∈ in_X10_begin_0, decode cX10_begin q.1 = .ok q.2 := by decide +kernel
theorem dX10_begin_0 : decode cX10_begin 0 = .ok (.aload_n 0, 1) := al_X10_begin_0 (0, (.aload_n 0, 1)) (List.mem_of_getElem? (i := 0) rfl)
theorem dX10_begin_1 : decode cX10_begin 1 = .ok (.iload_n 1, 1) := al_X10_begin_0 (1, (.iload_n 1, 1)) (List.mem_of_getElem? (i := 1) rfl)
theorem dX10_begin_2 : decode cX10_begin 2 = .ok (.invokevirtual 149, 3) := al_X10_begin_0 (2, (.invokevirtual 149, 3)) (List.mem_of_getElem? (i := 2) rfl)
theorem dX10_begin_5 : decode cX10_begin 5 = .ok (.aload_n 0, 1) := al_X10_begin_0 (5, (.aload_n 0, 1)) (List.mem_of_getElem? (i := 3) rfl)
theorem dX10_begin_6 : decode cX10_begin 6 = .ok (.iload_n 2, 1) := al_X10_begin_0 (6, (.iload_n 2, 1)) (List.mem_of_getElem? (i := 4) rfl)
theorem dX10_begin_7 : decode cX10_begin 7 = .ok (.invokevirtual 149, 3) := al_X10_begin_0 (7, (.invokevirtual 149, 3)) (List.mem_of_getElem? (i := 5) rfl)
theorem dX10_begin_10 : decode cX10_begin 10 = .ok (.iload_n 3, 1) := al_X10_begin_0 (10, (.iload_n 3, 1)) (List.mem_of_getElem? (i := 6) rfl)
theorem dX10_begin_11 : decode cX10_begin 11 = .ok (.ifCond .ge 13, 3) := al_X10_begin_0 (11, (.ifCond .ge 13, 3)) (List.mem_of_getElem? (i := 7) rfl)
theorem dX10_begin_14 : decode cX10_begin 14 = .ok (.new 102, 3) := al_X10_begin_0 (14, (.new 102, 3)) (List.mem_of_getElem? (i := 8) rfl)
theorem dX10_begin_17 : decode cX10_begin 17 = .ok (.dup, 1) := al_X10_begin_0 (17, (.dup, 1)) (List.mem_of_getElem? (i := 9) rfl)
theorem dX10_begin_18 : decode cX10_begin 18 = .ok (.ldc 235, 2) := al_X10_begin_0 (18, (.ldc 235, 2)) (List.mem_of_getElem? (i := 10) rfl)
theorem dX10_begin_20 : decode cX10_begin 20 = .ok (.invokespecial 106, 3) := al_X10_begin_0 (20, (.invokespecial 106, 3)) (List.mem_of_getElem? (i := 11) rfl)
theorem dX10_begin_23 : decode cX10_begin 23 = .ok (.athrow, 1) := al_X10_begin_0 (23, (.athrow, 1)) (List.mem_of_getElem? (i := 12) rfl)
theorem dX10_begin_24 : decode cX10_begin 24 = .ok (.aload_n 0, 1) := al_X10_begin_0 (24, (.aload_n 0, 1)) (List.mem_of_getElem? (i := 13) rfl)
theorem dX10_begin_25 : decode cX10_begin 25 = .ok (.getfield 19, 3) := al_X10_begin_0 (25, (.getfield 19, 3)) (List.mem_of_getElem? (i := 14) rfl)
theorem dX10_begin_28 : decode cX10_begin 28 = .ok (.iload_n 1, 1) := al_X10_begin_0 (28, (.iload_n 1, 1)) (List.mem_of_getElem? (i := 15) rfl)
theorem dX10_begin_29 : decode cX10_begin 29 = .ok (.iconst 0, 1) := al_X10_begin_0 (29, (.iconst 0, 1)) (List.mem_of_getElem? (i := 16) rfl)
theorem dX10_begin_30 : decode cX10_begin 30 = .ok (.iload_n 2, 1) := al_X10_begin_0 (30, (.iload_n 2, 1)) (List.mem_of_getElem? (i := 17) rfl)
theorem dX10_begin_31 : decode cX10_begin 31 = .ok (.iconst 0, 1) := al_X10_begin_0 (31, (.iconst 0, 1)) (List.mem_of_getElem? (i := 18) rfl)
theorem dX10_begin_32 : decode cX10_begin 32 = .ok (.iload_n 3, 1) := al_X10_begin_0 (32, (.iload_n 3, 1)) (List.mem_of_getElem? (i := 19) rfl)
theorem dX10_begin_33 : decode cX10_begin 33 = .ok (.invokevirtual 182, 3) := al_X10_begin_0 (33, (.invokevirtual 182, 3)) (List.mem_of_getElem? (i := 20) rfl)
theorem dX10_begin_36 : decode cX10_begin 36 = .ok (.ifCond .ne 5, 3) := al_X10_begin_0 (36, (.ifCond .ne 5, 3)) (List.mem_of_getElem? (i := 21) rfl)
theorem dX10_begin_39 : decode cX10_begin 39 = .ok (.iconst 0, 1) := al_X10_begin_0 (39, (.iconst 0, 1)) (List.mem_of_getElem? (i := 22) rfl)
theorem dX10_begin_40 : decode cX10_begin 40 = .ok (.ireturn, 1) := al_X10_begin_0 (40, (.ireturn, 1)) (List.mem_of_getElem? (i := 23) rfl)
theorem dX10_begin_41 : decode cX10_begin 41 = .ok (.aload_n 0, 1) := al_X10_begin_0 (41, (.aload_n 0, 1)) (List.mem_of_getElem? (i := 24) rfl)
theorem dX10_begin_42 : decode cX10_begin 42 = .ok (.getfield 19, 3) := al_X10_begin_0 (42, (.getfield 19, 3)) (List.mem_of_getElem? (i := 25) rfl)
theorem dX10_begin_45 : decode cX10_begin 45 = .ok (.getfield 117, 3) := al_X10_begin_0 (45, (.getfield 117, 3)) (List.mem_of_getElem? (i := 26) rfl)
theorem dX10_begin_48 : decode cX10_begin 48 = .ok (.iload_n 1, 1) := al_X10_begin_0 (48, (.iload_n 1, 1)) (List.mem_of_getElem? (i := 27) rfl)
theorem dX10_begin_49 : decode cX10_begin 49 = .ok (.iload_n 2, 1) := al_X10_begin_0 (49, (.iload_n 2, 1)) (List.mem_of_getElem? (i := 28) rfl)
theorem dX10_begin_50 : decode cX10_begin 50 = .ok (.iload_n 3, 1) := al_X10_begin_0 (50, (.iload_n 3, 1)) (List.mem_of_getElem? (i := 29) rfl)
theorem dX10_begin_51 : decode cX10_begin 51 = .ok (.aload_n 0, 1) := al_X10_begin_0 (51, (.aload_n 0, 1)) (List.mem_of_getElem? (i := 30) rfl)
theorem dX10_begin_52 : decode cX10_begin 52 = .ok (.getfield 19, 3) := al_X10_begin_0 (52, (.getfield 19, 3)) (List.mem_of_getElem? (i := 31) rfl)
theorem dX10_begin_55 : decode cX10_begin 55 = .ok (.getfield 87, 3) := al_X10_begin_0 (55, (.getfield 87, 3)) (List.mem_of_getElem? (i := 32) rfl)
theorem dX10_begin_58 : decode cX10_begin 58 = .ok (.iload_n 1, 1) := al_X10_begin_0 (58, (.iload_n 1, 1)) (List.mem_of_getElem? (i := 33) rfl)
theorem dX10_begin_59 : decode cX10_begin 59 = .ok (.iconst 0, 1) := al_X10_begin_0 (59, (.iconst 0, 1)) (List.mem_of_getElem? (i := 34) rfl)
theorem dX10_begin_60 : decode cX10_begin 60 = .ok (.iload_n 2, 1) := al_X10_begin_0 (60, (.iload_n 2, 1)) (List.mem_of_getElem? (i := 35) rfl)
theorem dX10_begin_61 : decode cX10_begin 61 = .ok (.iconst 0, 1) := al_X10_begin_0 (61, (.iconst 0, 1)) (List.mem_of_getElem? (i := 36) rfl)
theorem dX10_begin_62 : decode cX10_begin 62 = .ok (.invokevirtual 156, 3) := al_X10_begin_0 (62, (.invokevirtual 156, 3)) (List.mem_of_getElem? (i := 37) rfl)
theorem dX10_begin_65 : decode cX10_begin 65 = .ok (.invokevirtual 273, 3) := al_X10_begin_0 (65, (.invokevirtual 273, 3)) (List.mem_of_getElem? (i := 38) rfl)
theorem dX10_begin_68 : decode cX10_begin 68 = .ok (.iconst 1, 1) := al_X10_begin_0 (68, (.iconst 1, 1)) (List.mem_of_getElem? (i := 39) rfl)
theorem dX10_begin_69 : decode cX10_begin 69 = .ok (.ireturn, 1) := al_X10_begin_0 (69, (.ireturn, 1)) (List.mem_of_getElem? (i := 40) rfl)
def in_X10_step_0 : List (Nat × Instr × Nat) := [(0, (.iload_n 1, 1)), (1, (.iconst 1, 1)), (2, (.if_icmp .lt 8, 3)), (5, (.iload_n 1, 1)), (6, (.iconst 3, 1)), (7, (.if_icmp .le 13, 3)), (10, (.new 102, 3)), (13, (.dup, 1)), (14, (.ldc 167, 2)), (16, (.invokespecial 106, 3)), (19, (.athrow, 1)), (20, (.aload_n 0, 1)), (21, (.getfield 19, 3)), (24, (.iload_n 1, 1)), (25, (.invokevirtual 277, 3)), (28, (.ifCond .ne 5, 3)), (31, (.iconst (-1), 1)), (32, (.ireturn, 1)), (33, (.aload_n 0, 1)), (34, (.getfield 19, 3)), (37, (.iload_n 1, 1)), (38, (.invokevirtual 280, 3)), (41, (.ireturn, 1))]
theorem al_X10_step_0 : ∀ q ∈ in_X10_step_0, decode cX10_step q.1 = .ok q.2 := by decide +kernel
theorem dX10_step_0 : decode cX10_step 0 = .ok (.iload_n 1, 1) := al_X10_step_0 (0, (.iload_n 1, 1)) (List.mem_of_getElem? (i := 0) rfl)
theorem dX10_step_1 : decode cX10_step 1 = .ok (.iconst 1, 1) := al_X10_step_0 (1, (.iconst 1, 1)) (List.mem_of_getElem? (i := 1) rfl)
theorem dX10_step_2 : decode cX10_step 2 = .ok (.if_icmp .lt 8, 3) := al_X10_step_0 (2, (.if_icmp .lt 8, 3)) (List.mem_of_getElem? (i := 2) rfl)
theorem dX10_step_5 : decode cX10_step 5 = .ok (.iload_n 1, 1) := al_X10_step_0 (5, (.iload_n 1, 1)) (List.mem_of_getElem? (i := 3) rfl)
theorem dX10_step_6 : decode cX10_step 6 = .ok (.iconst 3, 1) := al_X10_step_0 (6, (.iconst 3, 1)) (List.mem_of_getElem? (i := 4) rfl)
theorem dX10_step_7 : decode cX10_step 7 = .ok (.if_icmp .le 13, 3) := al_X10_step_0 (7, (.if_icmp .le 13, 3)) (List.mem_of_getElem? (i := 5) rfl)
theorem dX10_step_10 : decode cX10_step 10 = .ok (.new 102, 3) := al_X10_step_0 (10, (.new 102, 3)) (List.mem_of_getElem? (i := 6) rfl)
theorem dX10_step_13 : decode cX10_step 13 = .ok (.dup, 1) := al_X10_step_0 (13, (.dup, 1)) (List.mem_of_getElem? (i := 7) rfl)
theorem dX10_step_14 : decode cX10_step 14 = .ok (.ldc 167, 2) := al_X10_step_0 (14, (.ldc 167, 2)) (List.mem_of_getElem? (i := 8) rfl)
theorem dX10_step_16 : decode cX10_step 16 = .ok (.invokespecial 106, 3) := al_X10_step_0 (16, (.invokespecial 106, 3)) (List.mem_of_getElem? (i := 9) rfl)
theorem dX10_step_19 : decode cX10_step 19 = .ok (.athrow, 1) := al_X10_step_0 (19, (.athrow, 1)) (List.mem_of_getElem? (i := 10) rfl)
theorem dX10_step_20 : decode cX10_step 20 = .ok (.aload_n 0, 1) := al_X10_step_0 (20, (.aload_n 0, 1)) (List.mem_of_getElem? (i := 11) rfl)
theorem dX10_step_21 : decode cX10_step 21 = .ok (.getfield 19, 3) := al_X10_step_0 (21, (.getfield 19, 3)) (List.mem_of_getElem? (i := 12) rfl)
theorem dX10_step_24 : decode cX10_step 24 = .ok (.iload_n 1, 1) := al_X10_step_0 (24, (.iload_n 1, 1)) (List.mem_of_getElem? (i := 13) rfl)
theorem dX10_step_25 : decode cX10_step 25 = .ok (.invokevirtual 277, 3) := al_X10_step_0 (25, (.invokevirtual 277, 3)) (List.mem_of_getElem? (i := 14) rfl)
theorem dX10_step_28 : decode cX10_step 28 = .ok (.ifCond .ne 5, 3) := al_X10_step_0 (28, (.ifCond .ne 5, 3)) (List.mem_of_getElem? (i := 15) rfl)
theorem dX10_step_31 : decode cX10_step 31 = .ok (.iconst (-1), 1) := al_X10_step_0 (31, (.iconst (-1), 1)) (List.mem_of_getElem? (i := 16) rfl)
theorem dX10_step_32 : decode cX10_step 32 = .ok (.ireturn, 1) := al_X10_step_0 (32, (.ireturn, 1)) (List.mem_of_getElem? (i := 17) rfl)
theorem dX10_step_33 : decode cX10_step 33 = .ok (.aload_n 0, 1) := al_X10_step_0 (33, (.aload_n 0, 1)) (List.mem_of_getElem? (i := 18) rfl)
theorem dX10_step_34 : decode cX10_step 34 = .ok (.getfield 19, 3) := al_X10_step_0 (34, (.getfield 19, 3)) (List.mem_of_getElem? (i := 19) rfl)
theorem dX10_step_37 : decode cX10_step 37 = .ok (.iload_n 1, 1) := al_X10_step_0 (37, (.iload_n 1, 1)) (List.mem_of_getElem? (i := 20) rfl)
theorem dX10_step_38 : decode cX10_step 38 = .ok (.invokevirtual 280, 3) := al_X10_step_0 (38, (.invokevirtual 280, 3)) (List.mem_of_getElem? (i := 21) rfl)
theorem dX10_step_41 : decode cX10_step 41 = .ok (.ireturn, 1) := al_X10_step_0 (41, (.ireturn, 1)) (List.mem_of_getElem? (i := 22) rfl)
def in_X10_undo_0 : List (Nat × Instr × Nat) := [(0, (.aload_n 0, 1)), (1, (.getfield 19, 3)), (4, (.getfield 117, 3)), (7, (.invokevirtual 283, 3)), (10, (.ireturn, 1))]
theorem al_X10_undo_0 : ∀ q ∈ in_X10_undo_0, decode cX10_undo q.1 = .ok q.2 := by decide +kernel
theorem dX10_undo_0 : decode cX10_undo 0 = .ok (.aload_n 0, 1) := al_X10_undo_0 (0, (.aload_n 0, 1)) (List.mem_of_getElem? (i := 0) rfl)
theorem dX10_undo_1 : decode cX10_undo 1 = .ok (.getfield 19, 3) := al_X10_undo_0 (1, (.getfield 19, 3)) (List.mem_of_getElem? (i := 1) rfl)
theorem dX10_undo_4 : decode cX10_undo 4 = .ok (.getfield 117, 3) := al_X10_undo_0 (4, (.getfield 117, 3)) (List.mem_of_getElem? (i := 2) rfl)
theorem dX10_undo_7 : decode cX10_undo 7 = .ok (.invokevirtual 283, 3) := al_X10_undo_0 (7, (.invokevirtual 283, 3)) (List.mem_of_getElem? (i := 3) rfl)
theorem dX10_undo_10 : decode cX10_undo 10 = .ok (.ireturn, 1) := al_X10_undo_0 (10, (.ireturn, 1)) (List.mem_of_getElem? (i := 4) rfl)
def in_X10_live_0 : List (Nat × Instr × Nat) := [(0, (.iload_n 1, 1)), (1, (.iconst 1, 1)), (2, (.if_icmp .lt 9, 3)), (5, (.iload_n 1, 1)), (6, (.bipush 60, 2)), (8, (.if_icmp .le 14, 3)), (11, (.new 102, 3)), (14, (.dup, 1)), (15, (.ldc_w 286, 3)), (18, (.invokespecial 106, 3)), (21, (.athrow, 1)), (22, (.iconst 0, 1)), (23, (.istore_n 2, 1)), (24, (.iconst 0, 1)), (25, (.istore_n 3, 1)), (26, (.iload_n 3, 1)), (27, (.iload_n 1, 1)), (28, (.if_icmp .ge 40, 3)), (31, (.aload_n 0, 1)), (32, (.getfield 19, 3)), (35, (.invokevirtual 288, 3)), (38, (.istore 4, 2)), (40, (.iload 4, 2)), (42, (.iconst (-1), 1)), (43, (.if_icmp .ne 6, 3)), (46, (.goto 22, 3)), (49, (.aload_n 0, 1)), (50, (.getfield 19, 3)), (53, (.iload 4, 2)), (55, (.invokevirtual 280, 3)), (58, (.pop, 1)), (59, (.iinc 2 1, 3)), (62, (.iinc 3 1, 3)), (65, (.goto (-39), 3)), (68, (.iload_n 2, 1)), (69, (.ireturn, 1))]
theorem al_X10_live_0 : ∀ q ∈ in_X10_live_0, decode cX10_live q.1 = .ok q.2 := by decide +kernel
theorem dX10_live_0 : decode cX10_live 0 = .ok (.iload_n 1, 1) := al_X10_live_0 (0, (.iload_n 1, 1)) (List.mem_of_getElem? (i := 0) rfl)
theorem dX10_live_1 : decode cX10_live 1 = .ok (.iconst 1, 1) := al_X10_live_0 (1, (.iconst 1, 1)) (List.mem_of_getElem? (i := 1) rfl)
theorem dX10_live_2 : decode cX10_live 2 = .ok (.if_icmp .lt 9, 3) := al_X10_live_0 (2, (.if_icmp .lt 9, 3)) (List.mem_of_getElem? (i := 2) rfl)
theorem dX10_live_5 : decode cX10_live 5 = .ok (.iload_n 1, 1) := al_X10_live_0 (5, (.iload_n 1, 1)) (List.mem_of_getElem? (i := 3) rfl)
theorem dX10_live_6 : decode cX10_live 6 = .ok (.bipush 60, 2) := al_X10_live_0 (6, (.bipush 60, 2)) (List.mem_of_getElem? (i := 4) rfl)
theorem dX10_live_8 : decode cX10_live 8 = .ok (.if_icmp .le 14, 3) := al_X10_live_0 (8, (.if_icmp .le 14, 3)) (List.mem_of_getElem? (i := 5) rfl)
theorem dX10_live_11 : decode cX10_live 11 = .ok (.new 102, 3) := al_X10_live_0 (11, (.new 102, 3)) (List.mem_of_getElem? (i := 6) rfl)
theorem dX10_live_14 : decode cX10_live 14 = .ok (.dup, 1) := al_X10_live_0 (14, (.dup, 1)) (List.mem_of_getElem? (i := 7) rfl)
theorem dX10_live_15 : decode cX10_live 15 = .ok (.ldc_w 286, 3) := al_X10_live_0 (15, (.ldc_w 286, 3)) (List.mem_of_getElem? (i := 8) rfl)
theorem dX10_live_18 : decode cX10_live 18 = .ok (.invokespecial 106, 3) := al_X10_live_0 (18, (.invokespecial 106, 3)) (List.mem_of_getElem? (i := 9) rfl)
theorem dX10_live_21 : decode cX10_live 21 = .ok (.athrow, 1) := al_X10_live_0 (21, (.athrow, 1)) (List.mem_of_getElem? (i := 10) rfl)
theorem dX10_live_22 : decode cX10_live 22 = .ok (.iconst 0, 1) := al_X10_live_0 (22, (.iconst 0, 1)) (List.mem_of_getElem? (i := 11) rfl)
theorem dX10_live_23 : decode cX10_live 23 = .ok (.istore_n 2, 1) := al_X10_live_0 (23, (.istore_n 2, 1)) (List.mem_of_getElem? (i := 12) rfl)
theorem dX10_live_24 : decode cX10_live 24 = .ok (.iconst 0, 1) := al_X10_live_0 (24, (.iconst 0, 1)) (List.mem_of_getElem? (i := 13) rfl)
theorem dX10_live_25 : decode cX10_live 25 = .ok (.istore_n 3, 1) := al_X10_live_0 (25, (.istore_n 3, 1)) (List.mem_of_getElem? (i := 14) rfl)
theorem dX10_live_26 : decode cX10_live 26 = .ok (.iload_n 3, 1) := al_X10_live_0 (26, (.iload_n 3, 1)) (List.mem_of_getElem? (i := 15) rfl)
theorem dX10_live_27 : decode cX10_live 27 = .ok (.iload_n 1, 1) := al_X10_live_0 (27, (.iload_n 1, 1)) (List.mem_of_getElem? (i := 16) rfl)
theorem dX10_live_28 : decode cX10_live 28 = .ok (.if_icmp .ge 40, 3) := al_X10_live_0 (28, (.if_icmp .ge 40, 3)) (List.mem_of_getElem? (i := 17) rfl)
theorem dX10_live_31 : decode cX10_live 31 = .ok (.aload_n 0, 1) := al_X10_live_0 (31, (.aload_n 0, 1)) (List.mem_of_getElem? (i := 18) rfl)
theorem dX10_live_32 : decode cX10_live 32 = .ok (.getfield 19, 3) := al_X10_live_0 (32, (.getfield 19, 3)) (List.mem_of_getElem? (i := 19) rfl)
theorem dX10_live_35 : decode cX10_live 35 = .ok (.invokevirtual 288, 3) := al_X10_live_0 (35, (.invokevirtual 288, 3)) (List.mem_of_getElem? (i := 20) rfl)
theorem dX10_live_38 : decode cX10_live 38 = .ok (.istore 4, 2) := al_X10_live_0 (38, (.istore 4, 2)) (List.mem_of_getElem? (i := 21) rfl)
theorem dX10_live_40 : decode cX10_live 40 = .ok (.iload 4, 2) := al_X10_live_0 (40, (.iload 4, 2)) (List.mem_of_getElem? (i := 22) rfl)
theorem dX10_live_42 : decode cX10_live 42 = .ok (.iconst (-1), 1) := al_X10_live_0 (42, (.iconst (-1), 1)) (List.mem_of_getElem? (i := 23) rfl)
theorem dX10_live_43 : decode cX10_live 43 = .ok (.if_icmp .ne 6, 3) := al_X10_live_0 (43, (.if_icmp .ne 6, 3)) (List.mem_of_getElem? (i := 24) rfl)
theorem dX10_live_46 : decode cX10_live 46 = .ok (.goto 22, 3) := al_X10_live_0 (46, (.goto 22, 3)) (List.mem_of_getElem? (i := 25) rfl)
theorem dX10_live_49 : decode cX10_live 49 = .ok (.aload_n 0, 1) := al_X10_live_0 (49, (.aload_n 0, 1)) (List.mem_of_getElem? (i := 26) rfl)
theorem dX10_live_50 : decode cX10_live 50 = .ok (.getfield 19, 3) := al_X10_live_0 (50, (.getfield 19, 3)) (List.mem_of_getElem? (i := 27) rfl)
theorem dX10_live_53 : decode cX10_live 53 = .ok (.iload 4, 2) := al_X10_live_0 (53, (.iload 4, 2)) (List.mem_of_getElem? (i := 28) rfl)
theorem dX10_live_55 : decode cX10_live 55 = .ok (.invokevirtual 280, 3) := al_X10_live_0 (55, (.invokevirtual 280, 3)) (List.mem_of_getElem? (i := 29) rfl)
theorem dX10_live_58 : decode cX10_live 58 = .ok (.pop, 1) := al_X10_live_0 (58, (.pop, 1)) (List.mem_of_getElem? (i := 30) rfl)
theorem dX10_live_59 : decode cX10_live 59 = .ok (.iinc 2 1, 3) := al_X10_live_0 (59, (.iinc 2 1, 3)) (List.mem_of_getElem? (i := 31) rfl)
theorem dX10_live_62 : decode cX10_live 62 = .ok (.iinc 3 1, 3) := al_X10_live_0 (62, (.iinc 3 1, 3)) (List.mem_of_getElem? (i := 32) rfl)
theorem dX10_live_65 : decode cX10_live 65 = .ok (.goto (-39), 3) := al_X10_live_0 (65, (.goto (-39), 3)) (List.mem_of_getElem? (i := 33) rfl)
theorem dX10_live_68 : decode cX10_live 68 = .ok (.iload_n 2, 1) := al_X10_live_0 (68, (.iload_n 2, 1)) (List.mem_of_getElem? (i := 34) rfl)
theorem dX10_live_69 : decode cX10_live 69 = .ok (.ireturn, 1) := al_X10_live_0 (69, (.ireturn, 1)) (List.mem_of_getElem? (i := 35) rfl)
def in_X10_on_0 : List (Nat × Instr × Nat) := [(0, (.iload_n 1, 1)), (1, (.ifCond .lt 9, 3)), (4, (.iload_n 1, 1)), (5, (.bipush 6, 2)), (7, (.if_icmp .le 14, 3)), (10, (.new 291, 3)), (13, (.dup, 1)), (14, (.ldc_w 293, 3)), (17, (.invokespecial 295, 3)), (20, (.athrow, 1)), (21, (.aload_n 0, 1)), (22, (.getfield 19, 3)), (25, (.getfield 117, 3)), (28, (.getfield 121, 3)), (31, (.ifCond .eq 11, 3)), (34, (.aload_n 0, 1)), (35, (.iload_n 1, 1)), (36, (.invokevirtual 296, 3)), (39, (.goto 4, 3)), (42, (.iconst (-1), 1)), (43, (.ireturn, 1))]
theorem al_X10_on_0 : ∀ q ∈ in_X10_on_0, decode cX10_on q.1 = .ok q.2 := by decide +kernel
theorem dX10_on_0 : decode cX10_on 0 = .ok (.iload_n 1, 1) := al_X10_on_0 (0, (.iload_n 1, 1)) (List.mem_of_getElem? (i := 0) rfl)
theorem dX10_on_1 : decode cX10_on 1 = .ok (.ifCond .lt 9, 3) := al_X10_on_0 (1, (.ifCond .lt 9, 3)) (List.mem_of_getElem? (i := 1) rfl)
theorem dX10_on_4 : decode cX10_on 4 = .ok (.iload_n 1, 1) := al_X10_on_0 (4, (.iload_n 1, 1)) (List.mem_of_getElem? (i := 2) rfl)
theorem dX10_on_5 : decode cX10_on 5 = .ok (.bipush 6, 2) := al_X10_on_0 (5, (.bipush 6, 2)) (List.mem_of_getElem? (i := 3) rfl)
theorem dX10_on_7 : decode cX10_on 7 = .ok (.if_icmp .le 14, 3) := al_X10_on_0 (7, (.if_icmp .le 14, 3)) (List.mem_of_getElem? (i := 4) rfl)
theorem dX10_on_10 : decode cX10_on 10 = .ok (.new 291, 3) := al_X10_on_0 (10, (.new 291, 3)) (List.mem_of_getElem? (i := 5) rfl)
theorem dX10_on_13 : decode cX10_on 13 = .ok (.dup, 1) := al_X10_on_0 (13, (.dup, 1)) (List.mem_of_getElem? (i := 6) rfl)
theorem dX10_on_14 : decode cX10_on 14 = .ok (.ldc_w 293, 3) := al_X10_on_0 (14, (.ldc_w 293, 3)) (List.mem_of_getElem? (i := 7) rfl)
theorem dX10_on_17 : decode cX10_on 17 = .ok (.invokespecial 295, 3) := al_X10_on_0 (17, (.invokespecial 295, 3)) (List.mem_of_getElem? (i := 8) rfl)
theorem dX10_on_20 : decode cX10_on 20 = .ok (.athrow, 1) := al_X10_on_0 (20, (.athrow, 1)) (List.mem_of_getElem? (i := 9) rfl)
theorem dX10_on_21 : decode cX10_on 21 = .ok (.aload_n 0, 1) := al_X10_on_0 (21, (.aload_n 0, 1)) (List.mem_of_getElem? (i := 10) rfl)
theorem dX10_on_22 : decode cX10_on 22 = .ok (.getfield 19, 3) := al_X10_on_0 (22, (.getfield 19, 3)) (List.mem_of_getElem? (i := 11) rfl)
theorem dX10_on_25 : decode cX10_on 25 = .ok (.getfield 117, 3) := al_X10_on_0 (25, (.getfield 117, 3)) (List.mem_of_getElem? (i := 12) rfl)
theorem dX10_on_28 : decode cX10_on 28 = .ok (.getfield 121, 3) := al_X10_on_0 (28, (.getfield 121, 3)) (List.mem_of_getElem? (i := 13) rfl)
theorem dX10_on_31 : decode cX10_on 31 = .ok (.ifCond .eq 11, 3) := al_X10_on_0 (31, (.ifCond .eq 11, 3)) (List.mem_of_getElem? (i := 14) rfl)
theorem dX10_on_34 : decode cX10_on 34 = .ok (.aload_n 0, 1) := al_X10_on_0 (34, (.aload_n 0, 1)) (List.mem_of_getElem? (i := 15) rfl)
theorem dX10_on_35 : decode cX10_on 35 = .ok (.iload_n 1, 1) := al_X10_on_0 (35, (.iload_n 1, 1)) (List.mem_of_getElem? (i := 16) rfl)
theorem dX10_on_36 : decode cX10_on 36 = .ok (.invokevirtual 296, 3) := al_X10_on_0 (36, (.invokevirtual 296, 3)) (List.mem_of_getElem? (i := 17) rfl)
theorem dX10_on_39 : decode cX10_on 39 = .ok (.goto 4, 3) := al_X10_on_0 (39, (.goto 4, 3)) (List.mem_of_getElem? (i := 18) rfl)
theorem dX10_on_42 : decode cX10_on 42 = .ok (.iconst (-1), 1) := al_X10_on_0 (42, (.iconst (-1), 1)) (List.mem_of_getElem? (i := 19) rfl)
theorem dX10_on_43 : decode cX10_on 43 = .ok (.ireturn, 1) := al_X10_on_0 (43, (.ireturn, 1)) (List.mem_of_getElem? (i := 20) rfl)
def in_X10_seed_0 : List (Nat × Instr × Nat) := [(0, (.aload_n 0, 1)), (1, (.getfield 19, 3)), (4, (.getfield 299, 3)), (7, (.istore_n 2, 1)), (8, (.aload_n 0, 1)), (9, (.getfield 19, 3)), (12, (.iload_n 1, 1)), (13, (.putfield 299, 3)), (16, (.iload_n 2, 1)), (17, (.ireturn, 1))]
theorem al_X10_seed_0 : ∀ q ∈ in_X10_seed_0, decode cX10_seed q.1 = .ok q.2 := by decide +kernel
theorem dX10_seed_0 : decode cX10_seed 0 = .ok (.aload_n 0, 1) := al_X10_seed_0 (0, (.aload_n 0, 1)) (List.mem_of_getElem? (i := 0) rfl)
theorem dX10_seed_1 : decode cX10_seed 1 = .ok (.getfield 19, 3) := al_X10_seed_0 (1, (.getfield 19, 3)) (List.mem_of_getElem? (i := 1) rfl)
theorem dX10_seed_4 : decode cX10_seed 4 = .ok (.getfield 299, 3) := al_X10_seed_0 (4, (.getfield 299, 3)) (List.mem_of_getElem? (i := 2) rfl)
theorem dX10_seed_7 : decode cX10_seed 7 = .ok (.istore_n 2, 1) := al_X10_seed_0 (7, (.istore_n 2, 1)) (List.mem_of_getElem? (i := 3) rfl)
theorem dX10_seed_8 : decode cX10_seed 8 = .ok (.aload_n 0, 1) := al_X10_seed_0 (8, (.aload_n 0, 1)) (List.mem_of_getElem? (i := 4) rfl)
theorem dX10_seed_9 : decode cX10_seed 9 = .ok (.getfield 19, 3) := al_X10_seed_0 (9, (.getfield 19, 3)) (List.mem_of_getElem? (i := 5) rfl)
theorem dX10_seed_12 : decode cX10_seed 12 = .ok (.iload_n 1, 1) := al_X10_seed_0 (12, (.iload_n 1, 1)) (List.mem_of_getElem? (i := 6) rfl)
theorem dX10_seed_13 : decode cX10_seed 13 = .ok (.putfield 299, 3) := al_X10_seed_0 (13, (.putfield 299, 3)) (List.mem_of_getElem? (i := 7) rfl)
theorem dX10_seed_16 : decode cX10_seed 16 = .ok (.iload_n 2, 1) := al_X10_seed_0 (16, (.iload_n 2, 1)) (List.mem_of_getElem? (i := 8) rfl)
theorem dX10_seed_17 : decode cX10_seed 17 = .ok (.ireturn, 1) := al_X10_seed_0 (17, (.ireturn, 1)) (List.mem_of_getElem? (i := 9) rfl)
def in_X10_image_0 : List (Nat × Instr × Nat) := [(0, (.aload_n 0, 1)), (1, (.getfield 23, 3)), (4, (.aload_n 0, 1)), (5, (.getfield 19, 3)), (8, (.invokevirtual 302, 3)), (11, (.aload_n 0, 1)), (12, (.iconst 1, 1)), (13, (.putfield 68, 3)), (16, (.return_, 1))]
theorem al_X10_image_0 : ∀ q ∈ in_X10_image_0, decode cX10_image q.1 = .ok q.2 := by decide +kernel
theorem dX10_image_0 : decode cX10_image 0 = .ok (.aload_n 0, 1) := al_X10_image_0 (0, (.aload_n 0, 1)) (List.mem_of_getElem? (i := 0) rfl)
theorem dX10_image_1 : decode cX10_image 1 = .ok (.getfield 23, 3) := al_X10_image_0 (1, (.getfield 23, 3)) (List.mem_of_getElem? (i := 1) rfl)
theorem dX10_image_4 : decode cX10_image 4 = .ok (.aload_n 0, 1) := al_X10_image_0 (4, (.aload_n 0, 1)) (List.mem_of_getElem? (i := 2) rfl)
theorem dX10_image_5 : decode cX10_image 5 = .ok (.getfield 19, 3) := al_X10_image_0 (5, (.getfield 19, 3)) (List.mem_of_getElem? (i := 3) rfl)
theorem dX10_image_8 : decode cX10_image 8 = .ok (.invokevirtual 302, 3) := al_X10_image_0 (8, (.invokevirtual 302, 3)) (List.mem_of_getElem? (i := 4) rfl)
theorem dX10_image_11 : decode cX10_image 11 = .ok (.aload_n 0, 1) := al_X10_image_0 (11, (.aload_n 0, 1)) (List.mem_of_getElem? (i := 5) rfl)
theorem dX10_image_12 : decode cX10_image 12 = .ok (.iconst 1, 1) := al_X10_image_0 (12, (.iconst 1, 1)) (List.mem_of_getElem? (i := 6) rfl)
theorem dX10_image_13 : decode cX10_image 13 = .ok (.putfield 68, 3) := al_X10_image_0 (13, (.putfield 68, 3)) (List.mem_of_getElem? (i := 7) rfl)
theorem dX10_image_16 : decode cX10_image 16 = .ok (.return_, 1) := al_X10_image_0 (16, (.return_, 1)) (List.mem_of_getElem? (i := 8) rfl)
def in_X10_again_0 : List (Nat × Instr × Nat) := [(0, (.aload_n 0, 1)), (1, (.getfield 68, 3)), (4, (.ifCond .ne 5, 3)), (7, (.iconst 0, 1)), (8, (.ireturn, 1)), (9, (.aload_n 0, 1)), (10, (.getfield 19, 3)), (13, (.aload_n 0, 1)), (14, (.getfield 23, 3)), (17, (.invokevirtual 302, 3)), (20, (.iconst 1, 1)), (21, (.ireturn, 1))]
theorem al_X10_again_0 : ∀ q ∈ in_X10_again_0, decode cX10_again q.1 = .ok q.2 := by decide +kernel
theorem dX10_again_0 : decode cX10_again 0 = .ok (.aload_n 0, 1) := al_X10_again_0 (0, (.aload_n 0, 1)) (List.mem_of_getElem? (i := 0) rfl)
theorem dX10_again_1 : decode cX10_again 1 = .ok (.getfield 68, 3) := al_X10_again_0 (1, (.getfield 68, 3)) (List.mem_of_getElem? (i := 1) rfl)
theorem dX10_again_4 : decode cX10_again 4 = .ok (.ifCond .ne 5, 3) := al_X10_again_0 (4, (.ifCond .ne 5, 3)) (List.mem_of_getElem? (i := 2) rfl)
theorem dX10_again_7 : decode cX10_again 7 = .ok (.iconst 0, 1) := al_X10_again_0 (7, (.iconst 0, 1)) (List.mem_of_getElem? (i := 3) rfl)
theorem dX10_again_8 : decode cX10_again 8 = .ok (.ireturn, 1) := al_X10_again_0 (8, (.ireturn, 1)) (List.mem_of_getElem? (i := 4) rfl)
theorem dX10_again_9 : decode cX10_again 9 = .ok (.aload_n 0, 1) := al_X10_again_0 (9, (.aload_n 0, 1)) (List.mem_of_getElem? (i := 5) rfl)
theorem dX10_again_10 : decode cX10_again 10 = .ok (.getfield 19, 3) := al_X10_again_0 (10, (.getfield 19, 3)) (List.mem_of_getElem? (i := 6) rfl)
theorem dX10_again_13 : decode cX10_again 13 = .ok (.aload_n 0, 1) := al_X10_again_0 (13, (.aload_n 0, 1)) (List.mem_of_getElem? (i := 7) rfl)
theorem dX10_again_14 : decode cX10_again 14 = .ok (.getfield 23, 3) := al_X10_again_0 (14, (.getfield 23, 3)) (List.mem_of_getElem? (i := 8) rfl)
theorem dX10_again_17 : decode cX10_again 17 = .ok (.invokevirtual 302, 3) := al_X10_again_0 (17, (.invokevirtual 302, 3)) (List.mem_of_getElem? (i := 9) rfl)
theorem dX10_again_20 : decode cX10_again 20 = .ok (.iconst 1, 1) := al_X10_again_0 (20, (.iconst 1, 1)) (List.mem_of_getElem? (i := 10) rfl)
theorem dX10_again_21 : decode cX10_again 21 = .ok (.ireturn, 1) := al_X10_again_0 (21, (.ireturn, 1)) (List.mem_of_getElem? (i := 11) rfl)
def in_X10_count_0 : List (Nat × Instr × Nat) := [(0, (.iload_n 1, 1)), (1, (.tableswitch 105 0 5 #[39, 50, 61, 72, 83, 94], 39)), (40, (.aload_n 0, 1)), (41, (.getfield 19, 3)), (44, (.getfield 87, 3)), (47, (.getfield 225, 3)), (50, (.ireturn, 1)), (51, (.aload_n 0, 1)), (52, (.getfield 19, 3)), (55, (.getfield 87, 3)), (58, (.getfield 305, 3)), (61, (.ireturn, 1)), (62, (.aload_n 0, 1)), (63, (.getfield 19, 3)), (66, (.getfield 87, 3)), (69, (.getfield 109, 3)), (72, (.ireturn, 1)), (73, (.aload_n 0, 1)), (74, (.getfield 19, 3)), (77, (.getfield 129, 3)), (80, (.getfield 135, 3)), (83, (.ireturn, 1)), (84, (.aload_n 0, 1)), (85, (.getfield 19, 3)), (88, (.getfield 249, 3)), (91, (.getfield 253, 3)), (94, (.ireturn, 1)), (95, (.aload_n 0, 1)), (96, (.getfield 19, 3)), (99, (.getfield 87, 3)), (102, (.invokevirtual 308, 3)), (105, (.ireturn, 1)), (106, (.iconst (-1), 1)), (107, (.ireturn, 1))]
theorem al_X10_count_0 : ∀ q ∈ in_X10_count_0, decode cX10_count q.1 = .ok q.2 := by decide +kernel
theorem dX10_count_0 : decode cX10_count 0 = .ok (.iload_n 1, 1) := al_X10_count_0 (0, (.iload_n 1, 1)) (List.mem_of_getElem? (i := 0) rfl)
theorem dX10_count_1 : decode cX10_count 1 = .ok (.tableswitch 105 0 5 #[39, 50, 61, 72, 83, 94], 39) := al_X10_count_0 (1, (.tableswitch 105 0 5 #[39, 50, 61, 72, 83, 94], 39)) (List.mem_of_getElem? (i := 1) rfl)
theorem dX10_count_40 : decode cX10_count 40 = .ok (.aload_n 0, 1) := al_X10_count_0 (40, (.aload_n 0, 1)) (List.mem_of_getElem? (i := 2) rfl)
theorem dX10_count_41 : decode cX10_count 41 = .ok (.getfield 19, 3) := al_X10_count_0 (41, (.getfield 19, 3)) (List.mem_of_getElem? (i := 3) rfl)
theorem dX10_count_44 : decode cX10_count 44 = .ok (.getfield 87, 3) := al_X10_count_0 (44, (.getfield 87, 3)) (List.mem_of_getElem? (i := 4) rfl)
theorem dX10_count_47 : decode cX10_count 47 = .ok (.getfield 225, 3) := al_X10_count_0 (47, (.getfield 225, 3)) (List.mem_of_getElem? (i := 5) rfl)
theorem dX10_count_50 : decode cX10_count 50 = .ok (.ireturn, 1) := al_X10_count_0 (50, (.ireturn, 1)) (List.mem_of_getElem? (i := 6) rfl)
theorem dX10_count_51 : decode cX10_count 51 = .ok (.aload_n 0, 1) := al_X10_count_0 (51, (.aload_n 0, 1)) (List.mem_of_getElem? (i := 7) rfl)
theorem dX10_count_52 : decode cX10_count 52 = .ok (.getfield 19, 3) := al_X10_count_0 (52, (.getfield 19, 3)) (List.mem_of_getElem? (i := 8) rfl)
theorem dX10_count_55 : decode cX10_count 55 = .ok (.getfield 87, 3) := al_X10_count_0 (55, (.getfield 87, 3)) (List.mem_of_getElem? (i := 9) rfl)
theorem dX10_count_58 : decode cX10_count 58 = .ok (.getfield 305, 3) := al_X10_count_0 (58, (.getfield 305, 3)) (List.mem_of_getElem? (i := 10) rfl)
theorem dX10_count_61 : decode cX10_count 61 = .ok (.ireturn, 1) := al_X10_count_0 (61, (.ireturn, 1)) (List.mem_of_getElem? (i := 11) rfl)
theorem dX10_count_62 : decode cX10_count 62 = .ok (.aload_n 0, 1) := al_X10_count_0 (62, (.aload_n 0, 1)) (List.mem_of_getElem? (i := 12) rfl)
theorem dX10_count_63 : decode cX10_count 63 = .ok (.getfield 19, 3) := al_X10_count_0 (63, (.getfield 19, 3)) (List.mem_of_getElem? (i := 13) rfl)
theorem dX10_count_66 : decode cX10_count 66 = .ok (.getfield 87, 3) := al_X10_count_0 (66, (.getfield 87, 3)) (List.mem_of_getElem? (i := 14) rfl)
theorem dX10_count_69 : decode cX10_count 69 = .ok (.getfield 109, 3) := al_X10_count_0 (69, (.getfield 109, 3)) (List.mem_of_getElem? (i := 15) rfl)
theorem dX10_count_72 : decode cX10_count 72 = .ok (.ireturn, 1) := al_X10_count_0 (72, (.ireturn, 1)) (List.mem_of_getElem? (i := 16) rfl)
theorem dX10_count_73 : decode cX10_count 73 = .ok (.aload_n 0, 1) := al_X10_count_0 (73, (.aload_n 0, 1)) (List.mem_of_getElem? (i := 17) rfl)
theorem dX10_count_74 : decode cX10_count 74 = .ok (.getfield 19, 3) := al_X10_count_0 (74, (.getfield 19, 3)) (List.mem_of_getElem? (i := 18) rfl)
theorem dX10_count_77 : decode cX10_count 77 = .ok (.getfield 129, 3) := al_X10_count_0 (77, (.getfield 129, 3)) (List.mem_of_getElem? (i := 19) rfl)
theorem dX10_count_80 : decode cX10_count 80 = .ok (.getfield 135, 3) := al_X10_count_0 (80, (.getfield 135, 3)) (List.mem_of_getElem? (i := 20) rfl)
theorem dX10_count_83 : decode cX10_count 83 = .ok (.ireturn, 1) := al_X10_count_0 (83, (.ireturn, 1)) (List.mem_of_getElem? (i := 21) rfl)
theorem dX10_count_84 : decode cX10_count 84 = .ok (.aload_n 0, 1) := al_X10_count_0 (84, (.aload_n 0, 1)) (List.mem_of_getElem? (i := 22) rfl)
theorem dX10_count_85 : decode cX10_count 85 = .ok (.getfield 19, 3) := al_X10_count_0 (85, (.getfield 19, 3)) (List.mem_of_getElem? (i := 23) rfl)
theorem dX10_count_88 : decode cX10_count 88 = .ok (.getfield 249, 3) := al_X10_count_0 (88, (.getfield 249, 3)) (List.mem_of_getElem? (i := 24) rfl)
theorem dX10_count_91 : decode cX10_count 91 = .ok (.getfield 253, 3) := al_X10_count_0 (91, (.getfield 253, 3)) (List.mem_of_getElem? (i := 25) rfl)
theorem dX10_count_94 : decode cX10_count 94 = .ok (.ireturn, 1) := al_X10_count_0 (94, (.ireturn, 1)) (List.mem_of_getElem? (i := 26) rfl)
theorem dX10_count_95 : decode cX10_count 95 = .ok (.aload_n 0, 1) := al_X10_count_0 (95, (.aload_n 0, 1)) (List.mem_of_getElem? (i := 27) rfl)
theorem dX10_count_96 : decode cX10_count 96 = .ok (.getfield 19, 3) := al_X10_count_0 (96, (.getfield 19, 3)) (List.mem_of_getElem? (i := 28) rfl)
theorem dX10_count_99 : decode cX10_count 99 = .ok (.getfield 87, 3) := al_X10_count_0 (99, (.getfield 87, 3)) (List.mem_of_getElem? (i := 29) rfl)
theorem dX10_count_102 : decode cX10_count 102 = .ok (.invokevirtual 308, 3) := al_X10_count_0 (102, (.invokevirtual 308, 3)) (List.mem_of_getElem? (i := 30) rfl)
theorem dX10_count_105 : decode cX10_count 105 = .ok (.ireturn, 1) := al_X10_count_0 (105, (.ireturn, 1)) (List.mem_of_getElem? (i := 31) rfl)
theorem dX10_count_106 : decode cX10_count 106 = .ok (.iconst (-1), 1) := al_X10_count_0 (106, (.iconst (-1), 1)) (List.mem_of_getElem? (i := 32) rfl)
theorem dX10_count_107 : decode cX10_count 107 = .ok (.ireturn, 1) := al_X10_count_0 (107, (.ireturn, 1)) (List.mem_of_getElem? (i := 33) rfl)
def in_X10_useUpText_0 : List (Nat × Instr × Nat) := [(0, (.aload_n 0, 1)), (1, (.iload_n 1, 1)), (2, (.ifCond .eq 7, 3)), (5, (.iconst (-1), 1)), (6, (.goto 10, 3)), (9, (.aload_n 0, 1)), (10, (.getfield 12, 3)), (13, (.getfield 311, 3)), (16, (.putfield 72, 3)), (19, (.aload_n 0, 1)), (20, (.getfield 12, 3)), (23, (.iconst 0, 1)), (24, (.putfield 84, 3)), (27, (.return_, 1))]
theorem al_X10_useUpText_0 : ∀ q ∈ in_X10_useUpText_0, decode cX10_useUpText q.1 = .ok q.2 := by decide +kernel
theorem dX10_useUpText_0 : decode cX10_useUpText 0 = .ok (.aload_n 0, 1) := al_X10_useUpText_0 (0, (.aload_n 0, 1)) (List.mem_of_getElem? (i := 0) rfl)
theorem dX10_useUpText_1 : decode cX10_useUpText 1 = .ok (.iload_n 1, 1) := al_X10_useUpText_0 (1, (.iload_n 1, 1)) (List.mem_of_getElem? (i := 1) rfl)
theorem dX10_useUpText_2 : decode cX10_useUpText 2 = .ok (.ifCond .eq 7, 3) := al_X10_useUpText_0 (2, (.ifCond .eq 7, 3)) (List.mem_of_getElem? (i := 2) rfl)
theorem dX10_useUpText_5 : decode cX10_useUpText 5 = .ok (.iconst (-1), 1) := al_X10_useUpText_0 (5, (.iconst (-1), 1)) (List.mem_of_getElem? (i := 3) rfl)
theorem dX10_useUpText_6 : decode cX10_useUpText 6 = .ok (.goto 10, 3) := al_X10_useUpText_0 (6, (.goto 10, 3)) (List.mem_of_getElem? (i := 4) rfl)
theorem dX10_useUpText_9 : decode cX10_useUpText 9 = .ok (.aload_n 0, 1) := al_X10_useUpText_0 (9, (.aload_n 0, 1)) (List.mem_of_getElem? (i := 5) rfl)
theorem dX10_useUpText_10 : decode cX10_useUpText 10 = .ok (.getfield 12, 3) := al_X10_useUpText_0 (10, (.getfield 12, 3)) (List.mem_of_getElem? (i := 6) rfl)
theorem dX10_useUpText_13 : decode cX10_useUpText 13 = .ok (.getfield 311, 3) := al_X10_useUpText_0 (13, (.getfield 311, 3)) (List.mem_of_getElem? (i := 7) rfl)
theorem dX10_useUpText_16 : decode cX10_useUpText 16 = .ok (.putfield 72, 3) := al_X10_useUpText_0 (16, (.putfield 72, 3)) (List.mem_of_getElem? (i := 8) rfl)
theorem dX10_useUpText_19 : decode cX10_useUpText 19 = .ok (.aload_n 0, 1) := al_X10_useUpText_0 (19, (.aload_n 0, 1)) (List.mem_of_getElem? (i := 9) rfl)
theorem dX10_useUpText_20 : decode cX10_useUpText 20 = .ok (.getfield 12, 3) := al_X10_useUpText_0 (20, (.getfield 12, 3)) (List.mem_of_getElem? (i := 10) rfl)
theorem dX10_useUpText_23 : decode cX10_useUpText 23 = .ok (.iconst 0, 1) := al_X10_useUpText_0 (23, (.iconst 0, 1)) (List.mem_of_getElem? (i := 11) rfl)
theorem dX10_useUpText_24 : decode cX10_useUpText 24 = .ok (.putfield 84, 3) := al_X10_useUpText_0 (24, (.putfield 84, 3)) (List.mem_of_getElem? (i := 12) rfl)
theorem dX10_useUpText_27 : decode cX10_useUpText 27 = .ok (.return_, 1) := al_X10_useUpText_0 (27, (.return_, 1)) (List.mem_of_getElem? (i := 13) rfl)
def in_X10_needWay_0 : List (Nat × Instr × Nat) := [(0, (.aload_n 0, 1)), (1, (.getfield 19, 3)), (4, (.getfield 87, 3)), (7, (.iload_n 1, 1)), (8, (.invokevirtual 314, 3)), (11, (.ifCond .ne 14, 3)), (14, (.new 317, 3)), (17, (.dup, 1)), (18, (.ldc_w 319, 3)), (21, (.invokespecial 321, 3)), (24, (.athrow, 1)), (25, (.return_, 1))]
theorem al_X10_needWay_0 : ∀ q ∈ in_X10_needWay_0, decode cX10_needWay q.1 = .ok q.2 := by decide +kernel
theorem dX10_needWay_0 : decode cX10_needWay 0 = .ok (.aload_n 0, 1) := al_X10_needWay_0 (0, (.aload_n 0, 1)) (List.mem_of_getElem? (i := 0) rfl)
theorem dX10_needWay_1 : decode cX10_needWay 1 = .ok (.getfield 19, 3) := al_X10_needWay_0 (1, (.getfield 19, 3)) (List.mem_of_getElem? (i := 1) rfl)
theorem dX10_needWay_4 : decode cX10_needWay 4 = .ok (.getfield 87, 3) := al_X10_needWay_0 (4, (.getfield 87, 3)) (List.mem_of_getElem? (i := 2) rfl)
theorem dX10_needWay_7 : decode cX10_needWay 7 = .ok (.iload_n 1, 1) := al_X10_needWay_0 (7, (.iload_n 1, 1)) (List.mem_of_getElem? (i := 3) rfl)
theorem dX10_needWay_8 : decode cX10_needWay 8 = .ok (.invokevirtual 314, 3) := al_X10_needWay_0 (8, (.invokevirtual 314, 3)) (List.mem_of_getElem? (i := 4) rfl)
theorem dX10_needWay_11 : decode cX10_needWay 11 = .ok (.ifCond .ne 14, 3) := al_X10_needWay_0 (11, (.ifCond .ne 14, 3)) (List.mem_of_getElem? (i := 5) rfl)
theorem dX10_needWay_14 : decode cX10_needWay 14 = .ok (.new 317, 3) := al_X10_needWay_0 (14, (.new 317, 3)) (List.mem_of_getElem? (i := 6) rfl)
theorem dX10_needWay_17 : decode cX10_needWay 17 = .ok (.dup, 1) := al_X10_needWay_0 (17, (.dup, 1)) (List.mem_of_getElem? (i := 7) rfl)
theorem dX10_needWay_18 : decode cX10_needWay 18 = .ok (.ldc_w 319, 3) := al_X10_needWay_0 (18, (.ldc_w 319, 3)) (List.mem_of_getElem? (i := 8) rfl)
theorem dX10_needWay_21 : decode cX10_needWay 21 = .ok (.invokespecial 321, 3) := al_X10_needWay_0 (21, (.invokespecial 321, 3)) (List.mem_of_getElem? (i := 9) rfl)
theorem dX10_needWay_24 : decode cX10_needWay 24 = .ok (.athrow, 1) := al_X10_needWay_0 (24, (.athrow, 1)) (List.mem_of_getElem? (i := 10) rfl)
theorem dX10_needWay_25 : decode cX10_needWay 25 = .ok (.return_, 1) := al_X10_needWay_0 (25, (.return_, 1)) (List.mem_of_getElem? (i := 11) rfl)
def in_X10_needCorner_0 : List (Nat × Instr × Nat) := [(0, (.aload_n 0, 1)), (1, (.getfield 19, 3)), (4, (.getfield 87, 3)), (7, (.iload_n 1, 1)), (8, (.iload_n 2, 1)), (9, (.invokevirtual 322, 3)), (12, (.ifCond .ne 14, 3)), (15, (.new 317, 3)), (18, (.dup, 1)), (19, (.ldc_w 325, 3)), (22, (.invokespecial 321, 3)), (25, (.athrow, 1)), (26, (.return_, 1))]
theorem al_X10_needCorner_0 : ∀ q ∈ in_X10_needCorner_0, decode cX10_needCorner q.1 = .ok q.2 := by decide +kernel
theorem dX10_needCorner_0 : decode cX10_needCorner 0 = .ok (.aload_n 0, 1) := al_X10_needCorner_0 (0, (.aload_n 0, 1)) (List.mem_of_getElem? (i := 0) rfl)
theorem dX10_needCorner_1 : decode cX10_needCorner 1 = .ok (.getfield 19, 3) := al_X10_needCorner_0 (1, (.getfield 19, 3)) (List.mem_of_getElem? (i := 1) rfl)
theorem dX10_needCorner_4 : decode cX10_needCorner 4 = .ok (.getfield 87, 3) := al_X10_needCorner_0 (4, (.getfield 87, 3)) (List.mem_of_getElem? (i := 2) rfl)
theorem dX10_needCorner_7 : decode cX10_needCorner 7 = .ok (.iload_n 1, 1) := al_X10_needCorner_0 (7, (.iload_n 1, 1)) (List.mem_of_getElem? (i := 3) rfl)
theorem dX10_needCorner_8 : decode cX10_needCorner 8 = .ok (.iload_n 2, 1) := al_X10_needCorner_0 (8, (.iload_n 2, 1)) (List.mem_of_getElem? (i := 4) rfl)
theorem dX10_needCorner_9 : decode cX10_needCorner 9 = .ok (.invokevirtual 322, 3) := al_X10_needCorner_0 (9, (.invokevirtual 322, 3)) (List.mem_of_getElem? (i := 5) rfl)
theorem dX10_needCorner_12 : decode cX10_needCorner 12 = .ok (.ifCond .ne 14, 3) := al_X10_needCorner_0 (12, (.ifCond .ne 14, 3)) (List.mem_of_getElem? (i := 6) rfl)
theorem dX10_needCorner_15 : decode cX10_needCorner 15 = .ok (.new 317, 3) := al_X10_needCorner_0 (15, (.new 317, 3)) (List.mem_of_getElem? (i := 7) rfl)
theorem dX10_needCorner_18 : decode cX10_needCorner 18 = .ok (.dup, 1) := al_X10_needCorner_0 (18, (.dup, 1)) (List.mem_of_getElem? (i := 8) rfl)
theorem dX10_needCorner_19 : decode cX10_needCorner 19 = .ok (.ldc_w 325, 3) := al_X10_needCorner_0 (19, (.ldc_w 325, 3)) (List.mem_of_getElem? (i := 9) rfl)
theorem dX10_needCorner_22 : decode cX10_needCorner 22 = .ok (.invokespecial 321, 3) := al_X10_needCorner_0 (22, (.invokespecial 321, 3)) (List.mem_of_getElem? (i := 10) rfl)
theorem dX10_needCorner_25 : decode cX10_needCorner 25 = .ok (.athrow, 1) := al_X10_needCorner_0 (25, (.athrow, 1)) (List.mem_of_getElem? (i := 11) rfl)
theorem dX10_needCorner_26 : decode cX10_needCorner 26 = .ok (.return_, 1) := al_X10_needCorner_0 (26, (.return_, 1)) (List.mem_of_getElem? (i := 12) rfl)
def in_X10_shortest_0 : List (Nat × Instr × Nat) := [(0, (.aload_n 0, 1)), (1, (.getfield 43, 3)), (4, (.aload_n 0, 1)), (5, (.getfield 19, 3)), (8, (.iload_n 1, 1)), (9, (.iload_n 2, 1)), (10, (.invokevirtual 201, 3)), (13, (.aload_n 0, 1)), (14, (.getfield 43, 3)), (17, (.aload_n 0, 1)), (18, (.getfield 43, 3)), (21, (.getfield 327, 3)), (24, (.aload_n 0, 1)), (25, (.getfield 43, 3)), (28, (.getfield 330, 3)), (31, (.iconst 0, 1)), (32, (.invokevirtual 333, 3)), (35, (.invokestatic 208, 3)), (38, (.ireturn, 1))]
theorem al_X10_shortest_0 : ∀ q ∈ in_X10_shortest_0, decode cX10_shortest q.1 = .ok q.2 := by decide +kernel
theorem dX10_shortest_0 : decode cX10_shortest 0 = .ok (.aload_n 0, 1) := al_X10_shortest_0 (0, (.aload_n 0, 1)) (List.mem_of_getElem? (i := 0) rfl)
theorem dX10_shortest_1 : decode cX10_shortest 1 = .ok (.getfield 43, 3) := al_X10_shortest_0 (1, (.getfield 43, 3)) (List.mem_of_getElem? (i := 1) rfl)
theorem dX10_shortest_4 : decode cX10_shortest 4 = .ok (.aload_n 0, 1) := al_X10_shortest_0 (4, (.aload_n 0, 1)) (List.mem_of_getElem? (i := 2) rfl)
theorem dX10_shortest_5 : decode cX10_shortest 5 = .ok (.getfield 19, 3) := al_X10_shortest_0 (5, (.getfield 19, 3)) (List.mem_of_getElem? (i := 3) rfl)
theorem dX10_shortest_8 : decode cX10_shortest 8 = .ok (.iload_n 1, 1) := al_X10_shortest_0 (8, (.iload_n 1, 1)) (List.mem_of_getElem? (i := 4) rfl)
theorem dX10_shortest_9 : decode cX10_shortest 9 = .ok (.iload_n 2, 1) := al_X10_shortest_0 (9, (.iload_n 2, 1)) (List.mem_of_getElem? (i := 5) rfl)
theorem dX10_shortest_10 : decode cX10_shortest 10 = .ok (.invokevirtual 201, 3) := al_X10_shortest_0 (10, (.invokevirtual 201, 3)) (List.mem_of_getElem? (i := 6) rfl)
theorem dX10_shortest_13 : decode cX10_shortest 13 = .ok (.aload_n 0, 1) := al_X10_shortest_0 (13, (.aload_n 0, 1)) (List.mem_of_getElem? (i := 7) rfl)
theorem dX10_shortest_14 : decode cX10_shortest 14 = .ok (.getfield 43, 3) := al_X10_shortest_0 (14, (.getfield 43, 3)) (List.mem_of_getElem? (i := 8) rfl)
theorem dX10_shortest_17 : decode cX10_shortest 17 = .ok (.aload_n 0, 1) := al_X10_shortest_0 (17, (.aload_n 0, 1)) (List.mem_of_getElem? (i := 9) rfl)
theorem dX10_shortest_18 : decode cX10_shortest 18 = .ok (.getfield 43, 3) := al_X10_shortest_0 (18, (.getfield 43, 3)) (List.mem_of_getElem? (i := 10) rfl)
theorem dX10_shortest_21 : decode cX10_shortest 21 = .ok (.getfield 327, 3) := al_X10_shortest_0 (21, (.getfield 327, 3)) (List.mem_of_getElem? (i := 11) rfl)
theorem dX10_shortest_24 : decode cX10_shortest 24 = .ok (.aload_n 0, 1) := al_X10_shortest_0 (24, (.aload_n 0, 1)) (List.mem_of_getElem? (i := 12) rfl)
theorem dX10_shortest_25 : decode cX10_shortest 25 = .ok (.getfield 43, 3) := al_X10_shortest_0 (25, (.getfield 43, 3)) (List.mem_of_getElem? (i := 13) rfl)
theorem dX10_shortest_28 : decode cX10_shortest 28 = .ok (.getfield 330, 3) := al_X10_shortest_0 (28, (.getfield 330, 3)) (List.mem_of_getElem? (i := 14) rfl)
theorem dX10_shortest_31 : decode cX10_shortest 31 = .ok (.iconst 0, 1) := al_X10_shortest_0 (31, (.iconst 0, 1)) (List.mem_of_getElem? (i := 15) rfl)
theorem dX10_shortest_32 : decode cX10_shortest 32 = .ok (.invokevirtual 333, 3) := al_X10_shortest_0 (32, (.invokevirtual 333, 3)) (List.mem_of_getElem? (i := 16) rfl)
theorem dX10_shortest_35 : decode cX10_shortest 35 = .ok (.invokestatic 208, 3) := al_X10_shortest_0 (35, (.invokestatic 208, 3)) (List.mem_of_getElem? (i := 17) rfl)
theorem dX10_shortest_38 : decode cX10_shortest 38 = .ok (.ireturn, 1) := al_X10_shortest_0 (38, (.ireturn, 1)) (List.mem_of_getElem? (i := 18) rfl)
def in_X10_nearestOf_0 : List (Nat × Instr × Nat) := [(0, (.iconst (-1), 1)), (1, (.istore_n 3, 1)), (2, (.ldc 224, 2)), (4, (.istore 4, 2)), (6, (.iconst 0, 1)), (7, (.istore 5, 2)), (9, (.iload 5, 2)), (11, (.aload_n 0, 1)), (12, (.getfield 19, 3)), (15, (.getfield 87, 3)), (18, (.getfield 225, 3)), (21, (.if_icmp .ge 56, 3)), (24, (.iload 5, 2)), (26, (.iload_n 1, 1)), (27, (.if_icmp .eq 44, 3)), (30, (.iload_n 2, 1)), (31, (.iload 5, 2)), (33, (.invokestatic 228, 3)), (36, (.ifCond .ne 6, 3)), (39, (.goto 32, 3)), (42, (.aload_n 0, 1)), (43, (.iload_n 1, 1)), (44, (.iload 5, 2)), (46, (.invokevirtual 164, 3)), (49, (.istore 6, 2)), (51, (.iload 6, 2)), (53, (.iconst (-1), 1)), (54, (.if_icmp .eq 17, 3)), (57, (.iload 6, 2)), (59, (.iload 4, 2)), (61, (.if_icmp .ge 10, 3)), (64, (.iload 6, 2)), (66, (.istore 4, 2)), (68, (.iload 5, 2)), (70, (.istore_n 3, 1)), (71, (.iinc 5 1, 3)), (74, (.goto (-65), 3)), (77, (.iload_n 3, 1)), (78, (.ireturn, 1))]
theorem al_X10_nearestOf_0 : ∀ q ∈ in_X10_nearestOf_0, decode cX10_nearestOf q.1 = .ok q.2 := by decide +kernel
theorem dX10_nearestOf_0 : decode cX10_nearestOf 0 = .ok (.iconst (-1), 1) := al_X10_nearestOf_0 (0, (.iconst (-1), 1)) (List.mem_of_getElem? (i := 0) rfl)
theorem dX10_nearestOf_1 : decode cX10_nearestOf 1 = .ok (.istore_n 3, 1) := al_X10_nearestOf_0 (1, (.istore_n 3, 1)) (List.mem_of_getElem? (i := 1) rfl)
theorem dX10_nearestOf_2 : decode cX10_nearestOf 2 = .ok (.ldc 224, 2) := al_X10_nearestOf_0 (2, (.ldc 224, 2)) (List.mem_of_getElem? (i := 2) rfl)
theorem dX10_nearestOf_4 : decode cX10_nearestOf 4 = .ok (.istore 4, 2) := al_X10_nearestOf_0 (4, (.istore 4, 2)) (List.mem_of_getElem? (i := 3) rfl)
theorem dX10_nearestOf_6 : decode cX10_nearestOf 6 = .ok (.iconst 0, 1) := al_X10_nearestOf_0 (6, (.iconst 0, 1)) (List.mem_of_getElem? (i := 4) rfl)
theorem dX10_nearestOf_7 : decode cX10_nearestOf 7 = .ok (.istore 5, 2) := al_X10_nearestOf_0 (7, (.istore 5, 2)) (List.mem_of_getElem? (i := 5) rfl)
theorem dX10_nearestOf_9 : decode cX10_nearestOf 9 = .ok (.iload 5, 2) := al_X10_nearestOf_0 (9, (.iload 5, 2)) (List.mem_of_getElem? (i := 6) rfl)
theorem dX10_nearestOf_11 : decode cX10_nearestOf 11 = .ok (.aload_n 0, 1) := al_X10_nearestOf_0 (11, (.aload_n 0, 1)) (List.mem_of_getElem? (i := 7) rfl)
theorem dX10_nearestOf_12 : decode cX10_nearestOf 12 = .ok (.getfield 19, 3) := al_X10_nearestOf_0 (12, (.getfield 19, 3)) (List.mem_of_getElem? (i := 8) rfl)
theorem dX10_nearestOf_15 : decode cX10_nearestOf 15 = .ok (.getfield 87, 3) := al_X10_nearestOf_0 (15, (.getfield 87, 3)) (List.mem_of_getElem? (i := 9) rfl)
theorem dX10_nearestOf_18 : decode cX10_nearestOf 18 = .ok (.getfield 225, 3) := al_X10_nearestOf_0 (18, (.getfield 225, 3)) (List.mem_of_getElem? (i := 10) rfl)
theorem dX10_nearestOf_21 : decode cX10_nearestOf 21 = .ok (.if_icmp .ge 56, 3) := al_X10_nearestOf_0 (21, (.if_icmp .ge 56, 3)) (List.mem_of_getElem? (i := 11) rfl)
theorem dX10_nearestOf_24 : decode cX10_nearestOf 24 = .ok (.iload 5, 2) := al_X10_nearestOf_0 (24, (.iload 5, 2)) (List.mem_of_getElem? (i := 12) rfl)
theorem dX10_nearestOf_26 : decode cX10_nearestOf 26 = .ok (.iload_n 1, 1) := al_X10_nearestOf_0 (26, (.iload_n 1, 1)) (List.mem_of_getElem? (i := 13) rfl)
theorem dX10_nearestOf_27 : decode cX10_nearestOf 27 = .ok (.if_icmp .eq 44, 3) := al_X10_nearestOf_0 (27, (.if_icmp .eq 44, 3)) (List.mem_of_getElem? (i := 14) rfl)
theorem dX10_nearestOf_30 : decode cX10_nearestOf 30 = .ok (.iload_n 2, 1) := al_X10_nearestOf_0 (30, (.iload_n 2, 1)) (List.mem_of_getElem? (i := 15) rfl)
theorem dX10_nearestOf_31 : decode cX10_nearestOf 31 = .ok (.iload 5, 2) := al_X10_nearestOf_0 (31, (.iload 5, 2)) (List.mem_of_getElem? (i := 16) rfl)
theorem dX10_nearestOf_33 : decode cX10_nearestOf 33 = .ok (.invokestatic 228, 3) := al_X10_nearestOf_0 (33, (.invokestatic 228, 3)) (List.mem_of_getElem? (i := 17) rfl)
theorem dX10_nearestOf_36 : decode cX10_nearestOf 36 = .ok (.ifCond .ne 6, 3) := al_X10_nearestOf_0 (36, (.ifCond .ne 6, 3)) (List.mem_of_getElem? (i := 18) rfl)
theorem dX10_nearestOf_39 : decode cX10_nearestOf 39 = .ok (.goto 32, 3) := al_X10_nearestOf_0 (39, (.goto 32, 3)) (List.mem_of_getElem? (i := 19) rfl)
theorem dX10_nearestOf_42 : decode cX10_nearestOf 42 = .ok (.aload_n 0, 1) := al_X10_nearestOf_0 (42, (.aload_n 0, 1)) (List.mem_of_getElem? (i := 20) rfl)
theorem dX10_nearestOf_43 : decode cX10_nearestOf 43 = .ok (.iload_n 1, 1) := al_X10_nearestOf_0 (43, (.iload_n 1, 1)) (List.mem_of_getElem? (i := 21) rfl)
theorem dX10_nearestOf_44 : decode cX10_nearestOf 44 = .ok (.iload 5, 2) := al_X10_nearestOf_0 (44, (.iload 5, 2)) (List.mem_of_getElem? (i := 22) rfl)
theorem dX10_nearestOf_46 : decode cX10_nearestOf 46 = .ok (.invokevirtual 164, 3) := al_X10_nearestOf_0 (46, (.invokevirtual 164, 3)) (List.mem_of_getElem? (i := 23) rfl)
theorem dX10_nearestOf_49 : decode cX10_nearestOf 49 = .ok (.istore 6, 2) := al_X10_nearestOf_0 (49, (.istore 6, 2)) (List.mem_of_getElem? (i := 24) rfl)
theorem dX10_nearestOf_51 : decode cX10_nearestOf 51 = .ok (.iload 6, 2) := al_X10_nearestOf_0 (51, (.iload 6, 2)) (List.mem_of_getElem? (i := 25) rfl)
theorem dX10_nearestOf_53 : decode cX10_nearestOf 53 = .ok (.iconst (-1), 1) := al_X10_nearestOf_0 (53, (.iconst (-1), 1)) (List.mem_of_getElem? (i := 26) rfl)
theorem dX10_nearestOf_54 : decode cX10_nearestOf 54 = .ok (.if_icmp .eq 17, 3) := al_X10_nearestOf_0 (54, (.if_icmp .eq 17, 3)) (List.mem_of_getElem? (i := 27) rfl)
theorem dX10_nearestOf_57 : decode cX10_nearestOf 57 = .ok (.iload 6, 2) := al_X10_nearestOf_0 (57, (.iload 6, 2)) (List.mem_of_getElem? (i := 28) rfl)
theorem dX10_nearestOf_59 : decode cX10_nearestOf 59 = .ok (.iload 4, 2) := al_X10_nearestOf_0 (59, (.iload 4, 2)) (List.mem_of_getElem? (i := 29) rfl)
theorem dX10_nearestOf_61 : decode cX10_nearestOf 61 = .ok (.if_icmp .ge 10, 3) := al_X10_nearestOf_0 (61, (.if_icmp .ge 10, 3)) (List.mem_of_getElem? (i := 30) rfl)
theorem dX10_nearestOf_64 : decode cX10_nearestOf 64 = .ok (.iload 6, 2) := al_X10_nearestOf_0 (64, (.iload 6, 2)) (List.mem_of_getElem? (i := 31) rfl)
theorem dX10_nearestOf_66 : decode cX10_nearestOf 66 = .ok (.istore 4, 2) := al_X10_nearestOf_0 (66, (.istore 4, 2)) (List.mem_of_getElem? (i := 32) rfl)
theorem dX10_nearestOf_68 : decode cX10_nearestOf 68 = .ok (.iload 5, 2) := al_X10_nearestOf_0 (68, (.iload 5, 2)) (List.mem_of_getElem? (i := 33) rfl)
theorem dX10_nearestOf_70 : decode cX10_nearestOf 70 = .ok (.istore_n 3, 1) := al_X10_nearestOf_0 (70, (.istore_n 3, 1)) (List.mem_of_getElem? (i := 34) rfl)
theorem dX10_nearestOf_71 : decode cX10_nearestOf 71 = .ok (.iinc 5 1, 3) := al_X10_nearestOf_0 (71, (.iinc 5 1, 3)) (List.mem_of_getElem? (i := 35) rfl)
theorem dX10_nearestOf_74 : decode cX10_nearestOf 74 = .ok (.goto (-65), 3) := al_X10_nearestOf_0 (74, (.goto (-65), 3)) (List.mem_of_getElem? (i := 36) rfl)
theorem dX10_nearestOf_77 : decode cX10_nearestOf 77 = .ok (.iload_n 3, 1) := al_X10_nearestOf_0 (77, (.iload_n 3, 1)) (List.mem_of_getElem? (i := 37) rfl)
theorem dX10_nearestOf_78 : decode cX10_nearestOf 78 = .ok (.ireturn, 1) := al_X10_nearestOf_0 (78, (.ireturn, 1)) (List.mem_of_getElem? (i := 38) rfl)
def in_X10_greatestToOthers_0 : List (Nat × Instr × Nat) := [(0, (.iconst 0, 1)), (1, (.istore_n 3, 1)), (2, (.iconst 0, 1)), (3, (.istore 4, 2)), (5, (.iload 4, 2)), (7, (.aload_n 0, 1)), (8, (.getfield 19, 3)), (11, (.getfield 87, 3)), (14, (.getfield 225, 3)), (17, (.if_icmp .ge 51, 3)), (20, (.iload 4, 2)), (22, (.iload_n 1, 1)), (23, (.if_icmp .eq 39, 3)), (26, (.iload_n 2, 1)), (27, (.iload 4, 2)), (29, (.invokestatic 228, 3)), (32, (.ifCond .ne 6, 3)), (35, (.goto 27, 3)), (38, (.aload_n 0, 1)), (39, (.iload_n 1, 1)), (40, (.iload 4, 2)), (42, (.invokevirtual 164, 3)), (45, (.istore 5, 2)), (47, (.iload 5, 2)), (49, (.iconst (-1), 1)), (50, (.if_icmp .ne 5, 3)), (53, (.iconst (-1), 1)), (54, (.ireturn, 1)), (55, (.iload_n 3, 1)), (56, (.iload 5, 2)), (58, (.invokestatic 337, 3)), (61, (.istore_n 3, 1)), (62, (.iinc 4 1, 3)), (65, (.goto (-60), 3)), (68, (.iload_n 3, 1)), (69, (.ireturn, 1))]
theorem al_X10_greatestToOthers_0 : ∀ q ∈ in_X10_greatestToOthers_0, decode cX10_greatestToOthers q.1 = .ok q.2 := by decide +kernel
theorem dX10_greatestToOthers_0 : decode cX10_greatestToOthers 0 = .ok (.iconst 0, 1) := al_X10_greatestToOthers_0 (0, (.iconst 0, 1)) (List.mem_of_getElem? (i := 0) rfl)
theorem dX10_greatestToOthers_1 : decode cX10_greatestToOthers 1 = .ok (.istore_n 3, 1) := al_X10_greatestToOthers_0 (1, (.istore_n 3, 1)) (List.mem_of_getElem? (i := 1) rfl)
theorem dX10_greatestToOthers_2 : decode cX10_greatestToOthers 2 = .ok (.iconst 0, 1) := al_X10_greatestToOthers_0 (2, (.iconst 0, 1)) (List.mem_of_getElem? (i := 2) rfl)
theorem dX10_greatestToOthers_3 : decode cX10_greatestToOthers 3 = .ok (.istore 4, 2) := al_X10_greatestToOthers_0 (3, (.istore 4, 2)) (List.mem_of_getElem? (i := 3) rfl)
theorem dX10_greatestToOthers_5 : decode cX10_greatestToOthers 5 = .ok (.iload 4, 2) := al_X10_greatestToOthers_0 (5, (.iload 4, 2)) (List.mem_of_getElem? (i := 4) rfl)
theorem dX10_greatestToOthers_7 : decode cX10_greatestToOthers 7 = .ok (.aload_n 0, 1) := al_X10_greatestToOthers_0 (7, (.aload_n 0, 1)) (List.mem_of_getElem? (i := 5) rfl)
theorem dX10_greatestToOthers_8 : decode cX10_greatestToOthers 8 = .ok (.getfield 19, 3) := al_X10_greatestToOthers_0 (8, (.getfield 19, 3)) (List.mem_of_getElem? (i := 6) rfl)
theorem dX10_greatestToOthers_11 : decode cX10_greatestToOthers 11 = .ok (.getfield 87, 3) := al_X10_greatestToOthers_0 (11, (.getfield 87, 3)) (List.mem_of_getElem? (i := 7) rfl)
theorem dX10_greatestToOthers_14 : decode cX10_greatestToOthers 14 = .ok (.getfield 225, 3) := al_X10_greatestToOthers_0 (14, (.getfield 225, 3)) (List.mem_of_getElem? (i := 8) rfl)
theorem dX10_greatestToOthers_17 : decode cX10_greatestToOthers 17 = .ok (.if_icmp .ge 51, 3) := al_X10_greatestToOthers_0 (17, (.if_icmp .ge 51, 3)) (List.mem_of_getElem? (i := 9) rfl)
theorem dX10_greatestToOthers_20 : decode cX10_greatestToOthers 20 = .ok (.iload 4, 2) := al_X10_greatestToOthers_0 (20, (.iload 4, 2)) (List.mem_of_getElem? (i := 10) rfl)
theorem dX10_greatestToOthers_22 : decode cX10_greatestToOthers 22 = .ok (.iload_n 1, 1) := al_X10_greatestToOthers_0 (22, (.iload_n 1, 1)) (List.mem_of_getElem? (i := 11) rfl)
theorem dX10_greatestToOthers_23 : decode cX10_greatestToOthers 23 = .ok (.if_icmp .eq 39, 3) := al_X10_greatestToOthers_0 (23, (.if_icmp .eq 39, 3)) (List.mem_of_getElem? (i := 12) rfl)
theorem dX10_greatestToOthers_26 : decode cX10_greatestToOthers 26 = .ok (.iload_n 2, 1) := al_X10_greatestToOthers_0 (26, (.iload_n 2, 1)) (List.mem_of_getElem? (i := 13) rfl)
theorem dX10_greatestToOthers_27 : decode cX10_greatestToOthers 27 = .ok (.iload 4, 2) := al_X10_greatestToOthers_0 (27, (.iload 4, 2)) (List.mem_of_getElem? (i := 14) rfl)
theorem dX10_greatestToOthers_29 : decode cX10_greatestToOthers 29 = .ok (.invokestatic 228, 3) := al_X10_greatestToOthers_0 (29, (.invokestatic 228, 3)) (List.mem_of_getElem? (i := 15) rfl)
theorem dX10_greatestToOthers_32 : decode cX10_greatestToOthers 32 = .ok (.ifCond .ne 6, 3) := al_X10_greatestToOthers_0 (32, (.ifCond .ne 6, 3)) (List.mem_of_getElem? (i := 16) rfl)
theorem dX10_greatestToOthers_35 : decode cX10_greatestToOthers 35 = .ok (.goto 27, 3) := al_X10_greatestToOthers_0 (35, (.goto 27, 3)) (List.mem_of_getElem? (i := 17) rfl)
theorem dX10_greatestToOthers_38 : decode cX10_greatestToOthers 38 = .ok (.aload_n 0, 1) := al_X10_greatestToOthers_0 (38, (.aload_n 0, 1)) (List.mem_of_getElem? (i := 18) rfl)
theorem dX10_greatestToOthers_39 : decode cX10_greatestToOthers 39 = .ok (.iload_n 1, 1) := al_X10_greatestToOthers_0 (39, (.iload_n 1, 1)) (List.mem_of_getElem? (i := 19) rfl)
theorem dX10_greatestToOthers_40 : decode cX10_greatestToOthers 40 = .ok (.iload 4, 2) := al_X10_greatestToOthers_0 (40, (.iload 4, 2)) (List.mem_of_getElem? (i := 20) rfl)
theorem dX10_greatestToOthers_42 : decode cX10_greatestToOthers 42 = .ok (.invokevirtual 164, 3) := al_X10_greatestToOthers_0 (42, (.invokevirtual 164, 3)) (List.mem_of_getElem? (i := 21) rfl)
theorem dX10_greatestToOthers_45 : decode cX10_greatestToOthers 45 = .ok (.istore 5, 2) := al_X10_greatestToOthers_0 (45, (.istore 5, 2)) (List.mem_of_getElem? (i := 22) rfl)
theorem dX10_greatestToOthers_47 : decode cX10_greatestToOthers 47 = .ok (.iload 5, 2) := al_X10_greatestToOthers_0 (47, (.iload 5, 2)) (List.mem_of_getElem? (i := 23) rfl)
theorem dX10_greatestToOthers_49 : decode cX10_greatestToOthers 49 = .ok (.iconst (-1), 1) := al_X10_greatestToOthers_0 (49, (.iconst (-1), 1)) (List.mem_of_getElem? (i := 24) rfl)
theorem dX10_greatestToOthers_50 : decode cX10_greatestToOthers 50 = .ok (.if_icmp .ne 5, 3) := al_X10_greatestToOthers_0 (50, (.if_icmp .ne 5, 3)) (List.mem_of_getElem? (i := 25) rfl)
theorem dX10_greatestToOthers_53 : decode cX10_greatestToOthers 53 = .ok (.iconst (-1), 1) := al_X10_greatestToOthers_0 (53, (.iconst (-1), 1)) (List.mem_of_getElem? (i := 26) rfl)
theorem dX10_greatestToOthers_54 : decode cX10_greatestToOthers 54 = .ok (.ireturn, 1) := al_X10_greatestToOthers_0 (54, (.ireturn, 1)) (List.mem_of_getElem? (i := 27) rfl)
theorem dX10_greatestToOthers_55 : decode cX10_greatestToOthers 55 = .ok (.iload_n 3, 1) := al_X10_greatestToOthers_0 (55, (.iload_n 3, 1)) (List.mem_of_getElem? (i := 28) rfl)
theorem dX10_greatestToOthers_56 : decode cX10_greatestToOthers 56 = .ok (.iload 5, 2) := al_X10_greatestToOthers_0 (56, (.iload 5, 2)) (List.mem_of_getElem? (i := 29) rfl)
theorem dX10_greatestToOthers_58 : decode cX10_greatestToOthers 58 = .ok (.invokestatic 337, 3) := al_X10_greatestToOthers_0 (58, (.invokestatic 337, 3)) (List.mem_of_getElem? (i := 30) rfl)
theorem dX10_greatestToOthers_61 : decode cX10_greatestToOthers 61 = .ok (.istore_n 3, 1) := al_X10_greatestToOthers_0 (61, (.istore_n 3, 1)) (List.mem_of_getElem? (i := 31) rfl)
theorem dX10_greatestToOthers_62 : decode cX10_greatestToOthers 62 = .ok (.iinc 4 1, 3) := al_X10_greatestToOthers_0 (62, (.iinc 4 1, 3)) (List.mem_of_getElem? (i := 32) rfl)
theorem dX10_greatestToOthers_65 : decode cX10_greatestToOthers 65 = .ok (.goto (-60), 3) := al_X10_greatestToOthers_0 (65, (.goto (-60), 3)) (List.mem_of_getElem? (i := 33) rfl)
theorem dX10_greatestToOthers_68 : decode cX10_greatestToOthers 68 = .ok (.iload_n 3, 1) := al_X10_greatestToOthers_0 (68, (.iload_n 3, 1)) (List.mem_of_getElem? (i := 34) rfl)
theorem dX10_greatestToOthers_69 : decode cX10_greatestToOthers 69 = .ok (.ireturn, 1) := al_X10_greatestToOthers_0 (69, (.ireturn, 1)) (List.mem_of_getElem? (i := 35) rfl)
def in_X10_greatestOfPairs_0 : List (Nat × Instr × Nat) := [(0, (.iconst 0, 1)), (1, (.istore_n 2, 1)), (2, (.iconst 0, 1)), (3, (.istore_n 3, 1)), (4, (.iload_n 3, 1)), (5, (.aload_n 0, 1)), (6, (.getfield 19, 3)), (9, (.getfield 87, 3)), (12, (.getfield 225, 3)), (15, (.if_icmp .ge 79, 3)), (18, (.iload_n 3, 1)), (19, (.iconst 1, 1)), (20, (.iadd, 1)), (21, (.istore 4, 2)), (23, (.iload 4, 2)), (25, (.aload_n 0, 1)), (26, (.getfield 19, 3)), (29, (.getfield 87, 3)), (32, (.getfield 225, 3)), (35, (.if_icmp .ge 53, 3)), (38, (.iload_n 1, 1)), (39, (.iload_n 3, 1)), (40, (.invokestatic 228, 3)), (43, (.ifCond .eq 39, 3)), (46, (.iload_n 1, 1)), (47, (.iload 4, 2)), (49, (.invokestatic 228, 3)), (52, (.ifCond .ne 6, 3)), (55, (.goto 27, 3)), (58, (.aload_n 0, 1)), (59, (.iload_n 3, 1)), (60, (.iload 4, 2)), (62, (.invokevirtual 164, 3)), (65, (.istore 5, 2)), (67, (.iload 5, 2)), (69, (.iconst (-1), 1)), (70, (.if_icmp .ne 5, 3)), (73, (.iconst (-1), 1)), (74, (.ireturn, 1)), (75, (.iload_n 2, 1)), (76, (.iload 5, 2)), (78, (.invokestatic 337, 3)), (81, (.istore_n 2, 1)), (82, (.iinc 4 1, 3)), (85, (.goto (-62), 3)), (88, (.iinc 3 1, 3)), (91, (.goto (-87), 3)), (94, (.iload_n 2, 1)), (95, (.ireturn, 1))]
theorem al_X10_greatestOfPairs_0 : ∀ q ∈ in_X10_greatestOfPairs_0, decode cX10_greatestOfPairs q.1 = .ok q.2 := by decide +kernel
theorem dX10_greatestOfPairs_0 : decode cX10_greatestOfPairs 0 = .ok (.iconst 0, 1) := al_X10_greatestOfPairs_0 (0, (.iconst 0, 1)) (List.mem_of_getElem? (i := 0) rfl)
theorem dX10_greatestOfPairs_1 : decode cX10_greatestOfPairs 1 = .ok (.istore_n 2, 1) := al_X10_greatestOfPairs_0 (1, (.istore_n 2, 1)) (List.mem_of_getElem? (i := 1) rfl)
theorem dX10_greatestOfPairs_2 : decode cX10_greatestOfPairs 2 = .ok (.iconst 0, 1) := al_X10_greatestOfPairs_0 (2, (.iconst 0, 1)) (List.mem_of_getElem? (i := 2) rfl)
theorem dX10_greatestOfPairs_3 : decode cX10_greatestOfPairs 3 = .ok (.istore_n 3, 1) := al_X10_greatestOfPairs_0 (3, (.istore_n 3, 1)) (List.mem_of_getElem? (i := 3) rfl)
theorem dX10_greatestOfPairs_4 : decode cX10_greatestOfPairs 4 = .ok (.iload_n 3, 1) := al_X10_greatestOfPairs_0 (4, (.iload_n 3, 1)) (List.mem_of_getElem? (i := 4) rfl)
theorem dX10_greatestOfPairs_5 : decode cX10_greatestOfPairs 5 = .ok (.aload_n 0, 1) := al_X10_greatestOfPairs_0 (5, (.aload_n 0, 1)) (List.mem_of_getElem? (i := 5) rfl)
theorem dX10_greatestOfPairs_6 : decode cX10_greatestOfPairs 6 = .ok (.getfield 19, 3) := al_X10_greatestOfPairs_0 (6, (.getfield 19, 3)) (List.mem_of_getElem? (i := 6) rfl)
theorem dX10_greatestOfPairs_9 : decode cX10_greatestOfPairs 9 = .ok (.getfield 87, 3) := al_X10_greatestOfPairs_0 (9, (.getfield 87, 3)) (List.mem_of_getElem? (i := 7) rfl)
theorem dX10_greatestOfPairs_12 : decode cX10_greatestOfPairs 12 = .ok (.getfield 225, 3) := al_X10_greatestOfPairs_0 (12, (.getfield 225, 3)) (List.mem_of_getElem? (i := 8) rfl)
theorem dX10_greatestOfPairs_15 : decode cX10_greatestOfPairs 15 = .ok (.if_icmp .ge 79, 3) := al_X10_greatestOfPairs_0 (15, (.if_icmp .ge 79, 3)) (List.mem_of_getElem? (i := 9) rfl)
theorem dX10_greatestOfPairs_18 : decode cX10_greatestOfPairs 18 = .ok (.iload_n 3, 1) := al_X10_greatestOfPairs_0 (18, (.iload_n 3, 1)) (List.mem_of_getElem? (i := 10) rfl)
theorem dX10_greatestOfPairs_19 : decode cX10_greatestOfPairs 19 = .ok (.iconst 1, 1) := al_X10_greatestOfPairs_0 (19, (.iconst 1, 1)) (List.mem_of_getElem? (i := 11) rfl)
theorem dX10_greatestOfPairs_20 : decode cX10_greatestOfPairs 20 = .ok (.iadd, 1) := al_X10_greatestOfPairs_0 (20, (.iadd, 1)) (List.mem_of_getElem? (i := 12) rfl)
theorem dX10_greatestOfPairs_21 : decode cX10_greatestOfPairs 21 = .ok (.istore 4, 2) := al_X10_greatestOfPairs_0 (21, (.istore 4, 2)) (List.mem_of_getElem? (i := 13) rfl)
theorem dX10_greatestOfPairs_23 : decode cX10_greatestOfPairs 23 = .ok (.iload 4, 2) := al_X10_greatestOfPairs_0 (23, (.iload 4, 2)) (List.mem_of_getElem? (i := 14) rfl)
theorem dX10_greatestOfPairs_25 : decode cX10_greatestOfPairs 25 = .ok (.aload_n 0, 1) := al_X10_greatestOfPairs_0 (25, (.aload_n 0, 1)) (List.mem_of_getElem? (i := 15) rfl)
theorem dX10_greatestOfPairs_26 : decode cX10_greatestOfPairs 26 = .ok (.getfield 19, 3) := al_X10_greatestOfPairs_0 (26, (.getfield 19, 3)) (List.mem_of_getElem? (i := 16) rfl)
theorem dX10_greatestOfPairs_29 : decode cX10_greatestOfPairs 29 = .ok (.getfield 87, 3) := al_X10_greatestOfPairs_0 (29, (.getfield 87, 3)) (List.mem_of_getElem? (i := 17) rfl)
theorem dX10_greatestOfPairs_32 : decode cX10_greatestOfPairs 32 = .ok (.getfield 225, 3) := al_X10_greatestOfPairs_0 (32, (.getfield 225, 3)) (List.mem_of_getElem? (i := 18) rfl)
theorem dX10_greatestOfPairs_35 : decode cX10_greatestOfPairs 35 = .ok (.if_icmp .ge 53, 3) := al_X10_greatestOfPairs_0 (35, (.if_icmp .ge 53, 3)) (List.mem_of_getElem? (i := 19) rfl)
theorem dX10_greatestOfPairs_38 : decode cX10_greatestOfPairs 38 = .ok (.iload_n 1, 1) := al_X10_greatestOfPairs_0 (38, (.iload_n 1, 1)) (List.mem_of_getElem? (i := 20) rfl)
theorem dX10_greatestOfPairs_39 : decode cX10_greatestOfPairs 39 = .ok (.iload_n 3, 1) := al_X10_greatestOfPairs_0 (39, (.iload_n 3, 1)) (List.mem_of_getElem? (i := 21) rfl)
theorem dX10_greatestOfPairs_40 : decode cX10_greatestOfPairs 40 = .ok (.invokestatic 228, 3) := al_X10_greatestOfPairs_0 (40, (.invokestatic 228, 3)) (List.mem_of_getElem? (i := 22) rfl)
theorem dX10_greatestOfPairs_43 : decode cX10_greatestOfPairs 43 = .ok (.ifCond .eq 39, 3) := al_X10_greatestOfPairs_0 (43, (.ifCond .eq 39, 3)) (List.mem_of_getElem? (i := 23) rfl)
theorem dX10_greatestOfPairs_46 : decode cX10_greatestOfPairs 46 = .ok (.iload_n 1, 1) := al_X10_greatestOfPairs_0 (46, (.iload_n 1, 1)) (List.mem_of_getElem? (i := 24) rfl)
theorem dX10_greatestOfPairs_47 : decode cX10_greatestOfPairs 47 = .ok (.iload 4, 2) := al_X10_greatestOfPairs_0 (47, (.iload 4, 2)) (List.mem_of_getElem? (i := 25) rfl)
theorem dX10_greatestOfPairs_49 : decode cX10_greatestOfPairs 49 = .ok (.invokestatic 228, 3) := al_X10_greatestOfPairs_0 (49, (.invokestatic 228, 3)) (List.mem_of_getElem? (i := 26) rfl)
theorem dX10_greatestOfPairs_52 : decode cX10_greatestOfPairs 52 = .ok (.ifCond .ne 6, 3) := al_X10_greatestOfPairs_0 (52, (.ifCond .ne 6, 3)) (List.mem_of_getElem? (i := 27) rfl)
theorem dX10_greatestOfPairs_55 : decode cX10_greatestOfPairs 55 = .ok (.goto 27, 3) := al_X10_greatestOfPairs_0 (55, (.goto 27, 3)) (List.mem_of_getElem? (i := 28) rfl)
theorem dX10_greatestOfPairs_58 : decode cX10_greatestOfPairs 58 = .ok (.aload_n 0, 1) := al_X10_greatestOfPairs_0 (58, (.aload_n 0, 1)) (List.mem_of_getElem? (i := 29) rfl)
theorem dX10_greatestOfPairs_59 : decode cX10_greatestOfPairs 59 = .ok (.iload_n 3, 1) := al_X10_greatestOfPairs_0 (59, (.iload_n 3, 1)) (List.mem_of_getElem? (i := 30) rfl)
theorem dX10_greatestOfPairs_60 : decode cX10_greatestOfPairs 60 = .ok (.iload 4, 2) := al_X10_greatestOfPairs_0 (60, (.iload 4, 2)) (List.mem_of_getElem? (i := 31) rfl)
theorem dX10_greatestOfPairs_62 : decode cX10_greatestOfPairs 62 = .ok (.invokevirtual 164, 3) := al_X10_greatestOfPairs_0 (62, (.invokevirtual 164, 3)) (List.mem_of_getElem? (i := 32) rfl)
theorem dX10_greatestOfPairs_65 : decode cX10_greatestOfPairs 65 = .ok (.istore 5, 2) := al_X10_greatestOfPairs_0 (65, (.istore 5, 2)) (List.mem_of_getElem? (i := 33) rfl)
theorem dX10_greatestOfPairs_67 : decode cX10_greatestOfPairs 67 = .ok (.iload 5, 2) := al_X10_greatestOfPairs_0 (67, (.iload 5, 2)) (List.mem_of_getElem? (i := 34) rfl)
theorem dX10_greatestOfPairs_69 : decode cX10_greatestOfPairs 69 = .ok (.iconst (-1), 1) := al_X10_greatestOfPairs_0 (69, (.iconst (-1), 1)) (List.mem_of_getElem? (i := 35) rfl)
theorem dX10_greatestOfPairs_70 : decode cX10_greatestOfPairs 70 = .ok (.if_icmp .ne 5, 3) := al_X10_greatestOfPairs_0 (70, (.if_icmp .ne 5, 3)) (List.mem_of_getElem? (i := 36) rfl)
theorem dX10_greatestOfPairs_73 : decode cX10_greatestOfPairs 73 = .ok (.iconst (-1), 1) := al_X10_greatestOfPairs_0 (73, (.iconst (-1), 1)) (List.mem_of_getElem? (i := 37) rfl)
theorem dX10_greatestOfPairs_74 : decode cX10_greatestOfPairs 74 = .ok (.ireturn, 1) := al_X10_greatestOfPairs_0 (74, (.ireturn, 1)) (List.mem_of_getElem? (i := 38) rfl)
theorem dX10_greatestOfPairs_75 : decode cX10_greatestOfPairs 75 = .ok (.iload_n 2, 1) := al_X10_greatestOfPairs_0 (75, (.iload_n 2, 1)) (List.mem_of_getElem? (i := 39) rfl)
theorem dX10_greatestOfPairs_76 : decode cX10_greatestOfPairs 76 = .ok (.iload 5, 2) := al_X10_greatestOfPairs_0 (76, (.iload 5, 2)) (List.mem_of_getElem? (i := 40) rfl)
theorem dX10_greatestOfPairs_78 : decode cX10_greatestOfPairs 78 = .ok (.invokestatic 337, 3) := al_X10_greatestOfPairs_0 (78, (.invokestatic 337, 3)) (List.mem_of_getElem? (i := 41) rfl)
theorem dX10_greatestOfPairs_81 : decode cX10_greatestOfPairs 81 = .ok (.istore_n 2, 1) := al_X10_greatestOfPairs_0 (81, (.istore_n 2, 1)) (List.mem_of_getElem? (i := 42) rfl)
theorem dX10_greatestOfPairs_82 : decode cX10_greatestOfPairs 82 = .ok (.iinc 4 1, 3) := al_X10_greatestOfPairs_0 (82, (.iinc 4 1, 3)) (List.mem_of_getElem? (i := 43) rfl)
theorem dX10_greatestOfPairs_85 : decode cX10_greatestOfPairs 85 = .ok (.goto (-62), 3) := al_X10_greatestOfPairs_0 (85, (.goto (-62), 3)) (List.mem_of_getElem? (i := 44) rfl)
theorem dX10_greatestOfPairs_88 : decode cX10_greatestOfPairs 88 = .ok (.iinc 3 1, 3) := al_X10_greatestOfPairs_0 (88, (.iinc 3 1, 3)) (List.mem_of_getElem? (i := 45) rfl)
theorem dX10_greatestOfPairs_91 : decode cX10_greatestOfPairs 91 = .ok (.goto (-87), 3) := al_X10_greatestOfPairs_0 (91, (.goto (-87), 3)) (List.mem_of_getElem? (i := 46) rfl)
theorem dX10_greatestOfPairs_94 : decode cX10_greatestOfPairs 94 = .ok (.iload_n 2, 1) := al_X10_greatestOfPairs_0 (94, (.iload_n 2, 1)) (List.mem_of_getElem? (i := 47) rfl)
theorem dX10_greatestOfPairs_95 : decode cX10_greatestOfPairs 95 = .ok (.ireturn, 1) := al_X10_greatestOfPairs_0 (95, (.ireturn, 1)) (List.mem_of_getElem? (i := 48) rfl)
def in_X10_toldOfStroll_0 : List (Nat × Instr × Nat) := [(0, (.aload_n 0, 1)), (1, (.getfield 19, 3)), (4, (.getfield 117, 3)), (7, (.astore_n 2, 1)), (8, (.iload_n 1, 1)), (9, (.tableswitch 80 0 5 #[39, 44, 49, 54, 59, 75], 39)), (48, (.aload_n 2, 1)), (49, (.getfield 342, 3)), (52, (.ireturn, 1)), (53, (.aload_n 2, 1)), (54, (.getfield 345, 3)), (57, (.ireturn, 1)), (58, (.aload_n 2, 1)), (59, (.getfield 348, 3)), (62, (.ireturn, 1)), (63, (.aload_n 2, 1)), (64, (.getfield 351, 3)), (67, (.ireturn, 1)), (68, (.aload_n 0, 1)), (69, (.getfield 19, 3)), (72, (.invokevirtual 354, 3)), (75, (.ifCond .eq 7, 3)), (78, (.iconst 1, 1)), (79, (.goto 4, 3)), (82, (.iconst 0, 1)), (83, (.ireturn, 1)), (84, (.aload_n 2, 1)), (85, (.getfield 358, 3)), (88, (.ireturn, 1)), (89, (.aload_n 2, 1)), (90, (.getfield 361, 3)), (93, (.ireturn, 1))]
theorem al_X10_toldOfStroll_0 : ∀ q ∈ in_X10_toldOfStroll_0, decode cX10_toldOfStroll q.1 = .ok q.2 := by decide +kernel
theorem dX10_toldOfStroll_0 : decode cX10_toldOfStroll 0 = .ok (.aload_n 0, 1) := al_X10_toldOfStroll_0 (0, (.aload_n 0, 1)) (List.mem_of_getElem? (i := 0) rfl)
theorem dX10_toldOfStroll_1 : decode cX10_toldOfStroll 1 = .ok (.getfield 19, 3) := al_X10_toldOfStroll_0 (1, (.getfield 19, 3)) (List.mem_of_getElem? (i := 1) rfl)
theorem dX10_toldOfStroll_4 : decode cX10_toldOfStroll 4 = .ok (.getfield 117, 3) := al_X10_toldOfStroll_0 (4, (.getfield 117, 3)) (List.mem_of_getElem? (i := 2) rfl)
theorem dX10_toldOfStroll_7 : decode cX10_toldOfStroll 7 = .ok (.astore_n 2, 1) := al_X10_toldOfStroll_0 (7, (.astore_n 2, 1)) (List.mem_of_getElem? (i := 3) rfl)
theorem dX10_toldOfStroll_8 : decode cX10_toldOfStroll 8 = .ok (.iload_n 1, 1) := al_X10_toldOfStroll_0 (8, (.iload_n 1, 1)) (List.mem_of_getElem? (i := 4) rfl)
theorem dX10_toldOfStroll_9 : decode cX10_toldOfStroll 9 = .ok (.tableswitch 80 0 5 #[39, 44, 49, 54, 59, 75], 39) := al_X10_toldOfStroll_0 (9, (.tableswitch 80 0 5 #[39, 44, 49, 54, 59, 75], 39)) (List.mem_of_getElem? (i := 5) rfl)
theorem dX10_toldOfStroll_48 : decode cX10_toldOfStroll 48 = .ok (.aload_n 2, 1) := al_X10_toldOfStroll_0 (48, (.aload_n 2, 1)) (List.mem_of_getElem? (i := 6) rfl)
theorem dX10_toldOfStroll_49 : decode cX10_toldOfStroll 49 = .ok (.getfield 342, 3) := al_X10_toldOfStroll_0 (49, (.getfield 342, 3)) (List.mem_of_getElem? (i := 7) rfl)
theorem dX10_toldOfStroll_52 : decode cX10_toldOfStroll 52 = .ok (.ireturn, 1) := al_X10_toldOfStroll_0 (52, (.ireturn, 1)) (List.mem_of_getElem? (i := 8) rfl)
theorem dX10_toldOfStroll_53 : decode cX10_toldOfStroll 53 = .ok (.aload_n 2, 1) := al_X10_toldOfStroll_0 (53, (.aload_n 2, 1)) (List.mem_of_getElem? (i := 9) rfl)
theorem dX10_toldOfStroll_54 : decode cX10_toldOfStroll 54 = .ok (.getfield 345, 3) := al_X10_toldOfStroll_0 (54, (.getfield 345, 3)) (List.mem_of_getElem? (i := 10) rfl)
theorem dX10_toldOfStroll_57 : decode cX10_toldOfStroll 57 = .ok (.ireturn, 1) := al_X10_toldOfStroll_0 (57, (.ireturn, 1)) (List.mem_of_getElem? (i := 11) rfl)
theorem dX10_toldOfStroll_58 : decode cX10_toldOfStroll 58 = .ok (.aload_n 2, 1) := al_X10_toldOfStroll_0 (58, (.aload_n 2, 1)) (List.mem_of_getElem? (i := 12) rfl)
theorem dX10_toldOfStroll_59 : decode cX10_toldOfStroll 59 = .ok (.getfield 348, 3) := al_X10_toldOfStroll_0 (59, (.getfield 348, 3)) (List.mem_of_getElem? (i := 13) rfl)
theorem dX10_toldOfStroll_62 : decode cX10_toldOfStroll 62 = .ok (.ireturn, 1) := al_X10_toldOfStroll_0 (62, (.ireturn, 1)) (List.mem_of_getElem? (i := 14) rfl)
theorem dX10_toldOfStroll_63 : decode cX10_toldOfStroll 63 = .ok (.aload_n 2, 1) := al_X10_toldOfStroll_0 (63, (.aload_n 2, 1)) (List.mem_of_getElem? (i := 15) rfl)
theorem dX10_toldOfStroll_64 : decode cX10_toldOfStroll 64 = .ok (.getfield 351, 3) := al_X10_toldOfStroll_0 (64, (.getfield 351, 3)) (List.mem_of_getElem? (i := 16) rfl)
theorem dX10_toldOfStroll_67 : decode cX10_toldOfStroll 67 = .ok (.ireturn, 1) := al_X10_toldOfStroll_0 (67, (.ireturn, 1)) (List.mem_of_getElem? (i := 17) rfl)
theorem dX10_toldOfStroll_68 : decode cX10_toldOfStroll 68 = .ok (.aload_n 0, 1) := al_X10_toldOfStroll_0 (68, (.aload_n 0, 1)) (List.mem_of_getElem? (i := 18) rfl)
theorem dX10_toldOfStroll_69 : decode cX10_toldOfStroll 69 = .ok (.getfield 19, 3) := al_X10_toldOfStroll_0 (69, (.getfield 19, 3)) (List.mem_of_getElem? (i := 19) rfl)
theorem dX10_toldOfStroll_72 : decode cX10_toldOfStroll 72 = .ok (.invokevirtual 354, 3) := al_X10_toldOfStroll_0 (72, (.invokevirtual 354, 3)) (List.mem_of_getElem? (i := 20) rfl)
theorem dX10_toldOfStroll_75 : decode cX10_toldOfStroll 75 = .ok (.ifCond .eq 7, 3) := al_X10_toldOfStroll_0 (75, (.ifCond .eq 7, 3)) (List.mem_of_getElem? (i := 21) rfl)
theorem dX10_toldOfStroll_78 : decode cX10_toldOfStroll 78 = .ok (.iconst 1, 1) := al_X10_toldOfStroll_0 (78, (.iconst 1, 1)) (List.mem_of_getElem? (i := 22) rfl)
theorem dX10_toldOfStroll_79 : decode cX10_toldOfStroll 79 = .ok (.goto 4, 3) := al_X10_toldOfStroll_0 (79, (.goto 4, 3)) (List.mem_of_getElem? (i := 23) rfl)
theorem dX10_toldOfStroll_82 : decode cX10_toldOfStroll 82 = .ok (.iconst 0, 1) := al_X10_toldOfStroll_0 (82, (.iconst 0, 1)) (List.mem_of_getElem? (i := 24) rfl)
theorem dX10_toldOfStroll_83 : decode cX10_toldOfStroll 83 = .ok (.ireturn, 1) := al_X10_toldOfStroll_0 (83, (.ireturn, 1)) (List.mem_of_getElem? (i := 25) rfl)
theorem dX10_toldOfStroll_84 : decode cX10_toldOfStroll 84 = .ok (.aload_n 2, 1) := al_X10_toldOfStroll_0 (84, (.aload_n 2, 1)) (List.mem_of_getElem? (i := 26) rfl)
theorem dX10_toldOfStroll_85 : decode cX10_toldOfStroll 85 = .ok (.getfield 358, 3) := al_X10_toldOfStroll_0 (85, (.getfield 358, 3)) (List.mem_of_getElem? (i := 27) rfl)
theorem dX10_toldOfStroll_88 : decode cX10_toldOfStroll 88 = .ok (.ireturn, 1) := al_X10_toldOfStroll_0 (88, (.ireturn, 1)) (List.mem_of_getElem? (i := 28) rfl)
theorem dX10_toldOfStroll_89 : decode cX10_toldOfStroll 89 = .ok (.aload_n 2, 1) := al_X10_toldOfStroll_0 (89, (.aload_n 2, 1)) (List.mem_of_getElem? (i := 29) rfl)
theorem dX10_toldOfStroll_90 : decode cX10_toldOfStroll 90 = .ok (.getfield 361, 3) := al_X10_toldOfStroll_0 (90, (.getfield 361, 3)) (List.mem_of_getElem? (i := 30) rfl)
theorem dX10_toldOfStroll_93 : decode cX10_toldOfStroll 93 = .ok (.ireturn, 1) := al_X10_toldOfStroll_0 (93, (.ireturn, 1)) (List.mem_of_getElem? (i := 31) rfl)
def in_X10_orNone_0 : List (Nat × Instr × Nat) := [(0, (.iload_n 0, 1)), (1, (.ldc 224, 2)), (3, (.if_icmp .ne 7, 3)), (6, (.iconst (-1), 1)), (7, (.goto 4, 3)), (10, (.iload_n 0, 1)), (11, (.ireturn, 1))]
theorem al_X10_orNone_0 : ∀ q ∈ in_X10_orNone_0, decode cX10_orNone q.1 = .ok q.2 := by decide +kernel
theorem dX10_orNone_0 : decode cX10_orNone 0 = .ok (.iload_n 0, 1) := al_X10_orNone_0 (0, (.iload_n 0, 1)) (List.mem_of_getElem? (i := 0) rfl)
theorem dX10_orNone_1 : decode cX10_orNone 1 = .ok (.ldc 224, 2) := al_X10_orNone_0 (1, (.ldc 224, 2)) (List.mem_of_getElem? (i := 1) rfl)
theorem dX10_orNone_3 : decode cX10_orNone 3 = .ok (.if_icmp .ne 7, 3) := al_X10_orNone_0 (3, (.if_icmp .ne 7, 3)) (List.mem_of_getElem? (i := 2) rfl)
theorem dX10_orNone_6 : decode cX10_orNone 6 = .ok (.iconst (-1), 1) := al_X10_orNone_0 (6, (.iconst (-1), 1)) (List.mem_of_getElem? (i := 3) rfl)
theorem dX10_orNone_7 : decode cX10_orNone 7 = .ok (.goto 4, 3) := al_X10_orNone_0 (7, (.goto 4, 3)) (List.mem_of_getElem? (i := 4) rfl)
theorem dX10_orNone_10 : decode cX10_orNone 10 = .ok (.iload_n 0, 1) := al_X10_orNone_0 (10, (.iload_n 0, 1)) (List.mem_of_getElem? (i := 5) rfl)
theorem dX10_orNone_11 : decode cX10_orNone 11 = .ok (.ireturn, 1) := al_X10_orNone_0 (11, (.ireturn, 1)) (List.mem_of_getElem? (i := 6) rfl)
def in_X10_isIn_0 : List (Nat × Instr × Nat) := [(0, (.iload_n 0, 1)), (1, (.iload_n 1, 1)), (2, (.ishr, 1)), (3, (.iconst 1, 1)), (4, (.iand, 1)), (5, (.iconst 1, 1)), (6, (.if_icmp .ne 7, 3)), (9, (.iconst 1, 1)), (10, (.goto 4, 3)), (13, (.iconst 0, 1)), (14, (.ireturn, 1))]
theorem al_X10_isIn_0 : ∀ q ∈ in_X10_isIn_0, decode cX10_isIn q.1 = .ok q.2 := by decide +kernel
theorem dX10_isIn_0 : decode cX10_isIn 0 = .ok (.iload_n 0, 1) := al_X10_isIn_0 (0, (.iload_n 0, 1)) (List.mem_of_getElem? (i := 0) rfl)
theorem dX10_isIn_1 : decode cX10_isIn 1 = .ok (.iload_n 1, 1) := al_X10_isIn_0 (1, (.iload_n 1, 1)) (List.mem_of_getElem? (i := 1) rfl)
theorem dX10_isIn_2 : decode cX10_isIn 2 = .ok (.ishr, 1) := al_X10_isIn_0 (2, (.ishr, 1)) (List.mem_of_getElem? (i := 2) rfl)
theorem dX10_isIn_3 : decode cX10_isIn 3 = .ok (.iconst 1, 1) := al_X10_isIn_0 (3, (.iconst 1, 1)) (List.mem_of_getElem? (i := 3) rfl)
theorem dX10_isIn_4 : decode cX10_isIn 4 = .ok (.iand, 1) := al_X10_isIn_0 (4, (.iand, 1)) (List.mem_of_getElem? (i := 4) rfl)
theorem dX10_isIn_5 : decode cX10_isIn 5 = .ok (.iconst 1, 1) := al_X10_isIn_0 (5, (.iconst 1, 1)) (List.mem_of_getElem? (i := 5) rfl)
theorem dX10_isIn_6 : decode cX10_isIn 6 = .ok (.if_icmp .ne 7, 3) := al_X10_isIn_0 (6, (.if_icmp .ne 7, 3)) (List.mem_of_getElem? (i := 6) rfl)
theorem dX10_isIn_9 : decode cX10_isIn 9 = .ok (.iconst 1, 1) := al_X10_isIn_0 (9, (.iconst 1, 1)) (List.mem_of_getElem? (i := 7) rfl)
theorem dX10_isIn_10 : decode cX10_isIn 10 = .ok (.goto 4, 3) := al_X10_isIn_0 (10, (.goto 4, 3)) (List.mem_of_getElem? (i := 8) rfl)
theorem dX10_isIn_13 : decode cX10_isIn 13 = .ok (.iconst 0, 1) := al_X10_isIn_0 (13, (.iconst 0, 1)) (List.mem_of_getElem? (i := 9) rfl)
theorem dX10_isIn_14 : decode cX10_isIn 14 = .ok (.ireturn, 1) := al_X10_isIn_0 (14, (.ireturn, 1)) (List.mem_of_getElem? (i := 10) rfl)
def in_X10_isOutside_0 : List (Nat × Instr × Nat) := [(0, (.iload_n 0, 1)), (1, (.ifCond .lt 8, 3)), (4, (.iload_n 0, 1)), (5, (.iload_n 1, 1)), (6, (.if_icmp .le 7, 3)), (9, (.iconst 1, 1)), (10, (.goto 4, 3)), (13, (.iconst 0, 1)), (14, (.ireturn, 1))]
theorem al_X10_isOutside_0 : ∀ q ∈ in_X10_isOutside_0, decode cX10_isOutside q.1 = .ok q.2 := by decide +kernel
theorem dX10_isOutside_0 : decode cX10_isOutside 0 = .ok (.iload_n 0, 1) := al_X10_isOutside_0 (0, (.iload_n 0, 1)) (List.mem_of_getElem? (i := 0) rfl)
theorem dX10_isOutside_1 : decode cX10_isOutside 1 = .ok (.ifCond .lt 8, 3) := al_X10_isOutside_0 (1, (.ifCond .lt 8, 3)) (List.mem_of_getElem? (i := 1) rfl)
theorem dX10_isOutside_4 : decode cX10_isOutside 4 = .ok (.iload_n 0, 1) := al_X10_isOutside_0 (4, (.iload_n 0, 1)) (List.mem_of_getElem? (i := 2) rfl)
theorem dX10_isOutside_5 : decode cX10_isOutside 5 = .ok (.iload_n 1, 1) := al_X10_isOutside_0 (5, (.iload_n 1, 1)) (List.mem_of_getElem? (i := 3) rfl)
theorem dX10_isOutside_6 : decode cX10_isOutside 6 = .ok (.if_icmp .le 7, 3) := al_X10_isOutside_0 (6, (.if_icmp .le 7, 3)) (List.mem_of_getElem? (i := 4) rfl)
theorem dX10_isOutside_9 : decode cX10_isOutside 9 = .ok (.iconst 1, 1) := al_X10_isOutside_0 (9, (.iconst 1, 1)) (List.mem_of_getElem? (i := 5) rfl)
theorem dX10_isOutside_10 : decode cX10_isOutside 10 = .ok (.goto 4, 3) := al_X10_isOutside_0 (10, (.goto 4, 3)) (List.mem_of_getElem? (i := 6) rfl)
theorem dX10_isOutside_13 : decode cX10_isOutside 13 = .ok (.iconst 0, 1) := al_X10_isOutside_0 (13, (.iconst 0, 1)) (List.mem_of_getElem? (i := 7) rfl)
theorem dX10_isOutside_14 : decode cX10_isOutside 14 = .ok (.ireturn, 1) := al_X10_isOutside_0 (14, (.ireturn, 1)) (List.mem_of_getElem? (i := 8) rfl)
def in_X10_manMoves_0 : List (Nat × Instr × Nat) := [(0, (.iload_n 0, 1)), (1, (.iconst 1, 1)), (2, (.iand, 1)), (3, (.ireturn, 1))]
theorem al_X10_manMoves_0 : ∀ q ∈ in_X10_manMoves_0, decode cX10_manMoves q.1 = .ok q.2 := by decide +kernel
theorem dX10_manMoves_0 : decode cX10_manMoves 0 = .ok (.iload_n 0, 1) := al_X10_manMoves_0 (0, (.iload_n 0, 1)) (List.mem_of_getElem? (i := 0) rfl)
theorem dX10_manMoves_1 : decode cX10_manMoves 1 = .ok (.iconst 1, 1) := al_X10_manMoves_0 (1, (.iconst 1, 1)) (List.mem_of_getElem? (i := 1) rfl)
theorem dX10_manMoves_2 : decode cX10_manMoves 2 = .ok (.iand, 1) := al_X10_manMoves_0 (2, (.iand, 1)) (List.mem_of_getElem? (i := 2) rfl)
theorem dX10_manMoves_3 : decode cX10_manMoves 3 = .ok (.ireturn, 1) := al_X10_manMoves_0 (3, (.ireturn, 1)) (List.mem_of_getElem? (i := 3) rfl)
def in_X10_dogMoves_0 : List (Nat × Instr × Nat) := [(0, (.iload_n 0, 1)), (1, (.iconst 1, 1)), (2, (.ishr, 1)), (3, (.ireturn, 1))]
theorem al_X10_dogMoves_0 : ∀ q ∈ in_X10_dogMoves_0, decode cX10_dogMoves q.1 = .ok q.2 := by decide +kernel
theorem dX10_dogMoves_0 : decode cX10_dogMoves 0 = .ok (.iload_n 0, 1) := al_X10_dogMoves_0 (0, (.iload_n 0, 1)) (List.mem_of_getElem? (i := 0) rfl)
theorem dX10_dogMoves_1 : decode cX10_dogMoves 1 = .ok (.iconst 1, 1) := al_X10_dogMoves_0 (1, (.iconst 1, 1)) (List.mem_of_getElem? (i := 1) rfl)
theorem dX10_dogMoves_2 : decode cX10_dogMoves 2 = .ok (.ishr, 1) := al_X10_dogMoves_0 (2, (.ishr, 1)) (List.mem_of_getElem? (i := 2) rfl)
theorem dX10_dogMoves_3 : decode cX10_dogMoves 3 = .ok (.ireturn, 1) := al_X10_dogMoves_0 (3, (.ireturn, 1)) (List.mem_of_getElem? (i := 3) rfl)
set_option maxRecDepth 100000 in
theorem ggX10_init_X8_init : GoodIn wsX10_init wsX8_init := goodIn_r _ [40, 41, 2, 3, 42, 43, 44, 45, 46, 47, 48, 135, 136, 137, 138, 139, 140] rfl (by decide +kernel)
set_option maxRecDepth 100000 in
theorem gX10_init_X8_init_n11 : GoodIn wsX10_init (wsX8_init) := ggX10_init_X8_init
set_option maxRecDepth 100000 in
theorem ggX10_init_X6_init : GoodIn wsX10_init wsX6_init := goodIn_r _ [50, 51, 2, 3, 52, 14, 15, 53, 54, 18, 19, 55, 56, 57, 58, 59, 60, 61, 62, 63, 64, 65, 66, 67, 68, 69, 70, 71, 72, 73, 74, 75, 76, 77, 78, 79, 80, 81, 82, 83, 84, 85, 86, 87, 88, 89, 90, 91, 92, 93, 94, 95, 96, 97, 98, 99, 100, 101, 102, 103, 104, 157, 158, 159, 160, 161, 162, 163, 152, 153, 154, 155, 156, 164, 165, 166, 167, 186, 187, 188, 189, 190, 191, 192, 193, 194, 195, 196, 197, 198, 199, 200, 201] rfl (by decide +kernel)
set_option maxRecDepth 100000 in
theorem gX10_init_X6_init_n18 : GoodIn wsX10_init (wsX6_init) := ggX10_init_X6_init
set_option maxRecDepth 100000 in
theorem ggX10_init_X1_init : GoodIn wsX10_init wsX1_init := goodIn_r _ [66, 67, 2, 3, 68, 69, 70, 71, 72, 73, 74, 75, 157, 158, 159, 160, 161, 162, 163] rfl (by decide +kernel)
set_option maxRecDepth 100000 in
theorem gX10_init_X1_init_n28 : GoodIn wsX10_init (wsX1_init) := ggX10_init_X1_init
set_option maxRecDepth 100000 in
theorem ggX10_init_X2_init : GoodIn wsX10_init wsX2_init := goodIn_r _ [77, 78, 2, 3, 68, 79, 80, 81, 82, 164, 165, 166, 167] rfl (by decide +kernel)
set_option maxRecDepth 100000 in
theorem gX10_init_X2_init_n35 : GoodIn wsX10_init (wsX2_init) := ggX10_init_X2_init
set_option maxRecDepth 100000 in
theorem ggX10_init_X0_init : GoodIn wsX10_init wsX0_init := goodIn_r _ [106, 107, 2, 3, 68, 108, 109, 110, 111, 168, 169, 170, 171] rfl (by decide +kernel)
set_option maxRecDepth 100000 in
theorem gX10_init_X0_init_n42 : GoodIn wsX10_init (wsX0_init) := ggX10_init_X0_init
set_option maxRecDepth 100000 in
theorem ggX10_init_X4_init : GoodIn wsX10_init wsX4_init := goodIn_r _ [113, 114, 2, 3, 68, 115, 116, 117, 118, 119, 120, 121, 172, 173, 174, 175, 176, 177, 178] rfl (by decide +kernel)
set_option maxRecDepth 100000 in
theorem gX10_init_X4_init_n49 : GoodIn wsX10_init (wsX4_init) := ggX10_init_X4_init
set_option maxRecDepth 100000 in
theorem ggX10_init_X5_init : GoodIn wsX10_init wsX5_init := goodIn_r _ [123, 124, 2, 3, 68, 125, 126, 127, 128, 129, 179, 180, 181, 182, 183] rfl (by decide +kernel)
set_option maxRecDepth 100000 in
theorem gX10_init_X5_init_n56 : GoodIn wsX10_init (wsX5_init) := ggX10_init_X5_init
set_option maxRecDepth 100000 in
theorem ggX10_init_X9_init : GoodIn wsX10_init wsX9_init := goodIn_r _ [131, 132, 2, 3, 68, 133, 134, 184, 185] rfl (by decide +kernel)
set_option maxRecDepth 100000 in
theorem gX10_init_X9_init_n63 : GoodIn wsX10_init (wsX9_init) := ggX10_init_X9_init
set_option maxRecDepth 100000 in
theorem ggX10_feed_X8_hasRoomFor : GoodIn wsX10_feed wsX8_hasRoomFor := goodIn_r _ [6, 7, 24, 25, 26, 27, 28, 29] rfl (by decide +kernel)
set_option maxRecDepth 100000 in
theorem gX10_feed_X8_hasRoomFor : GoodIn wsX10_feed (wsV RX10 76 RX8 yX8_hasRoomFor wsX8_hasRoomFor) := goodIn_app (goodIn_of _ (by decide +kernel)) ggX10_feed_X8_hasRoomFor
set_option maxRecDepth 100000 in
theorem ggX10_feed_X8_append : GoodIn wsX10_feed wsX8_append := goodIn_r _ [11, 7, 12, 24, 25, 26, 27, 28, 29] rfl (by decide +kernel)
set_option maxRecDepth 100000 in
theorem gX10_feed_X8_append : GoodIn wsX10_feed (wsV RX10 80 RX8 yX8_append wsX8_append) := goodIn_app (goodIn_of _ (by decide +kernel)) ggX10_feed_X8_append
set_option maxRecDepth 100000 in
theorem ggX10_park_X1_copyFrom : GoodIn wsX10_park wsX1_copyFrom := goodIn_r _ [12, 13, 14, 15, 16, 17, 18, 19, 20, 21, 22, 23, 155, 156, 157, 158, 159, 160, 161] rfl (by decide +kernel)
set_option maxRecDepth 100000 in
theorem gX10_park_X1_copyFrom : GoodIn wsX10_park (wsV RX10 90 RX1 yX1_copyFrom wsX1_copyFrom) := goodIn_app (goodIn_of _ (by decide +kernel)) ggX10_park_X1_copyFrom
set_option maxRecDepth 100000 in
theorem ggX10_park_X1_readText : GoodIn wsX10_park wsX1_readText := goodIn_r _ [27, 28, 29, 30, 31, 32, 33, 34, 35, 36, 37, 38, 39, 40, 41, 42, 43, 44, 45, 46, 47, 48, 49, 50, 51, 52, 53, 54, 55, 56, 57, 11, 58, 21, 19, 22, 59, 60, 61, 62, 63, 64, 65, 66, 67, 68, 69, 70, 71, 72, 73, 74, 75, 76, 77, 78, 79, 80, 81, 82, 83, 84, 85, 86, 87, 88, 89, 90, 91, 92, 93, 94, 95, 96, 97, 98, 99, 100, 101, 102, 103, 104, 105, 106, 107, 108, 109, 110, 111, 112, 113, 114, 115, 116, 13, 18, 117, 118, 119, 120, 121, 122, 123, 124, 125, 126, 127, 128, 129, 130, 131, 132, 20, 173, 174, 175, 176, 177, 178, 155, 156, 157, 158, 159, 160, 161] rfl (by decide +kernel)
set_option maxRecDepth 100000 in
theorem gX10_park_X1_readText : GoodIn wsX10_park (wsV RX10 94 RX1 yX1_readText wsX1_readText) := goodIn_app (goodIn_of _ (by decide +kernel)) ggX10_park_X1_readText
set_option maxRecDepth 100000 in
theorem ggX10_park_X10_useUpText : GoodIn wsX10_park wsX10_useUpText := goodIn_r _ [137, 7, 138, 139, 140, 141, 142, 143, 144, 145, 146, 147, 148, 149, 173, 174, 175, 176, 177, 178] rfl (by decide +kernel)
set_option maxRecDepth 100000 in
theorem gX10_park_X10_useUpText : GoodIn wsX10_park (wsV RX10 98 RX10 yX10_useUpText wsX10_useUpText) := goodIn_app (goodIn_of _ (by decide +kernel)) ggX10_park_X10_useUpText
set_option maxRecDepth 100000 in
theorem ggX10_law_X2_readText : GoodIn wsX10_law wsX2_readText := goodIn_r _ [10, 11, 12, 13, 14, 15, 16, 17, 18, 19, 20, 21, 22, 23, 24, 25, 26, 27, 28, 29, 30, 31, 32, 33, 34, 35, 36, 37, 38, 39, 40, 41, 42, 43, 44, 45, 46, 47, 48, 49, 50, 51, 52, 53, 54, 55, 56, 57, 58, 59, 60, 61, 62, 63, 64, 65, 66, 67, 68, 69, 70, 71, 72, 73, 74, 75, 76, 77, 78, 79, 80, 81, 82, 83, 84, 85, 86, 87, 88, 89, 90, 91, 92, 93, 94, 95, 96, 9, 97, 98, 99, 100, 101, 102, 103, 104, 105, 106, 107, 108, 109, 110, 111, 112, 113, 114, 115, 116, 117, 118, 119, 120, 121, 122, 123, 124, 125, 167, 168, 169, 170, 171, 172, 173, 174, 175, 176] rfl (by decide +kernel)
set_option maxRecDepth 100000 in
theorem gX10_law_X2_readText : GoodIn wsX10_law (wsV RX10 126 RX2 yX2_readText wsX2_readText) := goodIn_app (goodIn_of _ (by decide +kernel)) ggX10_law_X2_readText
set_option maxRecDepth 100000 in
theorem ggX10_law_X10_useUpText : GoodIn wsX10_law wsX10_useUpText := goodIn_r _ [130, 4, 131, 140, 141, 142, 143, 144, 145, 146, 147, 148, 149, 150, 171, 172, 173, 174, 175, 176] rfl (by decide +kernel)
set_option maxRecDepth 100000 in
theorem gX10_law_X10_useUpText : GoodIn wsX10_law (wsV RX10 98 RX10 yX10_useUpText wsX10_useUpText) := goodIn_app (goodIn_of _ (by decide +kernel)) ggX10_law_X10_useUpText
set_option maxRecDepth 100000 in
theorem ggX10_law_X2_copyFrom : GoodIn wsX10_law wsX2_copyFrom := goodIn_r _ [135, 98, 136, 137, 138, 139, 11, 12, 167, 168, 169, 170] rfl (by decide +kernel)
set_option maxRecDepth 100000 in
theorem gX10_law_X2_copyFrom : GoodIn wsX10_law (wsV RX10 132 RX2 yX2_copyFrom wsX2_copyFrom) := goodIn_app (goodIn_of _ (by decide +kernel)) ggX10_law_X2_copyFrom
set_option maxRecDepth 100000 in
theorem ggX10_corner_X10_needCorner : GoodIn wsX10_corner wsX10_needCorner := goodIn_ca (goodIn_r _ [6, 7, 8, 1, 9, 10, 11, 12, 13, 14, 15, 16, 17, 18, 19, 30, 31, 32, 33, 34, 35, 36, 37, 38, 39, 40, 41, 42, 43, 44, 45, 46, 47, 48, 49, 50, 51, 52] rfl (by decide +kernel)) (goodIn_sub (fun _ h => List.mem_cons_of_mem _ (List.mem_append_right _ h)) (by decide +kernel))
set_option maxRecDepth 100000 in
theorem gX10_corner_X10_needCorner : GoodIn wsX10_corner (wsV RX10 138 RX10 yX10_needCorner wsX10_needCorner) := goodIn_app (goodIn_of _ (by decide +kernel)) ggX10_corner_X10_needCorner
set_option maxRecDepth 100000 in
theorem ggX10_corner_X1_yOf : GoodIn wsX10_corner wsX1_yOf := goodIn_r _ [23, 24, 46, 47, 48, 49, 50, 51, 52] rfl (by decide +kernel)
set_option maxRecDepth 100000 in
theorem gX10_corner_X1_yOf : GoodIn wsX10_corner (wsV RX10 142 RX1 yX1_yOf wsX1_yOf) := goodIn_app (goodIn_of _ (by decide +kernel)) ggX10_corner_X1_yOf
set_option maxRecDepth 100000 in
theorem ggX10_corner_X1_xOf : GoodIn wsX10_corner wsX1_xOf := goodIn_r _ [28, 29, 46, 47, 48, 49, 50, 51, 52] rfl (by decide +kernel)
set_option maxRecDepth 100000 in
theorem gX10_corner_X1_xOf : GoodIn wsX10_corner (wsV RX10 146 RX1 yX1_xOf wsX1_xOf) := goodIn_app (goodIn_of _ (by decide +kernel)) ggX10_corner_X1_xOf
set_option maxRecDepth 100000 in
theorem ggX10_corners_X10_needWay : GoodIn wsX10_corners wsX10_needWay := goodIn_ca (goodIn_r _ [6, 7, 8, 1, 9, 10, 11, 12, 13, 14, 15, 16, 17, 18, 19, 20, 21, 22, 23, 24, 25, 26, 27, 28, 29, 30, 31, 32, 33, 34, 35, 36, 37] rfl (by decide +kernel)) (goodIn_sub (fun _ h => List.mem_cons_of_mem _ (List.mem_append_right _ h)) (by decide +kernel))
set_option maxRecDepth 100000 in
theorem gX10_corners_X10_needWay : GoodIn wsX10_corners (wsV RX10 149 RX10 yX10_needWay wsX10_needWay) := goodIn_app (goodIn_of _ (by decide +kernel)) ggX10_corners_X10_needWay
set_option maxRecDepth 100000 in
theorem ggX10_far_X10_needCorner : GoodIn wsX10_far wsX10_needCorner := goodIn_ca (goodIn_r _ [6, 7, 8, 1, 9, 10, 11, 12, 13, 14, 15, 16, 17, 18, 19, 26, 27, 28, 29, 30, 31, 32, 33, 34, 35, 36, 37, 38, 39, 40, 41, 42, 43, 44, 45, 46, 47, 48] rfl (by decide +kernel)) (goodIn_sub (fun _ h => List.mem_cons_of_mem _ (List.mem_append_right _ h)) (by decide +kernel))
set_option maxRecDepth 100000 in
theorem gX10_far_X10_needCorner : GoodIn wsX10_far (wsV RX10 138 RX10 yX10_needCorner wsX10_needCorner) := goodIn_app (goodIn_of _ (by decide +kernel)) ggX10_far_X10_needCorner
set_option maxRecDepth 100000 in
theorem ggX10_far_X1_distance : GoodIn wsX10_far wsX1_distance := goodIn_r _ [23, 24, 25, 42, 43, 44, 45, 46, 47, 48] rfl (by decide +kernel)
set_option maxRecDepth 100000 in
theorem gX10_far_X1_distance : GoodIn wsX10_far (wsV RX10 156 RX1 yX1_distance wsX1_distance) := goodIn_app (goodIn_of _ (by decide +kernel)) ggX10_far_X1_distance
set_option maxRecDepth 100000 in
theorem ggX10_shut_X10_needCorner : GoodIn wsX10_shut wsX10_needCorner := goodIn_ca (goodIn_r _ [6, 7, 8, 1, 9, 10, 11, 12, 13, 14, 15, 16, 17, 18, 19, 70, 71, 72, 73, 74, 75, 76, 77, 78, 79, 80, 81, 82, 83, 84, 85, 86, 87, 88, 89, 90, 91, 92] rfl (by decide +kernel)) (goodIn_sub (fun _ h => List.mem_cons_of_mem _ (List.mem_append_right _ h)) (by decide +kernel))
set_option maxRecDepth 100000 in
theorem gX10_shut_X10_needCorner : GoodIn wsX10_shut (wsV RX10 138 RX10 yX10_needCorner wsX10_needCorner) := goodIn_app (goodIn_of _ (by decide +kernel)) ggX10_shut_X10_needCorner
set_option maxRecDepth 100000 in
theorem ggX10_shut_X6_isShut : GoodIn wsX10_shut wsX6_isShut := goodIn_r _ [24, 25, 26, 27, 28, 29, 12, 30, 31, 32, 33, 34, 35, 36, 37, 38, 39, 40, 41, 42, 43, 44, 45, 46, 47, 48, 49, 50, 51, 52, 53, 54, 55, 56, 57, 58, 59, 60, 61, 62, 63, 64, 65, 66, 67, 68, 69, 81, 82, 83, 84, 85, 86, 87, 88, 89, 90, 91, 92, 93, 94, 95, 96] rfl (by decide +kernel)
set_option maxRecDepth 100000 in
theorem gX10_shut_X6_isShut : GoodIn wsX10_shut (wsV RX10 160 RX6 yX6_isShut wsX6_isShut) := goodIn_app (goodIn_of _ (by decide +kernel)) ggX10_shut_X6_isShut
set_option maxRecDepth 100000 in
theorem ggX10_least_X10_needWay : GoodIn wsX10_least wsX10_needWay := goodIn_ca (goodIn_r _ [5, 6, 7, 8, 9, 10, 11, 12, 13, 14, 102, 103, 104, 105, 106, 107, 108, 109, 110, 111, 112, 113, 114, 115, 116, 117, 118, 119, 120, 121, 122, 123, 124] rfl (by decide +kernel)) (goodIn_sub (fun _ h => List.mem_cons_of_mem _ (List.mem_append_right _ h)) (by decide +kernel))
set_option maxRecDepth 100000 in
theorem gX10_least_X10_needWay : GoodIn wsX10_least (wsV RX10 149 RX10 yX10_needWay wsX10_needWay) := goodIn_app (goodIn_of _ (by decide +kernel)) ggX10_least_X10_needWay
set_option maxRecDepth 100000 in
theorem ggX10_least_X10_shortest : GoodIn wsX10_least wsX10_shortest := goodIn_r _ [18, 19, 8, 20, 21, 22, 23, 24, 25, 26, 27, 28, 29, 30, 31, 32, 33, 34, 35, 36, 37, 38, 39, 40, 41, 12, 42, 43, 44, 45, 46, 47, 48, 49, 50, 51, 52, 53, 54, 55, 56, 57, 58, 59, 60, 61, 62, 63, 64, 65, 66, 67, 68, 69, 70, 71, 72, 73, 74, 75, 76, 77, 78, 79, 80, 81, 82, 83, 84, 85, 86, 87, 88, 89, 90, 91, 92, 93, 94, 95, 96, 97, 98, 99, 4, 100, 101, 102, 103, 104, 105, 106, 107, 108, 109, 110, 111, 112, 125, 126, 127, 128, 113, 114, 115, 116, 117, 118, 119, 120, 121, 122, 123, 124, 129, 130, 131, 132] rfl (by decide +kernel)
set_option maxRecDepth 100000 in
theorem gX10_least_X10_shortest : GoodIn wsX10_least (wsV RX10 164 RX10 yX10_shortest wsX10_shortest) := goodIn_app (goodIn_of _ (by decide +kernel)) ggX10_least_X10_shortest
set_option maxRecDepth 100000 in
theorem ggX10_first_X10_needWay : GoodIn wsX10_first wsX10_needWay := goodIn_ca (goodIn_r _ [8, 9, 10, 11, 12, 13, 14, 15, 16, 17, 120, 121, 122, 123, 124, 125, 126, 127, 128, 129, 130, 131, 132, 133, 134, 135, 136, 137, 138, 139, 140, 141, 142] rfl (by decide +kernel)) (goodIn_sub (fun _ h => List.mem_cons_of_mem _ (List.mem_append_right _ h)) (by decide +kernel))
set_option maxRecDepth 100000 in
theorem gX10_first_X10_needWay : GoodIn wsX10_first (wsV RX10 149 RX10 yX10_needWay wsX10_needWay) := goodIn_app (goodIn_of _ (by decide +kernel)) ggX10_first_X10_needWay
set_option maxRecDepth 100000 in
theorem ggX10_first_X10_shortest : GoodIn wsX10_first wsX10_shortest := goodIn_r _ [21, 3, 11, 22, 23, 24, 25, 26, 27, 28, 29, 30, 31, 32, 33, 34, 35, 36, 37, 38, 39, 40, 41, 42, 43, 15, 44, 45, 46, 47, 48, 49, 50, 51, 52, 53, 54, 55, 56, 57, 58, 59, 60, 61, 62, 63, 64, 65, 66, 67, 68, 69, 70, 71, 72, 73, 74, 75, 76, 77, 78, 79, 80, 81, 82, 83, 84, 85, 86, 87, 88, 89, 90, 91, 92, 93, 94, 95, 96, 97, 98, 99, 100, 101, 7, 102, 103, 120, 121, 122, 123, 124, 125, 126, 127, 128, 129, 130, 143, 144, 145, 146, 131, 132, 133, 134, 135, 136, 137, 138, 139, 140, 141, 142, 147, 148, 149, 150] rfl (by decide +kernel)
set_option maxRecDepth 100000 in
theorem gX10_first_X10_shortest : GoodIn wsX10_first (wsV RX10 164 RX10 yX10_shortest wsX10_shortest) := goodIn_app (goodIn_of _ (by decide +kernel)) ggX10_first_X10_shortest
set_option maxRecDepth 100000 in
theorem ggX10_first_X0_firstWalk : GoodIn wsX10_first wsX0_firstWalk := goodIn_r _ [107, 108, 109, 110, 25, 111, 27, 28, 112, 113, 114, 115, 89, 116, 7, 117, 118, 119, 31, 32, 33, 143, 144, 145, 146] rfl (by decide +kernel)
set_option maxRecDepth 100000 in
theorem gX10_first_X0_firstWalk : GoodIn wsX10_first (wsV RX10 169 RX0 yX0_firstWalk wsX0_firstWalk) := goodIn_app (goodIn_of _ (by decide +kernel)) ggX10_first_X0_firstWalk
set_option maxRecDepth 100000 in
theorem ggX10_bars_X10_needWay : GoodIn wsX10_bars wsX10_needWay := goodIn_ca (goodIn_r _ [6, 7, 8, 9, 10, 11, 12, 13, 14, 15, 118, 119, 120, 121, 122, 123, 124, 125, 126, 127, 128, 129, 130, 131, 132, 133, 134, 135, 136, 137, 138, 139, 140] rfl (by decide +kernel)) (goodIn_sub (fun _ h => List.mem_cons_of_mem _ (List.mem_append_right _ h)) (by decide +kernel))
set_option maxRecDepth 100000 in
theorem gX10_bars_X10_needWay : GoodIn wsX10_bars (wsV RX10 149 RX10 yX10_needWay wsX10_needWay) := goodIn_app (goodIn_of _ (by decide +kernel)) ggX10_bars_X10_needWay
set_option maxRecDepth 100000 in
theorem ggX10_bars_X10_shortest : GoodIn wsX10_bars wsX10_shortest := goodIn_r _ [19, 1, 9, 20, 21, 22, 23, 24, 25, 26, 27, 28, 29, 30, 31, 32, 33, 34, 35, 36, 37, 38, 39, 40, 41, 13, 42, 43, 44, 45, 46, 47, 48, 49, 50, 51, 52, 53, 54, 55, 56, 57, 58, 59, 60, 61, 62, 63, 64, 65, 66, 67, 68, 69, 70, 71, 72, 73, 74, 75, 76, 77, 78, 79, 80, 81, 82, 83, 84, 85, 86, 87, 88, 89, 90, 91, 92, 93, 94, 95, 96, 97, 98, 99, 5, 100, 101, 118, 119, 120, 121, 122, 123, 124, 125, 126, 127, 128, 141, 142, 143, 144, 129, 130, 131, 132, 133, 134, 135, 136, 137, 138, 139, 140, 145, 146, 147, 148] rfl (by decide +kernel)
set_option maxRecDepth 100000 in
theorem gX10_bars_X10_shortest : GoodIn wsX10_bars (wsV RX10 164 RX10 yX10_shortest wsX10_shortest) := goodIn_app (goodIn_of _ (by decide +kernel)) ggX10_bars_X10_shortest
set_option maxRecDepth 100000 in
theorem ggX10_bars_X0_farthestOfFirstWalk : GoodIn wsX10_bars wsX0_farthestOfFirstWalk := goodIn_r _ [105, 27, 87, 106, 107, 108, 23, 109, 25, 26, 29, 30, 31, 110, 111, 112, 113, 114, 5, 115, 116, 117, 141, 142, 143, 144] rfl (by decide +kernel)
set_option maxRecDepth 100000 in
theorem gX10_bars_X0_farthestOfFirstWalk : GoodIn wsX10_bars (wsV RX10 173 RX0 yX0_farthestOfFirstWalk wsX0_farthestOfFirstWalk) := goodIn_app (goodIn_of _ (by decide +kernel)) ggX10_bars_X0_farthestOfFirstWalk
set_option maxRecDepth 100000 in
theorem ggX10_judge_X10_needWay : GoodIn wsX10_judge wsX10_needWay := goodIn_ca (goodIn_r _ [9, 10, 11, 4, 12, 13, 14, 15, 16, 17, 96, 97, 98, 99, 100, 101, 102, 103, 104, 105, 106, 113, 114, 115, 116, 117, 118, 119, 120, 121, 122, 123, 124] rfl (by decide +kernel)) (goodIn_sub (fun _ h => List.mem_cons_of_mem _ (List.mem_append_right _ h)) (by decide +kernel))
set_option maxRecDepth 100000 in
theorem gX10_judge_X10_needWay : GoodIn wsX10_judge (wsV RX10 149 RX10 yX10_needWay wsX10_needWay) := goodIn_app (goodIn_of _ (by decide +kernel)) ggX10_judge_X10_needWay
set_option maxRecDepth 100000 in
theorem ggX10_judge_X8_holdsStepsUpTo : GoodIn wsX10_judge wsX8_holdsStepsUpTo := goodIn_r _ [22, 23, 24, 25, 21, 26, 27, 107, 108, 109, 110, 111, 112] rfl (by decide +kernel)
set_option maxRecDepth 100000 in
theorem gX10_judge_X8_holdsStepsUpTo : GoodIn wsX10_judge (wsV RX10 177 RX8 yX8_holdsStepsUpTo wsX8_holdsStepsUpTo) := goodIn_app (goodIn_of _ (by decide +kernel)) ggX10_judge_X8_holdsStepsUpTo
set_option maxRecDepth 100000 in
theorem ggX10_judge_X6_allows : GoodIn wsX10_judge wsX6_allows := goodIn_r _ [32, 33, 34, 35, 36, 15, 37, 38, 39, 13, 14, 16, 17, 40, 41, 42, 43, 44, 45, 46, 47, 48, 31, 49, 50, 51, 52, 53, 54, 55, 56, 57, 58, 59, 60, 61, 62, 63, 64, 65, 66, 67, 68, 69, 70, 71, 72, 73, 74, 75, 76, 77, 78, 79, 80, 81, 82, 83, 84, 85, 86, 87, 88, 113, 114, 115, 116, 117, 118, 119, 120, 121, 122, 123, 124, 125, 126, 127, 128] rfl (by decide +kernel)
set_option maxRecDepth 100000 in
theorem gX10_judge_X6_allows : GoodIn wsX10_judge (wsV RX10 182 RX6 yX6_allows wsX6_allows) := goodIn_app (goodIn_of _ (by decide +kernel)) ggX10_judge_X6_allows
set_option maxRecDepth 100000 in
theorem ggX10_judge_X8_stepAt : GoodIn wsX10_judge wsX8_stepAt := goodIn_r _ [26, 27, 107, 108, 109, 110, 111, 112] rfl (by decide +kernel)
set_option maxRecDepth 100000 in
theorem gX10_judge_X8_stepAt : GoodIn wsX10_judge (wsV RX10 186 RX8 yX8_stepAt wsX8_stepAt) := goodIn_app (goodIn_of _ (by decide +kernel)) ggX10_judge_X8_stepAt
set_option maxRecDepth 100000 in
theorem ggX10_judge_X10_manMoves : GoodIn wsX10_judge wsX10_manMoves := goodIn_r _ [92] rfl (by decide +kernel)
set_option maxRecDepth 100000 in
theorem gX10_judge_X10_manMoves : GoodIn wsX10_judge (va_wsS RX10 189 yX10_manMoves wsX10_manMoves) := goodIn_app (goodIn_of _ (by decide +kernel)) ggX10_judge_X10_manMoves
set_option maxRecDepth 100000 in
theorem ggX10_judge_X10_dogMoves : GoodIn wsX10_judge wsX10_dogMoves := goodIn_r _ [95] rfl (by decide +kernel)
set_option maxRecDepth 100000 in
theorem gX10_judge_X10_dogMoves : GoodIn wsX10_judge (va_wsS RX10 192 yX10_dogMoves wsX10_dogMoves) := goodIn_app (goodIn_of _ (by decide +kernel)) ggX10_judge_X10_dogMoves
set_option maxRecDepth 100000 in
theorem ggX10_parts_X10_needWay : GoodIn wsX10_parts wsX10_needWay := goodIn_ca (goodIn_r _ [9, 10, 11, 4, 12, 13, 14, 15, 16, 17, 57, 58, 59, 60, 61, 62, 63, 64, 65, 66, 67, 68, 69, 70, 71, 72, 73, 74, 75, 76, 77, 78, 79] rfl (by decide +kernel)) (goodIn_sub (fun _ h => List.mem_cons_of_mem _ (List.mem_append_right _ h)) (by decide +kernel))
set_option maxRecDepth 100000 in
theorem gX10_parts_X10_needWay : GoodIn wsX10_parts (wsV RX10 149 RX10 yX10_needWay wsX10_needWay) := goodIn_app (goodIn_of _ (by decide +kernel)) ggX10_parts_X10_needWay
set_option maxRecDepth 100000 in
theorem ggX10_parts_X5_leastLead : GoodIn wsX10_parts wsX5_leastLead := goodIn_r _ [22, 23, 24, 25, 26, 27, 28, 29, 30, 21, 31, 32, 33, 34, 15, 35, 36, 37, 38, 39, 40, 41, 42, 43, 44, 45, 46, 47, 48, 49, 50, 51, 52, 53, 54, 55, 56, 80, 81, 82, 83, 84, 73, 74, 75, 76, 77, 78, 79] rfl (by decide +kernel)
set_option maxRecDepth 100000 in
theorem gX10_parts_X5_leastLead : GoodIn wsX10_parts (wsV RX10 197 RX5 yX5_leastLead wsX5_leastLead) := goodIn_app (goodIn_of _ (by decide +kernel)) ggX10_parts_X5_leastLead
set_option maxRecDepth 100000 in
theorem ggX10_back_X10_needWay : GoodIn wsX10_back wsX10_needWay := goodIn_ca (goodIn_r _ [7, 8, 9, 2, 10, 11, 12, 13, 14, 15, 98, 99, 100, 101, 102, 103, 104, 105, 106, 107, 108, 109, 110, 111, 112, 113, 114, 115, 116, 117, 118, 119, 120] rfl (by decide +kernel)) (goodIn_sub (fun _ h => List.mem_cons_of_mem _ (List.mem_append_right _ h)) (by decide +kernel))
set_option maxRecDepth 100000 in
theorem gX10_back_X10_needWay : GoodIn wsX10_back (wsV RX10 149 RX10 yX10_needWay wsX10_needWay) := goodIn_app (goodIn_of _ (by decide +kernel)) ggX10_back_X10_needWay
set_option maxRecDepth 100000 in
theorem ggX10_back_X0_lay : GoodIn wsX10_back wsX0_lay := goodIn_r _ [20, 21, 22, 23, 24, 25, 26, 19, 27, 28, 29, 30, 31, 32, 33, 34, 35, 36, 37, 13, 38, 39, 40, 41, 42, 43, 44, 45, 46, 47, 48, 49, 50, 51, 52, 53, 54, 55, 56, 57, 58, 59, 60, 61, 62, 63, 64, 65, 66, 67, 68, 69, 70, 71, 72, 73, 74, 75, 76, 77, 78, 109, 110, 111, 112, 113, 114, 115, 116, 117, 118, 119, 120, 121, 122, 123, 124, 125, 126, 127, 128] rfl (by decide +kernel)
set_option maxRecDepth 100000 in
theorem gX10_back_X0_lay : GoodIn wsX10_back (wsV RX10 201 RX0 yX0_lay wsX0_lay) := goodIn_app (goodIn_of _ (by decide +kernel)) ggX10_back_X0_lay
set_option maxRecDepth 100000 in
theorem ggX10_back_X0_leastGoingBack : GoodIn wsX10_back wsX0_leastGoingBack := goodIn_r _ [82, 83, 24, 21, 22, 23, 84, 85, 86, 87, 25, 26, 19, 27, 88, 89, 90, 91, 92, 52, 49, 53, 93, 48, 50, 121, 122, 123, 124] rfl (by decide +kernel)
set_option maxRecDepth 100000 in
theorem gX10_back_X0_leastGoingBack : GoodIn wsX10_back (wsV RX10 205 RX0 yX0_leastGoingBack wsX0_leastGoingBack) := goodIn_app (goodIn_of _ (by decide +kernel)) ggX10_back_X0_leastGoingBack
set_option maxRecDepth 100000 in
theorem ggX10_back_X10_orNone : GoodIn wsX10_back wsX10_orNone := goodIn_r _ [96, 97] rfl (by decide +kernel)
set_option maxRecDepth 100000 in
theorem gX10_back_X10_orNone : GoodIn wsX10_back (va_wsS RX10 208 yX10_orNone wsX10_orNone) := goodIn_app (goodIn_of _ (by decide +kernel)) ggX10_back_X10_orNone
set_option maxRecDepth 100000 in
theorem ggX10_ring_X10_needWay : GoodIn wsX10_ring wsX10_needWay := goodIn_ca (goodIn_r _ [7, 8, 9, 2, 10, 11, 12, 13, 14, 15, 101, 102, 103, 104, 105, 106, 107, 108, 109, 110, 111, 112, 113, 114, 115, 116, 117, 118, 119, 120, 121, 122, 123] rfl (by decide +kernel)) (goodIn_sub (fun _ h => List.mem_cons_of_mem _ (List.mem_append_right _ h)) (by decide +kernel))
set_option maxRecDepth 100000 in
theorem gX10_ring_X10_needWay : GoodIn wsX10_ring (wsV RX10 149 RX10 yX10_needWay wsX10_needWay) := goodIn_app (goodIn_of _ (by decide +kernel)) ggX10_ring_X10_needWay
set_option maxRecDepth 100000 in
theorem ggX10_ring_X0_lay : GoodIn wsX10_ring wsX0_lay := goodIn_r _ [20, 21, 22, 23, 24, 25, 26, 19, 27, 28, 29, 30, 31, 32, 33, 34, 35, 36, 37, 13, 38, 39, 40, 41, 42, 43, 44, 45, 46, 47, 48, 49, 50, 51, 52, 53, 54, 55, 56, 57, 58, 59, 60, 61, 62, 63, 64, 65, 66, 67, 68, 69, 70, 71, 72, 73, 74, 75, 76, 77, 78, 112, 113, 114, 115, 116, 117, 118, 119, 120, 121, 122, 123, 124, 125, 126, 127, 128, 129, 130, 131] rfl (by decide +kernel)
set_option maxRecDepth 100000 in
theorem gX10_ring_X0_lay : GoodIn wsX10_ring (wsV RX10 201 RX0 yX0_lay wsX0_lay) := goodIn_app (goodIn_of _ (by decide +kernel)) ggX10_ring_X0_lay
set_option maxRecDepth 100000 in
theorem ggX10_ring_X0_leastRound : GoodIn wsX10_ring wsX0_leastRound := goodIn_r _ [82, 21, 22, 24, 83, 84, 85, 19, 86, 87, 23, 88, 48, 49, 50, 89, 90, 91, 92, 25, 26, 27, 93, 94, 95, 96, 97, 52, 53, 98, 6, 99, 100, 124, 125, 126, 127] rfl (by decide +kernel)
set_option maxRecDepth 100000 in
theorem gX10_ring_X0_leastRound : GoodIn wsX10_ring (wsV RX10 211 RX0 yX0_leastRound wsX0_leastRound) := goodIn_app (goodIn_of _ (by decide +kernel)) ggX10_ring_X0_leastRound
set_option maxRecDepth 100000 in
theorem ggX10_dogs_X10_needWay : GoodIn wsX10_dogs wsX10_needWay := goodIn_ca (goodIn_r _ [7, 8, 9, 2, 10, 11, 12, 13, 14, 15, 101, 102, 103, 104, 105, 106, 107, 108, 109, 110, 111, 112, 113, 114, 115, 116, 117, 118, 119, 120, 121, 122, 123] rfl (by decide +kernel)) (goodIn_sub (fun _ h => List.mem_cons_of_mem _ (List.mem_append_right _ h)) (by decide +kernel))
set_option maxRecDepth 100000 in
theorem gX10_dogs_X10_needWay : GoodIn wsX10_dogs (wsV RX10 149 RX10 yX10_needWay wsX10_needWay) := goodIn_app (goodIn_of _ (by decide +kernel)) ggX10_dogs_X10_needWay
set_option maxRecDepth 100000 in
theorem ggX10_dogs_X4_leastLead : GoodIn wsX10_dogs wsX4_leastLead := goodIn_r _ [20, 21, 22, 23, 24, 25, 26, 27, 28, 29, 30, 19, 31, 32, 33, 34, 35, 13, 36, 37, 38, 39, 40, 41, 42, 43, 44, 45, 46, 47, 48, 49, 50, 51, 52, 53, 54, 55, 56, 57, 58, 59, 60, 61, 62, 63, 64, 65, 66, 67, 68, 69, 70, 71, 72, 73, 74, 75, 76, 77, 78, 79, 80, 81, 82, 83, 84, 85, 86, 87, 88, 89, 90, 91, 92, 93, 94, 95, 96, 112, 113, 114, 115, 116, 117, 118, 119, 120, 121, 122, 123, 124, 125, 126, 127, 128, 129, 130, 131, 132, 133, 134] rfl (by decide +kernel)
set_option maxRecDepth 100000 in
theorem gX10_dogs_X4_leastLead : GoodIn wsX10_dogs (wsV RX10 215 RX4 yX4_leastLead wsX4_leastLead) := goodIn_app (goodIn_of _ (by decide +kernel)) ggX10_dogs_X4_leastLead
set_option maxRecDepth 100000 in
theorem ggX10_dogs_X10_orNone : GoodIn wsX10_dogs wsX10_orNone := goodIn_r _ [99, 100] rfl (by decide +kernel)
set_option maxRecDepth 100000 in
theorem gX10_dogs_X10_orNone : GoodIn wsX10_dogs (va_wsS RX10 208 yX10_orNone wsX10_orNone) := goodIn_app (goodIn_of _ (by decide +kernel)) ggX10_dogs_X10_orNone
set_option maxRecDepth 100000 in
theorem ggX10_three_X10_needWay : GoodIn wsX10_three wsX10_needWay := goodIn_ca (goodIn_r _ [7, 8, 9, 2, 10, 11, 12, 13, 14, 15, 101, 102, 103, 104, 105, 106, 107, 108, 109, 110, 111, 112, 113, 114, 115, 116, 117, 118, 119, 120, 121, 122, 123] rfl (by decide +kernel)) (goodIn_sub (fun _ h => List.mem_cons_of_mem _ (List.mem_append_right _ h)) (by decide +kernel))
set_option maxRecDepth 100000 in
theorem gX10_three_X10_needWay : GoodIn wsX10_three (wsV RX10 149 RX10 yX10_needWay wsX10_needWay) := goodIn_app (goodIn_of _ (by decide +kernel)) ggX10_three_X10_needWay
set_option maxRecDepth 100000 in
theorem ggX10_three_X4_leastLead : GoodIn wsX10_three wsX4_leastLead := goodIn_r _ [20, 21, 22, 23, 24, 25, 26, 27, 28, 29, 30, 19, 31, 32, 33, 34, 35, 13, 36, 37, 38, 39, 40, 41, 42, 43, 44, 45, 46, 47, 48, 49, 50, 51, 52, 53, 54, 55, 56, 57, 58, 59, 60, 61, 62, 63, 64, 65, 66, 67, 68, 69, 70, 71, 72, 73, 74, 75, 76, 77, 78, 79, 80, 81, 82, 83, 84, 85, 86, 87, 88, 89, 90, 91, 92, 93, 94, 95, 96, 112, 113, 114, 115, 116, 117, 118, 119, 120, 121, 122, 123, 124, 125, 126, 127, 128, 129, 130, 131, 132, 133, 134] rfl (by decide +kernel)
set_option maxRecDepth 100000 in
theorem gX10_three_X4_leastLead : GoodIn wsX10_three (wsV RX10 215 RX4 yX4_leastLead wsX4_leastLead) := goodIn_app (goodIn_of _ (by decide +kernel)) ggX10_three_X4_leastLead
set_option maxRecDepth 100000 in
theorem ggX10_three_X10_orNone : GoodIn wsX10_three wsX10_orNone := goodIn_r _ [99, 100] rfl (by decide +kernel)
set_option maxRecDepth 100000 in
theorem gX10_three_X10_orNone : GoodIn wsX10_three (va_wsS RX10 208 yX10_orNone wsX10_orNone) := goodIn_app (goodIn_of _ (by decide +kernel)) ggX10_three_X10_orNone
set_option maxRecDepth 100000 in
theorem ggX10_drag_X10_needWay : GoodIn wsX10_drag wsX10_needWay := goodIn_ca (goodIn_r _ [7, 8, 9, 2, 10, 11, 12, 13, 14, 15, 97, 98, 99, 100, 101, 102, 103, 104, 105, 106, 107, 108, 109, 110, 111, 112, 113, 114, 115, 116, 117, 118, 119] rfl (by decide +kernel)) (goodIn_sub (fun _ h => List.mem_cons_of_mem _ (List.mem_append_right _ h)) (by decide +kernel))
set_option maxRecDepth 100000 in
theorem gX10_drag_X10_needWay : GoodIn wsX10_drag (wsV RX10 149 RX10 yX10_needWay wsX10_needWay) := goodIn_app (goodIn_of _ (by decide +kernel)) ggX10_drag_X10_needWay
set_option maxRecDepth 100000 in
theorem ggX10_drag_X0_lay : GoodIn wsX10_drag wsX0_lay := goodIn_r _ [20, 21, 22, 23, 24, 25, 26, 19, 27, 28, 29, 30, 31, 32, 33, 34, 35, 36, 37, 13, 38, 39, 40, 41, 42, 43, 44, 45, 46, 47, 48, 49, 50, 51, 52, 53, 54, 55, 56, 57, 58, 59, 60, 61, 62, 63, 64, 65, 66, 67, 68, 69, 70, 71, 72, 73, 74, 75, 76, 77, 78, 108, 109, 110, 111, 112, 113, 114, 115, 116, 117, 118, 119, 120, 121, 122, 123, 124, 125, 126, 127] rfl (by decide +kernel)
set_option maxRecDepth 100000 in
theorem gX10_drag_X0_lay : GoodIn wsX10_drag (wsV RX10 201 RX0 yX0_lay wsX0_lay) := goodIn_app (goodIn_of _ (by decide +kernel)) ggX10_drag_X0_lay
set_option maxRecDepth 100000 in
theorem ggX10_drag_X0_leastSum : GoodIn wsX10_drag wsX0_leastSum := goodIn_r _ [82, 21, 22, 23, 83, 24, 84, 85, 86, 19, 87, 25, 26, 27, 88, 89, 90, 91, 92, 52, 49, 53, 120, 121, 122, 123] rfl (by decide +kernel)
set_option maxRecDepth 100000 in
theorem gX10_drag_X0_leastSum : GoodIn wsX10_drag (wsV RX10 218 RX0 yX0_leastSum wsX0_leastSum) := goodIn_app (goodIn_of _ (by decide +kernel)) ggX10_drag_X0_leastSum
set_option maxRecDepth 100000 in
theorem ggX10_drag_X10_orNone : GoodIn wsX10_drag wsX10_orNone := goodIn_r _ [95, 96] rfl (by decide +kernel)
set_option maxRecDepth 100000 in
theorem gX10_drag_X10_orNone : GoodIn wsX10_drag (va_wsS RX10 208 yX10_orNone wsX10_orNone) := goodIn_app (goodIn_of _ (by decide +kernel)) ggX10_drag_X10_orNone
set_option maxRecDepth 100000 in
theorem ggX10_nearest_X10_needWay : GoodIn wsX10_nearest wsX10_needWay := goodIn_ca (goodIn_r _ [5, 6, 7, 8, 9, 10, 11, 12, 13, 14, 109, 110, 111, 112, 113, 114, 115, 116, 117, 118, 119, 120, 121, 122, 123, 124, 125, 126, 127, 128, 129, 130, 131] rfl (by decide +kernel)) (goodIn_sub (fun _ h => List.mem_cons_of_mem _ (List.mem_append_right _ h)) (by decide +kernel))
set_option maxRecDepth 100000 in
theorem gX10_nearest_X10_needWay : GoodIn wsX10_nearest (wsV RX10 149 RX10 yX10_needWay wsX10_needWay) := goodIn_app (goodIn_of _ (by decide +kernel)) ggX10_nearest_X10_needWay
set_option maxRecDepth 100000 in
theorem ggX10_nearest_X10_nearestOf : GoodIn wsX10_nearest wsX10_nearestOf := goodIn_r _ [18, 19, 8, 20, 21, 4, 22, 23, 24, 25, 26, 27, 28, 29, 30, 31, 32, 33, 34, 35, 36, 37, 38, 39, 40, 41, 42, 43, 44, 45, 46, 47, 48, 49, 12, 50, 51, 52, 53, 54, 55, 56, 57, 58, 59, 60, 61, 62, 63, 64, 65, 66, 67, 68, 69, 70, 71, 72, 73, 74, 75, 76, 77, 78, 79, 80, 81, 82, 83, 84, 85, 86, 87, 88, 89, 90, 91, 92, 93, 94, 95, 96, 97, 98, 99, 100, 101, 102, 103, 104, 105, 106, 107, 108, 109, 110, 111, 112, 113, 114, 115, 116, 117, 118, 119, 120, 121, 122, 123, 124, 125, 126, 127, 128, 129, 130, 131, 132, 133, 134, 135, 136, 137, 138, 139] rfl (by decide +kernel)
set_option maxRecDepth 100000 in
theorem gX10_nearest_X10_nearestOf : GoodIn wsX10_nearest (wsV RX10 221 RX10 yX10_nearestOf wsX10_nearestOf) := goodIn_app (goodIn_of _ (by decide +kernel)) ggX10_nearest_X10_nearestOf
set_option maxRecDepth 100000 in
theorem ggX10_middle_X10_isIn : GoodIn wsX10_middle wsX10_isIn := goodIn_r _ [6] rfl (by decide +kernel)
set_option maxRecDepth 100000 in
theorem gX10_middle_X10_isIn : GoodIn wsX10_middle (va_wsS RX10 228 yX10_isIn wsX10_isIn) := goodIn_app (goodIn_of _ (by decide +kernel)) ggX10_middle_X10_isIn
set_option maxRecDepth 100000 in
theorem ggX10_middle_X10_greatestToOthers : GoodIn wsX10_middle wsX10_greatestToOthers := goodIn_r _ [10, 2, 11, 12, 13, 14, 3, 4, 5, 6, 15, 16, 17, 18, 19, 20, 21, 22, 23, 24, 25, 26, 27, 28, 29, 30, 31, 32, 33, 34, 35, 36, 37, 38, 39, 40, 41, 42, 43, 44, 45, 46, 47, 48, 49, 50, 51, 52, 53, 54, 55, 56, 57, 58, 59, 60, 61, 62, 63, 64, 65, 66, 67, 68, 69, 70, 71, 72, 73, 74, 75, 76, 77, 78, 79, 80, 81, 82, 83, 84, 85, 86, 87, 88, 89, 90, 91, 92, 93, 94, 95, 96, 97, 98, 1, 99, 100, 101, 102, 103, 104, 105, 106, 107, 108, 109, 110, 111, 112, 113, 114, 115, 116, 117, 118, 119, 120, 121, 122, 123, 124, 125, 126, 127, 128, 129] rfl (by decide +kernel)
set_option maxRecDepth 100000 in
theorem gX10_middle_X10_greatestToOthers : GoodIn wsX10_middle (wsV RX10 232 RX10 yX10_greatestToOthers wsX10_greatestToOthers) := goodIn_app (goodIn_of _ (by decide +kernel)) ggX10_middle_X10_greatestToOthers
set_option maxRecDepth 100000 in
theorem ggX10_fewer_X10_needWay : GoodIn wsX10_fewer wsX10_needWay := goodIn_ca (goodIn_r _ [9, 10, 11, 4, 12, 13, 14, 15, 16, 17, 56, 57, 58, 59, 60, 61, 62, 63, 64, 65, 66, 67, 68, 69, 70, 71, 72, 73, 74, 75, 76, 77, 78] rfl (by decide +kernel)) (goodIn_sub (fun _ h => List.mem_cons_of_mem _ (List.mem_append_right _ h)) (by decide +kernel))
set_option maxRecDepth 100000 in
theorem gX10_fewer_X10_needWay : GoodIn wsX10_fewer (wsV RX10 149 RX10 yX10_needWay wsX10_needWay) := goodIn_app (goodIn_of _ (by decide +kernel)) ggX10_fewer_X10_needWay
set_option maxRecDepth 100000 in
theorem ggX10_fewer_X9_fewestCorners : GoodIn wsX10_fewer wsX9_fewestCorners := goodIn_r _ [22, 23, 24, 25, 26, 27, 28, 29, 30, 31, 32, 33, 34, 35, 36, 21, 37, 38, 39, 40, 15, 41, 42, 43, 44, 45, 46, 47, 48, 49, 50, 51, 52, 53, 54, 55, 72, 73, 74, 75, 76, 77, 78, 79, 80] rfl (by decide +kernel)
set_option maxRecDepth 100000 in
theorem gX10_fewer_X9_fewestCorners : GoodIn wsX10_fewer (wsV RX10 237 RX9 yX9_fewestCorners wsX9_fewestCorners) := goodIn_app (goodIn_of _ (by decide +kernel)) ggX10_fewer_X9_fewestCorners
set_option maxRecDepth 100000 in
theorem ggX10_own_X10_greatestOfPairs : GoodIn wsX10_own wsX10_greatestOfPairs := goodIn_r _ [5, 6, 7, 8, 9, 10, 11, 12, 4, 13, 14, 15, 16, 17, 18, 19, 20, 21, 22, 23, 24, 25, 26, 27, 28, 29, 30, 31, 32, 33, 34, 35, 36, 37, 38, 39, 40, 41, 42, 43, 44, 45, 46, 47, 48, 49, 50, 51, 52, 53, 54, 55, 56, 57, 58, 59, 60, 61, 62, 63, 64, 65, 66, 67, 68, 69, 70, 71, 72, 73, 74, 75, 76, 77, 78, 79, 80, 81, 82, 83, 84, 85, 86, 87, 88, 89, 90, 91, 92, 93, 94, 95, 96, 97, 98, 99, 100, 101, 102, 103, 104, 105, 106, 107, 108, 109, 110, 111, 112, 113, 114, 115, 116, 117, 118, 119, 120, 121, 122, 123, 124, 125, 126, 127, 128, 129] rfl (by decide +kernel)
set_option maxRecDepth 100000 in
theorem gX10_own_X10_greatestOfPairs : GoodIn wsX10_own (wsV RX10 241 RX10 yX10_greatestOfPairs wsX10_greatestOfPairs) := goodIn_app (goodIn_of _ (by decide +kernel)) ggX10_own_X10_greatestOfPairs
set_option maxRecDepth 100000 in
theorem ggX10_forged_X10_needWay : GoodIn wsX10_forged wsX10_needWay := goodIn_ca (goodIn_r _ [5, 6, 7, 8, 9, 10, 11, 12, 13, 14, 114, 115, 116, 117, 118, 119, 120, 121, 122, 123, 124, 125, 126, 127, 128, 129, 130, 131, 132, 133, 134, 135, 136] rfl (by decide +kernel)) (goodIn_sub (fun _ h => List.mem_cons_of_mem _ (List.mem_append_right _ h)) (by decide +kernel))
set_option maxRecDepth 100000 in
theorem gX10_forged_X10_needWay : GoodIn wsX10_forged (wsV RX10 149 RX10 yX10_needWay wsX10_needWay) := goodIn_app (goodIn_of _ (by decide +kernel)) ggX10_forged_X10_needWay
set_option maxRecDepth 100000 in
theorem ggX10_forged_X10_greatestOfPairs : GoodIn wsX10_forged wsX10_greatestOfPairs := goodIn_r _ [18, 8, 19, 20, 21, 22, 23, 24, 4, 25, 26, 27, 28, 29, 30, 31, 32, 33, 34, 35, 36, 37, 38, 39, 40, 41, 42, 43, 44, 45, 46, 47, 48, 49, 50, 51, 52, 12, 53, 54, 55, 56, 57, 58, 59, 60, 61, 62, 63, 64, 65, 66, 67, 68, 69, 70, 71, 72, 73, 74, 75, 76, 77, 78, 79, 80, 81, 82, 83, 84, 85, 86, 87, 88, 89, 90, 91, 92, 93, 94, 95, 96, 97, 98, 99, 100, 101, 102, 103, 104, 105, 106, 107, 108, 109, 114, 115, 116, 117, 118, 119, 120, 121, 122, 123, 124, 125, 126, 127, 128, 129, 130, 131, 132, 133, 134, 135, 136, 137, 138, 139, 140, 141, 142, 143, 144] rfl (by decide +kernel)
