theorem dX11_canGo_6 : decode cX11_canGo 6 = .ok (.iaload, 1) := al_X11_canGo_0 (6, (.iaload, 1)) (List.mem_of_getElem? (i := 3) rfl)
theorem dX11_canGo_7 : decode cX11_canGo 7 = .ok (.ifCond .ne 5, 3) := al_X11_canGo_0 (7, (.ifCond .ne 5, 3)) (List.mem_of_getElem? (i := 4) rfl)
theorem dX11_canGo_10 : decode cX11_canGo 10 = .ok (.iconst 0, 1) := al_X11_canGo_0 (10, (.iconst 0, 1)) (List.mem_of_getElem? (i := 5) rfl)
theorem dX11_canGo_11 : decode cX11_canGo 11 = .ok (.ireturn, 1) := al_X11_canGo_0 (11, (.ireturn, 1)) (List.mem_of_getElem? (i := 6) rfl)
theorem dX11_canGo_12 : decode cX11_canGo 12 = .ok (.aload_n 0, 1) := al_X11_canGo_0 (12, (.aload_n 0, 1)) (List.mem_of_getElem? (i := 7) rfl)
theorem dX11_canGo_13 : decode cX11_canGo 13 = .ok (.getfield 13, 3) := al_X11_canGo_0 (13, (.getfield 13, 3)) (List.mem_of_getElem? (i := 8) rfl)
theorem dX11_canGo_16 : decode cX11_canGo 16 = .ok (.bipush 7, 2) := al_X11_canGo_0 (16, (.bipush 7, 2)) (List.mem_of_getElem? (i := 9) rfl)
theorem dX11_canGo_18 : decode cX11_canGo 18 = .ok (.iaload, 1) := al_X11_canGo_0 (18, (.iaload, 1)) (List.mem_of_getElem? (i := 10) rfl)
theorem dX11_canGo_19 : decode cX11_canGo 19 = .ok (.istore_n 2, 1) := al_X11_canGo_0 (19, (.istore_n 2, 1)) (List.mem_of_getElem? (i := 11) rfl)
theorem dX11_canGo_20 : decode cX11_canGo 20 = .ok (.aload_n 0, 1) := al_X11_canGo_0 (20, (.aload_n 0, 1)) (List.mem_of_getElem? (i := 12) rfl)
theorem dX11_canGo_21 : decode cX11_canGo 21 = .ok (.getfield 13, 3) := al_X11_canGo_0 (21, (.getfield 13, 3)) (List.mem_of_getElem? (i := 13) rfl)
theorem dX11_canGo_24 : decode cX11_canGo 24 = .ok (.bipush 8, 2) := al_X11_canGo_0 (24, (.bipush 8, 2)) (List.mem_of_getElem? (i := 14) rfl)
theorem dX11_canGo_26 : decode cX11_canGo 26 = .ok (.iaload, 1) := al_X11_canGo_0 (26, (.iaload, 1)) (List.mem_of_getElem? (i := 15) rfl)
theorem dX11_canGo_27 : decode cX11_canGo 27 = .ok (.istore_n 3, 1) := al_X11_canGo_0 (27, (.istore_n 3, 1)) (List.mem_of_getElem? (i := 16) rfl)
theorem dX11_canGo_28 : decode cX11_canGo 28 = .ok (.aload_n 0, 1) := al_X11_canGo_0 (28, (.aload_n 0, 1)) (List.mem_of_getElem? (i := 17) rfl)
theorem dX11_canGo_29 : decode cX11_canGo 29 = .ok (.getfield 13, 3) := al_X11_canGo_0 (29, (.getfield 13, 3)) (List.mem_of_getElem? (i := 18) rfl)
theorem dX11_canGo_32 : decode cX11_canGo 32 = .ok (.bipush 10, 2) := al_X11_canGo_0 (32, (.bipush 10, 2)) (List.mem_of_getElem? (i := 19) rfl)
theorem dX11_canGo_34 : decode cX11_canGo 34 = .ok (.iaload, 1) := al_X11_canGo_0 (34, (.iaload, 1)) (List.mem_of_getElem? (i := 20) rfl)
theorem dX11_canGo_35 : decode cX11_canGo 35 = .ok (.iload_n 1, 1) := al_X11_canGo_0 (35, (.iload_n 1, 1)) (List.mem_of_getElem? (i := 21) rfl)
theorem dX11_canGo_36 : decode cX11_canGo 36 = .ok (.invokestatic 325, 3) := al_X11_canGo_0 (36, (.invokestatic 325, 3)) (List.mem_of_getElem? (i := 22) rfl)
theorem dX11_canGo_39 : decode cX11_canGo 39 = .ok (.iadd, 1) := al_X11_canGo_0 (39, (.iadd, 1)) (List.mem_of_getElem? (i := 23) rfl)
theorem dX11_canGo_40 : decode cX11_canGo 40 = .ok (.istore 4, 2) := al_X11_canGo_0 (40, (.istore 4, 2)) (List.mem_of_getElem? (i := 24) rfl)
theorem dX11_canGo_42 : decode cX11_canGo 42 = .ok (.aload_n 0, 1) := al_X11_canGo_0 (42, (.aload_n 0, 1)) (List.mem_of_getElem? (i := 25) rfl)
theorem dX11_canGo_43 : decode cX11_canGo 43 = .ok (.getfield 13, 3) := al_X11_canGo_0 (43, (.getfield 13, 3)) (List.mem_of_getElem? (i := 26) rfl)
theorem dX11_canGo_46 : decode cX11_canGo 46 = .ok (.bipush 11, 2) := al_X11_canGo_0 (46, (.bipush 11, 2)) (List.mem_of_getElem? (i := 27) rfl)
theorem dX11_canGo_48 : decode cX11_canGo 48 = .ok (.iaload, 1) := al_X11_canGo_0 (48, (.iaload, 1)) (List.mem_of_getElem? (i := 28) rfl)
theorem dX11_canGo_49 : decode cX11_canGo 49 = .ok (.iload_n 1, 1) := al_X11_canGo_0 (49, (.iload_n 1, 1)) (List.mem_of_getElem? (i := 29) rfl)
theorem dX11_canGo_50 : decode cX11_canGo 50 = .ok (.invokestatic 328, 3) := al_X11_canGo_0 (50, (.invokestatic 328, 3)) (List.mem_of_getElem? (i := 30) rfl)
theorem dX11_canGo_53 : decode cX11_canGo 53 = .ok (.iadd, 1) := al_X11_canGo_0 (53, (.iadd, 1)) (List.mem_of_getElem? (i := 31) rfl)
theorem dX11_canGo_54 : decode cX11_canGo 54 = .ok (.istore 5, 2) := al_X11_canGo_0 (54, (.istore 5, 2)) (List.mem_of_getElem? (i := 32) rfl)
theorem dX11_canGo_56 : decode cX11_canGo 56 = .ok (.iload 4, 2) := al_X11_canGo_0 (56, (.iload 4, 2)) (List.mem_of_getElem? (i := 33) rfl)
theorem dX11_canGo_58 : decode cX11_canGo 58 = .ok (.aload_n 0, 1) := al_X11_canGo_0 (58, (.aload_n 0, 1)) (List.mem_of_getElem? (i := 34) rfl)
theorem dX11_canGo_59 : decode cX11_canGo 59 = .ok (.iload_n 2, 1) := al_X11_canGo_0 (59, (.iload_n 2, 1)) (List.mem_of_getElem? (i := 35) rfl)
theorem dX11_canGo_60 : decode cX11_canGo 60 = .ok (.invokevirtual 105, 3) := al_X11_canGo_0 (60, (.invokevirtual 105, 3)) (List.mem_of_getElem? (i := 36) rfl)
theorem dX11_canGo_63 : decode cX11_canGo 63 = .ok (.if_icmp .ge 50, 3) := al_X11_canGo_0 (63, (.if_icmp .ge 50, 3)) (List.mem_of_getElem? (i := 37) rfl)
theorem dX11_canGo_66 : decode cX11_canGo 66 = .ok (.iload 5, 2) := al_X11_canGo_0 (66, (.iload 5, 2)) (List.mem_of_getElem? (i := 38) rfl)
theorem dX11_canGo_68 : decode cX11_canGo 68 = .ok (.aload_n 0, 1) := al_X11_canGo_0 (68, (.aload_n 0, 1)) (List.mem_of_getElem? (i := 39) rfl)
theorem dX11_canGo_69 : decode cX11_canGo 69 = .ok (.iload_n 3, 1) := al_X11_canGo_0 (69, (.iload_n 3, 1)) (List.mem_of_getElem? (i := 40) rfl)
theorem dX11_canGo_70 : decode cX11_canGo 70 = .ok (.invokevirtual 105, 3) := al_X11_canGo_0 (70, (.invokevirtual 105, 3)) (List.mem_of_getElem? (i := 41) rfl)
theorem dX11_canGo_73 : decode cX11_canGo 73 = .ok (.if_icmp .ge 40, 3) := al_X11_canGo_0 (73, (.if_icmp .ge 40, 3)) (List.mem_of_getElem? (i := 42) rfl)
theorem dX11_canGo_76 : decode cX11_canGo 76 = .ok (.aload_n 0, 1) := al_X11_canGo_0 (76, (.aload_n 0, 1)) (List.mem_of_getElem? (i := 43) rfl)
theorem dX11_canGo_77 : decode cX11_canGo 77 = .ok (.iload_n 2, 1) := al_X11_canGo_0 (77, (.iload_n 2, 1)) (List.mem_of_getElem? (i := 44) rfl)
theorem dX11_canGo_78 : decode cX11_canGo 78 = .ok (.iload 4, 2) := al_X11_canGo_0 (78, (.iload 4, 2)) (List.mem_of_getElem? (i := 45) rfl)
theorem dX11_canGo_80 : decode cX11_canGo 80 = .ok (.iload_n 3, 1) := al_X11_canGo_0 (80, (.iload_n 3, 1)) (List.mem_of_getElem? (i := 46) rfl)
theorem dX11_canGo_81 : decode cX11_canGo 81 = .ok (.iload 5, 2) := al_X11_canGo_0 (81, (.iload 5, 2)) (List.mem_of_getElem? (i := 47) rfl)
theorem dX11_canGo_83 : decode cX11_canGo 83 = .ok (.invokevirtual 256, 3) := al_X11_canGo_0 (83, (.invokevirtual 256, 3)) (List.mem_of_getElem? (i := 48) rfl)
theorem dX11_canGo_86 : decode cX11_canGo 86 = .ok (.aload_n 0, 1) := al_X11_canGo_0 (86, (.aload_n 0, 1)) (List.mem_of_getElem? (i := 49) rfl)
theorem dX11_canGo_87 : decode cX11_canGo 87 = .ok (.getfield 13, 3) := al_X11_canGo_0 (87, (.getfield 13, 3)) (List.mem_of_getElem? (i := 50) rfl)
theorem dX11_canGo_90 : decode cX11_canGo 90 = .ok (.bipush 9, 2) := al_X11_canGo_0 (90, (.bipush 9, 2)) (List.mem_of_getElem? (i := 51) rfl)
theorem dX11_canGo_92 : decode cX11_canGo 92 = .ok (.iaload, 1) := al_X11_canGo_0 (92, (.iaload, 1)) (List.mem_of_getElem? (i := 52) rfl)
theorem dX11_canGo_93 : decode cX11_canGo 93 = .ok (.if_icmp .gt 20, 3) := al_X11_canGo_0 (93, (.if_icmp .gt 20, 3)) (List.mem_of_getElem? (i := 53) rfl)
theorem dX11_canGo_96 : decode cX11_canGo 96 = .ok (.aload_n 0, 1) := al_X11_canGo_0 (96, (.aload_n 0, 1)) (List.mem_of_getElem? (i := 54) rfl)
theorem dX11_canGo_97 : decode cX11_canGo 97 = .ok (.iload_n 2, 1) := al_X11_canGo_0 (97, (.iload_n 2, 1)) (List.mem_of_getElem? (i := 55) rfl)
theorem dX11_canGo_98 : decode cX11_canGo 98 = .ok (.iload 4, 2) := al_X11_canGo_0 (98, (.iload 4, 2)) (List.mem_of_getElem? (i := 56) rfl)
theorem dX11_canGo_100 : decode cX11_canGo 100 = .ok (.iload_n 3, 1) := al_X11_canGo_0 (100, (.iload_n 3, 1)) (List.mem_of_getElem? (i := 57) rfl)
theorem dX11_canGo_101 : decode cX11_canGo 101 = .ok (.iload 5, 2) := al_X11_canGo_0 (101, (.iload 5, 2)) (List.mem_of_getElem? (i := 58) rfl)
theorem dX11_canGo_103 : decode cX11_canGo 103 = .ok (.invokevirtual 296, 3) := al_X11_canGo_0 (103, (.invokevirtual 296, 3)) (List.mem_of_getElem? (i := 59) rfl)
def in_X11_canGo_1 : List (Nat × Instr × Nat) := [(106, (.ifCond .ne 7, 3)), (109, (.iconst 1, 1)), (110, (.goto 4, 3)), (113, (.iconst 0, 1)), (114, (.ireturn, 1))]
theorem al_X11_canGo_1 : ∀ q ∈ in_X11_canGo_1, decode cX11_canGo q.1 = .ok q.2 := by decide +kernel
theorem dX11_canGo_106 : decode cX11_canGo 106 = .ok (.ifCond .ne 7, 3) := al_X11_canGo_1 (106, (.ifCond .ne 7, 3)) (List.mem_of_getElem? (i := 0) rfl)
theorem dX11_canGo_109 : decode cX11_canGo 109 = .ok (.iconst 1, 1) := al_X11_canGo_1 (109, (.iconst 1, 1)) (List.mem_of_getElem? (i := 1) rfl)
theorem dX11_canGo_110 : decode cX11_canGo 110 = .ok (.goto 4, 3) := al_X11_canGo_1 (110, (.goto 4, 3)) (List.mem_of_getElem? (i := 2) rfl)
theorem dX11_canGo_113 : decode cX11_canGo 113 = .ok (.iconst 0, 1) := al_X11_canGo_1 (113, (.iconst 0, 1)) (List.mem_of_getElem? (i := 3) rfl)
theorem dX11_canGo_114 : decode cX11_canGo 114 = .ok (.ireturn, 1) := al_X11_canGo_1 (114, (.ireturn, 1)) (List.mem_of_getElem? (i := 4) rfl)
def in_X11_goes_0 : List (Nat × Instr × Nat) := [(0, (.aload_n 0, 1)), (1, (.getfield 90, 3)), (4, (.bipush 40, 2)), (6, (.if_icmp .ne 34, 3)), (9, (.iconst 0, 1)), (10, (.istore_n 2, 1)), (11, (.iload_n 2, 1)), (12, (.bipush 78, 2)), (14, (.if_icmp .ge 23, 3)), (17, (.aload_n 0, 1)), (18, (.getfield 23, 3)), (21, (.iload_n 2, 1)), (22, (.aload_n 0, 1)), (23, (.getfield 23, 3)), (26, (.iload_n 2, 1)), (27, (.iconst 2, 1)), (28, (.iadd, 1)), (29, (.iaload, 1)), (30, (.iastore, 1)), (31, (.iinc 2 1, 3)), (34, (.goto (-23), 3)), (37, (.goto 13, 3)), (40, (.aload_n 0, 1)), (41, (.dup, 1)), (42, (.getfield 90, 3)), (45, (.iconst 1, 1)), (46, (.iadd, 1)), (47, (.putfield 90, 3)), (50, (.aload_n 0, 1)), (51, (.getfield 23, 3)), (54, (.iconst 2, 1)), (55, (.aload_n 0, 1)), (56, (.getfield 90, 3)), (59, (.imul, 1)), (60, (.iconst 2, 1)), (61, (.isub, 1)), (62, (.iload_n 1, 1)), (63, (.iastore, 1)), (64, (.aload_n 0, 1)), (65, (.getfield 23, 3)), (68, (.iconst 2, 1)), (69, (.aload_n 0, 1)), (70, (.getfield 90, 3)), (73, (.imul, 1)), (74, (.iconst 1, 1)), (75, (.isub, 1)), (76, (.aload_n 0, 1)), (77, (.getfield 13, 3)), (80, (.bipush 13, 2)), (82, (.iaload, 1)), (83, (.iastore, 1)), (84, (.aload_n 0, 1)), (85, (.getfield 13, 3)), (88, (.bipush 10, 2)), (90, (.dup2, 1)), (91, (.iaload, 1)), (92, (.iload_n 1, 1)), (93, (.invokestatic 325, 3)), (96, (.iadd, 1)), (97, (.iastore, 1))]
theorem al_X11_goes_0 : ∀ q ∈ in_X11_goes_0, decode cX11_goes q.1 = .ok q.2 := by decide +kernel
theorem dX11_goes_0 : decode cX11_goes 0 = .ok (.aload_n 0, 1) := al_X11_goes_0 (0, (.aload_n 0, 1)) (List.mem_of_getElem? (i := 0) rfl)
theorem dX11_goes_1 : decode cX11_goes 1 = .ok (.getfield 90, 3) := al_X11_goes_0 (1, (.getfield 90, 3)) (List.mem_of_getElem? (i := 1) rfl)
theorem dX11_goes_4 : decode cX11_goes 4 = .ok (.bipush 40, 2) := al_X11_goes_0 (4, (.bipush 40, 2)) (List.mem_of_getElem? (i := 2) rfl)
theorem dX11_goes_6 : decode cX11_goes 6 = .ok (.if_icmp .ne 34, 3) := al_X11_goes_0 (6, (.if_icmp .ne 34, 3)) (List.mem_of_getElem? (i := 3) rfl)
theorem dX11_goes_9 : decode cX11_goes 9 = .ok (.iconst 0, 1) := al_X11_goes_0 (9, (.iconst 0, 1)) (List.mem_of_getElem? (i := 4) rfl)
theorem dX11_goes_10 : decode cX11_goes 10 = .ok (.istore_n 2, 1) := al_X11_goes_0 (10, (.istore_n 2, 1)) (List.mem_of_getElem? (i := 5) rfl)
theorem dX11_goes_11 : decode cX11_goes 11 = .ok (.iload_n 2, 1) := al_X11_goes_0 (11, (.iload_n 2, 1)) (List.mem_of_getElem? (i := 6) rfl)
theorem dX11_goes_12 : decode cX11_goes 12 = .ok (.bipush 78, 2) := al_X11_goes_0 (12, (.bipush 78, 2)) (List.mem_of_getElem? (i := 7) rfl)
theorem dX11_goes_14 : decode cX11_goes 14 = .ok (.if_icmp .ge 23, 3) := al_X11_goes_0 (14, (.if_icmp .ge 23, 3)) (List.mem_of_getElem? (i := 8) rfl)
theorem dX11_goes_17 : decode cX11_goes 17 = .ok (.aload_n 0, 1) := al_X11_goes_0 (17, (.aload_n 0, 1)) (List.mem_of_getElem? (i := 9) rfl)
theorem dX11_goes_18 : decode cX11_goes 18 = .ok (.getfield 23, 3) := al_X11_goes_0 (18, (.getfield 23, 3)) (List.mem_of_getElem? (i := 10) rfl)
theorem dX11_goes_21 : decode cX11_goes 21 = .ok (.iload_n 2, 1) := al_X11_goes_0 (21, (.iload_n 2, 1)) (List.mem_of_getElem? (i := 11) rfl)
theorem dX11_goes_22 : decode cX11_goes 22 = .ok (.aload_n 0, 1) := al_X11_goes_0 (22, (.aload_n 0, 1)) (List.mem_of_getElem? (i := 12) rfl)
theorem dX11_goes_23 : decode cX11_goes 23 = .ok (.getfield 23, 3) := al_X11_goes_0 (23, (.getfield 23, 3)) (List.mem_of_getElem? (i := 13) rfl)
theorem dX11_goes_26 : decode cX11_goes 26 = .ok (.iload_n 2, 1) := al_X11_goes_0 (26, (.iload_n 2, 1)) (List.mem_of_getElem? (i := 14) rfl)
theorem dX11_goes_27 : decode cX11_goes 27 = .ok (.iconst 2, 1) := al_X11_goes_0 (27, (.iconst 2, 1)) (List.mem_of_getElem? (i := 15) rfl)
theorem dX11_goes_28 : decode cX11_goes 28 = .ok (.iadd, 1) := al_X11_goes_0 (28, (.iadd, 1)) (List.mem_of_getElem? (i := 16) rfl)
theorem dX11_goes_29 : decode cX11_goes 29 = .ok (.iaload, 1) := al_X11_goes_0 (29, (.iaload, 1)) (List.mem_of_getElem? (i := 17) rfl)
theorem dX11_goes_30 : decode cX11_goes 30 = .ok (.iastore, 1) := al_X11_goes_0 (30, (.iastore, 1)) (List.mem_of_getElem? (i := 18) rfl)
theorem dX11_goes_31 : decode cX11_goes 31 = .ok (.iinc 2 1, 3) := al_X11_goes_0 (31, (.iinc 2 1, 3)) (List.mem_of_getElem? (i := 19) rfl)
theorem dX11_goes_34 : decode cX11_goes 34 = .ok (.goto (-23), 3) := al_X11_goes_0 (34, (.goto (-23), 3)) (List.mem_of_getElem? (i := 20) rfl)
theorem dX11_goes_37 : decode cX11_goes 37 = .ok (.goto 13, 3) := al_X11_goes_0 (37, (.goto 13, 3)) (List.mem_of_getElem? (i := 21) rfl)
theorem dX11_goes_40 : decode cX11_goes 40 = .ok (.aload_n 0, 1) := al_X11_goes_0 (40, (.aload_n 0, 1)) (List.mem_of_getElem? (i := 22) rfl)
theorem dX11_goes_41 : decode cX11_goes 41 = .ok (.dup, 1) := al_X11_goes_0 (41, (.dup, 1)) (List.mem_of_getElem? (i := 23) rfl)
theorem dX11_goes_42 : decode cX11_goes 42 = .ok (.getfield 90, 3) := al_X11_goes_0 (42, (.getfield 90, 3)) (List.mem_of_getElem? (i := 24) rfl)
theorem dX11_goes_45 : decode cX11_goes 45 = .ok (.iconst 1, 1) := al_X11_goes_0 (45, (.iconst 1, 1)) (List.mem_of_getElem? (i := 25) rfl)
theorem dX11_goes_46 : decode cX11_goes 46 = .ok (.iadd, 1) := al_X11_goes_0 (46, (.iadd, 1)) (List.mem_of_getElem? (i := 26) rfl)
theorem dX11_goes_47 : decode cX11_goes 47 = .ok (.putfield 90, 3) := al_X11_goes_0 (47, (.putfield 90, 3)) (List.mem_of_getElem? (i := 27) rfl)
theorem dX11_goes_50 : decode cX11_goes 50 = .ok (.aload_n 0, 1) := al_X11_goes_0 (50, (.aload_n 0, 1)) (List.mem_of_getElem? (i := 28) rfl)
theorem dX11_goes_51 : decode cX11_goes 51 = .ok (.getfield 23, 3) := al_X11_goes_0 (51, (.getfield 23, 3)) (List.mem_of_getElem? (i := 29) rfl)
theorem dX11_goes_54 : decode cX11_goes 54 = .ok (.iconst 2, 1) := al_X11_goes_0 (54, (.iconst 2, 1)) (List.mem_of_getElem? (i := 30) rfl)
theorem dX11_goes_55 : decode cX11_goes 55 = .ok (.aload_n 0, 1) := al_X11_goes_0 (55, (.aload_n 0, 1)) (List.mem_of_getElem? (i := 31) rfl)
theorem dX11_goes_56 : decode cX11_goes 56 = .ok (.getfield 90, 3) := al_X11_goes_0 (56, (.getfield 90, 3)) (List.mem_of_getElem? (i := 32) rfl)
theorem dX11_goes_59 : decode cX11_goes 59 = .ok (.imul, 1) := al_X11_goes_0 (59, (.imul, 1)) (List.mem_of_getElem? (i := 33) rfl)
theorem dX11_goes_60 : decode cX11_goes 60 = .ok (.iconst 2, 1) := al_X11_goes_0 (60, (.iconst 2, 1)) (List.mem_of_getElem? (i := 34) rfl)
theorem dX11_goes_61 : decode cX11_goes 61 = .ok (.isub, 1) := al_X11_goes_0 (61, (.isub, 1)) (List.mem_of_getElem? (i := 35) rfl)
theorem dX11_goes_62 : decode cX11_goes 62 = .ok (.iload_n 1, 1) := al_X11_goes_0 (62, (.iload_n 1, 1)) (List.mem_of_getElem? (i := 36) rfl)
theorem dX11_goes_63 : decode cX11_goes 63 = .ok (.iastore, 1) := al_X11_goes_0 (63, (.iastore, 1)) (List.mem_of_getElem? (i := 37) rfl)
theorem dX11_goes_64 : decode cX11_goes 64 = .ok (.aload_n 0, 1) := al_X11_goes_0 (64, (.aload_n 0, 1)) (List.mem_of_getElem? (i := 38) rfl)
theorem dX11_goes_65 : decode cX11_goes 65 = .ok (.getfield 23, 3) := al_X11_goes_0 (65, (.getfield 23, 3)) (List.mem_of_getElem? (i := 39) rfl)
theorem dX11_goes_68 : decode cX11_goes 68 = .ok (.iconst 2, 1) := al_X11_goes_0 (68, (.iconst 2, 1)) (List.mem_of_getElem? (i := 40) rfl)
theorem dX11_goes_69 : decode cX11_goes 69 = .ok (.aload_n 0, 1) := al_X11_goes_0 (69, (.aload_n 0, 1)) (List.mem_of_getElem? (i := 41) rfl)
theorem dX11_goes_70 : decode cX11_goes 70 = .ok (.getfield 90, 3) := al_X11_goes_0 (70, (.getfield 90, 3)) (List.mem_of_getElem? (i := 42) rfl)
theorem dX11_goes_73 : decode cX11_goes 73 = .ok (.imul, 1) := al_X11_goes_0 (73, (.imul, 1)) (List.mem_of_getElem? (i := 43) rfl)
theorem dX11_goes_74 : decode cX11_goes 74 = .ok (.iconst 1, 1) := al_X11_goes_0 (74, (.iconst 1, 1)) (List.mem_of_getElem? (i := 44) rfl)
theorem dX11_goes_75 : decode cX11_goes 75 = .ok (.isub, 1) := al_X11_goes_0 (75, (.isub, 1)) (List.mem_of_getElem? (i := 45) rfl)
theorem dX11_goes_76 : decode cX11_goes 76 = .ok (.aload_n 0, 1) := al_X11_goes_0 (76, (.aload_n 0, 1)) (List.mem_of_getElem? (i := 46) rfl)
theorem dX11_goes_77 : decode cX11_goes 77 = .ok (.getfield 13, 3) := al_X11_goes_0 (77, (.getfield 13, 3)) (List.mem_of_getElem? (i := 47) rfl)
theorem dX11_goes_80 : decode cX11_goes 80 = .ok (.bipush 13, 2) := al_X11_goes_0 (80, (.bipush 13, 2)) (List.mem_of_getElem? (i := 48) rfl)
theorem dX11_goes_82 : decode cX11_goes 82 = .ok (.iaload, 1) := al_X11_goes_0 (82, (.iaload, 1)) (List.mem_of_getElem? (i := 49) rfl)
theorem dX11_goes_83 : decode cX11_goes 83 = .ok (.iastore, 1) := al_X11_goes_0 (83, (.iastore, 1)) (List.mem_of_getElem? (i := 50) rfl)
theorem dX11_goes_84 : decode cX11_goes 84 = .ok (.aload_n 0, 1) := al_X11_goes_0 (84, (.aload_n 0, 1)) (List.mem_of_getElem? (i := 51) rfl)
theorem dX11_goes_85 : decode cX11_goes 85 = .ok (.getfield 13, 3) := al_X11_goes_0 (85, (.getfield 13, 3)) (List.mem_of_getElem? (i := 52) rfl)
theorem dX11_goes_88 : decode cX11_goes 88 = .ok (.bipush 10, 2) := al_X11_goes_0 (88, (.bipush 10, 2)) (List.mem_of_getElem? (i := 53) rfl)
theorem dX11_goes_90 : decode cX11_goes 90 = .ok (.dup2, 1) := al_X11_goes_0 (90, (.dup2, 1)) (List.mem_of_getElem? (i := 54) rfl)
theorem dX11_goes_91 : decode cX11_goes 91 = .ok (.iaload, 1) := al_X11_goes_0 (91, (.iaload, 1)) (List.mem_of_getElem? (i := 55) rfl)
theorem dX11_goes_92 : decode cX11_goes 92 = .ok (.iload_n 1, 1) := al_X11_goes_0 (92, (.iload_n 1, 1)) (List.mem_of_getElem? (i := 56) rfl)
theorem dX11_goes_93 : decode cX11_goes 93 = .ok (.invokestatic 325, 3) := al_X11_goes_0 (93, (.invokestatic 325, 3)) (List.mem_of_getElem? (i := 57) rfl)
theorem dX11_goes_96 : decode cX11_goes 96 = .ok (.iadd, 1) := al_X11_goes_0 (96, (.iadd, 1)) (List.mem_of_getElem? (i := 58) rfl)
theorem dX11_goes_97 : decode cX11_goes 97 = .ok (.iastore, 1) := al_X11_goes_0 (97, (.iastore, 1)) (List.mem_of_getElem? (i := 59) rfl)
def in_X11_goes_1 : List (Nat × Instr × Nat) := [(98, (.aload_n 0, 1)), (99, (.getfield 13, 3)), (102, (.bipush 11, 2)), (104, (.dup2, 1)), (105, (.iaload, 1)), (106, (.iload_n 1, 1)), (107, (.invokestatic 328, 3)), (110, (.iadd, 1)), (111, (.iastore, 1)), (112, (.aload_n 0, 1)), (113, (.getfield 13, 3)), (116, (.bipush 12, 2)), (118, (.dup2, 1)), (119, (.iaload, 1)), (120, (.iconst 1, 1)), (121, (.iadd, 1)), (122, (.iastore, 1)), (123, (.aload_n 0, 1)), (124, (.aload_n 0, 1)), (125, (.getfield 13, 3)), (128, (.bipush 7, 2)), (130, (.iaload, 1)), (131, (.aload_n 0, 1)), (132, (.getfield 13, 3)), (135, (.bipush 10, 2)), (137, (.iaload, 1)), (138, (.aload_n 0, 1)), (139, (.getfield 13, 3)), (142, (.bipush 8, 2)), (144, (.iaload, 1)), (145, (.aload_n 0, 1)), (146, (.getfield 13, 3)), (149, (.bipush 11, 2)), (151, (.iaload, 1)), (152, (.invokevirtual 256, 3)), (155, (.istore_n 2, 1)), (156, (.aload_n 0, 1)), (157, (.getfield 13, 3)), (160, (.bipush 13, 2)), (162, (.aload_n 0, 1)), (163, (.getfield 13, 3)), (166, (.bipush 13, 2)), (168, (.iaload, 1)), (169, (.iload_n 2, 1)), (170, (.invokestatic 273, 3)), (173, (.iastore, 1)), (174, (.iload_n 2, 1)), (175, (.ireturn, 1))]
theorem al_X11_goes_1 : ∀ q ∈ in_X11_goes_1, decode cX11_goes q.1 = .ok q.2 := by decide +kernel
theorem dX11_goes_98 : decode cX11_goes 98 = .ok (.aload_n 0, 1) := al_X11_goes_1 (98, (.aload_n 0, 1)) (List.mem_of_getElem? (i := 0) rfl)
theorem dX11_goes_99 : decode cX11_goes 99 = .ok (.getfield 13, 3) := al_X11_goes_1 (99, (.getfield 13, 3)) (List.mem_of_getElem? (i := 1) rfl)
theorem dX11_goes_102 : decode cX11_goes 102 = .ok (.bipush 11, 2) := al_X11_goes_1 (102, (.bipush 11, 2)) (List.mem_of_getElem? (i := 2) rfl)
theorem dX11_goes_104 : decode cX11_goes 104 = .ok (.dup2, 1) := al_X11_goes_1 (104, (.dup2, 1)) (List.mem_of_getElem? (i := 3) rfl)
theorem dX11_goes_105 : decode cX11_goes 105 = .ok (.iaload, 1) := al_X11_goes_1 (105, (.iaload, 1)) (List.mem_of_getElem? (i := 4) rfl)
theorem dX11_goes_106 : decode cX11_goes 106 = .ok (.iload_n 1, 1) := al_X11_goes_1 (106, (.iload_n 1, 1)) (List.mem_of_getElem? (i := 5) rfl)
theorem dX11_goes_107 : decode cX11_goes 107 = .ok (.invokestatic 328, 3) := al_X11_goes_1 (107, (.invokestatic 328, 3)) (List.mem_of_getElem? (i := 6) rfl)
theorem dX11_goes_110 : decode cX11_goes 110 = .ok (.iadd, 1) := al_X11_goes_1 (110, (.iadd, 1)) (List.mem_of_getElem? (i := 7) rfl)
theorem dX11_goes_111 : decode cX11_goes 111 = .ok (.iastore, 1) := al_X11_goes_1 (111, (.iastore, 1)) (List.mem_of_getElem? (i := 8) rfl)
theorem dX11_goes_112 : decode cX11_goes 112 = .ok (.aload_n 0, 1) := al_X11_goes_1 (112, (.aload_n 0, 1)) (List.mem_of_getElem? (i := 9) rfl)
theorem dX11_goes_113 : decode cX11_goes 113 = .ok (.getfield 13, 3) := al_X11_goes_1 (113, (.getfield 13, 3)) (List.mem_of_getElem? (i := 10) rfl)
theorem dX11_goes_116 : decode cX11_goes 116 = .ok (.bipush 12, 2) := al_X11_goes_1 (116, (.bipush 12, 2)) (List.mem_of_getElem? (i := 11) rfl)
theorem dX11_goes_118 : decode cX11_goes 118 = .ok (.dup2, 1) := al_X11_goes_1 (118, (.dup2, 1)) (List.mem_of_getElem? (i := 12) rfl)
theorem dX11_goes_119 : decode cX11_goes 119 = .ok (.iaload, 1) := al_X11_goes_1 (119, (.iaload, 1)) (List.mem_of_getElem? (i := 13) rfl)
theorem dX11_goes_120 : decode cX11_goes 120 = .ok (.iconst 1, 1) := al_X11_goes_1 (120, (.iconst 1, 1)) (List.mem_of_getElem? (i := 14) rfl)
theorem dX11_goes_121 : decode cX11_goes 121 = .ok (.iadd, 1) := al_X11_goes_1 (121, (.iadd, 1)) (List.mem_of_getElem? (i := 15) rfl)
theorem dX11_goes_122 : decode cX11_goes 122 = .ok (.iastore, 1) := al_X11_goes_1 (122, (.iastore, 1)) (List.mem_of_getElem? (i := 16) rfl)
theorem dX11_goes_123 : decode cX11_goes 123 = .ok (.aload_n 0, 1) := al_X11_goes_1 (123, (.aload_n 0, 1)) (List.mem_of_getElem? (i := 17) rfl)
theorem dX11_goes_124 : decode cX11_goes 124 = .ok (.aload_n 0, 1) := al_X11_goes_1 (124, (.aload_n 0, 1)) (List.mem_of_getElem? (i := 18) rfl)
theorem dX11_goes_125 : decode cX11_goes 125 = .ok (.getfield 13, 3) := al_X11_goes_1 (125, (.getfield 13, 3)) (List.mem_of_getElem? (i := 19) rfl)
theorem dX11_goes_128 : decode cX11_goes 128 = .ok (.bipush 7, 2) := al_X11_goes_1 (128, (.bipush 7, 2)) (List.mem_of_getElem? (i := 20) rfl)
theorem dX11_goes_130 : decode cX11_goes 130 = .ok (.iaload, 1) := al_X11_goes_1 (130, (.iaload, 1)) (List.mem_of_getElem? (i := 21) rfl)
theorem dX11_goes_131 : decode cX11_goes 131 = .ok (.aload_n 0, 1) := al_X11_goes_1 (131, (.aload_n 0, 1)) (List.mem_of_getElem? (i := 22) rfl)
theorem dX11_goes_132 : decode cX11_goes 132 = .ok (.getfield 13, 3) := al_X11_goes_1 (132, (.getfield 13, 3)) (List.mem_of_getElem? (i := 23) rfl)
theorem dX11_goes_135 : decode cX11_goes 135 = .ok (.bipush 10, 2) := al_X11_goes_1 (135, (.bipush 10, 2)) (List.mem_of_getElem? (i := 24) rfl)
theorem dX11_goes_137 : decode cX11_goes 137 = .ok (.iaload, 1) := al_X11_goes_1 (137, (.iaload, 1)) (List.mem_of_getElem? (i := 25) rfl)
theorem dX11_goes_138 : decode cX11_goes 138 = .ok (.aload_n 0, 1) := al_X11_goes_1 (138, (.aload_n 0, 1)) (List.mem_of_getElem? (i := 26) rfl)
theorem dX11_goes_139 : decode cX11_goes 139 = .ok (.getfield 13, 3) := al_X11_goes_1 (139, (.getfield 13, 3)) (List.mem_of_getElem? (i := 27) rfl)
theorem dX11_goes_142 : decode cX11_goes 142 = .ok (.bipush 8, 2) := al_X11_goes_1 (142, (.bipush 8, 2)) (List.mem_of_getElem? (i := 28) rfl)
theorem dX11_goes_144 : decode cX11_goes 144 = .ok (.iaload, 1) := al_X11_goes_1 (144, (.iaload, 1)) (List.mem_of_getElem? (i := 29) rfl)
theorem dX11_goes_145 : decode cX11_goes 145 = .ok (.aload_n 0, 1) := al_X11_goes_1 (145, (.aload_n 0, 1)) (List.mem_of_getElem? (i := 30) rfl)
theorem dX11_goes_146 : decode cX11_goes 146 = .ok (.getfield 13, 3) := al_X11_goes_1 (146, (.getfield 13, 3)) (List.mem_of_getElem? (i := 31) rfl)
theorem dX11_goes_149 : decode cX11_goes 149 = .ok (.bipush 11, 2) := al_X11_goes_1 (149, (.bipush 11, 2)) (List.mem_of_getElem? (i := 32) rfl)
theorem dX11_goes_151 : decode cX11_goes 151 = .ok (.iaload, 1) := al_X11_goes_1 (151, (.iaload, 1)) (List.mem_of_getElem? (i := 33) rfl)
theorem dX11_goes_152 : decode cX11_goes 152 = .ok (.invokevirtual 256, 3) := al_X11_goes_1 (152, (.invokevirtual 256, 3)) (List.mem_of_getElem? (i := 34) rfl)
theorem dX11_goes_155 : decode cX11_goes 155 = .ok (.istore_n 2, 1) := al_X11_goes_1 (155, (.istore_n 2, 1)) (List.mem_of_getElem? (i := 35) rfl)
theorem dX11_goes_156 : decode cX11_goes 156 = .ok (.aload_n 0, 1) := al_X11_goes_1 (156, (.aload_n 0, 1)) (List.mem_of_getElem? (i := 36) rfl)
theorem dX11_goes_157 : decode cX11_goes 157 = .ok (.getfield 13, 3) := al_X11_goes_1 (157, (.getfield 13, 3)) (List.mem_of_getElem? (i := 37) rfl)
theorem dX11_goes_160 : decode cX11_goes 160 = .ok (.bipush 13, 2) := al_X11_goes_1 (160, (.bipush 13, 2)) (List.mem_of_getElem? (i := 38) rfl)
theorem dX11_goes_162 : decode cX11_goes 162 = .ok (.aload_n 0, 1) := al_X11_goes_1 (162, (.aload_n 0, 1)) (List.mem_of_getElem? (i := 39) rfl)
theorem dX11_goes_163 : decode cX11_goes 163 = .ok (.getfield 13, 3) := al_X11_goes_1 (163, (.getfield 13, 3)) (List.mem_of_getElem? (i := 40) rfl)
theorem dX11_goes_166 : decode cX11_goes 166 = .ok (.bipush 13, 2) := al_X11_goes_1 (166, (.bipush 13, 2)) (List.mem_of_getElem? (i := 41) rfl)
theorem dX11_goes_168 : decode cX11_goes 168 = .ok (.iaload, 1) := al_X11_goes_1 (168, (.iaload, 1)) (List.mem_of_getElem? (i := 42) rfl)
theorem dX11_goes_169 : decode cX11_goes 169 = .ok (.iload_n 2, 1) := al_X11_goes_1 (169, (.iload_n 2, 1)) (List.mem_of_getElem? (i := 43) rfl)
theorem dX11_goes_170 : decode cX11_goes 170 = .ok (.invokestatic 273, 3) := al_X11_goes_1 (170, (.invokestatic 273, 3)) (List.mem_of_getElem? (i := 44) rfl)
theorem dX11_goes_173 : decode cX11_goes 173 = .ok (.iastore, 1) := al_X11_goes_1 (173, (.iastore, 1)) (List.mem_of_getElem? (i := 45) rfl)
theorem dX11_goes_174 : decode cX11_goes 174 = .ok (.iload_n 2, 1) := al_X11_goes_1 (174, (.iload_n 2, 1)) (List.mem_of_getElem? (i := 46) rfl)
theorem dX11_goes_175 : decode cX11_goes 175 = .ok (.ireturn, 1) := al_X11_goes_1 (175, (.ireturn, 1)) (List.mem_of_getElem? (i := 47) rfl)
def in_X11_step_0 : List (Nat × Instr × Nat) := [(0, (.aload_n 0, 1)), (1, (.iconst 0, 1)), (2, (.putfield 3, 3)), (5, (.aload_n 0, 1)), (6, (.iload_n 1, 1)), (7, (.iconst 1, 1)), (8, (.iconst 3, 1)), (9, (.invokestatic 97, 3)), (12, (.ifCond .ne 7, 3)), (15, (.iconst 1, 1)), (16, (.goto 4, 3)), (19, (.iconst 0, 1)), (20, (.iconst 1, 1)), (21, (.invokevirtual 240, 3)), (24, (.ifCond .eq 5, 3)), (27, (.iconst 0, 1)), (28, (.ireturn, 1)), (29, (.aload_n 0, 1)), (30, (.iload_n 1, 1)), (31, (.invokevirtual 392, 3)), (34, (.ifCond .eq 11, 3)), (37, (.aload_n 0, 1)), (38, (.iload_n 1, 1)), (39, (.invokevirtual 395, 3)), (42, (.goto 4, 3)), (45, (.iconst (-1), 1)), (46, (.ireturn, 1))]
theorem al_X11_step_0 : ∀ q ∈ in_X11_step_0, decode cX11_step q.1 = .ok q.2 := by decide +kernel
theorem dX11_step_0 : decode cX11_step 0 = .ok (.aload_n 0, 1) := al_X11_step_0 (0, (.aload_n 0, 1)) (List.mem_of_getElem? (i := 0) rfl)
theorem dX11_step_1 : decode cX11_step 1 = .ok (.iconst 0, 1) := al_X11_step_0 (1, (.iconst 0, 1)) (List.mem_of_getElem? (i := 1) rfl)
theorem dX11_step_2 : decode cX11_step 2 = .ok (.putfield 3, 3) := al_X11_step_0 (2, (.putfield 3, 3)) (List.mem_of_getElem? (i := 2) rfl)
theorem dX11_step_5 : decode cX11_step 5 = .ok (.aload_n 0, 1) := al_X11_step_0 (5, (.aload_n 0, 1)) (List.mem_of_getElem? (i := 3) rfl)
theorem dX11_step_6 : decode cX11_step 6 = .ok (.iload_n 1, 1) := al_X11_step_0 (6, (.iload_n 1, 1)) (List.mem_of_getElem? (i := 4) rfl)
theorem dX11_step_7 : decode cX11_step 7 = .ok (.iconst 1, 1) := al_X11_step_0 (7, (.iconst 1, 1)) (List.mem_of_getElem? (i := 5) rfl)
theorem dX11_step_8 : decode cX11_step 8 = .ok (.iconst 3, 1) := al_X11_step_0 (8, (.iconst 3, 1)) (List.mem_of_getElem? (i := 6) rfl)
theorem dX11_step_9 : decode cX11_step 9 = .ok (.invokestatic 97, 3) := al_X11_step_0 (9, (.invokestatic 97, 3)) (List.mem_of_getElem? (i := 7) rfl)
theorem dX11_step_12 : decode cX11_step 12 = .ok (.ifCond .ne 7, 3) := al_X11_step_0 (12, (.ifCond .ne 7, 3)) (List.mem_of_getElem? (i := 8) rfl)
theorem dX11_step_15 : decode cX11_step 15 = .ok (.iconst 1, 1) := al_X11_step_0 (15, (.iconst 1, 1)) (List.mem_of_getElem? (i := 9) rfl)
theorem dX11_step_16 : decode cX11_step 16 = .ok (.goto 4, 3) := al_X11_step_0 (16, (.goto 4, 3)) (List.mem_of_getElem? (i := 10) rfl)
theorem dX11_step_19 : decode cX11_step 19 = .ok (.iconst 0, 1) := al_X11_step_0 (19, (.iconst 0, 1)) (List.mem_of_getElem? (i := 11) rfl)
theorem dX11_step_20 : decode cX11_step 20 = .ok (.iconst 1, 1) := al_X11_step_0 (20, (.iconst 1, 1)) (List.mem_of_getElem? (i := 12) rfl)
theorem dX11_step_21 : decode cX11_step 21 = .ok (.invokevirtual 240, 3) := al_X11_step_0 (21, (.invokevirtual 240, 3)) (List.mem_of_getElem? (i := 13) rfl)
theorem dX11_step_24 : decode cX11_step 24 = .ok (.ifCond .eq 5, 3) := al_X11_step_0 (24, (.ifCond .eq 5, 3)) (List.mem_of_getElem? (i := 14) rfl)
theorem dX11_step_27 : decode cX11_step 27 = .ok (.iconst 0, 1) := al_X11_step_0 (27, (.iconst 0, 1)) (List.mem_of_getElem? (i := 15) rfl)
theorem dX11_step_28 : decode cX11_step 28 = .ok (.ireturn, 1) := al_X11_step_0 (28, (.ireturn, 1)) (List.mem_of_getElem? (i := 16) rfl)
theorem dX11_step_29 : decode cX11_step 29 = .ok (.aload_n 0, 1) := al_X11_step_0 (29, (.aload_n 0, 1)) (List.mem_of_getElem? (i := 17) rfl)
theorem dX11_step_30 : decode cX11_step 30 = .ok (.iload_n 1, 1) := al_X11_step_0 (30, (.iload_n 1, 1)) (List.mem_of_getElem? (i := 18) rfl)
theorem dX11_step_31 : decode cX11_step 31 = .ok (.invokevirtual 392, 3) := al_X11_step_0 (31, (.invokevirtual 392, 3)) (List.mem_of_getElem? (i := 19) rfl)
theorem dX11_step_34 : decode cX11_step 34 = .ok (.ifCond .eq 11, 3) := al_X11_step_0 (34, (.ifCond .eq 11, 3)) (List.mem_of_getElem? (i := 20) rfl)
theorem dX11_step_37 : decode cX11_step 37 = .ok (.aload_n 0, 1) := al_X11_step_0 (37, (.aload_n 0, 1)) (List.mem_of_getElem? (i := 21) rfl)
theorem dX11_step_38 : decode cX11_step 38 = .ok (.iload_n 1, 1) := al_X11_step_0 (38, (.iload_n 1, 1)) (List.mem_of_getElem? (i := 22) rfl)
theorem dX11_step_39 : decode cX11_step 39 = .ok (.invokevirtual 395, 3) := al_X11_step_0 (39, (.invokevirtual 395, 3)) (List.mem_of_getElem? (i := 23) rfl)
theorem dX11_step_42 : decode cX11_step 42 = .ok (.goto 4, 3) := al_X11_step_0 (42, (.goto 4, 3)) (List.mem_of_getElem? (i := 24) rfl)
theorem dX11_step_45 : decode cX11_step 45 = .ok (.iconst (-1), 1) := al_X11_step_0 (45, (.iconst (-1), 1)) (List.mem_of_getElem? (i := 25) rfl)
theorem dX11_step_46 : decode cX11_step 46 = .ok (.ireturn, 1) := al_X11_step_0 (46, (.ireturn, 1)) (List.mem_of_getElem? (i := 26) rfl)
def in_X11_undo_0 : List (Nat × Instr × Nat) := [(0, (.aload_n 0, 1)), (1, (.iconst 0, 1)), (2, (.putfield 3, 3)), (5, (.aload_n 0, 1)), (6, (.getfield 90, 3)), (9, (.ifCond .ne 5, 3)), (12, (.iconst (-1), 1)), (13, (.ireturn, 1)), (14, (.aload_n 0, 1)), (15, (.dup, 1)), (16, (.getfield 90, 3)), (19, (.iconst 1, 1)), (20, (.isub, 1)), (21, (.putfield 90, 3)), (24, (.aload_n 0, 1)), (25, (.getfield 23, 3)), (28, (.iconst 2, 1)), (29, (.aload_n 0, 1)), (30, (.getfield 90, 3)), (33, (.imul, 1)), (34, (.iaload, 1)), (35, (.istore_n 1, 1)), (36, (.aload_n 0, 1)), (37, (.getfield 13, 3)), (40, (.bipush 13, 2)), (42, (.aload_n 0, 1)), (43, (.getfield 23, 3)), (46, (.iconst 2, 1)), (47, (.aload_n 0, 1)), (48, (.getfield 90, 3)), (51, (.imul, 1)), (52, (.iconst 1, 1)), (53, (.iadd, 1)), (54, (.iaload, 1)), (55, (.iastore, 1)), (56, (.aload_n 0, 1)), (57, (.getfield 13, 3)), (60, (.bipush 10, 2)), (62, (.dup2, 1)), (63, (.iaload, 1)), (64, (.iload_n 1, 1)), (65, (.invokestatic 325, 3)), (68, (.isub, 1)), (69, (.iastore, 1)), (70, (.aload_n 0, 1)), (71, (.getfield 13, 3)), (74, (.bipush 11, 2)), (76, (.dup2, 1)), (77, (.iaload, 1)), (78, (.iload_n 1, 1)), (79, (.invokestatic 328, 3)), (82, (.isub, 1)), (83, (.iastore, 1)), (84, (.aload_n 0, 1)), (85, (.getfield 13, 3)), (88, (.bipush 12, 2)), (90, (.dup2, 1)), (91, (.iaload, 1)), (92, (.iconst 1, 1)), (93, (.isub, 1))]
theorem al_X11_undo_0 : ∀ q ∈ in_X11_undo_0, decode cX11_undo q.1 = .ok q.2 := by decide +kernel
theorem dX11_undo_0 : decode cX11_undo 0 = .ok (.aload_n 0, 1) := al_X11_undo_0 (0, (.aload_n 0, 1)) (List.mem_of_getElem? (i := 0) rfl)
theorem dX11_undo_1 : decode cX11_undo 1 = .ok (.iconst 0, 1) := al_X11_undo_0 (1, (.iconst 0, 1)) (List.mem_of_getElem? (i := 1) rfl)
theorem dX11_undo_2 : decode cX11_undo 2 = .ok (.putfield 3, 3) := al_X11_undo_0 (2, (.putfield 3, 3)) (List.mem_of_getElem? (i := 2) rfl)
theorem dX11_undo_5 : decode cX11_undo 5 = .ok (.aload_n 0, 1) := al_X11_undo_0 (5, (.aload_n 0, 1)) (List.mem_of_getElem? (i := 3) rfl)
theorem dX11_undo_6 : decode cX11_undo 6 = .ok (.getfield 90, 3) := al_X11_undo_0 (6, (.getfield 90, 3)) (List.mem_of_getElem? (i := 4) rfl)
theorem dX11_undo_9 : decode cX11_undo 9 = .ok (.ifCond .ne 5, 3) := al_X11_undo_0 (9, (.ifCond .ne 5, 3)) (List.mem_of_getElem? (i := 5) rfl)
theorem dX11_undo_12 : decode cX11_undo 12 = .ok (.iconst (-1), 1) := al_X11_undo_0 (12, (.iconst (-1), 1)) (List.mem_of_getElem? (i := 6) rfl)
theorem dX11_undo_13 : decode cX11_undo 13 = .ok (.ireturn, 1) := al_X11_undo_0 (13, (.ireturn, 1)) (List.mem_of_getElem? (i := 7) rfl)
theorem dX11_undo_14 : decode cX11_undo 14 = .ok (.aload_n 0, 1) := al_X11_undo_0 (14, (.aload_n 0, 1)) (List.mem_of_getElem? (i := 8) rfl)
theorem dX11_undo_15 : decode cX11_undo 15 = .ok (.dup, 1) := al_X11_undo_0 (15, (.dup, 1)) (List.mem_of_getElem? (i := 9) rfl)
theorem dX11_undo_16 : decode cX11_undo 16 = .ok (.getfield 90, 3) := al_X11_undo_0 (16, (.getfield 90, 3)) (List.mem_of_getElem? (i := 10) rfl)
theorem dX11_undo_19 : decode cX11_undo 19 = .ok (.iconst 1, 1) := al_X11_undo_0 (19, (.iconst 1, 1)) (List.mem_of_getElem? (i := 11) rfl)
theorem dX11_undo_20 : decode cX11_undo 20 = .ok (.isub, 1) := al_X11_undo_0 (20, (.isub, 1)) (List.mem_of_getElem? (i := 12) rfl)
theorem dX11_undo_21 : decode cX11_undo 21 = .ok (.putfield 90, 3) := al_X11_undo_0 (21, (.putfield 90, 3)) (List.mem_of_getElem? (i := 13) rfl)
theorem dX11_undo_24 : decode cX11_undo 24 = .ok (.aload_n 0, 1) := al_X11_undo_0 (24, (.aload_n 0, 1)) (List.mem_of_getElem? (i := 14) rfl)
theorem dX11_undo_25 : decode cX11_undo 25 = .ok (.getfield 23, 3) := al_X11_undo_0 (25, (.getfield 23, 3)) (List.mem_of_getElem? (i := 15) rfl)
theorem dX11_undo_28 : decode cX11_undo 28 = .ok (.iconst 2, 1) := al_X11_undo_0 (28, (.iconst 2, 1)) (List.mem_of_getElem? (i := 16) rfl)
theorem dX11_undo_29 : decode cX11_undo 29 = .ok (.aload_n 0, 1) := al_X11_undo_0 (29, (.aload_n 0, 1)) (List.mem_of_getElem? (i := 17) rfl)
theorem dX11_undo_30 : decode cX11_undo 30 = .ok (.getfield 90, 3) := al_X11_undo_0 (30, (.getfield 90, 3)) (List.mem_of_getElem? (i := 18) rfl)
theorem dX11_undo_33 : decode cX11_undo 33 = .ok (.imul, 1) := al_X11_undo_0 (33, (.imul, 1)) (List.mem_of_getElem? (i := 19) rfl)
theorem dX11_undo_34 : decode cX11_undo 34 = .ok (.iaload, 1) := al_X11_undo_0 (34, (.iaload, 1)) (List.mem_of_getElem? (i := 20) rfl)
theorem dX11_undo_35 : decode cX11_undo 35 = .ok (.istore_n 1, 1) := al_X11_undo_0 (35, (.istore_n 1, 1)) (List.mem_of_getElem? (i := 21) rfl)
theorem dX11_undo_36 : decode cX11_undo 36 = .ok (.aload_n 0, 1) := al_X11_undo_0 (36, (.aload_n 0, 1)) (List.mem_of_getElem? (i := 22) rfl)
theorem dX11_undo_37 : decode cX11_undo 37 = .ok (.getfield 13, 3) := al_X11_undo_0 (37, (.getfield 13, 3)) (List.mem_of_getElem? (i := 23) rfl)
theorem dX11_undo_40 : decode cX11_undo 40 = .ok (.bipush 13, 2) := al_X11_undo_0 (40, (.bipush 13, 2)) (List.mem_of_getElem? (i := 24) rfl)
theorem dX11_undo_42 : decode cX11_undo 42 = .ok (.aload_n 0, 1) := al_X11_undo_0 (42, (.aload_n 0, 1)) (List.mem_of_getElem? (i := 25) rfl)
theorem dX11_undo_43 : decode cX11_undo 43 = .ok (.getfield 23, 3) := al_X11_undo_0 (43, (.getfield 23, 3)) (List.mem_of_getElem? (i := 26) rfl)
theorem dX11_undo_46 : decode cX11_undo 46 = .ok (.iconst 2, 1) := al_X11_undo_0 (46, (.iconst 2, 1)) (List.mem_of_getElem? (i := 27) rfl)
theorem dX11_undo_47 : decode cX11_undo 47 = .ok (.aload_n 0, 1) := al_X11_undo_0 (47, (.aload_n 0, 1)) (List.mem_of_getElem? (i := 28) rfl)
theorem dX11_undo_48 : decode cX11_undo 48 = .ok (.getfield 90, 3) := al_X11_undo_0 (48, (.getfield 90, 3)) (List.mem_of_getElem? (i := 29) rfl)
theorem dX11_undo_51 : decode cX11_undo 51 = .ok (.imul, 1) := al_X11_undo_0 (51, (.imul, 1)) (List.mem_of_getElem? (i := 30) rfl)
theorem dX11_undo_52 : decode cX11_undo 52 = .ok (.iconst 1, 1) := al_X11_undo_0 (52, (.iconst 1, 1)) (List.mem_of_getElem? (i := 31) rfl)
theorem dX11_undo_53 : decode cX11_undo 53 = .ok (.iadd, 1) := al_X11_undo_0 (53, (.iadd, 1)) (List.mem_of_getElem? (i := 32) rfl)
theorem dX11_undo_54 : decode cX11_undo 54 = .ok (.iaload, 1) := al_X11_undo_0 (54, (.iaload, 1)) (List.mem_of_getElem? (i := 33) rfl)
theorem dX11_undo_55 : decode cX11_undo 55 = .ok (.iastore, 1) := al_X11_undo_0 (55, (.iastore, 1)) (List.mem_of_getElem? (i := 34) rfl)
theorem dX11_undo_56 : decode cX11_undo 56 = .ok (.aload_n 0, 1) := al_X11_undo_0 (56, (.aload_n 0, 1)) (List.mem_of_getElem? (i := 35) rfl)
theorem dX11_undo_57 : decode cX11_undo 57 = .ok (.getfield 13, 3) := al_X11_undo_0 (57, (.getfield 13, 3)) (List.mem_of_getElem? (i := 36) rfl)
theorem dX11_undo_60 : decode cX11_undo 60 = .ok (.bipush 10, 2) := al_X11_undo_0 (60, (.bipush 10, 2)) (List.mem_of_getElem? (i := 37) rfl)
theorem dX11_undo_62 : decode cX11_undo 62 = .ok (.dup2, 1) := al_X11_undo_0 (62, (.dup2, 1)) (List.mem_of_getElem? (i := 38) rfl)
theorem dX11_undo_63 : decode cX11_undo 63 = .ok (.iaload, 1) := al_X11_undo_0 (63, (.iaload, 1)) (List.mem_of_getElem? (i := 39) rfl)
theorem dX11_undo_64 : decode cX11_undo 64 = .ok (.iload_n 1, 1) := al_X11_undo_0 (64, (.iload_n 1, 1)) (List.mem_of_getElem? (i := 40) rfl)
theorem dX11_undo_65 : decode cX11_undo 65 = .ok (.invokestatic 325, 3) := al_X11_undo_0 (65, (.invokestatic 325, 3)) (List.mem_of_getElem? (i := 41) rfl)
theorem dX11_undo_68 : decode cX11_undo 68 = .ok (.isub, 1) := al_X11_undo_0 (68, (.isub, 1)) (List.mem_of_getElem? (i := 42) rfl)
theorem dX11_undo_69 : decode cX11_undo 69 = .ok (.iastore, 1) := al_X11_undo_0 (69, (.iastore, 1)) (List.mem_of_getElem? (i := 43) rfl)
theorem dX11_undo_70 : decode cX11_undo 70 = .ok (.aload_n 0, 1) := al_X11_undo_0 (70, (.aload_n 0, 1)) (List.mem_of_getElem? (i := 44) rfl)
theorem dX11_undo_71 : decode cX11_undo 71 = .ok (.getfield 13, 3) := al_X11_undo_0 (71, (.getfield 13, 3)) (List.mem_of_getElem? (i := 45) rfl)
theorem dX11_undo_74 : decode cX11_undo 74 = .ok (.bipush 11, 2) := al_X11_undo_0 (74, (.bipush 11, 2)) (List.mem_of_getElem? (i := 46) rfl)
theorem dX11_undo_76 : decode cX11_undo 76 = .ok (.dup2, 1) := al_X11_undo_0 (76, (.dup2, 1)) (List.mem_of_getElem? (i := 47) rfl)
theorem dX11_undo_77 : decode cX11_undo 77 = .ok (.iaload, 1) := al_X11_undo_0 (77, (.iaload, 1)) (List.mem_of_getElem? (i := 48) rfl)
theorem dX11_undo_78 : decode cX11_undo 78 = .ok (.iload_n 1, 1) := al_X11_undo_0 (78, (.iload_n 1, 1)) (List.mem_of_getElem? (i := 49) rfl)
theorem dX11_undo_79 : decode cX11_undo 79 = .ok (.invokestatic 328, 3) := al_X11_undo_0 (79, (.invokestatic 328, 3)) (List.mem_of_getElem? (i := 50) rfl)
theorem dX11_undo_82 : decode cX11_undo 82 = .ok (.isub, 1) := al_X11_undo_0 (82, (.isub, 1)) (List.mem_of_getElem? (i := 51) rfl)
theorem dX11_undo_83 : decode cX11_undo 83 = .ok (.iastore, 1) := al_X11_undo_0 (83, (.iastore, 1)) (List.mem_of_getElem? (i := 52) rfl)
theorem dX11_undo_84 : decode cX11_undo 84 = .ok (.aload_n 0, 1) := al_X11_undo_0 (84, (.aload_n 0, 1)) (List.mem_of_getElem? (i := 53) rfl)
theorem dX11_undo_85 : decode cX11_undo 85 = .ok (.getfield 13, 3) := al_X11_undo_0 (85, (.getfield 13, 3)) (List.mem_of_getElem? (i := 54) rfl)
theorem dX11_undo_88 : decode cX11_undo 88 = .ok (.bipush 12, 2) := al_X11_undo_0 (88, (.bipush 12, 2)) (List.mem_of_getElem? (i := 55) rfl)
theorem dX11_undo_90 : decode cX11_undo 90 = .ok (.dup2, 1) := al_X11_undo_0 (90, (.dup2, 1)) (List.mem_of_getElem? (i := 56) rfl)
theorem dX11_undo_91 : decode cX11_undo 91 = .ok (.iaload, 1) := al_X11_undo_0 (91, (.iaload, 1)) (List.mem_of_getElem? (i := 57) rfl)
theorem dX11_undo_92 : decode cX11_undo 92 = .ok (.iconst 1, 1) := al_X11_undo_0 (92, (.iconst 1, 1)) (List.mem_of_getElem? (i := 58) rfl)
theorem dX11_undo_93 : decode cX11_undo 93 = .ok (.isub, 1) := al_X11_undo_0 (93, (.isub, 1)) (List.mem_of_getElem? (i := 59) rfl)
def in_X11_undo_1 : List (Nat × Instr × Nat) := [(94, (.iastore, 1)), (95, (.iload_n 1, 1)), (96, (.ireturn, 1))]
theorem al_X11_undo_1 : ∀ q ∈ in_X11_undo_1, decode cX11_undo q.1 = .ok q.2 := by decide +kernel
theorem dX11_undo_94 : decode cX11_undo 94 = .ok (.iastore, 1) := al_X11_undo_1 (94, (.iastore, 1)) (List.mem_of_getElem? (i := 0) rfl)
theorem dX11_undo_95 : decode cX11_undo 95 = .ok (.iload_n 1, 1) := al_X11_undo_1 (95, (.iload_n 1, 1)) (List.mem_of_getElem? (i := 1) rfl)
theorem dX11_undo_96 : decode cX11_undo 96 = .ok (.ireturn, 1) := al_X11_undo_1 (96, (.ireturn, 1)) (List.mem_of_getElem? (i := 2) rfl)
def in_X11_live_0 : List (Nat × Instr × Nat) := [(0, (.aload_n 0, 1)), (1, (.iconst 0, 1)), (2, (.putfield 3, 3)), (5, (.aload_n 0, 1)), (6, (.iload_n 1, 1)), (7, (.iconst 1, 1)), (8, (.bipush 60, 2)), (10, (.invokestatic 97, 3)), (13, (.ifCond .ne 7, 3)), (16, (.iconst 1, 1)), (17, (.goto 4, 3)), (20, (.iconst 0, 1)), (21, (.iconst 1, 1)), (22, (.invokevirtual 240, 3)), (25, (.ifCond .eq 5, 3)), (28, (.iconst 0, 1)), (29, (.ireturn, 1)), (30, (.iconst 0, 1)), (31, (.istore_n 2, 1)), (32, (.iload_n 2, 1)), (33, (.iload_n 1, 1)), (34, (.if_icmp .ge 135, 3)), (37, (.iconst 0, 1)), (38, (.istore_n 3, 1)), (39, (.iconst 1, 1)), (40, (.istore 4, 2)), (42, (.iload 4, 2)), (44, (.iconst 4, 1)), (45, (.if_icmp .ge 26, 3)), (48, (.iload_n 3, 1)), (49, (.aload_n 0, 1)), (50, (.iload 4, 2)), (52, (.invokevirtual 392, 3)), (55, (.ifCond .eq 7, 3)), (58, (.iconst 1, 1)), (59, (.goto 4, 3)), (62, (.iconst 0, 1)), (63, (.iadd, 1)), (64, (.istore_n 3, 1)), (65, (.iinc 4 1, 3)), (68, (.goto (-26), 3)), (71, (.iload_n 3, 1)), (72, (.ifCond .ne 5, 3)), (75, (.iload_n 2, 1)), (76, (.ireturn, 1)), (77, (.aload_n 0, 1)), (78, (.getfield 13, 3)), (81, (.iconst 5, 1)), (82, (.ldc_w 398, 3)), (85, (.aload_n 0, 1)), (86, (.getfield 13, 3)), (89, (.iconst 5, 1)), (90, (.iaload, 1)), (91, (.imul, 1)), (92, (.sipush 12345, 3)), (95, (.iadd, 1)), (96, (.iastore, 1)), (97, (.aload_n 0, 1)), (98, (.getfield 13, 3)), (101, (.iconst 5, 1))]
theorem al_X11_live_0 : ∀ q ∈ in_X11_live_0, decode cX11_live q.1 = .ok q.2 := by decide +kernel
theorem dX11_live_0 : decode cX11_live 0 = .ok (.aload_n 0, 1) := al_X11_live_0 (0, (.aload_n 0, 1)) (List.mem_of_getElem? (i := 0) rfl)
theorem dX11_live_1 : decode cX11_live 1 = .ok (.iconst 0, 1) := al_X11_live_0 (1, (.iconst 0, 1)) (List.mem_of_getElem? (i := 1) rfl)
theorem dX11_live_2 : decode cX11_live 2 = .ok (.putfield 3, 3) := al_X11_live_0 (2, (.putfield 3, 3)) (List.mem_of_getElem? (i := 2) rfl)
theorem dX11_live_5 : decode cX11_live 5 = .ok (.aload_n 0, 1) := al_X11_live_0 (5, (.aload_n 0, 1)) (List.mem_of_getElem? (i := 3) rfl)
theorem dX11_live_6 : decode cX11_live 6 = .ok (.iload_n 1, 1) := al_X11_live_0 (6, (.iload_n 1, 1)) (List.mem_of_getElem? (i := 4) rfl)
theorem dX11_live_7 : decode cX11_live 7 = .ok (.iconst 1, 1) := al_X11_live_0 (7, (.iconst 1, 1)) (List.mem_of_getElem? (i := 5) rfl)
theorem dX11_live_8 : decode cX11_live 8 = .ok (.bipush 60, 2) := al_X11_live_0 (8, (.bipush 60, 2)) (List.mem_of_getElem? (i := 6) rfl)
theorem dX11_live_10 : decode cX11_live 10 = .ok (.invokestatic 97, 3) := al_X11_live_0 (10, (.invokestatic 97, 3)) (List.mem_of_getElem? (i := 7) rfl)
theorem dX11_live_13 : decode cX11_live 13 = .ok (.ifCond .ne 7, 3) := al_X11_live_0 (13, (.ifCond .ne 7, 3)) (List.mem_of_getElem? (i := 8) rfl)
theorem dX11_live_16 : decode cX11_live 16 = .ok (.iconst 1, 1) := al_X11_live_0 (16, (.iconst 1, 1)) (List.mem_of_getElem? (i := 9) rfl)
theorem dX11_live_17 : decode cX11_live 17 = .ok (.goto 4, 3) := al_X11_live_0 (17, (.goto 4, 3)) (List.mem_of_getElem? (i := 10) rfl)
theorem dX11_live_20 : decode cX11_live 20 = .ok (.iconst 0, 1) := al_X11_live_0 (20, (.iconst 0, 1)) (List.mem_of_getElem? (i := 11) rfl)
theorem dX11_live_21 : decode cX11_live 21 = .ok (.iconst 1, 1) := al_X11_live_0 (21, (.iconst 1, 1)) (List.mem_of_getElem? (i := 12) rfl)
theorem dX11_live_22 : decode cX11_live 22 = .ok (.invokevirtual 240, 3) := al_X11_live_0 (22, (.invokevirtual 240, 3)) (List.mem_of_getElem? (i := 13) rfl)
theorem dX11_live_25 : decode cX11_live 25 = .ok (.ifCond .eq 5, 3) := al_X11_live_0 (25, (.ifCond .eq 5, 3)) (List.mem_of_getElem? (i := 14) rfl)
theorem dX11_live_28 : decode cX11_live 28 = .ok (.iconst 0, 1) := al_X11_live_0 (28, (.iconst 0, 1)) (List.mem_of_getElem? (i := 15) rfl)
theorem dX11_live_29 : decode cX11_live 29 = .ok (.ireturn, 1) := al_X11_live_0 (29, (.ireturn, 1)) (List.mem_of_getElem? (i := 16) rfl)
theorem dX11_live_30 : decode cX11_live 30 = .ok (.iconst 0, 1) := al_X11_live_0 (30, (.iconst 0, 1)) (List.mem_of_getElem? (i := 17) rfl)
theorem dX11_live_31 : decode cX11_live 31 = .ok (.istore_n 2, 1) := al_X11_live_0 (31, (.istore_n 2, 1)) (List.mem_of_getElem? (i := 18) rfl)
theorem dX11_live_32 : decode cX11_live 32 = .ok (.iload_n 2, 1) := al_X11_live_0 (32, (.iload_n 2, 1)) (List.mem_of_getElem? (i := 19) rfl)
theorem dX11_live_33 : decode cX11_live 33 = .ok (.iload_n 1, 1) := al_X11_live_0 (33, (.iload_n 1, 1)) (List.mem_of_getElem? (i := 20) rfl)
theorem dX11_live_34 : decode cX11_live 34 = .ok (.if_icmp .ge 135, 3) := al_X11_live_0 (34, (.if_icmp .ge 135, 3)) (List.mem_of_getElem? (i := 21) rfl)
theorem dX11_live_37 : decode cX11_live 37 = .ok (.iconst 0, 1) := al_X11_live_0 (37, (.iconst 0, 1)) (List.mem_of_getElem? (i := 22) rfl)
theorem dX11_live_38 : decode cX11_live 38 = .ok (.istore_n 3, 1) := al_X11_live_0 (38, (.istore_n 3, 1)) (List.mem_of_getElem? (i := 23) rfl)
theorem dX11_live_39 : decode cX11_live 39 = .ok (.iconst 1, 1) := al_X11_live_0 (39, (.iconst 1, 1)) (List.mem_of_getElem? (i := 24) rfl)
theorem dX11_live_40 : decode cX11_live 40 = .ok (.istore 4, 2) := al_X11_live_0 (40, (.istore 4, 2)) (List.mem_of_getElem? (i := 25) rfl)
theorem dX11_live_42 : decode cX11_live 42 = .ok (.iload 4, 2) := al_X11_live_0 (42, (.iload 4, 2)) (List.mem_of_getElem? (i := 26) rfl)
theorem dX11_live_44 : decode cX11_live 44 = .ok (.iconst 4, 1) := al_X11_live_0 (44, (.iconst 4, 1)) (List.mem_of_getElem? (i := 27) rfl)
theorem dX11_live_45 : decode cX11_live 45 = .ok (.if_icmp .ge 26, 3) := al_X11_live_0 (45, (.if_icmp .ge 26, 3)) (List.mem_of_getElem? (i := 28) rfl)
theorem dX11_live_48 : decode cX11_live 48 = .ok (.iload_n 3, 1) := al_X11_live_0 (48, (.iload_n 3, 1)) (List.mem_of_getElem? (i := 29) rfl)
theorem dX11_live_49 : decode cX11_live 49 = .ok (.aload_n 0, 1) := al_X11_live_0 (49, (.aload_n 0, 1)) (List.mem_of_getElem? (i := 30) rfl)
theorem dX11_live_50 : decode cX11_live 50 = .ok (.iload 4, 2) := al_X11_live_0 (50, (.iload 4, 2)) (List.mem_of_getElem? (i := 31) rfl)
theorem dX11_live_52 : decode cX11_live 52 = .ok (.invokevirtual 392, 3) := al_X11_live_0 (52, (.invokevirtual 392, 3)) (List.mem_of_getElem? (i := 32) rfl)
theorem dX11_live_55 : decode cX11_live 55 = .ok (.ifCond .eq 7, 3) := al_X11_live_0 (55, (.ifCond .eq 7, 3)) (List.mem_of_getElem? (i := 33) rfl)
theorem dX11_live_58 : decode cX11_live 58 = .ok (.iconst 1, 1) := al_X11_live_0 (58, (.iconst 1, 1)) (List.mem_of_getElem? (i := 34) rfl)
theorem dX11_live_59 : decode cX11_live 59 = .ok (.goto 4, 3) := al_X11_live_0 (59, (.goto 4, 3)) (List.mem_of_getElem? (i := 35) rfl)
theorem dX11_live_62 : decode cX11_live 62 = .ok (.iconst 0, 1) := al_X11_live_0 (62, (.iconst 0, 1)) (List.mem_of_getElem? (i := 36) rfl)
theorem dX11_live_63 : decode cX11_live 63 = .ok (.iadd, 1) := al_X11_live_0 (63, (.iadd, 1)) (List.mem_of_getElem? (i := 37) rfl)
theorem dX11_live_64 : decode cX11_live 64 = .ok (.istore_n 3, 1) := al_X11_live_0 (64, (.istore_n 3, 1)) (List.mem_of_getElem? (i := 38) rfl)
theorem dX11_live_65 : decode cX11_live 65 = .ok (.iinc 4 1, 3) := al_X11_live_0 (65, (.iinc 4 1, 3)) (List.mem_of_getElem? (i := 39) rfl)
theorem dX11_live_68 : decode cX11_live 68 = .ok (.goto (-26), 3) := al_X11_live_0 (68, (.goto (-26), 3)) (List.mem_of_getElem? (i := 40) rfl)
theorem dX11_live_71 : decode cX11_live 71 = .ok (.iload_n 3, 1) := al_X11_live_0 (71, (.iload_n 3, 1)) (List.mem_of_getElem? (i := 41) rfl)
theorem dX11_live_72 : decode cX11_live 72 = .ok (.ifCond .ne 5, 3) := al_X11_live_0 (72, (.ifCond .ne 5, 3)) (List.mem_of_getElem? (i := 42) rfl)
theorem dX11_live_75 : decode cX11_live 75 = .ok (.iload_n 2, 1) := al_X11_live_0 (75, (.iload_n 2, 1)) (List.mem_of_getElem? (i := 43) rfl)
theorem dX11_live_76 : decode cX11_live 76 = .ok (.ireturn, 1) := al_X11_live_0 (76, (.ireturn, 1)) (List.mem_of_getElem? (i := 44) rfl)
theorem dX11_live_77 : decode cX11_live 77 = .ok (.aload_n 0, 1) := al_X11_live_0 (77, (.aload_n 0, 1)) (List.mem_of_getElem? (i := 45) rfl)
theorem dX11_live_78 : decode cX11_live 78 = .ok (.getfield 13, 3) := al_X11_live_0 (78, (.getfield 13, 3)) (List.mem_of_getElem? (i := 46) rfl)
theorem dX11_live_81 : decode cX11_live 81 = .ok (.iconst 5, 1) := al_X11_live_0 (81, (.iconst 5, 1)) (List.mem_of_getElem? (i := 47) rfl)
theorem dX11_live_82 : decode cX11_live 82 = .ok (.ldc_w 398, 3) := al_X11_live_0 (82, (.ldc_w 398, 3)) (List.mem_of_getElem? (i := 48) rfl)
theorem dX11_live_85 : decode cX11_live 85 = .ok (.aload_n 0, 1) := al_X11_live_0 (85, (.aload_n 0, 1)) (List.mem_of_getElem? (i := 49) rfl)
theorem dX11_live_86 : decode cX11_live 86 = .ok (.getfield 13, 3) := al_X11_live_0 (86, (.getfield 13, 3)) (List.mem_of_getElem? (i := 50) rfl)
theorem dX11_live_89 : decode cX11_live 89 = .ok (.iconst 5, 1) := al_X11_live_0 (89, (.iconst 5, 1)) (List.mem_of_getElem? (i := 51) rfl)
theorem dX11_live_90 : decode cX11_live 90 = .ok (.iaload, 1) := al_X11_live_0 (90, (.iaload, 1)) (List.mem_of_getElem? (i := 52) rfl)
theorem dX11_live_91 : decode cX11_live 91 = .ok (.imul, 1) := al_X11_live_0 (91, (.imul, 1)) (List.mem_of_getElem? (i := 53) rfl)
theorem dX11_live_92 : decode cX11_live 92 = .ok (.sipush 12345, 3) := al_X11_live_0 (92, (.sipush 12345, 3)) (List.mem_of_getElem? (i := 54) rfl)
theorem dX11_live_95 : decode cX11_live 95 = .ok (.iadd, 1) := al_X11_live_0 (95, (.iadd, 1)) (List.mem_of_getElem? (i := 55) rfl)
theorem dX11_live_96 : decode cX11_live 96 = .ok (.iastore, 1) := al_X11_live_0 (96, (.iastore, 1)) (List.mem_of_getElem? (i := 56) rfl)
theorem dX11_live_97 : decode cX11_live 97 = .ok (.aload_n 0, 1) := al_X11_live_0 (97, (.aload_n 0, 1)) (List.mem_of_getElem? (i := 57) rfl)
theorem dX11_live_98 : decode cX11_live 98 = .ok (.getfield 13, 3) := al_X11_live_0 (98, (.getfield 13, 3)) (List.mem_of_getElem? (i := 58) rfl)
theorem dX11_live_101 : decode cX11_live 101 = .ok (.iconst 5, 1) := al_X11_live_0 (101, (.iconst 5, 1)) (List.mem_of_getElem? (i := 59) rfl)
def in_X11_live_1 : List (Nat × Instr × Nat) := [(102, (.iaload, 1)), (103, (.bipush 16, 2)), (105, (.ishr, 1)), (106, (.sipush 32767, 3)), (109, (.iand, 1)), (110, (.iload_n 3, 1)), (111, (.irem, 1)), (112, (.istore 4, 2)), (114, (.iconst 1, 1)), (115, (.istore 5, 2)), (117, (.aload_n 0, 1)), (118, (.iload 5, 2)), (120, (.invokevirtual 392, 3)), (123, (.ifCond .eq 8, 3)), (126, (.iload 4, 2)), (128, (.ifCond .le 28, 3)), (131, (.iload 4, 2)), (133, (.aload_n 0, 1)), (134, (.iload 5, 2)), (136, (.invokevirtual 392, 3)), (139, (.ifCond .eq 7, 3)), (142, (.iconst 1, 1)), (143, (.goto 4, 3)), (146, (.iconst 0, 1)), (147, (.isub, 1)), (148, (.istore 4, 2)), (150, (.iinc 5 1, 3)), (153, (.goto (-36), 3)), (156, (.aload_n 0, 1)), (157, (.iload 5, 2)), (159, (.invokevirtual 395, 3)), (162, (.pop, 1)), (163, (.iinc 2 1, 3)), (166, (.goto (-134), 3)), (169, (.iload_n 2, 1)), (170, (.ireturn, 1))]
theorem al_X11_live_1 : ∀ q ∈ in_X11_live_1, decode cX11_live q.1 = .ok q.2 := by decide +kernel
theorem dX11_live_102 : decode cX11_live 102 = .ok (.iaload, 1) := al_X11_live_1 (102, (.iaload, 1)) (List.mem_of_getElem? (i := 0) rfl)
theorem dX11_live_103 : decode cX11_live 103 = .ok (.bipush 16, 2) := al_X11_live_1 (103, (.bipush 16, 2)) (List.mem_of_getElem? (i := 1) rfl)
theorem dX11_live_105 : decode cX11_live 105 = .ok (.ishr, 1) := al_X11_live_1 (105, (.ishr, 1)) (List.mem_of_getElem? (i := 2) rfl)
theorem dX11_live_106 : decode cX11_live 106 = .ok (.sipush 32767, 3) := al_X11_live_1 (106, (.sipush 32767, 3)) (List.mem_of_getElem? (i := 3) rfl)
theorem dX11_live_109 : decode cX11_live 109 = .ok (.iand, 1) := al_X11_live_1 (109, (.iand, 1)) (List.mem_of_getElem? (i := 4) rfl)
theorem dX11_live_110 : decode cX11_live 110 = .ok (.iload_n 3, 1) := al_X11_live_1 (110, (.iload_n 3, 1)) (List.mem_of_getElem? (i := 5) rfl)
theorem dX11_live_111 : decode cX11_live 111 = .ok (.irem, 1) := al_X11_live_1 (111, (.irem, 1)) (List.mem_of_getElem? (i := 6) rfl)
theorem dX11_live_112 : decode cX11_live 112 = .ok (.istore 4, 2) := al_X11_live_1 (112, (.istore 4, 2)) (List.mem_of_getElem? (i := 7) rfl)
theorem dX11_live_114 : decode cX11_live 114 = .ok (.iconst 1, 1) := al_X11_live_1 (114, (.iconst 1, 1)) (List.mem_of_getElem? (i := 8) rfl)
theorem dX11_live_115 : decode cX11_live 115 = .ok (.istore 5, 2) := al_X11_live_1 (115, (.istore 5, 2)) (List.mem_of_getElem? (i := 9) rfl)
theorem dX11_live_117 : decode cX11_live 117 = .ok (.aload_n 0, 1) := al_X11_live_1 (117, (.aload_n 0, 1)) (List.mem_of_getElem? (i := 10) rfl)
theorem dX11_live_118 : decode cX11_live 118 = .ok (.iload 5, 2) := al_X11_live_1 (118, (.iload 5, 2)) (List.mem_of_getElem? (i := 11) rfl)
theorem dX11_live_120 : decode cX11_live 120 = .ok (.invokevirtual 392, 3) := al_X11_live_1 (120, (.invokevirtual 392, 3)) (List.mem_of_getElem? (i := 12) rfl)
theorem dX11_live_123 : decode cX11_live 123 = .ok (.ifCond .eq 8, 3) := al_X11_live_1 (123, (.ifCond .eq 8, 3)) (List.mem_of_getElem? (i := 13) rfl)
theorem dX11_live_126 : decode cX11_live 126 = .ok (.iload 4, 2) := al_X11_live_1 (126, (.iload 4, 2)) (List.mem_of_getElem? (i := 14) rfl)
theorem dX11_live_128 : decode cX11_live 128 = .ok (.ifCond .le 28, 3) := al_X11_live_1 (128, (.ifCond .le 28, 3)) (List.mem_of_getElem? (i := 15) rfl)
theorem dX11_live_131 : decode cX11_live 131 = .ok (.iload 4, 2) := al_X11_live_1 (131, (.iload 4, 2)) (List.mem_of_getElem? (i := 16) rfl)
theorem dX11_live_133 : decode cX11_live 133 = .ok (.aload_n 0, 1) := al_X11_live_1 (133, (.aload_n 0, 1)) (List.mem_of_getElem? (i := 17) rfl)
theorem dX11_live_134 : decode cX11_live 134 = .ok (.iload 5, 2) := al_X11_live_1 (134, (.iload 5, 2)) (List.mem_of_getElem? (i := 18) rfl)
theorem dX11_live_136 : decode cX11_live 136 = .ok (.invokevirtual 392, 3) := al_X11_live_1 (136, (.invokevirtual 392, 3)) (List.mem_of_getElem? (i := 19) rfl)
theorem dX11_live_139 : decode cX11_live 139 = .ok (.ifCond .eq 7, 3) := al_X11_live_1 (139, (.ifCond .eq 7, 3)) (List.mem_of_getElem? (i := 20) rfl)
theorem dX11_live_142 : decode cX11_live 142 = .ok (.iconst 1, 1) := al_X11_live_1 (142, (.iconst 1, 1)) (List.mem_of_getElem? (i := 21) rfl)
theorem dX11_live_143 : decode cX11_live 143 = .ok (.goto 4, 3) := al_X11_live_1 (143, (.goto 4, 3)) (List.mem_of_getElem? (i := 22) rfl)
theorem dX11_live_146 : decode cX11_live 146 = .ok (.iconst 0, 1) := al_X11_live_1 (146, (.iconst 0, 1)) (List.mem_of_getElem? (i := 23) rfl)
theorem dX11_live_147 : decode cX11_live 147 = .ok (.isub, 1) := al_X11_live_1 (147, (.isub, 1)) (List.mem_of_getElem? (i := 24) rfl)
theorem dX11_live_148 : decode cX11_live 148 = .ok (.istore 4, 2) := al_X11_live_1 (148, (.istore 4, 2)) (List.mem_of_getElem? (i := 25) rfl)
theorem dX11_live_150 : decode cX11_live 150 = .ok (.iinc 5 1, 3) := al_X11_live_1 (150, (.iinc 5 1, 3)) (List.mem_of_getElem? (i := 26) rfl)
theorem dX11_live_153 : decode cX11_live 153 = .ok (.goto (-36), 3) := al_X11_live_1 (153, (.goto (-36), 3)) (List.mem_of_getElem? (i := 27) rfl)
theorem dX11_live_156 : decode cX11_live 156 = .ok (.aload_n 0, 1) := al_X11_live_1 (156, (.aload_n 0, 1)) (List.mem_of_getElem? (i := 28) rfl)
theorem dX11_live_157 : decode cX11_live 157 = .ok (.iload 5, 2) := al_X11_live_1 (157, (.iload 5, 2)) (List.mem_of_getElem? (i := 29) rfl)
theorem dX11_live_159 : decode cX11_live 159 = .ok (.invokevirtual 395, 3) := al_X11_live_1 (159, (.invokevirtual 395, 3)) (List.mem_of_getElem? (i := 30) rfl)
theorem dX11_live_162 : decode cX11_live 162 = .ok (.pop, 1) := al_X11_live_1 (162, (.pop, 1)) (List.mem_of_getElem? (i := 31) rfl)
theorem dX11_live_163 : decode cX11_live 163 = .ok (.iinc 2 1, 3) := al_X11_live_1 (163, (.iinc 2 1, 3)) (List.mem_of_getElem? (i := 32) rfl)
theorem dX11_live_166 : decode cX11_live 166 = .ok (.goto (-134), 3) := al_X11_live_1 (166, (.goto (-134), 3)) (List.mem_of_getElem? (i := 33) rfl)
theorem dX11_live_169 : decode cX11_live 169 = .ok (.iload_n 2, 1) := al_X11_live_1 (169, (.iload_n 2, 1)) (List.mem_of_getElem? (i := 34) rfl)
theorem dX11_live_170 : decode cX11_live 170 = .ok (.ireturn, 1) := al_X11_live_1 (170, (.ireturn, 1)) (List.mem_of_getElem? (i := 35) rfl)
def in_X11_on_0 : List (Nat × Instr × Nat) := [(0, (.aload_n 0, 1)), (1, (.iconst 0, 1)), (2, (.putfield 3, 3)), (5, (.aload_n 0, 1)), (6, (.iload_n 1, 1)), (7, (.iconst 0, 1)), (8, (.bipush 6, 2)), (10, (.invokestatic 97, 3)), (13, (.ifCond .ne 7, 3)), (16, (.iconst 1, 1)), (17, (.goto 4, 3)), (20, (.iconst 0, 1)), (21, (.iconst 1, 1)), (22, (.invokevirtual 240, 3)), (25, (.ifCond .eq 5, 3)), (28, (.iconst 0, 1)), (29, (.ireturn, 1)), (30, (.aload_n 0, 1)), (31, (.getfield 13, 3)), (34, (.bipush 6, 2)), (36, (.iaload, 1)), (37, (.ifCond .ne 5, 3)), (40, (.iconst (-1), 1)), (41, (.ireturn, 1)), (42, (.iload_n 1, 1)), (43, (.tableswitch 90 4 6 #[25, 77, 82], 25)), (68, (.aload_n 0, 1)), (69, (.getfield 13, 3)), (72, (.bipush 10, 2)), (74, (.iaload, 1)), (75, (.aload_n 0, 1)), (76, (.aload_n 0, 1)), (77, (.getfield 13, 3)), (80, (.bipush 7, 2)), (82, (.iaload, 1)), (83, (.invokevirtual 105, 3)), (86, (.iconst 1, 1)), (87, (.isub, 1)), (88, (.if_icmp .ne 30, 3)), (91, (.aload_n 0, 1)), (92, (.getfield 13, 3)), (95, (.bipush 11, 2)), (97, (.iaload, 1)), (98, (.aload_n 0, 1)), (99, (.aload_n 0, 1)), (100, (.getfield 13, 3)), (103, (.bipush 8, 2)), (105, (.iaload, 1)), (106, (.invokevirtual 105, 3)), (109, (.iconst 1, 1)), (110, (.isub, 1)), (111, (.if_icmp .ne 7, 3)), (114, (.iconst 1, 1)), (115, (.goto 4, 3)), (118, (.iconst 0, 1)), (119, (.ireturn, 1)), (120, (.aload_n 0, 1)), (121, (.getfield 90, 3)), (124, (.ireturn, 1)), (125, (.aload_n 0, 1))]
theorem al_X11_on_0 : ∀ q ∈ in_X11_on_0, decode cX11_on q.1 = .ok q.2 := by decide +kernel
theorem dX11_on_0 : decode cX11_on 0 = .ok (.aload_n 0, 1) := al_X11_on_0 (0, (.aload_n 0, 1)) (List.mem_of_getElem? (i := 0) rfl)
theorem dX11_on_1 : decode cX11_on 1 = .ok (.iconst 0, 1) := al_X11_on_0 (1, (.iconst 0, 1)) (List.mem_of_getElem? (i := 1) rfl)
theorem dX11_on_2 : decode cX11_on 2 = .ok (.putfield 3, 3) := al_X11_on_0 (2, (.putfield 3, 3)) (List.mem_of_getElem? (i := 2) rfl)
theorem dX11_on_5 : decode cX11_on 5 = .ok (.aload_n 0, 1) := al_X11_on_0 (5, (.aload_n 0, 1)) (List.mem_of_getElem? (i := 3) rfl)
theorem dX11_on_6 : decode cX11_on 6 = .ok (.iload_n 1, 1) := al_X11_on_0 (6, (.iload_n 1, 1)) (List.mem_of_getElem? (i := 4) rfl)
theorem dX11_on_7 : decode cX11_on 7 = .ok (.iconst 0, 1) := al_X11_on_0 (7, (.iconst 0, 1)) (List.mem_of_getElem? (i := 5) rfl)
theorem dX11_on_8 : decode cX11_on 8 = .ok (.bipush 6, 2) := al_X11_on_0 (8, (.bipush 6, 2)) (List.mem_of_getElem? (i := 6) rfl)
theorem dX11_on_10 : decode cX11_on 10 = .ok (.invokestatic 97, 3) := al_X11_on_0 (10, (.invokestatic 97, 3)) (List.mem_of_getElem? (i := 7) rfl)
theorem dX11_on_13 : decode cX11_on 13 = .ok (.ifCond .ne 7, 3) := al_X11_on_0 (13, (.ifCond .ne 7, 3)) (List.mem_of_getElem? (i := 8) rfl)
theorem dX11_on_16 : decode cX11_on 16 = .ok (.iconst 1, 1) := al_X11_on_0 (16, (.iconst 1, 1)) (List.mem_of_getElem? (i := 9) rfl)
theorem dX11_on_17 : decode cX11_on 17 = .ok (.goto 4, 3) := al_X11_on_0 (17, (.goto 4, 3)) (List.mem_of_getElem? (i := 10) rfl)
theorem dX11_on_20 : decode cX11_on 20 = .ok (.iconst 0, 1) := al_X11_on_0 (20, (.iconst 0, 1)) (List.mem_of_getElem? (i := 11) rfl)
theorem dX11_on_21 : decode cX11_on 21 = .ok (.iconst 1, 1) := al_X11_on_0 (21, (.iconst 1, 1)) (List.mem_of_getElem? (i := 12) rfl)
theorem dX11_on_22 : decode cX11_on 22 = .ok (.invokevirtual 240, 3) := al_X11_on_0 (22, (.invokevirtual 240, 3)) (List.mem_of_getElem? (i := 13) rfl)
theorem dX11_on_25 : decode cX11_on 25 = .ok (.ifCond .eq 5, 3) := al_X11_on_0 (25, (.ifCond .eq 5, 3)) (List.mem_of_getElem? (i := 14) rfl)
theorem dX11_on_28 : decode cX11_on 28 = .ok (.iconst 0, 1) := al_X11_on_0 (28, (.iconst 0, 1)) (List.mem_of_getElem? (i := 15) rfl)
theorem dX11_on_29 : decode cX11_on 29 = .ok (.ireturn, 1) := al_X11_on_0 (29, (.ireturn, 1)) (List.mem_of_getElem? (i := 16) rfl)
theorem dX11_on_30 : decode cX11_on 30 = .ok (.aload_n 0, 1) := al_X11_on_0 (30, (.aload_n 0, 1)) (List.mem_of_getElem? (i := 17) rfl)
theorem dX11_on_31 : decode cX11_on 31 = .ok (.getfield 13, 3) := al_X11_on_0 (31, (.getfield 13, 3)) (List.mem_of_getElem? (i := 18) rfl)
theorem dX11_on_34 : decode cX11_on 34 = .ok (.bipush 6, 2) := al_X11_on_0 (34, (.bipush 6, 2)) (List.mem_of_getElem? (i := 19) rfl)
theorem dX11_on_36 : decode cX11_on 36 = .ok (.iaload, 1) := al_X11_on_0 (36, (.iaload, 1)) (List.mem_of_getElem? (i := 20) rfl)
theorem dX11_on_37 : decode cX11_on 37 = .ok (.ifCond .ne 5, 3) := al_X11_on_0 (37, (.ifCond .ne 5, 3)) (List.mem_of_getElem? (i := 21) rfl)
theorem dX11_on_40 : decode cX11_on 40 = .ok (.iconst (-1), 1) := al_X11_on_0 (40, (.iconst (-1), 1)) (List.mem_of_getElem? (i := 22) rfl)
theorem dX11_on_41 : decode cX11_on 41 = .ok (.ireturn, 1) := al_X11_on_0 (41, (.ireturn, 1)) (List.mem_of_getElem? (i := 23) rfl)
theorem dX11_on_42 : decode cX11_on 42 = .ok (.iload_n 1, 1) := al_X11_on_0 (42, (.iload_n 1, 1)) (List.mem_of_getElem? (i := 24) rfl)
theorem dX11_on_43 : decode cX11_on 43 = .ok (.tableswitch 90 4 6 #[25, 77, 82], 25) := al_X11_on_0 (43, (.tableswitch 90 4 6 #[25, 77, 82], 25)) (List.mem_of_getElem? (i := 25) rfl)
theorem dX11_on_68 : decode cX11_on 68 = .ok (.aload_n 0, 1) := al_X11_on_0 (68, (.aload_n 0, 1)) (List.mem_of_getElem? (i := 26) rfl)
theorem dX11_on_69 : decode cX11_on 69 = .ok (.getfield 13, 3) := al_X11_on_0 (69, (.getfield 13, 3)) (List.mem_of_getElem? (i := 27) rfl)
theorem dX11_on_72 : decode cX11_on 72 = .ok (.bipush 10, 2) := al_X11_on_0 (72, (.bipush 10, 2)) (List.mem_of_getElem? (i := 28) rfl)
theorem dX11_on_74 : decode cX11_on 74 = .ok (.iaload, 1) := al_X11_on_0 (74, (.iaload, 1)) (List.mem_of_getElem? (i := 29) rfl)
theorem dX11_on_75 : decode cX11_on 75 = .ok (.aload_n 0, 1) := al_X11_on_0 (75, (.aload_n 0, 1)) (List.mem_of_getElem? (i := 30) rfl)
theorem dX11_on_76 : decode cX11_on 76 = .ok (.aload_n 0, 1) := al_X11_on_0 (76, (.aload_n 0, 1)) (List.mem_of_getElem? (i := 31) rfl)
theorem dX11_on_77 : decode cX11_on 77 = .ok (.getfield 13, 3) := al_X11_on_0 (77, (.getfield 13, 3)) (List.mem_of_getElem? (i := 32) rfl)
theorem dX11_on_80 : decode cX11_on 80 = .ok (.bipush 7, 2) := al_X11_on_0 (80, (.bipush 7, 2)) (List.mem_of_getElem? (i := 33) rfl)
theorem dX11_on_82 : decode cX11_on 82 = .ok (.iaload, 1) := al_X11_on_0 (82, (.iaload, 1)) (List.mem_of_getElem? (i := 34) rfl)
theorem dX11_on_83 : decode cX11_on 83 = .ok (.invokevirtual 105, 3) := al_X11_on_0 (83, (.invokevirtual 105, 3)) (List.mem_of_getElem? (i := 35) rfl)
theorem dX11_on_86 : decode cX11_on 86 = .ok (.iconst 1, 1) := al_X11_on_0 (86, (.iconst 1, 1)) (List.mem_of_getElem? (i := 36) rfl)
theorem dX11_on_87 : decode cX11_on 87 = .ok (.isub, 1) := al_X11_on_0 (87, (.isub, 1)) (List.mem_of_getElem? (i := 37) rfl)
theorem dX11_on_88 : decode cX11_on 88 = .ok (.if_icmp .ne 30, 3) := al_X11_on_0 (88, (.if_icmp .ne 30, 3)) (List.mem_of_getElem? (i := 38) rfl)
theorem dX11_on_91 : decode cX11_on 91 = .ok (.aload_n 0, 1) := al_X11_on_0 (91, (.aload_n 0, 1)) (List.mem_of_getElem? (i := 39) rfl)
theorem dX11_on_92 : decode cX11_on 92 = .ok (.getfield 13, 3) := al_X11_on_0 (92, (.getfield 13, 3)) (List.mem_of_getElem? (i := 40) rfl)
theorem dX11_on_95 : decode cX11_on 95 = .ok (.bipush 11, 2) := al_X11_on_0 (95, (.bipush 11, 2)) (List.mem_of_getElem? (i := 41) rfl)
theorem dX11_on_97 : decode cX11_on 97 = .ok (.iaload, 1) := al_X11_on_0 (97, (.iaload, 1)) (List.mem_of_getElem? (i := 42) rfl)
theorem dX11_on_98 : decode cX11_on 98 = .ok (.aload_n 0, 1) := al_X11_on_0 (98, (.aload_n 0, 1)) (List.mem_of_getElem? (i := 43) rfl)
theorem dX11_on_99 : decode cX11_on 99 = .ok (.aload_n 0, 1) := al_X11_on_0 (99, (.aload_n 0, 1)) (List.mem_of_getElem? (i := 44) rfl)
theorem dX11_on_100 : decode cX11_on 100 = .ok (.getfield 13, 3) := al_X11_on_0 (100, (.getfield 13, 3)) (List.mem_of_getElem? (i := 45) rfl)
theorem dX11_on_103 : decode cX11_on 103 = .ok (.bipush 8, 2) := al_X11_on_0 (103, (.bipush 8, 2)) (List.mem_of_getElem? (i := 46) rfl)
theorem dX11_on_105 : decode cX11_on 105 = .ok (.iaload, 1) := al_X11_on_0 (105, (.iaload, 1)) (List.mem_of_getElem? (i := 47) rfl)
theorem dX11_on_106 : decode cX11_on 106 = .ok (.invokevirtual 105, 3) := al_X11_on_0 (106, (.invokevirtual 105, 3)) (List.mem_of_getElem? (i := 48) rfl)
theorem dX11_on_109 : decode cX11_on 109 = .ok (.iconst 1, 1) := al_X11_on_0 (109, (.iconst 1, 1)) (List.mem_of_getElem? (i := 49) rfl)
theorem dX11_on_110 : decode cX11_on 110 = .ok (.isub, 1) := al_X11_on_0 (110, (.isub, 1)) (List.mem_of_getElem? (i := 50) rfl)
theorem dX11_on_111 : decode cX11_on 111 = .ok (.if_icmp .ne 7, 3) := al_X11_on_0 (111, (.if_icmp .ne 7, 3)) (List.mem_of_getElem? (i := 51) rfl)
theorem dX11_on_114 : decode cX11_on 114 = .ok (.iconst 1, 1) := al_X11_on_0 (114, (.iconst 1, 1)) (List.mem_of_getElem? (i := 52) rfl)
theorem dX11_on_115 : decode cX11_on 115 = .ok (.goto 4, 3) := al_X11_on_0 (115, (.goto 4, 3)) (List.mem_of_getElem? (i := 53) rfl)
theorem dX11_on_118 : decode cX11_on 118 = .ok (.iconst 0, 1) := al_X11_on_0 (118, (.iconst 0, 1)) (List.mem_of_getElem? (i := 54) rfl)
theorem dX11_on_119 : decode cX11_on 119 = .ok (.ireturn, 1) := al_X11_on_0 (119, (.ireturn, 1)) (List.mem_of_getElem? (i := 55) rfl)
theorem dX11_on_120 : decode cX11_on 120 = .ok (.aload_n 0, 1) := al_X11_on_0 (120, (.aload_n 0, 1)) (List.mem_of_getElem? (i := 56) rfl)
theorem dX11_on_121 : decode cX11_on 121 = .ok (.getfield 90, 3) := al_X11_on_0 (121, (.getfield 90, 3)) (List.mem_of_getElem? (i := 57) rfl)
theorem dX11_on_124 : decode cX11_on 124 = .ok (.ireturn, 1) := al_X11_on_0 (124, (.ireturn, 1)) (List.mem_of_getElem? (i := 58) rfl)
theorem dX11_on_125 : decode cX11_on 125 = .ok (.aload_n 0, 1) := al_X11_on_0 (125, (.aload_n 0, 1)) (List.mem_of_getElem? (i := 59) rfl)
def in_X11_on_1 : List (Nat × Instr × Nat) := [(126, (.getfield 13, 3)), (129, (.bipush 9, 2)), (131, (.iaload, 1)), (132, (.ireturn, 1)), (133, (.aload_n 0, 1)), (134, (.getfield 13, 3)), (137, (.bipush 10, 2)), (139, (.iload_n 1, 1)), (140, (.iadd, 1)), (141, (.iaload, 1)), (142, (.ireturn, 1))]
theorem al_X11_on_1 : ∀ q ∈ in_X11_on_1, decode cX11_on q.1 = .ok q.2 := by decide +kernel
theorem dX11_on_126 : decode cX11_on 126 = .ok (.getfield 13, 3) := al_X11_on_1 (126, (.getfield 13, 3)) (List.mem_of_getElem? (i := 0) rfl)
theorem dX11_on_129 : decode cX11_on 129 = .ok (.bipush 9, 2) := al_X11_on_1 (129, (.bipush 9, 2)) (List.mem_of_getElem? (i := 1) rfl)
theorem dX11_on_131 : decode cX11_on 131 = .ok (.iaload, 1) := al_X11_on_1 (131, (.iaload, 1)) (List.mem_of_getElem? (i := 2) rfl)
theorem dX11_on_132 : decode cX11_on 132 = .ok (.ireturn, 1) := al_X11_on_1 (132, (.ireturn, 1)) (List.mem_of_getElem? (i := 3) rfl)
theorem dX11_on_133 : decode cX11_on 133 = .ok (.aload_n 0, 1) := al_X11_on_1 (133, (.aload_n 0, 1)) (List.mem_of_getElem? (i := 4) rfl)
theorem dX11_on_134 : decode cX11_on 134 = .ok (.getfield 13, 3) := al_X11_on_1 (134, (.getfield 13, 3)) (List.mem_of_getElem? (i := 5) rfl)
theorem dX11_on_137 : decode cX11_on 137 = .ok (.bipush 10, 2) := al_X11_on_1 (137, (.bipush 10, 2)) (List.mem_of_getElem? (i := 6) rfl)
theorem dX11_on_139 : decode cX11_on 139 = .ok (.iload_n 1, 1) := al_X11_on_1 (139, (.iload_n 1, 1)) (List.mem_of_getElem? (i := 7) rfl)
theorem dX11_on_140 : decode cX11_on 140 = .ok (.iadd, 1) := al_X11_on_1 (140, (.iadd, 1)) (List.mem_of_getElem? (i := 8) rfl)
theorem dX11_on_141 : decode cX11_on 141 = .ok (.iaload, 1) := al_X11_on_1 (141, (.iaload, 1)) (List.mem_of_getElem? (i := 9) rfl)
theorem dX11_on_142 : decode cX11_on 142 = .ok (.ireturn, 1) := al_X11_on_1 (142, (.ireturn, 1)) (List.mem_of_getElem? (i := 10) rfl)
def in_X11_seed_0 : List (Nat × Instr × Nat) := [(0, (.aload_n 0, 1)), (1, (.iconst 0, 1)), (2, (.putfield 3, 3)), (5, (.aload_n 0, 1)), (6, (.getfield 13, 3)), (9, (.iconst 5, 1)), (10, (.iaload, 1)), (11, (.istore_n 2, 1)), (12, (.aload_n 0, 1)), (13, (.getfield 13, 3)), (16, (.iconst 5, 1)), (17, (.iload_n 1, 1)), (18, (.iastore, 1)), (19, (.iload_n 2, 1)), (20, (.ireturn, 1))]
theorem al_X11_seed_0 : ∀ q ∈ in_X11_seed_0, decode cX11_seed q.1 = .ok q.2 := by decide +kernel
theorem dX11_seed_0 : decode cX11_seed 0 = .ok (.aload_n 0, 1) := al_X11_seed_0 (0, (.aload_n 0, 1)) (List.mem_of_getElem? (i := 0) rfl)
theorem dX11_seed_1 : decode cX11_seed 1 = .ok (.iconst 0, 1) := al_X11_seed_0 (1, (.iconst 0, 1)) (List.mem_of_getElem? (i := 1) rfl)
theorem dX11_seed_2 : decode cX11_seed 2 = .ok (.putfield 3, 3) := al_X11_seed_0 (2, (.putfield 3, 3)) (List.mem_of_getElem? (i := 2) rfl)
theorem dX11_seed_5 : decode cX11_seed 5 = .ok (.aload_n 0, 1) := al_X11_seed_0 (5, (.aload_n 0, 1)) (List.mem_of_getElem? (i := 3) rfl)
theorem dX11_seed_6 : decode cX11_seed 6 = .ok (.getfield 13, 3) := al_X11_seed_0 (6, (.getfield 13, 3)) (List.mem_of_getElem? (i := 4) rfl)
theorem dX11_seed_9 : decode cX11_seed 9 = .ok (.iconst 5, 1) := al_X11_seed_0 (9, (.iconst 5, 1)) (List.mem_of_getElem? (i := 5) rfl)
theorem dX11_seed_10 : decode cX11_seed 10 = .ok (.iaload, 1) := al_X11_seed_0 (10, (.iaload, 1)) (List.mem_of_getElem? (i := 6) rfl)
theorem dX11_seed_11 : decode cX11_seed 11 = .ok (.istore_n 2, 1) := al_X11_seed_0 (11, (.istore_n 2, 1)) (List.mem_of_getElem? (i := 7) rfl)
theorem dX11_seed_12 : decode cX11_seed 12 = .ok (.aload_n 0, 1) := al_X11_seed_0 (12, (.aload_n 0, 1)) (List.mem_of_getElem? (i := 8) rfl)
theorem dX11_seed_13 : decode cX11_seed 13 = .ok (.getfield 13, 3) := al_X11_seed_0 (13, (.getfield 13, 3)) (List.mem_of_getElem? (i := 9) rfl)
theorem dX11_seed_16 : decode cX11_seed 16 = .ok (.iconst 5, 1) := al_X11_seed_0 (16, (.iconst 5, 1)) (List.mem_of_getElem? (i := 10) rfl)
theorem dX11_seed_17 : decode cX11_seed 17 = .ok (.iload_n 1, 1) := al_X11_seed_0 (17, (.iload_n 1, 1)) (List.mem_of_getElem? (i := 11) rfl)
theorem dX11_seed_18 : decode cX11_seed 18 = .ok (.iastore, 1) := al_X11_seed_0 (18, (.iastore, 1)) (List.mem_of_getElem? (i := 12) rfl)
theorem dX11_seed_19 : decode cX11_seed 19 = .ok (.iload_n 2, 1) := al_X11_seed_0 (19, (.iload_n 2, 1)) (List.mem_of_getElem? (i := 13) rfl)
theorem dX11_seed_20 : decode cX11_seed 20 = .ok (.ireturn, 1) := al_X11_seed_0 (20, (.ireturn, 1)) (List.mem_of_getElem? (i := 14) rfl)
def in_X11_count_0 : List (Nat × Instr × Nat) := [(0, (.aload_n 0, 1)), (1, (.iconst 0, 1)), (2, (.putfield 3, 3)), (5, (.iconst 0, 1)), (6, (.istore_n 2, 1)), (7, (.iload_n 1, 1)), (8, (.lookupswitch 77 #[(3, 28), (5, 51)], 28)), (36, (.aload_n 0, 1)), (37, (.getfield 13, 3)), (40, (.iconst 3, 1)), (41, (.iaload, 1)), (42, (.iconst 1, 1)), (43, (.if_icmp .ne 14, 3)), (46, (.aload_n 0, 1)), (47, (.getfield 13, 3)), (50, (.sipush 858, 3)), (53, (.iaload, 1)), (54, (.goto 4, 3)), (57, (.iconst (-1), 1)), (58, (.ireturn, 1)), (59, (.iconst 0, 1)), (60, (.istore_n 3, 1)), (61, (.iload_n 3, 1)), (62, (.aload_n 0, 1)), (63, (.invokevirtual 93, 3)), (66, (.if_icmp .ge 17, 3)), (69, (.iload_n 2, 1)), (70, (.aload_n 0, 1)), (71, (.iload_n 3, 1)), (72, (.invokevirtual 105, 3)), (75, (.iadd, 1)), (76, (.istore_n 2, 1)), (77, (.iinc 3 1, 3)), (80, (.goto (-19), 3)), (83, (.iload_n 2, 1)), (84, (.ireturn, 1)), (85, (.iload_n 1, 1)), (86, (.iconst 0, 1)), (87, (.iconst 4, 1)), (88, (.invokestatic 97, 3)), (91, (.ifCond .eq 12, 3)), (94, (.aload_n 0, 1)), (95, (.getfield 13, 3)), (98, (.iload_n 1, 1)), (99, (.iaload, 1)), (100, (.goto 4, 3)), (103, (.iconst (-1), 1)), (104, (.ireturn, 1))]
theorem al_X11_count_0 : ∀ q ∈ in_X11_count_0, decode cX11_count q.1 = .ok q.2 := by decide +kernel
theorem dX11_count_0 : decode cX11_count 0 = .ok (.aload_n 0, 1) := al_X11_count_0 (0, (.aload_n 0, 1)) (List.mem_of_getElem? (i := 0) rfl)
theorem dX11_count_1 : decode cX11_count 1 = .ok (.iconst 0, 1) := al_X11_count_0 (1, (.iconst 0, 1)) (List.mem_of_getElem? (i := 1) rfl)
theorem dX11_count_2 : decode cX11_count 2 = .ok (.putfield 3, 3) := al_X11_count_0 (2, (.putfield 3, 3)) (List.mem_of_getElem? (i := 2) rfl)
theorem dX11_count_5 : decode cX11_count 5 = .ok (.iconst 0, 1) := al_X11_count_0 (5, (.iconst 0, 1)) (List.mem_of_getElem? (i := 3) rfl)
theorem dX11_count_6 : decode cX11_count 6 = .ok (.istore_n 2, 1) := al_X11_count_0 (6, (.istore_n 2, 1)) (List.mem_of_getElem? (i := 4) rfl)
theorem dX11_count_7 : decode cX11_count 7 = .ok (.iload_n 1, 1) := al_X11_count_0 (7, (.iload_n 1, 1)) (List.mem_of_getElem? (i := 5) rfl)
theorem dX11_count_8 : decode cX11_count 8 = .ok (.lookupswitch 77 #[(3, 28), (5, 51)], 28) := al_X11_count_0 (8, (.lookupswitch 77 #[(3, 28), (5, 51)], 28)) (List.mem_of_getElem? (i := 6) rfl)
theorem dX11_count_36 : decode cX11_count 36 = .ok (.aload_n 0, 1) := al_X11_count_0 (36, (.aload_n 0, 1)) (List.mem_of_getElem? (i := 7) rfl)
theorem dX11_count_37 : decode cX11_count 37 = .ok (.getfield 13, 3) := al_X11_count_0 (37, (.getfield 13, 3)) (List.mem_of_getElem? (i := 8) rfl)
theorem dX11_count_40 : decode cX11_count 40 = .ok (.iconst 3, 1) := al_X11_count_0 (40, (.iconst 3, 1)) (List.mem_of_getElem? (i := 9) rfl)
theorem dX11_count_41 : decode cX11_count 41 = .ok (.iaload, 1) := al_X11_count_0 (41, (.iaload, 1)) (List.mem_of_getElem? (i := 10) rfl)
theorem dX11_count_42 : decode cX11_count 42 = .ok (.iconst 1, 1) := al_X11_count_0 (42, (.iconst 1, 1)) (List.mem_of_getElem? (i := 11) rfl)
theorem dX11_count_43 : decode cX11_count 43 = .ok (.if_icmp .ne 14, 3) := al_X11_count_0 (43, (.if_icmp .ne 14, 3)) (List.mem_of_getElem? (i := 12) rfl)
theorem dX11_count_46 : decode cX11_count 46 = .ok (.aload_n 0, 1) := al_X11_count_0 (46, (.aload_n 0, 1)) (List.mem_of_getElem? (i := 13) rfl)
theorem dX11_count_47 : decode cX11_count 47 = .ok (.getfield 13, 3) := al_X11_count_0 (47, (.getfield 13, 3)) (List.mem_of_getElem? (i := 14) rfl)
theorem dX11_count_50 : decode cX11_count 50 = .ok (.sipush 858, 3) := al_X11_count_0 (50, (.sipush 858, 3)) (List.mem_of_getElem? (i := 15) rfl)
theorem dX11_count_53 : decode cX11_count 53 = .ok (.iaload, 1) := al_X11_count_0 (53, (.iaload, 1)) (List.mem_of_getElem? (i := 16) rfl)
theorem dX11_count_54 : decode cX11_count 54 = .ok (.goto 4, 3) := al_X11_count_0 (54, (.goto 4, 3)) (List.mem_of_getElem? (i := 17) rfl)
theorem dX11_count_57 : decode cX11_count 57 = .ok (.iconst (-1), 1) := al_X11_count_0 (57, (.iconst (-1), 1)) (List.mem_of_getElem? (i := 18) rfl)
theorem dX11_count_58 : decode cX11_count 58 = .ok (.ireturn, 1) := al_X11_count_0 (58, (.ireturn, 1)) (List.mem_of_getElem? (i := 19) rfl)
theorem dX11_count_59 : decode cX11_count 59 = .ok (.iconst 0, 1) := al_X11_count_0 (59, (.iconst 0, 1)) (List.mem_of_getElem? (i := 20) rfl)
theorem dX11_count_60 : decode cX11_count 60 = .ok (.istore_n 3, 1) := al_X11_count_0 (60, (.istore_n 3, 1)) (List.mem_of_getElem? (i := 21) rfl)
theorem dX11_count_61 : decode cX11_count 61 = .ok (.iload_n 3, 1) := al_X11_count_0 (61, (.iload_n 3, 1)) (List.mem_of_getElem? (i := 22) rfl)
theorem dX11_count_62 : decode cX11_count 62 = .ok (.aload_n 0, 1) := al_X11_count_0 (62, (.aload_n 0, 1)) (List.mem_of_getElem? (i := 23) rfl)
theorem dX11_count_63 : decode cX11_count 63 = .ok (.invokevirtual 93, 3) := al_X11_count_0 (63, (.invokevirtual 93, 3)) (List.mem_of_getElem? (i := 24) rfl)
theorem dX11_count_66 : decode cX11_count 66 = .ok (.if_icmp .ge 17, 3) := al_X11_count_0 (66, (.if_icmp .ge 17, 3)) (List.mem_of_getElem? (i := 25) rfl)
theorem dX11_count_69 : decode cX11_count 69 = .ok (.iload_n 2, 1) := al_X11_count_0 (69, (.iload_n 2, 1)) (List.mem_of_getElem? (i := 26) rfl)
theorem dX11_count_70 : decode cX11_count 70 = .ok (.aload_n 0, 1) := al_X11_count_0 (70, (.aload_n 0, 1)) (List.mem_of_getElem? (i := 27) rfl)
theorem dX11_count_71 : decode cX11_count 71 = .ok (.iload_n 3, 1) := al_X11_count_0 (71, (.iload_n 3, 1)) (List.mem_of_getElem? (i := 28) rfl)
theorem dX11_count_72 : decode cX11_count 72 = .ok (.invokevirtual 105, 3) := al_X11_count_0 (72, (.invokevirtual 105, 3)) (List.mem_of_getElem? (i := 29) rfl)
theorem dX11_count_75 : decode cX11_count 75 = .ok (.iadd, 1) := al_X11_count_0 (75, (.iadd, 1)) (List.mem_of_getElem? (i := 30) rfl)
theorem dX11_count_76 : decode cX11_count 76 = .ok (.istore_n 2, 1) := al_X11_count_0 (76, (.istore_n 2, 1)) (List.mem_of_getElem? (i := 31) rfl)
theorem dX11_count_77 : decode cX11_count 77 = .ok (.iinc 3 1, 3) := al_X11_count_0 (77, (.iinc 3 1, 3)) (List.mem_of_getElem? (i := 32) rfl)
theorem dX11_count_80 : decode cX11_count 80 = .ok (.goto (-19), 3) := al_X11_count_0 (80, (.goto (-19), 3)) (List.mem_of_getElem? (i := 33) rfl)
theorem dX11_count_83 : decode cX11_count 83 = .ok (.iload_n 2, 1) := al_X11_count_0 (83, (.iload_n 2, 1)) (List.mem_of_getElem? (i := 34) rfl)
theorem dX11_count_84 : decode cX11_count 84 = .ok (.ireturn, 1) := al_X11_count_0 (84, (.ireturn, 1)) (List.mem_of_getElem? (i := 35) rfl)
theorem dX11_count_85 : decode cX11_count 85 = .ok (.iload_n 1, 1) := al_X11_count_0 (85, (.iload_n 1, 1)) (List.mem_of_getElem? (i := 36) rfl)
theorem dX11_count_86 : decode cX11_count 86 = .ok (.iconst 0, 1) := al_X11_count_0 (86, (.iconst 0, 1)) (List.mem_of_getElem? (i := 37) rfl)
theorem dX11_count_87 : decode cX11_count 87 = .ok (.iconst 4, 1) := al_X11_count_0 (87, (.iconst 4, 1)) (List.mem_of_getElem? (i := 38) rfl)
theorem dX11_count_88 : decode cX11_count 88 = .ok (.invokestatic 97, 3) := al_X11_count_0 (88, (.invokestatic 97, 3)) (List.mem_of_getElem? (i := 39) rfl)
theorem dX11_count_91 : decode cX11_count 91 = .ok (.ifCond .eq 12, 3) := al_X11_count_0 (91, (.ifCond .eq 12, 3)) (List.mem_of_getElem? (i := 40) rfl)
theorem dX11_count_94 : decode cX11_count 94 = .ok (.aload_n 0, 1) := al_X11_count_0 (94, (.aload_n 0, 1)) (List.mem_of_getElem? (i := 41) rfl)
theorem dX11_count_95 : decode cX11_count 95 = .ok (.getfield 13, 3) := al_X11_count_0 (95, (.getfield 13, 3)) (List.mem_of_getElem? (i := 42) rfl)
theorem dX11_count_98 : decode cX11_count 98 = .ok (.iload_n 1, 1) := al_X11_count_0 (98, (.iload_n 1, 1)) (List.mem_of_getElem? (i := 43) rfl)
theorem dX11_count_99 : decode cX11_count 99 = .ok (.iaload, 1) := al_X11_count_0 (99, (.iaload, 1)) (List.mem_of_getElem? (i := 44) rfl)
theorem dX11_count_100 : decode cX11_count 100 = .ok (.goto 4, 3) := al_X11_count_0 (100, (.goto 4, 3)) (List.mem_of_getElem? (i := 45) rfl)
theorem dX11_count_103 : decode cX11_count 103 = .ok (.iconst (-1), 1) := al_X11_count_0 (103, (.iconst (-1), 1)) (List.mem_of_getElem? (i := 46) rfl)
theorem dX11_count_104 : decode cX11_count 104 = .ok (.ireturn, 1) := al_X11_count_0 (104, (.ireturn, 1)) (List.mem_of_getElem? (i := 47) rfl)
set_option maxRecDepth 100000 in
theorem ggX11_noWay_X11_ways : GoodIn wsX11_noWay wsX11_ways := goodIn_r _ [5, 6, 10, 11, 12, 13, 14, 15, 16, 17, 18, 19, 20, 21, 22, 23, 24, 25, 26, 27, 28, 29, 30, 31, 32, 33, 34, 35, 36, 37, 38, 39, 40, 41, 42, 43] rfl (by decide +kernel)
set_option maxRecDepth 100000 in
theorem gX11_noWay_X11_ways : GoodIn wsX11_noWay (wsV RX11 93 RX11 yX11_ways wsX11_ways) := goodIn_app (goodIn_of _ (by decide +kernel)) ggX11_noWay_X11_ways
set_option maxRecDepth 100000 in
theorem ggX11_noWay_X11_in : GoodIn wsX11_noWay wsX11_in := goodIn_r _ [9] rfl (by decide +kernel)
set_option maxRecDepth 100000 in
theorem gX11_noWay_X11_in : GoodIn wsX11_noWay (va_wsS RX11 97 yX11_in wsX11_in) := goodIn_app (goodIn_of _ (by decide +kernel)) ggX11_noWay_X11_in
set_option maxRecDepth 100000 in
theorem ggX11_noCorner_X11_noWay : GoodIn wsX11_noCorner wsX11_noWay := goodIn_r _ [5, 6, 7, 8, 4, 9, 10, 11, 12, 13, 18, 19, 20, 21, 22, 23, 24, 25, 26, 27, 28, 29, 30, 31, 32, 33, 34, 35, 36, 37, 38, 39, 40, 41, 42, 43, 44, 45, 46, 47, 48, 49, 50, 51] rfl (by decide +kernel)
set_option maxRecDepth 100000 in
theorem gX11_noCorner_X11_noWay : GoodIn wsX11_noCorner (wsV RX11 101 RX11 yX11_noWay wsX11_noWay) := goodIn_app (goodIn_of _ (by decide +kernel)) ggX11_noCorner_X11_noWay
set_option maxRecDepth 100000 in
theorem ggX11_noCorner_X11_cornersOf : GoodIn wsX11_noCorner wsX11_cornersOf := goodIn_r _ [17, 10, 18, 19, 20, 21, 22, 23, 24, 25, 26, 27, 28, 29, 30, 31, 32, 33, 34, 35, 36, 37, 38, 39, 40, 41, 42, 43, 44, 45, 46, 47, 48, 49, 50, 51] rfl (by decide +kernel)
set_option maxRecDepth 100000 in
theorem gX11_noCorner_X11_cornersOf : GoodIn wsX11_noCorner (wsV RX11 105 RX11 yX11_cornersOf wsX11_cornersOf) := goodIn_app (goodIn_of _ (by decide +kernel)) ggX11_noCorner_X11_cornersOf
set_option maxRecDepth 100000 in
theorem ggX11_noCorner_X11_in : GoodIn wsX11_noCorner wsX11_in := goodIn_r _ [13] rfl (by decide +kernel)
set_option maxRecDepth 100000 in
theorem gX11_noCorner_X11_in : GoodIn wsX11_noCorner (va_wsS RX11 97 yX11_in wsX11_in) := goodIn_app (goodIn_of _ (by decide +kernel)) ggX11_noCorner_X11_in
set_option maxRecDepth 100000 in
theorem ggX11_blanks_X11_isAt : GoodIn wsX11_blanks wsX11_isAt := goodIn_r _ [7, 1, 8, 9, 10, 11, 12, 13, 14, 15, 16, 17, 18, 19, 20, 21, 22, 23, 24, 25, 26, 27, 28, 29, 30, 31, 32, 33, 34, 35, 36, 37, 38, 39, 40, 41, 42, 43] rfl (by decide +kernel)
set_option maxRecDepth 100000 in
theorem gX11_blanks_X11_isAt : GoodIn wsX11_blanks (wsV RX11 118 RX11 yX11_isAt wsX11_isAt) := goodIn_app (goodIn_of _ (by decide +kernel)) ggX11_blanks_X11_isAt
set_option maxRecDepth 100000 in
theorem ggX11_letters_X11_blanks : GoodIn wsX11_letters wsX11_blanks := goodIn_r _ [6, 1, 7, 8, 9, 10, 5, 11, 12, 13, 14, 15, 16, 17, 18, 19, 20, 21, 22, 23, 24, 25, 26, 27, 28, 29, 30, 31, 32, 33, 34, 35, 36, 37, 38, 39, 40, 41, 42, 43, 44, 45, 46, 47] rfl (by decide +kernel)
set_option maxRecDepth 100000 in
theorem gX11_letters_X11_blanks : GoodIn wsX11_letters (wsV RX11 125 RX11 yX11_blanks wsX11_blanks) := goodIn_app (goodIn_of _ (by decide +kernel)) ggX11_letters_X11_blanks
set_option maxRecDepth 100000 in
theorem ggX11_letters_X11_isAt : GoodIn wsX11_letters wsX11_isAt := goodIn_r _ [11, 1, 12, 13, 14, 15, 16, 17, 18, 19, 20, 21, 22, 23, 24, 25, 26, 27, 28, 29, 30, 31, 32, 33, 34, 35, 36, 37, 38, 39, 40, 41, 42, 43, 44, 45, 46, 47] rfl (by decide +kernel)
set_option maxRecDepth 100000 in
theorem gX11_letters_X11_isAt : GoodIn wsX11_letters (wsV RX11 118 RX11 yX11_isAt wsX11_isAt) := goodIn_app (goodIn_of _ (by decide +kernel)) ggX11_letters_X11_isAt
set_option maxRecDepth 100000 in
theorem ggX11_isWord_J0_length_8abf5 : GoodIn wsX11_isWord wsJ0_length_8abf5 := goodIn_r _ [8, 9, 10, 11, 12, 7, 13, 14, 15] rfl (by decide +kernel)
set_option maxRecDepth 100000 in
theorem gX11_isWord_J0_length_8abf5 : GoodIn wsX11_isWord (wsV RX11 128 RJ0 yJ0_length_8abf5 wsJ0_length_8abf5) := goodIn_app (goodIn_of _ (by decide +kernel)) ggX11_isWord_J0_length_8abf5
set_option maxRecDepth 100000 in
theorem ggX11_isWord_J0_charAt_5068e : GoodIn wsX11_isWord wsJ0_charAt_5068e := goodIn_r _ [19, 9, 20, 21, 22, 7, 23, 14, 15, 24, 25, 26, 27, 28, 29, 30, 31, 32, 33, 34, 35, 36, 37, 38, 39, 40, 41, 42, 43, 44, 45, 46, 47, 48, 49, 50, 51, 52] rfl (by decide +kernel)
set_option maxRecDepth 100000 in
theorem gX11_isWord_J0_charAt_5068e : GoodIn wsX11_isWord (wsV RX11 133 RJ0 yJ0_charAt_5068e wsJ0_charAt_5068e) := goodIn_app (goodIn_of _ (by decide +kernel)) ggX11_isWord_J0_charAt_5068e
set_option maxRecDepth 100000 in
theorem ggX11_passes_X11_letters : GoodIn wsX11_passes wsX11_letters := goodIn_r _ [7, 2, 8, 9, 10, 6, 11, 1, 12, 13, 14, 15, 16, 17, 71, 72, 73, 74, 75, 76, 77, 78, 79, 80, 81, 82, 83, 84, 85, 86, 87, 88, 89, 90, 91, 92, 93, 94, 95, 96, 97, 98, 99, 100, 101, 102, 103, 104] rfl (by decide +kernel)
set_option maxRecDepth 100000 in
theorem gX11_passes_X11_letters : GoodIn wsX11_passes (wsV RX11 137 RX11 yX11_letters wsX11_letters) := goodIn_app (goodIn_of _ (by decide +kernel)) ggX11_passes_X11_letters
set_option maxRecDepth 100000 in
theorem ggX11_passes_X11_isWord : GoodIn wsX11_passes wsX11_isWord := goodIn_r _ [21, 2, 1, 17, 22, 23, 24, 25, 26, 27, 28, 29, 30, 31, 32, 33, 34, 35, 36, 37, 38, 39, 40, 41, 42, 43, 44, 45, 46, 47, 48, 49, 50, 51, 52, 53, 54, 55, 56, 57, 58, 59, 60, 61, 62, 63, 64, 65, 66, 67, 68, 69, 70, 71, 72, 73, 74, 75, 76, 77, 78, 79, 80, 81, 82, 83, 84, 85, 86, 87, 88, 89, 90, 91, 92, 93, 94, 95, 96, 97, 98, 99, 100, 101, 102, 103, 104] rfl (by decide +kernel)
set_option maxRecDepth 100000 in
theorem gX11_passes_X11_isWord : GoodIn wsX11_passes (wsV RX11 140 RX11 yX11_isWord wsX11_isWord) := goodIn_app (goodIn_of _ (by decide +kernel)) ggX11_passes_X11_isWord
set_option maxRecDepth 100000 in
theorem ggX11_sign_X11_blanks : GoodIn wsX11_sign wsX11_blanks := goodIn_r _ [6, 1, 7, 8, 9, 10, 5, 11, 12, 13, 14, 15, 16, 17, 18, 19, 20, 21, 22, 23, 24, 25, 26, 27, 28, 29, 30, 31, 32, 33, 34, 35, 36, 37, 38, 39, 40, 41, 42, 43, 44, 45, 46, 47] rfl (by decide +kernel)
set_option maxRecDepth 100000 in
theorem gX11_sign_X11_blanks : GoodIn wsX11_sign (wsV RX11 125 RX11 yX11_blanks wsX11_blanks) := goodIn_app (goodIn_of _ (by decide +kernel)) ggX11_sign_X11_blanks
set_option maxRecDepth 100000 in
theorem ggX11_sign_X11_isAt : GoodIn wsX11_sign wsX11_isAt := goodIn_r _ [11, 1, 12, 13, 14, 15, 16, 17, 18, 19, 20, 21, 22, 23, 24, 25, 26, 27, 28, 29, 30, 31, 32, 33, 34, 35, 36, 37, 38, 39, 40, 41, 42, 43, 44, 45, 46, 47] rfl (by decide +kernel)
set_option maxRecDepth 100000 in
theorem gX11_sign_X11_isAt : GoodIn wsX11_sign (wsV RX11 118 RX11 yX11_isAt wsX11_isAt) := goodIn_app (goodIn_of _ (by decide +kernel)) ggX11_sign_X11_isAt
set_option maxRecDepth 100000 in
theorem ggX11_figures_X11_blanks : GoodIn wsX11_figures wsX11_blanks := goodIn_r _ [8, 1, 2, 9, 10, 11, 7, 12, 13, 3, 14, 15, 16, 17, 18, 19, 20, 21, 22, 23, 24, 25, 26, 27, 28, 29, 30, 31, 32, 33, 34, 35, 36, 37, 38, 39, 40, 41, 42, 43, 44, 45, 46, 47] rfl (by decide +kernel)
set_option maxRecDepth 100000 in
theorem gX11_figures_X11_blanks : GoodIn wsX11_figures (wsV RX11 125 RX11 yX11_blanks wsX11_blanks) := goodIn_app (goodIn_of _ (by decide +kernel)) ggX11_figures_X11_blanks
set_option maxRecDepth 100000 in
theorem ggX11_figures_X11_isAt : GoodIn wsX11_figures wsX11_isAt := goodIn_r _ [12, 1, 13, 3, 14, 15, 16, 17, 18, 19, 20, 21, 22, 23, 24, 25, 26, 27, 28, 29, 30, 31, 32, 33, 34, 35, 36, 37, 38, 39, 40, 41, 42, 43, 44, 45, 46, 47] rfl (by decide +kernel)
set_option maxRecDepth 100000 in
theorem gX11_figures_X11_isAt : GoodIn wsX11_figures (wsV RX11 118 RX11 yX11_isAt wsX11_isAt) := goodIn_app (goodIn_of _ (by decide +kernel)) ggX11_figures_X11_isAt
set_option maxRecDepth 100000 in
theorem ggX11_number_X11_figures : GoodIn wsX11_number wsX11_figures := goodIn_r _ [5, 6, 7, 8, 9, 10, 11, 4, 12, 13, 14, 15, 16, 17, 18, 19, 20, 21, 22, 23, 24, 25, 26, 27, 28, 29, 30, 31, 32, 33, 34, 35, 36, 37, 38, 39, 40, 41, 42, 43, 44, 45, 46, 47, 48, 49, 50, 51] rfl (by decide +kernel)
set_option maxRecDepth 100000 in
theorem gX11_number_X11_figures : GoodIn wsX11_number (wsV RX11 144 RX11 yX11_figures wsX11_figures) := goodIn_app (goodIn_of _ (by decide +kernel)) ggX11_number_X11_figures
set_option maxRecDepth 100000 in
theorem ggX11_readCorners_X11_number : GoodIn wsX11_readCorners wsX11_number := goodIn_r _ [6, 7, 8, 9, 5, 10, 11, 12, 13, 14, 15, 16, 17, 18, 19, 20, 21, 22, 27, 28, 29, 30, 31, 32, 33, 34, 35, 36, 37, 38, 39, 40, 41, 42, 43, 44, 45, 46, 47, 48, 49, 50, 51, 52, 53, 54, 55, 56, 57, 58, 59, 60] rfl (by decide +kernel)
set_option maxRecDepth 100000 in
theorem gX11_readCorners_X11_number : GoodIn wsX11_readCorners (wsV RX11 148 RX11 yX11_number wsX11_number) := goodIn_app (goodIn_of _ (by decide +kernel)) ggX11_readCorners_X11_number
set_option maxRecDepth 100000 in
theorem ggX11_readCorners_X11_cornersOf : GoodIn wsX11_readCorners wsX11_cornersOf := goodIn_r _ [26, 1, 27, 28, 29, 30, 31, 32, 33, 34, 35, 36, 37, 38, 39, 40, 41, 42, 43, 44, 45, 46, 47, 48, 49, 50, 51, 52, 53, 54, 55, 56, 57, 58, 59, 60] rfl (by decide +kernel)
set_option maxRecDepth 100000 in
theorem gX11_readCorners_X11_cornersOf : GoodIn wsX11_readCorners (wsV RX11 105 RX11 yX11_cornersOf wsX11_cornersOf) := goodIn_app (goodIn_of _ (by decide +kernel)) ggX11_readCorners_X11_cornersOf
set_option maxRecDepth 100000 in
theorem ggX11_readCorners_X11_blanks : GoodIn wsX11_readCorners wsX11_blanks := goodIn_r _ [17, 11, 12, 18, 19, 20, 5, 21, 22, 13, 27, 28, 29, 30, 31, 32, 33, 34, 35, 36, 37, 38, 39, 40, 41, 42, 43, 44, 45, 46, 47, 48, 49, 50, 51, 52, 53, 54, 55, 56, 57, 58, 59, 60] rfl (by decide +kernel)
set_option maxRecDepth 100000 in
theorem gX11_readCorners_X11_blanks : GoodIn wsX11_readCorners (wsV RX11 125 RX11 yX11_blanks wsX11_blanks) := goodIn_app (goodIn_of _ (by decide +kernel)) ggX11_readCorners_X11_blanks
set_option maxRecDepth 100000 in
theorem ggX11_readCorners_X11_isAt : GoodIn wsX11_readCorners wsX11_isAt := goodIn_r _ [21, 11, 22, 13, 27, 28, 29, 30, 31, 32, 33, 34, 35, 36, 37, 38, 39, 40, 41, 42, 43, 44, 45, 46, 47, 48, 49, 50, 51, 52, 53, 54, 55, 56, 57, 58, 59, 60] rfl (by decide +kernel)
set_option maxRecDepth 100000 in
theorem gX11_readCorners_X11_isAt : GoodIn wsX11_readCorners (wsV RX11 118 RX11 yX11_isAt wsX11_isAt) := goodIn_app (goodIn_of _ (by decide +kernel)) ggX11_readCorners_X11_isAt
set_option maxRecDepth 100000 in
theorem ggX11_readWay_X11_ways : GoodIn wsX11_readWay wsX11_ways := goodIn_r _ [6, 1, 35, 36, 37, 38, 39, 40, 41, 42, 43, 44, 45, 46, 47, 48, 49, 50, 51, 52, 53, 54, 55, 56, 57, 58, 59, 60, 61, 62, 63, 64, 65, 66, 67, 68] rfl (by decide +kernel)
set_option maxRecDepth 100000 in
theorem gX11_readWay_X11_ways : GoodIn wsX11_readWay (wsV RX11 93 RX11 yX11_ways wsX11_ways) := goodIn_app (goodIn_of _ (by decide +kernel)) ggX11_readWay_X11_ways
set_option maxRecDepth 100000 in
theorem ggX11_readWay_X11_readCorners : GoodIn wsX11_readWay wsX11_readCorners := goodIn_r _ [10, 1, 11, 12, 13, 5, 14, 15, 16, 17, 18, 19, 20, 21, 22, 23, 24, 25, 26, 27, 28, 29, 30, 31, 32, 33, 34, 35, 36, 37, 38, 39, 40, 41, 42, 43, 44, 45, 46, 47, 48, 49, 50, 51, 52, 53, 54, 55, 56, 57, 58, 59, 60, 61, 62, 63, 64, 65, 66, 67, 68] rfl (by decide +kernel)
set_option maxRecDepth 100000 in
theorem gX11_readWay_X11_readCorners : GoodIn wsX11_readWay (wsV RX11 152 RX11 yX11_readCorners wsX11_readCorners) := goodIn_app (goodIn_of _ (by decide +kernel)) ggX11_readWay_X11_readCorners
set_option maxRecDepth 100000 in
theorem ggX11_readWall_X11_number : GoodIn wsX11_readWall wsX11_number := goodIn_r _ [6, 7, 8, 9, 5, 10, 11, 12, 13, 14, 15, 16, 17, 18, 19, 20, 21, 22, 23, 24, 25, 26, 27, 28, 29, 30, 31, 32, 33, 34, 35, 36, 37, 38, 39, 40, 41, 42, 43, 44, 45, 46, 47, 48, 49, 50, 51, 52, 53, 54, 55, 56] rfl (by decide +kernel)
set_option maxRecDepth 100000 in
theorem gX11_readWall_X11_number : GoodIn wsX11_readWall (wsV RX11 148 RX11 yX11_number wsX11_number) := goodIn_app (goodIn_of _ (by decide +kernel)) ggX11_readWall_X11_number
set_option maxRecDepth 100000 in
theorem ggX11_readParkLine_X11_isWord : GoodIn wsX11_readParkLine wsX11_isWord := goodIn_r _ [5, 6, 7, 8, 9, 10, 11, 12, 13, 14, 15, 16, 17, 18, 19, 20, 21, 22, 23, 24, 25, 26, 27, 28, 29, 30, 31, 32, 33, 34, 35, 36, 37, 38, 39, 40, 41, 42, 43, 44, 45, 46, 47, 48, 49, 50, 51, 52, 53, 54, 55, 56, 57, 96, 97, 98, 99, 100, 101, 102, 103, 104, 105, 106, 107, 108, 109, 110, 111, 112, 113, 114, 115, 116, 117, 118, 119, 120, 121, 122, 123, 124, 125, 126, 127, 128, 129] rfl (by decide +kernel)
set_option maxRecDepth 100000 in
theorem gX11_readParkLine_X11_isWord : GoodIn wsX11_readParkLine (wsV RX11 140 RX11 yX11_isWord wsX11_isWord) := goodIn_app (goodIn_of _ (by decide +kernel)) ggX11_readParkLine_X11_isWord
set_option maxRecDepth 100000 in
theorem ggX11_readParkLine_X11_readWay : GoodIn wsX11_readParkLine wsX11_readWay := goodIn_r _ [61, 62, 63, 64, 65, 4, 66, 67, 68, 69, 70, 71, 72, 73, 74, 75, 76, 77, 78, 6, 7, 8, 79, 80, 81, 82, 83, 84, 85, 86, 87, 88, 89, 90, 91, 96, 97, 98, 99, 100, 101, 102, 103, 104, 105, 106, 107, 108, 109, 110, 111, 112, 113, 114, 115, 116, 117, 118, 119, 120, 121, 122, 123, 124, 125, 126, 127, 128, 129] rfl (by decide +kernel)
set_option maxRecDepth 100000 in
theorem gX11_readParkLine_X11_readWay : GoodIn wsX11_readParkLine (wsV RX11 157 RX11 yX11_readWay wsX11_readWay) := goodIn_app (goodIn_of _ (by decide +kernel)) ggX11_readParkLine_X11_readWay
set_option maxRecDepth 100000 in
theorem ggX11_readParkLine_X11_readWall : GoodIn wsX11_readParkLine wsX11_readWall := goodIn_r _ [95, 62, 71, 72, 73, 4, 74, 75, 76, 77, 78, 6, 7, 8, 79, 80, 81, 82, 83, 84, 85, 86, 87, 96, 97, 98, 99, 100, 101, 102, 103, 104, 105, 106, 107, 108, 109, 110, 111, 112, 113, 114, 115, 116, 117, 118, 119, 120, 121, 122, 123, 124, 125, 126, 127, 128, 129] rfl (by decide +kernel)
set_option maxRecDepth 100000 in
theorem gX11_readParkLine_X11_readWall : GoodIn wsX11_readParkLine (wsV RX11 163 RX11 yX11_readWall wsX11_readWall) := goodIn_app (goodIn_of _ (by decide +kernel)) ggX11_readParkLine_X11_readWall
set_option maxRecDepth 100000 in
theorem ggX11_readParkLine_X11_ways : GoodIn wsX11_readParkLine wsX11_ways := goodIn_r _ [66, 62, 96, 97, 98, 99, 100, 101, 102, 103, 104, 105, 106, 107, 108, 109, 110, 111, 112, 113, 114, 115, 116, 117, 118, 119, 120, 121, 122, 123, 124, 125, 126, 127, 128, 129] rfl (by decide +kernel)
set_option maxRecDepth 100000 in
theorem gX11_readParkLine_X11_ways : GoodIn wsX11_readParkLine (wsV RX11 93 RX11 yX11_ways wsX11_ways) := goodIn_app (goodIn_of _ (by decide +kernel)) ggX11_readParkLine_X11_ways
set_option maxRecDepth 100000 in
theorem ggX11_readParkLine_X11_number : GoodIn wsX11_readParkLine wsX11_number := goodIn_r _ [74, 75, 76, 77, 4, 78, 6, 7, 8, 79, 80, 81, 82, 83, 84, 85, 86, 87, 96, 97, 98, 99, 100, 101, 102, 103, 104, 105, 106, 107, 108, 109, 110, 111, 112, 113, 114, 115, 116, 117, 118, 119, 120, 121, 122, 123, 124, 125, 126, 127, 128, 129] rfl (by decide +kernel)
set_option maxRecDepth 100000 in
theorem gX11_readParkLine_X11_number : GoodIn wsX11_readParkLine (wsV RX11 148 RX11 yX11_number wsX11_number) := goodIn_app (goodIn_of _ (by decide +kernel)) ggX11_readParkLine_X11_number
set_option maxRecDepth 100000 in
theorem ggX11_readParkLine_X11_readCorners : GoodIn wsX11_readParkLine wsX11_readCorners := goodIn_r _ [70, 62, 71, 72, 73, 4, 74, 75, 76, 77, 78, 6, 7, 8, 79, 80, 81, 82, 83, 84, 85, 86, 87, 88, 89, 90, 91, 96, 97, 98, 99, 100, 101, 102, 103, 104, 105, 106, 107, 108, 109, 110, 111, 112, 113, 114, 115, 116, 117, 118, 119, 120, 121, 122, 123, 124, 125, 126, 127, 128, 129] rfl (by decide +kernel)
set_option maxRecDepth 100000 in
theorem gX11_readParkLine_X11_readCorners : GoodIn wsX11_readParkLine (wsV RX11 152 RX11 yX11_readCorners wsX11_readCorners) := goodIn_app (goodIn_of _ (by decide +kernel)) ggX11_readParkLine_X11_readCorners
set_option maxRecDepth 100000 in
theorem ggX11_readPart_X11_letters : GoodIn wsX11_readPart wsX11_letters := goodIn_r _ [8, 1, 9, 10, 11, 7, 12, 2, 13, 14, 15, 16, 17, 18, 82, 83, 84, 85, 86, 87, 88, 89, 90, 91, 92, 93, 94, 95, 96, 97, 98, 99, 100, 101, 102, 103, 104, 105, 106, 107, 108, 109, 110, 111, 112, 113, 114, 115] rfl (by decide +kernel)
set_option maxRecDepth 100000 in
theorem gX11_readPart_X11_letters : GoodIn wsX11_readPart (wsV RX11 137 RX11 yX11_letters wsX11_letters) := goodIn_app (goodIn_of _ (by decide +kernel)) ggX11_readPart_X11_letters
set_option maxRecDepth 100000 in
theorem ggX11_readPart_X11_figures : GoodIn wsX11_readPart wsX11_figures := goodIn_r _ [22, 1, 2, 18, 9, 10, 11, 7, 12, 13, 14, 15, 16, 17, 82, 83, 84, 85, 86, 87, 88, 89, 90, 91, 92, 93, 94, 95, 96, 97, 98, 99, 100, 101, 102, 103, 104, 105, 106, 107, 108, 109, 110, 111, 112, 113, 114, 115] rfl (by decide +kernel)
set_option maxRecDepth 100000 in
theorem gX11_readPart_X11_figures : GoodIn wsX11_readPart (wsV RX11 144 RX11 yX11_figures wsX11_figures) := goodIn_app (goodIn_of _ (by decide +kernel)) ggX11_readPart_X11_figures
set_option maxRecDepth 100000 in
theorem ggX11_readPart_X11_emits : GoodIn wsX11_readPart wsX11_emits := goodIn_r _ [26, 27, 28, 82, 83, 84, 85, 86, 87, 88, 89, 90, 91, 92, 93, 94, 95, 96, 97, 98, 99, 100, 101, 102, 103, 104, 105, 106, 107, 108, 109, 110, 111, 112, 113, 114, 115] rfl (by decide +kernel)
set_option maxRecDepth 100000 in
theorem gX11_readPart_X11_emits : GoodIn wsX11_readPart (wsV RX11 172 RX11 yX11_emits wsX11_emits) := goodIn_app (goodIn_of _ (by decide +kernel)) ggX11_readPart_X11_emits
set_option maxRecDepth 100000 in
theorem ggX11_readPart_X11_isWord : GoodIn wsX11_readPart wsX11_isWord := goodIn_r _ [32, 1, 2, 18, 33, 34, 35, 36, 37, 38, 39, 40, 41, 42, 43, 44, 45, 46, 47, 48, 49, 50, 51, 52, 53, 54, 55, 56, 57, 58, 59, 60, 61, 62, 63, 64, 65, 66, 67, 68, 69, 70, 71, 72, 73, 74, 75, 76, 77, 78, 79, 80, 81, 82, 83, 84, 85, 86, 87, 88, 89, 90, 91, 92, 93, 94, 95, 96, 97, 98, 99, 100, 101, 102, 103, 104, 105, 106, 107, 108, 109, 110, 111, 112, 113, 114, 115] rfl (by decide +kernel)
set_option maxRecDepth 100000 in
theorem gX11_readPart_X11_isWord : GoodIn wsX11_readPart (wsV RX11 140 RX11 yX11_isWord wsX11_isWord) := goodIn_app (goodIn_of _ (by decide +kernel)) ggX11_readPart_X11_isWord
set_option maxRecDepth 100000 in
theorem ggX11_readSum_X11_readPart : GoodIn wsX11_readSum wsX11_readPart := goodIn_r _ [5, 6, 7, 8, 9, 10, 11, 4, 12, 13, 14, 15, 16, 17, 18, 19, 20, 21, 22, 23, 24, 25, 26, 27, 28, 29, 30, 31, 32, 33, 34, 35, 36, 37, 38, 39, 40, 41, 42, 43, 44, 45, 46, 47, 48, 49, 50, 51, 52, 53, 54, 55, 56, 57, 58, 59, 60, 61, 62, 63, 64, 65, 66, 67, 68, 69, 70, 71, 72, 73, 74, 75, 76, 77, 78, 79, 80, 81, 82, 83, 84, 85, 90, 91, 92, 93, 94, 95, 96, 97, 98, 99, 100, 101, 102, 103, 104, 105, 106, 107, 108, 109, 110, 111, 112, 113, 114, 115, 116, 117, 118, 119, 120, 121, 122, 123] rfl (by decide +kernel)
set_option maxRecDepth 100000 in
theorem gX11_readSum_X11_readPart : GoodIn wsX11_readSum (wsV RX11 189 RX11 yX11_readPart wsX11_readPart) := goodIn_app (goodIn_of _ (by decide +kernel)) ggX11_readSum_X11_readPart
set_option maxRecDepth 100000 in
theorem ggX11_readSum_X11_sign : GoodIn wsX11_readSum wsX11_sign := goodIn_r _ [89, 6, 13, 14, 15, 4, 16, 7, 17, 18, 19, 20, 21, 22, 90, 91, 92, 93, 94, 95, 96, 97, 98, 99, 100, 101, 102, 103, 104, 105, 106, 107, 108, 109, 110, 111, 112, 113, 114, 115, 116, 117, 118, 119, 120, 121, 122, 123] rfl (by decide +kernel)
set_option maxRecDepth 100000 in
theorem gX11_readSum_X11_sign : GoodIn wsX11_readSum (wsV RX11 192 RX11 yX11_sign wsX11_sign) := goodIn_app (goodIn_of _ (by decide +kernel)) ggX11_readSum_X11_sign
set_option maxRecDepth 100000 in
theorem ggX11_readSum_X11_emits : GoodIn wsX11_readSum wsX11_emits := goodIn_r _ [30, 31, 32, 90, 91, 92, 93, 94, 95, 96, 97, 98, 99, 100, 101, 102, 103, 104, 105, 106, 107, 108, 109, 110, 111, 112, 113, 114, 115, 116, 117, 118, 119, 120, 121, 122, 123] rfl (by decide +kernel)
set_option maxRecDepth 100000 in
theorem gX11_readSum_X11_emits : GoodIn wsX11_readSum (wsV RX11 172 RX11 yX11_emits wsX11_emits) := goodIn_app (goodIn_of _ (by decide +kernel)) ggX11_readSum_X11_emits
set_option maxRecDepth 100000 in
theorem ggX11_readAtom_X11_sign : GoodIn wsX11_readAtom wsX11_sign := goodIn_r _ [6, 7, 8, 9, 10, 5, 11, 12, 13, 14, 15, 16, 17, 18, 110, 111, 112, 113, 114, 115, 116, 117, 118, 119, 120, 121, 122, 123, 124, 125, 126, 127, 128, 129, 130, 131, 132, 133, 134, 135, 136, 137, 138, 139, 140, 141, 142, 143] rfl (by decide +kernel)
set_option maxRecDepth 100000 in
theorem gX11_readAtom_X11_sign : GoodIn wsX11_readAtom (wsV RX11 192 RX11 yX11_sign wsX11_sign) := goodIn_app (goodIn_of _ (by decide +kernel)) ggX11_readAtom_X11_sign
set_option maxRecDepth 100000 in
theorem ggX11_readAtom_X11_readCond : GoodIn wsX11_readAtom wsX11_readCond := goodIn_r _ [106, 107, 108, 109, 5, 22, 23, 24, 25, 12, 7, 26, 27, 28, 29, 8, 9, 10, 11, 13, 14, 15, 16, 17, 18, 30, 31, 32, 33, 34, 35, 36, 37, 38, 39, 40, 41, 42, 43, 44, 45, 46, 47, 48, 49, 50, 51, 52, 53, 54, 55, 56, 57, 58, 59, 60, 61, 62, 63, 64, 65, 66, 67, 68, 69, 70, 71, 72, 73, 74, 75, 76, 77, 78, 79, 80, 81, 82, 86, 87, 88, 89, 90, 91, 105, 83, 84, 85, 0, 1, 2, 3, 4, 6, 19, 20, 21, 92, 93, 94, 95, 96, 97, 98, 99, 100, 101, 102, 103, 104, 110, 111, 112, 113, 114, 115, 116, 117, 118, 119, 120, 121, 122, 123, 124, 125, 126, 127, 128, 129, 130, 131, 132, 133, 134, 135, 136, 137, 138, 139, 140, 141, 142, 143] rfl (by decide +kernel)
set_option maxRecDepth 100000 in
theorem gX11_readAtom_X11_readCond : GoodIn wsX11_readAtom (wsV RX11 198 RX11 yX11_readCond wsX11_readCond) := goodIn_app (goodIn_of _ (by decide +kernel)) ggX11_readAtom_X11_readCond
set_option maxRecDepth 100000 in
theorem ggX11_readAtom_X11_passes : GoodIn wsX11_readAtom wsX11_passes := goodIn_r _ [25, 12, 7, 26, 27, 28, 5, 29, 8, 9, 10, 11, 13, 14, 15, 16, 17, 18, 30, 31, 32, 33, 34, 35, 36, 37, 38, 39, 40, 41, 42, 43, 44, 45, 46, 47, 48, 49, 50, 51, 52, 53, 54, 55, 56, 57, 58, 59, 60, 61, 62, 63, 64, 65, 66, 67, 68, 69, 70, 71, 72, 73, 74, 75, 76, 77, 78, 79, 80, 81, 82, 110, 111, 112, 113, 114, 115, 116, 117, 118, 119, 120, 121, 122, 123, 124, 125, 126, 127, 128, 129, 130, 131, 132, 133, 134, 135, 136, 137, 138, 139, 140, 141, 142, 143] rfl (by decide +kernel)
set_option maxRecDepth 100000 in
theorem gX11_readAtom_X11_passes : GoodIn wsX11_readAtom (wsV RX11 203 RX11 yX11_passes wsX11_passes) := goodIn_app (goodIn_of _ (by decide +kernel)) ggX11_readAtom_X11_passes
set_option maxRecDepth 100000 in
theorem ggX11_readAtom_X11_readAtom : GoodIn wsX11_readAtom wsX11_readAtom := goodIn_r _ [0, 1, 2, 3, 4, 5, 6, 7, 8, 9, 10, 11, 12, 13, 14, 15, 16, 17, 18, 19, 20, 21, 22, 23, 24, 25, 26, 27, 28, 29, 30, 31, 32, 33, 34, 35, 36, 37, 38, 39, 40, 41, 42, 43, 44, 45, 46, 47, 48, 49, 50, 51, 52, 53, 54, 55, 56, 57, 58, 59, 60, 61, 62, 63, 64, 65, 66, 67, 68, 69, 70, 71, 72, 73, 74, 75, 76, 77, 78, 79, 80, 81, 82, 83, 84, 85, 86, 87, 88, 89, 90, 91, 92, 93, 94, 95, 96, 97, 98, 99, 100, 101, 102, 103, 104, 105, 106, 107, 108, 109, 110, 111, 112, 113, 114, 115, 116, 117, 118, 119, 120, 121, 122, 123, 124, 125, 126, 127, 128, 129, 130, 131, 132, 133, 134, 135, 136, 137, 138, 139, 140, 141, 142, 143] rfl (by decide +kernel)
set_option maxRecDepth 100000 in
theorem gX11_readAtom_X11_readAtom : GoodIn wsX11_readAtom (wsV RX11 206 RX11 yX11_readAtom wsX11_readAtom) := goodIn_app (goodIn_of _ (by decide +kernel)) ggX11_readAtom_X11_readAtom
set_option maxRecDepth 100000 in
theorem ggX11_readAtom_X11_emits : GoodIn wsX11_readAtom wsX11_emits := goodIn_r _ [89, 90, 91, 110, 111, 112, 113, 114, 115, 116, 117, 118, 119, 120, 121, 122, 123, 124, 125, 126, 127, 128, 129, 130, 131, 132, 133, 134, 135, 136, 137, 138, 139, 140, 141, 142, 143] rfl (by decide +kernel)
set_option maxRecDepth 100000 in
theorem gX11_readAtom_X11_emits : GoodIn wsX11_readAtom (wsV RX11 172 RX11 yX11_emits wsX11_emits) := goodIn_app (goodIn_of _ (by decide +kernel)) ggX11_readAtom_X11_emits
set_option maxRecDepth 100000 in
theorem ggX11_readAtom_X11_readSum : GoodIn wsX11_readAtom wsX11_readSum := goodIn_r _ [95, 96, 97, 98, 5, 99, 7, 12, 100, 26, 27, 28, 29, 8, 9, 10, 11, 13, 14, 15, 16, 17, 18, 101, 102, 103, 104, 86, 87, 88, 89, 90, 91, 30, 31, 32, 33, 34, 35, 36, 37, 38, 39, 40, 41, 42, 43, 44, 45, 46, 47, 48, 49, 50, 51, 52, 53, 54, 55, 56, 57, 58, 59, 60, 61, 62, 63, 64, 65, 66, 67, 68, 69, 70, 71, 72, 73, 74, 75, 76, 77, 78, 79, 80, 81, 82, 2, 3, 4, 6, 110, 111, 112, 113, 114, 115, 116, 117, 118, 119, 120, 121, 122, 123, 124, 125, 126, 127, 128, 129, 130, 131, 132, 133, 134, 135, 136, 137, 138, 139, 140, 141, 142, 143] rfl (by decide +kernel)
set_option maxRecDepth 100000 in
theorem gX11_readAtom_X11_readSum : GoodIn wsX11_readAtom (wsV RX11 209 RX11 yX11_readSum wsX11_readSum) := goodIn_app (goodIn_of _ (by decide +kernel)) ggX11_readAtom_X11_readSum
set_option maxRecDepth 100000 in
theorem ggX11_readAllOf_X11_readAtom : GoodIn wsX11_readAllOf wsX11_readAtom := goodIn_r _ [84, 85, 86, 87, 88, 4, 89, 10, 15, 16, 17, 18, 9, 19, 20, 21, 22, 23, 24, 90, 91, 92, 5, 6, 7, 8, 11, 12, 13, 14, 25, 26, 27, 28, 29, 30, 31, 32, 33, 34, 35, 36, 37, 38, 39, 40, 41, 42, 43, 44, 45, 46, 47, 48, 49, 50, 51, 52, 53, 54, 55, 56, 57, 58, 59, 60, 61, 62, 63, 64, 65, 66, 67, 68, 69, 70, 71, 72, 73, 74, 75, 76, 77, 1, 2, 3, 78, 79, 80, 81, 82, 83, 93, 94, 95, 96, 97, 98, 99, 100, 101, 102, 103, 104, 105, 0, 106, 107, 108, 109, 110, 111, 112, 113, 114, 115, 116, 117, 118, 119, 120, 121, 122, 123, 124, 125, 126, 127, 128, 129, 130, 131, 132, 133, 134, 135, 136, 137, 138, 139, 140, 141, 142, 143] rfl (by decide +kernel)
set_option maxRecDepth 100000 in
theorem gX11_readAllOf_X11_readAtom : GoodIn wsX11_readAllOf (wsV RX11 206 RX11 yX11_readAtom wsX11_readAtom) := goodIn_app (goodIn_of _ (by decide +kernel)) ggX11_readAllOf_X11_readAtom
set_option maxRecDepth 100000 in
theorem ggX11_readAllOf_X11_passes : GoodIn wsX11_readAllOf wsX11_passes := goodIn_r _ [8, 9, 10, 11, 12, 13, 4, 14, 15, 16, 17, 18, 19, 20, 21, 22, 23, 24, 25, 26, 27, 28, 29, 30, 31, 32, 33, 34, 35, 36, 37, 38, 39, 40, 41, 42, 43, 44, 45, 46, 47, 48, 49, 50, 51, 52, 53, 54, 55, 56, 57, 58, 59, 60, 61, 62, 63, 64, 65, 66, 67, 68, 69, 70, 71, 72, 73, 74, 75, 76, 77, 110, 111, 112, 113, 114, 115, 116, 117, 118, 119, 120, 121, 122, 123, 124, 125, 126, 127, 128, 129, 130, 131, 132, 133, 134, 135, 136, 137, 138, 139, 140, 141, 142, 143] rfl (by decide +kernel)
set_option maxRecDepth 100000 in
theorem gX11_readAllOf_X11_passes : GoodIn wsX11_readAllOf (wsV RX11 203 RX11 yX11_passes wsX11_passes) := goodIn_app (goodIn_of _ (by decide +kernel)) ggX11_readAllOf_X11_passes
set_option maxRecDepth 100000 in
theorem ggX11_readAllOf_X11_emits : GoodIn wsX11_readAllOf wsX11_emits := goodIn_r _ [81, 82, 83, 110, 111, 112, 113, 114, 115, 116, 117, 118, 119, 120, 121, 122, 123, 124, 125, 126, 127, 128, 129, 130, 131, 132, 133, 134, 135, 136, 137, 138, 139, 140, 141, 142, 143] rfl (by decide +kernel)
set_option maxRecDepth 100000 in
theorem gX11_readAllOf_X11_emits : GoodIn wsX11_readAllOf (wsV RX11 172 RX11 yX11_emits wsX11_emits) := goodIn_app (goodIn_of _ (by decide +kernel)) ggX11_readAllOf_X11_emits
set_option maxRecDepth 100000 in
theorem ggX11_readCond_X11_readAllOf : GoodIn wsX11_readCond wsX11_readAllOf := goodIn_r _ [84, 85, 86, 87, 4, 5, 6, 7, 8, 9, 10, 11, 12, 13, 14, 15, 16, 17, 18, 19, 20, 21, 22, 23, 24, 25, 26, 27, 28, 29, 30, 31, 32, 33, 34, 35, 36, 37, 38, 39, 40, 41, 42, 43, 44, 45, 46, 47, 48, 49, 50, 51, 52, 53, 54, 55, 56, 57, 58, 59, 60, 61, 62, 63, 64, 65, 66, 67, 68, 69, 70, 71, 72, 73, 74, 75, 76, 77, 78, 79, 80, 81, 82, 83, 88, 89, 90, 91, 92, 93, 94, 95, 96, 97, 98, 99, 100, 101, 102, 103, 104, 105, 106, 107, 108, 109, 0, 1, 2, 3, 110, 111, 112, 113, 114, 115, 116, 117, 118, 119, 120, 121, 122, 123, 124, 125, 126, 127, 128, 129, 130, 131, 132, 133, 134, 135, 136, 137, 138, 139, 140, 141, 142, 143] rfl (by decide +kernel)
set_option maxRecDepth 100000 in
theorem gX11_readCond_X11_readAllOf : GoodIn wsX11_readCond (wsV RX11 214 RX11 yX11_readAllOf wsX11_readAllOf) := goodIn_app (goodIn_of _ (by decide +kernel)) ggX11_readCond_X11_readAllOf
set_option maxRecDepth 100000 in
theorem ggX11_readCond_X11_passes : GoodIn wsX11_readCond wsX11_passes := goodIn_r _ [8, 9, 10, 11, 12, 13, 4, 14, 15, 16, 17, 18, 19, 20, 21, 22, 23, 24, 25, 26, 27, 28, 29, 30, 31, 32, 33, 34, 35, 36, 37, 38, 39, 40, 41, 42, 43, 44, 45, 46, 47, 48, 49, 50, 51, 52, 53, 54, 55, 56, 57, 58, 59, 60, 61, 62, 63, 64, 65, 66, 67, 68, 69, 70, 71, 72, 73, 74, 75, 76, 77, 110, 111, 112, 113, 114, 115, 116, 117, 118, 119, 120, 121, 122, 123, 124, 125, 126, 127, 128, 129, 130, 131, 132, 133, 134, 135, 136, 137, 138, 139, 140, 141, 142, 143] rfl (by decide +kernel)
set_option maxRecDepth 100000 in
theorem gX11_readCond_X11_passes : GoodIn wsX11_readCond (wsV RX11 203 RX11 yX11_passes wsX11_passes) := goodIn_app (goodIn_of _ (by decide +kernel)) ggX11_readCond_X11_passes
set_option maxRecDepth 100000 in
theorem ggX11_readCond_X11_emits : GoodIn wsX11_readCond wsX11_emits := goodIn_r _ [81, 82, 83, 110, 111, 112, 113, 114, 115, 116, 117, 118, 119, 120, 121, 122, 123, 124, 125, 126, 127, 128, 129, 130, 131, 132, 133, 134, 135, 136, 137, 138, 139, 140, 141, 142, 143] rfl (by decide +kernel)
set_option maxRecDepth 100000 in
theorem gX11_readCond_X11_emits : GoodIn wsX11_readCond (wsV RX11 172 RX11 yX11_emits wsX11_emits) := goodIn_app (goodIn_of _ (by decide +kernel)) ggX11_readCond_X11_emits
set_option maxRecDepth 100000 in
theorem ggX11_readLawLine_X11_isWord : GoodIn wsX11_readLawLine wsX11_isWord := goodIn_r _ [8, 9, 10, 11, 12, 13, 14, 15, 16, 17, 18, 19, 20, 21, 22, 23, 24, 25, 26, 27, 28, 29, 30, 31, 32, 33, 34, 35, 36, 37, 38, 39, 40, 41, 42, 43, 44, 45, 46, 47, 48, 49, 50, 51, 52, 53, 54, 55, 56, 57, 58, 59, 60, 111, 112, 113, 114, 115, 116, 117, 118, 119, 120, 121, 122, 123, 124, 125, 126, 127, 128, 129, 130, 131, 132, 133, 134, 135, 136, 137, 138, 139, 140, 141, 142, 143, 144] rfl (by decide +kernel)
set_option maxRecDepth 100000 in
theorem gX11_readLawLine_X11_isWord : GoodIn wsX11_readLawLine (wsV RX11 140 RX11 yX11_isWord wsX11_isWord) := goodIn_app (goodIn_of _ (by decide +kernel)) ggX11_readLawLine_X11_isWord
set_option maxRecDepth 100000 in
theorem ggX11_readLawLine_X11_passes : GoodIn wsX11_readLawLine wsX11_passes := goodIn_r _ [64, 10, 9, 65, 66, 67, 7, 68, 69, 70, 71, 72, 73, 74, 75, 76, 77, 11, 4, 5, 6, 8, 12, 13, 14, 15, 16, 17, 18, 19, 20, 21, 22, 23, 24, 25, 26, 27, 28, 29, 30, 31, 32, 33, 34, 35, 36, 37, 38, 39, 40, 41, 42, 43, 44, 45, 46, 47, 48, 49, 50, 51, 52, 53, 54, 55, 56, 57, 58, 59, 60, 111, 112, 113, 114, 115, 116, 117, 118, 119, 120, 121, 122, 123, 124, 125, 126, 127, 128, 129, 130, 131, 132, 133, 134, 135, 136, 137, 138, 139, 140, 141, 142, 143, 144] rfl (by decide +kernel)
set_option maxRecDepth 100000 in
theorem gX11_readLawLine_X11_passes : GoodIn wsX11_readLawLine (wsV RX11 203 RX11 yX11_passes wsX11_passes) := goodIn_app (goodIn_of _ (by decide +kernel)) ggX11_readLawLine_X11_passes
set_option maxRecDepth 100000 in
theorem ggX11_readLawLine_X11_readCond : GoodIn wsX11_readLawLine wsX11_readCond := goodIn_r _ [81, 82, 83, 84, 7, 61, 62, 63, 64, 10, 9, 65, 66, 67, 68, 69, 70, 71, 72, 73, 74, 75, 76, 77, 11, 4, 5, 6, 8, 12, 13, 14, 15, 16, 17, 18, 19, 20, 21, 22, 23, 24, 25, 26, 27, 28, 29, 30, 31, 32, 33, 34, 35, 36, 37, 38, 39, 40, 41, 42, 43, 44, 45, 46, 47, 48, 49, 50, 51, 52, 53, 54, 55, 56, 57, 58, 59, 60, 85, 86, 87, 88, 1, 2, 89, 90, 91, 92, 93, 3, 94, 95, 96, 97, 78, 79, 80, 98, 99, 100, 101, 102, 103, 104, 105, 106, 107, 108, 109, 110, 111, 112, 113, 114, 115, 116, 117, 118, 119, 120, 121, 122, 123, 124, 125, 126, 127, 128, 129, 130, 131, 132, 133, 134, 135, 136, 137, 138, 139, 140, 141, 142, 143, 144] rfl (by decide +kernel)
set_option maxRecDepth 100000 in
theorem gX11_readLawLine_X11_readCond : GoodIn wsX11_readLawLine (wsV RX11 198 RX11 yX11_readCond wsX11_readCond) := goodIn_app (goodIn_of _ (by decide +kernel)) ggX11_readLawLine_X11_readCond
set_option maxRecDepth 100000 in
theorem ggX11_readLine_X11_letters : GoodIn wsX11_readLine wsX11_letters := goodIn_r _ [5, 6, 7, 8, 9, 4, 10, 11, 12, 13, 14, 15, 16, 17, 143, 144, 145, 146, 147, 148, 149, 150, 151, 152, 153, 154, 155, 156, 157, 158, 159, 160, 161, 162, 163, 164, 165, 166, 167, 168, 169, 170, 171, 172, 173, 174, 175, 176] rfl (by decide +kernel)
set_option maxRecDepth 100000 in
theorem gX11_readLine_X11_letters : GoodIn wsX11_readLine (wsV RX11 137 RX11 yX11_letters wsX11_letters) := goodIn_app (goodIn_of _ (by decide +kernel)) ggX11_readLine_X11_letters
set_option maxRecDepth 100000 in
theorem ggX11_readLine_X11_readParkLine : GoodIn wsX11_readLine wsX11_readParkLine := goodIn_r _ [21, 22, 23, 24, 4, 25, 6, 11, 17, 26, 27, 28, 29, 30, 31, 32, 33, 34, 35, 36, 37, 38, 39, 40, 41, 42, 43, 44, 45, 46, 47, 48, 49, 50, 51, 52, 53, 54, 55, 56, 57, 58, 59, 60, 61, 62, 63, 64, 65, 66, 67, 68, 69, 70, 71, 72, 73, 74, 75, 76, 77, 78, 79, 80, 81, 82, 83, 84, 85, 86, 87, 88, 89, 90, 91, 92, 93, 94, 95, 7, 8, 9, 10, 12, 13, 14, 15, 16, 96, 97, 98, 99, 100, 101, 102, 103, 143, 144, 145, 146, 147, 148, 149, 150, 151, 152, 153, 154, 155, 156, 157, 158, 159, 160, 161, 162, 163, 164, 165, 166, 167, 168, 169, 170, 171, 172, 173, 174, 175, 176] rfl (by decide +kernel)
set_option maxRecDepth 100000 in
theorem gX11_readLine_X11_readParkLine : GoodIn wsX11_readLine (wsV RX11 223 RX11 yX11_readParkLine wsX11_readParkLine) := goodIn_app (goodIn_of _ (by decide +kernel)) ggX11_readLine_X11_readParkLine
set_option maxRecDepth 100000 in
theorem ggX11_readLine_X11_readLawLine : GoodIn wsX11_readLine wsX11_readLawLine := goodIn_r _ [107, 79, 108, 109, 22, 23, 24, 4, 25, 6, 11, 17, 26, 27, 28, 29, 30, 31, 32, 33, 34, 35, 36, 37, 38, 39, 40, 41, 42, 43, 44, 45, 46, 47, 48, 49, 50, 51, 52, 53, 54, 55, 56, 57, 58, 59, 60, 61, 62, 63, 64, 65, 66, 67, 68, 69, 70, 71, 72, 73, 74, 110, 111, 112, 113, 1, 2, 3, 5, 7, 8, 9, 10, 12, 13, 14, 15, 16, 114, 115, 116, 117, 118, 119, 120, 121, 122, 123, 124, 125, 126, 127, 128, 129, 130, 131, 132, 133, 134, 135, 136, 137, 138, 139, 140, 141, 142, 92, 93, 94, 95, 143, 144, 145, 146, 147, 148, 149, 150, 151, 152, 153, 154, 155, 156, 157, 158, 159, 160, 161, 162, 163, 164, 165, 166, 167, 168, 169, 170, 171, 172, 173, 174, 175, 176] rfl (by decide +kernel)
set_option maxRecDepth 100000 in
theorem gX11_readLine_X11_readLawLine : GoodIn wsX11_readLine (wsV RX11 226 RX11 yX11_readLawLine wsX11_readLawLine) := goodIn_app (goodIn_of _ (by decide +kernel)) ggX11_readLine_X11_readLawLine
set_option maxRecDepth 100000 in
theorem ggX11_readAll_X11_uses : GoodIn wsX11_readAll wsX11_uses := goodIn_r _ [8, 9, 10, 3, 2, 153, 154, 155, 156, 157, 158, 159, 160, 161, 162, 163, 164, 165, 166, 167, 168, 169, 170, 171, 172, 173, 174, 175, 176, 177, 178, 179, 180, 181, 182, 183, 184, 185, 186] rfl (by decide +kernel)
set_option maxRecDepth 100000 in
theorem gX11_readAll_X11_uses : GoodIn wsX11_readAll (wsV RX11 229 RX11 yX11_uses wsX11_uses) := goodIn_app (goodIn_of _ (by decide +kernel)) ggX11_readAll_X11_uses
set_option maxRecDepth 100000 in
theorem ggX11_readAll_X11_blanks : GoodIn wsX11_readAll wsX11_blanks := goodIn_r _ [14, 2, 15, 16, 17, 18, 7, 19, 3, 20, 153, 154, 155, 156, 157, 158, 159, 160, 161, 162, 163, 164, 165, 166, 167, 168, 169, 170, 171, 172, 173, 174, 175, 176, 177, 178, 179, 180, 181, 182, 183, 184, 185, 186] rfl (by decide +kernel)
set_option maxRecDepth 100000 in
theorem gX11_readAll_X11_blanks : GoodIn wsX11_readAll (wsV RX11 125 RX11 yX11_blanks wsX11_blanks) := goodIn_app (goodIn_of _ (by decide +kernel)) ggX11_readAll_X11_blanks
set_option maxRecDepth 100000 in
theorem ggX11_readAll_X11_readLine : GoodIn wsX11_readAll wsX11_readLine := goodIn_r _ [24, 25, 26, 27, 7, 28, 2, 11, 12, 13, 14, 15, 16, 17, 18, 19, 3, 20, 29, 30, 31, 32, 33, 34, 35, 36, 37, 38, 39, 40, 41, 42, 43, 44, 45, 46, 47, 48, 49, 50, 51, 52, 53, 54, 55, 56, 57, 58, 59, 60, 61, 62, 63, 64, 65, 66, 67, 68, 69, 70, 71, 72, 73, 74, 75, 76, 77, 78, 79, 80, 81, 82, 83, 84, 85, 86, 87, 88, 89, 90, 91, 92, 93, 94, 95, 96, 97, 98, 99, 100, 101, 102, 103, 104, 105, 106, 107, 108, 109, 110, 111, 112, 113, 114, 115, 116, 117, 118, 1, 119, 120, 121, 122, 123, 124, 125, 126, 127, 128, 129, 130, 131, 132, 133, 134, 135, 136, 137, 138, 139, 140, 141, 142, 143, 144, 145, 146, 147, 148, 149, 150, 151, 152, 153, 154, 155, 156, 157, 158, 159, 160, 161, 162, 163, 164, 165, 166, 167, 168, 169, 170, 171, 172, 173, 174, 175, 176, 177, 178, 179, 180, 181, 182, 183, 184, 185, 186] rfl (by decide +kernel)
set_option maxRecDepth 100000 in
theorem gX11_readAll_X11_readLine : GoodIn wsX11_readAll (wsV RX11 232 RX11 yX11_readLine wsX11_readLine) := goodIn_app (goodIn_of _ (by decide +kernel)) ggX11_readAll_X11_readLine
set_option maxRecDepth 100000 in
theorem ggX11_readAll_X11_isAt : GoodIn wsX11_readAll wsX11_isAt := goodIn_r _ [19, 2, 3, 20, 153, 154, 155, 156, 157, 158, 159, 160, 161, 162, 163, 164, 165, 166, 167, 168, 169, 170, 171, 172, 173, 174, 175, 176, 177, 178, 179, 180, 181, 182, 183, 184, 185, 186] rfl (by decide +kernel)
set_option maxRecDepth 100000 in
theorem gX11_readAll_X11_isAt : GoodIn wsX11_readAll (wsV RX11 118 RX11 yX11_isAt wsX11_isAt) := goodIn_app (goodIn_of _ (by decide +kernel)) ggX11_readAll_X11_isAt
set_option maxRecDepth 100000 in
theorem ggX11_park_X11_readAll : GoodIn wsX11_park wsX11_readAll := goodIn_r _ [9, 10, 11, 12, 13, 14, 15, 8, 16, 17, 18, 19, 20, 21, 22, 3, 23, 24, 25, 26, 27, 28, 29, 30, 31, 32, 33, 34, 35, 36, 37, 38, 39, 40, 41, 42, 43, 44, 45, 46, 47, 48, 49, 50, 51, 52, 53, 54, 55, 56, 57, 58, 59, 60, 61, 62, 63, 64, 65, 66, 67, 68, 69, 70, 71, 72, 73, 74, 75, 76, 77, 78, 79, 80, 81, 82, 83, 84, 85, 86, 87, 88, 89, 90, 91, 92, 93, 94, 95, 96, 2, 97, 98, 99, 100, 101, 102, 103, 104, 105, 106, 107, 108, 109, 110, 111, 112, 113, 114, 115, 116, 117, 118, 119, 120, 121, 122, 123, 124, 125, 126, 127, 128, 129, 130, 131, 132, 133, 134, 135, 136, 137, 138, 139, 140, 141, 142, 143, 144, 145, 146, 147, 148, 149, 150, 151, 152, 153, 154, 155, 156, 157, 158, 168, 169, 170, 171, 172, 173, 174, 175, 176, 177, 178, 179, 180, 181, 182, 183, 184, 185, 186, 187, 188, 189, 190, 191, 192, 193, 194, 195, 196, 197, 198, 199, 200, 201] rfl (by decide +kernel)
set_option maxRecDepth 100000 in
theorem gX11_park_X11_readAll : GoodIn wsX11_park (wsV RX11 236 RX11 yX11_readAll wsX11_readAll) := goodIn_app (goodIn_of _ (by decide +kernel)) ggX11_park_X11_readAll
set_option maxRecDepth 100000 in
theorem ggX11_park_X11_throwsIf : GoodIn wsX11_park wsX11_throwsIf := goodIn_r _ [162, 17, 168, 169, 170, 171, 172, 173, 174, 175, 176, 177, 178, 179, 180, 181, 182, 183, 184, 185, 186, 187, 188, 189, 190, 191, 192, 193, 194, 195, 196, 197, 198, 199, 200, 201] rfl (by decide +kernel)
set_option maxRecDepth 100000 in
theorem gX11_park_X11_throwsIf : GoodIn wsX11_park (wsV RX11 240 RX11 yX11_throwsIf wsX11_throwsIf) := goodIn_app (goodIn_of _ (by decide +kernel)) ggX11_park_X11_throwsIf
set_option maxRecDepth 100000 in
theorem ggX11_park_X11_endsWalk : GoodIn wsX11_park wsX11_endsWalk := goodIn_r _ [166, 2, 167, 168, 169, 170, 171, 172, 173, 174, 175, 176, 177, 178, 179, 180, 181, 182, 183, 184, 185, 186, 187, 188, 189, 190, 191, 192, 193, 194, 195, 196, 197, 198, 199, 200, 201] rfl (by decide +kernel)
set_option maxRecDepth 100000 in
theorem gX11_park_X11_endsWalk : GoodIn wsX11_park (wsV RX11 243 RX11 yX11_endsWalk wsX11_endsWalk) := goodIn_app (goodIn_of _ (by decide +kernel)) ggX11_park_X11_endsWalk
set_option maxRecDepth 100000 in
theorem ggX11_law_X11_readAll : GoodIn wsX11_law wsX11_readAll := goodIn_r _ [8, 9, 10, 11, 12, 13, 14, 7, 15, 16, 17, 18, 19, 20, 21, 1, 22, 23, 24, 25, 26, 27, 28, 29, 30, 31, 32, 33, 34, 35, 36, 37, 38, 39, 40, 41, 42, 43, 44, 45, 46, 47, 48, 49, 50, 51, 52, 53, 54, 55, 56, 57, 58, 59, 60, 61, 62, 63, 64, 65, 66, 67, 68, 69, 70, 71, 72, 73, 74, 75, 76, 77, 78, 79, 80, 81, 82, 83, 84, 85, 86, 87, 88, 89, 90, 91, 92, 93, 94, 95, 3, 96, 97, 98, 99, 100, 101, 102, 103, 104, 105, 106, 107, 108, 109, 110, 111, 112, 113, 114, 115, 116, 117, 118, 119, 120, 121, 122, 123, 124, 125, 126, 127, 128, 129, 130, 131, 132, 133, 134, 135, 136, 137, 138, 139, 140, 141, 142, 143, 144, 145, 146, 147, 148, 149, 150, 151, 152, 153, 154, 155, 156, 157, 167, 168, 169, 170, 171, 172, 173, 174, 175, 176, 177, 178, 179, 180, 181, 182, 183, 184, 185, 186, 187, 188, 189, 190, 191, 192, 193, 194, 195, 196, 197, 198, 199, 200] rfl (by decide +kernel)
set_option maxRecDepth 100000 in
theorem gX11_law_X11_readAll : GoodIn wsX11_law (wsV RX11 236 RX11 yX11_readAll wsX11_readAll) := goodIn_app (goodIn_of _ (by decide +kernel)) ggX11_law_X11_readAll
set_option maxRecDepth 100000 in
theorem ggX11_law_X11_throwsIf : GoodIn wsX11_law wsX11_throwsIf := goodIn_r _ [161, 16, 167, 168, 169, 170, 171, 172, 173, 174, 175, 176, 177, 178, 179, 180, 181, 182, 183, 184, 185, 186, 187, 188, 189, 190, 191, 192, 193, 194, 195, 196, 197, 198, 199, 200] rfl (by decide +kernel)
set_option maxRecDepth 100000 in
theorem gX11_law_X11_throwsIf : GoodIn wsX11_law (wsV RX11 240 RX11 yX11_throwsIf wsX11_throwsIf) := goodIn_app (goodIn_of _ (by decide +kernel)) ggX11_law_X11_throwsIf
set_option maxRecDepth 100000 in
theorem ggX11_law_X11_endsWalk : GoodIn wsX11_law wsX11_endsWalk := goodIn_r _ [165, 3, 166, 167, 168, 169, 170, 171, 172, 173, 174, 175, 176, 177, 178, 179, 180, 181, 182, 183, 184, 185, 186, 187, 188, 189, 190, 191, 192, 193, 194, 195, 196, 197, 198, 199, 200] rfl (by decide +kernel)
set_option maxRecDepth 100000 in
theorem gX11_law_X11_endsWalk : GoodIn wsX11_law (wsV RX11 243 RX11 yX11_endsWalk wsX11_endsWalk) := goodIn_app (goodIn_of _ (by decide +kernel)) ggX11_law_X11_endsWalk
set_option maxRecDepth 100000 in
theorem ggX11_farAt_X11_xOf : GoodIn wsX11_farAt wsX11_xOf := goodIn_r _ [5, 6, 14, 15, 16, 17, 18, 19, 20, 21, 22, 23, 24, 25, 26, 27, 28, 29, 30, 31, 32, 33, 34, 35, 36, 37, 38, 39, 40, 41, 42, 43, 44, 45, 46, 47] rfl (by decide +kernel)
set_option maxRecDepth 100000 in
theorem gX11_farAt_X11_xOf : GoodIn wsX11_farAt (wsV RX11 246 RX11 yX11_xOf wsX11_xOf) := goodIn_app (goodIn_of _ (by decide +kernel)) ggX11_farAt_X11_xOf
set_option maxRecDepth 100000 in
theorem ggX11_farAt_X11_yOf : GoodIn wsX11_farAt wsX11_yOf := goodIn_r _ [10, 6, 14, 15, 16, 17, 18, 19, 20, 21, 22, 23, 24, 25, 26, 27, 28, 29, 30, 31, 32, 33, 34, 35, 36, 37, 38, 39, 40, 41, 42, 43, 44, 45, 46, 47] rfl (by decide +kernel)
set_option maxRecDepth 100000 in
theorem gX11_farAt_X11_yOf : GoodIn wsX11_farAt (wsV RX11 249 RX11 yX11_yOf wsX11_yOf) := goodIn_app (goodIn_of _ (by decide +kernel)) ggX11_farAt_X11_yOf
set_option maxRecDepth 100000 in
theorem ggX11_farAt_X11_farOf : GoodIn wsX11_farAt wsX11_farOf := goodIn_r _ [13] rfl (by decide +kernel)
set_option maxRecDepth 100000 in
theorem gX11_farAt_X11_farOf : GoodIn wsX11_farAt (va_wsS RX11 252 yX11_farOf wsX11_farOf) := goodIn_app (goodIn_of _ (by decide +kernel)) ggX11_farAt_X11_farOf
set_option maxRecDepth 100000 in
theorem ggX11_factOf_X11_farAt : GoodIn wsX11_factOf wsX11_farAt := goodIn_r _ [5, 6, 7, 8, 4, 9, 10, 11, 12, 13, 14, 15, 16, 17, 18, 19, 20, 21, 22, 23, 24, 25, 26, 27, 28, 29, 30, 31, 32, 33, 34, 35, 36, 37, 38, 39, 40, 41, 42, 43, 44, 45, 46, 47, 48, 49, 50, 51] rfl (by decide +kernel)
set_option maxRecDepth 100000 in
theorem gX11_factOf_X11_farAt : GoodIn wsX11_factOf (wsV RX11 256 RX11 yX11_farAt wsX11_farAt) := goodIn_app (goodIn_of _ (by decide +kernel)) ggX11_factOf_X11_farAt
set_option maxRecDepth 100000 in
theorem ggX11_factOf_X11_xOf : GoodIn wsX11_factOf wsX11_xOf := goodIn_r _ [9, 10, 18, 19, 20, 21, 22, 23, 24, 25, 26, 27, 28, 29, 30, 31, 32, 33, 34, 35, 36, 37, 38, 39, 40, 41, 42, 43, 44, 45, 46, 47, 48, 49, 50, 51] rfl (by decide +kernel)
set_option maxRecDepth 100000 in
theorem gX11_factOf_X11_xOf : GoodIn wsX11_factOf (wsV RX11 246 RX11 yX11_xOf wsX11_xOf) := goodIn_app (goodIn_of _ (by decide +kernel)) ggX11_factOf_X11_xOf
set_option maxRecDepth 100000 in
theorem ggX11_factOf_X11_yOf : GoodIn wsX11_factOf wsX11_yOf := goodIn_r _ [14, 10, 18, 19, 20, 21, 22, 23, 24, 25, 26, 27, 28, 29, 30, 31, 32, 33, 34, 35, 36, 37, 38, 39, 40, 41, 42, 43, 44, 45, 46, 47, 48, 49, 50, 51] rfl (by decide +kernel)
set_option maxRecDepth 100000 in
theorem gX11_factOf_X11_yOf : GoodIn wsX11_factOf (wsV RX11 249 RX11 yX11_yOf wsX11_yOf) := goodIn_app (goodIn_of _ (by decide +kernel)) ggX11_factOf_X11_yOf
set_option maxRecDepth 100000 in
theorem ggX11_holdsLine_X11_factOf : GoodIn wsX11_holdsLine wsX11_factOf := goodIn_r _ [7, 8, 9, 10, 6, 11, 12, 13, 14, 15, 1, 16, 17, 18, 19, 20, 21, 22, 23, 24, 25, 26, 27, 28, 29, 30, 31, 32, 33, 34, 35, 36, 37, 38, 39, 40, 41, 42, 43, 44, 45, 46, 47, 48, 49, 50, 51, 52, 53, 54, 55, 56] rfl (by decide +kernel)
set_option maxRecDepth 100000 in
theorem gX11_holdsLine_X11_factOf : GoodIn wsX11_holdsLine (wsV RX11 259 RX11 yX11_factOf wsX11_factOf) := goodIn_app (goodIn_of _ (by decide +kernel)) ggX11_holdsLine_X11_factOf
set_option maxRecDepth 100000 in
theorem ggX11_side_J6_signum_0f7a4 : GoodIn wsX11_side wsJ6_signum_0f7a4 := goodIn_r _ [4] rfl (by decide +kernel)
set_option maxRecDepth 100000 in
theorem gX11_side_J6_signum_0f7a4 : GoodIn wsX11_side (va_wsS RX11 263 yJ6_signum_0f7a4 wsJ6_signum_0f7a4) := goodIn_app (goodIn_of _ (by decide +kernel)) ggX11_side_J6_signum_0f7a4
set_option maxRecDepth 100000 in
theorem ggX11_isOn_X11_side : GoodIn wsX11_isOn wsX11_side := goodIn_r _ [4, 5, 6, 7, 8] rfl (by decide +kernel)
set_option maxRecDepth 100000 in
theorem gX11_isOn_X11_side : GoodIn wsX11_isOn (va_wsS RX11 276 yX11_side wsX11_side) := goodIn_app (goodIn_of _ (by decide +kernel)) ggX11_isOn_X11_side
set_option maxRecDepth 100000 in
theorem ggX11_isOn_X11_between : GoodIn wsX11_isOn wsX11_between := goodIn_r _ [11, 12, 13, 14, 15, 16, 17, 18] rfl (by decide +kernel)
set_option maxRecDepth 100000 in
theorem gX11_isOn_X11_between : GoodIn wsX11_isOn (va_wsS RX11 279 yX11_between wsX11_between) := goodIn_app (goodIn_of _ (by decide +kernel)) ggX11_isOn_X11_between
set_option maxRecDepth 100000 in
theorem ggX11_isCrossed_X11_isOn : GoodIn wsX11_isCrossed wsX11_isOn := goodIn_r _ [5, 6, 7, 4, 8, 9, 10, 11, 12, 13, 14, 15, 16, 17, 18, 19, 20, 21, 22] rfl (by decide +kernel)
set_option maxRecDepth 100000 in
theorem gX11_isCrossed_X11_isOn : GoodIn wsX11_isCrossed (va_wsS RX11 282 yX11_isOn wsX11_isOn) := goodIn_app (goodIn_of _ (by decide +kernel)) ggX11_isCrossed_X11_isOn
set_option maxRecDepth 100000 in
theorem ggX11_isCrossed_X11_side : GoodIn wsX11_isCrossed wsX11_side := goodIn_r _ [8, 9, 10, 11, 12] rfl (by decide +kernel)
set_option maxRecDepth 100000 in
theorem gX11_isCrossed_X11_side : GoodIn wsX11_isCrossed (va_wsS RX11 276 yX11_side wsX11_side) := goodIn_app (goodIn_of _ (by decide +kernel)) ggX11_isCrossed_X11_side
set_option maxRecDepth 100000 in
theorem ggX11_isShut_X11_holdsLine : GoodIn wsX11_isShut wsX11_holdsLine := goodIn_r _ [6, 1, 7, 8, 9, 10, 5, 11, 12, 13, 14, 15, 16, 17, 18, 19, 20, 21, 22, 23, 24, 25, 26, 51, 52, 53, 54, 55, 56, 57, 58, 59, 60, 61, 62, 63, 64, 65, 66, 67, 68, 69, 70, 71, 72, 73, 74, 75, 76, 77, 78, 79, 80, 81, 82, 83, 84] rfl (by decide +kernel)
set_option maxRecDepth 100000 in
theorem gX11_isShut_X11_holdsLine : GoodIn wsX11_isShut (wsV RX11 286 RX11 yX11_holdsLine wsX11_holdsLine) := goodIn_app (goodIn_of _ (by decide +kernel)) ggX11_isShut_X11_holdsLine
set_option maxRecDepth 100000 in
theorem ggX11_isShut_X11_xOf : GoodIn wsX11_isShut wsX11_xOf := goodIn_r _ [19, 1, 51, 52, 53, 54, 55, 56, 57, 58, 59, 60, 61, 62, 63, 64, 65, 66, 67, 68, 69, 70, 71, 72, 73, 74, 75, 76, 77, 78, 79, 80, 81, 82, 83, 84] rfl (by decide +kernel)
set_option maxRecDepth 100000 in
theorem gX11_isShut_X11_xOf : GoodIn wsX11_isShut (wsV RX11 246 RX11 yX11_xOf wsX11_xOf) := goodIn_app (goodIn_of _ (by decide +kernel)) ggX11_isShut_X11_xOf
set_option maxRecDepth 100000 in
theorem ggX11_isShut_X11_yOf : GoodIn wsX11_isShut wsX11_yOf := goodIn_r _ [23, 1, 51, 52, 53, 54, 55, 56, 57, 58, 59, 60, 61, 62, 63, 64, 65, 66, 67, 68, 69, 70, 71, 72, 73, 74, 75, 76, 77, 78, 79, 80, 81, 82, 83, 84] rfl (by decide +kernel)
set_option maxRecDepth 100000 in
theorem gX11_isShut_X11_yOf : GoodIn wsX11_isShut (wsV RX11 249 RX11 yX11_yOf wsX11_yOf) := goodIn_app (goodIn_of _ (by decide +kernel)) ggX11_isShut_X11_yOf
set_option maxRecDepth 100000 in
theorem ggX11_isShut_X11_isCrossed : GoodIn wsX11_isShut wsX11_isCrossed := goodIn_r _ [30, 1, 31, 32, 5, 33, 34, 35, 36, 37, 38, 39, 40, 41, 42, 43, 44, 45, 46, 47, 48, 49, 50, 51, 52, 53, 54, 55, 56, 57, 58, 59, 60, 61, 62, 63, 64, 65, 66, 67, 68, 69, 70, 71, 72, 73, 74, 75, 76, 77, 78, 79, 80, 81, 82, 83, 84] rfl (by decide +kernel)
set_option maxRecDepth 100000 in
theorem gX11_isShut_X11_isCrossed : GoodIn wsX11_isShut (wsV RX11 290 RX11 yX11_isCrossed wsX11_isCrossed) := goodIn_app (goodIn_of _ (by decide +kernel)) ggX11_isShut_X11_isCrossed
set_option maxRecDepth 100000 in
theorem ggX11_corner_X11_noCorner : GoodIn wsX11_corner wsX11_noCorner := goodIn_r _ [6, 7, 8, 9, 5, 10, 11, 12, 13, 14, 15, 16, 17, 18, 19, 20, 21, 22, 35, 36, 37, 38, 39, 40, 41, 42, 43, 44, 45, 46, 47, 48, 49, 50, 51, 52, 53, 54, 55, 56, 57, 58, 59, 60, 61, 62, 63, 64, 65, 66, 67, 68] rfl (by decide +kernel)
set_option maxRecDepth 100000 in
theorem gX11_corner_X11_noCorner : GoodIn wsX11_corner (wsV RX11 293 RX11 yX11_noCorner wsX11_noCorner) := goodIn_app (goodIn_of _ (by decide +kernel)) ggX11_corner_X11_noCorner
set_option maxRecDepth 100000 in
theorem ggX11_corner_X11_throwsIf : GoodIn wsX11_corner wsX11_throwsIf := goodIn_r _ [26, 1, 35, 36, 37, 38, 39, 40, 41, 42, 43, 44, 45, 46, 47, 48, 49, 50, 51, 52, 53, 54, 55, 56, 57, 58, 59, 60, 61, 62, 63, 64, 65, 66, 67, 68] rfl (by decide +kernel)
set_option maxRecDepth 100000 in
theorem gX11_corner_X11_throwsIf : GoodIn wsX11_corner (wsV RX11 240 RX11 yX11_throwsIf wsX11_throwsIf) := goodIn_app (goodIn_of _ (by decide +kernel)) ggX11_corner_X11_throwsIf
set_option maxRecDepth 100000 in
theorem ggX11_corner_X11_yOf : GoodIn wsX11_corner wsX11_yOf := goodIn_r _ [30, 15, 35, 36, 37, 38, 39, 40, 41, 42, 43, 44, 45, 46, 47, 48, 49, 50, 51, 52, 53, 54, 55, 56, 57, 58, 59, 60, 61, 62, 63, 64, 65, 66, 67, 68] rfl (by decide +kernel)
set_option maxRecDepth 100000 in
theorem gX11_corner_X11_yOf : GoodIn wsX11_corner (wsV RX11 249 RX11 yX11_yOf wsX11_yOf) := goodIn_app (goodIn_of _ (by decide +kernel)) ggX11_corner_X11_yOf
set_option maxRecDepth 100000 in
theorem ggX11_corner_X11_xOf : GoodIn wsX11_corner wsX11_xOf := goodIn_r _ [34, 15, 35, 36, 37, 38, 39, 40, 41, 42, 43, 44, 45, 46, 47, 48, 49, 50, 51, 52, 53, 54, 55, 56, 57, 58, 59, 60, 61, 62, 63, 64, 65, 66, 67, 68] rfl (by decide +kernel)
set_option maxRecDepth 100000 in
theorem gX11_corner_X11_xOf : GoodIn wsX11_corner (wsV RX11 246 RX11 yX11_xOf wsX11_xOf) := goodIn_app (goodIn_of _ (by decide +kernel)) ggX11_corner_X11_xOf
set_option maxRecDepth 100000 in
theorem ggX11_corners_X11_noWay : GoodIn wsX11_corners wsX11_noWay := goodIn_r _ [6, 7, 8, 9, 5, 10, 11, 12, 13, 14, 23, 24, 25, 26, 27, 28, 29, 30, 31, 32, 33, 34, 35, 36, 37, 38, 39, 40, 41, 42, 43, 44, 45, 46, 47, 48, 49, 50, 51, 52, 53, 54, 55, 56] rfl (by decide +kernel)
set_option maxRecDepth 100000 in
theorem gX11_corners_X11_noWay : GoodIn wsX11_corners (wsV RX11 101 RX11 yX11_noWay wsX11_noWay) := goodIn_app (goodIn_of _ (by decide +kernel)) ggX11_corners_X11_noWay
set_option maxRecDepth 100000 in
theorem ggX11_corners_X11_throwsIf : GoodIn wsX11_corners wsX11_throwsIf := goodIn_r _ [18, 1, 23, 24, 25, 26, 27, 28, 29, 30, 31, 32, 33, 34, 35, 36, 37, 38, 39, 40, 41, 42, 43, 44, 45, 46, 47, 48, 49, 50, 51, 52, 53, 54, 55, 56] rfl (by decide +kernel)
set_option maxRecDepth 100000 in
theorem gX11_corners_X11_throwsIf : GoodIn wsX11_corners (wsV RX11 240 RX11 yX11_throwsIf wsX11_throwsIf) := goodIn_app (goodIn_of _ (by decide +kernel)) ggX11_corners_X11_throwsIf
set_option maxRecDepth 100000 in
theorem ggX11_corners_X11_cornersOf : GoodIn wsX11_corners wsX11_cornersOf := goodIn_r _ [22, 11, 23, 24, 25, 26, 27, 28, 29, 30, 31, 32, 33, 34, 35, 36, 37, 38, 39, 40, 41, 42, 43, 44, 45, 46, 47, 48, 49, 50, 51, 52, 53, 54, 55, 56] rfl (by decide +kernel)
set_option maxRecDepth 100000 in
theorem gX11_corners_X11_cornersOf : GoodIn wsX11_corners (wsV RX11 105 RX11 yX11_cornersOf wsX11_cornersOf) := goodIn_app (goodIn_of _ (by decide +kernel)) ggX11_corners_X11_cornersOf
set_option maxRecDepth 100000 in
theorem ggX11_far_X11_noCorner : GoodIn wsX11_far wsX11_noCorner := goodIn_r _ [6, 7, 8, 9, 5, 10, 11, 12, 13, 14, 15, 16, 17, 18, 19, 20, 21, 22, 42, 43, 44, 45, 46, 47, 48, 49, 50, 51, 52, 53, 54, 55, 56, 57, 58, 59, 60, 61, 62, 63, 64, 65, 66, 67, 68, 69, 70, 71, 72, 73, 74, 75] rfl (by decide +kernel)
set_option maxRecDepth 100000 in
theorem gX11_far_X11_noCorner : GoodIn wsX11_far (wsV RX11 293 RX11 yX11_noCorner wsX11_noCorner) := goodIn_app (goodIn_of _ (by decide +kernel)) ggX11_far_X11_noCorner
set_option maxRecDepth 100000 in
theorem ggX11_far_X11_throwsIf : GoodIn wsX11_far wsX11_throwsIf := goodIn_r _ [26, 1, 42, 43, 44, 45, 46, 47, 48, 49, 50, 51, 52, 53, 54, 55, 56, 57, 58, 59, 60, 61, 62, 63, 64, 65, 66, 67, 68, 69, 70, 71, 72, 73, 74, 75] rfl (by decide +kernel)
set_option maxRecDepth 100000 in
theorem gX11_far_X11_throwsIf : GoodIn wsX11_far (wsV RX11 240 RX11 yX11_throwsIf wsX11_throwsIf) := goodIn_app (goodIn_of _ (by decide +kernel)) ggX11_far_X11_throwsIf
set_option maxRecDepth 100000 in
theorem ggX11_far_X11_farAt : GoodIn wsX11_far wsX11_farAt := goodIn_r _ [30, 31, 32, 33, 5, 34, 15, 35, 36, 37, 38, 39, 40, 41, 42, 43, 44, 45, 46, 47, 48, 49, 50, 51, 52, 53, 54, 55, 56, 57, 58, 59, 60, 61, 62, 63, 64, 65, 66, 67, 68, 69, 70, 71, 72, 73, 74, 75] rfl (by decide +kernel)
set_option maxRecDepth 100000 in
theorem gX11_far_X11_farAt : GoodIn wsX11_far (wsV RX11 256 RX11 yX11_farAt wsX11_farAt) := goodIn_app (goodIn_of _ (by decide +kernel)) ggX11_far_X11_farAt
set_option maxRecDepth 100000 in
theorem ggX11_shut_X11_noCorner : GoodIn wsX11_shut wsX11_noCorner := goodIn_r _ [6, 7, 8, 9, 5, 10, 11, 12, 13, 14, 15, 16, 17, 18, 19, 20, 21, 22, 79, 80, 81, 82, 83, 84, 85, 86, 87, 88, 89, 90, 91, 92, 93, 94, 95, 96, 97, 98, 99, 100, 101, 102, 103, 104, 105, 106, 107, 108, 109, 110, 111, 112] rfl (by decide +kernel)
set_option maxRecDepth 100000 in
theorem gX11_shut_X11_noCorner : GoodIn wsX11_shut (wsV RX11 293 RX11 yX11_noCorner wsX11_noCorner) := goodIn_app (goodIn_of _ (by decide +kernel)) ggX11_shut_X11_noCorner
set_option maxRecDepth 100000 in
theorem ggX11_shut_X11_throwsIf : GoodIn wsX11_shut wsX11_throwsIf := goodIn_r _ [26, 1, 79, 80, 81, 82, 83, 84, 85, 86, 87, 88, 89, 90, 91, 92, 93, 94, 95, 96, 97, 98, 99, 100, 101, 102, 103, 104, 105, 106, 107, 108, 109, 110, 111, 112] rfl (by decide +kernel)
set_option maxRecDepth 100000 in
theorem gX11_shut_X11_throwsIf : GoodIn wsX11_shut (wsV RX11 240 RX11 yX11_throwsIf wsX11_throwsIf) := goodIn_app (goodIn_of _ (by decide +kernel)) ggX11_shut_X11_throwsIf
set_option maxRecDepth 100000 in
theorem ggX11_shut_X11_isShut : GoodIn wsX11_shut wsX11_isShut := goodIn_r _ [30, 15, 31, 32, 33, 5, 34, 35, 36, 37, 38, 39, 40, 41, 42, 43, 44, 45, 46, 47, 48, 49, 50, 51, 52, 53, 54, 55, 56, 57, 58, 59, 60, 61, 62, 63, 64, 65, 66, 67, 68, 69, 70, 71, 72, 73, 74, 75, 76, 77, 78, 79, 80, 81, 82, 83, 84, 85, 86, 87, 88, 89, 90, 91, 92, 93, 94, 95, 96, 97, 98, 99, 100, 101, 102, 103, 104, 105, 106, 107, 108, 109, 110, 111, 112] rfl (by decide +kernel)
set_option maxRecDepth 100000 in
theorem gX11_shut_X11_isShut : GoodIn wsX11_shut (wsV RX11 296 RX11 yX11_isShut wsX11_isShut) := goodIn_app (goodIn_of _ (by decide +kernel)) ggX11_shut_X11_isShut
set_option maxRecDepth 100000 in
theorem ggX11_lays_X11_cornersOf : GoodIn wsX11_lays wsX11_cornersOf := goodIn_r _ [9, 10, 63, 64, 65, 66, 67, 68, 69, 70, 71, 72, 73, 74, 75, 76, 77, 78, 79, 80, 81, 82, 83, 84, 85, 86, 87, 88, 89, 90, 91, 92, 93, 94, 95, 96] rfl (by decide +kernel)
set_option maxRecDepth 100000 in
theorem gX11_lays_X11_cornersOf : GoodIn wsX11_lays (wsV RX11 105 RX11 yX11_cornersOf wsX11_cornersOf) := goodIn_app (goodIn_of _ (by decide +kernel)) ggX11_lays_X11_cornersOf
set_option maxRecDepth 100000 in
theorem ggX11_lays_X11_isShut : GoodIn wsX11_lays wsX11_isShut := goodIn_r _ [14, 10, 15, 16, 17, 8, 18, 19, 20, 21, 22, 23, 24, 25, 26, 27, 28, 29, 30, 31, 32, 33, 34, 35, 36, 37, 38, 39, 40, 41, 42, 43, 44, 45, 46, 47, 48, 49, 50, 51, 52, 53, 54, 55, 56, 57, 58, 59, 60, 61, 62, 63, 64, 65, 66, 67, 68, 69, 70, 71, 72, 73, 74, 75, 76, 77, 78, 79, 80, 81, 82, 83, 84, 85, 86, 87, 88, 89, 90, 91, 92, 93, 94, 95, 96] rfl (by decide +kernel)
set_option maxRecDepth 100000 in
theorem gX11_lays_X11_isShut : GoodIn wsX11_lays (wsV RX11 296 RX11 yX11_isShut wsX11_isShut) := goodIn_app (goodIn_of _ (by decide +kernel)) ggX11_lays_X11_isShut
set_option maxRecDepth 100000 in
theorem ggX11_lays_X11_farAt : GoodIn wsX11_lays wsX11_farAt := goodIn_r _ [27, 28, 29, 30, 8, 31, 10, 32, 33, 34, 35, 36, 37, 38, 63, 64, 65, 66, 67, 68, 69, 70, 71, 72, 73, 74, 75, 76, 77, 78, 79, 80, 81, 82, 83, 84, 85, 86, 87, 88, 89, 90, 91, 92, 93, 94, 95, 96] rfl (by decide +kernel)
set_option maxRecDepth 100000 in
theorem gX11_lays_X11_farAt : GoodIn wsX11_lays (wsV RX11 256 RX11 yX11_farAt wsX11_farAt) := goodIn_app (goodIn_of _ (by decide +kernel)) ggX11_lays_X11_farAt
set_option maxRecDepth 100000 in
theorem ggX11_leastLead_X11_leadAt : GoodIn wsX11_leastLead wsX11_leadAt := goodIn_r _ [16, 17, 7, 18, 19, 20, 21, 22, 23, 24, 25, 26, 27, 28, 29, 30, 31, 32, 33, 34, 35, 36, 37, 38, 39, 40, 41, 42, 43, 44, 45, 46, 47, 48, 49, 50, 51] rfl (by decide +kernel)
set_option maxRecDepth 100000 in
theorem gX11_leastLead_X11_leadAt : GoodIn wsX11_leastLead (wsV RX11 307 RX11 yX11_leadAt wsX11_leadAt) := goodIn_app (goodIn_of _ (by decide +kernel)) ggX11_leastLead_X11_leadAt
set_option maxRecDepth 100000 in
theorem ggX11_leastOf_X11_lays : GoodIn wsX11_leastOf wsX11_lays := goodIn_r _ [5, 6, 7, 8, 9, 10, 11, 12, 4, 13, 14, 15, 16, 17, 18, 19, 20, 21, 22, 23, 24, 25, 26, 27, 28, 29, 30, 31, 32, 33, 34, 35, 36, 37, 38, 39, 40, 41, 42, 43, 44, 45, 46, 47, 48, 49, 50, 51, 52, 53, 54, 55, 56, 57, 58, 59, 60, 61, 62, 63, 64, 65, 66, 76, 77, 78, 79, 80, 81, 82, 83, 84, 85, 86, 87, 88, 89, 90, 91, 92, 93, 94, 95, 96, 97, 98, 99, 100, 101, 102, 103, 104, 105, 106, 107, 108, 109] rfl (by decide +kernel)
set_option maxRecDepth 100000 in
theorem gX11_leastOf_X11_lays : GoodIn wsX11_leastOf (wsV RX11 310 RX11 yX11_lays wsX11_lays) := goodIn_app (goodIn_of _ (by decide +kernel)) ggX11_leastOf_X11_lays
set_option maxRecDepth 100000 in
theorem ggX11_leastOf_X11_leastLead : GoodIn wsX11_leastOf wsX11_leastLead := goodIn_r _ [70, 6, 7, 60, 61, 62, 63, 71, 8, 64, 65, 66, 72, 73, 74, 4, 75, 9, 76, 77, 78, 79, 80, 81, 82, 83, 84, 85, 86, 87, 88, 89, 90, 91, 92, 93, 94, 95, 96, 97, 98, 99, 100, 101, 102, 103, 104, 105, 106, 107, 108, 109] rfl (by decide +kernel)
set_option maxRecDepth 100000 in
theorem gX11_leastOf_X11_leastLead : GoodIn wsX11_leastOf (wsV RX11 313 RX11 yX11_leastLead wsX11_leastLead) := goodIn_app (goodIn_of _ (by decide +kernel)) ggX11_leastOf_X11_leastLead
set_option maxRecDepth 100000 in
theorem ggX11_least_X11_noWay : GoodIn wsX11_least wsX11_noWay := goodIn_r _ [6, 7, 8, 9, 5, 10, 11, 12, 13, 14, 99, 100, 101, 102, 103, 104, 105, 106, 107, 108, 109, 110, 111, 112, 113, 114, 115, 116, 117, 118, 119, 120, 121, 122, 123, 124, 125, 126, 127, 128, 129, 130, 131, 132] rfl (by decide +kernel)
set_option maxRecDepth 100000 in
theorem gX11_least_X11_noWay : GoodIn wsX11_least (wsV RX11 101 RX11 yX11_noWay wsX11_noWay) := goodIn_app (goodIn_of _ (by decide +kernel)) ggX11_least_X11_noWay
set_option maxRecDepth 100000 in
theorem ggX11_least_X11_throwsIf : GoodIn wsX11_least wsX11_throwsIf := goodIn_r _ [18, 1, 99, 100, 101, 102, 103, 104, 105, 106, 107, 108, 109, 110, 111, 112, 113, 114, 115, 116, 117, 118, 119, 120, 121, 122, 123, 124, 125, 126, 127, 128, 129, 130, 131, 132] rfl (by decide +kernel)
set_option maxRecDepth 100000 in
theorem gX11_least_X11_throwsIf : GoodIn wsX11_least (wsV RX11 240 RX11 yX11_throwsIf wsX11_throwsIf) := goodIn_app (goodIn_of _ (by decide +kernel)) ggX11_least_X11_throwsIf
set_option maxRecDepth 100000 in
theorem ggX11_least_X11_leastOf : GoodIn wsX11_least wsX11_leastOf := goodIn_r _ [22, 23, 24, 25, 5, 26, 27, 28, 29, 30, 31, 32, 33, 34, 11, 35, 36, 37, 38, 39, 40, 41, 42, 43, 44, 45, 46, 47, 48, 49, 50, 51, 52, 53, 54, 55, 56, 57, 58, 59, 60, 61, 62, 63, 64, 65, 66, 67, 68, 69, 70, 71, 72, 73, 74, 75, 76, 77, 78, 79, 80, 81, 82, 83, 84, 85, 86, 87, 88, 89, 90, 91, 92, 93, 94, 95, 99, 100, 101, 102, 103, 104, 105, 106, 107, 108, 109, 110, 111, 112, 113, 114, 115, 116, 117, 118, 119, 120, 121, 122, 123, 124, 125, 126, 127, 128, 129, 130, 131, 132] rfl (by decide +kernel)
set_option maxRecDepth 100000 in
theorem gX11_least_X11_leastOf : GoodIn wsX11_least (wsV RX11 316 RX11 yX11_leastOf wsX11_leastOf) := goodIn_app (goodIn_of _ (by decide +kernel)) ggX11_least_X11_leastOf
set_option maxRecDepth 100000 in
theorem ggX11_least_X11_orNone : GoodIn wsX11_least wsX11_orNone := goodIn_r _ [98, 30] rfl (by decide +kernel)
set_option maxRecDepth 100000 in
theorem gX11_least_X11_orNone : GoodIn wsX11_least (va_wsS RX11 319 yX11_orNone wsX11_orNone) := goodIn_app (goodIn_of _ (by decide +kernel)) ggX11_least_X11_orNone
set_option maxRecDepth 100000 in
theorem ggX11_firstWalk_X11_leastOf : GoodIn wsX11_firstWalk wsX11_leastOf := goodIn_r _ [11, 12, 13, 14, 10, 15, 2, 3, 5, 1, 16, 17, 18, 19, 20, 21, 22, 23, 24, 25, 26, 27, 28, 29, 30, 31, 32, 33, 34, 35, 36, 37, 38, 39, 40, 41, 42, 43, 44, 45, 46, 47, 48, 49, 50, 51, 52, 53, 54, 55, 56, 57, 58, 59, 60, 61, 62, 63, 64, 65, 66, 67, 68, 69, 70, 71, 72, 73, 74, 75, 76, 77, 78, 79, 80, 81, 92, 93, 94, 95, 96, 97, 98, 99, 100, 101, 102, 103, 104, 105, 106, 107, 108, 109, 110, 111, 112, 113, 114, 115, 116, 117, 118, 119, 120, 121, 122, 123, 124, 125] rfl (by decide +kernel)
set_option maxRecDepth 100000 in
theorem gX11_firstWalk_X11_leastOf : GoodIn wsX11_firstWalk (wsV RX11 316 RX11 yX11_leastOf wsX11_leastOf) := goodIn_app (goodIn_of _ (by decide +kernel)) ggX11_firstWalk_X11_leastOf
set_option maxRecDepth 100000 in
theorem ggX11_firstWalk_X11_isEnding : GoodIn wsX11_firstWalk wsX11_isEnding := goodIn_r _ [85, 2, 3, 4, 92, 93, 94, 95, 96, 97, 98, 99, 100, 101, 102, 103, 104, 105, 106, 107, 108, 109, 110, 111, 112, 113, 114, 115, 116, 117, 118, 119, 120, 121, 122, 123, 124, 125] rfl (by decide +kernel)
set_option maxRecDepth 100000 in
theorem gX11_firstWalk_X11_isEnding : GoodIn wsX11_firstWalk (wsV RX11 322 RX11 yX11_isEnding wsX11_isEnding) := goodIn_app (goodIn_of _ (by decide +kernel)) ggX11_firstWalk_X11_isEnding
set_option maxRecDepth 100000 in
theorem ggX11_firstWalk_X11_manBy : GoodIn wsX11_firstWalk wsX11_manBy := goodIn_r _ [88] rfl (by decide +kernel)
set_option maxRecDepth 100000 in
theorem gX11_firstWalk_X11_manBy : GoodIn wsX11_firstWalk (va_wsS RX11 325 yX11_manBy wsX11_manBy) := goodIn_app (goodIn_of _ (by decide +kernel)) ggX11_firstWalk_X11_manBy
set_option maxRecDepth 100000 in
theorem ggX11_firstWalk_X11_dogBy : GoodIn wsX11_firstWalk wsX11_dogBy := goodIn_r _ [91] rfl (by decide +kernel)
set_option maxRecDepth 100000 in
theorem gX11_firstWalk_X11_dogBy : GoodIn wsX11_firstWalk (va_wsS RX11 328 yX11_dogBy wsX11_dogBy) := goodIn_app (goodIn_of _ (by decide +kernel)) ggX11_firstWalk_X11_dogBy
set_option maxRecDepth 100000 in
theorem ggX11_first_X11_noWay : GoodIn wsX11_first wsX11_noWay := goodIn_r _ [7, 8, 9, 10, 6, 11, 12, 13, 14, 15, 112, 113, 114, 115, 116, 117, 118, 119, 120, 121, 122, 123, 124, 125, 126, 127, 128, 129, 130, 131, 132, 133, 134, 135, 136, 137, 138, 139, 140, 141, 142, 143, 144, 145] rfl (by decide +kernel)
set_option maxRecDepth 100000 in
theorem gX11_first_X11_noWay : GoodIn wsX11_first (wsV RX11 101 RX11 yX11_noWay wsX11_noWay) := goodIn_app (goodIn_of _ (by decide +kernel)) ggX11_first_X11_noWay
set_option maxRecDepth 100000 in
theorem ggX11_first_X11_throwsIf : GoodIn wsX11_first wsX11_throwsIf := goodIn_r _ [19, 1, 112, 113, 114, 115, 116, 117, 118, 119, 120, 121, 122, 123, 124, 125, 126, 127, 128, 129, 130, 131, 132, 133, 134, 135, 136, 137, 138, 139, 140, 141, 142, 143, 144, 145] rfl (by decide +kernel)
set_option maxRecDepth 100000 in
theorem gX11_first_X11_throwsIf : GoodIn wsX11_first (wsV RX11 240 RX11 yX11_throwsIf wsX11_throwsIf) := goodIn_app (goodIn_of _ (by decide +kernel)) ggX11_first_X11_throwsIf
set_option maxRecDepth 100000 in
theorem ggX11_first_X11_firstWalk : GoodIn wsX11_first wsX11_firstWalk := goodIn_r _ [23, 24, 25, 26, 27, 28, 2, 29, 30, 31, 6, 32, 33, 34, 35, 36, 37, 38, 39, 40, 12, 41, 42, 43, 44, 45, 46, 47, 48, 49, 50, 51, 52, 53, 54, 55, 56, 57, 58, 59, 60, 61, 62, 63, 64, 65, 66, 67, 68, 69, 70, 71, 72, 73, 74, 75, 76, 77, 78, 79, 80, 81, 82, 83, 84, 85, 86, 87, 88, 89, 90, 91, 92, 93, 94, 95, 96, 97, 98, 99, 100, 101, 102, 103, 104, 105, 106, 107, 108, 109, 110, 111, 112, 113, 114, 115, 116, 117, 118, 119, 120, 121, 122, 123, 124, 125, 126, 127, 128, 129, 130, 131, 132, 133, 134, 135, 136, 137, 138, 139, 140, 141, 142, 143, 144, 145] rfl (by decide +kernel)
set_option maxRecDepth 100000 in
theorem gX11_first_X11_firstWalk : GoodIn wsX11_first (wsV RX11 331 RX11 yX11_firstWalk wsX11_firstWalk) := goodIn_app (goodIn_of _ (by decide +kernel)) ggX11_first_X11_firstWalk
set_option maxRecDepth 100000 in
theorem ggX11_bars_X11_noWay : GoodIn wsX11_bars wsX11_noWay := goodIn_r _ [10, 11, 12, 13, 9, 14, 15, 16, 17, 18, 112, 113, 114, 115, 116, 117, 118, 119, 120, 121, 122, 123, 124, 125, 126, 127, 128, 129, 130, 131, 132, 133, 134, 135, 136, 137, 138, 139, 140, 141, 142, 143, 144, 145] rfl (by decide +kernel)
set_option maxRecDepth 100000 in
theorem gX11_bars_X11_noWay : GoodIn wsX11_bars (wsV RX11 101 RX11 yX11_noWay wsX11_noWay) := goodIn_app (goodIn_of _ (by decide +kernel)) ggX11_bars_X11_noWay
set_option maxRecDepth 100000 in
theorem ggX11_bars_X11_throwsIf : GoodIn wsX11_bars wsX11_throwsIf := goodIn_r _ [22, 1, 112, 113, 114, 115, 116, 117, 118, 119, 120, 121, 122, 123, 124, 125, 126, 127, 128, 129, 130, 131, 132, 133, 134, 135, 136, 137, 138, 139, 140, 141, 142, 143, 144, 145] rfl (by decide +kernel)
set_option maxRecDepth 100000 in
theorem gX11_bars_X11_throwsIf : GoodIn wsX11_bars (wsV RX11 240 RX11 yX11_throwsIf wsX11_throwsIf) := goodIn_app (goodIn_of _ (by decide +kernel)) ggX11_bars_X11_throwsIf
set_option maxRecDepth 100000 in
theorem ggX11_bars_X11_firstWalk : GoodIn wsX11_bars wsX11_firstWalk := goodIn_r _ [26, 27, 2, 3, 28, 4, 5, 29, 30, 31, 9, 32, 33, 34, 35, 36, 37, 38, 39, 40, 15, 41, 42, 43, 44, 45, 46, 47, 48, 49, 50, 51, 52, 53, 54, 55, 56, 57, 58, 59, 60, 61, 62, 63, 64, 65, 66, 67, 68, 69, 70, 71, 72, 73, 74, 75, 76, 77, 78, 79, 80, 81, 82, 83, 84, 85, 86, 87, 88, 89, 90, 91, 92, 93, 94, 95, 96, 97, 98, 99, 100, 101, 102, 103, 104, 105, 106, 107, 108, 109, 110, 111, 112, 113, 114, 115, 116, 117, 118, 119, 120, 121, 122, 123, 124, 125, 126, 127, 128, 129, 130, 131, 132, 133, 134, 135, 136, 137, 138, 139, 140, 141, 142, 143, 144, 145] rfl (by decide +kernel)
set_option maxRecDepth 100000 in
theorem gX11_bars_X11_firstWalk : GoodIn wsX11_bars (wsV RX11 331 RX11 yX11_firstWalk wsX11_firstWalk) := goodIn_app (goodIn_of _ (by decide +kernel)) ggX11_bars_X11_firstWalk
set_option maxRecDepth 100000 in
theorem ggX11_bars_X11_leadAt : GoodIn wsX11_bars wsX11_leadAt := goodIn_r _ [101, 27, 97, 112, 113, 114, 115, 116, 117, 118, 119, 120, 121, 122, 123, 124, 125, 126, 127, 128, 129, 130, 131, 132, 133, 134, 135, 136, 137, 138, 139, 140, 141, 142, 143, 144, 145] rfl (by decide +kernel)
set_option maxRecDepth 100000 in
theorem gX11_bars_X11_leadAt : GoodIn wsX11_bars (wsV RX11 307 RX11 yX11_leadAt wsX11_leadAt) := goodIn_app (goodIn_of _ (by decide +kernel)) ggX11_bars_X11_leadAt
set_option maxRecDepth 100000 in
theorem ggX11_bars_X11_manBy : GoodIn wsX11_bars wsX11_manBy := goodIn_r _ [108] rfl (by decide +kernel)
set_option maxRecDepth 100000 in
theorem gX11_bars_X11_manBy : GoodIn wsX11_bars (va_wsS RX11 325 yX11_manBy wsX11_manBy) := goodIn_app (goodIn_of _ (by decide +kernel)) ggX11_bars_X11_manBy
set_option maxRecDepth 100000 in
theorem ggX11_bars_X11_dogBy : GoodIn wsX11_bars wsX11_dogBy := goodIn_r _ [111] rfl (by decide +kernel)
set_option maxRecDepth 100000 in
theorem gX11_bars_X11_dogBy : GoodIn wsX11_bars (va_wsS RX11 328 yX11_dogBy wsX11_dogBy) := goodIn_app (goodIn_of _ (by decide +kernel)) ggX11_bars_X11_dogBy
set_option maxRecDepth 100000 in
theorem ggX11_judge_X11_uses : GoodIn wsX11_judge wsX11_uses := goodIn_r _ [7, 8, 9, 1, 10, 89, 90, 91, 92, 93, 94, 95, 96, 97, 98, 99, 100, 101, 102, 103, 104, 105, 106, 107, 108, 109, 110, 111, 112, 113, 114, 115, 116, 117, 118, 119, 120, 121, 122] rfl (by decide +kernel)
set_option maxRecDepth 100000 in
theorem gX11_judge_X11_uses : GoodIn wsX11_judge (wsV RX11 229 RX11 yX11_uses wsX11_uses) := goodIn_app (goodIn_of _ (by decide +kernel)) ggX11_judge_X11_uses
set_option maxRecDepth 100000 in
theorem ggX11_judge_X11_noWay : GoodIn wsX11_judge wsX11_noWay := goodIn_r _ [14, 15, 16, 17, 6, 18, 19, 20, 21, 22, 89, 90, 91, 92, 93, 94, 95, 96, 97, 98, 99, 100, 101, 102, 103, 104, 105, 106, 107, 108, 109, 110, 111, 112, 113, 114, 115, 116, 117, 118, 119, 120, 121, 122] rfl (by decide +kernel)
set_option maxRecDepth 100000 in
theorem gX11_judge_X11_noWay : GoodIn wsX11_judge (wsV RX11 101 RX11 yX11_noWay wsX11_noWay) := goodIn_app (goodIn_of _ (by decide +kernel)) ggX11_judge_X11_noWay
set_option maxRecDepth 100000 in
theorem ggX11_judge_X11_throwsIf : GoodIn wsX11_judge wsX11_throwsIf := goodIn_r _ [26, 8, 89, 90, 91, 92, 93, 94, 95, 96, 97, 98, 99, 100, 101, 102, 103, 104, 105, 106, 107, 108, 109, 110, 111, 112, 113, 114, 115, 116, 117, 118, 119, 120, 121, 122] rfl (by decide +kernel)
set_option maxRecDepth 100000 in
theorem gX11_judge_X11_throwsIf : GoodIn wsX11_judge (wsV RX11 240 RX11 yX11_throwsIf wsX11_throwsIf) := goodIn_app (goodIn_of _ (by decide +kernel)) ggX11_judge_X11_throwsIf
set_option maxRecDepth 100000 in
theorem ggX11_judge_X11_in : GoodIn wsX11_judge wsX11_in := goodIn_r _ [22] rfl (by decide +kernel)
set_option maxRecDepth 100000 in
theorem gX11_judge_X11_in : GoodIn wsX11_judge (va_wsS RX11 97 yX11_in wsX11_in) := goodIn_app (goodIn_of _ (by decide +kernel)) ggX11_judge_X11_in
set_option maxRecDepth 100000 in
theorem ggX11_judge_X11_isShut : GoodIn wsX11_judge wsX11_isShut := goodIn_r _ [30, 19, 31, 32, 33, 6, 34, 35, 36, 37, 38, 39, 40, 41, 42, 43, 44, 45, 46, 47, 48, 49, 50, 51, 52, 53, 54, 55, 56, 57, 58, 59, 60, 61, 62, 63, 64, 65, 66, 67, 68, 69, 70, 71, 72, 73, 74, 75, 76, 77, 78, 89, 90, 91, 92, 93, 94, 95, 96, 97, 98, 99, 100, 101, 102, 103, 104, 105, 106, 107, 108, 109, 110, 111, 112, 113, 114, 115, 116, 117, 118, 119, 120, 121, 122] rfl (by decide +kernel)
set_option maxRecDepth 100000 in
theorem gX11_judge_X11_isShut : GoodIn wsX11_judge (wsV RX11 296 RX11 yX11_isShut wsX11_isShut) := goodIn_app (goodIn_of _ (by decide +kernel)) ggX11_judge_X11_isShut
set_option maxRecDepth 100000 in
theorem ggX11_judge_X11_farAt : GoodIn wsX11_judge wsX11_farAt := goodIn_r _ [43, 44, 45, 46, 6, 47, 19, 48, 49, 50, 51, 52, 53, 54, 89, 90, 91, 92, 93, 94, 95, 96, 97, 98, 99, 100, 101, 102, 103, 104, 105, 106, 107, 108, 109, 110, 111, 112, 113, 114, 115, 116, 117, 118, 119, 120, 121, 122] rfl (by decide +kernel)
set_option maxRecDepth 100000 in
theorem gX11_judge_X11_farAt : GoodIn wsX11_judge (wsV RX11 256 RX11 yX11_farAt wsX11_farAt) := goodIn_app (goodIn_of _ (by decide +kernel)) ggX11_judge_X11_farAt
set_option maxRecDepth 100000 in
theorem ggX11_judge_X11_manBy : GoodIn wsX11_judge wsX11_manBy := goodIn_r _ [81] rfl (by decide +kernel)
set_option maxRecDepth 100000 in
theorem gX11_judge_X11_manBy : GoodIn wsX11_judge (va_wsS RX11 325 yX11_manBy wsX11_manBy) := goodIn_app (goodIn_of _ (by decide +kernel)) ggX11_judge_X11_manBy
set_option maxRecDepth 100000 in
theorem ggX11_judge_X11_dogBy : GoodIn wsX11_judge wsX11_dogBy := goodIn_r _ [84] rfl (by decide +kernel)
set_option maxRecDepth 100000 in
theorem gX11_judge_X11_dogBy : GoodIn wsX11_judge (va_wsS RX11 328 yX11_dogBy wsX11_dogBy) := goodIn_app (goodIn_of _ (by decide +kernel)) ggX11_judge_X11_dogBy
set_option maxRecDepth 100000 in
theorem ggX11_judge_X11_cornersOf : GoodIn wsX11_judge wsX11_cornersOf := goodIn_r _ [88, 19, 89, 90, 91, 92, 93, 94, 95, 96, 97, 98, 99, 100, 101, 102, 103, 104, 105, 106, 107, 108, 109, 110, 111, 112, 113, 114, 115, 116, 117, 118, 119, 120, 121, 122] rfl (by decide +kernel)
set_option maxRecDepth 100000 in
theorem gX11_judge_X11_cornersOf : GoodIn wsX11_judge (wsV RX11 105 RX11 yX11_cornersOf wsX11_cornersOf) := goodIn_app (goodIn_of _ (by decide +kernel)) ggX11_judge_X11_cornersOf
set_option maxRecDepth 100000 in
theorem ggX11_points_X11_cornersOf : GoodIn wsX11_points wsX11_cornersOf := goodIn_r _ [9, 10, 19, 20, 21, 22, 23, 24, 25, 26, 27, 28, 29, 30, 31, 32, 33, 34, 35, 36, 37, 38, 39, 40, 41, 42, 43, 44, 45, 46, 47, 48, 49, 50, 51, 52] rfl (by decide +kernel)
set_option maxRecDepth 100000 in
theorem gX11_points_X11_cornersOf : GoodIn wsX11_points (wsV RX11 105 RX11 yX11_cornersOf wsX11_cornersOf) := goodIn_app (goodIn_of _ (by decide +kernel)) ggX11_points_X11_cornersOf
set_option maxRecDepth 100000 in
theorem ggX11_points_X11_xOf : GoodIn wsX11_points wsX11_xOf := goodIn_r _ [14, 10, 19, 20, 21, 22, 23, 24, 25, 26, 27, 28, 29, 30, 31, 32, 33, 34, 35, 36, 37, 38, 39, 40, 41, 42, 43, 44, 45, 46, 47, 48, 49, 50, 51, 52] rfl (by decide +kernel)
set_option maxRecDepth 100000 in
theorem gX11_points_X11_xOf : GoodIn wsX11_points (wsV RX11 246 RX11 yX11_xOf wsX11_xOf) := goodIn_app (goodIn_of _ (by decide +kernel)) ggX11_points_X11_xOf
set_option maxRecDepth 100000 in
theorem ggX11_points_X11_yOf : GoodIn wsX11_points wsX11_yOf := goodIn_r _ [18, 10, 19, 20, 21, 22, 23, 24, 25, 26, 27, 28, 29, 30, 31, 32, 33, 34, 35, 36, 37, 38, 39, 40, 41, 42, 43, 44, 45, 46, 47, 48, 49, 50, 51, 52] rfl (by decide +kernel)
set_option maxRecDepth 100000 in
theorem gX11_points_X11_yOf : GoodIn wsX11_points (wsV RX11 249 RX11 yX11_yOf wsX11_yOf) := goodIn_app (goodIn_of _ (by decide +kernel)) ggX11_points_X11_yOf
set_option maxRecDepth 100000 in
theorem ggX11_parts_X11_noWay : GoodIn wsX11_parts wsX11_noWay := goodIn_r _ [19, 20, 21, 22, 18, 23, 24, 25, 26, 27, 51, 52, 53, 54, 55, 56, 57, 58, 59, 60, 61, 62, 63, 64, 65, 66, 67, 68, 69, 70, 71, 72, 73, 74, 75, 76, 77, 78, 79, 80, 81, 82, 83, 84] rfl (by decide +kernel)
set_option maxRecDepth 100000 in
theorem gX11_parts_X11_noWay : GoodIn wsX11_parts (wsV RX11 101 RX11 yX11_noWay wsX11_noWay) := goodIn_app (goodIn_of _ (by decide +kernel)) ggX11_parts_X11_noWay
set_option maxRecDepth 100000 in
theorem ggX11_parts_X11_throwsIf : GoodIn wsX11_parts wsX11_throwsIf := goodIn_r _ [31, 1, 51, 52, 53, 54, 55, 56, 57, 58, 59, 60, 61, 62, 63, 64, 65, 66, 67, 68, 69, 70, 71, 72, 73, 74, 75, 76, 77, 78, 79, 80, 81, 82, 83, 84] rfl (by decide +kernel)
set_option maxRecDepth 100000 in
theorem gX11_parts_X11_throwsIf : GoodIn wsX11_parts (wsV RX11 240 RX11 yX11_throwsIf wsX11_throwsIf) := goodIn_app (goodIn_of _ (by decide +kernel)) ggX11_parts_X11_throwsIf
set_option maxRecDepth 100000 in
theorem ggX11_parts_X11_in : GoodIn wsX11_parts wsX11_in := goodIn_r _ [27] rfl (by decide +kernel)
set_option maxRecDepth 100000 in
theorem gX11_parts_X11_in : GoodIn wsX11_parts (va_wsS RX11 97 yX11_in wsX11_in) := goodIn_app (goodIn_of _ (by decide +kernel)) ggX11_parts_X11_in
set_option maxRecDepth 100000 in
theorem ggX11_parts_X11_points : GoodIn wsX11_parts wsX11_points := goodIn_r _ [35, 8, 9, 10, 11, 36, 37, 38, 18, 39, 24, 40, 41, 42, 43, 44, 45, 46, 47, 51, 52, 53, 54, 55, 56, 57, 58, 59, 60, 61, 62, 63, 64, 65, 66, 67, 68, 69, 70, 71, 72, 73, 74, 75, 76, 77, 78, 79, 80, 81, 82, 83, 84] rfl (by decide +kernel)
set_option maxRecDepth 100000 in
theorem gX11_parts_X11_points : GoodIn wsX11_parts (wsV RX11 334 RX11 yX11_points wsX11_points) := goodIn_app (goodIn_of _ (by decide +kernel)) ggX11_parts_X11_points
set_option maxRecDepth 100000 in
theorem ggX11_parts_X11_farOf : GoodIn wsX11_parts wsX11_farOf := goodIn_r _ [50] rfl (by decide +kernel)
set_option maxRecDepth 100000 in
theorem gX11_parts_X11_farOf : GoodIn wsX11_parts (va_wsS RX11 252 yX11_farOf wsX11_farOf) := goodIn_app (goodIn_of _ (by decide +kernel)) ggX11_parts_X11_farOf
set_option maxRecDepth 100000 in
theorem ggX11_back_X11_noWay : GoodIn wsX11_back wsX11_noWay := goodIn_r _ [18, 19, 20, 21, 17, 22, 23, 24, 25, 26, 91, 92, 93, 94, 95, 96, 97, 98, 99, 100, 101, 102, 103, 104, 105, 106, 107, 108, 109, 110, 111, 112, 113, 114, 115, 116, 117, 118, 119, 120, 121, 122, 123, 124] rfl (by decide +kernel)
set_option maxRecDepth 100000 in
theorem gX11_back_X11_noWay : GoodIn wsX11_back (wsV RX11 101 RX11 yX11_noWay wsX11_noWay) := goodIn_app (goodIn_of _ (by decide +kernel)) ggX11_back_X11_noWay
set_option maxRecDepth 100000 in
theorem ggX11_back_X11_throwsIf : GoodIn wsX11_back wsX11_throwsIf := goodIn_r _ [30, 1, 91, 92, 93, 94, 95, 96, 97, 98, 99, 100, 101, 102, 103, 104, 105, 106, 107, 108, 109, 110, 111, 112, 113, 114, 115, 116, 117, 118, 119, 120, 121, 122, 123, 124] rfl (by decide +kernel)
set_option maxRecDepth 100000 in
theorem gX11_back_X11_throwsIf : GoodIn wsX11_back (wsV RX11 240 RX11 yX11_throwsIf wsX11_throwsIf) := goodIn_app (goodIn_of _ (by decide +kernel)) ggX11_back_X11_throwsIf
set_option maxRecDepth 100000 in
theorem ggX11_back_X11_lays : GoodIn wsX11_back wsX11_lays := goodIn_r _ [34, 5, 6, 4, 3, 35, 36, 37, 17, 38, 23, 39, 40, 41, 42, 43, 44, 45, 46, 47, 48, 49, 50, 51, 52, 53, 54, 55, 56, 57, 58, 59, 60, 61, 62, 63, 64, 65, 66, 67, 68, 69, 70, 71, 72, 73, 74, 75, 76, 77, 78, 79, 80, 81, 82, 83, 7, 8, 9, 10, 11, 12, 13, 91, 92, 93, 94, 95, 96, 97, 98, 99, 100, 101, 102, 103, 104, 105, 106, 107, 108, 109, 110, 111, 112, 113, 114, 115, 116, 117, 118, 119, 120, 121, 122, 123, 124] rfl (by decide +kernel)
set_option maxRecDepth 100000 in
theorem gX11_back_X11_lays : GoodIn wsX11_back (wsV RX11 310 RX11 yX11_lays wsX11_lays) := goodIn_app (goodIn_of _ (by decide +kernel)) ggX11_back_X11_lays
set_option maxRecDepth 100000 in
theorem ggX11_back_X11_backLead : GoodIn wsX11_back wsX11_backLead := goodIn_r _ [87, 5, 6, 3, 2, 91, 92, 93, 94, 95, 96, 97, 98, 99, 100, 101, 102, 103, 104, 105, 106, 107, 108, 109, 110, 111, 112, 113, 114, 115, 116, 117, 118, 119, 120, 121, 122, 123, 124] rfl (by decide +kernel)
set_option maxRecDepth 100000 in
theorem gX11_back_X11_backLead : GoodIn wsX11_back (wsV RX11 338 RX11 yX11_backLead wsX11_backLead) := goodIn_app (goodIn_of _ (by decide +kernel)) ggX11_back_X11_backLead
set_option maxRecDepth 100000 in
theorem ggX11_back_X11_orNone : GoodIn wsX11_back wsX11_orNone := goodIn_r _ [90, 3] rfl (by decide +kernel)
set_option maxRecDepth 100000 in
theorem gX11_back_X11_orNone : GoodIn wsX11_back (va_wsS RX11 319 yX11_orNone wsX11_orNone) := goodIn_app (goodIn_of _ (by decide +kernel)) ggX11_back_X11_orNone
set_option maxRecDepth 100000 in
theorem ggX11_ring_X11_noWay : GoodIn wsX11_ring wsX11_noWay := goodIn_r _ [8, 9, 10, 11, 7, 12, 13, 14, 15, 16, 91, 92, 93, 94, 95, 96, 97, 98, 99, 100, 101, 102, 103, 104, 105, 106, 107, 108, 109, 110, 111, 112, 113, 114, 115, 116, 117, 118, 119, 120, 121, 122, 123, 124] rfl (by decide +kernel)
set_option maxRecDepth 100000 in
theorem gX11_ring_X11_noWay : GoodIn wsX11_ring (wsV RX11 101 RX11 yX11_noWay wsX11_noWay) := goodIn_app (goodIn_of _ (by decide +kernel)) ggX11_ring_X11_noWay
set_option maxRecDepth 100000 in
theorem ggX11_ring_X11_throwsIf : GoodIn wsX11_ring wsX11_throwsIf := goodIn_r _ [20, 1, 91, 92, 93, 94, 95, 96, 97, 98, 99, 100, 101, 102, 103, 104, 105, 106, 107, 108, 109, 110, 111, 112, 113, 114, 115, 116, 117, 118, 119, 120, 121, 122, 123, 124] rfl (by decide +kernel)
set_option maxRecDepth 100000 in
theorem gX11_ring_X11_throwsIf : GoodIn wsX11_ring (wsV RX11 240 RX11 yX11_throwsIf wsX11_throwsIf) := goodIn_app (goodIn_of _ (by decide +kernel)) ggX11_ring_X11_throwsIf
set_option maxRecDepth 100000 in
theorem ggX11_ring_X11_lays : GoodIn wsX11_ring wsX11_lays := goodIn_r _ [24, 25, 3, 26, 2, 27, 28, 29, 7, 30, 13, 31, 32, 33, 34, 35, 36, 37, 38, 39, 40, 41, 42, 43, 44, 45, 46, 47, 48, 49, 50, 51, 52, 53, 54, 55, 56, 57, 58, 59, 60, 61, 62, 63, 64, 65, 66, 67, 68, 69, 70, 71, 72, 73, 74, 75, 76, 77, 78, 79, 80, 81, 82, 91, 92, 93, 94, 95, 96, 97, 98, 99, 100, 101, 102, 103, 104, 105, 106, 107, 108, 109, 110, 111, 112, 113, 114, 115, 116, 117, 118, 119, 120, 121, 122, 123, 124] rfl (by decide +kernel)
set_option maxRecDepth 100000 in
theorem gX11_ring_X11_lays : GoodIn wsX11_ring (wsV RX11 310 RX11 yX11_lays wsX11_lays) := goodIn_app (goodIn_of _ (by decide +kernel)) ggX11_ring_X11_lays
set_option maxRecDepth 100000 in
theorem ggX11_ring_X11_roundLead : GoodIn wsX11_ring wsX11_roundLead := goodIn_r _ [86, 25, 3, 2, 87, 76, 77, 78, 79, 26, 80, 81, 82, 91, 92, 93, 94, 95, 96, 97, 98, 99, 100, 101, 102, 103, 104, 105, 106, 107, 108, 109, 110, 111, 112, 113, 114, 115, 116, 117, 118, 119, 120, 121, 122, 123, 124] rfl (by decide +kernel)
set_option maxRecDepth 100000 in
theorem gX11_ring_X11_roundLead : GoodIn wsX11_ring (wsV RX11 341 RX11 yX11_roundLead wsX11_roundLead) := goodIn_app (goodIn_of _ (by decide +kernel)) ggX11_ring_X11_roundLead
set_option maxRecDepth 100000 in
theorem ggX11_ring_X11_orNone : GoodIn wsX11_ring wsX11_orNone := goodIn_r _ [90, 2] rfl (by decide +kernel)
set_option maxRecDepth 100000 in
theorem gX11_ring_X11_orNone : GoodIn wsX11_ring (va_wsS RX11 319 yX11_orNone wsX11_orNone) := goodIn_app (goodIn_of _ (by decide +kernel)) ggX11_ring_X11_orNone
set_option maxRecDepth 100000 in
theorem ggX11_leastOfThree_X11_lays : GoodIn wsX11_leastOfThree wsX11_lays := goodIn_r _ [16, 17, 18, 2, 7, 19, 20, 21, 15, 22, 23, 24, 25, 26, 27, 28, 29, 30, 31, 32, 33, 34, 35, 36, 37, 38, 39, 40, 41, 42, 43, 44, 45, 46, 47, 48, 49, 50, 51, 52, 53, 54, 55, 56, 57, 58, 59, 60, 61, 62, 63, 64, 65, 66, 67, 68, 8, 9, 5, 10, 3, 4, 6, 73, 74, 75, 76, 77, 78, 79, 80, 81, 82, 83, 84, 85, 86, 87, 88, 89, 90, 91, 92, 93, 94, 95, 96, 97, 98, 99, 100, 101, 102, 103, 104, 105, 106] rfl (by decide +kernel)
set_option maxRecDepth 100000 in
theorem gX11_leastOfThree_X11_lays : GoodIn wsX11_leastOfThree (wsV RX11 310 RX11 yX11_lays wsX11_lays) := goodIn_app (goodIn_of _ (by decide +kernel)) ggX11_leastOfThree_X11_lays
set_option maxRecDepth 100000 in
theorem ggX11_leastOfThree_X11_cornersOf : GoodIn wsX11_leastOfThree wsX11_cornersOf := goodIn_r _ [22, 23, 73, 74, 75, 76, 77, 78, 79, 80, 81, 82, 83, 84, 85, 86, 87, 88, 89, 90, 91, 92, 93, 94, 95, 96, 97, 98, 99, 100, 101, 102, 103, 104, 105, 106] rfl (by decide +kernel)
set_option maxRecDepth 100000 in
theorem gX11_leastOfThree_X11_cornersOf : GoodIn wsX11_leastOfThree (wsV RX11 105 RX11 yX11_cornersOf wsX11_cornersOf) := goodIn_app (goodIn_of _ (by decide +kernel)) ggX11_leastOfThree_X11_cornersOf
set_option maxRecDepth 100000 in
theorem ggX11_leastOfThree_X11_farAt : GoodIn wsX11_leastOfThree wsX11_farAt := goodIn_r _ [40, 41, 42, 43, 15, 44, 23, 45, 46, 47, 48, 49, 50, 51, 73, 74, 75, 76, 77, 78, 79, 80, 81, 82, 83, 84, 85, 86, 87, 88, 89, 90, 91, 92, 93, 94, 95, 96, 97, 98, 99, 100, 101, 102, 103, 104, 105, 106] rfl (by decide +kernel)
set_option maxRecDepth 100000 in
theorem gX11_leastOfThree_X11_farAt : GoodIn wsX11_leastOfThree (wsV RX11 256 RX11 yX11_farAt wsX11_farAt) := goodIn_app (goodIn_of _ (by decide +kernel)) ggX11_leastOfThree_X11_farAt
set_option maxRecDepth 100000 in
theorem ggX11_leastOfThree_X11_leadsAt : GoodIn wsX11_leastOfThree wsX11_leadsAt := goodIn_r _ [72, 7, 11, 73, 74, 75, 76, 77, 78, 79, 80, 81, 82, 83, 84, 85, 86, 87, 88, 89, 90, 91, 92, 93, 94, 95, 96, 97, 98, 99, 100, 101, 102, 103, 104, 105, 106] rfl (by decide +kernel)
set_option maxRecDepth 100000 in
theorem gX11_leastOfThree_X11_leadsAt : GoodIn wsX11_leastOfThree (wsV RX11 344 RX11 yX11_leadsAt wsX11_leadsAt) := goodIn_app (goodIn_of _ (by decide +kernel)) ggX11_leastOfThree_X11_leadsAt
set_option maxRecDepth 100000 in
theorem ggX11_dogs_X11_noWay : GoodIn wsX11_dogs wsX11_noWay := goodIn_r _ [6, 7, 8, 9, 5, 10, 11, 12, 13, 14, 96, 97, 98, 99, 100, 101, 102, 103, 104, 105, 106, 107, 108, 109, 110, 111, 112, 113, 114, 115, 116, 117, 118, 119, 120, 121, 122, 123, 124, 125, 126, 127, 128, 129] rfl (by decide +kernel)
set_option maxRecDepth 100000 in
theorem gX11_dogs_X11_noWay : GoodIn wsX11_dogs (wsV RX11 101 RX11 yX11_noWay wsX11_noWay) := goodIn_app (goodIn_of _ (by decide +kernel)) ggX11_dogs_X11_noWay
set_option maxRecDepth 100000 in
theorem ggX11_dogs_X11_throwsIf : GoodIn wsX11_dogs wsX11_throwsIf := goodIn_r _ [18, 1, 96, 97, 98, 99, 100, 101, 102, 103, 104, 105, 106, 107, 108, 109, 110, 111, 112, 113, 114, 115, 116, 117, 118, 119, 120, 121, 122, 123, 124, 125, 126, 127, 128, 129] rfl (by decide +kernel)
set_option maxRecDepth 100000 in
theorem gX11_dogs_X11_throwsIf : GoodIn wsX11_dogs (wsV RX11 240 RX11 yX11_throwsIf wsX11_throwsIf) := goodIn_app (goodIn_of _ (by decide +kernel)) ggX11_dogs_X11_throwsIf
set_option maxRecDepth 100000 in
theorem ggX11_dogs_X11_leastOfThree : GoodIn wsX11_dogs wsX11_leastOfThree := goodIn_r _ [22, 23, 24, 25, 26, 27, 28, 29, 30, 31, 32, 33, 34, 35, 36, 5, 37, 38, 39, 40, 41, 42, 43, 11, 44, 45, 46, 47, 48, 49, 50, 51, 52, 53, 54, 55, 56, 57, 58, 59, 60, 61, 62, 63, 64, 65, 66, 67, 68, 69, 70, 71, 72, 73, 74, 75, 76, 77, 78, 79, 80, 81, 82, 83, 84, 85, 86, 87, 88, 89, 90, 91, 92, 96, 97, 98, 99, 100, 101, 102, 103, 104, 105, 106, 107, 108, 109, 110, 111, 112, 113, 114, 115, 116, 117, 118, 119, 120, 121, 122, 123, 124, 125, 126, 127, 128, 129] rfl (by decide +kernel)
set_option maxRecDepth 100000 in
theorem gX11_dogs_X11_leastOfThree : GoodIn wsX11_dogs (wsV RX11 347 RX11 yX11_leastOfThree wsX11_leastOfThree) := goodIn_app (goodIn_of _ (by decide +kernel)) ggX11_dogs_X11_leastOfThree
set_option maxRecDepth 100000 in
theorem ggX11_dogs_X11_orNone : GoodIn wsX11_dogs wsX11_orNone := goodIn_r _ [95, 29] rfl (by decide +kernel)
set_option maxRecDepth 100000 in
theorem gX11_dogs_X11_orNone : GoodIn wsX11_dogs (va_wsS RX11 319 yX11_orNone wsX11_orNone) := goodIn_app (goodIn_of _ (by decide +kernel)) ggX11_dogs_X11_orNone
set_option maxRecDepth 100000 in
theorem ggX11_three_X11_noWay : GoodIn wsX11_three wsX11_noWay := goodIn_r _ [6, 7, 8, 9, 5, 10, 11, 12, 13, 14, 93, 94, 95, 96, 97, 98, 99, 100, 101, 102, 103, 104, 105, 106, 107, 108, 109, 110, 111, 112, 113, 114, 115, 116, 117, 118, 119, 120, 121, 122, 123, 124, 125, 126] rfl (by decide +kernel)
set_option maxRecDepth 100000 in
theorem gX11_three_X11_noWay : GoodIn wsX11_three (wsV RX11 101 RX11 yX11_noWay wsX11_noWay) := goodIn_app (goodIn_of _ (by decide +kernel)) ggX11_three_X11_noWay
set_option maxRecDepth 100000 in
theorem ggX11_three_X11_throwsIf : GoodIn wsX11_three wsX11_throwsIf := goodIn_r _ [18, 1, 93, 94, 95, 96, 97, 98, 99, 100, 101, 102, 103, 104, 105, 106, 107, 108, 109, 110, 111, 112, 113, 114, 115, 116, 117, 118, 119, 120, 121, 122, 123, 124, 125, 126] rfl (by decide +kernel)
set_option maxRecDepth 100000 in
theorem gX11_three_X11_throwsIf : GoodIn wsX11_three (wsV RX11 240 RX11 yX11_throwsIf wsX11_throwsIf) := goodIn_app (goodIn_of _ (by decide +kernel)) ggX11_three_X11_throwsIf
set_option maxRecDepth 100000 in
theorem ggX11_three_X11_leastOfThree : GoodIn wsX11_three wsX11_leastOfThree := goodIn_r _ [22, 23, 24, 25, 26, 27, 28, 29, 30, 31, 32, 33, 34, 35, 36, 5, 37, 38, 39, 40, 41, 42, 43, 11, 44, 45, 46, 47, 48, 49, 50, 51, 52, 53, 54, 55, 56, 57, 58, 59, 60, 61, 62, 63, 64, 65, 66, 67, 68, 69, 70, 71, 72, 73, 74, 75, 76, 77, 78, 79, 80, 81, 82, 83, 84, 85, 86, 87, 88, 89, 90, 91, 92, 93, 94, 95, 96, 97, 98, 99, 100, 101, 102, 103, 104, 105, 106, 107, 108, 109, 110, 111, 112, 113, 114, 115, 116, 117, 118, 119, 120, 121, 122, 123, 124, 125, 126] rfl (by decide +kernel)
set_option maxRecDepth 100000 in
theorem gX11_three_X11_leastOfThree : GoodIn wsX11_three (wsV RX11 347 RX11 yX11_leastOfThree wsX11_leastOfThree) := goodIn_app (goodIn_of _ (by decide +kernel)) ggX11_three_X11_leastOfThree
set_option maxRecDepth 100000 in
theorem ggX11_drag_X11_noWay : GoodIn wsX11_drag wsX11_noWay := goodIn_r _ [17, 18, 19, 20, 16, 21, 22, 23, 24, 25, 93, 94, 95, 96, 97, 98, 99, 100, 101, 102, 103, 104, 105, 106, 107, 108, 109, 110, 111, 112, 113, 114, 115, 116, 117, 118, 119, 120, 121, 122, 123, 124, 125, 126] rfl (by decide +kernel)
set_option maxRecDepth 100000 in
theorem gX11_drag_X11_noWay : GoodIn wsX11_drag (wsV RX11 101 RX11 yX11_noWay wsX11_noWay) := goodIn_app (goodIn_of _ (by decide +kernel)) ggX11_drag_X11_noWay
set_option maxRecDepth 100000 in
theorem ggX11_drag_X11_throwsIf : GoodIn wsX11_drag wsX11_throwsIf := goodIn_r _ [29, 1, 93, 94, 95, 96, 97, 98, 99, 100, 101, 102, 103, 104, 105, 106, 107, 108, 109, 110, 111, 112, 113, 114, 115, 116, 117, 118, 119, 120, 121, 122, 123, 124, 125, 126] rfl (by decide +kernel)
set_option maxRecDepth 100000 in
theorem gX11_drag_X11_throwsIf : GoodIn wsX11_drag (wsV RX11 240 RX11 yX11_throwsIf wsX11_throwsIf) := goodIn_app (goodIn_of _ (by decide +kernel)) ggX11_drag_X11_throwsIf
set_option maxRecDepth 100000 in
theorem ggX11_drag_X11_lays : GoodIn wsX11_drag wsX11_lays := goodIn_r _ [33, 2, 3, 8, 10, 34, 35, 36, 16, 37, 22, 38, 39, 40, 41, 42, 43, 44, 45, 46, 47, 48, 49, 50, 51, 52, 53, 54, 55, 56, 57, 58, 59, 60, 61, 62, 63, 64, 65, 66, 67, 68, 69, 70, 71, 72, 73, 74, 75, 76, 77, 78, 79, 80, 81, 82, 83, 84, 6, 85, 86, 87, 88, 93, 94, 95, 96, 97, 98, 99, 100, 101, 102, 103, 104, 105, 106, 107, 108, 109, 110, 111, 112, 113, 114, 115, 116, 117, 118, 119, 120, 121, 122, 123, 124, 125, 126] rfl (by decide +kernel)
set_option maxRecDepth 100000 in
theorem gX11_drag_X11_lays : GoodIn wsX11_drag (wsV RX11 310 RX11 yX11_lays wsX11_lays) := goodIn_app (goodIn_of _ (by decide +kernel)) ggX11_drag_X11_lays
set_option maxRecDepth 100000 in
theorem ggX11_drag_X11_dragAt : GoodIn wsX11_drag wsX11_dragAt := goodIn_r _ [92, 11, 9, 93, 94, 95, 96, 97, 98, 99, 100, 101, 102, 103, 104, 105, 106, 107, 108, 109, 110, 111, 112, 113, 114, 115, 116, 117, 118, 119, 120, 121, 122, 123, 124, 125, 126] rfl (by decide +kernel)
set_option maxRecDepth 100000 in
theorem gX11_drag_X11_dragAt : GoodIn wsX11_drag (wsV RX11 353 RX11 yX11_dragAt wsX11_dragAt) := goodIn_app (goodIn_of _ (by decide +kernel)) ggX11_drag_X11_dragAt
set_option maxRecDepth 100000 in
theorem ggX11_nearestOf_X11_ways : GoodIn wsX11_nearestOf wsX11_ways := goodIn_r _ [6, 7, 87, 88, 89, 90, 91, 92, 93, 94, 95, 96, 97, 98, 99, 100, 101, 102, 103, 104, 105, 106, 107, 108, 109, 110, 111, 112, 113, 114, 115, 116, 117, 118, 119, 120] rfl (by decide +kernel)
set_option maxRecDepth 100000 in
theorem gX11_nearestOf_X11_ways : GoodIn wsX11_nearestOf (wsV RX11 93 RX11 yX11_ways wsX11_ways) := goodIn_app (goodIn_of _ (by decide +kernel)) ggX11_nearestOf_X11_ways
set_option maxRecDepth 100000 in
theorem ggX11_nearestOf_X11_has : GoodIn wsX11_nearestOf wsX11_has := goodIn_r _ [10] rfl (by decide +kernel)
set_option maxRecDepth 100000 in
theorem gX11_nearestOf_X11_has : GoodIn wsX11_nearestOf (va_wsS RX11 362 yX11_has wsX11_has) := goodIn_app (goodIn_of _ (by decide +kernel)) ggX11_nearestOf_X11_has
set_option maxRecDepth 100000 in
theorem ggX11_nearestOf_X11_leastOf : GoodIn wsX11_nearestOf wsX11_leastOf := goodIn_r _ [14, 15, 16, 17, 5, 18, 19, 20, 21, 1, 22, 23, 24, 25, 7, 26, 27, 28, 29, 30, 31, 32, 33, 34, 35, 36, 37, 38, 39, 40, 41, 42, 43, 44, 45, 46, 47, 48, 49, 50, 51, 52, 53, 54, 55, 56, 57, 58, 59, 60, 61, 62, 63, 64, 65, 66, 67, 68, 69, 70, 71, 72, 73, 74, 75, 76, 77, 78, 79, 80, 81, 82, 83, 84, 85, 86, 87, 88, 89, 90, 91, 92, 93, 94, 95, 96, 97, 98, 99, 100, 101, 102, 103, 104, 105, 106, 107, 108, 109, 110, 111, 112, 113, 114, 115, 116, 117, 118, 119, 120] rfl (by decide +kernel)
set_option maxRecDepth 100000 in
theorem gX11_nearestOf_X11_leastOf : GoodIn wsX11_nearestOf (wsV RX11 316 RX11 yX11_leastOf wsX11_leastOf) := goodIn_app (goodIn_of _ (by decide +kernel)) ggX11_nearestOf_X11_leastOf
set_option maxRecDepth 100000 in
theorem ggX11_nearest_X11_noWay : GoodIn wsX11_nearest wsX11_noWay := goodIn_r _ [6, 7, 8, 9, 5, 10, 11, 12, 13, 14, 103, 104, 105, 106, 107, 108, 109, 110, 111, 112, 113, 114, 115, 116, 117, 118, 119, 120, 121, 122, 123, 124, 125, 126, 127, 128, 129, 130, 131, 132, 133, 134, 135, 136] rfl (by decide +kernel)
set_option maxRecDepth 100000 in
theorem gX11_nearest_X11_noWay : GoodIn wsX11_nearest (wsV RX11 101 RX11 yX11_noWay wsX11_noWay) := goodIn_app (goodIn_of _ (by decide +kernel)) ggX11_nearest_X11_noWay
set_option maxRecDepth 100000 in
theorem ggX11_nearest_X11_throwsIf : GoodIn wsX11_nearest wsX11_throwsIf := goodIn_r _ [18, 1, 103, 104, 105, 106, 107, 108, 109, 110, 111, 112, 113, 114, 115, 116, 117, 118, 119, 120, 121, 122, 123, 124, 125, 126, 127, 128, 129, 130, 131, 132, 133, 134, 135, 136] rfl (by decide +kernel)
set_option maxRecDepth 100000 in
theorem gX11_nearest_X11_throwsIf : GoodIn wsX11_nearest (wsV RX11 240 RX11 yX11_throwsIf wsX11_throwsIf) := goodIn_app (goodIn_of _ (by decide +kernel)) ggX11_nearest_X11_throwsIf
set_option maxRecDepth 100000 in
theorem ggX11_nearest_X11_nearestOf : GoodIn wsX11_nearest wsX11_nearestOf := goodIn_r _ [22, 23, 7, 8, 9, 5, 10, 11, 24, 25, 26, 27, 28, 29, 30, 31, 32, 33, 34, 35, 36, 37, 38, 39, 40, 41, 42, 43, 44, 45, 46, 47, 48, 49, 50, 51, 52, 53, 54, 55, 56, 57, 58, 59, 60, 61, 62, 63, 64, 65, 66, 67, 68, 69, 70, 71, 72, 73, 74, 75, 76, 77, 78, 79, 80, 81, 82, 83, 84, 85, 86, 87, 88, 89, 90, 91, 92, 93, 94, 95, 96, 97, 98, 99, 100, 101, 102, 103, 104, 105, 106, 107, 108, 109, 110, 111, 112, 113, 114, 115, 116, 117, 118, 119, 120, 121, 122, 123, 124, 125, 126, 127, 128, 129, 130, 131, 132, 133, 134, 135, 136] rfl (by decide +kernel)
set_option maxRecDepth 100000 in
theorem gX11_nearest_X11_nearestOf : GoodIn wsX11_nearest (wsV RX11 365 RX11 yX11_nearestOf wsX11_nearestOf) := goodIn_app (goodIn_of _ (by decide +kernel)) ggX11_nearest_X11_nearestOf
set_option maxRecDepth 100000 in
theorem ggX11_middle_X11_ways : GoodIn wsX11_middle wsX11_ways := goodIn_r _ [11, 12, 88, 89, 90, 91, 92, 93, 94, 95, 96, 97, 98, 99, 100, 101, 102, 103, 104, 105, 106, 107, 108, 109, 110, 111, 112, 113, 114, 115, 116, 117, 118, 119, 120, 121] rfl (by decide +kernel)
set_option maxRecDepth 100000 in
theorem gX11_middle_X11_ways : GoodIn wsX11_middle (wsV RX11 93 RX11 yX11_ways wsX11_ways) := goodIn_app (goodIn_of _ (by decide +kernel)) ggX11_middle_X11_ways
set_option maxRecDepth 100000 in
theorem ggX11_middle_X11_has : GoodIn wsX11_middle wsX11_has := goodIn_r _ [15] rfl (by decide +kernel)
set_option maxRecDepth 100000 in
theorem gX11_middle_X11_has : GoodIn wsX11_middle (va_wsS RX11 362 yX11_has wsX11_has) := goodIn_app (goodIn_of _ (by decide +kernel)) ggX11_middle_X11_has
set_option maxRecDepth 100000 in
theorem ggX11_middle_X11_leastOf : GoodIn wsX11_middle wsX11_leastOf := goodIn_r _ [19, 20, 21, 22, 10, 23, 24, 25, 26, 2, 27, 28, 29, 30, 12, 31, 32, 33, 34, 35, 36, 37, 38, 39, 40, 41, 42, 43, 44, 45, 46, 47, 48, 49, 50, 51, 52, 53, 54, 55, 56, 57, 58, 59, 60, 61, 62, 63, 64, 65, 66, 67, 68, 69, 70, 71, 72, 73, 74, 75, 76, 77, 5, 78, 3, 4, 6, 79, 80, 81, 82, 83, 84, 85, 86, 87, 88, 89, 90, 91, 92, 93, 94, 95, 96, 97, 98, 99, 100, 101, 102, 103, 104, 105, 106, 107, 108, 109, 110, 111, 112, 113, 114, 115, 116, 117, 118, 119, 120, 121] rfl (by decide +kernel)
set_option maxRecDepth 100000 in
theorem gX11_middle_X11_leastOf : GoodIn wsX11_middle (wsV RX11 316 RX11 yX11_leastOf wsX11_leastOf) := goodIn_app (goodIn_of _ (by decide +kernel)) ggX11_middle_X11_leastOf
set_option maxRecDepth 100000 in
theorem ggX11_comes_X11_goesOn : GoodIn wsX11_comes wsX11_goesOn := goodIn_r _ [5, 6, 7, 8, 9, 10, 11, 12, 13, 14, 15, 16, 17, 18, 19, 20, 21, 22, 23, 24, 25, 26, 27, 28, 29, 30, 31, 32, 33, 34, 35, 36, 37, 38, 39, 40] rfl (by decide +kernel)
set_option maxRecDepth 100000 in
theorem gX11_comes_X11_goesOn : GoodIn wsX11_comes (wsV RX11 368 RX11 yX11_goesOn wsX11_goesOn) := goodIn_app (goodIn_of _ (by decide +kernel)) ggX11_comes_X11_goesOn
set_option maxRecDepth 100000 in
theorem ggX11_fewer_X11_noWay : GoodIn wsX11_fewer wsX11_noWay := goodIn_r _ [8, 9, 10, 11, 7, 12, 13, 14, 15, 16, 59, 60, 61, 62, 63, 64, 65, 66, 67, 68, 69, 70, 71, 72, 73, 74, 75, 76, 77, 78, 79, 80, 81, 82, 83, 84, 85, 86, 87, 88, 89, 90, 91, 92] rfl (by decide +kernel)
set_option maxRecDepth 100000 in
theorem gX11_fewer_X11_noWay : GoodIn wsX11_fewer (wsV RX11 101 RX11 yX11_noWay wsX11_noWay) := goodIn_app (goodIn_of _ (by decide +kernel)) ggX11_fewer_X11_noWay
set_option maxRecDepth 100000 in
theorem ggX11_fewer_X11_throwsIf : GoodIn wsX11_fewer wsX11_throwsIf := goodIn_r _ [20, 1, 59, 60, 61, 62, 63, 64, 65, 66, 67, 68, 69, 70, 71, 72, 73, 74, 75, 76, 77, 78, 79, 80, 81, 82, 83, 84, 85, 86, 87, 88, 89, 90, 91, 92] rfl (by decide +kernel)
set_option maxRecDepth 100000 in
theorem gX11_fewer_X11_throwsIf : GoodIn wsX11_fewer (wsV RX11 240 RX11 yX11_throwsIf wsX11_throwsIf) := goodIn_app (goodIn_of _ (by decide +kernel)) ggX11_fewer_X11_throwsIf
set_option maxRecDepth 100000 in
theorem ggX11_fewer_X11_cornersOf : GoodIn wsX11_fewer wsX11_cornersOf := goodIn_r _ [24, 13, 59, 60, 61, 62, 63, 64, 65, 66, 67, 68, 69, 70, 71, 72, 73, 74, 75, 76, 77, 78, 79, 80, 81, 82, 83, 84, 85, 86, 87, 88, 89, 90, 91, 92] rfl (by decide +kernel)
set_option maxRecDepth 100000 in
theorem gX11_fewer_X11_cornersOf : GoodIn wsX11_fewer (wsV RX11 105 RX11 yX11_cornersOf wsX11_cornersOf) := goodIn_app (goodIn_of _ (by decide +kernel)) ggX11_fewer_X11_cornersOf
set_option maxRecDepth 100000 in
theorem ggX11_fewer_X11_farAt : GoodIn wsX11_fewer wsX11_farAt := goodIn_r _ [28, 29, 30, 31, 7, 32, 13, 33, 34, 35, 36, 37, 38, 39, 59, 60, 61, 62, 63, 64, 65, 66, 67, 68, 69, 70, 71, 72, 73, 74, 75, 76, 77, 78, 79, 80, 81, 82, 83, 84, 85, 86, 87, 88, 89, 90, 91, 92] rfl (by decide +kernel)
set_option maxRecDepth 100000 in
theorem gX11_fewer_X11_farAt : GoodIn wsX11_fewer (wsV RX11 256 RX11 yX11_farAt wsX11_farAt) := goodIn_app (goodIn_of _ (by decide +kernel)) ggX11_fewer_X11_farAt
set_option maxRecDepth 100000 in
theorem ggX11_fewer_X11_backwards : GoodIn wsX11_fewer wsX11_backwards := goodIn_r _ [43, 2, 59, 60, 61, 62, 63, 64, 65, 66, 67, 68, 69, 70, 71, 72, 73, 74, 75, 76, 77, 78, 79, 80, 81, 82, 83, 84, 85, 86, 87, 88, 89, 90, 91, 92] rfl (by decide +kernel)
set_option maxRecDepth 100000 in
theorem gX11_fewer_X11_backwards : GoodIn wsX11_fewer (wsV RX11 371 RX11 yX11_backwards wsX11_backwards) := goodIn_app (goodIn_of _ (by decide +kernel)) ggX11_fewer_X11_backwards
set_option maxRecDepth 100000 in
theorem ggX11_fewer_X11_has : GoodIn wsX11_fewer wsX11_has := goodIn_r _ [46] rfl (by decide +kernel)
set_option maxRecDepth 100000 in
theorem gX11_fewer_X11_has : GoodIn wsX11_fewer (va_wsS RX11 362 yX11_has wsX11_has) := goodIn_app (goodIn_of _ (by decide +kernel)) ggX11_fewer_X11_has
set_option maxRecDepth 100000 in
theorem ggX11_fewer_X11_leadsTo : GoodIn wsX11_fewer wsX11_leadsTo := goodIn_r _ [50, 2, 59, 60, 61, 62, 63, 64, 65, 66, 67, 68, 69, 70, 71, 72, 73, 74, 75, 76, 77, 78, 79, 80, 81, 82, 83, 84, 85, 86, 87, 88, 89, 90, 91, 92] rfl (by decide +kernel)
set_option maxRecDepth 100000 in
theorem gX11_fewer_X11_leadsTo : GoodIn wsX11_fewer (wsV RX11 374 RX11 yX11_leadsTo wsX11_leadsTo) := goodIn_app (goodIn_of _ (by decide +kernel)) ggX11_fewer_X11_leadsTo
set_option maxRecDepth 100000 in
theorem ggX11_fewer_X11_goesOn : GoodIn wsX11_fewer wsX11_goesOn := goodIn_r _ [54, 2, 59, 60, 61, 62, 63, 64, 65, 66, 67, 68, 69, 70, 71, 72, 73, 74, 75, 76, 77, 78, 79, 80, 81, 82, 83, 84, 85, 86, 87, 88, 89, 90, 91, 92] rfl (by decide +kernel)
set_option maxRecDepth 100000 in
theorem gX11_fewer_X11_goesOn : GoodIn wsX11_fewer (wsV RX11 368 RX11 yX11_goesOn wsX11_goesOn) := goodIn_app (goodIn_of _ (by decide +kernel)) ggX11_fewer_X11_goesOn
set_option maxRecDepth 100000 in
theorem ggX11_fewer_X11_comes : GoodIn wsX11_fewer wsX11_comes := goodIn_r _ [58, 51, 52, 53, 7, 54, 2, 59, 60, 61, 62, 63, 64, 65, 66, 67, 68, 69, 70, 71, 72, 73, 74, 75, 76, 77, 78, 79, 80, 81, 82, 83, 84, 85, 86, 87, 88, 89, 90, 91, 92] rfl (by decide +kernel)
set_option maxRecDepth 100000 in
theorem gX11_fewer_X11_comes : GoodIn wsX11_fewer (wsV RX11 377 RX11 yX11_comes wsX11_comes) := goodIn_app (goodIn_of _ (by decide +kernel)) ggX11_fewer_X11_comes
set_option maxRecDepth 100000 in
theorem ggX11_ownOf_X11_ways : GoodIn wsX11_ownOf wsX11_ways := goodIn_r _ [9, 10, 90, 91, 92, 93, 94, 95, 96, 97, 98, 99, 100, 101, 102, 103, 104, 105, 106, 107, 108, 109, 110, 111, 112, 113, 114, 115, 116, 117, 118, 119, 120, 121, 122, 123] rfl (by decide +kernel)
set_option maxRecDepth 100000 in
theorem gX11_ownOf_X11_ways : GoodIn wsX11_ownOf (wsV RX11 93 RX11 yX11_ways wsX11_ways) := goodIn_app (goodIn_of _ (by decide +kernel)) ggX11_ownOf_X11_ways
set_option maxRecDepth 100000 in
theorem ggX11_ownOf_X11_has : GoodIn wsX11_ownOf wsX11_has := goodIn_r _ [13] rfl (by decide +kernel)
set_option maxRecDepth 100000 in
theorem gX11_ownOf_X11_has : GoodIn wsX11_ownOf (va_wsS RX11 362 yX11_has wsX11_has) := goodIn_app (goodIn_of _ (by decide +kernel)) ggX11_ownOf_X11_has
set_option maxRecDepth 100000 in
theorem ggX11_ownOf_X11_leastOf : GoodIn wsX11_ownOf wsX11_leastOf := goodIn_r _ [17, 18, 19, 20, 8, 21, 22, 23, 24, 25, 26, 27, 28, 29, 10, 30, 31, 32, 33, 34, 35, 36, 37, 38, 39, 40, 41, 42, 43, 44, 45, 46, 47, 48, 49, 50, 51, 52, 53, 54, 55, 56, 57, 58, 59, 60, 61, 62, 63, 64, 65, 66, 67, 68, 69, 70, 71, 72, 73, 74, 75, 76, 3, 77, 1, 2, 4, 78, 79, 80, 81, 82, 83, 84, 85, 86, 90, 91, 92, 93, 94, 95, 96, 97, 98, 99, 100, 101, 102, 103, 104, 105, 106, 107, 108, 109, 110, 111, 112, 113, 114, 115, 116, 117, 118, 119, 120, 121, 122, 123] rfl (by decide +kernel)
set_option maxRecDepth 100000 in
theorem gX11_ownOf_X11_leastOf : GoodIn wsX11_ownOf (wsV RX11 316 RX11 yX11_leastOf wsX11_leastOf) := goodIn_app (goodIn_of _ (by decide +kernel)) ggX11_ownOf_X11_leastOf
set_option maxRecDepth 100000 in
theorem ggX11_ownOf_X11_orNone : GoodIn wsX11_ownOf wsX11_orNone := goodIn_r _ [89, 25] rfl (by decide +kernel)
set_option maxRecDepth 100000 in
theorem gX11_ownOf_X11_orNone : GoodIn wsX11_ownOf (va_wsS RX11 319 yX11_orNone wsX11_orNone) := goodIn_app (goodIn_of _ (by decide +kernel)) ggX11_ownOf_X11_orNone
set_option maxRecDepth 100000 in
theorem ggX11_own_X11_ownOf : GoodIn wsX11_own wsX11_ownOf := goodIn_r _ [6, 7, 8, 9, 10, 11, 12, 13, 5, 14, 15, 16, 17, 18, 19, 20, 21, 22, 23, 24, 25, 26, 27, 28, 29, 30, 31, 32, 33, 34, 35, 36, 37, 38, 39, 40, 41, 42, 43, 44, 45, 46, 47, 48, 49, 50, 51, 52, 53, 54, 55, 56, 57, 58, 59, 60, 61, 62, 63, 64, 65, 66, 67, 68, 69, 70, 71, 72, 73, 74, 75, 76, 77, 78, 79, 80, 81, 82, 83, 84, 85, 86, 87, 88, 89, 90, 91, 92, 93, 94, 95, 96, 97, 98, 99, 100, 101, 102, 103, 104, 105, 106, 107, 108, 109, 110, 111, 112, 113, 114, 115, 116, 117, 118, 119, 120, 121, 122, 123, 124, 125, 126, 127, 128] rfl (by decide +kernel)
set_option maxRecDepth 100000 in
theorem gX11_own_X11_ownOf : GoodIn wsX11_own (wsV RX11 380 RX11 yX11_ownOf wsX11_ownOf) := goodIn_app (goodIn_of _ (by decide +kernel)) ggX11_own_X11_ownOf
set_option maxRecDepth 100000 in
theorem ggX11_forged_X11_noWay : GoodIn wsX11_forged wsX11_noWay := goodIn_r _ [6, 7, 8, 9, 5, 10, 11, 12, 13, 14, 110, 111, 112, 113, 114, 115, 116, 117, 118, 119, 120, 121, 122, 123, 124, 125, 126, 127, 128, 129, 130, 131, 132, 133, 134, 135, 136, 137, 138, 139, 140, 141, 142, 143] rfl (by decide +kernel)
set_option maxRecDepth 100000 in
theorem gX11_forged_X11_noWay : GoodIn wsX11_forged (wsV RX11 101 RX11 yX11_noWay wsX11_noWay) := goodIn_app (goodIn_of _ (by decide +kernel)) ggX11_forged_X11_noWay
set_option maxRecDepth 100000 in
theorem ggX11_forged_X11_throwsIf : GoodIn wsX11_forged wsX11_throwsIf := goodIn_r _ [18, 1, 110, 111, 112, 113, 114, 115, 116, 117, 118, 119, 120, 121, 122, 123, 124, 125, 126, 127, 128, 129, 130, 131, 132, 133, 134, 135, 136, 137, 138, 139, 140, 141, 142, 143] rfl (by decide +kernel)
set_option maxRecDepth 100000 in
theorem gX11_forged_X11_throwsIf : GoodIn wsX11_forged (wsV RX11 240 RX11 yX11_throwsIf wsX11_throwsIf) := goodIn_app (goodIn_of _ (by decide +kernel)) ggX11_forged_X11_throwsIf
set_option maxRecDepth 100000 in
theorem ggX11_forged_X11_nearestOf : GoodIn wsX11_forged wsX11_nearestOf := goodIn_r _ [22, 23, 7, 8, 9, 5, 10, 11, 24, 25, 26, 27, 28, 29, 30, 31, 32, 33, 34, 35, 36, 37, 38, 39, 40, 41, 42, 43, 44, 45, 46, 47, 48, 49, 50, 51, 52, 53, 54, 55, 56, 57, 58, 59, 60, 61, 62, 63, 64, 65, 66, 67, 68, 69, 70, 71, 72, 73, 74, 75, 76, 77, 78, 79, 80, 81, 82, 83, 84, 85, 86, 87, 88, 89, 90, 91, 92, 93, 94, 95, 96, 97, 98, 99, 100, 101, 102, 110, 111, 112, 113, 114, 115, 116, 117, 118, 119, 120, 121, 122, 123, 124, 125, 126, 127, 128, 129, 130, 131, 132, 133, 134, 135, 136, 137, 138, 139, 140, 141, 142, 143] rfl (by decide +kernel)
set_option maxRecDepth 100000 in
theorem gX11_forged_X11_nearestOf : GoodIn wsX11_forged (wsV RX11 365 RX11 yX11_nearestOf wsX11_nearestOf) := goodIn_app (goodIn_of _ (by decide +kernel)) ggX11_forged_X11_nearestOf
set_option maxRecDepth 100000 in
theorem ggX11_forged_X11_ownOf : GoodIn wsX11_forged wsX11_ownOf := goodIn_r _ [106, 91, 92, 89, 93, 7, 8, 9, 5, 10, 11, 24, 25, 26, 27, 28, 29, 30, 31, 32, 33, 34, 35, 36, 37, 23, 38, 39, 40, 41, 42, 43, 44, 45, 46, 47, 48, 49, 50, 51, 52, 53, 54, 55, 56, 57, 58, 59, 60, 61, 62, 63, 64, 65, 66, 67, 68, 69, 70, 71, 72, 73, 74, 75, 76, 77, 78, 79, 80, 81, 82, 83, 84, 85, 86, 87, 88, 90, 94, 95, 96, 97, 98, 99, 100, 101, 102, 107, 108, 109, 110, 111, 112, 113, 114, 115, 116, 117, 118, 119, 120, 121, 122, 123, 124, 125, 126, 127, 128, 129, 130, 131, 132, 133, 134, 135, 136, 137, 138, 139, 140, 141, 142, 143] rfl (by decide +kernel)
set_option maxRecDepth 100000 in
theorem gX11_forged_X11_ownOf : GoodIn wsX11_forged (wsV RX11 380 RX11 yX11_ownOf wsX11_ownOf) := goodIn_app (goodIn_of _ (by decide +kernel)) ggX11_forged_X11_ownOf
set_option maxRecDepth 100000 in
theorem ggX11_forged_X11_leastOf : GoodIn wsX11_forged wsX11_leastOf := goodIn_r _ [30, 31, 32, 33, 5, 34, 35, 36, 37, 23, 38, 39, 40, 41, 11, 42, 43, 44, 45, 46, 47, 48, 49, 50, 51, 52, 53, 54, 55, 56, 57, 58, 59, 60, 61, 62, 63, 64, 65, 66, 67, 68, 69, 70, 71, 72, 73, 74, 75, 76, 77, 78, 79, 80, 81, 82, 83, 84, 85, 86, 87, 88, 89, 90, 91, 92, 93, 94, 95, 96, 97, 98, 99, 100, 101, 102, 110, 111, 112, 113, 114, 115, 116, 117, 118, 119, 120, 121, 122, 123, 124, 125, 126, 127, 128, 129, 130, 131, 132, 133, 134, 135, 136, 137, 138, 139, 140, 141, 142, 143] rfl (by decide +kernel)
set_option maxRecDepth 100000 in
theorem gX11_forged_X11_leastOf : GoodIn wsX11_forged (wsV RX11 316 RX11 yX11_leastOf wsX11_leastOf) := goodIn_app (goodIn_of _ (by decide +kernel)) ggX11_forged_X11_leastOf
set_option maxRecDepth 100000 in
theorem ggX11_mark_X11_in : GoodIn wsX11_mark wsX11_in := goodIn_r _ [6] rfl (by decide +kernel)
set_option maxRecDepth 100000 in
theorem gX11_mark_X11_in : GoodIn wsX11_mark (va_wsS RX11 97 yX11_in wsX11_in) := goodIn_app (goodIn_of _ (by decide +kernel)) ggX11_mark_X11_in
set_option maxRecDepth 100000 in
theorem ggX11_mark_X11_throwsIf : GoodIn wsX11_mark wsX11_throwsIf := goodIn_r _ [10, 1, 11, 12, 13, 14, 15, 16, 17, 18, 19, 20, 21, 22, 23, 24, 25, 26, 27, 28, 29, 30, 31, 32, 33, 34, 35, 36, 37, 38, 39, 40, 41, 42, 43, 44] rfl (by decide +kernel)
set_option maxRecDepth 100000 in
theorem gX11_mark_X11_throwsIf : GoodIn wsX11_mark (wsV RX11 240 RX11 yX11_throwsIf wsX11_throwsIf) := goodIn_app (goodIn_of _ (by decide +kernel)) ggX11_mark_X11_throwsIf
set_option maxRecDepth 100000 in
theorem ggX11_farOfMarks_X11_ofMark : GoodIn wsX11_farOfMarks wsX11_ofMark := goodIn_r _ [5, 6, 10, 11, 12, 13, 14, 15, 16, 17, 18, 19, 20, 21, 22, 23, 24, 25, 26, 27, 28, 29, 30, 31, 32, 33, 34, 35, 36, 37, 38, 39, 40, 41, 42, 43] rfl (by decide +kernel)
set_option maxRecDepth 100000 in
theorem gX11_farOfMarks_X11_ofMark : GoodIn wsX11_farOfMarks (wsV RX11 383 RX11 yX11_ofMark wsX11_ofMark) := goodIn_app (goodIn_of _ (by decide +kernel)) ggX11_farOfMarks_X11_ofMark
set_option maxRecDepth 100000 in
theorem ggX11_farOfMarks_X11_farOf : GoodIn wsX11_farOfMarks wsX11_farOf := goodIn_r _ [9] rfl (by decide +kernel)
set_option maxRecDepth 100000 in
theorem gX11_farOfMarks_X11_farOf : GoodIn wsX11_farOfMarks (va_wsS RX11 252 yX11_farOf wsX11_farOf) := goodIn_app (goodIn_of _ (by decide +kernel)) ggX11_farOfMarks_X11_farOf
set_option maxRecDepth 100000 in
theorem ggX11_needed_X11_ofMark : GoodIn wsX11_needed wsX11_ofMark := goodIn_r _ [11, 2, 19, 20, 21, 22, 23, 24, 25, 26, 27, 28, 29, 30, 31, 32, 33, 34, 35, 36, 37, 38, 39, 40, 41, 42, 43, 44, 45, 46, 47, 48, 49, 50, 51, 52] rfl (by decide +kernel)
set_option maxRecDepth 100000 in
theorem gX11_needed_X11_ofMark : GoodIn wsX11_needed (wsV RX11 383 RX11 yX11_ofMark wsX11_ofMark) := goodIn_app (goodIn_of _ (by decide +kernel)) ggX11_needed_X11_ofMark
set_option maxRecDepth 100000 in
theorem ggX11_needed_X11_farOfMarks : GoodIn wsX11_needed wsX11_farOfMarks := goodIn_r _ [15, 7, 8, 9, 10, 11, 2, 16, 17, 18, 19, 20, 21, 22, 23, 24, 25, 26, 27, 28, 29, 30, 31, 32, 33, 34, 35, 36, 37, 38, 39, 40, 41, 42, 43, 44, 45, 46, 47, 48, 49, 50, 51, 52] rfl (by decide +kernel)
set_option maxRecDepth 100000 in
theorem gX11_needed_X11_farOfMarks : GoodIn wsX11_needed (wsV RX11 386 RX11 yX11_farOfMarks wsX11_farOfMarks) := goodIn_app (goodIn_of _ (by decide +kernel)) ggX11_needed_X11_farOfMarks
set_option maxRecDepth 100000 in
theorem ggX11_fits_X11_in : GoodIn wsX11_fits wsX11_in := goodIn_r _ [10] rfl (by decide +kernel)
set_option maxRecDepth 100000 in
theorem gX11_fits_X11_in : GoodIn wsX11_fits (va_wsS RX11 97 yX11_in wsX11_in) := goodIn_app (goodIn_of _ (by decide +kernel)) ggX11_fits_X11_in
set_option maxRecDepth 100000 in
theorem ggX11_fits_X11_throwsIf : GoodIn wsX11_fits wsX11_throwsIf := goodIn_r _ [14, 1, 26, 27, 28, 29, 30, 31, 32, 33, 34, 35, 36, 37, 38, 39, 40, 41, 42, 43, 44, 45, 46, 47, 48, 49, 50, 51, 52, 53, 54, 55, 56, 57, 58, 59] rfl (by decide +kernel)
set_option maxRecDepth 100000 in
theorem gX11_fits_X11_throwsIf : GoodIn wsX11_fits (wsV RX11 240 RX11 yX11_throwsIf wsX11_throwsIf) := goodIn_app (goodIn_of _ (by decide +kernel)) ggX11_fits_X11_throwsIf
set_option maxRecDepth 100000 in
theorem ggX11_fits_X11_ofMark : GoodIn wsX11_fits wsX11_ofMark := goodIn_r _ [18, 2, 26, 27, 28, 29, 30, 31, 32, 33, 34, 35, 36, 37, 38, 39, 40, 41, 42, 43, 44, 45, 46, 47, 48, 49, 50, 51, 52, 53, 54, 55, 56, 57, 58, 59] rfl (by decide +kernel)
set_option maxRecDepth 100000 in
theorem gX11_fits_X11_ofMark : GoodIn wsX11_fits (wsV RX11 383 RX11 yX11_ofMark wsX11_ofMark) := goodIn_app (goodIn_of _ (by decide +kernel)) ggX11_fits_X11_ofMark
set_option maxRecDepth 100000 in
theorem ggX11_fits_X11_farOfMarks : GoodIn wsX11_fits wsX11_farOfMarks := goodIn_r _ [22, 15, 16, 17, 9, 18, 2, 23, 24, 25, 26, 27, 28, 29, 30, 31, 32, 33, 34, 35, 36, 37, 38, 39, 40, 41, 42, 43, 44, 45, 46, 47, 48, 49, 50, 51, 52, 53, 54, 55, 56, 57, 58, 59] rfl (by decide +kernel)
set_option maxRecDepth 100000 in
theorem gX11_fits_X11_farOfMarks : GoodIn wsX11_fits (wsV RX11 386 RX11 yX11_farOfMarks wsX11_farOfMarks) := goodIn_app (goodIn_of _ (by decide +kernel)) ggX11_fits_X11_farOfMarks
set_option maxRecDepth 100000 in
theorem ggX11_begin_X11_noWay : GoodIn wsX11_begin wsX11_noWay := goodIn_r _ [8, 9, 10, 11, 7, 12, 2, 13, 14, 15, 72, 73, 74, 75, 76, 77, 78, 79, 80, 81, 82, 83, 84, 85, 86, 87, 88, 89, 90, 91, 92, 93, 94, 95, 96, 97, 98, 99, 100, 101, 102, 103, 104, 105] rfl (by decide +kernel)
set_option maxRecDepth 100000 in
theorem gX11_begin_X11_noWay : GoodIn wsX11_begin (wsV RX11 101 RX11 yX11_noWay wsX11_noWay) := goodIn_app (goodIn_of _ (by decide +kernel)) ggX11_begin_X11_noWay
set_option maxRecDepth 100000 in
theorem ggX11_begin_X11_throwsIf : GoodIn wsX11_begin wsX11_throwsIf := goodIn_r _ [19, 1, 72, 73, 74, 75, 76, 77, 78, 79, 80, 81, 82, 83, 84, 85, 86, 87, 88, 89, 90, 91, 92, 93, 94, 95, 96, 97, 98, 99, 100, 101, 102, 103, 104, 105] rfl (by decide +kernel)
set_option maxRecDepth 100000 in
theorem gX11_begin_X11_throwsIf : GoodIn wsX11_begin (wsV RX11 240 RX11 yX11_throwsIf wsX11_throwsIf) := goodIn_app (goodIn_of _ (by decide +kernel)) ggX11_begin_X11_throwsIf
set_option maxRecDepth 100000 in
theorem ggX11_begin_X11_isShut : GoodIn wsX11_begin wsX11_isShut := goodIn_r _ [23, 2, 24, 25, 26, 7, 27, 28, 29, 30, 31, 32, 33, 34, 35, 36, 37, 38, 39, 40, 41, 42, 43, 44, 45, 46, 47, 48, 49, 50, 51, 52, 53, 54, 55, 56, 57, 58, 59, 60, 61, 62, 63, 64, 65, 66, 67, 68, 69, 70, 71, 72, 73, 74, 75, 76, 77, 78, 79, 80, 81, 82, 83, 84, 85, 86, 87, 88, 89, 90, 91, 92, 93, 94, 95, 96, 97, 98, 99, 100, 101, 102, 103, 104, 105] rfl (by decide +kernel)
set_option maxRecDepth 100000 in
theorem gX11_begin_X11_isShut : GoodIn wsX11_begin (wsV RX11 296 RX11 yX11_isShut wsX11_isShut) := goodIn_app (goodIn_of _ (by decide +kernel)) ggX11_begin_X11_isShut
set_option maxRecDepth 100000 in
theorem ggX11_begin_X11_farAt : GoodIn wsX11_begin wsX11_farAt := goodIn_r _ [36, 37, 38, 39, 7, 40, 2, 41, 42, 43, 44, 45, 46, 47, 72, 73, 74, 75, 76, 77, 78, 79, 80, 81, 82, 83, 84, 85, 86, 87, 88, 89, 90, 91, 92, 93, 94, 95, 96, 97, 98, 99, 100, 101, 102, 103, 104, 105] rfl (by decide +kernel)
set_option maxRecDepth 100000 in
theorem gX11_begin_X11_farAt : GoodIn wsX11_begin (wsV RX11 256 RX11 yX11_farAt wsX11_farAt) := goodIn_app (goodIn_of _ (by decide +kernel)) ggX11_begin_X11_farAt
set_option maxRecDepth 100000 in
theorem ggX11_canGo_X11_manBy : GoodIn wsX11_canGo wsX11_manBy := goodIn_r _ [5] rfl (by decide +kernel)
set_option maxRecDepth 100000 in
theorem gX11_canGo_X11_manBy : GoodIn wsX11_canGo (va_wsS RX11 325 yX11_manBy wsX11_manBy) := goodIn_app (goodIn_of _ (by decide +kernel)) ggX11_canGo_X11_manBy
set_option maxRecDepth 100000 in
theorem ggX11_canGo_X11_dogBy : GoodIn wsX11_canGo wsX11_dogBy := goodIn_r _ [8] rfl (by decide +kernel)
set_option maxRecDepth 100000 in
theorem gX11_canGo_X11_dogBy : GoodIn wsX11_canGo (va_wsS RX11 328 yX11_dogBy wsX11_dogBy) := goodIn_app (goodIn_of _ (by decide +kernel)) ggX11_canGo_X11_dogBy
set_option maxRecDepth 100000 in
theorem ggX11_canGo_X11_cornersOf : GoodIn wsX11_canGo wsX11_cornersOf := goodIn_r _ [12, 1, 65, 66, 67, 68, 69, 70, 71, 72, 73, 74, 75, 76, 77, 78, 79, 80, 81, 82, 83, 84, 85, 86, 87, 88, 89, 90, 91, 92, 93, 94, 95, 96, 97, 98] rfl (by decide +kernel)
set_option maxRecDepth 100000 in
theorem gX11_canGo_X11_cornersOf : GoodIn wsX11_canGo (wsV RX11 105 RX11 yX11_cornersOf wsX11_cornersOf) := goodIn_app (goodIn_of _ (by decide +kernel)) ggX11_canGo_X11_cornersOf
set_option maxRecDepth 100000 in
theorem ggX11_canGo_X11_farAt : GoodIn wsX11_canGo wsX11_farAt := goodIn_r _ [16, 17, 18, 19, 4, 20, 1, 21, 22, 23, 24, 25, 26, 27, 65, 66, 67, 68, 69, 70, 71, 72, 73, 74, 75, 76, 77, 78, 79, 80, 81, 82, 83, 84, 85, 86, 87, 88, 89, 90, 91, 92, 93, 94, 95, 96, 97, 98] rfl (by decide +kernel)
set_option maxRecDepth 100000 in
theorem gX11_canGo_X11_farAt : GoodIn wsX11_canGo (wsV RX11 256 RX11 yX11_farAt wsX11_farAt) := goodIn_app (goodIn_of _ (by decide +kernel)) ggX11_canGo_X11_farAt
set_option maxRecDepth 100000 in
theorem ggX11_canGo_X11_isShut : GoodIn wsX11_canGo wsX11_isShut := goodIn_r _ [31, 1, 32, 33, 34, 4, 35, 36, 37, 38, 39, 40, 13, 14, 15, 16, 17, 18, 19, 20, 21, 22, 23, 24, 25, 26, 27, 41, 42, 43, 44, 45, 46, 47, 48, 49, 50, 51, 52, 53, 54, 55, 56, 57, 58, 59, 60, 61, 62, 63, 64, 65, 66, 67, 68, 69, 70, 71, 72, 73, 74, 75, 76, 77, 78, 79, 80, 81, 82, 83, 84, 85, 86, 87, 88, 89, 90, 91, 92, 93, 94, 95, 96, 97, 98] rfl (by decide +kernel)
set_option maxRecDepth 100000 in
theorem gX11_canGo_X11_isShut : GoodIn wsX11_canGo (wsV RX11 296 RX11 yX11_isShut wsX11_isShut) := goodIn_app (goodIn_of _ (by decide +kernel)) ggX11_canGo_X11_isShut
set_option maxRecDepth 100000 in
theorem ggX11_goes_X11_manBy : GoodIn wsX11_goes wsX11_manBy := goodIn_r _ [11] rfl (by decide +kernel)
set_option maxRecDepth 100000 in
theorem gX11_goes_X11_manBy : GoodIn wsX11_goes (va_wsS RX11 325 yX11_manBy wsX11_manBy) := goodIn_app (goodIn_of _ (by decide +kernel)) ggX11_goes_X11_manBy
set_option maxRecDepth 100000 in
theorem ggX11_goes_X11_dogBy : GoodIn wsX11_goes wsX11_dogBy := goodIn_r _ [14] rfl (by decide +kernel)
set_option maxRecDepth 100000 in
theorem gX11_goes_X11_dogBy : GoodIn wsX11_goes (va_wsS RX11 328 yX11_dogBy wsX11_dogBy) := goodIn_app (goodIn_of _ (by decide +kernel)) ggX11_goes_X11_dogBy
set_option maxRecDepth 100000 in
theorem ggX11_goes_X11_farAt : GoodIn wsX11_goes wsX11_farAt := goodIn_r _ [18, 19, 20, 21, 10, 22, 3, 23, 24, 25, 26, 27, 28, 29, 30, 31, 32, 33, 34, 35, 36, 37, 38, 39, 40, 41, 42, 43, 44, 45, 46, 47, 48, 49, 50, 51, 52, 53, 54, 55, 56, 57, 58, 59, 60, 61, 62, 63] rfl (by decide +kernel)
set_option maxRecDepth 100000 in
theorem gX11_goes_X11_farAt : GoodIn wsX11_goes (wsV RX11 256 RX11 yX11_farAt wsX11_farAt) := goodIn_app (goodIn_of _ (by decide +kernel)) ggX11_goes_X11_farAt
set_option maxRecDepth 100000 in
theorem ggX11_step_X11_in : GoodIn wsX11_step wsX11_in := goodIn_r _ [5] rfl (by decide +kernel)
set_option maxRecDepth 100000 in
theorem gX11_step_X11_in : GoodIn wsX11_step (va_wsS RX11 97 yX11_in wsX11_in) := goodIn_app (goodIn_of _ (by decide +kernel)) ggX11_step_X11_in
set_option maxRecDepth 100000 in
theorem ggX11_step_X11_throwsIf : GoodIn wsX11_step wsX11_throwsIf := goodIn_r _ [9, 1, 83, 84, 85, 86, 87, 88, 89, 90, 91, 92, 93, 94, 95, 96, 97, 98, 99, 100, 101, 102, 103, 104, 105, 106, 107, 108, 109, 110, 111, 112, 113, 114, 115, 116] rfl (by decide +kernel)
set_option maxRecDepth 100000 in
theorem gX11_step_X11_throwsIf : GoodIn wsX11_step (wsV RX11 240 RX11 yX11_throwsIf wsX11_throwsIf) := goodIn_app (goodIn_of _ (by decide +kernel)) ggX11_step_X11_throwsIf
set_option maxRecDepth 100000 in
theorem ggX11_step_X11_canGo : GoodIn wsX11_step wsX11_canGo := goodIn_r _ [13, 14, 15, 16, 4, 17, 18, 19, 20, 21, 22, 23, 24, 25, 26, 27, 28, 29, 30, 31, 32, 33, 34, 35, 36, 37, 38, 39, 40, 41, 42, 43, 44, 45, 46, 47, 48, 49, 50, 51, 52, 53, 54, 55, 56, 57, 58, 59, 60, 61, 62, 63, 64, 65, 66, 67, 68, 69, 70, 71, 72, 73, 74, 75, 76, 83, 84, 85, 86, 87, 88, 89, 90, 91, 92, 93, 94, 95, 96, 97, 98, 99, 100, 101, 102, 103, 104, 105, 106, 107, 108, 109, 110, 111, 112, 113, 114, 115, 116] rfl (by decide +kernel)
set_option maxRecDepth 100000 in
theorem gX11_step_X11_canGo : GoodIn wsX11_step (wsV RX11 392 RX11 yX11_canGo wsX11_canGo) := goodIn_app (goodIn_of _ (by decide +kernel)) ggX11_step_X11_canGo
set_option maxRecDepth 100000 in
theorem ggX11_step_X11_goes : GoodIn wsX11_step wsX11_goes := goodIn_r _ [80, 81, 82, 14, 74, 75, 72, 76, 15, 16, 4, 17, 18, 19, 20, 25, 26, 27, 28, 29, 30, 31, 32, 33, 34, 35, 36, 37, 38, 39, 83, 84, 85, 86, 87, 88, 89, 90, 91, 92, 93, 94, 95, 96, 97, 98, 99, 100, 101, 102, 103, 104, 105, 106, 107, 108, 109, 110, 111, 112, 113, 114, 115, 116] rfl (by decide +kernel)
set_option maxRecDepth 100000 in
theorem gX11_step_X11_goes : GoodIn wsX11_step (wsV RX11 395 RX11 yX11_goes wsX11_goes) := goodIn_app (goodIn_of _ (by decide +kernel)) ggX11_step_X11_goes
set_option maxRecDepth 100000 in
theorem ggX11_undo_X11_manBy : GoodIn wsX11_undo wsX11_manBy := goodIn_r _ [8] rfl (by decide +kernel)
set_option maxRecDepth 100000 in
theorem gX11_undo_X11_manBy : GoodIn wsX11_undo (va_wsS RX11 325 yX11_manBy wsX11_manBy) := goodIn_app (goodIn_of _ (by decide +kernel)) ggX11_undo_X11_manBy
set_option maxRecDepth 100000 in
theorem ggX11_undo_X11_dogBy : GoodIn wsX11_undo wsX11_dogBy := goodIn_r _ [11] rfl (by decide +kernel)
set_option maxRecDepth 100000 in
theorem gX11_undo_X11_dogBy : GoodIn wsX11_undo (va_wsS RX11 328 yX11_dogBy wsX11_dogBy) := goodIn_app (goodIn_of _ (by decide +kernel)) ggX11_undo_X11_dogBy
set_option maxRecDepth 100000 in
theorem ggX11_live_X11_in : GoodIn wsX11_live wsX11_in := goodIn_r _ [7] rfl (by decide +kernel)
set_option maxRecDepth 100000 in
theorem gX11_live_X11_in : GoodIn wsX11_live (va_wsS RX11 97 yX11_in wsX11_in) := goodIn_app (goodIn_of _ (by decide +kernel)) ggX11_live_X11_in
set_option maxRecDepth 100000 in
theorem ggX11_live_X11_throwsIf : GoodIn wsX11_live wsX11_throwsIf := goodIn_r _ [11, 1, 84, 85, 86, 87, 88, 89, 90, 91, 92, 93, 94, 95, 96, 97, 98, 99, 100, 101, 102, 103, 104, 105, 106, 107, 108, 109, 110, 111, 112, 113, 114, 115, 116, 117] rfl (by decide +kernel)
set_option maxRecDepth 100000 in
theorem gX11_live_X11_throwsIf : GoodIn wsX11_live (wsV RX11 240 RX11 yX11_throwsIf wsX11_throwsIf) := goodIn_app (goodIn_of _ (by decide +kernel)) ggX11_live_X11_throwsIf
set_option maxRecDepth 100000 in
theorem ggX11_live_X11_canGo : GoodIn wsX11_live wsX11_canGo := goodIn_r _ [15, 2, 16, 17, 6, 18, 19, 20, 21, 22, 23, 24, 25, 26, 27, 28, 29, 30, 31, 32, 33, 34, 35, 36, 37, 38, 39, 40, 41, 42, 43, 44, 45, 46, 47, 48, 49, 50, 51, 52, 53, 54, 55, 56, 57, 58, 59, 60, 61, 62, 63, 64, 65, 66, 67, 68, 69, 70, 71, 72, 73, 74, 75, 76, 77, 84, 85, 86, 87, 88, 89, 90, 91, 92, 93, 94, 95, 96, 97, 98, 99, 100, 101, 102, 103, 104, 105, 106, 107, 108, 109, 110, 111, 112, 113, 114, 115, 116, 117] rfl (by decide +kernel)
set_option maxRecDepth 100000 in
theorem gX11_live_X11_canGo : GoodIn wsX11_live (wsV RX11 392 RX11 yX11_canGo wsX11_canGo) := goodIn_app (goodIn_of _ (by decide +kernel)) ggX11_live_X11_canGo
set_option maxRecDepth 100000 in
theorem ggX11_live_X11_goes : GoodIn wsX11_live wsX11_goes := goodIn_r _ [81, 82, 83, 2, 75, 76, 73, 77, 16, 17, 6, 18, 19, 20, 21, 26, 27, 28, 29, 30, 31, 32, 33, 34, 35, 36, 37, 38, 39, 40, 84, 85, 86, 87, 88, 89, 90, 91, 92, 93, 94, 95, 96, 97, 98, 99, 100, 101, 102, 103, 104, 105, 106, 107, 108, 109, 110, 111, 112, 113, 114, 115, 116, 117] rfl (by decide +kernel)
set_option maxRecDepth 100000 in
theorem gX11_live_X11_goes : GoodIn wsX11_live (wsV RX11 395 RX11 yX11_goes wsX11_goes) := goodIn_app (goodIn_of _ (by decide +kernel)) ggX11_live_X11_goes
set_option maxRecDepth 100000 in
theorem ggX11_on_X11_in : GoodIn wsX11_on wsX11_in := goodIn_r _ [7] rfl (by decide +kernel)
set_option maxRecDepth 100000 in
theorem gX11_on_X11_in : GoodIn wsX11_on (va_wsS RX11 97 yX11_in wsX11_in) := goodIn_app (goodIn_of _ (by decide +kernel)) ggX11_on_X11_in
set_option maxRecDepth 100000 in
theorem ggX11_on_X11_throwsIf : GoodIn wsX11_on wsX11_throwsIf := goodIn_r _ [11, 1, 16, 17, 18, 19, 20, 21, 22, 23, 24, 25, 26, 27, 28, 29, 30, 31, 32, 33, 34, 35, 36, 37, 38, 39, 40, 41, 42, 43, 44, 45, 46, 47, 48, 49] rfl (by decide +kernel)
set_option maxRecDepth 100000 in
theorem gX11_on_X11_throwsIf : GoodIn wsX11_on (wsV RX11 240 RX11 yX11_throwsIf wsX11_throwsIf) := goodIn_app (goodIn_of _ (by decide +kernel)) ggX11_on_X11_throwsIf
set_option maxRecDepth 100000 in
theorem ggX11_on_X11_cornersOf : GoodIn wsX11_on wsX11_cornersOf := goodIn_r _ [15, 2, 16, 17, 18, 19, 20, 21, 22, 23, 24, 25, 26, 27, 28, 29, 30, 31, 32, 33, 34, 35, 36, 37, 38, 39, 40, 41, 42, 43, 44, 45, 46, 47, 48, 49] rfl (by decide +kernel)
set_option maxRecDepth 100000 in
theorem gX11_on_X11_cornersOf : GoodIn wsX11_on (wsV RX11 105 RX11 yX11_cornersOf wsX11_cornersOf) := goodIn_app (goodIn_of _ (by decide +kernel)) ggX11_on_X11_cornersOf
set_option maxRecDepth 100000 in
theorem ggX11_count_X11_ways : GoodIn wsX11_count wsX11_ways := goodIn_r _ [7, 2, 15, 16, 17, 18, 19, 20, 21, 22, 23, 24, 25, 26, 27, 28, 29, 30, 31, 32, 33, 34, 35, 36, 37, 38, 39, 40, 41, 42, 43, 44, 45, 46, 47, 48] rfl (by decide +kernel)
set_option maxRecDepth 100000 in
theorem gX11_count_X11_ways : GoodIn wsX11_count (wsV RX11 93 RX11 yX11_ways wsX11_ways) := goodIn_app (goodIn_of _ (by decide +kernel)) ggX11_count_X11_ways
set_option maxRecDepth 100000 in
theorem ggX11_count_X11_cornersOf : GoodIn wsX11_count wsX11_cornersOf := goodIn_r _ [11, 2, 15, 16, 17, 18, 19, 20, 21, 22, 23, 24, 25, 26, 27, 28, 29, 30, 31, 32, 33, 34, 35, 36, 37, 38, 39, 40, 41, 42, 43, 44, 45, 46, 47, 48] rfl (by decide +kernel)
set_option maxRecDepth 100000 in
theorem gX11_count_X11_cornersOf : GoodIn wsX11_count (wsV RX11 105 RX11 yX11_cornersOf wsX11_cornersOf) := goodIn_app (goodIn_of _ (by decide +kernel)) ggX11_count_X11_cornersOf
set_option maxRecDepth 100000 in
theorem ggX11_count_X11_in : GoodIn wsX11_count wsX11_in := goodIn_r _ [14] rfl (by decide +kernel)
set_option maxRecDepth 100000 in
theorem gX11_count_X11_in : GoodIn wsX11_count (va_wsS RX11 97 yX11_in wsX11_in) := goodIn_app (goodIn_of _ (by decide +kernel)) ggX11_count_X11_in
