def in_X6_init_0 : List (Nat × Instr × Nat) := [(0, (.aload_n 0, 1)), (1, (.invokespecial 3, 3)), (4, (.aload_n 0, 1)), (5, (.new 9, 3)), (8, (.dup, 1)), (9, (.invokespecial 11, 3)), (12, (.putfield 12, 3)), (15, (.aload_n 0, 1)), (16, (.new 18, 3)), (19, (.dup, 1)), (20, (.invokespecial 20, 3)), (23, (.putfield 21, 3)), (26, (.aload_n 0, 1)), (27, (.new 25, 3)), (30, (.dup, 1)), (31, (.invokespecial 27, 3)), (34, (.putfield 28, 3)), (37, (.aload_n 0, 1)), (38, (.new 32, 3)), (41, (.dup, 1)), (42, (.invokespecial 34, 3)), (45, (.putfield 35, 3)), (48, (.aload_n 0, 1)), (49, (.iconst 1, 1)), (50, (.putfield 39, 3)), (53, (.return_, 1))]
theorem al_X6_init_0 : ∀ q ∈ in_X6_init_0, decode cX6_init q.1 = .ok q.2 := by decide +kernel
theorem dX6_init_0 : decode cX6_init 0 = .ok (.aload_n 0, 1) := al_X6_init_0 (0, (.aload_n 0, 1)) (List.mem_of_getElem? (i := 0) rfl)
theorem dX6_init_1 : decode cX6_init 1 = .ok (.invokespecial 3, 3) := al_X6_init_0 (1, (.invokespecial 3, 3)) (List.mem_of_getElem? (i := 1) rfl)
theorem dX6_init_4 : decode cX6_init 4 = .ok (.aload_n 0, 1) := al_X6_init_0 (4, (.aload_n 0, 1)) (List.mem_of_getElem? (i := 2) rfl)
theorem dX6_init_5 : decode cX6_init 5 = .ok (.new 9, 3) := al_X6_init_0 (5, (.new 9, 3)) (List.mem_of_getElem? (i := 3) rfl)
theorem dX6_init_8 : decode cX6_init 8 = .ok (.dup, 1) := al_X6_init_0 (8, (.dup, 1)) (List.mem_of_getElem? (i := 4) rfl)
theorem dX6_init_9 : decode cX6_init 9 = .ok (.invokespecial 11, 3) := al_X6_init_0 (9, (.invokespecial 11, 3)) (List.mem_of_getElem? (i := 5) rfl)
theorem dX6_init_12 : decode cX6_init 12 = .ok (.putfield 12, 3) := al_X6_init_0 (12, (.putfield 12, 3)) (List.mem_of_getElem? (i := 6) rfl)
theorem dX6_init_15 : decode cX6_init 15 = .ok (.aload_n 0, 1) := al_X6_init_0 (15, (.aload_n 0, 1)) (List.mem_of_getElem? (i := 7) rfl)
theorem dX6_init_16 : decode cX6_init 16 = .ok (.new 18, 3) := al_X6_init_0 (16, (.new 18, 3)) (List.mem_of_getElem? (i := 8) rfl)
theorem dX6_init_19 : decode cX6_init 19 = .ok (.dup, 1) := al_X6_init_0 (19, (.dup, 1)) (List.mem_of_getElem? (i := 9) rfl)
theorem dX6_init_20 : decode cX6_init 20 = .ok (.invokespecial 20, 3) := al_X6_init_0 (20, (.invokespecial 20, 3)) (List.mem_of_getElem? (i := 10) rfl)
theorem dX6_init_23 : decode cX6_init 23 = .ok (.putfield 21, 3) := al_X6_init_0 (23, (.putfield 21, 3)) (List.mem_of_getElem? (i := 11) rfl)
theorem dX6_init_26 : decode cX6_init 26 = .ok (.aload_n 0, 1) := al_X6_init_0 (26, (.aload_n 0, 1)) (List.mem_of_getElem? (i := 12) rfl)
theorem dX6_init_27 : decode cX6_init 27 = .ok (.new 25, 3) := al_X6_init_0 (27, (.new 25, 3)) (List.mem_of_getElem? (i := 13) rfl)
theorem dX6_init_30 : decode cX6_init 30 = .ok (.dup, 1) := al_X6_init_0 (30, (.dup, 1)) (List.mem_of_getElem? (i := 14) rfl)
theorem dX6_init_31 : decode cX6_init 31 = .ok (.invokespecial 27, 3) := al_X6_init_0 (31, (.invokespecial 27, 3)) (List.mem_of_getElem? (i := 15) rfl)
theorem dX6_init_34 : decode cX6_init 34 = .ok (.putfield 28, 3) := al_X6_init_0 (34, (.putfield 28, 3)) (List.mem_of_getElem? (i := 16) rfl)
theorem dX6_init_37 : decode cX6_init 37 = .ok (.aload_n 0, 1) := al_X6_init_0 (37, (.aload_n 0, 1)) (List.mem_of_getElem? (i := 17) rfl)
theorem dX6_init_38 : decode cX6_init 38 = .ok (.new 32, 3) := al_X6_init_0 (38, (.new 32, 3)) (List.mem_of_getElem? (i := 18) rfl)
theorem dX6_init_41 : decode cX6_init 41 = .ok (.dup, 1) := al_X6_init_0 (41, (.dup, 1)) (List.mem_of_getElem? (i := 19) rfl)
theorem dX6_init_42 : decode cX6_init 42 = .ok (.invokespecial 34, 3) := al_X6_init_0 (42, (.invokespecial 34, 3)) (List.mem_of_getElem? (i := 20) rfl)
theorem dX6_init_45 : decode cX6_init 45 = .ok (.putfield 35, 3) := al_X6_init_0 (45, (.putfield 35, 3)) (List.mem_of_getElem? (i := 21) rfl)
theorem dX6_init_48 : decode cX6_init 48 = .ok (.aload_n 0, 1) := al_X6_init_0 (48, (.aload_n 0, 1)) (List.mem_of_getElem? (i := 22) rfl)
theorem dX6_init_49 : decode cX6_init 49 = .ok (.iconst 1, 1) := al_X6_init_0 (49, (.iconst 1, 1)) (List.mem_of_getElem? (i := 23) rfl)
theorem dX6_init_50 : decode cX6_init 50 = .ok (.putfield 39, 3) := al_X6_init_0 (50, (.putfield 39, 3)) (List.mem_of_getElem? (i := 24) rfl)
theorem dX6_init_53 : decode cX6_init 53 = .ok (.return_, 1) := al_X6_init_0 (53, (.return_, 1)) (List.mem_of_getElem? (i := 25) rfl)
def in_X6_copyFrom_0 : List (Nat × Instr × Nat) := [(0, (.aload_n 0, 1)), (1, (.getfield 12, 3)), (4, (.aload_n 1, 1)), (5, (.getfield 12, 3)), (8, (.invokevirtual 43, 3)), (11, (.aload_n 0, 1)), (12, (.getfield 21, 3)), (15, (.aload_n 1, 1)), (16, (.getfield 21, 3)), (19, (.invokevirtual 47, 3)), (22, (.aload_n 0, 1)), (23, (.getfield 28, 3)), (26, (.aload_n 1, 1)), (27, (.getfield 28, 3)), (30, (.invokevirtual 50, 3)), (33, (.aload_n 0, 1)), (34, (.getfield 35, 3)), (37, (.aload_n 1, 1)), (38, (.getfield 35, 3)), (41, (.invokevirtual 53, 3)), (44, (.aload_n 0, 1)), (45, (.aload_n 1, 1)), (46, (.getfield 39, 3)), (49, (.putfield 39, 3)), (52, (.return_, 1))]
theorem al_X6_copyFrom_0 : ∀ q ∈ in_X6_copyFrom_0, decode cX6_copyFrom q.1 = .ok q.2 := by decide +kernel
theorem dX6_copyFrom_0 : decode cX6_copyFrom 0 = .ok (.aload_n 0, 1) := al_X6_copyFrom_0 (0, (.aload_n 0, 1)) (List.mem_of_getElem? (i := 0) rfl)
theorem dX6_copyFrom_1 : decode cX6_copyFrom 1 = .ok (.getfield 12, 3) := al_X6_copyFrom_0 (1, (.getfield 12, 3)) (List.mem_of_getElem? (i := 1) rfl)
theorem dX6_copyFrom_4 : decode cX6_copyFrom 4 = .ok (.aload_n 1, 1) := al_X6_copyFrom_0 (4, (.aload_n 1, 1)) (List.mem_of_getElem? (i := 2) rfl)
theorem dX6_copyFrom_5 : decode cX6_copyFrom 5 = .ok (.getfield 12, 3) := al_X6_copyFrom_0 (5, (.getfield 12, 3)) (List.mem_of_getElem? (i := 3) rfl)
theorem dX6_copyFrom_8 : decode cX6_copyFrom 8 = .ok (.invokevirtual 43, 3) := al_X6_copyFrom_0 (8, (.invokevirtual 43, 3)) (List.mem_of_getElem? (i := 4) rfl)
theorem dX6_copyFrom_11 : decode cX6_copyFrom 11 = .ok (.aload_n 0, 1) := al_X6_copyFrom_0 (11, (.aload_n 0, 1)) (List.mem_of_getElem? (i := 5) rfl)
theorem dX6_copyFrom_12 : decode cX6_copyFrom 12 = .ok (.getfield 21, 3) := al_X6_copyFrom_0 (12, (.getfield 21, 3)) (List.mem_of_getElem? (i := 6) rfl)
theorem dX6_copyFrom_15 : decode cX6_copyFrom 15 = .ok (.aload_n 1, 1) := al_X6_copyFrom_0 (15, (.aload_n 1, 1)) (List.mem_of_getElem? (i := 7) rfl)
theorem dX6_copyFrom_16 : decode cX6_copyFrom 16 = .ok (.getfield 21, 3) := al_X6_copyFrom_0 (16, (.getfield 21, 3)) (List.mem_of_getElem? (i := 8) rfl)
theorem dX6_copyFrom_19 : decode cX6_copyFrom 19 = .ok (.invokevirtual 47, 3) := al_X6_copyFrom_0 (19, (.invokevirtual 47, 3)) (List.mem_of_getElem? (i := 9) rfl)
theorem dX6_copyFrom_22 : decode cX6_copyFrom 22 = .ok (.aload_n 0, 1) := al_X6_copyFrom_0 (22, (.aload_n 0, 1)) (List.mem_of_getElem? (i := 10) rfl)
theorem dX6_copyFrom_23 : decode cX6_copyFrom 23 = .ok (.getfield 28, 3) := al_X6_copyFrom_0 (23, (.getfield 28, 3)) (List.mem_of_getElem? (i := 11) rfl)
theorem dX6_copyFrom_26 : decode cX6_copyFrom 26 = .ok (.aload_n 1, 1) := al_X6_copyFrom_0 (26, (.aload_n 1, 1)) (List.mem_of_getElem? (i := 12) rfl)
theorem dX6_copyFrom_27 : decode cX6_copyFrom 27 = .ok (.getfield 28, 3) := al_X6_copyFrom_0 (27, (.getfield 28, 3)) (List.mem_of_getElem? (i := 13) rfl)
theorem dX6_copyFrom_30 : decode cX6_copyFrom 30 = .ok (.invokevirtual 50, 3) := al_X6_copyFrom_0 (30, (.invokevirtual 50, 3)) (List.mem_of_getElem? (i := 14) rfl)
theorem dX6_copyFrom_33 : decode cX6_copyFrom 33 = .ok (.aload_n 0, 1) := al_X6_copyFrom_0 (33, (.aload_n 0, 1)) (List.mem_of_getElem? (i := 15) rfl)
theorem dX6_copyFrom_34 : decode cX6_copyFrom 34 = .ok (.getfield 35, 3) := al_X6_copyFrom_0 (34, (.getfield 35, 3)) (List.mem_of_getElem? (i := 16) rfl)
theorem dX6_copyFrom_37 : decode cX6_copyFrom 37 = .ok (.aload_n 1, 1) := al_X6_copyFrom_0 (37, (.aload_n 1, 1)) (List.mem_of_getElem? (i := 17) rfl)
theorem dX6_copyFrom_38 : decode cX6_copyFrom 38 = .ok (.getfield 35, 3) := al_X6_copyFrom_0 (38, (.getfield 35, 3)) (List.mem_of_getElem? (i := 18) rfl)
theorem dX6_copyFrom_41 : decode cX6_copyFrom 41 = .ok (.invokevirtual 53, 3) := al_X6_copyFrom_0 (41, (.invokevirtual 53, 3)) (List.mem_of_getElem? (i := 19) rfl)
theorem dX6_copyFrom_44 : decode cX6_copyFrom 44 = .ok (.aload_n 0, 1) := al_X6_copyFrom_0 (44, (.aload_n 0, 1)) (List.mem_of_getElem? (i := 20) rfl)
theorem dX6_copyFrom_45 : decode cX6_copyFrom 45 = .ok (.aload_n 1, 1) := al_X6_copyFrom_0 (45, (.aload_n 1, 1)) (List.mem_of_getElem? (i := 21) rfl)
theorem dX6_copyFrom_46 : decode cX6_copyFrom 46 = .ok (.getfield 39, 3) := al_X6_copyFrom_0 (46, (.getfield 39, 3)) (List.mem_of_getElem? (i := 22) rfl)
theorem dX6_copyFrom_49 : decode cX6_copyFrom 49 = .ok (.putfield 39, 3) := al_X6_copyFrom_0 (49, (.putfield 39, 3)) (List.mem_of_getElem? (i := 23) rfl)
theorem dX6_copyFrom_52 : decode cX6_copyFrom 52 = .ok (.return_, 1) := al_X6_copyFrom_0 (52, (.return_, 1)) (List.mem_of_getElem? (i := 24) rfl)
def in_X6_isShut_0 : List (Nat × Instr × Nat) := [(0, (.aload_n 0, 1)), (1, (.getfield 12, 3)), (4, (.iload_n 1, 1)), (5, (.iload_n 2, 1)), (6, (.iload_n 3, 1)), (7, (.iload 4, 2)), (9, (.invokevirtual 56, 3)), (12, (.ifCond .ne 22, 3)), (15, (.aload_n 0, 1)), (16, (.getfield 21, 3)), (19, (.aload_n 0, 1)), (20, (.getfield 12, 3)), (23, (.iload_n 1, 1)), (24, (.iload_n 2, 1)), (25, (.iload_n 3, 1)), (26, (.iload 4, 2)), (28, (.invokevirtual 60, 3)), (31, (.ifCond .eq 7, 3)), (34, (.iconst 1, 1)), (35, (.goto 4, 3)), (38, (.iconst 0, 1)), (39, (.ireturn, 1))]
theorem al_X6_isShut_0 : ∀ q ∈ in_X6_isShut_0, decode cX6_isShut q.1 = .ok q.2 := by decide +kernel
theorem dX6_isShut_0 : decode cX6_isShut 0 = .ok (.aload_n 0, 1) := al_X6_isShut_0 (0, (.aload_n 0, 1)) (List.mem_of_getElem? (i := 0) rfl)
theorem dX6_isShut_1 : decode cX6_isShut 1 = .ok (.getfield 12, 3) := al_X6_isShut_0 (1, (.getfield 12, 3)) (List.mem_of_getElem? (i := 1) rfl)
theorem dX6_isShut_4 : decode cX6_isShut 4 = .ok (.iload_n 1, 1) := al_X6_isShut_0 (4, (.iload_n 1, 1)) (List.mem_of_getElem? (i := 2) rfl)
theorem dX6_isShut_5 : decode cX6_isShut 5 = .ok (.iload_n 2, 1) := al_X6_isShut_0 (5, (.iload_n 2, 1)) (List.mem_of_getElem? (i := 3) rfl)
theorem dX6_isShut_6 : decode cX6_isShut 6 = .ok (.iload_n 3, 1) := al_X6_isShut_0 (6, (.iload_n 3, 1)) (List.mem_of_getElem? (i := 4) rfl)
theorem dX6_isShut_7 : decode cX6_isShut 7 = .ok (.iload 4, 2) := al_X6_isShut_0 (7, (.iload 4, 2)) (List.mem_of_getElem? (i := 5) rfl)
theorem dX6_isShut_9 : decode cX6_isShut 9 = .ok (.invokevirtual 56, 3) := al_X6_isShut_0 (9, (.invokevirtual 56, 3)) (List.mem_of_getElem? (i := 6) rfl)
theorem dX6_isShut_12 : decode cX6_isShut 12 = .ok (.ifCond .ne 22, 3) := al_X6_isShut_0 (12, (.ifCond .ne 22, 3)) (List.mem_of_getElem? (i := 7) rfl)
theorem dX6_isShut_15 : decode cX6_isShut 15 = .ok (.aload_n 0, 1) := al_X6_isShut_0 (15, (.aload_n 0, 1)) (List.mem_of_getElem? (i := 8) rfl)
theorem dX6_isShut_16 : decode cX6_isShut 16 = .ok (.getfield 21, 3) := al_X6_isShut_0 (16, (.getfield 21, 3)) (List.mem_of_getElem? (i := 9) rfl)
theorem dX6_isShut_19 : decode cX6_isShut 19 = .ok (.aload_n 0, 1) := al_X6_isShut_0 (19, (.aload_n 0, 1)) (List.mem_of_getElem? (i := 10) rfl)
theorem dX6_isShut_20 : decode cX6_isShut 20 = .ok (.getfield 12, 3) := al_X6_isShut_0 (20, (.getfield 12, 3)) (List.mem_of_getElem? (i := 11) rfl)
theorem dX6_isShut_23 : decode cX6_isShut 23 = .ok (.iload_n 1, 1) := al_X6_isShut_0 (23, (.iload_n 1, 1)) (List.mem_of_getElem? (i := 12) rfl)
theorem dX6_isShut_24 : decode cX6_isShut 24 = .ok (.iload_n 2, 1) := al_X6_isShut_0 (24, (.iload_n 2, 1)) (List.mem_of_getElem? (i := 13) rfl)
theorem dX6_isShut_25 : decode cX6_isShut 25 = .ok (.iload_n 3, 1) := al_X6_isShut_0 (25, (.iload_n 3, 1)) (List.mem_of_getElem? (i := 14) rfl)
theorem dX6_isShut_26 : decode cX6_isShut 26 = .ok (.iload 4, 2) := al_X6_isShut_0 (26, (.iload 4, 2)) (List.mem_of_getElem? (i := 15) rfl)
theorem dX6_isShut_28 : decode cX6_isShut 28 = .ok (.invokevirtual 60, 3) := al_X6_isShut_0 (28, (.invokevirtual 60, 3)) (List.mem_of_getElem? (i := 16) rfl)
theorem dX6_isShut_31 : decode cX6_isShut 31 = .ok (.ifCond .eq 7, 3) := al_X6_isShut_0 (31, (.ifCond .eq 7, 3)) (List.mem_of_getElem? (i := 17) rfl)
theorem dX6_isShut_34 : decode cX6_isShut 34 = .ok (.iconst 1, 1) := al_X6_isShut_0 (34, (.iconst 1, 1)) (List.mem_of_getElem? (i := 18) rfl)
theorem dX6_isShut_35 : decode cX6_isShut 35 = .ok (.goto 4, 3) := al_X6_isShut_0 (35, (.goto 4, 3)) (List.mem_of_getElem? (i := 19) rfl)
theorem dX6_isShut_38 : decode cX6_isShut 38 = .ok (.iconst 0, 1) := al_X6_isShut_0 (38, (.iconst 0, 1)) (List.mem_of_getElem? (i := 20) rfl)
theorem dX6_isShut_39 : decode cX6_isShut 39 = .ok (.ireturn, 1) := al_X6_isShut_0 (39, (.ireturn, 1)) (List.mem_of_getElem? (i := 21) rfl)
def in_X6_allows_0 : List (Nat × Instr × Nat) := [(0, (.aload_n 0, 1)), (1, (.getfield 12, 3)), (4, (.iload_n 1, 1)), (5, (.iload_n 2, 1)), (6, (.invokevirtual 64, 3)), (9, (.ifCond .eq 49, 3)), (12, (.aload_n 0, 1)), (13, (.getfield 12, 3)), (16, (.iload_n 3, 1)), (17, (.iload 4, 2)), (19, (.invokevirtual 64, 3)), (22, (.ifCond .eq 36, 3)), (25, (.aload_n 0, 1)), (26, (.getfield 12, 3)), (29, (.iload_n 1, 1)), (30, (.iload_n 2, 1)), (31, (.iload_n 3, 1)), (32, (.iload 4, 2)), (34, (.invokevirtual 68, 3)), (37, (.iload 5, 2)), (39, (.if_icmp .gt 19, 3)), (42, (.aload_n 0, 1)), (43, (.iload_n 1, 1)), (44, (.iload_n 2, 1)), (45, (.iload_n 3, 1)), (46, (.iload 4, 2)), (48, (.invokevirtual 72, 3)), (51, (.ifCond .ne 7, 3)), (54, (.iconst 1, 1)), (55, (.goto 4, 3)), (58, (.iconst 0, 1)), (59, (.ireturn, 1))]
theorem al_X6_allows_0 : ∀ q ∈ in_X6_allows_0, decode cX6_allows q.1 = .ok q.2 := by decide +kernel
theorem dX6_allows_0 : decode cX6_allows 0 = .ok (.aload_n 0, 1) := al_X6_allows_0 (0, (.aload_n 0, 1)) (List.mem_of_getElem? (i := 0) rfl)
theorem dX6_allows_1 : decode cX6_allows 1 = .ok (.getfield 12, 3) := al_X6_allows_0 (1, (.getfield 12, 3)) (List.mem_of_getElem? (i := 1) rfl)
theorem dX6_allows_4 : decode cX6_allows 4 = .ok (.iload_n 1, 1) := al_X6_allows_0 (4, (.iload_n 1, 1)) (List.mem_of_getElem? (i := 2) rfl)
theorem dX6_allows_5 : decode cX6_allows 5 = .ok (.iload_n 2, 1) := al_X6_allows_0 (5, (.iload_n 2, 1)) (List.mem_of_getElem? (i := 3) rfl)
theorem dX6_allows_6 : decode cX6_allows 6 = .ok (.invokevirtual 64, 3) := al_X6_allows_0 (6, (.invokevirtual 64, 3)) (List.mem_of_getElem? (i := 4) rfl)
theorem dX6_allows_9 : decode cX6_allows 9 = .ok (.ifCond .eq 49, 3) := al_X6_allows_0 (9, (.ifCond .eq 49, 3)) (List.mem_of_getElem? (i := 5) rfl)
theorem dX6_allows_12 : decode cX6_allows 12 = .ok (.aload_n 0, 1) := al_X6_allows_0 (12, (.aload_n 0, 1)) (List.mem_of_getElem? (i := 6) rfl)
theorem dX6_allows_13 : decode cX6_allows 13 = .ok (.getfield 12, 3) := al_X6_allows_0 (13, (.getfield 12, 3)) (List.mem_of_getElem? (i := 7) rfl)
theorem dX6_allows_16 : decode cX6_allows 16 = .ok (.iload_n 3, 1) := al_X6_allows_0 (16, (.iload_n 3, 1)) (List.mem_of_getElem? (i := 8) rfl)
theorem dX6_allows_17 : decode cX6_allows 17 = .ok (.iload 4, 2) := al_X6_allows_0 (17, (.iload 4, 2)) (List.mem_of_getElem? (i := 9) rfl)
theorem dX6_allows_19 : decode cX6_allows 19 = .ok (.invokevirtual 64, 3) := al_X6_allows_0 (19, (.invokevirtual 64, 3)) (List.mem_of_getElem? (i := 10) rfl)
theorem dX6_allows_22 : decode cX6_allows 22 = .ok (.ifCond .eq 36, 3) := al_X6_allows_0 (22, (.ifCond .eq 36, 3)) (List.mem_of_getElem? (i := 11) rfl)
theorem dX6_allows_25 : decode cX6_allows 25 = .ok (.aload_n 0, 1) := al_X6_allows_0 (25, (.aload_n 0, 1)) (List.mem_of_getElem? (i := 12) rfl)
theorem dX6_allows_26 : decode cX6_allows 26 = .ok (.getfield 12, 3) := al_X6_allows_0 (26, (.getfield 12, 3)) (List.mem_of_getElem? (i := 13) rfl)
theorem dX6_allows_29 : decode cX6_allows 29 = .ok (.iload_n 1, 1) := al_X6_allows_0 (29, (.iload_n 1, 1)) (List.mem_of_getElem? (i := 14) rfl)
theorem dX6_allows_30 : decode cX6_allows 30 = .ok (.iload_n 2, 1) := al_X6_allows_0 (30, (.iload_n 2, 1)) (List.mem_of_getElem? (i := 15) rfl)
theorem dX6_allows_31 : decode cX6_allows 31 = .ok (.iload_n 3, 1) := al_X6_allows_0 (31, (.iload_n 3, 1)) (List.mem_of_getElem? (i := 16) rfl)
theorem dX6_allows_32 : decode cX6_allows 32 = .ok (.iload 4, 2) := al_X6_allows_0 (32, (.iload 4, 2)) (List.mem_of_getElem? (i := 17) rfl)
theorem dX6_allows_34 : decode cX6_allows 34 = .ok (.invokevirtual 68, 3) := al_X6_allows_0 (34, (.invokevirtual 68, 3)) (List.mem_of_getElem? (i := 18) rfl)
theorem dX6_allows_37 : decode cX6_allows 37 = .ok (.iload 5, 2) := al_X6_allows_0 (37, (.iload 5, 2)) (List.mem_of_getElem? (i := 19) rfl)
theorem dX6_allows_39 : decode cX6_allows 39 = .ok (.if_icmp .gt 19, 3) := al_X6_allows_0 (39, (.if_icmp .gt 19, 3)) (List.mem_of_getElem? (i := 20) rfl)
theorem dX6_allows_42 : decode cX6_allows 42 = .ok (.aload_n 0, 1) := al_X6_allows_0 (42, (.aload_n 0, 1)) (List.mem_of_getElem? (i := 21) rfl)
theorem dX6_allows_43 : decode cX6_allows 43 = .ok (.iload_n 1, 1) := al_X6_allows_0 (43, (.iload_n 1, 1)) (List.mem_of_getElem? (i := 22) rfl)
theorem dX6_allows_44 : decode cX6_allows 44 = .ok (.iload_n 2, 1) := al_X6_allows_0 (44, (.iload_n 2, 1)) (List.mem_of_getElem? (i := 23) rfl)
theorem dX6_allows_45 : decode cX6_allows 45 = .ok (.iload_n 3, 1) := al_X6_allows_0 (45, (.iload_n 3, 1)) (List.mem_of_getElem? (i := 24) rfl)
theorem dX6_allows_46 : decode cX6_allows 46 = .ok (.iload 4, 2) := al_X6_allows_0 (46, (.iload 4, 2)) (List.mem_of_getElem? (i := 25) rfl)
theorem dX6_allows_48 : decode cX6_allows 48 = .ok (.invokevirtual 72, 3) := al_X6_allows_0 (48, (.invokevirtual 72, 3)) (List.mem_of_getElem? (i := 26) rfl)
theorem dX6_allows_51 : decode cX6_allows 51 = .ok (.ifCond .ne 7, 3) := al_X6_allows_0 (51, (.ifCond .ne 7, 3)) (List.mem_of_getElem? (i := 27) rfl)
theorem dX6_allows_54 : decode cX6_allows 54 = .ok (.iconst 1, 1) := al_X6_allows_0 (54, (.iconst 1, 1)) (List.mem_of_getElem? (i := 28) rfl)
theorem dX6_allows_55 : decode cX6_allows 55 = .ok (.goto 4, 3) := al_X6_allows_0 (55, (.goto 4, 3)) (List.mem_of_getElem? (i := 29) rfl)
theorem dX6_allows_58 : decode cX6_allows 58 = .ok (.iconst 0, 1) := al_X6_allows_0 (58, (.iconst 0, 1)) (List.mem_of_getElem? (i := 30) rfl)
theorem dX6_allows_59 : decode cX6_allows 59 = .ok (.ireturn, 1) := al_X6_allows_0 (59, (.ireturn, 1)) (List.mem_of_getElem? (i := 31) rfl)
def in_X6_canGo_0 : List (Nat × Instr × Nat) := [(0, (.aload_n 0, 1)), (1, (.getfield 35, 3)), (4, (.getfield 75, 3)), (7, (.ifCond .eq 59, 3)), (10, (.aload_n 0, 1)), (11, (.aload_n 0, 1)), (12, (.getfield 35, 3)), (15, (.getfield 79, 3)), (18, (.aload_n 0, 1)), (19, (.getfield 35, 3)), (22, (.getfield 82, 3)), (25, (.iload_n 1, 1)), (26, (.invokestatic 85, 3)), (29, (.iadd, 1)), (30, (.aload_n 0, 1)), (31, (.getfield 35, 3)), (34, (.getfield 89, 3)), (37, (.aload_n 0, 1)), (38, (.getfield 35, 3)), (41, (.getfield 92, 3)), (44, (.iload_n 1, 1)), (45, (.invokestatic 95, 3)), (48, (.iadd, 1)), (49, (.aload_n 0, 1)), (50, (.getfield 35, 3)), (53, (.getfield 98, 3)), (56, (.invokevirtual 101, 3)), (59, (.ifCond .eq 7, 3)), (62, (.iconst 1, 1)), (63, (.goto 4, 3)), (66, (.iconst 0, 1)), (67, (.ireturn, 1))]
theorem al_X6_canGo_0 : ∀ q ∈ in_X6_canGo_0, decode cX6_canGo q.1 = .ok q.2 := by decide +kernel
theorem dX6_canGo_0 : decode cX6_canGo 0 = .ok (.aload_n 0, 1) := al_X6_canGo_0 (0, (.aload_n 0, 1)) (List.mem_of_getElem? (i := 0) rfl)
theorem dX6_canGo_1 : decode cX6_canGo 1 = .ok (.getfield 35, 3) := al_X6_canGo_0 (1, (.getfield 35, 3)) (List.mem_of_getElem? (i := 1) rfl)
theorem dX6_canGo_4 : decode cX6_canGo 4 = .ok (.getfield 75, 3) := al_X6_canGo_0 (4, (.getfield 75, 3)) (List.mem_of_getElem? (i := 2) rfl)
theorem dX6_canGo_7 : decode cX6_canGo 7 = .ok (.ifCond .eq 59, 3) := al_X6_canGo_0 (7, (.ifCond .eq 59, 3)) (List.mem_of_getElem? (i := 3) rfl)
theorem dX6_canGo_10 : decode cX6_canGo 10 = .ok (.aload_n 0, 1) := al_X6_canGo_0 (10, (.aload_n 0, 1)) (List.mem_of_getElem? (i := 4) rfl)
theorem dX6_canGo_11 : decode cX6_canGo 11 = .ok (.aload_n 0, 1) := al_X6_canGo_0 (11, (.aload_n 0, 1)) (List.mem_of_getElem? (i := 5) rfl)
theorem dX6_canGo_12 : decode cX6_canGo 12 = .ok (.getfield 35, 3) := al_X6_canGo_0 (12, (.getfield 35, 3)) (List.mem_of_getElem? (i := 6) rfl)
theorem dX6_canGo_15 : decode cX6_canGo 15 = .ok (.getfield 79, 3) := al_X6_canGo_0 (15, (.getfield 79, 3)) (List.mem_of_getElem? (i := 7) rfl)
theorem dX6_canGo_18 : decode cX6_canGo 18 = .ok (.aload_n 0, 1) := al_X6_canGo_0 (18, (.aload_n 0, 1)) (List.mem_of_getElem? (i := 8) rfl)
theorem dX6_canGo_19 : decode cX6_canGo 19 = .ok (.getfield 35, 3) := al_X6_canGo_0 (19, (.getfield 35, 3)) (List.mem_of_getElem? (i := 9) rfl)
theorem dX6_canGo_22 : decode cX6_canGo 22 = .ok (.getfield 82, 3) := al_X6_canGo_0 (22, (.getfield 82, 3)) (List.mem_of_getElem? (i := 10) rfl)
theorem dX6_canGo_25 : decode cX6_canGo 25 = .ok (.iload_n 1, 1) := al_X6_canGo_0 (25, (.iload_n 1, 1)) (List.mem_of_getElem? (i := 11) rfl)
theorem dX6_canGo_26 : decode cX6_canGo 26 = .ok (.invokestatic 85, 3) := al_X6_canGo_0 (26, (.invokestatic 85, 3)) (List.mem_of_getElem? (i := 12) rfl)
theorem dX6_canGo_29 : decode cX6_canGo 29 = .ok (.iadd, 1) := al_X6_canGo_0 (29, (.iadd, 1)) (List.mem_of_getElem? (i := 13) rfl)
theorem dX6_canGo_30 : decode cX6_canGo 30 = .ok (.aload_n 0, 1) := al_X6_canGo_0 (30, (.aload_n 0, 1)) (List.mem_of_getElem? (i := 14) rfl)
theorem dX6_canGo_31 : decode cX6_canGo 31 = .ok (.getfield 35, 3) := al_X6_canGo_0 (31, (.getfield 35, 3)) (List.mem_of_getElem? (i := 15) rfl)
theorem dX6_canGo_34 : decode cX6_canGo 34 = .ok (.getfield 89, 3) := al_X6_canGo_0 (34, (.getfield 89, 3)) (List.mem_of_getElem? (i := 16) rfl)
theorem dX6_canGo_37 : decode cX6_canGo 37 = .ok (.aload_n 0, 1) := al_X6_canGo_0 (37, (.aload_n 0, 1)) (List.mem_of_getElem? (i := 17) rfl)
theorem dX6_canGo_38 : decode cX6_canGo 38 = .ok (.getfield 35, 3) := al_X6_canGo_0 (38, (.getfield 35, 3)) (List.mem_of_getElem? (i := 18) rfl)
theorem dX6_canGo_41 : decode cX6_canGo 41 = .ok (.getfield 92, 3) := al_X6_canGo_0 (41, (.getfield 92, 3)) (List.mem_of_getElem? (i := 19) rfl)
theorem dX6_canGo_44 : decode cX6_canGo 44 = .ok (.iload_n 1, 1) := al_X6_canGo_0 (44, (.iload_n 1, 1)) (List.mem_of_getElem? (i := 20) rfl)
theorem dX6_canGo_45 : decode cX6_canGo 45 = .ok (.invokestatic 95, 3) := al_X6_canGo_0 (45, (.invokestatic 95, 3)) (List.mem_of_getElem? (i := 21) rfl)
theorem dX6_canGo_48 : decode cX6_canGo 48 = .ok (.iadd, 1) := al_X6_canGo_0 (48, (.iadd, 1)) (List.mem_of_getElem? (i := 22) rfl)
theorem dX6_canGo_49 : decode cX6_canGo 49 = .ok (.aload_n 0, 1) := al_X6_canGo_0 (49, (.aload_n 0, 1)) (List.mem_of_getElem? (i := 23) rfl)
theorem dX6_canGo_50 : decode cX6_canGo 50 = .ok (.getfield 35, 3) := al_X6_canGo_0 (50, (.getfield 35, 3)) (List.mem_of_getElem? (i := 24) rfl)
theorem dX6_canGo_53 : decode cX6_canGo 53 = .ok (.getfield 98, 3) := al_X6_canGo_0 (53, (.getfield 98, 3)) (List.mem_of_getElem? (i := 25) rfl)
theorem dX6_canGo_56 : decode cX6_canGo 56 = .ok (.invokevirtual 101, 3) := al_X6_canGo_0 (56, (.invokevirtual 101, 3)) (List.mem_of_getElem? (i := 26) rfl)
theorem dX6_canGo_59 : decode cX6_canGo 59 = .ok (.ifCond .eq 7, 3) := al_X6_canGo_0 (59, (.ifCond .eq 7, 3)) (List.mem_of_getElem? (i := 27) rfl)
theorem dX6_canGo_62 : decode cX6_canGo 62 = .ok (.iconst 1, 1) := al_X6_canGo_0 (62, (.iconst 1, 1)) (List.mem_of_getElem? (i := 28) rfl)
theorem dX6_canGo_63 : decode cX6_canGo 63 = .ok (.goto 4, 3) := al_X6_canGo_0 (63, (.goto 4, 3)) (List.mem_of_getElem? (i := 29) rfl)
theorem dX6_canGo_66 : decode cX6_canGo 66 = .ok (.iconst 0, 1) := al_X6_canGo_0 (66, (.iconst 0, 1)) (List.mem_of_getElem? (i := 30) rfl)
theorem dX6_canGo_67 : decode cX6_canGo 67 = .ok (.ireturn, 1) := al_X6_canGo_0 (67, (.ireturn, 1)) (List.mem_of_getElem? (i := 31) rfl)
def in_X6_go_0 : List (Nat × Instr × Nat) := [(0, (.aload_n 0, 1)), (1, (.getfield 12, 3)), (4, (.aload_n 0, 1)), (5, (.getfield 35, 3)), (8, (.getfield 79, 3)), (11, (.aload_n 0, 1)), (12, (.getfield 35, 3)), (15, (.getfield 82, 3)), (18, (.iload_n 1, 1)), (19, (.invokestatic 85, 3)), (22, (.iadd, 1)), (23, (.aload_n 0, 1)), (24, (.getfield 35, 3)), (27, (.getfield 89, 3)), (30, (.aload_n 0, 1)), (31, (.getfield 35, 3)), (34, (.getfield 92, 3)), (37, (.iload_n 1, 1)), (38, (.invokestatic 95, 3)), (41, (.iadd, 1)), (42, (.invokevirtual 68, 3)), (45, (.istore_n 2, 1)), (46, (.aload_n 0, 1)), (47, (.getfield 35, 3)), (50, (.iload_n 1, 1)), (51, (.iload_n 2, 1)), (52, (.invokevirtual 105, 3)), (55, (.iload_n 2, 1)), (56, (.ireturn, 1))]
theorem al_X6_go_0 : ∀ q ∈ in_X6_go_0, decode cX6_go q.1 = .ok q.2 := by decide +kernel
theorem dX6_go_0 : decode cX6_go 0 = .ok (.aload_n 0, 1) := al_X6_go_0 (0, (.aload_n 0, 1)) (List.mem_of_getElem? (i := 0) rfl)
theorem dX6_go_1 : decode cX6_go 1 = .ok (.getfield 12, 3) := al_X6_go_0 (1, (.getfield 12, 3)) (List.mem_of_getElem? (i := 1) rfl)
theorem dX6_go_4 : decode cX6_go 4 = .ok (.aload_n 0, 1) := al_X6_go_0 (4, (.aload_n 0, 1)) (List.mem_of_getElem? (i := 2) rfl)
theorem dX6_go_5 : decode cX6_go 5 = .ok (.getfield 35, 3) := al_X6_go_0 (5, (.getfield 35, 3)) (List.mem_of_getElem? (i := 3) rfl)
theorem dX6_go_8 : decode cX6_go 8 = .ok (.getfield 79, 3) := al_X6_go_0 (8, (.getfield 79, 3)) (List.mem_of_getElem? (i := 4) rfl)
theorem dX6_go_11 : decode cX6_go 11 = .ok (.aload_n 0, 1) := al_X6_go_0 (11, (.aload_n 0, 1)) (List.mem_of_getElem? (i := 5) rfl)
theorem dX6_go_12 : decode cX6_go 12 = .ok (.getfield 35, 3) := al_X6_go_0 (12, (.getfield 35, 3)) (List.mem_of_getElem? (i := 6) rfl)
theorem dX6_go_15 : decode cX6_go 15 = .ok (.getfield 82, 3) := al_X6_go_0 (15, (.getfield 82, 3)) (List.mem_of_getElem? (i := 7) rfl)
theorem dX6_go_18 : decode cX6_go 18 = .ok (.iload_n 1, 1) := al_X6_go_0 (18, (.iload_n 1, 1)) (List.mem_of_getElem? (i := 8) rfl)
theorem dX6_go_19 : decode cX6_go 19 = .ok (.invokestatic 85, 3) := al_X6_go_0 (19, (.invokestatic 85, 3)) (List.mem_of_getElem? (i := 9) rfl)
theorem dX6_go_22 : decode cX6_go 22 = .ok (.iadd, 1) := al_X6_go_0 (22, (.iadd, 1)) (List.mem_of_getElem? (i := 10) rfl)
theorem dX6_go_23 : decode cX6_go 23 = .ok (.aload_n 0, 1) := al_X6_go_0 (23, (.aload_n 0, 1)) (List.mem_of_getElem? (i := 11) rfl)
theorem dX6_go_24 : decode cX6_go 24 = .ok (.getfield 35, 3) := al_X6_go_0 (24, (.getfield 35, 3)) (List.mem_of_getElem? (i := 12) rfl)
theorem dX6_go_27 : decode cX6_go 27 = .ok (.getfield 89, 3) := al_X6_go_0 (27, (.getfield 89, 3)) (List.mem_of_getElem? (i := 13) rfl)
theorem dX6_go_30 : decode cX6_go 30 = .ok (.aload_n 0, 1) := al_X6_go_0 (30, (.aload_n 0, 1)) (List.mem_of_getElem? (i := 14) rfl)
theorem dX6_go_31 : decode cX6_go 31 = .ok (.getfield 35, 3) := al_X6_go_0 (31, (.getfield 35, 3)) (List.mem_of_getElem? (i := 15) rfl)
theorem dX6_go_34 : decode cX6_go 34 = .ok (.getfield 92, 3) := al_X6_go_0 (34, (.getfield 92, 3)) (List.mem_of_getElem? (i := 16) rfl)
theorem dX6_go_37 : decode cX6_go 37 = .ok (.iload_n 1, 1) := al_X6_go_0 (37, (.iload_n 1, 1)) (List.mem_of_getElem? (i := 17) rfl)
theorem dX6_go_38 : decode cX6_go 38 = .ok (.invokestatic 95, 3) := al_X6_go_0 (38, (.invokestatic 95, 3)) (List.mem_of_getElem? (i := 18) rfl)
theorem dX6_go_41 : decode cX6_go 41 = .ok (.iadd, 1) := al_X6_go_0 (41, (.iadd, 1)) (List.mem_of_getElem? (i := 19) rfl)
theorem dX6_go_42 : decode cX6_go 42 = .ok (.invokevirtual 68, 3) := al_X6_go_0 (42, (.invokevirtual 68, 3)) (List.mem_of_getElem? (i := 20) rfl)
theorem dX6_go_45 : decode cX6_go 45 = .ok (.istore_n 2, 1) := al_X6_go_0 (45, (.istore_n 2, 1)) (List.mem_of_getElem? (i := 21) rfl)
theorem dX6_go_46 : decode cX6_go 46 = .ok (.aload_n 0, 1) := al_X6_go_0 (46, (.aload_n 0, 1)) (List.mem_of_getElem? (i := 22) rfl)
theorem dX6_go_47 : decode cX6_go 47 = .ok (.getfield 35, 3) := al_X6_go_0 (47, (.getfield 35, 3)) (List.mem_of_getElem? (i := 23) rfl)
theorem dX6_go_50 : decode cX6_go 50 = .ok (.iload_n 1, 1) := al_X6_go_0 (50, (.iload_n 1, 1)) (List.mem_of_getElem? (i := 24) rfl)
theorem dX6_go_51 : decode cX6_go 51 = .ok (.iload_n 2, 1) := al_X6_go_0 (51, (.iload_n 2, 1)) (List.mem_of_getElem? (i := 25) rfl)
theorem dX6_go_52 : decode cX6_go 52 = .ok (.invokevirtual 105, 3) := al_X6_go_0 (52, (.invokevirtual 105, 3)) (List.mem_of_getElem? (i := 26) rfl)
theorem dX6_go_55 : decode cX6_go 55 = .ok (.iload_n 2, 1) := al_X6_go_0 (55, (.iload_n 2, 1)) (List.mem_of_getElem? (i := 27) rfl)
theorem dX6_go_56 : decode cX6_go 56 = .ok (.ireturn, 1) := al_X6_go_0 (56, (.ireturn, 1)) (List.mem_of_getElem? (i := 28) rfl)
def in_X6_isStrollOver_0 : List (Nat × Instr × Nat) := [(0, (.aload_n 0, 1)), (1, (.getfield 12, 3)), (4, (.aload_n 0, 1)), (5, (.getfield 35, 3)), (8, (.getfield 79, 3)), (11, (.aload_n 0, 1)), (12, (.getfield 35, 3)), (15, (.getfield 82, 3)), (18, (.iconst 1, 1)), (19, (.iadd, 1)), (20, (.invokevirtual 64, 3)), (23, (.ifCond .ne 33, 3)), (26, (.aload_n 0, 1)), (27, (.getfield 12, 3)), (30, (.aload_n 0, 1)), (31, (.getfield 35, 3)), (34, (.getfield 89, 3)), (37, (.aload_n 0, 1)), (38, (.getfield 35, 3)), (41, (.getfield 92, 3)), (44, (.iconst 1, 1)), (45, (.iadd, 1)), (46, (.invokevirtual 64, 3)), (49, (.ifCond .ne 7, 3)), (52, (.iconst 1, 1)), (53, (.goto 4, 3)), (56, (.iconst 0, 1)), (57, (.ireturn, 1))]
theorem al_X6_isStrollOver_0 : ∀ q ∈ in_X6_isStrollOver_0, decode cX6_isStrollOver q.1 = .ok q.2 := by decide +kernel
theorem dX6_isStrollOver_0 : decode cX6_isStrollOver 0 = .ok (.aload_n 0, 1) := al_X6_isStrollOver_0 (0, (.aload_n 0, 1)) (List.mem_of_getElem? (i := 0) rfl)
theorem dX6_isStrollOver_1 : decode cX6_isStrollOver 1 = .ok (.getfield 12, 3) := al_X6_isStrollOver_0 (1, (.getfield 12, 3)) (List.mem_of_getElem? (i := 1) rfl)
theorem dX6_isStrollOver_4 : decode cX6_isStrollOver 4 = .ok (.aload_n 0, 1) := al_X6_isStrollOver_0 (4, (.aload_n 0, 1)) (List.mem_of_getElem? (i := 2) rfl)
theorem dX6_isStrollOver_5 : decode cX6_isStrollOver 5 = .ok (.getfield 35, 3) := al_X6_isStrollOver_0 (5, (.getfield 35, 3)) (List.mem_of_getElem? (i := 3) rfl)
theorem dX6_isStrollOver_8 : decode cX6_isStrollOver 8 = .ok (.getfield 79, 3) := al_X6_isStrollOver_0 (8, (.getfield 79, 3)) (List.mem_of_getElem? (i := 4) rfl)
theorem dX6_isStrollOver_11 : decode cX6_isStrollOver 11 = .ok (.aload_n 0, 1) := al_X6_isStrollOver_0 (11, (.aload_n 0, 1)) (List.mem_of_getElem? (i := 5) rfl)
theorem dX6_isStrollOver_12 : decode cX6_isStrollOver 12 = .ok (.getfield 35, 3) := al_X6_isStrollOver_0 (12, (.getfield 35, 3)) (List.mem_of_getElem? (i := 6) rfl)
theorem dX6_isStrollOver_15 : decode cX6_isStrollOver 15 = .ok (.getfield 82, 3) := al_X6_isStrollOver_0 (15, (.getfield 82, 3)) (List.mem_of_getElem? (i := 7) rfl)
theorem dX6_isStrollOver_18 : decode cX6_isStrollOver 18 = .ok (.iconst 1, 1) := al_X6_isStrollOver_0 (18, (.iconst 1, 1)) (List.mem_of_getElem? (i := 8) rfl)
theorem dX6_isStrollOver_19 : decode cX6_isStrollOver 19 = .ok (.iadd, 1) := al_X6_isStrollOver_0 (19, (.iadd, 1)) (List.mem_of_getElem? (i := 9) rfl)
theorem dX6_isStrollOver_20 : decode cX6_isStrollOver 20 = .ok (.invokevirtual 64, 3) := al_X6_isStrollOver_0 (20, (.invokevirtual 64, 3)) (List.mem_of_getElem? (i := 10) rfl)
theorem dX6_isStrollOver_23 : decode cX6_isStrollOver 23 = .ok (.ifCond .ne 33, 3) := al_X6_isStrollOver_0 (23, (.ifCond .ne 33, 3)) (List.mem_of_getElem? (i := 11) rfl)
theorem dX6_isStrollOver_26 : decode cX6_isStrollOver 26 = .ok (.aload_n 0, 1) := al_X6_isStrollOver_0 (26, (.aload_n 0, 1)) (List.mem_of_getElem? (i := 12) rfl)
theorem dX6_isStrollOver_27 : decode cX6_isStrollOver 27 = .ok (.getfield 12, 3) := al_X6_isStrollOver_0 (27, (.getfield 12, 3)) (List.mem_of_getElem? (i := 13) rfl)
theorem dX6_isStrollOver_30 : decode cX6_isStrollOver 30 = .ok (.aload_n 0, 1) := al_X6_isStrollOver_0 (30, (.aload_n 0, 1)) (List.mem_of_getElem? (i := 14) rfl)
theorem dX6_isStrollOver_31 : decode cX6_isStrollOver 31 = .ok (.getfield 35, 3) := al_X6_isStrollOver_0 (31, (.getfield 35, 3)) (List.mem_of_getElem? (i := 15) rfl)
theorem dX6_isStrollOver_34 : decode cX6_isStrollOver 34 = .ok (.getfield 89, 3) := al_X6_isStrollOver_0 (34, (.getfield 89, 3)) (List.mem_of_getElem? (i := 16) rfl)
theorem dX6_isStrollOver_37 : decode cX6_isStrollOver 37 = .ok (.aload_n 0, 1) := al_X6_isStrollOver_0 (37, (.aload_n 0, 1)) (List.mem_of_getElem? (i := 17) rfl)
theorem dX6_isStrollOver_38 : decode cX6_isStrollOver 38 = .ok (.getfield 35, 3) := al_X6_isStrollOver_0 (38, (.getfield 35, 3)) (List.mem_of_getElem? (i := 18) rfl)
theorem dX6_isStrollOver_41 : decode cX6_isStrollOver 41 = .ok (.getfield 92, 3) := al_X6_isStrollOver_0 (41, (.getfield 92, 3)) (List.mem_of_getElem? (i := 19) rfl)
theorem dX6_isStrollOver_44 : decode cX6_isStrollOver 44 = .ok (.iconst 1, 1) := al_X6_isStrollOver_0 (44, (.iconst 1, 1)) (List.mem_of_getElem? (i := 20) rfl)
theorem dX6_isStrollOver_45 : decode cX6_isStrollOver 45 = .ok (.iadd, 1) := al_X6_isStrollOver_0 (45, (.iadd, 1)) (List.mem_of_getElem? (i := 21) rfl)
theorem dX6_isStrollOver_46 : decode cX6_isStrollOver 46 = .ok (.invokevirtual 64, 3) := al_X6_isStrollOver_0 (46, (.invokevirtual 64, 3)) (List.mem_of_getElem? (i := 22) rfl)
theorem dX6_isStrollOver_49 : decode cX6_isStrollOver 49 = .ok (.ifCond .ne 7, 3) := al_X6_isStrollOver_0 (49, (.ifCond .ne 7, 3)) (List.mem_of_getElem? (i := 23) rfl)
theorem dX6_isStrollOver_52 : decode cX6_isStrollOver 52 = .ok (.iconst 1, 1) := al_X6_isStrollOver_0 (52, (.iconst 1, 1)) (List.mem_of_getElem? (i := 24) rfl)
theorem dX6_isStrollOver_53 : decode cX6_isStrollOver 53 = .ok (.goto 4, 3) := al_X6_isStrollOver_0 (53, (.goto 4, 3)) (List.mem_of_getElem? (i := 25) rfl)
theorem dX6_isStrollOver_56 : decode cX6_isStrollOver 56 = .ok (.iconst 0, 1) := al_X6_isStrollOver_0 (56, (.iconst 0, 1)) (List.mem_of_getElem? (i := 26) rfl)
theorem dX6_isStrollOver_57 : decode cX6_isStrollOver 57 = .ok (.ireturn, 1) := al_X6_isStrollOver_0 (57, (.ireturn, 1)) (List.mem_of_getElem? (i := 27) rfl)
def in_X6_drawStep_0 : List (Nat × Instr × Nat) := [(0, (.iconst 0, 1)), (1, (.istore_n 1, 1)), (2, (.iconst 0, 1)), (3, (.istore_n 2, 1)), (4, (.iconst 1, 1)), (5, (.istore_n 3, 1)), (6, (.iload_n 3, 1)), (7, (.iconst 3, 1)), (8, (.if_icmp .gt 26, 3)), (11, (.aload_n 0, 1)), (12, (.iload_n 3, 1)), (13, (.invokevirtual 109, 3)), (16, (.ifCond .eq 12, 3)), (19, (.iload_n 1, 1)), (20, (.iconst 1, 1)), (21, (.iload_n 3, 1)), (22, (.ishl, 1)), (23, (.ior, 1)), (24, (.istore_n 1, 1)), (25, (.iinc 2 1, 3)), (28, (.iinc 3 1, 3)), (31, (.goto (-25), 3)), (34, (.iload_n 2, 1)), (35, (.ifCond .ne 5, 3)), (38, (.iconst (-1), 1)), (39, (.ireturn, 1)), (40, (.aload_n 0, 1)), (41, (.invokevirtual 113, 3)), (44, (.iload_n 2, 1)), (45, (.irem, 1)), (46, (.istore_n 3, 1)), (47, (.iconst 1, 1)), (48, (.istore 4, 2)), (50, (.iload 4, 2)), (52, (.iconst 3, 1)), (53, (.if_icmp .gt 31, 3)), (56, (.iload_n 1, 1)), (57, (.iload 4, 2)), (59, (.ishr, 1)), (60, (.iconst 1, 1)), (61, (.iand, 1)), (62, (.ifCond .ne 6, 3)), (65, (.goto 13, 3)), (68, (.iload_n 3, 1)), (69, (.ifCond .ne 6, 3)), (72, (.iload 4, 2)), (74, (.ireturn, 1)), (75, (.iinc 3 (-1), 3)), (78, (.iinc 4 1, 3)), (81, (.goto (-31), 3)), (84, (.iconst (-1), 1)), (85, (.ireturn, 1))]
theorem al_X6_drawStep_0 : ∀ q ∈ in_X6_drawStep_0, decode cX6_drawStep q.1 = .ok q.2 := by decide +kernel
theorem dX6_drawStep_0 : decode cX6_drawStep 0 = .ok (.iconst 0, 1) := al_X6_drawStep_0 (0, (.iconst 0, 1)) (List.mem_of_getElem? (i := 0) rfl)
theorem dX6_drawStep_1 : decode cX6_drawStep 1 = .ok (.istore_n 1, 1) := al_X6_drawStep_0 (1, (.istore_n 1, 1)) (List.mem_of_getElem? (i := 1) rfl)
theorem dX6_drawStep_2 : decode cX6_drawStep 2 = .ok (.iconst 0, 1) := al_X6_drawStep_0 (2, (.iconst 0, 1)) (List.mem_of_getElem? (i := 2) rfl)
theorem dX6_drawStep_3 : decode cX6_drawStep 3 = .ok (.istore_n 2, 1) := al_X6_drawStep_0 (3, (.istore_n 2, 1)) (List.mem_of_getElem? (i := 3) rfl)
theorem dX6_drawStep_4 : decode cX6_drawStep 4 = .ok (.iconst 1, 1) := al_X6_drawStep_0 (4, (.iconst 1, 1)) (List.mem_of_getElem? (i := 4) rfl)
theorem dX6_drawStep_5 : decode cX6_drawStep 5 = .ok (.istore_n 3, 1) := al_X6_drawStep_0 (5, (.istore_n 3, 1)) (List.mem_of_getElem? (i := 5) rfl)
theorem dX6_drawStep_6 : decode cX6_drawStep 6 = .ok (.iload_n 3, 1) := al_X6_drawStep_0 (6, (.iload_n 3, 1)) (List.mem_of_getElem? (i := 6) rfl)
theorem dX6_drawStep_7 : decode cX6_drawStep 7 = .ok (.iconst 3, 1) := al_X6_drawStep_0 (7, (.iconst 3, 1)) (List.mem_of_getElem? (i := 7) rfl)
theorem dX6_drawStep_8 : decode cX6_drawStep 8 = .ok (.if_icmp .gt 26, 3) := al_X6_drawStep_0 (8, (.if_icmp .gt 26, 3)) (List.mem_of_getElem? (i := 8) rfl)
theorem dX6_drawStep_11 : decode cX6_drawStep 11 = .ok (.aload_n 0, 1) := al_X6_drawStep_0 (11, (.aload_n 0, 1)) (List.mem_of_getElem? (i := 9) rfl)
theorem dX6_drawStep_12 : decode cX6_drawStep 12 = .ok (.iload_n 3, 1) := al_X6_drawStep_0 (12, (.iload_n 3, 1)) (List.mem_of_getElem? (i := 10) rfl)
theorem dX6_drawStep_13 : decode cX6_drawStep 13 = .ok (.invokevirtual 109, 3) := al_X6_drawStep_0 (13, (.invokevirtual 109, 3)) (List.mem_of_getElem? (i := 11) rfl)
theorem dX6_drawStep_16 : decode cX6_drawStep 16 = .ok (.ifCond .eq 12, 3) := al_X6_drawStep_0 (16, (.ifCond .eq 12, 3)) (List.mem_of_getElem? (i := 12) rfl)
theorem dX6_drawStep_19 : decode cX6_drawStep 19 = .ok (.iload_n 1, 1) := al_X6_drawStep_0 (19, (.iload_n 1, 1)) (List.mem_of_getElem? (i := 13) rfl)
theorem dX6_drawStep_20 : decode cX6_drawStep 20 = .ok (.iconst 1, 1) := al_X6_drawStep_0 (20, (.iconst 1, 1)) (List.mem_of_getElem? (i := 14) rfl)
theorem dX6_drawStep_21 : decode cX6_drawStep 21 = .ok (.iload_n 3, 1) := al_X6_drawStep_0 (21, (.iload_n 3, 1)) (List.mem_of_getElem? (i := 15) rfl)
theorem dX6_drawStep_22 : decode cX6_drawStep 22 = .ok (.ishl, 1) := al_X6_drawStep_0 (22, (.ishl, 1)) (List.mem_of_getElem? (i := 16) rfl)
theorem dX6_drawStep_23 : decode cX6_drawStep 23 = .ok (.ior, 1) := al_X6_drawStep_0 (23, (.ior, 1)) (List.mem_of_getElem? (i := 17) rfl)
theorem dX6_drawStep_24 : decode cX6_drawStep 24 = .ok (.istore_n 1, 1) := al_X6_drawStep_0 (24, (.istore_n 1, 1)) (List.mem_of_getElem? (i := 18) rfl)
theorem dX6_drawStep_25 : decode cX6_drawStep 25 = .ok (.iinc 2 1, 3) := al_X6_drawStep_0 (25, (.iinc 2 1, 3)) (List.mem_of_getElem? (i := 19) rfl)
theorem dX6_drawStep_28 : decode cX6_drawStep 28 = .ok (.iinc 3 1, 3) := al_X6_drawStep_0 (28, (.iinc 3 1, 3)) (List.mem_of_getElem? (i := 20) rfl)
theorem dX6_drawStep_31 : decode cX6_drawStep 31 = .ok (.goto (-25), 3) := al_X6_drawStep_0 (31, (.goto (-25), 3)) (List.mem_of_getElem? (i := 21) rfl)
theorem dX6_drawStep_34 : decode cX6_drawStep 34 = .ok (.iload_n 2, 1) := al_X6_drawStep_0 (34, (.iload_n 2, 1)) (List.mem_of_getElem? (i := 22) rfl)
theorem dX6_drawStep_35 : decode cX6_drawStep 35 = .ok (.ifCond .ne 5, 3) := al_X6_drawStep_0 (35, (.ifCond .ne 5, 3)) (List.mem_of_getElem? (i := 23) rfl)
theorem dX6_drawStep_38 : decode cX6_drawStep 38 = .ok (.iconst (-1), 1) := al_X6_drawStep_0 (38, (.iconst (-1), 1)) (List.mem_of_getElem? (i := 24) rfl)
theorem dX6_drawStep_39 : decode cX6_drawStep 39 = .ok (.ireturn, 1) := al_X6_drawStep_0 (39, (.ireturn, 1)) (List.mem_of_getElem? (i := 25) rfl)
theorem dX6_drawStep_40 : decode cX6_drawStep 40 = .ok (.aload_n 0, 1) := al_X6_drawStep_0 (40, (.aload_n 0, 1)) (List.mem_of_getElem? (i := 26) rfl)
theorem dX6_drawStep_41 : decode cX6_drawStep 41 = .ok (.invokevirtual 113, 3) := al_X6_drawStep_0 (41, (.invokevirtual 113, 3)) (List.mem_of_getElem? (i := 27) rfl)
theorem dX6_drawStep_44 : decode cX6_drawStep 44 = .ok (.iload_n 2, 1) := al_X6_drawStep_0 (44, (.iload_n 2, 1)) (List.mem_of_getElem? (i := 28) rfl)
theorem dX6_drawStep_45 : decode cX6_drawStep 45 = .ok (.irem, 1) := al_X6_drawStep_0 (45, (.irem, 1)) (List.mem_of_getElem? (i := 29) rfl)
theorem dX6_drawStep_46 : decode cX6_drawStep 46 = .ok (.istore_n 3, 1) := al_X6_drawStep_0 (46, (.istore_n 3, 1)) (List.mem_of_getElem? (i := 30) rfl)
theorem dX6_drawStep_47 : decode cX6_drawStep 47 = .ok (.iconst 1, 1) := al_X6_drawStep_0 (47, (.iconst 1, 1)) (List.mem_of_getElem? (i := 31) rfl)
theorem dX6_drawStep_48 : decode cX6_drawStep 48 = .ok (.istore 4, 2) := al_X6_drawStep_0 (48, (.istore 4, 2)) (List.mem_of_getElem? (i := 32) rfl)
theorem dX6_drawStep_50 : decode cX6_drawStep 50 = .ok (.iload 4, 2) := al_X6_drawStep_0 (50, (.iload 4, 2)) (List.mem_of_getElem? (i := 33) rfl)
theorem dX6_drawStep_52 : decode cX6_drawStep 52 = .ok (.iconst 3, 1) := al_X6_drawStep_0 (52, (.iconst 3, 1)) (List.mem_of_getElem? (i := 34) rfl)
theorem dX6_drawStep_53 : decode cX6_drawStep 53 = .ok (.if_icmp .gt 31, 3) := al_X6_drawStep_0 (53, (.if_icmp .gt 31, 3)) (List.mem_of_getElem? (i := 35) rfl)
theorem dX6_drawStep_56 : decode cX6_drawStep 56 = .ok (.iload_n 1, 1) := al_X6_drawStep_0 (56, (.iload_n 1, 1)) (List.mem_of_getElem? (i := 36) rfl)
theorem dX6_drawStep_57 : decode cX6_drawStep 57 = .ok (.iload 4, 2) := al_X6_drawStep_0 (57, (.iload 4, 2)) (List.mem_of_getElem? (i := 37) rfl)
theorem dX6_drawStep_59 : decode cX6_drawStep 59 = .ok (.ishr, 1) := al_X6_drawStep_0 (59, (.ishr, 1)) (List.mem_of_getElem? (i := 38) rfl)
theorem dX6_drawStep_60 : decode cX6_drawStep 60 = .ok (.iconst 1, 1) := al_X6_drawStep_0 (60, (.iconst 1, 1)) (List.mem_of_getElem? (i := 39) rfl)
theorem dX6_drawStep_61 : decode cX6_drawStep 61 = .ok (.iand, 1) := al_X6_drawStep_0 (61, (.iand, 1)) (List.mem_of_getElem? (i := 40) rfl)
theorem dX6_drawStep_62 : decode cX6_drawStep 62 = .ok (.ifCond .ne 6, 3) := al_X6_drawStep_0 (62, (.ifCond .ne 6, 3)) (List.mem_of_getElem? (i := 41) rfl)
theorem dX6_drawStep_65 : decode cX6_drawStep 65 = .ok (.goto 13, 3) := al_X6_drawStep_0 (65, (.goto 13, 3)) (List.mem_of_getElem? (i := 42) rfl)
theorem dX6_drawStep_68 : decode cX6_drawStep 68 = .ok (.iload_n 3, 1) := al_X6_drawStep_0 (68, (.iload_n 3, 1)) (List.mem_of_getElem? (i := 43) rfl)
theorem dX6_drawStep_69 : decode cX6_drawStep 69 = .ok (.ifCond .ne 6, 3) := al_X6_drawStep_0 (69, (.ifCond .ne 6, 3)) (List.mem_of_getElem? (i := 44) rfl)
theorem dX6_drawStep_72 : decode cX6_drawStep 72 = .ok (.iload 4, 2) := al_X6_drawStep_0 (72, (.iload 4, 2)) (List.mem_of_getElem? (i := 45) rfl)
theorem dX6_drawStep_74 : decode cX6_drawStep 74 = .ok (.ireturn, 1) := al_X6_drawStep_0 (74, (.ireturn, 1)) (List.mem_of_getElem? (i := 46) rfl)
theorem dX6_drawStep_75 : decode cX6_drawStep 75 = .ok (.iinc 3 (-1), 3) := al_X6_drawStep_0 (75, (.iinc 3 (-1), 3)) (List.mem_of_getElem? (i := 47) rfl)
theorem dX6_drawStep_78 : decode cX6_drawStep 78 = .ok (.iinc 4 1, 3) := al_X6_drawStep_0 (78, (.iinc 4 1, 3)) (List.mem_of_getElem? (i := 48) rfl)
theorem dX6_drawStep_81 : decode cX6_drawStep 81 = .ok (.goto (-31), 3) := al_X6_drawStep_0 (81, (.goto (-31), 3)) (List.mem_of_getElem? (i := 49) rfl)
theorem dX6_drawStep_84 : decode cX6_drawStep 84 = .ok (.iconst (-1), 1) := al_X6_drawStep_0 (84, (.iconst (-1), 1)) (List.mem_of_getElem? (i := 50) rfl)
theorem dX6_drawStep_85 : decode cX6_drawStep 85 = .ok (.ireturn, 1) := al_X6_drawStep_0 (85, (.ireturn, 1)) (List.mem_of_getElem? (i := 51) rfl)
def in_X6_nextDraw_0 : List (Nat × Instr × Nat) := [(0, (.aload_n 0, 1)), (1, (.ldc 117, 2)), (3, (.aload_n 0, 1)), (4, (.getfield 39, 3)), (7, (.imul, 1)), (8, (.sipush 12345, 3)), (11, (.iadd, 1)), (12, (.putfield 39, 3)), (15, (.aload_n 0, 1)), (16, (.getfield 39, 3)), (19, (.bipush 16, 2)), (21, (.ishr, 1)), (22, (.sipush 32767, 3)), (25, (.iand, 1)), (26, (.ireturn, 1))]
theorem al_X6_nextDraw_0 : ∀ q ∈ in_X6_nextDraw_0, decode cX6_nextDraw q.1 = .ok q.2 := by decide +kernel
theorem dX6_nextDraw_0 : decode cX6_nextDraw 0 = .ok (.aload_n 0, 1) := al_X6_nextDraw_0 (0, (.aload_n 0, 1)) (List.mem_of_getElem? (i := 0) rfl)
theorem dX6_nextDraw_1 : decode cX6_nextDraw 1 = .ok (.ldc 117, 2) := al_X6_nextDraw_0 (1, (.ldc 117, 2)) (List.mem_of_getElem? (i := 1) rfl)
theorem dX6_nextDraw_3 : decode cX6_nextDraw 3 = .ok (.aload_n 0, 1) := al_X6_nextDraw_0 (3, (.aload_n 0, 1)) (List.mem_of_getElem? (i := 2) rfl)
theorem dX6_nextDraw_4 : decode cX6_nextDraw 4 = .ok (.getfield 39, 3) := al_X6_nextDraw_0 (4, (.getfield 39, 3)) (List.mem_of_getElem? (i := 3) rfl)
theorem dX6_nextDraw_7 : decode cX6_nextDraw 7 = .ok (.imul, 1) := al_X6_nextDraw_0 (7, (.imul, 1)) (List.mem_of_getElem? (i := 4) rfl)
theorem dX6_nextDraw_8 : decode cX6_nextDraw 8 = .ok (.sipush 12345, 3) := al_X6_nextDraw_0 (8, (.sipush 12345, 3)) (List.mem_of_getElem? (i := 5) rfl)
theorem dX6_nextDraw_11 : decode cX6_nextDraw 11 = .ok (.iadd, 1) := al_X6_nextDraw_0 (11, (.iadd, 1)) (List.mem_of_getElem? (i := 6) rfl)
theorem dX6_nextDraw_12 : decode cX6_nextDraw 12 = .ok (.putfield 39, 3) := al_X6_nextDraw_0 (12, (.putfield 39, 3)) (List.mem_of_getElem? (i := 7) rfl)
theorem dX6_nextDraw_15 : decode cX6_nextDraw 15 = .ok (.aload_n 0, 1) := al_X6_nextDraw_0 (15, (.aload_n 0, 1)) (List.mem_of_getElem? (i := 8) rfl)
theorem dX6_nextDraw_16 : decode cX6_nextDraw 16 = .ok (.getfield 39, 3) := al_X6_nextDraw_0 (16, (.getfield 39, 3)) (List.mem_of_getElem? (i := 9) rfl)
theorem dX6_nextDraw_19 : decode cX6_nextDraw 19 = .ok (.bipush 16, 2) := al_X6_nextDraw_0 (19, (.bipush 16, 2)) (List.mem_of_getElem? (i := 10) rfl)
theorem dX6_nextDraw_21 : decode cX6_nextDraw 21 = .ok (.ishr, 1) := al_X6_nextDraw_0 (21, (.ishr, 1)) (List.mem_of_getElem? (i := 11) rfl)
theorem dX6_nextDraw_22 : decode cX6_nextDraw 22 = .ok (.sipush 32767, 3) := al_X6_nextDraw_0 (22, (.sipush 32767, 3)) (List.mem_of_getElem? (i := 12) rfl)
theorem dX6_nextDraw_25 : decode cX6_nextDraw 25 = .ok (.iand, 1) := al_X6_nextDraw_0 (25, (.iand, 1)) (List.mem_of_getElem? (i := 13) rfl)
theorem dX6_nextDraw_26 : decode cX6_nextDraw 26 = .ok (.ireturn, 1) := al_X6_nextDraw_0 (26, (.ireturn, 1)) (List.mem_of_getElem? (i := 14) rfl)
set_option maxRecDepth 100000 in
theorem ggX6_init_X1_init : GoodIn wsX6_init wsX1_init := goodIn_r _ [22, 23, 2, 3, 24, 25, 26, 27, 28, 29, 30, 31, 61, 62, 63, 64, 65, 66, 67] rfl (by decide +kernel)
set_option maxRecDepth 100000 in
theorem gX6_init_X1_init_n11 : GoodIn wsX6_init (wsX1_init) := ggX6_init_X1_init
set_option maxRecDepth 100000 in
theorem ggX6_init_X2_init : GoodIn wsX6_init wsX2_init := goodIn_r _ [33, 34, 2, 3, 24, 35, 36, 37, 38, 73, 74, 75, 76] rfl (by decide +kernel)
set_option maxRecDepth 100000 in
theorem gX6_init_X2_init_n20 : GoodIn wsX6_init (wsX2_init) := ggX6_init_X2_init
set_option maxRecDepth 100000 in
theorem ggX6_init_X3_init : GoodIn wsX6_init wsX3_init := goodIn_r _ [40, 41, 2, 3, 24, 42, 43, 44, 45, 46, 77, 78, 79, 80, 81] rfl (by decide +kernel)
set_option maxRecDepth 100000 in
theorem gX6_init_X3_init_n27 : GoodIn wsX6_init (wsX3_init) := ggX6_init_X3_init
set_option maxRecDepth 100000 in
theorem ggX6_init_X7_init : GoodIn wsX6_init wsX7_init := goodIn_r _ [48, 49, 2, 3, 50, 51, 52, 53, 54, 55, 56, 57, 58, 24, 59, 60, 82, 83, 84, 85, 86, 87, 88, 89, 90, 91, 92] rfl (by decide +kernel)
set_option maxRecDepth 100000 in
theorem gX6_init_X7_init_n34 : GoodIn wsX6_init (wsX7_init) := ggX6_init_X7_init
set_option maxRecDepth 100000 in
theorem ggX6_copyFrom_X1_copyFrom : GoodIn wsX6_copyFrom wsX1_copyFrom := goodIn_r _ [10, 11, 12, 13, 14, 15, 16, 17, 18, 19, 20, 21, 61, 62, 63, 64, 65, 66, 67] rfl (by decide +kernel)
set_option maxRecDepth 100000 in
theorem gX6_copyFrom_X1_copyFrom : GoodIn wsX6_copyFrom (wsV RX6 43 RX1 yX1_copyFrom wsX1_copyFrom) := goodIn_app (goodIn_of _ (by decide +kernel)) ggX6_copyFrom_X1_copyFrom
set_option maxRecDepth 100000 in
theorem ggX6_copyFrom_X2_copyFrom : GoodIn wsX6_copyFrom wsX2_copyFrom := goodIn_r _ [26, 27, 28, 13, 14, 15, 29, 30, 68, 69, 70, 71] rfl (by decide +kernel)
set_option maxRecDepth 100000 in
theorem gX6_copyFrom_X2_copyFrom : GoodIn wsX6_copyFrom (wsV RX6 47 RX2 yX2_copyFrom wsX2_copyFrom) := goodIn_app (goodIn_of _ (by decide +kernel)) ggX6_copyFrom_X2_copyFrom
set_option maxRecDepth 100000 in
theorem ggX6_copyFrom_X3_copyFrom : GoodIn wsX6_copyFrom wsX3_copyFrom := goodIn_r _ [35, 36, 37, 13, 14, 15, 38, 39, 40, 41, 72, 73, 74, 75, 76] rfl (by decide +kernel)
set_option maxRecDepth 100000 in
theorem gX6_copyFrom_X3_copyFrom : GoodIn wsX6_copyFrom (wsV RX6 50 RX3 yX3_copyFrom wsX3_copyFrom) := goodIn_app (goodIn_of _ (by decide +kernel)) ggX6_copyFrom_X3_copyFrom
set_option maxRecDepth 100000 in
theorem ggX6_copyFrom_X7_copyFrom : GoodIn wsX6_copyFrom wsX7_copyFrom := goodIn_r _ [46, 47, 48, 49, 50, 51, 52, 53, 54, 55, 77, 78, 79, 80, 81, 82, 83, 84, 85, 86, 87] rfl (by decide +kernel)
set_option maxRecDepth 100000 in
theorem gX6_copyFrom_X7_copyFrom : GoodIn wsX6_copyFrom (wsV RX6 53 RX7 yX7_copyFrom wsX7_copyFrom) := goodIn_app (goodIn_of _ (by decide +kernel)) ggX6_copyFrom_X7_copyFrom
set_option maxRecDepth 100000 in
theorem ggX6_isShut_X1_isWalledOff : GoodIn wsX6_isShut wsX1_isWalledOff := goodIn_r _ [7, 8, 9, 10, 11, 12, 13, 6, 14, 15, 16, 17, 18, 19, 20, 21, 22, 52, 53, 54, 55, 56, 57, 58] rfl (by decide +kernel)
set_option maxRecDepth 100000 in
theorem gX6_isShut_X1_isWalledOff : GoodIn wsX6_isShut (wsV RX6 56 RX1 yX1_isWalledOff wsX1_isWalledOff) := goodIn_app (goodIn_of _ (by decide +kernel)) ggX6_isShut_X1_isWalledOff
set_option maxRecDepth 100000 in
theorem ggX6_isShut_X2_isBroken : GoodIn wsX6_isShut wsX2_isBroken := goodIn_r _ [27, 28, 29, 30, 31, 32, 6, 33, 9, 10, 34, 35, 36, 37, 38, 39, 40, 41, 42, 43, 44, 26, 45, 46, 59, 60, 61, 62, 52, 53, 54, 55, 56, 57, 58] rfl (by decide +kernel)
set_option maxRecDepth 100000 in
theorem gX6_isShut_X2_isBroken : GoodIn wsX6_isShut (wsV RX6 60 RX2 yX2_isBroken wsX2_isBroken) := goodIn_app (goodIn_of _ (by decide +kernel)) ggX6_isShut_X2_isBroken
set_option maxRecDepth 100000 in
theorem ggX6_allows_X1_hasCorner : GoodIn wsX6_allows wsX1_hasCorner := goodIn_r _ [6, 7, 8, 9, 10, 5, 11, 12, 68, 69, 70, 71, 72, 73, 74] rfl (by decide +kernel)
set_option maxRecDepth 100000 in
theorem gX6_allows_X1_hasCorner : GoodIn wsX6_allows (wsV RX6 64 RX1 yX1_hasCorner wsX1_hasCorner) := goodIn_app (goodIn_of _ (by decide +kernel)) ggX6_allows_X1_hasCorner
set_option maxRecDepth 100000 in
theorem ggX6_allows_X1_distance : GoodIn wsX6_allows wsX1_distance := goodIn_r _ [16, 17, 18, 68, 69, 70, 71, 72, 73, 74] rfl (by decide +kernel)
set_option maxRecDepth 100000 in
theorem gX6_allows_X1_distance : GoodIn wsX6_allows (wsV RX6 68 RX1 yX1_distance wsX1_distance) := goodIn_app (goodIn_of _ (by decide +kernel)) ggX6_allows_X1_distance
set_option maxRecDepth 100000 in
theorem ggX6_allows_X6_isShut : GoodIn wsX6_allows wsX6_isShut := goodIn_r _ [23, 1, 24, 25, 26, 27, 5, 28, 29, 17, 18, 30, 31, 32, 33, 34, 35, 36, 37, 38, 39, 40, 41, 42, 43, 44, 45, 46, 47, 48, 49, 14, 15, 16, 50, 51, 52, 53, 54, 55, 56, 57, 58, 59, 60, 61, 62, 63, 64, 65, 66, 67, 68, 69, 70, 71, 72, 73, 74, 75, 76, 77, 78] rfl (by decide +kernel)
set_option maxRecDepth 100000 in
theorem gX6_allows_X6_isShut : GoodIn wsX6_allows (wsV RX6 72 RX6 yX6_isShut wsX6_isShut) := goodIn_app (goodIn_of _ (by decide +kernel)) ggX6_allows_X6_isShut
set_option maxRecDepth 100000 in
theorem ggX6_canGo_X10_manMoves : GoodIn wsX6_canGo wsX10_manMoves := goodIn_r _ [4] rfl (by decide +kernel)
set_option maxRecDepth 100000 in
theorem gX6_canGo_X10_manMoves_n85 : GoodIn wsX6_canGo (wsX10_manMoves) := ggX6_canGo_X10_manMoves
set_option maxRecDepth 100000 in
theorem ggX6_canGo_X10_dogMoves : GoodIn wsX6_canGo wsX10_dogMoves := goodIn_r _ [6] rfl (by decide +kernel)
set_option maxRecDepth 100000 in
theorem gX6_canGo_X10_dogMoves_n95 : GoodIn wsX6_canGo (wsX10_dogMoves) := ggX6_canGo_X10_dogMoves
set_option maxRecDepth 100000 in
theorem ggX6_canGo_X6_allows : GoodIn wsX6_canGo wsX6_allows := goodIn_r _ [11, 12, 13, 14, 15, 16, 17, 18, 19, 20, 21, 22, 23, 24, 25, 26, 27, 28, 29, 30, 31, 32, 10, 33, 34, 35, 36, 37, 38, 39, 40, 41, 42, 43, 44, 45, 46, 47, 48, 49, 50, 51, 52, 53, 54, 55, 56, 57, 58, 59, 60, 61, 62, 63, 64, 65, 66, 67, 68, 69, 70, 71, 72, 73, 74, 75, 76, 77, 89, 90, 91, 92, 93, 94, 95, 96, 97, 98, 99] rfl (by decide +kernel)
set_option maxRecDepth 100000 in
theorem gX6_canGo_X6_allows : GoodIn wsX6_canGo (wsV RX6 101 RX6 yX6_allows wsX6_allows) := goodIn_app (goodIn_of _ (by decide +kernel)) ggX6_canGo_X6_allows
set_option maxRecDepth 100000 in
theorem ggX6_go_X10_manMoves : GoodIn wsX6_go wsX10_manMoves := goodIn_r _ [5] rfl (by decide +kernel)
set_option maxRecDepth 100000 in
theorem gX6_go_X10_manMoves_n85 : GoodIn wsX6_go (wsX10_manMoves) := ggX6_go_X10_manMoves
set_option maxRecDepth 100000 in
theorem ggX6_go_X10_dogMoves : GoodIn wsX6_go wsX10_dogMoves := goodIn_r _ [7] rfl (by decide +kernel)
set_option maxRecDepth 100000 in
theorem gX6_go_X10_dogMoves_n95 : GoodIn wsX6_go (wsX10_dogMoves) := ggX6_go_X10_dogMoves
set_option maxRecDepth 100000 in
theorem ggX6_go_X1_distance : GoodIn wsX6_go wsX1_distance := goodIn_r _ [12, 13, 14, 50, 51, 52, 53, 54, 55, 56] rfl (by decide +kernel)
set_option maxRecDepth 100000 in
theorem gX6_go_X1_distance : GoodIn wsX6_go (wsV RX6 68 RX1 yX1_distance wsX1_distance) := goodIn_app (goodIn_of _ (by decide +kernel)) ggX6_go_X1_distance
set_option maxRecDepth 100000 in
theorem ggX6_go_X7_advance : GoodIn wsX6_go wsX7_advance := goodIn_r _ [19, 20, 21, 22, 23, 24, 25, 26, 27, 28, 29, 30, 31, 32, 33, 3, 4, 5, 6, 7, 39, 40, 41, 42, 43, 44, 45, 46, 47, 48, 49] rfl (by decide +kernel)
set_option maxRecDepth 100000 in
theorem gX6_go_X7_advance : GoodIn wsX6_go (wsV RX6 105 RX7 yX7_advance wsX7_advance) := goodIn_app (goodIn_of _ (by decide +kernel)) ggX6_go_X7_advance
set_option maxRecDepth 100000 in
theorem ggX6_isStrollOver_X1_hasCorner : GoodIn wsX6_isStrollOver wsX1_hasCorner := goodIn_r _ [7, 8, 9, 10, 11, 6, 12, 13, 30, 31, 32, 33, 34, 35, 36] rfl (by decide +kernel)
set_option maxRecDepth 100000 in
theorem gX6_isStrollOver_X1_hasCorner : GoodIn wsX6_isStrollOver (wsV RX6 64 RX1 yX1_hasCorner wsX1_hasCorner) := goodIn_app (goodIn_of _ (by decide +kernel)) ggX6_isStrollOver_X1_hasCorner
set_option maxRecDepth 100000 in
theorem ggX6_drawStep_X6_canGo : GoodIn wsX6_drawStep wsX6_canGo := goodIn_r _ [5, 6, 7, 8, 9, 10, 11, 12, 13, 14, 4, 15, 16, 17, 18, 19, 20, 21, 22, 23, 24, 25, 26, 27, 28, 29, 30, 31, 32, 33, 34, 35, 36, 37, 38, 39, 40, 41, 42, 43, 44, 45, 46, 47, 48, 49, 50, 51, 52, 53, 54, 55, 56, 57, 58, 59, 60, 61, 62, 63, 64, 65, 66, 67, 68, 69, 70, 71, 72, 73, 74, 75, 76, 83, 84, 85, 86, 87, 88, 89, 90, 91, 92, 93, 94, 95, 96, 97, 98, 99, 100, 101, 102, 103, 104, 105, 106, 107, 108, 109] rfl (by decide +kernel)
set_option maxRecDepth 100000 in
theorem gX6_drawStep_X6_canGo : GoodIn wsX6_drawStep (wsV RX6 109 RX6 yX6_canGo wsX6_canGo) := goodIn_app (goodIn_of _ (by decide +kernel)) ggX6_drawStep_X6_canGo
set_option maxRecDepth 100000 in
theorem ggX6_drawStep_X6_nextDraw : GoodIn wsX6_drawStep wsX6_nextDraw := goodIn_r _ [80, 81, 82, 83, 84, 85, 86, 87] rfl (by decide +kernel)
set_option maxRecDepth 100000 in
theorem gX6_drawStep_X6_nextDraw : GoodIn wsX6_drawStep (wsV RX6 113 RX6 yX6_nextDraw wsX6_nextDraw) := goodIn_app (goodIn_of _ (by decide +kernel)) ggX6_drawStep_X6_nextDraw
