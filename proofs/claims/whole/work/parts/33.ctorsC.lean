theorem dX9_init_0 : decode cX9_init 0 = .ok (.aload_n 0, 1) := by decide +kernel
theorem dX9_init_1 : decode cX9_init 1 = .ok (.invokespecial 1, 3) := by decide +kernel
theorem dX9_init_4 : decode cX9_init 4 = .ok (.aload_n 0, 1) := by decide +kernel
theorem dX9_init_5 : decode cX9_init 5 = .ok (.new 7, 3) := by decide +kernel
theorem dX9_init_8 : decode cX9_init 8 = .ok (.dup, 1) := by decide +kernel
theorem dX9_init_9 : decode cX9_init 9 = .ok (.invokespecial 9, 3) := by decide +kernel
theorem dX9_init_12 : decode cX9_init 12 = .ok (.putfield 10, 3) := by decide +kernel
theorem dX9_init_15 : decode cX9_init 15 = .ok (.aload_n 0, 1) := by decide +kernel
theorem dX9_init_16 : decode cX9_init 16 = .ok (.iconst 3, 1) := by decide +kernel
theorem dX9_init_17 : decode cX9_init 17 = .ok (.anewarray 7, 3) := by decide +kernel
theorem dX9_init_20 : decode cX9_init 20 = .ok (.putfield 16, 3) := by decide +kernel
theorem dX9_init_23 : decode cX9_init 23 = .ok (.aload_n 0, 1) := by decide +kernel
theorem dX9_init_24 : decode cX9_init 24 = .ok (.iconst 3, 1) := by decide +kernel
theorem dX9_init_25 : decode cX9_init 25 = .ok (.newarray .boolean, 2) := by decide +kernel
theorem dX9_init_27 : decode cX9_init 27 = .ok (.putfield 20, 3) := by decide +kernel
theorem dX9_init_30 : decode cX9_init 30 = .ok (.aload_n 0, 1) := by decide +kernel
theorem dX9_init_31 : decode cX9_init 31 = .ok (.new 24, 3) := by decide +kernel
theorem dX9_init_34 : decode cX9_init 34 = .ok (.dup, 1) := by decide +kernel
theorem dX9_init_35 : decode cX9_init 35 = .ok (.invokespecial 26, 3) := by decide +kernel
theorem dX9_init_38 : decode cX9_init 38 = .ok (.putfield 27, 3) := by decide +kernel
theorem dX9_init_41 : decode cX9_init 41 = .ok (.aload_n 0, 1) := by decide +kernel
theorem dX9_init_42 : decode cX9_init 42 = .ok (.new 31, 3) := by decide +kernel
theorem dX9_init_45 : decode cX9_init 45 = .ok (.dup, 1) := by decide +kernel
theorem dX9_init_46 : decode cX9_init 46 = .ok (.invokespecial 33, 3) := by decide +kernel
theorem dX9_init_49 : decode cX9_init 49 = .ok (.putfield 34, 3) := by decide +kernel
theorem dX9_init_52 : decode cX9_init 52 = .ok (.aload_n 0, 1) := by decide +kernel
theorem dX9_init_53 : decode cX9_init 53 = .ok (.new 31, 3) := by decide +kernel
theorem dX9_init_56 : decode cX9_init 56 = .ok (.dup, 1) := by decide +kernel
theorem dX9_init_57 : decode cX9_init 57 = .ok (.invokespecial 33, 3) := by decide +kernel
theorem dX9_init_60 : decode cX9_init 60 = .ok (.putfield 38, 3) := by decide +kernel
theorem dX9_init_63 : decode cX9_init 63 = .ok (.aload_n 0, 1) := by decide +kernel
theorem dX9_init_64 : decode cX9_init 64 = .ok (.new 41, 3) := by decide +kernel
theorem dX9_init_67 : decode cX9_init 67 = .ok (.dup, 1) := by decide +kernel
theorem dX9_init_68 : decode cX9_init 68 = .ok (.invokespecial 43, 3) := by decide +kernel
theorem dX9_init_71 : decode cX9_init 71 = .ok (.putfield 44, 3) := by decide +kernel
theorem dX9_init_74 : decode cX9_init 74 = .ok (.aload_n 0, 1) := by decide +kernel
theorem dX9_init_75 : decode cX9_init 75 = .ok (.new 48, 3) := by decide +kernel
theorem dX9_init_78 : decode cX9_init 78 = .ok (.dup, 1) := by decide +kernel
theorem dX9_init_79 : decode cX9_init 79 = .ok (.invokespecial 50, 3) := by decide +kernel
theorem dX9_init_82 : decode cX9_init 82 = .ok (.putfield 51, 3) := by decide +kernel
theorem dX9_init_85 : decode cX9_init 85 = .ok (.aload_n 0, 1) := by decide +kernel
theorem dX9_init_86 : decode cX9_init 86 = .ok (.new 55, 3) := by decide +kernel
theorem dX9_init_89 : decode cX9_init 89 = .ok (.dup, 1) := by decide +kernel
theorem dX9_init_90 : decode cX9_init 90 = .ok (.invokespecial 57, 3) := by decide +kernel
theorem dX9_init_93 : decode cX9_init 93 = .ok (.putfield 58, 3) := by decide +kernel
theorem dX9_init_96 : decode cX9_init 96 = .ok (.aload_n 0, 1) := by decide +kernel
theorem dX9_init_97 : decode cX9_init 97 = .ok (.new 62, 3) := by decide +kernel
theorem dX9_init_100 : decode cX9_init 100 = .ok (.dup, 1) := by decide +kernel
theorem dX9_init_101 : decode cX9_init 101 = .ok (.invokespecial 64, 3) := by decide +kernel
theorem dX9_init_104 : decode cX9_init 104 = .ok (.putfield 65, 3) := by decide +kernel
theorem dX9_init_107 : decode cX9_init 107 = .ok (.iconst 0, 1) := by decide +kernel
theorem dX9_init_108 : decode cX9_init 108 = .ok (.istore_n 1, 1) := by decide +kernel
theorem dX9_init_109 : decode cX9_init 109 = .ok (.iload_n 1, 1) := by decide +kernel
theorem dX9_init_110 : decode cX9_init 110 = .ok (.iconst 3, 1) := by decide +kernel
theorem dX9_init_111 : decode cX9_init 111 = .ok (.if_icmp .ge 22, 3) := by decide +kernel
theorem dX9_init_114 : decode cX9_init 114 = .ok (.aload_n 0, 1) := by decide +kernel
theorem dX9_init_115 : decode cX9_init 115 = .ok (.getfield 16, 3) := by decide +kernel
theorem dX9_init_118 : decode cX9_init 118 = .ok (.iload_n 1, 1) := by decide +kernel
theorem dX9_init_119 : decode cX9_init 119 = .ok (.new 7, 3) := by decide +kernel
theorem dX9_init_122 : decode cX9_init 122 = .ok (.dup, 1) := by decide +kernel
theorem dX9_init_123 : decode cX9_init 123 = .ok (.invokespecial 9, 3) := by decide +kernel
theorem dX9_init_126 : decode cX9_init 126 = .ok (.aastore, 1) := by decide +kernel
theorem dX9_init_127 : decode cX9_init 127 = .ok (.iinc 1 1, 3) := by decide +kernel
theorem dX9_init_130 : decode cX9_init 130 = .ok (.goto (-21), 3) := by decide +kernel
theorem dX9_init_133 : decode cX9_init 133 = .ok (.return_, 1) := by decide +kernel
theorem fcX9_10 : xFld RX9 10 9 0 2 1 := ⟨_, _, _, rfl, Nat.le_of_ble_eq_true rfl, rfl, (xinT 491 (by decide +kernel) (by decide +kernel)), rfl⟩
theorem fcX9_16 : xFld RX9 16 9 1 2 32 := ⟨_, _, _, rfl, Nat.le_of_ble_eq_true rfl, rfl, (xinT 492 (by decide +kernel) (by decide +kernel)), rfl⟩
theorem fcX9_20 : xFld RX9 20 9 2 2 33 := ⟨_, _, _, rfl, Nat.le_of_ble_eq_true rfl, rfl, (xinT 493 (by decide +kernel) (by decide +kernel)), rfl⟩
theorem fcX9_27 : xFld RX9 27 9 3 2 34 := ⟨_, _, _, rfl, Nat.le_of_ble_eq_true rfl, rfl, (xinT 494 (by decide +kernel) (by decide +kernel)), rfl⟩
theorem fcX9_34 : xFld RX9 34 9 4 2 47 := ⟨_, _, _, rfl, Nat.le_of_ble_eq_true rfl, rfl, (xinT 495 (by decide +kernel) (by decide +kernel)), rfl⟩
theorem fcX9_38 : xFld RX9 38 9 5 2 53 := ⟨_, _, _, rfl, Nat.le_of_ble_eq_true rfl, rfl, (xinT 496 (by decide +kernel) (by decide +kernel)), rfl⟩
theorem fcX9_44 : xFld RX9 44 9 6 2 59 := ⟨_, _, _, rfl, Nat.le_of_ble_eq_true rfl, rfl, (xinT 497 (by decide +kernel) (by decide +kernel)), rfl⟩
theorem fcX9_51 : xFld RX9 51 9 7 2 62 := ⟨_, _, _, rfl, Nat.le_of_ble_eq_true rfl, rfl, (xinT 498 (by decide +kernel) (by decide +kernel)), rfl⟩
theorem fcX9_58 : xFld RX9 58 9 8 2 71 := ⟨_, _, _, rfl, Nat.le_of_ble_eq_true rfl, rfl, (xinT 499 (by decide +kernel) (by decide +kernel)), rfl⟩
theorem fcX9_65 : xFld RX9 65 9 9 2 77 := ⟨_, _, _, rfl, Nat.le_of_ble_eq_true rfl, rfl, (xinT 500 (by decide +kernel) (by decide +kernel)), rfl⟩
theorem layX9 {o : Nat} (ho : isK o 9) : o + 171 ≤ layN ∧ o ≠ 0 ∧ lay (o + 1) = some (.inl (4, [])) ∧ lay (o + 32) = some (.inr (.inr (4, 3, 47, 31))) ∧ lay (o + 33) = some (.inr (.inl (2, 3))) ∧ lay (o + 34) = some (.inl (2, [])) ∧ lay (o + 47) = some (.inl (0, [])) ∧ lay (o + 53) = some (.inl (0, [])) ∧ lay (o + 59) = some (.inl (8, [])) ∧ lay (o + 62) = some (.inl (1, [])) ∧ lay (o + 71) = some (.inl (6, [])) ∧ lay (o + 77) = some (.inl (5, [])) ∧ lay (o + 79) = some (.inl (4, [])) ∧ lay (o + 110) = some (.inl (4, [])) ∧ lay (o + 141) = some (.inl (4, [])) := by
  have h := layq (P := fun o => decide (o + 171 ≤ layN) && (decide (o ≠ 0) && decide (lay (o + 1) = some (.inl (4, []))) && decide (lay (o + 32) = some (.inr (.inr (4, 3, 47, 31)))) && decide (lay (o + 33) = some (.inr (.inl (2, 3)))) && decide (lay (o + 34) = some (.inl (2, []))) && decide (lay (o + 47) = some (.inl (0, []))) && decide (lay (o + 53) = some (.inl (0, []))) && decide (lay (o + 59) = some (.inl (8, []))) && decide (lay (o + 62) = some (.inl (1, []))) && decide (lay (o + 71) = some (.inl (6, []))) && decide (lay (o + 77) = some (.inl (5, []))) && decide (lay (o + 79) = some (.inl (4, []))) && decide (lay (o + 110) = some (.inl (4, []))) && decide (lay (o + 141) = some (.inl (4, []))))) (by decide +kernel) ho
  simp only [Bool.and_eq_true, decide_eq_true_eq] at h
  obtain ⟨h1, ⟨⟨⟨⟨⟨⟨⟨⟨⟨⟨⟨⟨⟨h2, g1⟩, g32⟩, g33⟩, g34⟩, g47⟩, g53⟩, g59⟩, g62⟩, g71⟩, g77⟩, g79⟩, g110⟩, g141⟩⟩ := h
  exact ⟨h1, h2, g1, g32, g33, g34, g47, g53, g59, g62, g71, g77, g79, g110, g141⟩
theorem ssX9 {o : Nat} (ho : isK o 9) : ssum (o + 171) = ssum o + 15729 := of_decide_eq_true (layq (P := fun o => decide (ssum (o + 171) = ssum o + 15729)) (by decide +kernel) ho)
set_option maxRecDepth 100000 in
def rgX9 : List (Nat × Nat) := [(32, 2), (145, 2), (170, 2), (170, 1), (170, 0), (145, 1), (168, 2), (168, 1), (168, 0), (145, 0), (166, 2), (166, 1), (166, 0), (147, 1), (164, 2), (164, 1), (164, 0), (146, 1), (162, 2), (162, 1), (162, 0), (144, 1), (157, 6), (160, 2), (160, 1), (160, 0), (157, 5), (158, 2), (158, 1), (158, 0), (147, 0), (155, 2), (155, 1), (155, 0), (146, 0), (153, 2), (153, 1), (153, 0), (144, 0), (148, 6), (151, 2), (151, 1), (151, 0), (148, 5), (149, 2), (149, 1), (149, 0), (141, 8), (141, 7), (141, 6), (141, 5), (141, 4), (141, 0), (32, 1), (114, 2), (139, 2), (139, 1), (139, 0), (114, 1), (137, 2), (137, 1), (137, 0), (114, 0), (135, 2), (135, 1), (135, 0), (116, 1), (133, 2), (133, 1), (133, 0), (115, 1), (131, 2), (131, 1), (131, 0), (113, 1), (126, 6), (129, 2), (129, 1), (129, 0), (126, 5), (127, 2), (127, 1), (127, 0), (116, 0), (124, 2), (124, 1), (124, 0), (115, 0), (122, 2), (122, 1), (122, 0), (113, 0), (117, 6), (120, 2), (120, 1), (120, 0), (117, 5), (118, 2), (118, 1), (118, 0), (110, 8), (110, 7), (110, 6), (110, 5), (110, 4), (110, 0), (32, 0), (83, 2), (108, 2), (108, 1), (108, 0), (83, 1), (106, 2), (106, 1), (106, 0), (83, 0), (104, 2), (104, 1), (104, 0), (85, 1), (102, 2), (102, 1), (102, 0), (84, 1), (100, 2), (100, 1), (100, 0), (82, 1), (95, 6), (98, 2), (98, 1), (98, 0), (95, 5), (96, 2), (96, 1), (96, 0), (85, 0), (93, 2), (93, 1), (93, 0), (84, 0), (91, 2), (91, 1), (91, 0), (82, 0), (86, 6), (89, 2), (89, 1), (89, 0), (86, 5), (87, 2), (87, 1), (87, 0), (79, 8), (79, 7), (79, 6), (79, 5), (79, 4), (79, 0), (0, 9), (77, 4), (0, 8), (71, 5), (71, 3), (71, 2), (71, 1), (71, 0), (0, 7), (62, 12), (62, 11), (62, 10), (62, 9), (62, 8), (62, 7), (62, 6), (62, 5), (0, 6), (59, 4), (59, 3), (0, 5), (53, 4), (53, 3), (53, 2), (53, 1), (53, 0), (0, 4), (47, 4), (47, 3), (47, 2), (47, 1), (47, 0), (0, 3), (34, 12), (45, 2), (45, 1), (45, 0), (34, 11), (43, 2), (43, 1), (43, 0), (34, 10), (41, 2), (41, 1), (41, 0), (34, 9), (36, 6), (39, 2), (39, 1), (39, 0), (36, 5), (37, 2), (37, 1), (37, 0), (34, 6), (0, 2), (0, 1), (0, 0), (5, 2), (30, 2), (30, 1), (30, 0), (5, 1), (28, 2), (28, 1), (28, 0), (5, 0), (26, 2), (26, 1), (26, 0), (7, 1), (24, 2), (24, 1), (24, 0), (6, 1), (22, 2), (22, 1), (22, 0), (4, 1), (17, 6), (20, 2), (20, 1), (20, 0), (17, 5), (18, 2), (18, 1), (18, 0), (7, 0), (15, 2), (15, 1), (15, 0), (6, 0), (13, 2), (13, 1), (13, 0), (4, 0), (8, 6), (11, 2), (11, 1), (11, 0), (8, 5), (9, 2), (9, 1), (9, 0), (1, 8), (1, 7), (1, 6), (1, 5), (1, 4), (1, 0)]
set_option maxRecDepth 100000 in
def rfX9 : List (Nat × Nat × Int) := [(170, 3, 0), (168, 3, 0), (166, 3, 0), (164, 3, 0), (162, 3, 0), (160, 3, 0), (158, 3, 0), (157, 4, 0), (157, 3, 48), (157, 2, 0), (157, 1, 9), (157, 0, 24), (155, 3, 0), (153, 3, 0), (151, 3, 0), (149, 3, 0), (148, 4, 0), (148, 3, 48), (148, 2, 0), (148, 1, 9), (148, 0, 24), (141, 3, -1), (141, 2, 0), (141, 1, 0), (139, 3, 0), (137, 3, 0), (135, 3, 0), (133, 3, 0), (131, 3, 0), (129, 3, 0), (127, 3, 0), (126, 4, 0), (126, 3, 48), (126, 2, 0), (126, 1, 9), (126, 0, 24), (124, 3, 0), (122, 3, 0), (120, 3, 0), (118, 3, 0), (117, 4, 0), (117, 3, 48), (117, 2, 0), (117, 1, 9), (117, 0, 24), (110, 3, -1), (110, 2, 0), (110, 1, 0), (108, 3, 0), (106, 3, 0), (104, 3, 0), (102, 3, 0), (100, 3, 0), (98, 3, 0), (96, 3, 0), (95, 4, 0), (95, 3, 48), (95, 2, 0), (95, 1, 9), (95, 0, 24), (93, 3, 0), (91, 3, 0), (89, 3, 0), (87, 3, 0), (86, 4, 0), (86, 3, 48), (86, 2, 0), (86, 1, 9), (86, 0, 24), (79, 3, -1), (79, 2, 0), (79, 1, 0), (77, 3, 0), (77, 2, 0), (77, 1, -1), (77, 0, -1), (71, 4, -1), (62, 4, 0), (62, 3, 0), (62, 2, 0), (62, 1, 0), (62, 0, 0), (59, 2, 0), (59, 1, 0), (59, 0, 0), (53, 6, 0), (53, 5, 0), (47, 6, 0), (47, 5, 0), (45, 3, 0), (43, 3, 0), (41, 3, 0), (39, 3, 0), (37, 3, 0), (36, 4, 0), (36, 3, 48), (36, 2, 0), (36, 1, 9), (36, 0, 24), (34, 8, -1), (34, 7, 0), (34, 5, 0), (34, 4, 0), (34, 3, 0), (34, 2, 0), (34, 1, 0), (34, 0, 0), (30, 3, 0), (28, 3, 0), (26, 3, 0), (24, 3, 0), (22, 3, 0), (20, 3, 0), (18, 3, 0), (17, 4, 0), (17, 3, 48), (17, 2, 0), (17, 1, 9), (17, 0, 24), (15, 3, 0), (13, 3, 0), (11, 3, 0), (9, 3, 0), (8, 4, 0), (8, 3, 48), (8, 2, 0), (8, 1, 9), (8, 0, 24), (1, 3, -1), (1, 2, 0), (1, 1, 0)]
set_option maxRecDepth 100000 in
def mkX9 (o : Nat) (M : CM) : CM := (o + 171, (o + 32, 2) :: (o + 145, 2) :: (o + 170, 2) :: (o + 170, 1) :: (o + 170, 0) :: (o + 145, 1) :: (o + 168, 2) :: (o + 168, 1) :: (o + 168, 0) :: (o + 145, 0) :: (o + 166, 2) :: (o + 166, 1) :: (o + 166, 0) :: (o + 147, 1) :: (o + 164, 2) :: (o + 164, 1) :: (o + 164, 0) :: (o + 146, 1) :: (o + 162, 2) :: (o + 162, 1) :: (o + 162, 0) :: (o + 144, 1) :: (o + 157, 6) :: (o + 160, 2) :: (o + 160, 1) :: (o + 160, 0) :: (o + 157, 5) :: (o + 158, 2) :: (o + 158, 1) :: (o + 158, 0) :: (o + 147, 0) :: (o + 155, 2) :: (o + 155, 1) :: (o + 155, 0) :: (o + 146, 0) :: (o + 153, 2) :: (o + 153, 1) :: (o + 153, 0) :: (o + 144, 0) :: (o + 148, 6) :: (o + 151, 2) :: (o + 151, 1) :: (o + 151, 0) :: (o + 148, 5) :: (o + 149, 2) :: (o + 149, 1) :: (o + 149, 0) :: (o + 141, 8) :: (o + 141, 7) :: (o + 141, 6) :: (o + 141, 5) :: (o + 141, 4) :: (o + 141, 0) :: (o + 32, 1) :: (o + 114, 2) :: (o + 139, 2) :: (o + 139, 1) :: (o + 139, 0) :: (o + 114, 1) :: (o + 137, 2) :: (o + 137, 1) :: (o + 137, 0) :: (o + 114, 0) :: (o + 135, 2) :: (o + 135, 1) :: (o + 135, 0) :: (o + 116, 1) :: (o + 133, 2) :: (o + 133, 1) :: (o + 133, 0) :: (o + 115, 1) :: (o + 131, 2) :: (o + 131, 1) :: (o + 131, 0) :: (o + 113, 1) :: (o + 126, 6) :: (o + 129, 2) :: (o + 129, 1) :: (o + 129, 0) :: (o + 126, 5) :: (o + 127, 2) :: (o + 127, 1) :: (o + 127, 0) :: (o + 116, 0) :: (o + 124, 2) :: (o + 124, 1) :: (o + 124, 0) :: (o + 115, 0) :: (o + 122, 2) :: (o + 122, 1) :: (o + 122, 0) :: (o + 113, 0) :: (o + 117, 6) :: (o + 120, 2) :: (o + 120, 1) :: (o + 120, 0) :: (o + 117, 5) :: (o + 118, 2) :: (o + 118, 1) :: (o + 118, 0) :: (o + 110, 8) :: (o + 110, 7) :: (o + 110, 6) :: (o + 110, 5) :: (o + 110, 4) :: (o + 110, 0) :: (o + 32, 0) :: (o + 83, 2) :: (o + 108, 2) :: (o + 108, 1) :: (o + 108, 0) :: (o + 83, 1) :: (o + 106, 2) :: (o + 106, 1) :: (o + 106, 0) :: (o + 83, 0) :: (o + 104, 2) :: (o + 104, 1) :: (o + 104, 0) :: (o + 85, 1) :: (o + 102, 2) :: (o + 102, 1) :: (o + 102, 0) :: (o + 84, 1) :: (o + 100, 2) :: (o + 100, 1) :: (o + 100, 0) :: (o + 82, 1) :: (o + 95, 6) :: (o + 98, 2) :: (o + 98, 1) :: (o + 98, 0) :: (o + 95, 5) :: (o + 96, 2) :: (o + 96, 1) :: (o + 96, 0) :: (o + 85, 0) :: (o + 93, 2) :: (o + 93, 1) :: (o + 93, 0) :: (o + 84, 0) :: (o + 91, 2) :: (o + 91, 1) :: (o + 91, 0) :: (o + 82, 0) :: (o + 86, 6) :: (o + 89, 2) :: (o + 89, 1) :: (o + 89, 0) :: (o + 86, 5) :: (o + 87, 2) :: (o + 87, 1) :: (o + 87, 0) :: (o + 79, 8) :: (o + 79, 7) :: (o + 79, 6) :: (o + 79, 5) :: (o + 79, 4) :: (o + 79, 0) :: (o, 9) :: (o + 77, 4) :: (o, 8) :: (o + 71, 5) :: (o + 71, 3) :: (o + 71, 2) :: (o + 71, 1) :: (o + 71, 0) :: (o, 7) :: (o + 62, 12) :: (o + 62, 11) :: (o + 62, 10) :: (o + 62, 9) :: (o + 62, 8) :: (o + 62, 7) :: (o + 62, 6) :: (o + 62, 5) :: (o, 6) :: (o + 59, 4) :: (o + 59, 3) :: (o, 5) :: (o + 53, 4) :: (o + 53, 3) :: (o + 53, 2) :: (o + 53, 1) :: (o + 53, 0) :: (o, 4) :: (o + 47, 4) :: (o + 47, 3) :: (o + 47, 2) :: (o + 47, 1) :: (o + 47, 0) :: (o, 3) :: (o + 34, 12) :: (o + 45, 2) :: (o + 45, 1) :: (o + 45, 0) :: (o + 34, 11) :: (o + 43, 2) :: (o + 43, 1) :: (o + 43, 0) :: (o + 34, 10) :: (o + 41, 2) :: (o + 41, 1) :: (o + 41, 0) :: (o + 34, 9) :: (o + 36, 6) :: (o + 39, 2) :: (o + 39, 1) :: (o + 39, 0) :: (o + 36, 5) :: (o + 37, 2) :: (o + 37, 1) :: (o + 37, 0) :: (o + 34, 6) :: (o, 2) :: (o, 1) :: (o, 0) :: (o + 5, 2) :: (o + 30, 2) :: (o + 30, 1) :: (o + 30, 0) :: (o + 5, 1) :: (o + 28, 2) :: (o + 28, 1) :: (o + 28, 0) :: (o + 5, 0) :: (o + 26, 2) :: (o + 26, 1) :: (o + 26, 0) :: (o + 7, 1) :: (o + 24, 2) :: (o + 24, 1) :: (o + 24, 0) :: (o + 6, 1) :: (o + 22, 2) :: (o + 22, 1) :: (o + 22, 0) :: (o + 4, 1) :: (o + 17, 6) :: (o + 20, 2) :: (o + 20, 1) :: (o + 20, 0) :: (o + 17, 5) :: (o + 18, 2) :: (o + 18, 1) :: (o + 18, 0) :: (o + 7, 0) :: (o + 15, 2) :: (o + 15, 1) :: (o + 15, 0) :: (o + 6, 0) :: (o + 13, 2) :: (o + 13, 1) :: (o + 13, 0) :: (o + 4, 0) :: (o + 8, 6) :: (o + 11, 2) :: (o + 11, 1) :: (o + 11, 0) :: (o + 8, 5) :: (o + 9, 2) :: (o + 9, 1) :: (o + 9, 0) :: (o + 1, 8) :: (o + 1, 7) :: (o + 1, 6) :: (o + 1, 5) :: (o + 1, 4) :: (o + 1, 0) :: M.2.1, (o + 170, 3, 0) :: (o + 168, 3, 0) :: (o + 166, 3, 0) :: (o + 164, 3, 0) :: (o + 162, 3, 0) :: (o + 160, 3, 0) :: (o + 158, 3, 0) :: (o + 157, 4, 0) :: (o + 157, 3, 48) :: (o + 157, 2, 0) :: (o + 157, 1, 9) :: (o + 157, 0, 24) :: (o + 155, 3, 0) :: (o + 153, 3, 0) :: (o + 151, 3, 0) :: (o + 149, 3, 0) :: (o + 148, 4, 0) :: (o + 148, 3, 48) :: (o + 148, 2, 0) :: (o + 148, 1, 9) :: (o + 148, 0, 24) :: (o + 141, 3, -1) :: (o + 141, 2, 0) :: (o + 141, 1, 0) :: (o + 139, 3, 0) :: (o + 137, 3, 0) :: (o + 135, 3, 0) :: (o + 133, 3, 0) :: (o + 131, 3, 0) :: (o + 129, 3, 0) :: (o + 127, 3, 0) :: (o + 126, 4, 0) :: (o + 126, 3, 48) :: (o + 126, 2, 0) :: (o + 126, 1, 9) :: (o + 126, 0, 24) :: (o + 124, 3, 0) :: (o + 122, 3, 0) :: (o + 120, 3, 0) :: (o + 118, 3, 0) :: (o + 117, 4, 0) :: (o + 117, 3, 48) :: (o + 117, 2, 0) :: (o + 117, 1, 9) :: (o + 117, 0, 24) :: (o + 110, 3, -1) :: (o + 110, 2, 0) :: (o + 110, 1, 0) :: (o + 108, 3, 0) :: (o + 106, 3, 0) :: (o + 104, 3, 0) :: (o + 102, 3, 0) :: (o + 100, 3, 0) :: (o + 98, 3, 0) :: (o + 96, 3, 0) :: (o + 95, 4, 0) :: (o + 95, 3, 48) :: (o + 95, 2, 0) :: (o + 95, 1, 9) :: (o + 95, 0, 24) :: (o + 93, 3, 0) :: (o + 91, 3, 0) :: (o + 89, 3, 0) :: (o + 87, 3, 0) :: (o + 86, 4, 0) :: (o + 86, 3, 48) :: (o + 86, 2, 0) :: (o + 86, 1, 9) :: (o + 86, 0, 24) :: (o + 79, 3, -1) :: (o + 79, 2, 0) :: (o + 79, 1, 0) :: (o + 77, 3, 0) :: (o + 77, 2, 0) :: (o + 77, 1, -1) :: (o + 77, 0, -1) :: (o + 71, 4, -1) :: (o + 62, 4, 0) :: (o + 62, 3, 0) :: (o + 62, 2, 0) :: (o + 62, 1, 0) :: (o + 62, 0, 0) :: (o + 59, 2, 0) :: (o + 59, 1, 0) :: (o + 59, 0, 0) :: (o + 53, 6, 0) :: (o + 53, 5, 0) :: (o + 47, 6, 0) :: (o + 47, 5, 0) :: (o + 45, 3, 0) :: (o + 43, 3, 0) :: (o + 41, 3, 0) :: (o + 39, 3, 0) :: (o + 37, 3, 0) :: (o + 36, 4, 0) :: (o + 36, 3, 48) :: (o + 36, 2, 0) :: (o + 36, 1, 9) :: (o + 36, 0, 24) :: (o + 34, 8, -1) :: (o + 34, 7, 0) :: (o + 34, 5, 0) :: (o + 34, 4, 0) :: (o + 34, 3, 0) :: (o + 34, 2, 0) :: (o + 34, 1, 0) :: (o + 34, 0, 0) :: (o + 30, 3, 0) :: (o + 28, 3, 0) :: (o + 26, 3, 0) :: (o + 24, 3, 0) :: (o + 22, 3, 0) :: (o + 20, 3, 0) :: (o + 18, 3, 0) :: (o + 17, 4, 0) :: (o + 17, 3, 48) :: (o + 17, 2, 0) :: (o + 17, 1, 9) :: (o + 17, 0, 24) :: (o + 15, 3, 0) :: (o + 13, 3, 0) :: (o + 11, 3, 0) :: (o + 9, 3, 0) :: (o + 8, 4, 0) :: (o + 8, 3, 48) :: (o + 8, 2, 0) :: (o + 8, 1, 9) :: (o + 8, 0, 24) :: (o + 1, 3, -1) :: (o + 1, 2, 0) :: (o + 1, 1, 0) :: M.2.2)
set_option maxRecDepth 100000 in
theorem gk_mk9 {M : CM} {o k o2 : Nat} (h : gL M.2.1 o k = true) : gL (mkX9 o2 M).2.1 o k = true := (gk_app h : gL ((rgX9.map fun q => (o2 + q.1, q.2)) ++ M.2.1) o k = true)
set_option maxRecDepth 100000 in
theorem cfrX9 {o : Nat} {M : CM} (hM : M.1 = o) (h : cfresh M) : cfresh (mkX9 o M) := (cfresh_app (o := o) (n := 171) (Gs := rgX9) (Fs := rfX9) h (by omega) (by decide +kernel) (by decide +kernel) : _)
theorem mcI9 : Cond.code yX9_init cX9_init 2 none ∈ xw_T ∧ Cond.initialized yX9_init.cls ∈ xw_T ∧ Cond.instanceMethod yX9_init ∈ xw_T := ⟨(xinT 137 (by decide +kernel) (by decide +kernel)), (xinT 116 (by decide +kernel) (by decide +kernel)), (xinT 136 (by decide +kernel) (by decide +kernel))⟩
set_option maxHeartbeats 2000000 in
set_option maxRecDepth 100000 in
theorem ccX9 {o : Nat} {M : CM} (ho : isK o 9) (hM : M.1 = o) (hfr : cfresh M) : xCC yX9_init cX9_init 2 4 103 171 (15729) [vR o] M (mkX9 o M) := by
  obtain ⟨n, Gm, Fm⟩ := M
  obtain rfl : n = o := hM
  have hl := layX9 ho
  obtain ⟨hlN, ho0, l1, l32, l33, l34, l47, l53, l59, l62, l71, l77, l79, l110, l141⟩ := hl
  refine xcc_of (n1 := n + 171) (by decide +kernel) rfl (Nat.le_of_ble_eq_true rfl) (fun v hv => by rcases List.mem_cons.mp hv with rfl | hv <;> first | trivial | cases hv) hfr (show n ≤ layN by omega) (show n + 171 - n = 171 by omega) (sub_of (ssX9 ho)) (fun p l e R s m args below meth c D ad cA base C hret hnm => ?_)
  refine cx_aload_n C (j := 0) dX9_init_0 rfl rfl (by omega) ?_
  refine cx_objInit C dX9_init_1 (xinT 138 (by decide +kernel) (by decide +kernel)) oi_inst oi_code (by omega) (Nat.le_of_ble_eq_true rfl) (Nat.le_of_ble_eq_true rfl) (Nat.le_of_ble_eq_true rfl) ?_
  refine cx_aload_n C (j := 0) dX9_init_4 rfl rfl (by omega) ?_
  refine cx_new C (C0 := RX4) (N := 9) dX9_init_5 l1 (xinT 141 (by decide +kernel) (by decide +kernel)) (xinT 142 (by decide +kernel) (by decide +kernel)) (xinT 117 (by decide +kernel) (by decide +kernel)) rfl (show n + 1 ≤ n + 171 by omega) ?_
  refine cx_dup C dX9_init_8 rfl ?_
  refine cx_callI' C (As := []) (rest := [vR (n + 1), vR n]) dX9_init_9 (fun hfr => ccX4 (o := n + 1) (by unfold isK; rw [l1]; rfl) rfl hfr) (Nat.le_of_ble_eq_true rfl) (Nat.le_of_ble_eq_true rfl) mcI4.1 (xinT 143 (by decide +kernel) (by decide +kernel)) mcI4.2.1 mcI4.2.2 rfl ⟨by decide +kernel, by decide +kernel, by decide +kernel⟩ (by omega) rfl rfl (Nat.le_of_ble_eq_true rfl) rfl (ssX4 (by unfold isK; rw [l1]; rfl)) (show n + 31 ≤ layN by omega) (show n + 31 ≤ n + 171 by omega) (fun q => cfrX4 rfl q) ?_
  refine cx_putR C (ty := .object "OnePair$Told") dX9_init_12 fcX9_10 ⟨_, _, _, rfl, rfl, by decide +kernel, rfl⟩ hnm ho (show n ≤ n + 31 by omega) (Or.inl ⟨_, rfl⟩) rfl ?_
  refine cx_aload_n C (j := 0) dX9_init_15 rfl rfl (by omega) ?_
  refine cx_iconst C dX9_init_16 (cin rfl) ?_
  refine cx_newq C (C0 := "OnePair$Told") dX9_init_17 l32 (Or.inr (Or.inr ⟨rfl, rfl⟩)) (xinT 141 (by decide +kernel) (by decide +kernel)) (va_AO.use C.2.2.2.2.2.2.2.2.2.2.2.2.2.2.2) rfl (Nat.le_of_ble_eq_true rfl) (show n + 32 ≤ n + 171 by omega) ?_
  refine cx_putR C (ty := .array (.object "OnePair$Told")) dX9_init_20 fcX9_16 ⟨_, _, _, rfl, rfl, by decide +kernel, rfl⟩ hnm ho (show n ≤ n + 32 by omega) (Or.inr ⟨_, rfl⟩) rfl ?_
  refine cx_aload_n C (j := 0) dX9_init_23 rfl rfl (by omega) ?_
  refine cx_iconst C dX9_init_24 (cin rfl) ?_
  refine cx_newa C dX9_init_25 l33 rfl (Or.inr (Or.inr (Or.inl ⟨rfl, rfl⟩))) (xinT 322 (by decide +kernel) (by decide +kernel)) rfl (Nat.le_of_ble_eq_true rfl) (show n + 33 ≤ n + 171 by omega) ?_
  refine cx_putR C (ty := .array .boolean) dX9_init_27 fcX9_20 ⟨_, _, _, rfl, rfl, by decide +kernel, rfl⟩ hnm ho (show n ≤ n + 33 by omega) (Or.inr ⟨_, rfl⟩) rfl ?_
  refine cx_aload_n C (j := 0) dX9_init_30 rfl rfl (by omega) ?_
  refine cx_new C (C0 := RX2) (N := 13) dX9_init_31 l34 (xinT 269 (by decide +kernel) (by decide +kernel)) (xinT 270 (by decide +kernel) (by decide +kernel)) (xinT 121 (by decide +kernel) (by decide +kernel)) rfl (show n + 34 ≤ n + 171 by omega) ?_
  refine cx_dup C dX9_init_34 rfl ?_
  refine cx_callI' C (As := []) (rest := [vR (n + 34), vR n]) dX9_init_35 (fun hfr => ccX2 (o := n + 34) (by unfold isK; rw [l34]; rfl) rfl hfr) (Nat.le_of_ble_eq_true rfl) (Nat.le_of_ble_eq_true rfl) mcI2.1 (xinT 271 (by decide +kernel) (by decide +kernel)) mcI2.2.1 mcI2.2.2 rfl ⟨by decide +kernel, by decide +kernel, by decide +kernel⟩ (by omega) rfl rfl (Nat.le_of_ble_eq_true rfl) rfl (ssX2 (by unfold isK; rw [l34]; rfl)) (show n + 46 ≤ layN by omega) (show n + 46 ≤ n + 171 by omega) (fun q => cfrX2 rfl q) ?_
  refine cx_putR C (ty := .object "OnePair$Reader") dX9_init_38 fcX9_27 ⟨_, _, _, rfl, rfl, by decide +kernel, rfl⟩ hnm ho (show n ≤ n + 46 by omega) (Or.inl ⟨_, rfl⟩) rfl ?_
  refine cx_aload_n C (j := 0) dX9_init_41 rfl rfl (by omega) ?_
  refine cx_new C (C0 := RX0) (N := 7) dX9_init_42 l47 (xinT 323 (by decide +kernel) (by decide +kernel)) (xinT 324 (by decide +kernel) (by decide +kernel)) (xinT 122 (by decide +kernel) (by decide +kernel)) rfl (show n + 47 ≤ n + 171 by omega) ?_
  refine cx_dup C dX9_init_45 rfl ?_
  refine cx_callI' C (As := []) (rest := [vR (n + 47), vR n]) dX9_init_46 (fun hfr => ccX0 (o := n + 47) (by unfold isK; rw [l47]; rfl) rfl hfr) (Nat.le_of_ble_eq_true rfl) (Nat.le_of_ble_eq_true rfl) mcI0.1 (xinT 325 (by decide +kernel) (by decide +kernel)) mcI0.2.1 mcI0.2.2 rfl ⟨by decide +kernel, by decide +kernel, by decide +kernel⟩ (by omega) rfl rfl (Nat.le_of_ble_eq_true rfl) rfl (ssX0 (by unfold isK; rw [l47]; rfl)) (show n + 52 ≤ layN by omega) (show n + 52 ≤ n + 171 by omega) (fun q => cfrX0 rfl q) ?_
  refine cx_putR C (ty := .object "OnePair$Claims") dX9_init_49 fcX9_34 ⟨_, _, _, rfl, rfl, by decide +kernel, rfl⟩ hnm ho (show n ≤ n + 52 by omega) (Or.inl ⟨_, rfl⟩) rfl ?_
  refine cx_aload_n C (j := 0) dX9_init_52 rfl rfl (by omega) ?_
  refine cx_new C (C0 := RX0) (N := 7) dX9_init_53 l53 (xinT 323 (by decide +kernel) (by decide +kernel)) (xinT 324 (by decide +kernel) (by decide +kernel)) (xinT 122 (by decide +kernel) (by decide +kernel)) rfl (show n + 53 ≤ n + 171 by omega) ?_
  refine cx_dup C dX9_init_56 rfl ?_
  refine cx_callI' C (As := []) (rest := [vR (n + 53), vR n]) dX9_init_57 (fun hfr => ccX0 (o := n + 53) (by unfold isK; rw [l53]; rfl) rfl hfr) (Nat.le_of_ble_eq_true rfl) (Nat.le_of_ble_eq_true rfl) mcI0.1 (xinT 325 (by decide +kernel) (by decide +kernel)) mcI0.2.1 mcI0.2.2 rfl ⟨by decide +kernel, by decide +kernel, by decide +kernel⟩ (by omega) rfl rfl (Nat.le_of_ble_eq_true rfl) rfl (ssX0 (by unfold isK; rw [l53]; rfl)) (show n + 58 ≤ layN by omega) (show n + 58 ≤ n + 171 by omega) (fun q => cfrX0 rfl q) ?_
  refine cx_putR C (ty := .object "OnePair$Claims") dX9_init_60 fcX9_38 ⟨_, _, _, rfl, rfl, by decide +kernel, rfl⟩ hnm ho (show n ≤ n + 58 by omega) (Or.inl ⟨_, rfl⟩) rfl ?_
  refine cx_aload_n C (j := 0) dX9_init_63 rfl rfl (by omega) ?_
  refine cx_new C (C0 := RX8) (N := 5) dX9_init_64 l59 (xinT 356 (by decide +kernel) (by decide +kernel)) (xinT 357 (by decide +kernel) (by decide +kernel)) (xinT 123 (by decide +kernel) (by decide +kernel)) rfl (show n + 59 ≤ n + 171 by omega) ?_
  refine cx_dup C dX9_init_67 rfl ?_
  refine cx_callI' C (As := []) (rest := [vR (n + 59), vR n]) dX9_init_68 (fun hfr => ccX8 (o := n + 59) (by unfold isK; rw [l59]; rfl) rfl hfr) (Nat.le_of_ble_eq_true rfl) (Nat.le_of_ble_eq_true rfl) mcI8.1 (xinT 358 (by decide +kernel) (by decide +kernel)) mcI8.2.1 mcI8.2.2 rfl ⟨by decide +kernel, by decide +kernel, by decide +kernel⟩ (by omega) rfl rfl (Nat.le_of_ble_eq_true rfl) rfl (ssX8 (by unfold isK; rw [l59]; rfl)) (show n + 61 ≤ layN by omega) (show n + 61 ≤ n + 171 by omega) (fun q => cfrX8 rfl q) ?_
  refine cx_putR C (ty := .object "OnePair$Walk") dX9_init_71 fcX9_44 ⟨_, _, _, rfl, rfl, by decide +kernel, rfl⟩ hnm ho (show n ≤ n + 61 by omega) (Or.inl ⟨_, rfl⟩) rfl ?_
  refine cx_aload_n C (j := 0) dX9_init_74 rfl rfl (by omega) ?_
  refine cx_new C (C0 := RX1) (N := 13) dX9_init_75 l62 (xinT 382 (by decide +kernel) (by decide +kernel)) (xinT 383 (by decide +kernel) (by decide +kernel)) (xinT 124 (by decide +kernel) (by decide +kernel)) rfl (show n + 62 ≤ n + 171 by omega) ?_
  refine cx_dup C dX9_init_78 rfl ?_
  refine cx_callI' C (As := []) (rest := [vR (n + 62), vR n]) dX9_init_79 (fun hfr => ccX1 (o := n + 62) (by unfold isK; rw [l62]; rfl) rfl hfr) (Nat.le_of_ble_eq_true rfl) (Nat.le_of_ble_eq_true rfl) mcI1.1 (xinT 384 (by decide +kernel) (by decide +kernel)) mcI1.2.1 mcI1.2.2 rfl ⟨by decide +kernel, by decide +kernel, by decide +kernel⟩ (by omega) rfl rfl (Nat.le_of_ble_eq_true rfl) rfl (ssX1 (by unfold isK; rw [l62]; rfl)) (show n + 70 ≤ layN by omega) (show n + 70 ≤ n + 171 by omega) (fun q => cfrX1 rfl q) ?_
  refine cx_putR C (ty := .object "OnePair$Plan") dX9_init_82 fcX9_51 ⟨_, _, _, rfl, rfl, by decide +kernel, rfl⟩ hnm ho (show n ≤ n + 70 by omega) (Or.inl ⟨_, rfl⟩) rfl ?_
  refine cx_aload_n C (j := 0) dX9_init_85 rfl rfl (by omega) ?_
  refine cx_new C (C0 := RX6) (N := 6) dX9_init_86 l71 (xinT 433 (by decide +kernel) (by decide +kernel)) (xinT 434 (by decide +kernel) (by decide +kernel)) (xinT 125 (by decide +kernel) (by decide +kernel)) rfl (show n + 71 ≤ n + 171 by omega) ?_
  refine cx_dup C dX9_init_89 rfl ?_
  refine cx_callI' C (As := []) (rest := [vR (n + 71), vR n]) dX9_init_90 (fun hfr => ccX6 (o := n + 71) (by unfold isK; rw [l71]; rfl) rfl hfr) (Nat.le_of_ble_eq_true rfl) (Nat.le_of_ble_eq_true rfl) mcI6.1 (xinT 435 (by decide +kernel) (by decide +kernel)) mcI6.2.1 mcI6.2.2 rfl ⟨by decide +kernel, by decide +kernel, by decide +kernel⟩ (by omega) rfl rfl (Nat.le_of_ble_eq_true rfl) rfl (ssX6 (by unfold isK; rw [l71]; rfl)) (show n + 76 ≤ layN by omega) (show n + 76 ≤ n + 171 by omega) (fun q => cfrX6 rfl q) ?_
  refine cx_putR C (ty := .object "OnePair$Trip") dX9_init_93 fcX9_58 ⟨_, _, _, rfl, rfl, by decide +kernel, rfl⟩ hnm ho (show n ≤ n + 76 by omega) (Or.inl ⟨_, rfl⟩) rfl ?_
  refine cx_aload_n C (j := 0) dX9_init_96 rfl rfl (by omega) ?_
  refine cx_new C (C0 := RX5) (N := 5) dX9_init_97 l77 (xinT 464 (by decide +kernel) (by decide +kernel)) (xinT 465 (by decide +kernel) (by decide +kernel)) (xinT 126 (by decide +kernel) (by decide +kernel)) rfl (show n + 77 ≤ n + 171 by omega) ?_
  refine cx_dup C dX9_init_100 rfl ?_
  refine cx_callI' C (As := []) (rest := [vR (n + 77), vR n]) dX9_init_101 (fun hfr => ccX5 (o := n + 77) (by unfold isK; rw [l77]; rfl) rfl hfr) (Nat.le_of_ble_eq_true rfl) (Nat.le_of_ble_eq_true rfl) mcI5.1 (xinT 466 (by decide +kernel) (by decide +kernel)) mcI5.2.1 mcI5.2.2 rfl ⟨by decide +kernel, by decide +kernel, by decide +kernel⟩ (by omega) rfl rfl (Nat.le_of_ble_eq_true rfl) rfl (ssX5 (by unfold isK; rw [l77]; rfl)) (show n + 78 ≤ layN by omega) (show n + 78 ≤ n + 171 by omega) (fun q => cfrX5 rfl q) ?_
  refine cx_putR C (ty := .object "OnePair$Trade") dX9_init_104 fcX9_65 ⟨_, _, _, rfl, rfl, by decide +kernel, rfl⟩ hnm ho (show n ≤ n + 78 by omega) (Or.inl ⟨_, rfl⟩) rfl ?_
  refine cx_iconst C dX9_init_107 (cin rfl) ?_
  refine cx_istore_n C (ls' := [(1, vI 0), (0, vR n)]) dX9_init_108 rfl (Nat.le_of_ble_eq_true rfl) rfl ?_
  refine cx_iload_n C (j := 0) dX9_init_109 rfl rfl ?_
  refine cx_iconst C dX9_init_110 (cin rfl) ?_
  refine cx_icmp_geF C (tgt := 133) dX9_init_111 rfl (by decide) ?_
  refine cx_aload_n C (j := 1) dX9_init_114 rfl rfl (by omega) ?_
  refine cx_getR C dX9_init_115 fcX9_16 ho (show n ≤ n + 78 by omega) (gk_gs (gk_mk5 (gk_al (gk_gs (gk_mk6 (gk_al (gk_gs (gk_mk1 (gk_al (gk_gs (gk_mk8 (gk_al (gk_gs (gk_mk0 (gk_al (gk_gs (gk_mk0 (gk_al (gk_gs (gk_mk2 (gk_al (gk_gs (gk_al (gs_on _ _ _)))))))))))))))))))))))) ?_
  refine cx_iload_n C (j := 0) dX9_init_118 rfl rfl ?_
  refine cx_new C (C0 := RX4) (N := 9) dX9_init_119 l79 (xinT 141 (by decide +kernel) (by decide +kernel)) (xinT 142 (by decide +kernel) (by decide +kernel)) (xinT 117 (by decide +kernel) (by decide +kernel)) rfl (show n + 79 ≤ n + 171 by omega) ?_
  refine cx_dup C dX9_init_122 rfl ?_
  refine cx_callI' C (As := []) (rest := [vR (n + 79), vI 0, vR (n + 32)]) dX9_init_123 (fun hfr => ccX4 (o := n + 79) (by unfold isK; rw [l79]; rfl) rfl hfr) (Nat.le_of_ble_eq_true rfl) (Nat.le_of_ble_eq_true rfl) mcI4.1 (xinT 143 (by decide +kernel) (by decide +kernel)) mcI4.2.1 mcI4.2.2 rfl ⟨by decide +kernel, by decide +kernel, by decide +kernel⟩ (by omega) rfl rfl (Nat.le_of_ble_eq_true rfl) rfl (ssX4 (by unfold isK; rw [l79]; rfl)) (show n + 109 ≤ layN by omega) (show n + 109 ≤ n + 171 by omega) (fun q => cfrX4 rfl q) ?_
  refine cx_aastore C (ci := 4) (cj := 0) (C0 := RX4) dX9_init_126 (by unfold isRA; rw [l32]; rfl) (show n + 32 ≤ n + 109 by omega) (by decide) (by unfold alen; rw [l32]; decide) (by unfold aref; rw [l32]; rfl) (by unfold isK; rw [l79]; rfl) (show n + 79 ≤ n + 109 by omega) rfl ⟨6, rfl⟩ ?_
  refine cx_iinc C (ls' := [(1, vI 1), (0, vR n)]) (j := 0) dX9_init_127 rfl (Nat.le_of_ble_eq_true rfl) rfl ?_
  refine cx_goto C (tgt := 109) dX9_init_130 rfl ?_
  refine cx_iload_n C (j := 0) dX9_init_109 rfl rfl ?_
  refine cx_iconst C dX9_init_110 (cin rfl) ?_
  refine cx_icmp_geF C (tgt := 133) dX9_init_111 rfl (by decide) ?_
  refine cx_aload_n C (j := 1) dX9_init_114 rfl rfl (by omega) ?_
  refine cx_getR C dX9_init_115 fcX9_16 ho (show n ≤ n + 109 by omega) (gk_gs (gk_mk4 (gk_al (gk_gs (gk_mk5 (gk_al (gk_gs (gk_mk6 (gk_al (gk_gs (gk_mk1 (gk_al (gk_gs (gk_mk8 (gk_al (gk_gs (gk_mk0 (gk_al (gk_gs (gk_mk0 (gk_al (gk_gs (gk_mk2 (gk_al (gk_gs (gk_al (gs_on _ _ _))))))))))))))))))))))))))) ?_
  refine cx_iload_n C (j := 0) dX9_init_118 rfl rfl ?_
  refine cx_new C (C0 := RX4) (N := 9) dX9_init_119 l110 (xinT 141 (by decide +kernel) (by decide +kernel)) (xinT 142 (by decide +kernel) (by decide +kernel)) (xinT 117 (by decide +kernel) (by decide +kernel)) rfl (show n + 110 ≤ n + 171 by omega) ?_
  refine cx_dup C dX9_init_122 rfl ?_
  refine cx_callI' C (As := []) (rest := [vR (n + 110), vI 1, vR (n + 32)]) dX9_init_123 (fun hfr => ccX4 (o := n + 110) (by unfold isK; rw [l110]; rfl) rfl hfr) (Nat.le_of_ble_eq_true rfl) (Nat.le_of_ble_eq_true rfl) mcI4.1 (xinT 143 (by decide +kernel) (by decide +kernel)) mcI4.2.1 mcI4.2.2 rfl ⟨by decide +kernel, by decide +kernel, by decide +kernel⟩ (by omega) rfl rfl (Nat.le_of_ble_eq_true rfl) rfl (ssX4 (by unfold isK; rw [l110]; rfl)) (show n + 140 ≤ layN by omega) (show n + 140 ≤ n + 171 by omega) (fun q => cfrX4 rfl q) ?_
  refine cx_aastore C (ci := 4) (cj := 0) (C0 := RX4) dX9_init_126 (by unfold isRA; rw [l32]; rfl) (show n + 32 ≤ n + 140 by omega) (by decide) (by unfold alen; rw [l32]; decide) (by unfold aref; rw [l32]; rfl) (by unfold isK; rw [l110]; rfl) (show n + 110 ≤ n + 140 by omega) rfl ⟨6, rfl⟩ ?_
  refine cx_iinc C (ls' := [(1, vI 2), (0, vR n)]) (j := 0) dX9_init_127 rfl (Nat.le_of_ble_eq_true rfl) rfl ?_
  refine cx_goto C (tgt := 109) dX9_init_130 rfl ?_
  refine cx_iload_n C (j := 0) dX9_init_109 rfl rfl ?_
  refine cx_iconst C dX9_init_110 (cin rfl) ?_
  refine cx_icmp_geF C (tgt := 133) dX9_init_111 rfl (by decide) ?_
  refine cx_aload_n C (j := 1) dX9_init_114 rfl rfl (by omega) ?_
  refine cx_getR C dX9_init_115 fcX9_16 ho (show n ≤ n + 140 by omega) (gk_gs (gk_mk4 (gk_al (gk_gs (gk_mk4 (gk_al (gk_gs (gk_mk5 (gk_al (gk_gs (gk_mk6 (gk_al (gk_gs (gk_mk1 (gk_al (gk_gs (gk_mk8 (gk_al (gk_gs (gk_mk0 (gk_al (gk_gs (gk_mk0 (gk_al (gk_gs (gk_mk2 (gk_al (gk_gs (gk_al (gs_on _ _ _)))))))))))))))))))))))))))))) ?_
  refine cx_iload_n C (j := 0) dX9_init_118 rfl rfl ?_
  refine cx_new C (C0 := RX4) (N := 9) dX9_init_119 l141 (xinT 141 (by decide +kernel) (by decide +kernel)) (xinT 142 (by decide +kernel) (by decide +kernel)) (xinT 117 (by decide +kernel) (by decide +kernel)) rfl (show n + 141 ≤ n + 171 by omega) ?_
  refine cx_dup C dX9_init_122 rfl ?_
  refine cx_callI' C (As := []) (rest := [vR (n + 141), vI 2, vR (n + 32)]) dX9_init_123 (fun hfr => ccX4 (o := n + 141) (by unfold isK; rw [l141]; rfl) rfl hfr) (Nat.le_of_ble_eq_true rfl) (Nat.le_of_ble_eq_true rfl) mcI4.1 (xinT 143 (by decide +kernel) (by decide +kernel)) mcI4.2.1 mcI4.2.2 rfl ⟨by decide +kernel, by decide +kernel, by decide +kernel⟩ (by omega) rfl rfl (Nat.le_of_ble_eq_true rfl) rfl (ssX4 (by unfold isK; rw [l141]; rfl)) (show n + 171 ≤ layN by omega) (show n + 171 ≤ n + 171 by omega) (fun q => cfrX4 rfl q) ?_
  refine cx_aastore C (ci := 4) (cj := 0) (C0 := RX4) dX9_init_126 (by unfold isRA; rw [l32]; rfl) (show n + 32 ≤ n + 171 by omega) (by decide) (by unfold alen; rw [l32]; decide) (by unfold aref; rw [l32]; rfl) (by unfold isK; rw [l141]; rfl) (show n + 141 ≤ n + 171 by omega) rfl ⟨6, rfl⟩ ?_
  refine cx_iinc C (ls' := [(1, vI 3), (0, vR n)]) (j := 0) dX9_init_127 rfl (Nat.le_of_ble_eq_true rfl) rfl ?_
  refine cx_goto C (tgt := 109) dX9_init_130 rfl ?_
  refine cx_iload_n C (j := 0) dX9_init_109 rfl rfl ?_
  refine cx_iconst C dX9_init_110 (cin rfl) ?_
  refine cx_icmp_geT C (tgt := 133) dX9_init_111 rfl (by decide) ?_
  exact cx_return C dX9_init_133 hret rfl
