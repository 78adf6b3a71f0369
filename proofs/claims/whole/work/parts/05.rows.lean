/-! the check of all rows, stretch by stretch -/
set_option maxRecDepth 1000000 in
theorem ai_okM_0 : [(0, 0, 39), (1, 0, 16)].all (fun q : Nat × Nat × Nat => ai_okS q.1 q.2.1 q.2.2) = true := by decide +kernel
set_option maxRecDepth 1000000 in
theorem ai_okM_1 : [(2, 0, 66), (3, 0, 5), (4, 0, 5), (5, 0, 42)].all (fun q : Nat × Nat × Nat => ai_okS q.1 q.2.1 q.2.2) = true := by decide +kernel
set_option maxRecDepth 1000000 in
theorem ai_okM_2 : [(6, 0, 3), (7, 0, 28), (8, 0, 50), (9, 0, 16), (10, 0, 17)].all (fun q : Nat × Nat × Nat => ai_okS q.1 q.2.1 q.2.2) = true := by decide +kernel
set_option maxRecDepth 1000000 in
theorem ai_okM_3 : [(11, 0, 20), (12, 0, 20), (13, 0, 23), (14, 0, 19), (15, 0, 22)].all (fun q : Nat × Nat × Nat => ai_okS q.1 q.2.1 q.2.2) = true := by decide +kernel
set_option maxRecDepth 1000000 in
theorem ai_okM_4 : [(16, 0, 30), (17, 0, 28), (18, 0, 32), (19, 0, 18)].all (fun q : Nat × Nat × Nat => ai_okS q.1 q.2.1 q.2.2) = true := by decide +kernel
set_option maxRecDepth 1000000 in
theorem ai_okM_5 : [(20, 0, 14), (21, 0, 4), (22, 0, 5), (23, 0, 9), (24, 0, 19), (25, 0, 67)].all (fun q : Nat × Nat × Nat => ai_okS q.1 q.2.1 q.2.2) = true := by decide +kernel
set_option maxRecDepth 1000000 in
theorem ai_okM_6 : [(26, 0, 57), (27, 0, 38)].all (fun q : Nat × Nat × Nat => ai_okS q.1 q.2.1 q.2.2) = true := by decide +kernel
set_option maxRecDepth 1000000 in
theorem ai_okM_7 : [(28, 0, 66), (29, 0, 39)].all (fun q : Nat × Nat × Nat => ai_okS q.1 q.2.1 q.2.2) = true := by decide +kernel
set_option maxRecDepth 1000000 in
theorem ai_okM_8 : [(30, 0, 54), (31, 0, 25), (32, 0, 20), (33, 0, 11)].all (fun q : Nat × Nat × Nat => ai_okS q.1 q.2.1 q.2.2) = true := by decide +kernel
set_option maxRecDepth 1000000 in
theorem ai_okM_9 : [(34, 0, 28), (35, 0, 28), (36, 0, 37)].all (fun q : Nat × Nat × Nat => ai_okS q.1 q.2.1 q.2.2) = true := by decide +kernel
set_option maxRecDepth 1000000 in
theorem ai_okM_10 : [(37, 0, 32), (38, 0, 43)].all (fun q : Nat × Nat × Nat => ai_okS q.1 q.2.1 q.2.2) = true := by decide +kernel
set_option maxRecDepth 1000000 in
theorem ai_okM_11 : [(39, 0, 49)].all (fun q : Nat × Nat × Nat => ai_okS q.1 q.2.1 q.2.2) = true := by decide +kernel
set_option maxRecDepth 1000000 in
theorem ai_okM_12 : [(40, 0, 77)].all (fun q : Nat × Nat × Nat => ai_okS q.1 q.2.1 q.2.2) = true := by decide +kernel
set_option maxRecDepth 1000000 in
theorem ai_okM_13 : [(41, 0, 44), (42, 0, 51)].all (fun q : Nat × Nat × Nat => ai_okS q.1 q.2.1 q.2.2) = true := by decide +kernel
set_option maxRecDepth 1000000 in
theorem ai_okM_14 : [(43, 0, 78), (44, 0, 25)].all (fun q : Nat × Nat × Nat => ai_okS q.1 q.2.1 q.2.2) = true := by decide +kernel
set_option maxRecDepth 1000000 in
theorem ai_okM_15 : [(45, 0, 58), (46, 0, 11), (47, 0, 8), (48, 0, 21)].all (fun q : Nat × Nat × Nat => ai_okS q.1 q.2.1 q.2.2) = true := by decide +kernel
set_option maxRecDepth 1000000 in
theorem ai_okM_16 : [(49, 0, 41), (50, 0, 7), (51, 0, 32), (52, 0, 31)].all (fun q : Nat × Nat × Nat => ai_okS q.1 q.2.1 q.2.2) = true := by decide +kernel
set_option maxRecDepth 1000000 in
theorem ai_okM_17 : [(53, 0, 39), (54, 0, 22), (55, 0, 5), (56, 0, 5), (57, 0, 9), (58, 0, 13), (59, 0, 5)].all (fun q : Nat × Nat × Nat => ai_okS q.1 q.2.1 q.2.2) = true := by decide +kernel
set_option maxRecDepth 1000000 in
theorem ai_okM_18 : [(60, 0, 23), (61, 0, 18), (62, 0, 5), (63, 0, 8), (64, 0, 9), (65, 0, 13), (66, 0, 31), (67, 0, 13)].all (fun q : Nat × Nat × Nat => ai_okS q.1 q.2.1 q.2.2) = true := by decide +kernel
set_option maxRecDepth 1000000 in
theorem ai_okM_19 : [(68, 0, 10), (69, 0, 27), (70, 0, 7), (71, 0, 21), (72, 0, 19), (73, 0, 20)].all (fun q : Nat × Nat × Nat => ai_okS q.1 q.2.1 q.2.2) = true := by decide +kernel
set_option maxRecDepth 1000000 in
theorem ai_okM_20 : [(74, 0, 33), (75, 0, 62)].all (fun q : Nat × Nat × Nat => ai_okS q.1 q.2.1 q.2.2) = true := by decide +kernel
set_option maxRecDepth 1000000 in
theorem ai_okM_21 : [(76, 0, 50), (77, 0, 54)].all (fun q : Nat × Nat × Nat => ai_okS q.1 q.2.1 q.2.2) = true := by decide +kernel
set_option maxRecDepth 1000000 in
theorem ai_okM_22 : [(78, 0, 40), (79, 0, 22), (80, 0, 49)].all (fun q : Nat × Nat × Nat => ai_okS q.1 q.2.1 q.2.2) = true := by decide +kernel
set_option maxRecDepth 1000000 in
theorem ai_okM_23 : [(81, 0, 51), (82, 0, 36)].all (fun q : Nat × Nat × Nat => ai_okS q.1 q.2.1 q.2.2) = true := by decide +kernel
set_option maxRecDepth 1000000 in
theorem ai_okM_24 : [(83, 0, 52), (84, 0, 23), (85, 0, 14), (86, 0, 22)].all (fun q : Nat × Nat × Nat => ai_okS q.1 q.2.1 q.2.2) = true := by decide +kernel
set_option maxRecDepth 1000000 in
theorem ai_okM_25 : [(87, 0, 17), (88, 0, 11), (89, 0, 10), (90, 0, 11), (91, 0, 25), (92, 0, 26), (93, 0, 10), (94, 0, 5)].all (fun q : Nat × Nat × Nat => ai_okS q.1 q.2.1 q.2.2) = true := by decide +kernel
set_option maxRecDepth 1000000 in
theorem ai_okM_26 : [(95, 0, 9), (96, 0, 9), (97, 0, 9), (98, 0, 28), (99, 0, 17), (100, 0, 35)].all (fun q : Nat × Nat × Nat => ai_okS q.1 q.2.1 q.2.2) = true := by decide +kernel
set_option maxRecDepth 1000000 in
theorem ai_okM_27 : [(101, 0, 32), (102, 0, 27), (103, 0, 28), (104, 0, 15), (105, 0, 5), (106, 0, 13)].all (fun q : Nat × Nat × Nat => ai_okS q.1 q.2.1 q.2.2) = true := by decide +kernel
set_option maxRecDepth 1000000 in
theorem ai_okM_28 : [(107, 0, 17), (108, 0, 29), (109, 0, 49)].all (fun q : Nat × Nat × Nat => ai_okS q.1 q.2.1 q.2.2) = true := by decide +kernel
set_option maxRecDepth 1000000 in
theorem ai_okM_29 : [(110, 0, 47), (111, 0, 23), (112, 0, 28), (113, 0, 6)].all (fun q : Nat × Nat × Nat => ai_okS q.1 q.2.1 q.2.2) = true := by decide +kernel
set_option maxRecDepth 1000000 in
theorem ai_okM_30 : [(114, 0, 33), (115, 0, 31), (116, 0, 10)].all (fun q : Nat × Nat × Nat => ai_okS q.1 q.2.1 q.2.2) = true := by decide +kernel
set_option maxRecDepth 1000000 in
theorem ai_okM_31 : [(117, 0, 48), (118, 0, 42), (119, 0, 25)].all (fun q : Nat × Nat × Nat => ai_okS q.1 q.2.1 q.2.2) = true := by decide +kernel
set_option maxRecDepth 1000000 in
theorem ai_okM_32 : [(120, 0, 43), (121, 0, 39), (122, 0, 38)].all (fun q : Nat × Nat × Nat => ai_okS q.1 q.2.1 q.2.2) = true := by decide +kernel
set_option maxRecDepth 1000000 in
theorem ai_okM_33 : [(123, 0, 29), (124, 0, 11), (125, 0, 20)].all (fun q : Nat × Nat × Nat => ai_okS q.1 q.2.1 q.2.2) = true := by decide +kernel
set_option maxRecDepth 1000000 in
theorem ai_okM_34 : [(126, 0, 146)].all (fun q : Nat × Nat × Nat => ai_okS q.1 q.2.1 q.2.2) = true := by decide +kernel
set_option maxRecDepth 1000000 in
theorem ai_okM_35 : [(127, 0, 3), (128, 0, 5), (129, 0, 10), (130, 0, 37), (131, 0, 35)].all (fun q : Nat × Nat × Nat => ai_okS q.1 q.2.1 q.2.2) = true := by decide +kernel
set_option maxRecDepth 1000000 in
theorem ai_okM_36 : [(132, 0, 86), (133, 0, 23), (134, 0, 7)].all (fun q : Nat × Nat × Nat => ai_okS q.1 q.2.1 q.2.2) = true := by decide +kernel
set_option maxRecDepth 1000000 in
theorem ai_okM_37 : [(135, 0, 13), (136, 0, 19), (137, 0, 12), (138, 0, 12), (139, 0, 11), (140, 0, 34)].all (fun q : Nat × Nat × Nat => ai_okS q.1 q.2.1 q.2.2) = true := by decide +kernel
set_option maxRecDepth 1000000 in
theorem ai_okM_38 : [(141, 0, 67), (142, 0, 41)].all (fun q : Nat × Nat × Nat => ai_okS q.1 q.2.1 q.2.2) = true := by decide +kernel
set_option maxRecDepth 1000000 in
theorem ai_okM_39 : [(143, 0, 111)].all (fun q : Nat × Nat × Nat => ai_okS q.1 q.2.1 q.2.2) = true := by decide +kernel
set_option maxRecDepth 1000000 in
theorem ai_okM_40 : [(144, 0, 68)].all (fun q : Nat × Nat × Nat => ai_okS q.1 q.2.1 q.2.2) = true := by decide +kernel
set_option maxRecDepth 1000000 in
theorem ai_okM_41 : [(145, 0, 84)].all (fun q : Nat × Nat × Nat => ai_okS q.1 q.2.1 q.2.2) = true := by decide +kernel
set_option maxRecDepth 1000000 in
theorem ai_okM_42 : [(146, 0, 65)].all (fun q : Nat × Nat × Nat => ai_okS q.1 q.2.1 q.2.2) = true := by decide +kernel
set_option maxRecDepth 1000000 in
theorem ai_okM_43 : [(147, 0, 91)].all (fun q : Nat × Nat × Nat => ai_okS q.1 q.2.1 q.2.2) = true := by decide +kernel
set_option maxRecDepth 1000000 in
theorem ai_okM_44 : [(148, 0, 138)].all (fun q : Nat × Nat × Nat => ai_okS q.1 q.2.1 q.2.2) = true := by decide +kernel
set_option maxRecDepth 1000000 in
theorem ai_okM_45 : [(149, 0, 6), (150, 0, 50), (151, 0, 48)].all (fun q : Nat × Nat × Nat => ai_okS q.1 q.2.1 q.2.2) = true := by decide +kernel
set_option maxRecDepth 1000000 in
theorem ai_okM_46 : [(152, 0, 26), (153, 0, 57)].all (fun q : Nat × Nat × Nat => ai_okS q.1 q.2.1 q.2.2) = true := by decide +kernel
set_option maxRecDepth 1000000 in
theorem ai_okM_47 : [(154, 0, 58), (155, 0, 33), (156, 0, 22)].all (fun q : Nat × Nat × Nat => ai_okS q.1 q.2.1 q.2.2) = true := by decide +kernel
set_option maxRecDepth 1000000 in
theorem ai_okM_48 : [(157, 0, 26), (158, 0, 22), (159, 0, 31), (160, 0, 25)].all (fun q : Nat × Nat × Nat => ai_okS q.1 q.2.1 q.2.2) = true := by decide +kernel
set_option maxRecDepth 1000000 in
theorem ai_okM_49 : [(161, 0, 87)].all (fun q : Nat × Nat × Nat => ai_okS q.1 q.2.1 q.2.2) = true := by decide +kernel
set_option maxRecDepth 1000000 in
theorem ai_okM_50 : [(162, 0, 51)].all (fun q : Nat × Nat × Nat => ai_okS q.1 q.2.1 q.2.2) = true := by decide +kernel
set_option maxRecDepth 1000000 in
theorem ai_okM_51 : [(163, 0, 126)].all (fun q : Nat × Nat × Nat => ai_okS q.1 q.2.1 q.2.2) = true := by decide +kernel
set_option maxRecDepth 1000000 in
theorem ai_okM_52 : [(164, 0, 95)].all (fun q : Nat × Nat × Nat => ai_okS q.1 q.2.1 q.2.2) = true := by decide +kernel
set_option maxRecDepth 1000000 in
theorem ai_okM_53 : [(165, 0, 90), (166, 0, 27)].all (fun q : Nat × Nat × Nat => ai_okS q.1 q.2.1 q.2.2) = true := by decide +kernel
set_option maxRecDepth 1000000 in
theorem ai_okM_54 : [(167, 0, 143)].all (fun q : Nat × Nat × Nat => ai_okS q.1 q.2.1 q.2.2) = true := by decide +kernel
set_option maxRecDepth 1000000 in
theorem ai_okM_55 : [(168, 0, 63), (169, 0, 24)].all (fun q : Nat × Nat × Nat => ai_okS q.1 q.2.1 q.2.2) = true := by decide +kernel
set_option maxRecDepth 1000000 in
theorem ai_okM_56 : [(170, 0, 63), (171, 0, 56)].all (fun q : Nat × Nat × Nat => ai_okS q.1 q.2.1 q.2.2) = true := by decide +kernel
set_option maxRecDepth 1000000 in
theorem ai_okM_57 : [(172, 0, 71), (173, 0, 15), (174, 0, 19)].all (fun q : Nat × Nat × Nat => ai_okS q.1 q.2.1 q.2.2) = true := by decide +kernel
set_option maxRecDepth 1000000 in
theorem ai_okM_58 : [(175, 0, 40), (176, 0, 21), (177, 0, 18)].all (fun q : Nat × Nat × Nat => ai_okS q.1 q.2.1 q.2.2) = true := by decide +kernel
set_option maxRecDepth 1000000 in
theorem ai_okM_59 : [(178, 0, 73), (179, 0, 38)].all (fun q : Nat × Nat × Nat => ai_okS q.1 q.2.1 q.2.2) = true := by decide +kernel
set_option maxRecDepth 1000000 in
theorem ai_okM_60 : [(180, 0, 39), (181, 0, 66)].all (fun q : Nat × Nat × Nat => ai_okS q.1 q.2.1 q.2.2) = true := by decide +kernel
set_option maxRecDepth 1000000 in
theorem ai_okM_61 : [(182, 0, 104)].all (fun q : Nat × Nat × Nat => ai_okS q.1 q.2.1 q.2.2) = true := by decide +kernel
set_option maxRecDepth 1000000 in
theorem ai_okM_62 : [(183, 0, 41), (184, 0, 38), (185, 0, 13)].all (fun q : Nat × Nat × Nat => ai_okS q.1 q.2.1 q.2.2) = true := by decide +kernel
set_option maxRecDepth 1000000 in
theorem ai_okM_63 : [(186, 0, 35), (187, 0, 80)].all (fun q : Nat × Nat × Nat => ai_okS q.1 q.2.1 q.2.2) = true := by decide +kernel
set_option maxRecDepth 1000000 in
theorem ai_okM_64 : [(188, 0, 70)].all (fun q : Nat × Nat × Nat => ai_okS q.1 q.2.1 q.2.2) = true := by decide +kernel
set_option maxRecDepth 1000000 in
theorem ai_okM_65 : [(189, 0, 122)].all (fun q : Nat × Nat × Nat => ai_okS q.1 q.2.1 q.2.2) = true := by decide +kernel
set_option maxRecDepth 1000000 in
theorem ai_okM_66 : [(190, 0, 22), (191, 0, 12), (192, 0, 19), (193, 0, 12), (194, 0, 16), (195, 0, 19), (196, 0, 13)].all (fun q : Nat × Nat × Nat => ai_okS q.1 q.2.1 q.2.2) = true := by decide +kernel
set_option maxRecDepth 1000000 in
theorem ai_okM_67 : [(197, 0, 14), (198, 0, 18), (199, 0, 12), (200, 0, 12), (201, 0, 12), (202, 0, 17), (203, 0, 17), (204, 0, 16)].all (fun q : Nat × Nat × Nat => ai_okS q.1 q.2.1 q.2.2) = true := by decide +kernel
set_option maxRecDepth 1000000 in
theorem ai_okM_68 : [(205, 0, 13)].all (fun q : Nat × Nat × Nat => ai_okS q.1 q.2.1 q.2.2) = true := by decide +kernel
set_option maxRecDepth 1000000 in
theorem ai_okM_69 : [(206, 0, 60)].all (fun q : Nat × Nat × Nat => ai_okS q.1 q.2.1 q.2.2) = true := by decide +kernel
set_option maxRecDepth 1000000 in
theorem ai_okM_70 : [(206, 60, 60)].all (fun q : Nat × Nat × Nat => ai_okS q.1 q.2.1 q.2.2) = true := by decide +kernel
set_option maxRecDepth 1000000 in
theorem ai_okM_71 : [(206, 120, 60)].all (fun q : Nat × Nat × Nat => ai_okS q.1 q.2.1 q.2.2) = true := by decide +kernel
set_option maxRecDepth 1000000 in
theorem ai_okM_72 : [(206, 180, 60)].all (fun q : Nat × Nat × Nat => ai_okS q.1 q.2.1 q.2.2) = true := by decide +kernel
set_option maxRecDepth 1000000 in
theorem ai_okM_73 : [(206, 240, 60)].all (fun q : Nat × Nat × Nat => ai_okS q.1 q.2.1 q.2.2) = true := by decide +kernel
set_option maxRecDepth 1000000 in
theorem ai_okM_74 : [(206, 300, 60)].all (fun q : Nat × Nat × Nat => ai_okS q.1 q.2.1 q.2.2) = true := by decide +kernel
set_option maxRecDepth 1000000 in
theorem ai_okM_75 : [(206, 360, 60)].all (fun q : Nat × Nat × Nat => ai_okS q.1 q.2.1 q.2.2) = true := by decide +kernel
set_option maxRecDepth 1000000 in
theorem ai_okM_76 : [(206, 420, 60)].all (fun q : Nat × Nat × Nat => ai_okS q.1 q.2.1 q.2.2) = true := by decide +kernel
set_option maxRecDepth 1000000 in
theorem ai_okM_77 : [(206, 480, 60)].all (fun q : Nat × Nat × Nat => ai_okS q.1 q.2.1 q.2.2) = true := by decide +kernel
set_option maxRecDepth 1000000 in
theorem ai_okM_78 : [(206, 540, 60)].all (fun q : Nat × Nat × Nat => ai_okS q.1 q.2.1 q.2.2) = true := by decide +kernel
set_option maxRecDepth 1000000 in
theorem ai_okM_79 : [(206, 600, 60)].all (fun q : Nat × Nat × Nat => ai_okS q.1 q.2.1 q.2.2) = true := by decide +kernel
set_option maxRecDepth 1000000 in
theorem ai_okM_80 : [(206, 660, 16)].all (fun q : Nat × Nat × Nat => ai_okS q.1 q.2.1 q.2.2) = true := by decide +kernel

theorem ai_okM_use {L : List (Nat × Nat × Nat)} (h : L.all (fun q => ai_okS q.1 q.2.1 q.2.2) = true) {m a n i : Nat} {e : ai_E} (hm : (m, a, n) ∈ L) (h1 : a ≤ i) (h2 : i < a + n) (he : ai_nth (ai_ops m) i = some e) : ai_ok m i e = true := ai_okS_at (List.all_eq_true.mp h (m, a, n) hm) h1 h2 he
theorem ai_len_lt {m i : Nat} {e : ai_E} (h : ai_nth (ai_ops m) i = some e) : i < (ai_ops m).length := by
  rw [ai_nth_eq] at h
  exact (List.getElem?_eq_some_iff.mp h).1
