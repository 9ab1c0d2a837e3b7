/-! CONTRACTS, by the checker. -/
/-- Reader.takeNewName  -/
def vC_22 : SCt := (41, 1, 21, [.inr (.inr (7, 45)), .inl (0, 7)], [], [(45, 2, (0, 5))], [([(0, 7)], [(0, 5)], some (.inl sfull), [(45, 2, (1, 5))], [], [])], ([(45, 2, false), (45, 3, false)], []), [])
theorem vc_22 (l : Launch) : scm l vT vR vE 153 6051 vC_22 := scm_of (CS := [vC_12]) (HN := []) (IT := []) (fu := 6000) vtab (smem1 (vc_12 l) smem0) (by decide +kernel)
/-- Reader.takeNumber  -/
def vC_23 : SCt := (42, 7, 218, [.inr (.inr (7, 45)), .inl (0, 0), .inl (3, 3)], [], [(45, 2, (0, 5))], [([(0, 0), (3, 3)], [(0, 5)], some (.inl sfull), [(45, 2, (1, 5))], [], []), ([(0, 0), (3, 3)], [(0, 5)], some (.inl (0, 2147483647)), [(45, 2, (1, 5))], [], []), ([(0, 0), (3, 3)], [(0, 0)], some (.inl (0, 3)), [(45, 2, (0, 0))], [], [])], ([(45, 2, false), (45, 3, false), (45, 6, false), (45, 7, false), (45, 8, false), (45, 9, false)], []), [])
theorem vc_23 (l : Launch) : scm l vT vR vE 153 6051 vC_23 := scm_of (CS := [vC_11, vC_12]) (HN := [(0, [(2, (0, 0, 0), [])])]) (IT := []) (fu := 6000) vtab (smem1 (vc_11 l) (smem1 (vc_12 l) smem0)) (by decide +kernel)
/-- Reader.takeToldName  -/
def vC_24 : SCt := (44, 1, 21, [.inr (.inr (7, 45)), .inl ((-1), (-1))], [], [(45, 2, (0, 5))], [([((-1), (-1))], [(0, 5)], some (.inl ((-1), (-1))), [(45, 2, (1, 5))], [], [])], ([(45, 2, false), (45, 3, false)], []), [])
theorem vc_24 (l : Launch) : scm l vT vR vE 153 6051 vC_24 := scm_of (CS := [vC_12]) (HN := [(0, [(2, (0, 0, 0), [])])]) (IT := []) (fu := 6000) vtab (smem1 (vc_12 l) smem0) (by decide +kernel)
/-- Reader.takeToldName  -/
def vC_25 : SCt := (44, 7, 218, [.inr (.inr (7, 45)), .inl (0, 5)], [], [(45, 2, (0, 5))], [([(0, 5)], [(0, 5)], some (.inl (0, 5)), [(45, 2, (1, 5))], [], []), ([(0, 5)], [(0, 0)], some (.inl (0, 5)), [(45, 2, (0, 0))], [], [])], ([(45, 2, false), (45, 3, false), (45, 6, false), (45, 7, false), (45, 8, false), (45, 9, false)], []), [])
theorem vc_25 (l : Launch) : scm l vT vR vE 153 6051 vC_25 := scm_of (CS := [vC_11, vC_12]) (HN := []) (IT := []) (fu := 6000) vtab (smem1 (vc_11 l) (smem1 (vc_12 l) smem0)) (by decide +kernel)
/-- Realm.personNamed  -/
def vC_26 : SCt := (47, 0, 0, [.inr (.inr (8, 24)), .inl sfull], [], [], [([sfull], [], some (.inl (0, 7)), [], [], []), ([sfull], [], some (.inl ((-1), (-1))), [], [], [])], ([], []), [])
theorem vc_26 (l : Launch) : scm l vT vR vE 153 6051 vC_26 := scm_of (CS := []) (HN := []) (IT := [((2, ([(sfull, 0, 0), ((0, 8), 0, 0)], [], [sref 8 24, sint (1, 0), sint (2, 0)], [], ([], [])), 1, [(0, 2, 0)], [], 1, []), [])]) (fu := 6000) vtab smem0 (by decide +kernel)
/-- Realm.personNamed  -/
def vC_27 : SCt := (47, 0, 0, [.inr (.inr (8, 3)), .inl sfull], [], [], [([sfull], [], some (.inl (0, 7)), [], [], []), ([sfull], [], some (.inl ((-1), (-1))), [], [], [])], ([], []), [])
theorem vc_27 (l : Launch) : scm l vT vR vE 153 6051 vC_27 := scm_of (CS := []) (HN := []) (IT := [((2, ([(sfull, 0, 0), ((0, 8), 0, 0)], [], [sref 8 3, sint (1, 0), sint (2, 0)], [], ([], [])), 1, [(0, 2, 0)], [], 1, []), [])]) (fu := 6000) vtab smem0 (by decide +kernel)
/-- Reader.readPerson  -/
def vC_28 : SCt := (46, 8, 241, [.inr (.inr (7, 45))], [], [], [([], [], none, [], [], [])], ([(3, 9, false), (11, 0, true), (12, 0, true), (13, 0, true), (14, 0, true), (24, 9, false), (32, 0, true), (33, 0, true), (34, 0, true), (35, 0, true), (45, 2, false), (45, 3, false), (45, 6, false), (45, 7, false), (45, 8, false), (45, 9, false)], []), [])
theorem vc_28 (l : Launch) : scm l vT vR vE 153 6051 vC_28 := scm_of (CS := [vC_11, vC_12, vC_13, vC_14, vC_15, vC_18, vC_22, vC_23, vC_24, vC_25, vC_26, vC_27]) (HN := []) (IT := []) (fu := 6000) vtab (smem1 (vc_11 l) (smem1 (vc_12 l) (smem1 (vc_13 l) (smem1 (vc_14 l) (smem1 (vc_15 l) (smem1 (vc_18 l) (smem1 (vc_22 l) (smem1 (vc_23 l) (smem1 (vc_24 l) (smem1 (vc_25 l) (smem1 (vc_26 l) (smem1 (vc_27 l) smem0)))))))))))) (by decide +kernel)
/-- Reader.takeToldName  -/
def vC_29 : SCt := (44, 7, 218, [.inr (.inr (7, 45)), .inl (0, 7)], [], [(45, 2, (0, 5))], [([(0, 7)], [(0, 5)], some (.inl (0, 7)), [(45, 2, (1, 5))], [], []), ([(0, 7)], [(0, 0)], some (.inl (0, 7)), [(45, 2, (0, 0))], [], [])], ([(45, 2, false), (45, 3, false), (45, 6, false), (45, 7, false), (45, 8, false), (45, 9, false)], []), [])
theorem vc_29 (l : Launch) : scm l vT vR vE 153 6051 vC_29 := scm_of (CS := [vC_11, vC_12]) (HN := []) (IT := []) (fu := 6000) vtab (smem1 (vc_11 l) (smem1 (vc_12 l) smem0)) (by decide +kernel)
/-- Realm.debtOf  -/
def vC_30 : SCt := (49, 0, 0, [.inr (.inr (8, 24)), .inl (0, 7)], [], [], [([(0, 7)], [], some (.inl (0, 5)), [], [], []), ([(0, 7)], [], some (.inl ((-1), (-1))), [], [], [])], ([], []), [])
theorem vc_30 (l : Launch) : scm l vT vR vE 153 6051 vC_30 := scm_of (CS := []) (HN := []) (IT := [((2, ([((0, 7), 0, 0), ((0, 6), 0, 0)], [], [sref 8 24, sint (1, 0), sint (2, 0)], [], ([], [])), 1, [(0, 2, 0)], [], 1, []), [])]) (fu := 6000) vtab smem0 (by decide +kernel)
/-- Realm.debtOf  -/
def vC_31 : SCt := (49, 0, 0, [.inr (.inr (8, 3)), .inl (0, 7)], [], [], [([(0, 7)], [], some (.inl (0, 5)), [], [], []), ([(0, 7)], [], some (.inl ((-1), (-1))), [], [], [])], ([], []), [])
theorem vc_31 (l : Launch) : scm l vT vR vE 153 6051 vC_31 := scm_of (CS := []) (HN := []) (IT := [((2, ([((0, 7), 0, 0), ((0, 6), 0, 0)], [], [sref 8 3, sint (1, 0), sint (2, 0)], [], ([], [])), 1, [(0, 2, 0)], [], 1, []), [])]) (fu := 6000) vtab smem0 (by decide +kernel)
/-- Reader.readDebt  -/
def vC_32 : SCt := (48, 8, 241, [.inr (.inr (7, 45))], [], [], [([], [], none, [], [], [])], ([(3, 14, false), (15, 0, true), (16, 0, true), (17, 0, true), (24, 14, false), (36, 0, true), (37, 0, true), (38, 0, true), (45, 2, false), (45, 3, false), (45, 6, false), (45, 7, false), (45, 8, false), (45, 9, false)], []), [])
theorem vc_32 (l : Launch) : scm l vT vR vE 153 6051 vC_32 := scm_of (CS := [vC_11, vC_12, vC_19, vC_24, vC_26, vC_27, vC_29, vC_30, vC_31]) (HN := []) (IT := []) (fu := 6000) vtab (smem1 (vc_11 l) (smem1 (vc_12 l) (smem1 (vc_19 l) (smem1 (vc_24 l) (smem1 (vc_26 l) (smem1 (vc_27 l) (smem1 (vc_29 l) (smem1 (vc_30 l) (smem1 (vc_31 l) smem0))))))))) (by decide +kernel)
/-- Reader.takeNumber  -/
def vC_33 : SCt := (42, 7, 218, [.inr (.inr (7, 45)), .inl (0, 0), .inl (8, 8)], [], [(45, 2, (0, 5))], [([(0, 0), (8, 8)], [(0, 5)], some (.inl sfull), [(45, 2, (1, 5))], [], []), ([(0, 0), (8, 8)], [(0, 5)], some (.inl (0, 2147483647)), [(45, 2, (1, 5))], [], []), ([(0, 0), (8, 8)], [(0, 0)], some (.inl (0, 8)), [(45, 2, (0, 0))], [], [])], ([(45, 2, false), (45, 3, false), (45, 6, false), (45, 7, false), (45, 8, false), (45, 9, false)], []), [])
theorem vc_33 (l : Launch) : scm l vT vR vE 153 6051 vC_33 := scm_of (CS := [vC_11, vC_12]) (HN := [(0, [(2, (0, 0, 0), [])])]) (IT := []) (fu := 6000) vtab (smem1 (vc_11 l) (smem1 (vc_12 l) smem0)) (by decide +kernel)
/-- Reader.readTear  -/
def vC_34 : SCt := (50, 8, 241, [.inr (.inr (7, 45))], [], [], [([], [], none, [], [], [])], ([(3, 18, false), (24, 18, false), (45, 2, false), (45, 3, false), (45, 6, false), (45, 7, false), (45, 8, false), (45, 9, false), (45, 10, false)], []), [])
theorem vc_34 (l : Launch) : scm l vT vR vE 153 6051 vC_34 := scm_of (CS := [vC_11, vC_12, vC_33]) (HN := []) (IT := []) (fu := 6000) vtab (smem1 (vc_11 l) (smem1 (vc_12 l) (smem1 (vc_33 l) smem0))) (by decide +kernel)
/-- Laws.isTold  -/
def vC_35 : SCt := (52, 0, 0, [.inr (.inr (4, 18)), .inl (0, 2)], [], [], [([(0, 2)], [], some (.inl (1, 1)), [], [], []), ([(0, 2)], [], some (.inl (0, 0)), [], [], [])], ([], []), [])
theorem vc_35 (l : Launch) : scm l vT vR vE 153 6051 vC_35 := scm_of (CS := []) (HN := [(20, [(0, (1, 0, 0), [])])]) (IT := []) (fu := 6000) vtab smem0 (by decide +kernel)
/-- Laws.isTold  -/
def vC_36 : SCt := (52, 0, 0, [.inr (.inr (4, 39)), .inl (0, 2)], [], [], [([(0, 2)], [], some (.inl (1, 1)), [], [], []), ([(0, 2)], [], some (.inl (0, 0)), [], [], [])], ([], []), [])
theorem vc_36 (l : Launch) : scm l vT vR vE 153 6051 vC_36 := scm_of (CS := []) (HN := [(20, [(0, (1, 0, 0), [])])]) (IT := []) (fu := 6000) vtab smem0 (by decide +kernel)
/-- Laws.begin  -/
def vC_37 : SCt := (53, 0, 0, [.inr (.inr (4, 18)), .inl (0, 2)], [], [], [([(0, 2)], [], none, [], [], [])], ([(21, 0, true), (22, 0, true)], []), [])
theorem vc_37 (l : Launch) : scm l vT vR vE 153 6051 vC_37 := scm_of (CS := []) (HN := []) (IT := []) (fu := 6000) vtab smem0 (by decide +kernel)
/-- Laws.begin  -/
def vC_38 : SCt := (53, 0, 0, [.inr (.inr (4, 39)), .inl (0, 2)], [], [], [([(0, 2)], [], none, [], [], [])], ([(42, 0, true), (43, 0, true)], []), [])
theorem vc_38 (l : Launch) : scm l vT vR vE 153 6051 vC_38 := scm_of (CS := []) (HN := []) (IT := []) (fu := 6000) vtab smem0 (by decide +kernel)
/-- Reader.pushSign  -/
def vC_39 : SCt := (55, 0, 0, [.inr (.inr (7, 45))], [], [], [([], [], none, [], [], [])], ([(45, 12, false), (47, 0, true)], []), [])
theorem vc_39 (l : Launch) : scm l vT vR vE 153 6051 vC_39 := scm_of (CS := []) (HN := []) (IT := []) (fu := 6000) vtab smem0 (by decide +kernel)
/-- Reader.levelOf  -/
def vC_40 : SCt := (58, 0, 0, [.inl (0, 39)], [], [], [([(7, 32)], [], some (.inl (2, 6)), [], [], []), ([(30, 30)], [], some (.inl (1, 1)), [], [], []), ([(0, 39)], [], some (.inl (0, 0)), [], [], [])], ([], []), [])
theorem vc_40 (l : Launch) : scm l vT vR vE 153 6051 vC_40 := scm_of (CS := []) (HN := []) (IT := []) (fu := 6000) vtab smem0 (by decide +kernel)
/-- Reader.topLevel  -/
def vC_41 : SCt := (57, 1, 20, [.inr (.inr (7, 45))], [], [], [([], [], some (.inl (0, 0)), [], [], []), ([], [], some (.inl (1, 1)), [], [], []), ([], [], some (.inl (2, 6)), [], [], [])], ([], []), [])
theorem vc_41 (l : Launch) : scm l vT vR vE 153 6051 vC_41 := scm_of (CS := [vC_40]) (HN := []) (IT := []) (fu := 6000) vtab (smem1 (vc_40 l) smem0) (by decide +kernel)
/-- Reader.mayNegate  -/
def vC_42 : SCt := (56, 2, 40, [.inr (.inr (7, 45))], [], [], [([], [], some (.inl (0, 0)), [], [], []), ([], [], some (.inl (1, 1)), [], [], [])], ([], []), [])
theorem vc_42 (l : Launch) : scm l vT vR vE 153 6051 vC_42 := scm_of (CS := [vC_40, vC_41]) (HN := [(17, [(0, (1, 0, 0), [])])]) (IT := []) (fu := 6000) vtab (smem1 (vc_40 l) (smem1 (vc_41 l) smem0)) (by decide +kernel)
/-- Reader.countKnot  -/
def vC_43 : SCt := (59, 1, 21, [.inr (.inr (7, 45))], [], [], [([], [], none, [], [], [])], ([(18, 6, false), (39, 6, false), (45, 2, false), (45, 3, false)], []), [])
theorem vc_43 (l : Launch) : scm l vT vR vE 153 6051 vC_43 := scm_of (CS := [vC_12]) (HN := []) (IT := []) (fu := 6000) vtab (smem1 (vc_12 l) smem0) (by decide +kernel)
/-- Laws.add  -/
def vC_44 : SCt := (60, 0, 0, [.inr (.inr (4, 18)), .inl (0, 39), .inl sfull], [], [], [([(0, 39), sfull], [], none, [], [], [])], ([(18, 5, false), (19, 0, true), (20, 0, true)], []), [])
theorem vc_44 (l : Launch) : scm l vT vR vE 153 6051 vC_44 := scm_of (CS := []) (HN := []) (IT := []) (fu := 6000) vtab smem0 (by decide +kernel)
/-- Laws.add  -/
def vC_45 : SCt := (60, 0, 0, [.inr (.inr (4, 39)), .inl (0, 39), .inl sfull], [], [], [([(0, 39), sfull], [], none, [], [], [])], ([(39, 5, false), (40, 0, true), (41, 0, true)], []), [])
theorem vc_45 (l : Launch) : scm l vT vR vE 153 6051 vC_45 := scm_of (CS := []) (HN := []) (IT := []) (fu := 6000) vtab smem0 (by decide +kernel)
/-- Reader.takePart  -/
def vC_46 : SCt := (54, 3, 60, [.inr (.inr (7, 45))], [], [], [([], [], some (.inl (1, 1)), [], [], []), ([], [], some (.inl (0, 0)), [], [], [])], ([(18, 5, false), (18, 6, false), (19, 0, true), (20, 0, true), (39, 5, false), (39, 6, false), (40, 0, true), (41, 0, true), (45, 2, false), (45, 3, false), (45, 12, false), (45, 13, false), (47, 0, true)], []), [])
theorem vc_46 (l : Launch) : scm l vT vR vE 153 6051 vC_46 := scm_of (CS := [vC_12, vC_39, vC_42, vC_43, vC_44, vC_45]) (HN := [(40, [(0, (1, 0, 0), [])]), (66, [(0, (1, 0, 0), [])]), (150, [(0, (1, 0, 0), [])])]) (IT := []) (fu := 6000) vtab (smem1 (vc_12 l) (smem1 (vc_39 l) (smem1 (vc_42 l) (smem1 (vc_43 l) (smem1 (vc_44 l) (smem1 (vc_45 l) smem0)))))) (by decide +kernel)
/-- Reader.putSignsAbove  -/
def vC_47 : SCt := (62, 1, 22, [.inr (.inr (7, 45)), .inl (0, 6)], [], [], [([(0, 6)], [], none, [], [], [])], ([(18, 5, false), (19, 0, true), (20, 0, true), (39, 5, false), (40, 0, true), (41, 0, true), (45, 12, false)], []), [])
theorem vc_47 (l : Launch) : scm l vT vR vE 153 6051 vC_47 := scm_of (CS := [vC_40, vC_44, vC_45]) (HN := []) (IT := [((7, ([((0, 6), 0, 0), (((-1), 71), 0, 0), ((0, 72), 0, 0)], [], [sref 7 45, sint (1, 0), sint (2, 0)], [], ([(45, 12, (3, 0))], [])), 1, [(0, 2, 0), (2, 45, 12)], [], 2, []), [])]) (fu := 6000) vtab (smem1 (vc_40 l) (smem1 (vc_44 l) (smem1 (vc_45 l) smem0))) (by decide +kernel)
/-- Reader.dropSign  -/
def vC_48 : SCt := (63, 0, 0, [.inr (.inr (7, 45))], [], [], [([], [], none, [], [], [])], ([(45, 12, false)], []), [])
theorem vc_48 (l : Launch) : scm l vT vR vE 153 6051 vC_48 := scm_of (CS := []) (HN := []) (IT := []) (fu := 6000) vtab smem0 (by decide +kernel)
/-- Reader.takeSign  -/
def vC_49 : SCt := (61, 2, 44, [.inr (.inr (7, 45))], [], [], [([], [], some (.inl (0, 0)), [], [], []), ([], [], some (.inl (1, 1)), [], [], [])], ([(18, 5, false), (18, 6, false), (19, 0, true), (20, 0, true), (39, 5, false), (39, 6, false), (40, 0, true), (41, 0, true), (45, 2, false), (45, 3, false), (45, 12, false), (45, 13, false), (47, 0, true)], []), [])
theorem vc_49 (l : Launch) : scm l vT vR vE 153 6051 vC_49 := scm_of (CS := [vC_12, vC_39, vC_40, vC_41, vC_43, vC_47, vC_48]) (HN := [(36, [(0, (1, 0, 0), [])]), (64, [(0, (1, 0, 0), [])]), (93, [(0, (1, 0, 0), [])]), (110, [(0, (1, 0, 0), [])])]) (IT := []) (fu := 6000) vtab (smem1 (vc_12 l) (smem1 (vc_39 l) (smem1 (vc_40 l) (smem1 (vc_41 l) (smem1 (vc_43 l) (smem1 (vc_47 l) (smem1 (vc_48 l) smem0))))))) (by decide +kernel)
/-- Laws.end  -/
def vC_50 : SCt := (64, 0, 0, [.inr (.inr (4, 18)), .inl (0, 2)], [], [], [([(0, 2)], [], none, [], [], [])], ([(22, 0, true)], []), [])
theorem vc_50 (l : Launch) : scm l vT vR vE 153 6051 vC_50 := scm_of (CS := []) (HN := []) (IT := []) (fu := 6000) vtab smem0 (by decide +kernel)
/-- Laws.end  -/
def vC_51 : SCt := (64, 0, 0, [.inr (.inr (4, 39)), .inl (0, 2)], [], [], [([(0, 2)], [], none, [], [], [])], ([(43, 0, true)], []), [])
theorem vc_51 (l : Launch) : scm l vT vR vE 153 6051 vC_51 := scm_of (CS := []) (HN := []) (IT := []) (fu := 6000) vtab smem0 (by decide +kernel)
/-- Reader.readLaw  -/
def vC_52 : SCt := (51, 7, 218, [.inr (.inr (7, 45))], [], [], [([], [], none, [], [], [])], ([(18, 5, false), (18, 6, false), (19, 0, true), (20, 0, true), (21, 0, true), (22, 0, true), (39, 5, false), (39, 6, false), (40, 0, true), (41, 0, true), (42, 0, true), (43, 0, true), (45, 2, false), (45, 3, false), (45, 6, false), (45, 7, false), (45, 8, false), (45, 9, false), (45, 12, false), (45, 13, false), (47, 0, true)], []), [])
theorem vc_52 (l : Launch) : scm l vT vR vE 153 6051 vC_52 := scm_of (CS := [vC_11, vC_12, vC_35, vC_36, vC_37, vC_38, vC_46, vC_47, vC_49, vC_50, vC_51]) (HN := []) (IT := [((85, ([((0, 701), 0, 0), ((0, 2), 0, 0), ((0, 1), 0, 0)], [], [sref 7 45, sint (2, 0), sint (3, 0), sint (1, 0)], [], ([], [])), 0, [(0, 3, 0), (0, 1, 0), (0, 2, 0)], [], 1, []), [])]) (fu := 6000) vtab (smem1 (vc_11 l) (smem1 (vc_12 l) (smem1 (vc_35 l) (smem1 (vc_36 l) (smem1 (vc_37 l) (smem1 (vc_38 l) (smem1 (vc_46 l) (smem1 (vc_47 l) (smem1 (vc_49 l) (smem1 (vc_50 l) (smem1 (vc_51 l) smem0))))))))))) (by decide +kernel)
/-- Reader.read  -/
def vC_53 : SCt := (16, 9, 284, [.inr (.inr (7, 45)), .inl (0, 700), .inr (.inr (8, 24))], [], [], [([(0, 700)], [], some (.inl ((-1), (-1))), [(45, 1, (0, 0))], [], []), ([(0, 700)], [], some (.inl (0, 700)), [(45, 1, (0, 0))], [], [])], ([(3, 0, false), (3, 5, false), (3, 9, false), (3, 14, false), (3, 18, false), (4, 0, true), (5, 0, true), (6, 0, true), (7, 0, true), (8, 0, true), (9, 0, true), (10, 0, true), (11, 0, true), (12, 0, true), (13, 0, true), (14, 0, true), (15, 0, true), (16, 0, true), (17, 0, true), (18, 5, false), (18, 6, false), (19, 0, true), (20, 0, true), (21, 0, true), (22, 0, true), (24, 0, false), (24, 5, false), (24, 9, false), (24, 14, false), (24, 18, false), (25, 0, true), (26, 0, true), (27, 0, true), (28, 0, true), (29, 0, true), (30, 0, true), (31, 0, true), (32, 0, true), (33, 0, true), (34, 0, true), (35, 0, true), (36, 0, true), (37, 0, true), (38, 0, true), (39, 5, false), (39, 6, false), (40, 0, true), (41, 0, true), (42, 0, true), (43, 0, true), (45, 1, false), (45, 2, false), (45, 3, false), (45, 5, false), (45, 6, false), (45, 7, false), (45, 8, false), (45, 9, false), (45, 10, false), (45, 12, false), (45, 13, false), (47, 0, true)], [(45, 4)]), [])
theorem vc_53 (l : Launch) : scm l vT vR vE 153 6051 vC_53 := scm_of (CS := [vC_3, vC_11, vC_12, vC_20, vC_21, vC_28, vC_32, vC_34, vC_52]) (HN := []) (IT := [((48, ([((0, 700), 0, 0), ((0, 700), 0, 0), ((0, 0), 0, 0)], [], [sref 7 45, sint (1, 0), sref 8 24, sint (2, 0)], [], ([(45, 1, (0, 0)), (45, 2, (3, 0)), (45, 5, (1, 0))], [(45, 4, 24)])), 1, [(0, 3, 0), (2, 45, 2)], [], 1, []), [])]) (fu := 6000) vtab (smem1 (vc_3 l) (smem1 (vc_11 l) (smem1 (vc_12 l) (smem1 (vc_20 l) (smem1 (vc_21 l) (smem1 (vc_28 l) (smem1 (vc_32 l) (smem1 (vc_34 l) (smem1 (vc_52 l) smem0))))))))) (by decide +kernel)
/-- Reader.read  -/
def vC_55 : SCt := (16, 9, 284, [.inr (.inr (7, 45)), .inl (0, 700), .inr (.inr (8, 3))], [], [], [([(0, 700)], [], some (.inl ((-1), (-1))), [(45, 1, (0, 0))], [], []), ([(0, 700)], [], some (.inl (0, 700)), [(45, 1, (0, 0))], [], [])], ([(3, 0, false), (3, 5, false), (3, 9, false), (3, 14, false), (3, 18, false), (4, 0, true), (5, 0, true), (6, 0, true), (7, 0, true), (8, 0, true), (9, 0, true), (10, 0, true), (11, 0, true), (12, 0, true), (13, 0, true), (14, 0, true), (15, 0, true), (16, 0, true), (17, 0, true), (18, 5, false), (18, 6, false), (19, 0, true), (20, 0, true), (21, 0, true), (22, 0, true), (24, 0, false), (24, 5, false), (24, 9, false), (24, 14, false), (24, 18, false), (25, 0, true), (26, 0, true), (27, 0, true), (28, 0, true), (29, 0, true), (30, 0, true), (31, 0, true), (32, 0, true), (33, 0, true), (34, 0, true), (35, 0, true), (36, 0, true), (37, 0, true), (38, 0, true), (39, 5, false), (39, 6, false), (40, 0, true), (41, 0, true), (42, 0, true), (43, 0, true), (45, 1, false), (45, 2, false), (45, 3, false), (45, 5, false), (45, 6, false), (45, 7, false), (45, 8, false), (45, 9, false), (45, 10, false), (45, 12, false), (45, 13, false), (47, 0, true)], [(45, 4)]), [])
theorem vc_55 (l : Launch) : scm l vT vR vE 153 6051 vC_55 := scm_of (CS := [vC_11, vC_12, vC_20, vC_21, vC_28, vC_32, vC_34, vC_52, vC_54]) (HN := []) (IT := [((48, ([((0, 700), 0, 0), ((0, 700), 0, 0), ((0, 0), 0, 0)], [], [sref 7 45, sint (1, 0), sref 8 3, sint (2, 0)], [], ([(45, 1, (0, 0)), (45, 2, (3, 0)), (45, 5, (1, 0))], [(45, 4, 3)])), 1, [(0, 3, 0), (2, 45, 2)], [], 1, []), [])]) (fu := 6000) vtab (smem1 (vc_11 l) (smem1 (vc_12 l) (smem1 (vc_20 l) (smem1 (vc_21 l) (smem1 (vc_28 l) (smem1 (vc_32 l) (smem1 (vc_34 l) (smem1 (vc_52 l) (smem1 (vc_54 l) smem0))))))))) (by decide +kernel)
/-- java/util/Arrays.fill  -/
def vC_56 : SCt := (5, 0, 0, [.inr (.inr (10006, 50)), .inl (0, 0)], [], [], [([(0, 0)], [], none, [], [], [])], ([(50, 0, true)], []), [])
theorem vc_56 (l : Launch) : scm l vT vR vE 153 6051 vC_56 := scm_of (CS := []) (HN := [(0, [(2, (0, 0, 0), [])])]) (IT := [((5, ([((0, 0), 0, 0), ((0, 6), 0, 0)], [], [sref 10006 50, sint (0, 0), sint (2, 0), sint (0, 6)], [], ([], [])), 1, [(0, 2, 0)], [], 1, []), [])]) (fu := 6000) vtab smem0 (by decide +kernel)
/-- java/util/Arrays.fill  -/
def vC_57 : SCt := (5, 0, 0, [.inr (.inr (10006, 56)), .inl (0, 0)], [], [], [([(0, 0)], [], none, [], [], [])], ([(56, 0, true)], []), [])
theorem vc_57 (l : Launch) : scm l vT vR vE 153 6051 vC_57 := scm_of (CS := []) (HN := [(0, [(2, (0, 0, 0), [])])]) (IT := [((5, ([((0, 0), 0, 0), ((0, 6), 0, 0)], [], [sref 10006 56, sint (0, 0), sint (2, 0), sint (0, 6)], [], ([], [])), 1, [(0, 2, 0)], [], 1, []), [])]) (fu := 6000) vtab smem0 (by decide +kernel)
/-- java/util/Arrays.fill  -/
def vC_58 : SCt := (5, 0, 0, [.inr (.inr (10008, 53)), .inl (2, 2)], [], [], [([(2, 2)], [], none, [], [], [])], ([(53, 0, true)], []), [])
theorem vc_58 (l : Launch) : scm l vT vR vE 153 6051 vC_58 := scm_of (CS := []) (HN := [(0, [(2, (0, 0, 0), [])])]) (IT := [((5, ([((2, 2), 0, 0), ((0, 8), 0, 0)], [], [sref 10008 53, sint (0, 2), sint (2, 0), sint (0, 8)], [], ([], [])), 1, [(0, 2, 0)], [], 1, []), [])]) (fu := 6000) vtab smem0 (by decide +kernel)
/-- java/util/Arrays.fill  -/
def vC_59 : SCt := (5, 0, 0, [.inr (.inr (10008, 54)), .inl (0, 0)], [], [], [([(0, 0)], [], none, [], [], [])], ([(54, 0, true)], []), [])
theorem vc_59 (l : Launch) : scm l vT vR vE 153 6051 vC_59 := scm_of (CS := []) (HN := [(0, [(2, (0, 0, 0), [])])]) (IT := [((5, ([((0, 0), 0, 0), ((0, 8), 0, 0)], [], [sref 10008 54, sint (0, 0), sint (2, 0), sint (0, 8)], [], ([], [])), 1, [(0, 2, 0)], [], 1, []), [])]) (fu := 6000) vtab smem0 (by decide +kernel)
/-- java/util/Arrays.fill  -/
def vC_60 : SCt := (5, 0, 0, [.inr (.inr (10006, 55)), .inl (0, 0)], [], [], [([(0, 0)], [], none, [], [], [])], ([(55, 0, true)], []), [])
theorem vc_60 (l : Launch) : scm l vT vR vE 153 6051 vC_60 := scm_of (CS := []) (HN := [(0, [(2, (0, 0, 0), [])])]) (IT := [((5, ([((0, 0), 0, 0), ((0, 6), 0, 0)], [], [sref 10006 55, sint (0, 0), sint (2, 0), sint (0, 6)], [], ([], [])), 1, [(0, 2, 0)], [], 1, []), [])]) (fu := 6000) vtab smem0 (by decide +kernel)
/-- World.tearJoins  -/
def vC_61 : SCt := (66, 1, 23, [.inr (.inr (11, 48))], [], [], [([], [], none, [], [], [])], ([(51, 0, true), (55, 0, true)], []), [])
theorem vc_61 (l : Launch) : scm l vT vR vE 153 6051 vC_61 := scm_of (CS := [vC_60]) (HN := []) (IT := [((31, ([((0, 9), 0, 0), (sfull, 0, 0), (((-1), 4), 0, 0)], [], [sref 11 48, sint (2, 0), sint (1, 0), sany, sany], [], ([(48, 10, (3, 0))], [(48, 8, 55)])), 0, [(0, 2, 0), (0, 1, 0), (2, 48, 10)], [], 1, []), [])]) (fu := 6000) vtab (smem1 (vc_60 l) smem0) (by decide +kernel)
/-- World.start  -/
def vC_62 : SCt := (65, 2, 47, [.inr (.inr (11, 48)), .inr (.inr (8, 24))], [], [], [([], [], none, [], [], [])], ([(48, 7, false), (48, 10, false), (49, 0, true), (50, 0, true), (51, 0, true), (52, 0, true), (53, 0, true), (54, 0, true), (55, 0, true), (56, 0, true)], [(48, 0)]), [])
theorem vc_62 (l : Launch) : scm l vT vR vE 153 6051 vC_62 := scm_of (CS := [vC_56, vC_57, vC_58, vC_59, vC_61]) (HN := []) (IT := [((69, ([((0, 8), 0, 0)], [], [sref 11 48, sref 8 24, sint (1, 0)], [], ([], [(48, 9, 56), (48, 5, 53), (48, 6, 54), (48, 2, 50), (48, 4, 52), (24, 11, 33), (48, 1, 49), (24, 2, 26), (48, 0, 24)])), 0, [(0, 2, 0)], [], 1, []), [])]) (fu := 6000) vtab (smem1 (vc_56 l) (smem1 (vc_57 l) (smem1 (vc_58 l) (smem1 (vc_59 l) (smem1 (vc_61 l) smem0))))) (by decide +kernel)
/-- World.start  -/
def vC_63 : SCt := (65, 2, 47, [.inr (.inr (11, 48)), .inr (.inr (8, 3))], [], [], [([], [], none, [], [], [])], ([(48, 7, false), (48, 10, false), (49, 0, true), (50, 0, true), (51, 0, true), (52, 0, true), (53, 0, true), (54, 0, true), (55, 0, true), (56, 0, true)], [(48, 0)]), [])
theorem vc_63 (l : Launch) : scm l vT vR vE 153 6051 vC_63 := scm_of (CS := [vC_56, vC_57, vC_58, vC_59, vC_61]) (HN := []) (IT := [((69, ([((0, 8), 0, 0)], [], [sref 11 48, sref 8 3, sint (1, 0)], [], ([], [(48, 9, 56), (48, 5, 53), (48, 6, 54), (48, 2, 50), (48, 4, 52), (3, 11, 12), (48, 1, 49), (3, 2, 5), (48, 0, 3)])), 0, [(0, 2, 0)], [], 1, []), [])]) (fu := 6000) vtab (smem1 (vc_56 l) (smem1 (vc_57 l) (smem1 (vc_58 l) (smem1 (vc_59 l) (smem1 (vc_61 l) smem0))))) (by decide +kernel)
/-- Past.clear  -/
def vC_64 : SCt := (67, 0, 0, [.inr (.inr (6, 81))], [], [], [([], [], none, [], [], [])], ([(81, 0, false)], []), [])
theorem vc_64 (l : Launch) : scm l vT vR vE 153 6051 vC_64 := scm_of (CS := []) (HN := []) (IT := []) (fu := 6000) vtab smem0 (by decide +kernel)
/-- Stones.clear  -/
def vC_65 : SCt := (68, 0, 0, [.inr (.inr (9, 85))], [], [], [([], [], none, [], [], [])], ([(85, 0, false), (85, 1, false)], []), [])
theorem vc_65 (l : Launch) : scm l vT vR vE 153 6051 vC_65 := scm_of (CS := []) (HN := []) (IT := []) (fu := 6000) vtab smem0 (by decide +kernel)
/-- SV.text  -/
def vC_66 : SCt := (15, 10, 307, [.inr (.inr (12, 2)), .inl sfull], [], [(45, 1, (0, 700))], [([(1, 2147483647)], [(0, 700)], some (.inl ((-2), (-2))), [(45, 1, (0, 700))], [], [(1, 0, 1)]), ([(0, 700)], [(0, 700)], some (.inl (0, 700)), [(45, 1, (0, 0))], [], [(0, 1, 0)]), ([(0, 700)], [(0, 700)], some (.inl ((-1), (-1))), [(45, 1, (0, 0))], [], [(0, 1, 0)]), ([((-2147483648), (-1))], [(0, 700)], some (.inl ((-2), (-2))), [(45, 1, (0, 700))], [], [])], ([(2, 6, false), (3, 0, false), (3, 5, false), (3, 9, false), (3, 14, false), (3, 18, false), (4, 0, true), (5, 0, true), (6, 0, true), (7, 0, true), (8, 0, true), (9, 0, true), (10, 0, true), (11, 0, true), (12, 0, true), (13, 0, true), (14, 0, true), (15, 0, true), (16, 0, true), (17, 0, true), (18, 5, false), (18, 6, false), (19, 0, true), (20, 0, true), (21, 0, true), (22, 0, true), (24, 0, false), (24, 5, false), (24, 9, false), (24, 14, false), (24, 18, false), (25, 0, true), (26, 0, true), (27, 0, true), (28, 0, true), (29, 0, true), (30, 0, true), (31, 0, true), (32, 0, true), (33, 0, true), (34, 0, true), (35, 0, true), (36, 0, true), (37, 0, true), (38, 0, true), (39, 5, false), (39, 6, false), (40, 0, true), (41, 0, true), (42, 0, true), (43, 0, true), (45, 1, false), (45, 2, false), (45, 3, false), (45, 5, false), (45, 6, false), (45, 7, false), (45, 8, false), (45, 9, false), (45, 10, false), (45, 12, false), (45, 13, false), (47, 0, true), (48, 7, false), (48, 10, false), (49, 0, true), (50, 0, true), (51, 0, true), (52, 0, true), (53, 0, true), (54, 0, true), (55, 0, true), (56, 0, true), (81, 0, false), (85, 0, false), (85, 1, false)], [(2, 1), (2, 2), (45, 4), (48, 0)]), [])
theorem vc_66 (l : Launch) : scm l vT vR vE 153 6051 vC_66 := scm_of (CS := [vC_53, vC_55, vC_62, vC_63, vC_64, vC_65]) (HN := [(0, [(5, (2, 45, 1), [])])]) (IT := []) (fu := 6000) vtab (smem1 (vc_53 l) (smem1 (vc_55 l) (smem1 (vc_62 l) (smem1 (vc_63 l) (smem1 (vc_64 l) (smem1 (vc_65 l) smem0)))))) (by decide +kernel)
/-- SV.fault  -/
def vC_68 : SCt := (69, 0, 0, [.inr (.inr (12, 2)), .inl sfull], [], [], [([(1, 1)], [], some (.inl ((-1), 700)), [], [], []), ([(0, 0)], [], some (.inl (0, 5)), [], [], []), ([sfull], [], some (.inl ((-1), (-1))), [], [], [])], ([], []), [])
theorem vc_68 (l : Launch) : scm l vT vR vE 153 6051 vC_68 := scm_of (CS := []) (HN := []) (IT := []) (fu := 6000) vtab smem0 (by decide +kernel)
/-- Mo.fault  -/
def vC_69 : SCt := (211, 0, 0, [.inr (.inr (13, 104)), .inl sfull], [], [], [([(0, 0)], [], some (.inl (0, 5)), [], [], []), ([(1, 1)], [], some (.inl ((-1), 700)), [], [], []), ([sfull], [], some (.inl ((-1), (-1))), [], [], [])], ([(104, 2, false)], []), [])
theorem vc_69 (l : Launch) : scm l vT vR vE 153 6051 vC_69 := scm_of (CS := []) (HN := []) (IT := []) (fu := 6000) vtab smem0 (by decide +kernel)
/-- SV.named  -/
def vC_70 : SCt := (70, 1, 22, [.inr (.inr (12, 2)), .inl sfull, .inl sfull], [], [], [([sfull, sfull], [], some (.inl ((-1), (-1))), [], [], []), ([(0, 1), sfull], [], some (.inl (0, 7)), [], [], [])], ([], []), [])
theorem vc_70 (l : Launch) : scm l vT vR vE 153 6051 vC_70 := scm_of (CS := [vC_13, vC_14, vC_26, vC_27]) (HN := []) (IT := []) (fu := 6000) vtab (smem1 (vc_13 l) (smem1 (vc_14 l) (smem1 (vc_26 l) (smem1 (vc_27 l) smem0)))) (by decide +kernel)
/-- Mo.find  -/
def vC_71 : SCt := (190, 0, 0, [.inr (.inr (10012, 109)), .inl (0, 0), .inl (0, 6), .inl sfull], [], [], [([(0, 0), (1, 6), sfull], [], some (.inl (0, 5)), [], [], []), ([(0, 0), (0, 6), sfull], [], some (.inl ((-1), (-1))), [], [], [])], ([], []), [])
theorem vc_71 (l : Launch) : scm l vT vR vE 153 6051 vC_71 := scm_of (CS := []) (HN := [(0, [(2, (0, 0, 0), [])])]) (IT := [((3, ([((0, 0), 0, 0), ((0, 6), 0, 0), (sfull, 0, 0), ((0, 6), 0, 0)], [], [sref 10012 109, sint (0, 0), sint (2, 0), sint (3, 0), sint (4, 0)], [], ([], [])), 3, [(0, 4, 0)], [], 1, []), [])]) (fu := 6000) vtab smem0 (by decide +kernel)
/-- Mo.find  -/
def vC_72 : SCt := (190, 0, 0, [.inr (.inr (10016, 116)), .inl (0, 0), .inl (0, 8), .inl sfull], [], [], [([(0, 0), (1, 8), sfull], [], some (.inl (0, 7)), [], [], []), ([(0, 0), (0, 8), sfull], [], some (.inl ((-1), (-1))), [], [], [])], ([], []), [])
theorem vc_72 (l : Launch) : scm l vT vR vE 153 6051 vC_72 := scm_of (CS := []) (HN := [(0, [(2, (0, 0, 0), [])])]) (IT := [((3, ([((0, 0), 0, 0), ((0, 8), 0, 0), (sfull, 0, 0), ((0, 8), 0, 0)], [], [sref 10016 116, sint (0, 0), sint (2, 0), sint (3, 0), sint (4, 0)], [], ([], [])), 3, [(0, 4, 0)], [], 1, []), [])]) (fu := 6000) vtab smem0 (by decide +kernel)
/-- Mo.named  -/
def vC_73 : SCt := (212, 1, 24, [.inr (.inr (13, 104)), .inl sfull, .inl sfull], [], [], [([sfull, sfull], [], some (.inl ((-1), (-1))), [], [], []), ([(0, 1), sfull], [], some (.inl (0, 7)), [], [], [])], ([(104, 2, false)], []), [])
theorem vc_73 (l : Launch) : scm l vT vR vE 153 6051 vC_73 := scm_of (CS := [vC_71, vC_72]) (HN := []) (IT := []) (fu := 6000) vtab (smem1 (vc_71 l) (smem1 (vc_72 l) smem0)) (by decide +kernel)
/-- Mo.plainTried  -/
def vC_74 : SCt := (177, 0, 0, [.inr (.inr (13, 104))], [], [], [([], [], none, [], [], [])], ([(104, 63, false), (104, 64, false)], []), [])
theorem vc_74 (l : Launch) : scm l vT vR vE 153 6051 vC_74 := scm_of (CS := []) (HN := []) (IT := []) (fu := 6000) vtab smem0 (by decide +kernel)
/-- Mo.isPerson  -/
def vC_75 : SCt := (214, 0, 0, [.inr (.inr (13, 104)), .inl sfull], [], [], [([(0, 7)], [], some (.inl (1, 1)), [], [], []), ([sfull], [], some (.inl (0, 0)), [], [], [])], ([], []), [])
theorem vc_75 (l : Launch) : scm l vT vR vE 153 6051 vC_75 := scm_of (CS := []) (HN := [(17, [(0, (1, 0, 0), [])])]) (IT := []) (fu := 6000) vtab smem0 (by decide +kernel)
/-- Mo.fails  -/
def vC_76 : SCt := (215, 0, 0, [.inr (.inr (13, 104)), .inl (1, 2)], [], [], [([(1, 2)], [], some (.inl (0, 0)), [], [], [])], ([(104, 2, false)], []), [])
theorem vc_76 (l : Launch) : scm l vT vR vE 153 6051 vC_76 := scm_of (CS := []) (HN := []) (IT := []) (fu := 6000) vtab smem0 (by decide +kernel)
/-- Mo.crowdIn  -/
def vC_77 : SCt := (220, 0, 0, [.inr (.inr (13, 104)), .inl (0, 1), .inl (0, 5)], [], [], [([(0, 1), (0, 5)], [], some (.inl sfull), [], [], [])], ([], []), [])
theorem vc_77 (l : Launch) : scm l vT vR vE 153 6051 vC_77 := scm_of (CS := []) (HN := []) (IT := [((5, ([((0, 1), 0, 0), ((0, 5), 0, 0), ((0, 8), 0, 0), (sfull, 0, 0)], [], [sref 13 104, sint (1, 0), sint (2, 0), sint (4, 0), sint (3, 0)], [], ([], [])), 2, [(0, 4, 0), (0, 3, 0)], [], 1, []), [])]) (fu := 6000) vtab smem0 (by decide +kernel)
/-- Mo.gapOf  -/
def vC_78 : SCt := (223, 0, 0, [.inr (.inr (13, 104)), .inl (0, 1), .inl (0, 8)], [], [], [([(0, 1), (0, 8)], [], some (.inl (0, 11)), [], [], [])], ([], []), [])
theorem vc_78 (l : Launch) : scm l vT vR vE 153 6051 vC_78 := scm_of (CS := []) (HN := []) (IT := []) (fu := 6000) vtab smem0 (by decide +kernel)
/-- Mo.isTorn  -/
def vC_79 : SCt := (222, 1, 23, [.inr (.inr (13, 104)), .inl (0, 1), .inl (0, 8)], [], [], [([(0, 1), (0, 8)], [], some (.inl (1, 1)), [], [], []), ([(0, 1), (0, 8)], [], some (.inl (0, 0)), [], [], [])], ([], []), [])
theorem vc_79 (l : Launch) : scm l vT vR vE 153 6051 vC_79 := scm_of (CS := [vC_78]) (HN := [(33, [(0, (1, 0, 0), [])])]) (IT := []) (fu := 6000) vtab (smem1 (vc_78 l) smem0) (by decide +kernel)
/-- Mo.tornOf  -/
def vC_80 : SCt := (221, 2, 45, [.inr (.inr (13, 104)), .inl (0, 1), .inl (0, 5)], [], [], [([(0, 1), (0, 5)], [], some (.inl sfull), [], [], [])], ([], []), [])
theorem vc_80 (l : Launch) : scm l vT vR vE 153 6051 vC_80 := scm_of (CS := [vC_79]) (HN := []) (IT := [((5, ([((0, 1), 0, 0), ((0, 5), 0, 0), ((0, 9), 0, 0), (sfull, 0, 0)], [], [sref 13 104, sint (1, 0), sint (2, 0), sint (4, 0), sint (3, 0)], [], ([], [])), 2, [(0, 4, 0), (0, 3, 0)], [], 1, []), [])]) (fu := 6000) vtab (smem1 (vc_79 l) smem0) (by decide +kernel)
/-- Mo.layNames  -/
def vC_81 : SCt := (219, 3, 69, [.inr (.inr (13, 104)), .inl (0, 1), .inl (0, 5), .inl ((-1), 10), .inl (0, 9), .inl (0, 99), .inl (0, 9)], [], [], [([(0, 1), (0, 5), ((-1), 10), (0, 9), (0, 99), (0, 9)], [], none, [], [], [])], ([], []), [])
theorem vc_81 (l : Launch) : scm l vT vR vE 153 6051 vC_81 := scm_of (CS := [vC_77, vC_80]) (HN := []) (IT := []) (fu := 6000) vtab (smem1 (vc_77 l) (smem1 (vc_80 l) smem0)) (by decide +kernel)
/-- Mo.gainIn  -/
def vC_84 : SCt := (218, 5, 146, [.inr (.inr (13, 104)), .inl (0, 1), .inl (0, 7), .inl (0, 5), .inl ((-1), 10)], [], [], [([(0, 1), (0, 7), (0, 5), ((-1), 10)], [], some (.inl ((-99), 99)), [], [], [])], ([(104, 54, false)], []), [])
theorem vc_84 (l : Launch) : scm l vT vR vE 153 6051 vC_84 := scm_of (CS := [vC_81, vC_82, vC_83]) (HN := []) (IT := []) (fu := 6000) vtab (smem1 (vc_81 l) (smem1 (vc_82 l) (smem1 (vc_83 l) smem0))) (by decide +kernel)
/-- Mo.gainBy  -/
def vC_85 : SCt := (217, 6, 171, [.inr (.inr (13, 104)), .inl (0, 1), .inl (0, 7), .inl ((-1), 10)], [], [], [([(0, 1), (0, 7), ((-1), 10)], [], some (.inl ((-99), 99)), [], [], [])], ([(104, 54, false)], []), [])
theorem vc_85 (l : Launch) : scm l vT vR vE 153 6051 vC_85 := scm_of (CS := [vC_84]) (HN := []) (IT := []) (fu := 6000) vtab (smem1 (vc_84 l) smem0) (by decide +kernel)
/-- Mo.voteBy  -/
def vC_86 : SCt := (216, 7, 194, [.inr (.inr (13, 104)), .inl (0, 1), .inl (0, 7)], [], [], [([(0, 1), (0, 7)], [], some (.inl (0, 0)), [], [], []), ([(0, 1), (0, 7)], [], some (.inl ((-2), 1)), [], [], []), ([(0, 1), (0, 7)], [], some (.inl (1, 1)), [], [], []), ([(0, 1), (0, 7)], [], some (.inl ((-1), (-1))), [], [], [])], ([(104, 54, false)], []), [])
theorem vc_86 (l : Launch) : scm l vT vR vE 153 6051 vC_86 := scm_of (CS := [vC_85]) (HN := []) (IT := []) (fu := 6000) vtab (smem1 (vc_85 l) smem0) (by decide +kernel)
/-- Mo.person  -/
def vC_87 : SCt := (213, 8, 218, [.inr (.inr (13, 104)), .inl sfull, .inl sfull], [], [], [([sfull, sfull], [], some (.inl (0, 0)), [], [], []), ([(0, 7), (3, 5)], [], some (.inl (1, 1)), [], [], []), ([(0, 7), (3, 4)], [], some (.inl sfull), [], [], []), ([(0, 7), (3, 3)], [], some (.inl ((-1), (-1))), [], [], []), ([(0, 7), (0, 2)], [], some (.inl (0, 9)), [], [], [])], ([(104, 2, false), (104, 54, false), (104, 63, false), (104, 64, false)], []), [])
theorem vc_87 (l : Launch) : scm l vT vR vE 153 6051 vC_87 := scm_of (CS := [vC_74, vC_75, vC_76, vC_86]) (HN := []) (IT := []) (fu := 6000) vtab (smem1 (vc_74 l) (smem1 (vc_75 l) (smem1 (vc_76 l) (smem1 (vc_86 l) smem0)))) (by decide +kernel)
/-- SV.isRegion  -/
def vC_88 : SCt := (72, 0, 0, [.inr (.inr (12, 2)), .inl sfull], [], [], [([(0, 5)], [], some (.inl (1, 1)), [], [], []), ([sfull], [], some (.inl (0, 0)), [], [], [])], ([], []), [])
theorem vc_88 (l : Launch) : scm l vT vR vE 153 6051 vC_88 := scm_of (CS := []) (HN := [(20, [(0, (1, 0, 0), [])])]) (IT := []) (fu := 6000) vtab smem0 (by decide +kernel)
/-- World.weightOf  -/
def vC_89 : SCt := (74, 0, 0, [.inr (.inr (11, 48)), .inl (0, 7)], [], [], [([(0, 7)], [], some (.inl (1, 1)), [], [], []), ([(0, 7)], [], some (.inl (0, 3)), [], [], [])], ([], []), [])
theorem vc_89 (l : Launch) : scm l vT vR vE 153 6051 vC_89 := scm_of (CS := []) (HN := []) (IT := []) (fu := 6000) vtab smem0 (by decide +kernel)
/-- World.nameRegion  -/
def vC_90 : SCt := (77, 0, 0, [.inr (.inr (11, 48)), .inl (0, 5), .inl (0, 9), .inl sfull], [], [], [([(0, 5), (0, 9), sfull], [], none, [], [], [])], ([], []), [])
theorem vc_90 (l : Launch) : scm l vT vR vE 153 6051 vC_90 := scm_of (CS := []) (HN := []) (IT := []) (fu := 6000) vtab smem0 (by decide +kernel)
/-- Laws.joined  -/
def vC_91 : SCt := (79, 1, 21, [.inl (0, 31), .inr (.inl false), .inr (.inl false)], [], [], [([(0, 31)], [], some (.inr true), [], [], [])], ([], []), [])
theorem vc_91 (l : Launch) : scm l vT vR vE 153 6051 vC_91 := scm_of (CS := []) (HN := []) (IT := []) (fu := 6000) vtab smem0 (by decide +kernel)
/-- Laws.work  -/
def vC_92 : SCt := (78, 2, 45, [.inr (.inr (4, 18)), .inl (0, 2), .inr (.inr (40007, 58))], [], [], [([(0, 2)], [], some (.inr true), [], [], [])], ([], []), [])
theorem vc_92 (l : Launch) : scm l vT vR vE 153 6051 vC_92 := scm_of (CS := [vC_91]) (HN := []) (IT := [((10, ([((0, 2), 0, 0), ((0, 64), 0, 0), ((0, 64), 0, 0)], [], [sref 4 18, sint (1, 0), sref 40007 58, sint (3, 0), sint (2, 0), sany, sany, sun], [], ([], [(18, 2, 21)])), 1, [(0, 4, 0), (0, 3, 0)], [], 1, []), [])]) (fu := 6000) vtab (smem1 (vc_91 l) smem0) (by decide +kernel)
/-- Laws.work  -/
def vC_93 : SCt := (78, 2, 45, [.inr (.inr (4, 39)), .inl (0, 2), .inr (.inr (40007, 58))], [], [], [([(0, 2)], [], some (.inr true), [], [], [])], ([], []), [])
theorem vc_93 (l : Launch) : scm l vT vR vE 153 6051 vC_93 := scm_of (CS := [vC_91]) (HN := []) (IT := [((10, ([((0, 2), 0, 0), ((0, 64), 0, 0), ((0, 64), 0, 0)], [], [sref 4 39, sint (1, 0), sref 40007 58, sint (3, 0), sint (2, 0), sany, sany, sun], [], ([], [(39, 2, 42)])), 1, [(0, 4, 0), (0, 3, 0)], [], 1, []), [])]) (fu := 6000) vtab (smem1 (vc_91 l) smem0) (by decide +kernel)
/-- World.gainOf  -/
def vC_95 : SCt := (76, 3, 72, [.inr (.inr (11, 48)), .inl (0, 7), .inl (0, 5), .inl (0, 9)], [], [], [([(0, 7), (0, 5), (0, 9)], [], some (.inl (0, 9)), [], [], []), ([(0, 7), (0, 5), (0, 9)], [], some (.inl ((-99), 99)), [], [], [])], ([], []), [])
theorem vc_95 (l : Launch) : scm l vT vR vE 153 6051 vC_95 := scm_of (CS := [vC_90, vC_92, vC_93, vC_94]) (HN := []) (IT := []) (fu := 6000) vtab (smem1 (vc_90 l) (smem1 (vc_92 l) (smem1 (vc_93 l) (smem1 (vc_94 l) smem0)))) (by decide +kernel)
/-- World.voteOf  -/
def vC_96 : SCt := (75, 4, 98, [.inr (.inr (11, 48)), .inl (0, 7)], [], [], [([(0, 7)], [], some (.inl (0, 0)), [], [], []), ([(0, 7)], [], some (.inl ((-1), 2)), [], [], []), ([(0, 7)], [], some (.inl (1, 1)), [], [], []), ([(0, 7)], [], some (.inl ((-1), (-1))), [], [], [])], ([], []), [])
theorem vc_96 (l : Launch) : scm l vT vR vE 153 6051 vC_96 := scm_of (CS := [vC_95]) (HN := []) (IT := []) (fu := 6000) vtab (smem1 (vc_95 l) smem0) (by decide +kernel)
/-- World.voteIn  -/
def vC_97 : SCt := (73, 5, 122, [.inr (.inr (11, 48)), .inl (0, 5)], [], [], [([(0, 5)], [], some (.inl sfull), [], [], [])], ([], []), [])
theorem vc_97 (l : Launch) : scm l vT vR vE 153 6051 vC_97 := scm_of (CS := [vC_89, vC_96]) (HN := []) (IT := [((4, ([((0, 5), 0, 0), ((0, 8), 0, 0), (sfull, 0, 0)], [], [sref 11 48, sint (1, 0), sint (3, 0), sint (2, 0)], [], ([], [])), 1, [(0, 3, 0), (0, 2, 0)], [], 1, []), [])]) (fu := 6000) vtab (smem1 (vc_89 l) (smem1 (vc_96 l) smem0)) (by decide +kernel)
/-- World.yieldBy  -/
def vC_99 : SCt := (82, 3, 72, [.inr (.inr (11, 48)), .inl (0, 5), .inl (0, 9), .inl sfull], [], [], [([(0, 5), (0, 9), sfull], [], some (.inl (0, 9999)), [], [], [])], ([], []), [])
theorem vc_99 (l : Launch) : scm l vT vR vE 153 6051 vC_99 := scm_of (CS := [vC_90, vC_92, vC_93, vC_98]) (HN := []) (IT := []) (fu := 6000) vtab (smem1 (vc_90 l) (smem1 (vc_92 l) (smem1 (vc_93 l) (smem1 (vc_98 l) smem0)))) (by decide +kernel)
/-- World.yieldOf  -/
def vC_100 : SCt := (81, 4, 97, [.inr (.inr (11, 48)), .inl (0, 5)], [], [], [([(0, 5)], [], some (.inl (0, 9999)), [], [], [])], ([], []), [])
theorem vc_100 (l : Launch) : scm l vT vR vE 153 6051 vC_100 := scm_of (CS := [vC_99]) (HN := []) (IT := []) (fu := 6000) vtab (smem1 (vc_99 l) smem0) (by decide +kernel)
/-- SV.region  -/
def vC_101 : SCt := (71, 6, 145, [.inr (.inr (12, 2)), .inl sfull, .inl sfull], [], [], [([sfull, sfull], [], some (.inl sfull), [], [], []), ([(0, 5), (0, 5)], [], some (.inl (0, 9999)), [], [], [])], ([], []), [])
theorem vc_101 (l : Launch) : scm l vT vR vE 153 6051 vC_101 := scm_of (CS := [vC_88, vC_97, vC_100]) (HN := []) (IT := []) (fu := 6000) vtab (smem1 (vc_88 l) (smem1 (vc_97 l) (smem1 (vc_100 l) smem0))) (by decide +kernel)
/-- Mo.isRegion  -/
def vC_102 : SCt := (231, 0, 0, [.inr (.inr (13, 104)), .inl sfull], [], [(104, 12, (0, 6))], [([(0, 5)], [(1, 6)], some (.inl (1, 1)), [], [], [(0, 1, 1)]), ([sfull], [(0, 6)], some (.inl (0, 0)), [], [], [])], ([], []), [])
theorem vc_102 (l : Launch) : scm l vT vR vE 153 6051 vC_102 := scm_of (CS := []) (HN := [(17, [(0, (1, 0, 0), [])])]) (IT := []) (fu := 6000) vtab smem0 (by decide +kernel)
/-- Mo.weightOf  -/
def vC_103 : SCt := (233, 0, 0, [.inr (.inr (13, 104)), .inl (0, 7)], [], [], [([(0, 7)], [], some (.inl (1, 1)), [], [], []), ([(0, 7)], [], some (.inl (0, 3)), [], [], [])], ([], []), [])
theorem vc_103 (l : Launch) : scm l vT vR vE 153 6051 vC_103 := scm_of (CS := []) (HN := []) (IT := []) (fu := 6000) vtab smem0 (by decide +kernel)
/-- Mo.voteIn  -/
def vC_104 : SCt := (232, 8, 218, [.inr (.inr (13, 104)), .inl (0, 1), .inl (0, 5)], [], [], [([(0, 1), (0, 5)], [], some (.inl sfull), [], [], [])], ([(104, 54, false)], []), [])
theorem vc_104 (l : Launch) : scm l vT vR vE 153 6051 vC_104 := scm_of (CS := [vC_86, vC_103]) (HN := []) (IT := [((5, ([((0, 1), 0, 0), ((0, 5), 0, 0), ((0, 8), 0, 0), (sfull, 0, 0)], [], [sref 13 104, sint (1, 0), sint (2, 0), sint (4, 0), sint (3, 0)], [], ([], [])), 2, [(0, 4, 0), (0, 3, 0)], [], 1, []), [])]) (fu := 6000) vtab (smem1 (vc_86 l) (smem1 (vc_103 l) smem0)) (by decide +kernel)
/-- Mo.yieldIn  -/
def vC_106 : SCt := (234, 5, 146, [.inr (.inr (13, 104)), .inl (0, 1), .inl (0, 5)], [], [], [([(0, 1), (0, 5)], [], some (.inl ((-33), 9999)), [], [], [])], ([(104, 54, false)], []), [])
theorem vc_106 (l : Launch) : scm l vT vR vE 153 6051 vC_106 := scm_of (CS := [vC_81, vC_105]) (HN := []) (IT := []) (fu := 6000) vtab (smem1 (vc_81 l) (smem1 (vc_105 l) smem0)) (by decide +kernel)
/-- Mo.region  -/
def vC_107 : SCt := (230, 9, 242, [.inr (.inr (13, 104)), .inl sfull, .inl sfull], [], [], [([sfull, sfull], [], some (.inl sfull), [], [], []), ([(0, 5), (1, 2)], [], some (.inl (0, 99)), [], [], [])], ([(104, 2, false), (104, 54, false), (104, 63, false), (104, 64, false)], []), [])
theorem vc_107 (l : Launch) : scm l vT vR vE 153 6051 vC_107 := scm_of (CS := [vC_74, vC_77, vC_80, vC_102, vC_104, vC_106]) (HN := []) (IT := []) (fu := 6000) vtab (smem1 (vc_74 l) (smem1 (vc_77 l) (smem1 (vc_80 l) (smem1 (vc_102 l) (smem1 (vc_104 l) (smem1 (vc_106 l) smem0)))))) (by decide +kernel)
