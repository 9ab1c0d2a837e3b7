/-! CONTRACTS, by the checker. -/
/-- Reader.append  -/
def vC_0 : SCt := (14, 0, 0, [.inr (.inr (7, 45)), .inl sfull], [], [], [([sfull], [], none, [], [], [])], ([(45, 1, false), (46, 0, true)], []), [])
theorem vc_0 (l : Launch) : scm l vT vR vE 153 6051 vC_0 := scm_of (CS := []) (HN := []) (IT := [((3, ([(sfull, 0, 0), (((-8), 24), 0, 0)], [], [sref 7 45, sint (1, 0), sint (2, 0)], [], ([], [])), 1, [(0, 2, 0)], [], 2, []), [])]) (fu := 6000) vtab smem0 (by decide +kernel)
/-- SV.feed  -/
def vC_1 : SCt := (13, 1, 22, [.inr (.inr (12, 2)), .inl sfull, .inl sfull, .inl sfull, .inl sfull, .inl sfull], [], [], [([sfull, sfull, sfull, sfull, sfull], [], some (.inl ((-1), (-1))), [], [], []), ([sfull, sfull, sfull, sfull, sfull], [], some (.inl (0, 700)), [], [], [])], ([(45, 1, false), (46, 0, true)], []), [])
theorem vc_1 (l : Launch) : scm l vT vR vE 153 6051 vC_1 := scm_of (CS := [vC_0]) (HN := []) (IT := []) (fu := 6000) vtab (smem1 (vc_0 l) smem0) (by decide +kernel)
/-- Mo.feed  -/
def vC_2 : SCt := (178, 0, 0, [.inr (.inr (13, 104)), .inl sfull, .inl sfull, .inl sfull, .inl sfull, .inl sfull], [], [], [([sfull, sfull, sfull, sfull, sfull], [], some (.inl ((-1), (-1))), [], [], []), ([sfull, sfull, sfull, sfull, sfull], [], some (.inl (20, 700)), [], [], [])], ([(104, 1, false), (104, 2, false), (105, 0, true)], []), [])
theorem vc_2 (l : Launch) : scm l vT vR vE 153 6051 vC_2 := scm_of (CS := []) (HN := []) (IT := [((23, ([(sfull, 0, 0), (sfull, 0, 0), (sfull, 0, 0), (sfull, 0, 0), (sfull, 0, 0), ((0, 20), 0, 0), ((0, 680), 0, 0)], [], [sref 13 104, sint (1, 0), sint (2, 0), sint (3, 0), sint (4, 0), sint (5, 0), sint (6, 0), sany], [], ([(104, 1, (7, 0)), (104, 2, (0, 0))], [])), 5, [(0, 6, 0), (2, 104, 1)], [], 1, []), [])]) (fu := 6000) vtab smem0 (by decide +kernel)
/-- Reader.isLetter  -/
def vC_4 : SCt := (20, 0, 0, [.inl ((-128), 127)], [], [], [([(97, 122)], [], some (.inl (1, 1)), [], [], []), ([((-128), 127)], [], some (.inl (0, 0)), [], [], [])], ([], []), [])
theorem vc_4 (l : Launch) : scm l vT vR vE 153 6051 vC_4 := scm_of (CS := []) (HN := [(17, [(0, (1, 0, 0), [])])]) (IT := []) (fu := 6000) vtab smem0 (by decide +kernel)
/-- Reader.readWord  -/
def vC_6 : SCt := (21, 5, 175, [.inr (.inr (7, 45))], [], [], [([], [], none, [], [], [])], ([(45, 6, false), (45, 7, false), (45, 9, false)], []), [])
theorem vc_6 (l : Launch) : scm l vT vR vE 153 6051 vC_6 := scm_of (CS := [vC_4, vC_5]) (HN := [(0, [(5, (2, 45, 6), [])])]) (IT := [((2, ([((0, 700), 0, 0), (sfull, 0, 0)], [], [sref 7 45, sint (2, 0), sany], [], ([(45, 6, (1, 0))], [])), 0, [(2, 45, 6), (0, 1, 0)], [], 1, []), [])]) (fu := 6000) vtab (smem1 (vc_4 l) (smem1 (vc_5 l) smem0)) (by decide +kernel)
/-- Reader.isDigit  -/
def vC_7 : SCt := (34, 0, 0, [.inl ((-128), 127)], [], [], [([(48, 57)], [], some (.inl (1, 1)), [], [], []), ([((-128), 127)], [], some (.inl (0, 0)), [], [], [])], ([], []), [])
theorem vc_7 (l : Launch) : scm l vT vR vE 153 6051 vC_7 := scm_of (CS := []) (HN := [(17, [(0, (1, 0, 0), [])])]) (IT := []) (fu := 6000) vtab smem0 (by decide +kernel)
/-- Reader.readDigits  -/
def vC_8 : SCt := (35, 1, 20, [.inr (.inr (7, 45))], [], [], [([], [], none, [], [], [])], ([(45, 6, false), (45, 7, false), (45, 9, false)], []), [])
theorem vc_8 (l : Launch) : scm l vT vR vE 153 6051 vC_8 := scm_of (CS := [vC_7]) (HN := [(0, [(5, (2, 45, 6), [])])]) (IT := [((2, ([((0, 700), 0, 0), (((-2147483648), 10000), 0, 0)], [], [sref 7 45, sint (2, 0)], [], ([(45, 6, (1, 0))], [])), 0, [(2, 45, 6), (0, 1, 0)], [], 1, []), [])]) (fu := 6000) vtab (smem1 (vc_7 l) smem0) (by decide +kernel)
/-- Reader.takeRightBehind  -/
def vC_9 : SCt := (37, 0, 0, [.inr (.inr (7, 45)), .inl (61, 62)], [], [], [([(61, 62)], [], some (.inl (1, 1)), [], [], []), ([(61, 62)], [], some (.inl (0, 0)), [], [], [])], ([(45, 6, false)], []), [])
theorem vc_9 (l : Launch) : scm l vT vR vE 153 6051 vC_9 := scm_of (CS := []) (HN := [(35, [(0, (1, 0, 0), [])]), (37, [(0, (1, 0, 0), [])])]) (IT := []) (fu := 6000) vtab smem0 (by decide +kernel)
/-- Reader.signOf  -/
def vC_10 : SCt := (36, 1, 21, [.inr (.inr (7, 45)), .inl ((-128), 127)], [], [], [([(40, 62)], [], some (.inl (4, 16)), [], [], []), ([((-128), 127)], [], some (.inl (1, 1)), [], [], [])], ([(45, 6, false)], []), [])
theorem vc_10 (l : Launch) : scm l vT vR vE 153 6051 vC_10 := scm_of (CS := [vC_9]) (HN := []) (IT := []) (fu := 6000) vtab (smem1 (vc_9 l) smem0) (by decide +kernel)
/-- Reader.advance  -/
def vC_11 : SCt := (19, 6, 197, [.inr (.inr (7, 45))], [], [], [([], [], none, [], [], [])], ([(45, 6, false), (45, 7, false), (45, 8, false), (45, 9, false)], []), [])
theorem vc_11 (l : Launch) : scm l vT vR vE 153 6051 vC_11 := scm_of (CS := [vC_4, vC_6, vC_7, vC_8, vC_10]) (HN := []) (IT := [((0, ([((1, 700), 0, 0), ((1, 700), 0, 0)], [], [sref 7 45, sun], [], ([(45, 5, (2, 0)), (45, 6, (1, 0))], [(45, 0, 46)])), 0, [(2, 45, 6), (2, 45, 5)], [], 1, []), [])]) (fu := 6000) vtab (smem1 (vc_4 l) (smem1 (vc_6 l) (smem1 (vc_7 l) (smem1 (vc_8 l) (smem1 (vc_10 l) smem0))))) (by decide +kernel)
/-- Reader.fail  -/
def vC_12 : SCt := (39, 0, 0, [.inr (.inr (7, 45)), .inl (1, 4)], [], [(45, 2, (0, 5))], [([(1, 4)], [(0, 5)], none, [(45, 2, (1, 5))], [], [])], ([(45, 2, false), (45, 3, false)], []), [])
theorem vc_12 (l : Launch) : scm l vT vR vE 153 6051 vC_12 := scm_of (CS := []) (HN := []) (IT := []) (fu := 6000) vtab smem0 (by decide +kernel)
/-- Realm.regionNamed  -/
def vC_13 : SCt := (40, 0, 0, [.inr (.inr (8, 24)), .inl sfull], [], [], [([sfull], [], some (.inl (0, 5)), [], [], []), ([sfull], [], some (.inl ((-1), (-1))), [], [], [])], ([], []), [])
theorem vc_13 (l : Launch) : scm l vT vR vE 153 6051 vC_13 := scm_of (CS := []) (HN := []) (IT := [((2, ([(sfull, 0, 0), ((0, 6), 0, 0)], [], [sref 8 24, sint (1, 0), sint (2, 0)], [], ([], [])), 1, [(0, 2, 0)], [], 1, []), [])]) (fu := 6000) vtab smem0 (by decide +kernel)
/-- Realm.regionNamed  -/
def vC_14 : SCt := (40, 0, 0, [.inr (.inr (8, 3)), .inl sfull], [], [], [([sfull], [], some (.inl (0, 5)), [], [], []), ([sfull], [], some (.inl ((-1), (-1))), [], [], [])], ([], []), [])
theorem vc_14 (l : Launch) : scm l vT vR vE 153 6051 vC_14 := scm_of (CS := []) (HN := []) (IT := [((2, ([(sfull, 0, 0), ((0, 6), 0, 0)], [], [sref 8 3, sint (1, 0), sint (2, 0)], [], ([], [])), 1, [(0, 2, 0)], [], 1, []), [])]) (fu := 6000) vtab smem0 (by decide +kernel)
/-- Reader.takeNewName  -/
def vC_15 : SCt := (41, 7, 218, [.inr (.inr (7, 45)), .inl ((-1), (-1))], [], [(45, 2, (0, 5))], [([((-1), (-1))], [(0, 5)], some (.inl sfull), [(45, 2, (1, 5))], [], []), ([((-1), (-1))], [(0, 0)], some (.inl sfull), [(45, 2, (0, 0))], [], [])], ([(45, 2, false), (45, 3, false), (45, 6, false), (45, 7, false), (45, 8, false), (45, 9, false)], []), [])
theorem vc_15 (l : Launch) : scm l vT vR vE 153 6051 vC_15 := scm_of (CS := [vC_11, vC_12]) (HN := [(0, [(2, (0, 0, 0), [])])]) (IT := []) (fu := 6000) vtab (smem1 (vc_11 l) (smem1 (vc_12 l) smem0)) (by decide +kernel)
/-- Reader.takeNewName  -/
def vC_16 : SCt := (41, 1, 21, [.inr (.inr (7, 45)), .inl (0, 5)], [], [(45, 2, (0, 5))], [([(0, 5)], [(0, 5)], some (.inl sfull), [(45, 2, (1, 5))], [], [])], ([(45, 2, false), (45, 3, false)], []), [])
theorem vc_16 (l : Launch) : scm l vT vR vE 153 6051 vC_16 := scm_of (CS := [vC_12]) (HN := []) (IT := []) (fu := 6000) vtab (smem1 (vc_12 l) smem0) (by decide +kernel)
/-- Reader.takeNumber  -/
def vC_17 : SCt := (42, 7, 218, [.inr (.inr (7, 45)), .inl (0, 0), .inl (9, 9)], [], [(45, 2, (0, 5))], [([(0, 0), (9, 9)], [(0, 5)], some (.inl sfull), [(45, 2, (1, 5))], [], []), ([(0, 0), (9, 9)], [(0, 5)], some (.inl (0, 2147483647)), [(45, 2, (1, 5))], [], []), ([(0, 0), (9, 9)], [(0, 0)], some (.inl (0, 9)), [(45, 2, (0, 0))], [], [])], ([(45, 2, false), (45, 3, false), (45, 6, false), (45, 7, false), (45, 8, false), (45, 9, false)], []), [])
theorem vc_17 (l : Launch) : scm l vT vR vE 153 6051 vC_17 := scm_of (CS := [vC_11, vC_12]) (HN := [(0, [(2, (0, 0, 0), [])])]) (IT := []) (fu := 6000) vtab (smem1 (vc_11 l) (smem1 (vc_12 l) smem0)) (by decide +kernel)
/-- Reader.takeNumber  -/
def vC_18 : SCt := (42, 7, 218, [.inr (.inr (7, 45)), .inl (1, 1), .inl (9, 9)], [], [(45, 2, (0, 5))], [([(1, 1), (9, 9)], [(0, 5)], some (.inl sfull), [(45, 2, (1, 5))], [], []), ([(1, 1), (9, 9)], [(0, 5)], some (.inl (1, 2147483647)), [(45, 2, (1, 5))], [], []), ([(1, 1), (9, 9)], [(0, 0)], some (.inl (1, 9)), [(45, 2, (0, 0))], [], [])], ([(45, 2, false), (45, 3, false), (45, 6, false), (45, 7, false), (45, 8, false), (45, 9, false)], []), [])
theorem vc_18 (l : Launch) : scm l vT vR vE 153 6051 vC_18 := scm_of (CS := [vC_11, vC_12]) (HN := [(0, [(2, (0, 0, 0), [])])]) (IT := []) (fu := 6000) vtab (smem1 (vc_11 l) (smem1 (vc_12 l) smem0)) (by decide +kernel)
/-- Reader.takeNumber  -/
def vC_19 : SCt := (42, 7, 218, [.inr (.inr (7, 45)), .inl (1, 1), .inl (99, 99)], [], [(45, 2, (0, 5))], [([(1, 1), (99, 99)], [(0, 5)], some (.inl sfull), [(45, 2, (1, 5))], [], []), ([(1, 1), (99, 99)], [(0, 5)], some (.inl (1, 2147483647)), [(45, 2, (1, 5))], [], []), ([(1, 1), (99, 99)], [(0, 0)], some (.inl (1, 99)), [(45, 2, (0, 0))], [], [])], ([(45, 2, false), (45, 3, false), (45, 6, false), (45, 7, false), (45, 8, false), (45, 9, false)], []), [])
theorem vc_19 (l : Launch) : scm l vT vR vE 153 6051 vC_19 := scm_of (CS := [vC_11, vC_12]) (HN := [(0, [(2, (0, 0, 0), [])])]) (IT := []) (fu := 6000) vtab (smem1 (vc_11 l) (smem1 (vc_12 l) smem0)) (by decide +kernel)
/-- Reader.readRegion  -/
def vC_20 : SCt := (38, 8, 241, [.inr (.inr (7, 45))], [], [], [([], [], none, [], [], [])], ([(3, 0, false), (4, 0, true), (5, 0, true), (6, 0, true), (7, 0, true), (24, 0, false), (25, 0, true), (26, 0, true), (27, 0, true), (28, 0, true), (45, 2, false), (45, 3, false), (45, 6, false), (45, 7, false), (45, 8, false), (45, 9, false)], []), [])
theorem vc_20 (l : Launch) : scm l vT vR vE 153 6051 vC_20 := scm_of (CS := [vC_11, vC_12, vC_13, vC_14, vC_15, vC_16, vC_17, vC_18, vC_19]) (HN := []) (IT := []) (fu := 6000) vtab (smem1 (vc_11 l) (smem1 (vc_12 l) (smem1 (vc_13 l) (smem1 (vc_14 l) (smem1 (vc_15 l) (smem1 (vc_16 l) (smem1 (vc_17 l) (smem1 (vc_18 l) (smem1 (vc_19 l) smem0))))))))) (by decide +kernel)
