/-! CONTRACTS, by the checker. -/
/-- Realm.joinOf  -/
def vC_108 : SCt := (45, 0, 0, [.inr (.inr (8, 24)), .inl (0, 5), .inl (0, 5)], [], [], [([(0, 5), (0, 5)], [], some (.inl (0, 8)), [], [], []), ([(0, 5), (0, 5)], [], some (.inl ((-1), (-1))), [], [], [])], ([], []), [])
theorem vc_108 (l : Launch) : scm l vT vR vE 153 6051 vC_108 := scm_of (CS := []) (HN := []) (IT := [((2, ([((0, 5), 0, 0), ((0, 5), 0, 0), ((0, 9), 0, 0)], [], [sref 8 24, sint (1, 0), sint (2, 0), sint (3, 0), sany, sany], [], ([], [])), 2, [(0, 3, 0)], [], 1, []), [])]) (fu := 6000) vtab smem0 (by decide +kernel)
/-- Realm.joinOf  -/
def vC_109 : SCt := (45, 0, 0, [.inr (.inr (8, 3)), .inl (0, 5), .inl (0, 5)], [], [], [([(0, 5), (0, 5)], [], some (.inl (0, 8)), [], [], []), ([(0, 5), (0, 5)], [], some (.inl ((-1), (-1))), [], [], [])], ([], []), [])
theorem vc_109 (l : Launch) : scm l vT vR vE 153 6051 vC_109 := scm_of (CS := []) (HN := []) (IT := [((2, ([((0, 5), 0, 0), ((0, 5), 0, 0), ((0, 9), 0, 0)], [], [sref 8 3, sint (1, 0), sint (2, 0), sint (3, 0), sany, sany], [], ([], [])), 2, [(0, 3, 0)], [], 1, []), [])]) (fu := 6000) vtab smem0 (by decide +kernel)
/-- SV.join  -/
def vC_110 : SCt := (83, 1, 25, [.inr (.inr (12, 2)), .inl sfull, .inl sfull, .inl sfull], [], [], [([sfull, sfull, sfull], [], some (.inl ((-1), (-1))), [], [], []), ([(0, 5), (0, 5), (0, 1)], [], some (.inl ((-2), (-2))), [], [], []), ([(0, 5), (0, 5), (0, 1)], [], some (.inl (0, 9)), [], [], [])], ([], []), [])
theorem vc_110 (l : Launch) : scm l vT vR vE 153 6051 vC_110 := scm_of (CS := [vC_88, vC_108, vC_109]) (HN := []) (IT := []) (fu := 6000) vtab (smem1 (vc_88 l) (smem1 (vc_108 l) (smem1 (vc_109 l) smem0))) (by decide +kernel)
/-- Mo.isIn  -/
def vC_111 : SCt := (192, 0, 0, [.inl sfull, .inl (0, 0), .inl (1, 1)], [], [], [([(0, 1), (0, 0), (1, 1)], [], some (.inl (1, 1)), [], [], []), ([sfull, (0, 0), (1, 1)], [], some (.inl (0, 0)), [], [], [])], ([], []), [])
theorem vc_111 (l : Launch) : scm l vT vR vE 153 6051 vC_111 := scm_of (CS := []) (HN := [(0, [(2, (0, 0, 0), [])]), (15, [(0, (1, 0, 0), [])])]) (IT := []) (fu := 6000) vtab smem0 (by decide +kernel)
/-- Mo.joinOf  -/
def vC_112 : SCt := (195, 0, 0, [.inr (.inr (13, 104)), .inl (0, 0), .inl (0, 9), .inl (0, 5), .inl (0, 5)], [], [], [([(0, 0), (1, 9), (0, 5), (0, 5)], [], some (.inl (0, 8)), [], [], []), ([(0, 0), (0, 9), (0, 5), (0, 5)], [], some (.inl ((-1), (-1))), [], [], [])], ([], []), [])
theorem vc_112 (l : Launch) : scm l vT vR vE 153 6051 vC_112 := scm_of (CS := []) (HN := [(0, [(2, (0, 0, 0), [])])]) (IT := [((3, ([((0, 0), 0, 0), ((0, 9), 0, 0), ((0, 5), 0, 0), ((0, 5), 0, 0), ((0, 9), 0, 0)], [], [sref 13 104, sint (0, 0), sint (2, 0), sint (3, 0), sint (4, 0), sint (5, 0), sany, sany], [], ([], [])), 4, [(0, 5, 0)], [], 1, []), [])]) (fu := 6000) vtab smem0 (by decide +kernel)
/-- Mo.join  -/
def vC_113 : SCt := (235, 2, 45, [.inr (.inr (13, 104)), .inl sfull, .inl sfull, .inl sfull], [], [], [([sfull, sfull, sfull], [], some (.inl ((-1), (-1))), [], [], []), ([(0, 5), (0, 5), (0, 1)], [], some (.inl ((-2), (-2))), [], [], []), ([(0, 5), (0, 5), (0, 0)], [], some (.inl (0, 9)), [], [], []), ([(0, 5), (0, 5), (1, 1)], [], some (.inl (0, 0)), [], [], []), ([(0, 5), (0, 5), (1, 1)], [], some (.inl (1, 1)), [], [], [])], ([(104, 2, false), (104, 63, false), (104, 64, false)], []), [])
theorem vc_113 (l : Launch) : scm l vT vR vE 153 6051 vC_113 := scm_of (CS := [vC_74, vC_79, vC_102, vC_111, vC_112]) (HN := []) (IT := []) (fu := 6000) vtab (smem1 (vc_74 l) (smem1 (vc_79 l) (smem1 (vc_102 l) (smem1 (vc_111 l) (smem1 (vc_112 l) smem0))))) (by decide +kernel)
/-- SV.isPerson  -/
def vC_114 : SCt := (85, 0, 0, [.inr (.inr (12, 2)), .inl sfull], [], [], [([(0, 7)], [], some (.inl (1, 1)), [], [], []), ([sfull], [], some (.inl (0, 0)), [], [], [])], ([], []), [])
theorem vc_114 (l : Launch) : scm l vT vR vE 153 6051 vC_114 := scm_of (CS := []) (HN := [(20, [(0, (1, 0, 0), [])])]) (IT := []) (fu := 6000) vtab smem0 (by decide +kernel)
/-- SV.isScale  -/
def vC_115 : SCt := (86, 0, 0, [.inl sfull], [], [], [([(1, 9)], [], some (.inl (1, 1)), [], [], []), ([sfull], [], some (.inl (0, 0)), [], [], [])], ([], []), [])
theorem vc_115 (l : Launch) : scm l vT vR vE 153 6051 vC_115 := scm_of (CS := []) (HN := [(16, [(0, (1, 0, 0), [])])]) (IT := []) (fu := 6000) vtab smem0 (by decide +kernel)
/-- SV.gain  -/
def vC_116 : SCt := (84, 4, 98, [.inr (.inr (12, 2)), .inl sfull, .inl sfull], [], [], [([sfull, sfull], [], some (.inl ((-2147483648), 99)), [], [], []), ([(0, 7), (1, 9)], [], some (.inl (0, 9)), [], [], [])], ([], []), [])
theorem vc_116 (l : Launch) : scm l vT vR vE 153 6051 vC_116 := scm_of (CS := [vC_95, vC_114, vC_115]) (HN := []) (IT := []) (fu := 6000) vtab (smem1 (vc_95 l) (smem1 (vc_114 l) (smem1 (vc_115 l) smem0))) (by decide +kernel)
/-- Mo.isIn  -/
def vC_117 : SCt := (192, 0, 0, [.inl sfull, .inl (1, 1), .inl (9, 9)], [], [], [([(1, 9), (1, 1), (9, 9)], [], some (.inl (1, 1)), [], [], []), ([sfull, (1, 1), (9, 9)], [], some (.inl (0, 0)), [], [], [])], ([], []), [])
theorem vc_117 (l : Launch) : scm l vT vR vE 153 6051 vC_117 := scm_of (CS := []) (HN := [(0, [(2, (0, 0, 0), [])]), (15, [(0, (1, 0, 0), [])])]) (IT := []) (fu := 6000) vtab smem0 (by decide +kernel)
/-- Mo.gain  -/
def vC_118 : SCt := (236, 7, 194, [.inr (.inr (13, 104)), .inl sfull, .inl sfull], [], [], [([sfull, sfull], [], some (.inl ((-2147483648), 99)), [], [], [])], ([(104, 2, false), (104, 54, false), (104, 63, false), (104, 64, false)], []), [])
theorem vc_118 (l : Launch) : scm l vT vR vE 153 6051 vC_118 := scm_of (CS := [vC_74, vC_75, vC_85, vC_117]) (HN := []) (IT := []) (fu := 6000) vtab (smem1 (vc_74 l) (smem1 (vc_75 l) (smem1 (vc_85 l) (smem1 (vc_117 l) smem0)))) (by decide +kernel)
/-- World.gainLaw  -/
def vC_119 : SCt := (88, 3, 72, [.inr (.inr (11, 48)), .inl (0, 7)], [], [], [([(0, 7)], [], some (.inr true), [], [], [])], ([], []), [])
theorem vc_119 (l : Launch) : scm l vT vR vE 153 6051 vC_119 := scm_of (CS := [vC_90, vC_92, vC_93]) (HN := []) (IT := []) (fu := 6000) vtab (smem1 (vc_90 l) (smem1 (vc_92 l) (smem1 (vc_93 l) smem0))) (by decide +kernel)
/-- World.yieldLaw  -/
def vC_120 : SCt := (89, 3, 72, [.inr (.inr (11, 48)), .inl (0, 5)], [], [], [([(0, 5)], [], some (.inr true), [], [], [])], ([], []), [])
theorem vc_120 (l : Launch) : scm l vT vR vE 153 6051 vC_120 := scm_of (CS := [vC_90, vC_92, vC_93]) (HN := []) (IT := []) (fu := 6000) vtab (smem1 (vc_90 l) (smem1 (vc_92 l) (smem1 (vc_93 l) smem0))) (by decide +kernel)
/-- World.nameWay  -/
def vC_121 : SCt := (91, 1, 23, [.inr (.inr (11, 48)), .inl (0, 8), .inl (0, 5)], [], [], [([(0, 8), (0, 5)], [], none, [], [], [])], ([], []), [])
theorem vc_121 (l : Launch) : scm l vT vR vE 153 6051 vC_121 := scm_of (CS := [vC_90]) (HN := []) (IT := []) (fu := 6000) vtab (smem1 (vc_90 l) smem0) (by decide +kernel)
/-- World.wayLaw  -/
def vC_122 : SCt := (90, 3, 72, [.inr (.inr (11, 48)), .inl (0, 8)], [], [], [([(0, 8)], [], some (.inr true), [], [], [])], ([], []), [])
theorem vc_122 (l : Launch) : scm l vT vR vE 153 6051 vC_122 := scm_of (CS := [vC_92, vC_93, vC_121]) (HN := []) (IT := []) (fu := 6000) vtab (smem1 (vc_92 l) (smem1 (vc_93 l) (smem1 (vc_121 l) smem0))) (by decide +kernel)
/-- SV.law  -/
def vC_123 : SCt := (87, 4, 94, [.inr (.inr (12, 2)), .inl sfull, .inl sfull], [], [], [([sfull, sfull], [], some (.inr true), [], [], [])], ([], []), [])
theorem vc_123 (l : Launch) : scm l vT vR vE 153 6051 vC_123 := scm_of (CS := [vC_88, vC_114, vC_119, vC_120, vC_122]) (HN := []) (IT := []) (fu := 6000) vtab (smem1 (vc_88 l) (smem1 (vc_114 l) (smem1 (vc_119 l) (smem1 (vc_120 l) (smem1 (vc_122 l) smem0))))) (by decide +kernel)
/-- Mo.isIn  -/
def vC_124 : SCt := (192, 0, 0, [.inl sfull, .inl (0, 0), .inl ((-1), 8)], [], [], [([(0, 8), (0, 0), (0, 8)], [], some (.inl (1, 1)), [], [], [(0, 2, 0)]), ([sfull, (0, 0), ((-1), 8)], [], some (.inl (0, 0)), [], [], [])], ([], []), [])
theorem vc_124 (l : Launch) : scm l vT vR vE 153 6051 vC_124 := scm_of (CS := []) (HN := [(0, [(2, (0, 0, 0), [])]), (15, [(0, (1, 0, 0), [])])]) (IT := []) (fu := 6000) vtab smem0 (by decide +kernel)
/-- Mo.isIn  -/
def vC_125 : SCt := (192, 0, 0, [.inl sfull, .inl (0, 0), .inl (2, 2)], [], [], [([(0, 2), (0, 0), (2, 2)], [], some (.inl (1, 1)), [], [], []), ([sfull, (0, 0), (2, 2)], [], some (.inl (0, 0)), [], [], [])], ([], []), [])
theorem vc_125 (l : Launch) : scm l vT vR vE 153 6051 vC_125 := scm_of (CS := []) (HN := [(0, [(2, (0, 0, 0), [])]), (15, [(0, (1, 0, 0), [])])]) (IT := []) (fu := 6000) vtab smem0 (by decide +kernel)
/-- Mo.law  -/
def vC_129 : SCt := (237, 4, 112, [.inr (.inr (13, 104)), .inl sfull, .inl sfull], [], [], [([sfull, sfull], [], some (.inr true), [], [], [])], ([(104, 2, false), (104, 54, false), (104, 63, false), (104, 64, false)], []), [])
theorem vc_129 (l : Launch) : scm l vT vR vE 153 6051 vC_129 := scm_of (CS := [vC_74, vC_75, vC_81, vC_102, vC_124, vC_125, vC_126, vC_127, vC_128]) (HN := [(14, [(0, (0, 1, 0), [])])]) (IT := []) (fu := 6000) vtab (smem1 (vc_74 l) (smem1 (vc_75 l) (smem1 (vc_81 l) (smem1 (vc_102 l) (smem1 (vc_124 l) (smem1 (vc_125 l) (smem1 (vc_126 l) (smem1 (vc_127 l) (smem1 (vc_128 l) smem0))))))))) (by decide +kernel)
/-- SV.canvass  -/
def vC_131 : SCt := (92, 2, 68, [.inr (.inr (12, 2)), .inl sfull, .inl sfull], [], [], [([sfull, sfull], [], some (.inl (0, 0)), [], [], []), ([(0, 7), ((-1), 1)], [], some (.inl (1, 1)), [], [], [])], ([(53, 0, true), (81, 0, false), (82, 0, true), (83, 0, true), (84, 0, true)], []), [])
theorem vc_131 (l : Launch) : scm l vT vR vE 153 6051 vC_131 := scm_of (CS := [vC_114, vC_130]) (HN := [(32, [(0, (1, 0, 0), [])]), (62, [(0, (1, 0, 0), [])])]) (IT := []) (fu := 6000) vtab (smem1 (vc_114 l) (smem1 (vc_130 l) smem0)) (by decide +kernel)
/-- Mo.isIn  -/
def vC_132 : SCt := (192, 0, 0, [.inl sfull, .inl ((-1), (-1)), .inl (1, 1)], [], [], [([((-1), 1), ((-1), (-1)), (1, 1)], [], some (.inl (1, 1)), [], [], []), ([sfull, ((-1), (-1)), (1, 1)], [], some (.inl (0, 0)), [], [], [])], ([], []), [])
theorem vc_132 (l : Launch) : scm l vT vR vE 153 6051 vC_132 := scm_of (CS := []) (HN := [(0, [(2, (0, 0, 0), [])]), (15, [(0, (1, 0, 0), [])])]) (IT := []) (fu := 6000) vtab smem0 (by decide +kernel)
/-- Mo.canvass  -/
def vC_134 : SCt := (238, 3, 81, [.inr (.inr (13, 104)), .inl sfull, .inl sfull], [], [], [([sfull, sfull], [], some (.inl (0, 0)), [], [], []), ([(0, 7), ((-1), 1)], [], some (.inl (1, 1)), [], [], [])], ([(104, 2, false), (104, 76, false), (136, 0, true), (149, 0, true)], []), [])
theorem vc_134 (l : Launch) : scm l vT vR vE 153 6051 vC_134 := scm_of (CS := [vC_75, vC_132, vC_133]) (HN := [(33, [(0, (1, 0, 0), [])]), (46, [(0, (1, 0, 0), [])])]) (IT := []) (fu := 6000) vtab (smem1 (vc_75 l) (smem1 (vc_132 l) (smem1 (vc_133 l) smem0))) (by decide +kernel)
/-- World.settle  -/
def vC_136 : SCt := (95, 0, 0, [.inr (.inr (11, 48)), .inl (0, 7), .inl (0, 5)], [], [], [([(0, 7), (0, 5)], [], none, [], [], [])], ([(52, 0, true), (56, 0, true)], []), [])
theorem vc_136 (l : Launch) : scm l vT vR vE 153 6051 vC_136 := scm_of (CS := []) (HN := []) (IT := []) (fu := 6000) vtab smem0 (by decide +kernel)
/-- SV.move  -/
def vC_137 : SCt := (94, 2, 68, [.inr (.inr (12, 2)), .inl sfull, .inl sfull], [], [], [([sfull, sfull], [], some (.inl (0, 0)), [], [], []), ([(0, 7), (0, 5)], [], some (.inl (1, 1)), [], [], [])], ([(52, 0, true), (56, 0, true), (81, 0, false), (82, 0, true), (83, 0, true), (84, 0, true)], []), [])
theorem vc_137 (l : Launch) : scm l vT vR vE 153 6051 vC_137 := scm_of (CS := [vC_88, vC_114, vC_135, vC_136]) (HN := [(30, [(0, (1, 0, 0), [])]), (53, [(0, (1, 0, 0), [])]), (82, [(0, (1, 0, 0), [])])]) (IT := []) (fu := 6000) vtab (smem1 (vc_88 l) (smem1 (vc_114 l) (smem1 (vc_135 l) (smem1 (vc_136 l) smem0)))) (by decide +kernel)
/-- Mo.isRegion  -/
def vC_138 : SCt := (231, 0, 0, [.inr (.inr (13, 104)), .inl ((-2147483648), (-1))], [], [(104, 12, (0, 6))], [([((-2147483648), (-1))], [(0, 6)], some (.inl (0, 0)), [], [], [])], ([], []), [])
theorem vc_138 (l : Launch) : scm l vT vR vE 153 6051 vC_138 := scm_of (CS := []) (HN := [(17, [(0, (1, 0, 0), [])])]) (IT := []) (fu := 6000) vtab smem0 (by decide +kernel)
/-- Mo.isRegion  -/
def vC_139 : SCt := (231, 0, 0, [.inr (.inr (13, 104)), .inl (0, 0)], [], [(104, 12, (0, 6))], [([(0, 0)], [(1, 6)], some (.inl (1, 1)), [], [], []), ([(0, 0)], [(0, 0)], some (.inl (0, 0)), [], [], [])], ([], []), [])
theorem vc_139 (l : Launch) : scm l vT vR vE 153 6051 vC_139 := scm_of (CS := []) (HN := [(0, [(2, (0, 0, 0), [])]), (17, [(0, (1, 0, 0), [])])]) (IT := []) (fu := 6000) vtab smem0 (by decide +kernel)
/-- Mo.isRegion  -/
def vC_140 : SCt := (231, 0, 0, [.inr (.inr (13, 104)), .inl (1, 1)], [], [(104, 12, (0, 6))], [([(1, 1)], [(2, 6)], some (.inl (1, 1)), [], [], []), ([(1, 1)], [(0, 1)], some (.inl (0, 0)), [], [], [])], ([], []), [])
theorem vc_140 (l : Launch) : scm l vT vR vE 153 6051 vC_140 := scm_of (CS := []) (HN := [(0, [(2, (0, 0, 0), [])]), (17, [(0, (1, 0, 0), [])])]) (IT := []) (fu := 6000) vtab smem0 (by decide +kernel)
/-- Mo.isRegion  -/
def vC_141 : SCt := (231, 0, 0, [.inr (.inr (13, 104)), .inl (2, 2)], [], [(104, 12, (0, 6))], [([(2, 2)], [(3, 6)], some (.inl (1, 1)), [], [], []), ([(2, 2)], [(0, 2)], some (.inl (0, 0)), [], [], [])], ([], []), [])
theorem vc_141 (l : Launch) : scm l vT vR vE 153 6051 vC_141 := scm_of (CS := []) (HN := [(0, [(2, (0, 0, 0), [])]), (17, [(0, (1, 0, 0), [])])]) (IT := []) (fu := 6000) vtab smem0 (by decide +kernel)
/-- Mo.isRegion  -/
def vC_142 : SCt := (231, 0, 0, [.inr (.inr (13, 104)), .inl (3, 3)], [], [(104, 12, (0, 6))], [([(3, 3)], [(4, 6)], some (.inl (1, 1)), [], [], []), ([(3, 3)], [(0, 3)], some (.inl (0, 0)), [], [], [])], ([], []), [])
theorem vc_142 (l : Launch) : scm l vT vR vE 153 6051 vC_142 := scm_of (CS := []) (HN := [(0, [(2, (0, 0, 0), [])]), (17, [(0, (1, 0, 0), [])])]) (IT := []) (fu := 6000) vtab smem0 (by decide +kernel)
/-- Mo.isRegion  -/
def vC_143 : SCt := (231, 0, 0, [.inr (.inr (13, 104)), .inl (4, 4)], [], [(104, 12, (0, 6))], [([(4, 4)], [(5, 6)], some (.inl (1, 1)), [], [], []), ([(4, 4)], [(0, 4)], some (.inl (0, 0)), [], [], [])], ([], []), [])
theorem vc_143 (l : Launch) : scm l vT vR vE 153 6051 vC_143 := scm_of (CS := []) (HN := [(0, [(2, (0, 0, 0), [])]), (17, [(0, (1, 0, 0), [])])]) (IT := []) (fu := 6000) vtab smem0 (by decide +kernel)
/-- Mo.isRegion  -/
def vC_144 : SCt := (231, 0, 0, [.inr (.inr (13, 104)), .inl (5, 5)], [], [(104, 12, (0, 6))], [([(5, 5)], [(6, 6)], some (.inl (1, 1)), [], [], []), ([(5, 5)], [(0, 5)], some (.inl (0, 0)), [], [], [])], ([], []), [])
theorem vc_144 (l : Launch) : scm l vT vR vE 153 6051 vC_144 := scm_of (CS := []) (HN := [(0, [(2, (0, 0, 0), [])]), (17, [(0, (1, 0, 0), [])])]) (IT := []) (fu := 6000) vtab smem0 (by decide +kernel)
/-- Mo.isRegion  -/
def vC_145 : SCt := (231, 0, 0, [.inr (.inr (13, 104)), .inl (6, 2147483647)], [], [(104, 12, (0, 6))], [([(6, 2147483647)], [(0, 6)], some (.inl (0, 0)), [], [], [(1, 0, 0)])], ([], []), [])
theorem vc_145 (l : Launch) : scm l vT vR vE 153 6051 vC_145 := scm_of (CS := []) (HN := [(17, [(0, (1, 0, 0), [])])]) (IT := []) (fu := 6000) vtab smem0 (by decide +kernel)
/-- Mo.move  -/
def vC_146 : SCt := (241, 3, 81, [.inr (.inr (13, 104)), .inl sfull, .inl sfull], [], [], [([sfull, sfull], [], some (.inl (0, 0)), [], [], []), ([(0, 7), (0, 5)], [], some (.inl (1, 1)), [], [], [])], ([(104, 2, false), (104, 76, false), (135, 0, false), (135, 1, false), (135, 2, false), (135, 3, false), (135, 4, false), (135, 5, false), (135, 6, false), (135, 7, false), (149, 0, true)], []), [])
theorem vc_146 (l : Launch) : scm l vT vR vE 153 6051 vC_146 := scm_of (CS := [vC_75, vC_77, vC_133, vC_138, vC_139, vC_140, vC_141, vC_142, vC_143, vC_144, vC_145]) (HN := [(0, [(4, (0, 2, 0), [0, 1, 2, 3, 4, 5, 6]), (2, (0, 0, 0), [])]), (5, [(5, (2, 104, 12), [])]), (47, [(0, (1, 0, 0), [])]), (52, [(0, (0, 1, 0), []), (5, (2, 110, 0), []), (5, (2, 110, 1), []), (5, (2, 110, 2), []), (5, (2, 110, 3), []), (5, (2, 110, 4), []), (5, (2, 110, 5), []), (1, (0, 0, 0), [90, 91, 92, 93, 94, 95])]), (59, [(3, (0, 0, 0), [])]), (60, [(0, (1, 0, 0), [])])]) (IT := []) (fu := 6000) vtab (smem1 (vc_75 l) (smem1 (vc_77 l) (smem1 (vc_133 l) (smem1 (vc_138 l) (smem1 (vc_139 l) (smem1 (vc_140 l) (smem1 (vc_141 l) (smem1 (vc_142 l) (smem1 (vc_143 l) (smem1 (vc_144 l) (smem1 (vc_145 l) smem0))))))))))) (by decide +kernel)
/-- SV.decree  -/
def vC_148 : SCt := (96, 2, 68, [.inr (.inr (12, 2)), .inl sfull, .inl sfull], [], [], [([sfull, sfull], [], some (.inl (0, 0)), [], [], []), ([(0, 5), (1, 9)], [], some (.inl (1, 1)), [], [], [])], ([(49, 0, true), (51, 0, true), (55, 0, true), (81, 0, false), (82, 0, true), (83, 0, true), (84, 0, true)], []), [])
theorem vc_148 (l : Launch) : scm l vT vR vE 153 6051 vC_148 := scm_of (CS := [vC_61, vC_88, vC_115, vC_147]) (HN := [(29, [(0, (1, 0, 0), [])]), (66, [(0, (1, 0, 0), [])])]) (IT := []) (fu := 6000) vtab (smem1 (vc_61 l) (smem1 (vc_88 l) (smem1 (vc_115 l) (smem1 (vc_147 l) smem0)))) (by decide +kernel)
/-- Mo.decree  -/
def vC_149 : SCt := (242, 3, 81, [.inr (.inr (13, 104)), .inl sfull, .inl sfull], [], [], [([sfull, sfull], [], some (.inl (0, 0)), [], [], []), ([(0, 5), (1, 9)], [], some (.inl (1, 1)), [], [], [])], ([(104, 2, false), (104, 76, false), (133, 0, false), (133, 1, false), (133, 2, false), (133, 3, false), (133, 4, false), (133, 5, false), (149, 0, true)], []), [])
theorem vc_149 (l : Launch) : scm l vT vR vE 153 6051 vC_149 := scm_of (CS := [vC_102, vC_117, vC_133]) (HN := [(34, [(0, (1, 0, 0), [])]), (39, [(0, (0, 1, 0), [])]), (47, [(0, (1, 0, 0), [])])]) (IT := []) (fu := 6000) vtab (smem1 (vc_102 l) (smem1 (vc_117 l) (smem1 (vc_133 l) smem0))) (by decide +kernel)
/-- World.reap  -/
def vC_150 : SCt := (101, 5, 118, [.inr (.inr (11, 48))], [], [], [([], [], none, [], [], [])], ([(50, 0, true), (54, 0, true)], []), [])
theorem vc_150 (l : Launch) : scm l vT vR vE 153 6051 vC_150 := scm_of (CS := [vC_100]) (HN := []) (IT := [((35, ([((0, 8), 0, 0)], [], [sref 11 48, sint (1, 0)], [], ([], [])), 0, [(0, 1, 0)], [], 1, []), []), ((2, ([((0, 6), 0, 0)], [], [sref 11 48, sint (1, 0)], [], ([], [])), 0, [(0, 1, 0)], [], 1, []), [])]) (fu := 6000) vtab (smem1 (vc_100 l) smem0) (by decide +kernel)
/-- World.close  -/
def vC_151 : SCt := (102, 1, 23, [.inr (.inr (11, 48))], [], [], [([], [], none, [], [], [])], ([(48, 7, false), (53, 0, true)], []), [])
theorem vc_151 (l : Launch) : scm l vT vR vE 153 6051 vC_151 := scm_of (CS := [vC_58]) (HN := []) (IT := []) (fu := 6000) vtab (smem1 (vc_58 l) smem0) (by decide +kernel)
/-- SV.stretched  -/
def vC_152 : SCt := (100, 1, 17, [.inl (0, 9), .inl sfull], [], [], [([(0, 9), sfull], [], some (.inl (0, 9)), [], [], [])], ([], []), [])
theorem vc_152 (l : Launch) : scm l vT vR vE 153 6051 vC_152 := scm_of (CS := []) (HN := []) (IT := []) (fu := 6000) vtab smem0 (by decide +kernel)
/-- java/util/Arrays.fill  -/
def vC_153 : SCt := (5, 0, 0, [.inr (.inr (10006, 57)), .inl (0, 0)], [], [], [([(0, 0)], [], none, [], [], [])], ([(57, 0, true)], []), [])
theorem vc_153 (l : Launch) : scm l vT vR vE 153 6051 vC_153 := scm_of (CS := []) (HN := [(0, [(2, (0, 0, 0), [])])]) (IT := [((5, ([((0, 0), 0, 0), ((0, 6), 0, 0)], [], [sref 10006 57, sint (0, 0), sint (2, 0), sint (0, 6)], [], ([], [])), 1, [(0, 2, 0)], [], 1, []), [])]) (fu := 6000) vtab smem0 (by decide +kernel)
/-- World.stretch  -/
def vC_154 : SCt := (99, 5, 122, [.inr (.inr (11, 48))], [], [], [([], [], some (.inl (0, 0)), [], [], []), ([], [], some (.inl (1, 1)), [], [], [])], ([(49, 0, true), (51, 0, true), (55, 0, true), (57, 0, true)], []), [])
theorem vc_154 (l : Launch) : scm l vT vR vE 153 6051 vC_154 := scm_of (CS := [vC_61, vC_89, vC_96, vC_152, vC_153]) (HN := [(121, [(0, (1, 0, 0), [])])]) (IT := [((56, ([((0, 6), 0, 0), ((0, 1), 0, 0)], [], [sref 11 48, sint (2, 0), sint (1, 0), sany], [], ([], [(48, 12, 57)])), 0, [(0, 2, 0), (0, 1, 0)], [], 1, []), []), ((10, ([((0, 8), 0, 0)], [], [sref 11 48, sint (1, 0), sun, sun], [], ([], [(48, 12, 57)])), 0, [(0, 1, 0)], [], 1, []), [])]) (fu := 6000) vtab (smem1 (vc_61 l) (smem1 (vc_89 l) (smem1 (vc_96 l) (smem1 (vc_152 l) (smem1 (vc_153 l) smem0))))) (by decide +kernel)
/-- World.pass  -/
def vC_155 : SCt := (98, 6, 145, [.inr (.inr (11, 48))], [], [], [([], [], none, [], [], [])], ([(48, 7, false), (49, 0, true), (50, 0, true), (51, 0, true), (53, 0, true), (54, 0, true), (55, 0, true), (57, 0, true)], []), [])
theorem vc_155 (l : Launch) : scm l vT vR vE 153 6051 vC_155 := scm_of (CS := [vC_150, vC_151, vC_154]) (HN := []) (IT := []) (fu := 6000) vtab (smem1 (vc_150 l) (smem1 (vc_151 l) (smem1 (vc_154 l) smem0))) (by decide +kernel)
/-- SV.seasons  -/
def vC_156 : SCt := (97, 7, 165, [.inr (.inr (12, 2)), .inl sfull], [], [], [([sfull], [], some (.inl ((-1), (-1))), [], [], []), ([(0, 99)], [], some (.inl sfull), [], [], [])], ([(48, 7, false), (49, 0, true), (50, 0, true), (51, 0, true), (53, 0, true), (54, 0, true), (55, 0, true), (57, 0, true), (81, 0, false)], []), [])
theorem vc_156 (l : Launch) : scm l vT vR vE 153 6051 vC_156 := scm_of (CS := [vC_64, vC_155]) (HN := []) (IT := [((29, ([((0, 99), 0, 0), ((0, 99), 0, 0)], [], [sref 12 2, sint (1, 0), sint (2, 0)], [], ([], [(2, 3, 48)])), 1, [(0, 2, 0)], [], 1, []), [])]) (fu := 6000) vtab (smem1 (vc_64 l) (smem1 (vc_155 l) smem0)) (by decide +kernel)
/-- Mo.isIn  -/
def vC_157 : SCt := (192, 0, 0, [.inl sfull, .inl (0, 0), .inl (99, 99)], [], [], [([(0, 99), (0, 0), (99, 99)], [], some (.inl (1, 1)), [], [], []), ([sfull, (0, 0), (99, 99)], [], some (.inl (0, 0)), [], [], [])], ([], []), [])
theorem vc_157 (l : Launch) : scm l vT vR vE 153 6051 vC_157 := scm_of (CS := []) (HN := [(0, [(2, (0, 0, 0), [])]), (15, [(0, (1, 0, 0), [])])]) (IT := []) (fu := 6000) vtab smem0 (by decide +kernel)
/-- Mo.stepped  -/
def vC_158 : SCt := (245, 0, 0, [.inl (0, 9), .inl sfull], [], [], [([(0, 9), sfull], [], some (.inl (0, 9)), [], [], [])], ([], []), [])
theorem vc_158 (l : Launch) : scm l vT vR vE 153 6051 vC_158 := scm_of (CS := []) (HN := []) (IT := []) (fu := 6000) vtab smem0 (by decide +kernel)
/-- Mo.goOn  -/
def vC_159 : SCt := (244, 9, 242, [.inr (.inr (13, 104)), .inl (0, 0)], [], [], [([(0, 0)], [], none, [], [], [])], ([(104, 54, false), (133, 0, false), (133, 1, false), (133, 2, false), (133, 3, false), (133, 4, false), (133, 5, false), (134, 0, true), (136, 0, true), (137, 0, true), (138, 0, false), (139, 0, true)], []), [])
theorem vc_159 (l : Launch) : scm l vT vR vE 153 6051 vC_159 := scm_of (CS := [vC_104, vC_106, vC_158]) (HN := [(0, [(2, (0, 0, 0), [])]), (38, [(0, (0, 2, 0), [])])]) (IT := [((115, ([((0, 0), 0, 0), ((0, 8), 0, 0), ((0, 6), 0, 0)], [], [sref 13 104, sint (0, 0), sint (2, 0), sany], [], ([(104, 12, (3, 0))], [])), 1, [(0, 2, 0), (2, 104, 12)], [], 1, []), []), ((77, ([((0, 0), 0, 0), ((0, 6), 0, 0), ((0, 6), 0, 0)], [], [sref 13 104, sint (0, 0), sint (2, 0), sany], [], ([(104, 12, (3, 0))], [])), 1, [(0, 2, 0), (2, 104, 12)], [], 1, []), []), ((30, ([((0, 0), 0, 0), ((0, 6), 0, 0), ((0, 6), 0, 0)], [], [sref 13 104, sint (0, 0), sint (2, 0), sun], [], ([(104, 12, (3, 0))], [])), 1, [(0, 2, 0), (2, 104, 12)], [], 1, []), []), ((2, ([((0, 0), 0, 0), ((0, 6), 0, 0)], [], [sref 13 104, sint (0, 0), sint (2, 0), sun], [], ([], [])), 1, [(0, 2, 0)], [], 1, []), [])]) (fu := 6000) vtab (smem1 (vc_104 l) (smem1 (vc_106 l) (smem1 (vc_158 l) smem0))) (by decide +kernel)
/-- Mo.seasons  -/
def vC_160 : SCt := (243, 10, 265, [.inr (.inr (13, 104)), .inl sfull], [], [], [([sfull], [], some (.inl ((-1), (-1))), [], [], []), ([(0, 99)], [], some (.inl sfull), [], [], [])], ([(104, 2, false), (104, 54, false), (104, 63, false), (104, 64, false), (104, 76, false), (133, 0, false), (133, 1, false), (133, 2, false), (133, 3, false), (133, 4, false), (133, 5, false), (134, 0, true), (136, 0, true), (137, 0, true), (138, 0, false), (139, 0, true)], []), [])
theorem vc_160 (l : Launch) : scm l vT vR vE 153 6051 vC_160 := scm_of (CS := [vC_74, vC_157, vC_159]) (HN := []) (IT := [((37, ([((0, 99), 0, 0), ((0, 99), 0, 0)], [], [sref 13 104, sint (1, 0), sint (2, 0)], [], ([(104, 2, (0, 0))], [(104, 60, 138)])), 1, [(0, 2, 0)], [], 1, []), [])]) (fu := 6000) vtab (smem1 (vc_74 l) (smem1 (vc_157 l) (smem1 (vc_159 l) smem0))) (by decide +kernel)
/-- SV.isAhead  -/
def vC_161 : SCt := (104, 0, 0, [.inl sfull], [], [], [([(0, 60)], [], some (.inl (1, 1)), [], [], []), ([sfull], [], some (.inl (0, 0)), [], [], [])], ([], []), [])
theorem vc_161 (l : Launch) : scm l vT vR vE 153 6051 vC_161 := scm_of (CS := []) (HN := [(15, [(0, (1, 0, 0), [])])]) (IT := []) (fu := 6000) vtab smem0 (by decide +kernel)
/-- World.copy  -/
def vC_162 : SCt := (105, 1, 45, [.inr (.inr (11, 59)), .inr (.inr (11, 48))], [], [], [([], [], none, [], [], [])], ([(59, 7, false), (59, 10, false), (60, 0, true), (61, 0, true), (62, 0, true), (63, 0, true), (64, 0, true), (65, 0, true), (66, 0, true), (67, 0, true)], [(59, 0)]), [])
theorem vc_162 (l : Launch) : scm l vT vR vE 153 6051 vC_162 := scm_of (CS := []) (HN := []) (IT := []) (fu := 6000) vtab smem0 (by decide +kernel)
/-- World.nameRegion  -/
def vC_163 : SCt := (77, 0, 0, [.inr (.inr (11, 59)), .inl (0, 5), .inl (0, 9), .inl sfull], [], [], [([(0, 5), (0, 9), sfull], [], none, [], [], [])], ([], []), [])
theorem vc_163 (l : Launch) : scm l vT vR vE 153 6051 vC_163 := scm_of (CS := []) (HN := []) (IT := []) (fu := 6000) vtab smem0 (by decide +kernel)
/-- Laws.work  -/
def vC_164 : SCt := (78, 2, 45, [.inr (.inr (4, 18)), .inl (0, 2), .inr (.inr (40007, 69))], [], [], [([(0, 2)], [], some (.inr true), [], [], [])], ([], []), [])
theorem vc_164 (l : Launch) : scm l vT vR vE 153 6051 vC_164 := scm_of (CS := [vC_91]) (HN := []) (IT := [((10, ([((0, 2), 0, 0), ((0, 64), 0, 0), ((0, 64), 0, 0)], [], [sref 4 18, sint (1, 0), sref 40007 69, sint (3, 0), sint (2, 0), sany, sany, sun], [], ([], [(18, 2, 21)])), 1, [(0, 4, 0), (0, 3, 0)], [], 1, []), [])]) (fu := 6000) vtab (smem1 (vc_91 l) smem0) (by decide +kernel)
/-- Laws.work  -/
def vC_165 : SCt := (78, 2, 45, [.inr (.inr (4, 39)), .inl (0, 2), .inr (.inr (40007, 69))], [], [], [([(0, 2)], [], some (.inr true), [], [], [])], ([], []), [])
theorem vc_165 (l : Launch) : scm l vT vR vE 153 6051 vC_165 := scm_of (CS := [vC_91]) (HN := []) (IT := [((10, ([((0, 2), 0, 0), ((0, 64), 0, 0), ((0, 64), 0, 0)], [], [sref 4 39, sint (1, 0), sref 40007 69, sint (3, 0), sint (2, 0), sany, sany, sun], [], ([], [(39, 2, 42)])), 1, [(0, 4, 0), (0, 3, 0)], [], 1, []), [])]) (fu := 6000) vtab (smem1 (vc_91 l) smem0) (by decide +kernel)
/-- World.yieldBy  -/
def vC_166 : SCt := (82, 3, 72, [.inr (.inr (11, 59)), .inl (0, 5), .inl (0, 9), .inl sfull], [], [], [([(0, 5), (0, 9), sfull], [], some (.inl (0, 9999)), [], [], [])], ([], []), [])
theorem vc_166 (l : Launch) : scm l vT vR vE 153 6051 vC_166 := scm_of (CS := [vC_98, vC_163, vC_164, vC_165]) (HN := []) (IT := []) (fu := 6000) vtab (smem1 (vc_98 l) (smem1 (vc_163 l) (smem1 (vc_164 l) (smem1 (vc_165 l) smem0)))) (by decide +kernel)
/-- World.yieldOf  -/
def vC_167 : SCt := (81, 4, 97, [.inr (.inr (11, 59)), .inl (0, 5)], [], [], [([(0, 5)], [], some (.inl (0, 9999)), [], [], [])], ([], []), [])
theorem vc_167 (l : Launch) : scm l vT vR vE 153 6051 vC_167 := scm_of (CS := [vC_166]) (HN := []) (IT := []) (fu := 6000) vtab (smem1 (vc_166 l) smem0) (by decide +kernel)
/-- World.reap  -/
def vC_168 : SCt := (101, 5, 118, [.inr (.inr (11, 59))], [], [], [([], [], none, [], [], [])], ([(61, 0, true), (65, 0, true)], []), [])
theorem vc_168 (l : Launch) : scm l vT vR vE 153 6051 vC_168 := scm_of (CS := [vC_167]) (HN := []) (IT := [((35, ([((0, 8), 0, 0)], [], [sref 11 59, sint (1, 0)], [], ([], [])), 0, [(0, 1, 0)], [], 1, []), []), ((2, ([((0, 6), 0, 0)], [], [sref 11 59, sint (1, 0)], [], ([], [])), 0, [(0, 1, 0)], [], 1, []), [])]) (fu := 6000) vtab (smem1 (vc_167 l) smem0) (by decide +kernel)
/-- java/util/Arrays.fill  -/
def vC_169 : SCt := (5, 0, 0, [.inr (.inr (10008, 64)), .inl (2, 2)], [], [], [([(2, 2)], [], none, [], [], [])], ([(64, 0, true)], []), [])
theorem vc_169 (l : Launch) : scm l vT vR vE 153 6051 vC_169 := scm_of (CS := []) (HN := [(0, [(2, (0, 0, 0), [])])]) (IT := [((5, ([((2, 2), 0, 0), ((0, 8), 0, 0)], [], [sref 10008 64, sint (0, 2), sint (2, 0), sint (0, 8)], [], ([], [])), 1, [(0, 2, 0)], [], 1, []), [])]) (fu := 6000) vtab smem0 (by decide +kernel)
/-- World.close  -/
def vC_170 : SCt := (102, 1, 23, [.inr (.inr (11, 59))], [], [], [([], [], none, [], [], [])], ([(59, 7, false), (64, 0, true)], []), [])
theorem vc_170 (l : Launch) : scm l vT vR vE 153 6051 vC_170 := scm_of (CS := [vC_169]) (HN := []) (IT := []) (fu := 6000) vtab (smem1 (vc_169 l) smem0) (by decide +kernel)
/-- java/util/Arrays.fill  -/
def vC_171 : SCt := (5, 0, 0, [.inr (.inr (10006, 68)), .inl (0, 0)], [], [], [([(0, 0)], [], none, [], [], [])], ([(68, 0, true)], []), [])
theorem vc_171 (l : Launch) : scm l vT vR vE 153 6051 vC_171 := scm_of (CS := []) (HN := [(0, [(2, (0, 0, 0), [])])]) (IT := [((5, ([((0, 0), 0, 0), ((0, 6), 0, 0)], [], [sref 10006 68, sint (0, 0), sint (2, 0), sint (0, 6)], [], ([], [])), 1, [(0, 2, 0)], [], 1, []), [])]) (fu := 6000) vtab smem0 (by decide +kernel)
/-- java/util/Arrays.fill  -/
def vC_172 : SCt := (5, 0, 0, [.inr (.inr (10006, 66)), .inl (0, 0)], [], [], [([(0, 0)], [], none, [], [], [])], ([(66, 0, true)], []), [])
theorem vc_172 (l : Launch) : scm l vT vR vE 153 6051 vC_172 := scm_of (CS := []) (HN := [(0, [(2, (0, 0, 0), [])])]) (IT := [((5, ([((0, 0), 0, 0), ((0, 6), 0, 0)], [], [sref 10006 66, sint (0, 0), sint (2, 0), sint (0, 6)], [], ([], [])), 1, [(0, 2, 0)], [], 1, []), [])]) (fu := 6000) vtab smem0 (by decide +kernel)
/-- World.tearJoins  -/
def vC_173 : SCt := (66, 1, 23, [.inr (.inr (11, 59))], [], [], [([], [], none, [], [], [])], ([(62, 0, true), (66, 0, true)], []), [])
theorem vc_173 (l : Launch) : scm l vT vR vE 153 6051 vC_173 := scm_of (CS := [vC_172]) (HN := []) (IT := [((31, ([((0, 9), 0, 0), (sfull, 0, 0), (((-1), 4), 0, 0)], [], [sref 11 59, sint (2, 0), sint (1, 0), sany, sany], [], ([(59, 10, (3, 0))], [(59, 8, 66)])), 0, [(0, 2, 0), (0, 1, 0), (2, 59, 10)], [], 1, []), [])]) (fu := 6000) vtab (smem1 (vc_172 l) smem0) (by decide +kernel)
/-- World.weightOf  -/
def vC_174 : SCt := (74, 0, 0, [.inr (.inr (11, 59)), .inl (0, 7)], [], [], [([(0, 7)], [], some (.inl (1, 1)), [], [], []), ([(0, 7)], [], some (.inl (0, 3)), [], [], [])], ([], []), [])
theorem vc_174 (l : Launch) : scm l vT vR vE 153 6051 vC_174 := scm_of (CS := []) (HN := []) (IT := []) (fu := 6000) vtab smem0 (by decide +kernel)
/-- World.gainOf  -/
def vC_175 : SCt := (76, 3, 72, [.inr (.inr (11, 59)), .inl (0, 7), .inl (0, 5), .inl (0, 9)], [], [], [([(0, 7), (0, 5), (0, 9)], [], some (.inl (0, 9)), [], [], []), ([(0, 7), (0, 5), (0, 9)], [], some (.inl ((-99), 99)), [], [], [])], ([], []), [])
theorem vc_175 (l : Launch) : scm l vT vR vE 153 6051 vC_175 := scm_of (CS := [vC_94, vC_163, vC_164, vC_165]) (HN := []) (IT := []) (fu := 6000) vtab (smem1 (vc_94 l) (smem1 (vc_163 l) (smem1 (vc_164 l) (smem1 (vc_165 l) smem0)))) (by decide +kernel)
/-- World.voteOf  -/
def vC_176 : SCt := (75, 4, 98, [.inr (.inr (11, 59)), .inl (0, 7)], [], [], [([(0, 7)], [], some (.inl (0, 0)), [], [], []), ([(0, 7)], [], some (.inl ((-1), 2)), [], [], []), ([(0, 7)], [], some (.inl (1, 1)), [], [], []), ([(0, 7)], [], some (.inl ((-1), (-1))), [], [], [])], ([], []), [])
theorem vc_176 (l : Launch) : scm l vT vR vE 153 6051 vC_176 := scm_of (CS := [vC_175]) (HN := []) (IT := []) (fu := 6000) vtab (smem1 (vc_175 l) smem0) (by decide +kernel)
/-- World.stretch  -/
def vC_177 : SCt := (99, 5, 122, [.inr (.inr (11, 59))], [], [], [([], [], some (.inl (0, 0)), [], [], []), ([], [], some (.inl (1, 1)), [], [], [])], ([(60, 0, true), (62, 0, true), (66, 0, true), (68, 0, true)], []), [])
theorem vc_177 (l : Launch) : scm l vT vR vE 153 6051 vC_177 := scm_of (CS := [vC_152, vC_171, vC_173, vC_174, vC_176]) (HN := [(121, [(0, (1, 0, 0), [])])]) (IT := [((56, ([((0, 6), 0, 0), ((0, 1), 0, 0)], [], [sref 11 59, sint (2, 0), sint (1, 0), sany], [], ([], [(59, 12, 68)])), 0, [(0, 2, 0), (0, 1, 0)], [], 1, []), []), ((10, ([((0, 8), 0, 0)], [], [sref 11 59, sint (1, 0), sun, sun], [], ([], [(59, 12, 68)])), 0, [(0, 1, 0)], [], 1, []), [])]) (fu := 6000) vtab (smem1 (vc_152 l) (smem1 (vc_171 l) (smem1 (vc_173 l) (smem1 (vc_174 l) (smem1 (vc_176 l) smem0))))) (by decide +kernel)
/-- World.pass  -/
def vC_178 : SCt := (98, 6, 145, [.inr (.inr (11, 59))], [], [], [([], [], none, [], [], [])], ([(59, 7, false), (60, 0, true), (61, 0, true), (62, 0, true), (64, 0, true), (65, 0, true), (66, 0, true), (68, 0, true)], []), [])
theorem vc_178 (l : Launch) : scm l vT vR vE 153 6051 vC_178 := scm_of (CS := [vC_168, vC_170, vC_177]) (HN := []) (IT := []) (fu := 6000) vtab (smem1 (vc_168 l) (smem1 (vc_170 l) (smem1 (vc_177 l) smem0))) (by decide +kernel)
/-- SV.ahead  -/
def vC_179 : SCt := (103, 7, 165, [.inr (.inr (12, 2)), .inl sfull, .inl sfull, .inl sfull], [], [], [([sfull, sfull, sfull], [], some (.inl ((-1), (-1))), [], [], []), ([(0, 5), (0, 60), (0, 0)], [], some (.inl (0, 9)), [], [], []), ([(0, 5), (0, 60), (1, 1)], [], some (.inl sfull), [], [], [])], ([(59, 7, false), (59, 10, false), (60, 0, true), (61, 0, true), (62, 0, true), (63, 0, true), (64, 0, true), (65, 0, true), (66, 0, true), (67, 0, true), (68, 0, true)], [(59, 0)]), [])
theorem vc_179 (l : Launch) : scm l vT vR vE 153 6051 vC_179 := scm_of (CS := [vC_88, vC_161, vC_162, vC_178]) (HN := []) (IT := [((40, ([((0, 5), 0, 0), ((0, 60), 0, 0), ((0, 1), 0, 0), ((0, 60), 0, 0)], [], [sref 12 2, sint (1, 0), sint (2, 0), sint (3, 0), sint (4, 0)], [], ([], [(2, 3, 48), (2, 4, 59)])), 3, [(0, 4, 0)], [], 1, []), [])]) (fu := 6000) vtab (smem1 (vc_88 l) (smem1 (vc_161 l) (smem1 (vc_162 l) (smem1 (vc_178 l) smem0)))) (by decide +kernel)
/-- Mo.isIn  -/
def vC_180 : SCt := (192, 0, 0, [.inl sfull, .inl (0, 0), .inl (60, 60)], [], [], [([(0, 60), (0, 0), (60, 60)], [], some (.inl (1, 1)), [], [], []), ([sfull, (0, 0), (60, 60)], [], some (.inl (0, 0)), [], [], [])], ([], []), [])
theorem vc_180 (l : Launch) : scm l vT vR vE 153 6051 vC_180 := scm_of (CS := []) (HN := [(0, [(2, (0, 0, 0), [])]), (15, [(0, (1, 0, 0), [])])]) (IT := []) (fu := 6000) vtab smem0 (by decide +kernel)
/-- Mo.layTried  -/
def vC_181 : SCt := (247, 1, 20, [.inr (.inr (13, 104))], [], [], [([], [], none, [(133, 6, (0, 9)), (133, 7, (0, 9)), (133, 8, (0, 9)), (133, 9, (0, 9)), (133, 10, (0, 9)), (133, 11, (0, 9))], [], [])], ([(104, 63, false), (104, 64, false), (133, 6, false), (133, 7, false), (133, 8, false), (133, 9, false), (133, 10, false), (133, 11, false), (134, 6, false), (134, 7, false), (134, 8, false), (134, 9, false), (134, 10, false), (134, 11, false), (135, 8, false), (135, 9, false), (135, 10, false), (135, 11, false), (135, 12, false), (135, 13, false), (135, 14, false), (135, 15, false), (136, 8, false), (136, 9, false), (136, 10, false), (136, 11, false), (136, 12, false), (136, 13, false), (136, 14, false), (136, 15, false), (137, 8, false), (137, 9, false), (137, 10, false), (137, 11, false), (137, 12, false), (137, 13, false), (137, 14, false), (137, 15, false), (138, 1, false)], []), [])
theorem vc_181 (l : Launch) : scm l vT vR vE 153 6051 vC_181 := scm_of (CS := [vC_74]) (HN := []) (IT := []) (fu := 6000) vtab (smem1 (vc_74 l) smem0) (by decide +kernel)
/-- Mo.stepped  -/
def vC_182 : SCt := (245, 0, 0, [.inl ((-1), 10), .inl sfull], [], [], [([((-1), 10), sfull], [], some (.inl (0, 10)), [], [], []), ([((-1), 10), ((-2147483648), 0)], [], some (.inl ((-1), 10)), [], [], [])], ([], []), [])
theorem vc_182 (l : Launch) : scm l vT vR vE 153 6051 vC_182 := scm_of (CS := []) (HN := []) (IT := []) (fu := 6000) vtab smem0 (by decide +kernel)
/-- Mo.goOn  -/
def vC_183 : SCt := (244, 9, 242, [.inr (.inr (13, 104)), .inl (1, 1)], [], [], [([(1, 1)], [], none, [], [], [])], ([(104, 54, false), (133, 6, false), (133, 7, false), (133, 8, false), (133, 9, false), (133, 10, false), (133, 11, false), (134, 0, true), (136, 0, true), (137, 0, true), (138, 1, false), (139, 0, true)], []), [])
theorem vc_183 (l : Launch) : scm l vT vR vE 153 6051 vC_183 := scm_of (CS := [vC_104, vC_106, vC_182]) (HN := [(0, [(2, (0, 0, 0), [])]), (38, [(0, (0, 2, 0), [])])]) (IT := [((115, ([((1, 1), 0, 0), ((0, 8), 0, 0), ((0, 6), 0, 0)], [], [sref 13 104, sint (0, 1), sint (2, 0), sany], [], ([(104, 12, (3, 0))], [])), 1, [(0, 2, 0), (2, 104, 12)], [], 1, []), []), ((77, ([((1, 1), 0, 0), ((0, 6), 0, 0), ((0, 6), 0, 0)], [], [sref 13 104, sint (0, 1), sint (2, 0), sany], [], ([(104, 12, (3, 0))], [])), 1, [(0, 2, 0), (2, 104, 12)], [], 1, []), []), ((30, ([((1, 1), 0, 0), ((0, 6), 0, 0), ((0, 6), 0, 0)], [], [sref 13 104, sint (0, 1), sint (2, 0), sun], [], ([(104, 12, (3, 0))], [])), 1, [(0, 2, 0), (2, 104, 12)], [], 1, []), []), ((2, ([((1, 1), 0, 0), ((0, 6), 0, 0)], [], [sref 13 104, sint (0, 1), sint (2, 0), sun], [], ([], [])), 1, [(0, 2, 0)], [], 1, []), [])]) (fu := 6000) vtab (smem1 (vc_104 l) (smem1 (vc_106 l) (smem1 (vc_182 l) smem0))) (by decide +kernel)
/-- Mo.goMany  -/
def vC_184 : SCt := (248, 10, 265, [.inr (.inr (13, 104)), .inl (0, 60)], [], [], [([(0, 60)], [], none, [], [], [])], ([(104, 54, false), (133, 6, false), (133, 7, false), (133, 8, false), (133, 9, false), (133, 10, false), (133, 11, false), (134, 0, true), (136, 0, true), (137, 0, true), (138, 1, false), (139, 0, true)], []), [])
theorem vc_184 (l : Launch) : scm l vT vR vE 153 6051 vC_184 := scm_of (CS := [vC_183]) (HN := []) (IT := [((2, ([((0, 60), 0, 0), ((0, 60), 0, 0)], [], [sref 13 104, sint (1, 0), sint (2, 0)], [], ([], [])), 1, [(0, 2, 0)], [], 1, []), [])]) (fu := 6000) vtab (smem1 (vc_183 l) smem0) (by decide +kernel)
/-- Mo.ahead  -/
def vC_185 : SCt := (246, 11, 287, [.inr (.inr (13, 104)), .inl sfull, .inl sfull, .inl sfull], [], [], [([sfull, sfull, sfull], [], some (.inl ((-1), (-1))), [], [], []), ([(0, 5), (0, 60), (0, 1)], [], some (.inl sfull), [], [], [])], ([(104, 2, false), (104, 54, false), (104, 63, false), (104, 64, false), (133, 6, false), (133, 7, false), (133, 8, false), (133, 9, false), (133, 10, false), (133, 11, false), (134, 0, true), (135, 8, false), (135, 9, false), (135, 10, false), (135, 11, false), (135, 12, false), (135, 13, false), (135, 14, false), (135, 15, false), (136, 0, true), (137, 0, true), (138, 1, false), (139, 0, true)], []), [])
theorem vc_185 (l : Launch) : scm l vT vR vE 153 6051 vC_185 := scm_of (CS := [vC_102, vC_111, vC_180, vC_181, vC_184]) (HN := []) (IT := []) (fu := 6000) vtab (smem1 (vc_102 l) (smem1 (vc_111 l) (smem1 (vc_180 l) (smem1 (vc_181 l) (smem1 (vc_184 l) smem0))))) (by decide +kernel)
/-- SV.steady  -/
def vC_186 : SCt := (106, 6, 145, [.inr (.inr (12, 2)), .inl sfull], [], [], [([sfull], [], some (.inl ((-1), (-1))), [], [], []), ([(1, 99)], [], some (.inl (0, 99)), [], [], []), ([(1, 99)], [], some (.inl ((-2), (-2))), [], [], [])], ([(59, 7, false), (59, 10, false), (60, 0, true), (61, 0, true), (62, 0, true), (63, 0, true), (64, 0, true), (65, 0, true), (66, 0, true), (67, 0, true), (68, 0, true)], [(59, 0)]), [])
theorem vc_186 (l : Launch) : scm l vT vR vE 153 6051 vC_186 := scm_of (CS := [vC_162, vC_170, vC_177]) (HN := []) (IT := [((26, ([((1, 99), 0, 0), ((0, 100), 0, 0)], [], [sref 12 2, sint (1, 0), sint (2, 0)], [], ([], [(2, 3, 48), (2, 4, 59)])), 1, [(0, 2, 0)], [], 1, []), [])]) (fu := 6000) vtab (smem1 (vc_162 l) (smem1 (vc_170 l) (smem1 (vc_177 l) smem0))) (by decide +kernel)
/-- Mo.isIn  -/
def vC_187 : SCt := (192, 0, 0, [.inl sfull, .inl (1, 1), .inl (99, 99)], [], [], [([(1, 99), (1, 1), (99, 99)], [], some (.inl (1, 1)), [], [], []), ([sfull, (1, 1), (99, 99)], [], some (.inl (0, 0)), [], [], [])], ([], []), [])
theorem vc_187 (l : Launch) : scm l vT vR vE 153 6051 vC_187 := scm_of (CS := []) (HN := [(0, [(2, (0, 0, 0), [])]), (15, [(0, (1, 0, 0), [])])]) (IT := []) (fu := 6000) vtab smem0 (by decide +kernel)
/-- Mo.steady  -/
def vC_188 : SCt := (249, 10, 265, [.inr (.inr (13, 104)), .inl sfull], [], [], [([sfull], [], some (.inl ((-1), (-1))), [], [], []), ([(1, 99)], [], some (.inl ((-2), (-2))), [], [], []), ([(1, 99)], [], some (.inl (0, 99)), [], [], [])], ([(104, 2, false), (104, 54, false), (104, 63, false), (104, 64, false), (133, 6, false), (133, 7, false), (133, 8, false), (133, 9, false), (133, 10, false), (133, 11, false), (134, 0, true), (135, 8, false), (135, 9, false), (135, 10, false), (135, 11, false), (135, 12, false), (135, 13, false), (135, 14, false), (135, 15, false), (136, 0, true), (137, 0, true), (138, 1, false), (139, 0, true)], []), [])
theorem vc_188 (l : Launch) : scm l vT vR vE 153 6051 vC_188 := scm_of (CS := [vC_104, vC_181, vC_182, vC_183, vC_187]) (HN := []) (IT := [((33, ([((1, 99), 0, 0), ((0, 99), 0, 0), ((0, 6), 0, 0), ((0, 1), 0, 0)], [], [sref 13 104, sint (1, 0), sint (2, 0), sint (4, 0), sint (3, 0)], [], ([(104, 2, (0, 0))], [])), 2, [(0, 4, 0), (0, 3, 0)], [], 1, []), [1]), ((23, ([((1, 99), 0, 0), ((0, 100), 0, 0)], [], [sref 13 104, sint (1, 0), sint (2, 0), sany, sany], [], ([(104, 2, (0, 0))], [])), 1, [(0, 2, 0)], [], 1, []), [])]) (fu := 6000) vtab (smem1 (vc_104 l) (smem1 (vc_181 l) (smem1 (vc_182 l) (smem1 (vc_183 l) (smem1 (vc_187 l) smem0))))) (by decide +kernel)
/-- Ballot.bitsIn  -/
def vC_189 : SCt := (109, 0, 0, [.inr (.inr (11, 48)), .inl (0, 5)], [], [], [([(0, 5)], [], some (.inl (0, 255)), [], [], [])], ([], []), [])
theorem vc_189 (l : Launch) : scm l vT vR vE 153 6051 vC_189 := scm_of (CS := []) (HN := []) (IT := [((4, ([((0, 5), 0, 0), ((0, 8), 0, 0), ((0, 255), 0, 0)], [], [sref 11 48, sint (1, 0), sint (3, 0), sint (2, 0)], [], ([], [])), 1, [(0, 3, 0), (0, 2, 0)], [], 1, []), [])]) (fu := 6000) vtab smem0 (by decide +kernel)
/-- Ballot.weightIn  -/
def vC_190 : SCt := (110, 1, 21, [.inr (.inr (11, 48)), .inl (0, 255)], [], [], [([(0, 255)], [], some (.inl sfull), [], [], [])], ([], []), [])
theorem vc_190 (l : Launch) : scm l vT vR vE 153 6051 vC_190 := scm_of (CS := [vC_89]) (HN := []) (IT := [((4, ([((0, 255), 0, 0), ((0, 8), 0, 0), (sfull, 0, 0)], [], [sref 11 48, sint (1, 0), sint (3, 0), sint (2, 0)], [], ([], [])), 1, [(0, 3, 0), (0, 2, 0)], [], 1, []), [])]) (fu := 6000) vtab (smem1 (vc_89 l) smem0) (by decide +kernel)
/-- Ballot.setsDecidedBy  -/
def vC_191 : SCt := (108, 2, 44, [.inr (.inr (1, 91)), .inr (.inr (11, 48)), .inl (0, 7)], [], [], [([(0, 7)], [], some (.inl sfull), [], [], [])], ([], []), [])
theorem vc_191 (l : Launch) : scm l vT vR vE 153 6051 vC_191 := scm_of (CS := [vC_89, vC_189, vC_190]) (HN := []) (IT := [((33, ([((0, 7), 0, 0), ((0, 256), 0, 0), ((0, 5), 0, 0), ((0, 3), 0, 0), ((0, 255), 0, 0), (sfull, 0, 0)], [], [sref 1 91, sref 11 48, sint (1, 0), sint (3, 0), sint (4, 0), sint (5, 0), sint (6, 0), sint (2, 0), sany], [], ([], [(48, 4, 52)])), 1, [(0, 7, 0), (0, 3, 0), (0, 4, 0), (0, 5, 0), (0, 6, 0)], [], 1, []), [])]) (fu := 6000) vtab (smem1 (vc_89 l) (smem1 (vc_189 l) (smem1 (vc_190 l) smem0))) (by decide +kernel)
/-- SV.decides  -/
def vC_192 : SCt := (107, 3, 72, [.inr (.inr (12, 2)), .inl sfull], [], [], [([sfull], [], some (.inl ((-1), (-1))), [], [], []), ([(0, 7)], [], some (.inl sfull), [], [], [])], ([], []), [])
theorem vc_192 (l : Launch) : scm l vT vR vE 153 6051 vC_192 := scm_of (CS := [vC_114, vC_191]) (HN := []) (IT := []) (fu := 6000) vtab (smem1 (vc_114 l) (smem1 (vc_191 l) smem0)) (by decide +kernel)
/-- Mo.thereIn  -/
def vC_193 : SCt := (251, 0, 0, [.inr (.inr (13, 104)), .inl (0, 5)], [], [], [([(0, 5)], [], some (.inl (0, 255)), [], [], [])], ([], []), [])
theorem vc_193 (l : Launch) : scm l vT vR vE 153 6051 vC_193 := scm_of (CS := []) (HN := []) (IT := [((4, ([((0, 5), 0, 0), ((0, 8), 0, 0), ((0, 255), 0, 0)], [], [sref 13 104, sint (1, 0), sint (3, 0), sint (2, 0)], [], ([], [])), 1, [(0, 3, 0), (0, 2, 0)], [], 1, []), [])]) (fu := 6000) vtab smem0 (by decide +kernel)
/-- Mo.isOf  -/
def vC_194 : SCt := (252, 0, 0, [.inl (0, 255), .inl (0, 7)], [], [], [([(0, 255), (0, 7)], [], some (.inl (1, 1)), [], [], []), ([(0, 255), (0, 7)], [], some (.inl (0, 0)), [], [], [])], ([], []), [])
theorem vc_194 (l : Launch) : scm l vT vR vE 153 6051 vC_194 := scm_of (CS := []) (HN := [(14, [(0, (1, 0, 0), [])])]) (IT := []) (fu := 6000) vtab smem0 (by decide +kernel)
