/-! THE LAW: a turn, call by call. -/
theorem vl_213 (l : Launch) (x0 : Int32) (x1 : Int32) (h : XH) (hg : sgood vT vR vE 153 6051 h) (a0 : (-2147483648) ≤ x0.toInt ∧ x0.toInt ≤ 2147483647) (a1 : (-2147483648) ≤ x1.toInt ∧ x1.toInt ≤ 2147483647) : ∃ (v : Int32) (h' : XH), CX l 8 218 false 213 [xf 13 104, xi x0, xi x1] h [xi v] h' ∧ sgood vT vR vE 153 6051 h' ∧ sframe ([(104, 2, false), (104, 54, false), (104, 63, false), (104, 64, false)], []) h h' ∧ (((0 ≤ v.toInt ∧ v.toInt ≤ 0)) ∨ ((0 ≤ x0.toInt ∧ x0.toInt ≤ 7) ∧ (3 ≤ x1.toInt ∧ x1.toInt ≤ 5) ∧ (1 ≤ v.toInt ∧ v.toInt ≤ 1)) ∨ ((0 ≤ x0.toInt ∧ x0.toInt ≤ 7) ∧ (3 ≤ x1.toInt ∧ x1.toInt ≤ 4) ∧ ((-2147483648) ≤ v.toInt ∧ v.toInt ≤ 2147483647)) ∨ ((0 ≤ x0.toInt ∧ x0.toInt ≤ 7) ∧ (3 ≤ x1.toInt ∧ x1.toInt ≤ 3) ∧ ((-1) ≤ v.toInt ∧ v.toInt ≤ (-1))) ∨ ((0 ≤ x0.toInt ∧ x0.toInt ≤ 7) ∧ (0 ≤ x1.toInt ∧ x1.toInt ≤ 2) ∧ (0 ≤ v.toInt ∧ v.toInt ≤ 9))) := by
  have ha : sargs (cap vC_87) [xf 13 104, xi x0, xi x1] := ⟨rfl, a0, a1, trivial⟩
  obtain ⟨ρ, rs, h', ⟨hv, hw⟩, c, g, f, cs, hcs, k1, k2, k3, k4, k5, k6⟩ := vc_87 l [xf 13 104, xi x0, xi x1] h ha hg (fun q hq => absurd hq List.not_mem_nil) (fun q hq => absurd hq List.not_mem_nil) (fun ρ hρ g hg' => absurd hg' List.not_mem_nil)
  have e0 : ρ 0 = x0.toInt := hv.1
  have e1 : ρ 1 = x1.toInt := hv.2.1
  rcases List.mem_cons.mp hcs with rfl | hcs
  · obtain ⟨v, rfl, kv⟩ := sres_i k3
    exact ⟨v, h', c, g, f, Or.inl kv⟩
  rcases List.mem_cons.mp hcs with rfl | hcs
  · obtain ⟨v, rfl, kv⟩ := sres_i k3
    exact ⟨v, h', c, g, f, Or.inr (Or.inl ⟨(by have z := k1 0 _ rfl; rw [e0] at z; exact z), (by have z := k1 1 _ rfl; rw [e1] at z; exact z), kv⟩)⟩
  rcases List.mem_cons.mp hcs with rfl | hcs
  · obtain ⟨v, rfl, kv⟩ := sres_i k3
    exact ⟨v, h', c, g, f, Or.inr (Or.inr (Or.inl ⟨(by have z := k1 0 _ rfl; rw [e0] at z; exact z), (by have z := k1 1 _ rfl; rw [e1] at z; exact z), kv⟩))⟩
  rcases List.mem_cons.mp hcs with rfl | hcs
  · obtain ⟨v, rfl, kv⟩ := sres_i k3
    exact ⟨v, h', c, g, f, Or.inr (Or.inr (Or.inr (Or.inl ⟨(by have z := k1 0 _ rfl; rw [e0] at z; exact z), (by have z := k1 1 _ rfl; rw [e1] at z; exact z), kv⟩)))⟩
  rcases List.mem_cons.mp hcs with rfl | hcs
  · obtain ⟨v, rfl, kv⟩ := sres_i k3
    exact ⟨v, h', c, g, f, Or.inr (Or.inr (Or.inr (Or.inr (⟨(by have z := k1 0 _ rfl; rw [e0] at z; exact z), (by have z := k1 1 _ rfl; rw [e1] at z; exact z), kv⟩))))⟩
  exact absurd hcs List.not_mem_nil
theorem vl_71 (l : Launch) (x0 : Int32) (x1 : Int32) (h : XH) (hg : sgood vT vR vE 153 6051 h) (a0 : (-2147483648) ≤ x0.toInt ∧ x0.toInt ≤ 2147483647) (a1 : (-2147483648) ≤ x1.toInt ∧ x1.toInt ≤ 2147483647) : ∃ (v : Int32) (h' : XH), CX l 6 145 false 71 [xf 12 2, xi x0, xi x1] h [xi v] h' ∧ sgood vT vR vE 153 6051 h' ∧ sframe ([], []) h h' ∧ ((((-2147483648) ≤ v.toInt ∧ v.toInt ≤ 2147483647)) ∨ ((0 ≤ x0.toInt ∧ x0.toInt ≤ 5) ∧ (0 ≤ x1.toInt ∧ x1.toInt ≤ 5) ∧ (0 ≤ v.toInt ∧ v.toInt ≤ 9999))) := by
  have ha : sargs (cap vC_101) [xf 12 2, xi x0, xi x1] := ⟨rfl, a0, a1, trivial⟩
  obtain ⟨ρ, rs, h', ⟨hv, hw⟩, c, g, f, cs, hcs, k1, k2, k3, k4, k5, k6⟩ := vc_101 l [xf 12 2, xi x0, xi x1] h ha hg (fun q hq => absurd hq List.not_mem_nil) (fun q hq => absurd hq List.not_mem_nil) (fun ρ hρ g hg' => absurd hg' List.not_mem_nil)
  have e0 : ρ 0 = x0.toInt := hv.1
  have e1 : ρ 1 = x1.toInt := hv.2.1
  rcases List.mem_cons.mp hcs with rfl | hcs
  · obtain ⟨v, rfl, kv⟩ := sres_i k3
    exact ⟨v, h', c, g, f, Or.inl kv⟩
  rcases List.mem_cons.mp hcs with rfl | hcs
  · obtain ⟨v, rfl, kv⟩ := sres_i k3
    exact ⟨v, h', c, g, f, Or.inr (⟨(by have z := k1 0 _ rfl; rw [e0] at z; exact z), (by have z := k1 1 _ rfl; rw [e1] at z; exact z), kv⟩)⟩
  exact absurd hcs List.not_mem_nil
theorem vl_230 (l : Launch) (x0 : Int32) (x1 : Int32) (h : XH) (hg : sgood vT vR vE 153 6051 h) (a0 : (-2147483648) ≤ x0.toInt ∧ x0.toInt ≤ 2147483647) (a1 : (-2147483648) ≤ x1.toInt ∧ x1.toInt ≤ 2147483647) : ∃ (v : Int32) (h' : XH), CX l 9 242 false 230 [xf 13 104, xi x0, xi x1] h [xi v] h' ∧ sgood vT vR vE 153 6051 h' ∧ sframe ([(104, 2, false), (104, 54, false), (104, 63, false), (104, 64, false)], []) h h' ∧ ((((-2147483648) ≤ v.toInt ∧ v.toInt ≤ 2147483647)) ∨ ((0 ≤ x0.toInt ∧ x0.toInt ≤ 5) ∧ (1 ≤ x1.toInt ∧ x1.toInt ≤ 2) ∧ (0 ≤ v.toInt ∧ v.toInt ≤ 99))) := by
  have ha : sargs (cap vC_107) [xf 13 104, xi x0, xi x1] := ⟨rfl, a0, a1, trivial⟩
  obtain ⟨ρ, rs, h', ⟨hv, hw⟩, c, g, f, cs, hcs, k1, k2, k3, k4, k5, k6⟩ := vc_107 l [xf 13 104, xi x0, xi x1] h ha hg (fun q hq => absurd hq List.not_mem_nil) (fun q hq => absurd hq List.not_mem_nil) (fun ρ hρ g hg' => absurd hg' List.not_mem_nil)
  have e0 : ρ 0 = x0.toInt := hv.1
  have e1 : ρ 1 = x1.toInt := hv.2.1
  rcases List.mem_cons.mp hcs with rfl | hcs
  · obtain ⟨v, rfl, kv⟩ := sres_i k3
    exact ⟨v, h', c, g, f, Or.inl kv⟩
  rcases List.mem_cons.mp hcs with rfl | hcs
  · obtain ⟨v, rfl, kv⟩ := sres_i k3
    exact ⟨v, h', c, g, f, Or.inr (⟨(by have z := k1 0 _ rfl; rw [e0] at z; exact z), (by have z := k1 1 _ rfl; rw [e1] at z; exact z), kv⟩)⟩
  exact absurd hcs List.not_mem_nil
theorem vl_83 (l : Launch) (x0 : Int32) (x1 : Int32) (x2 : Int32) (h : XH) (hg : sgood vT vR vE 153 6051 h) (a0 : (-2147483648) ≤ x0.toInt ∧ x0.toInt ≤ 2147483647) (a1 : (-2147483648) ≤ x1.toInt ∧ x1.toInt ≤ 2147483647) (a2 : (-2147483648) ≤ x2.toInt ∧ x2.toInt ≤ 2147483647) : ∃ (v : Int32) (h' : XH), CX l 1 25 false 83 [xf 12 2, xi x0, xi x1, xi x2] h [xi v] h' ∧ sgood vT vR vE 153 6051 h' ∧ sframe ([], []) h h' ∧ ((((-1) ≤ v.toInt ∧ v.toInt ≤ (-1))) ∨ ((0 ≤ x0.toInt ∧ x0.toInt ≤ 5) ∧ (0 ≤ x1.toInt ∧ x1.toInt ≤ 5) ∧ (0 ≤ x2.toInt ∧ x2.toInt ≤ 1) ∧ ((-2) ≤ v.toInt ∧ v.toInt ≤ (-2))) ∨ ((0 ≤ x0.toInt ∧ x0.toInt ≤ 5) ∧ (0 ≤ x1.toInt ∧ x1.toInt ≤ 5) ∧ (0 ≤ x2.toInt ∧ x2.toInt ≤ 1) ∧ (0 ≤ v.toInt ∧ v.toInt ≤ 9))) := by
  have ha : sargs (cap vC_110) [xf 12 2, xi x0, xi x1, xi x2] := ⟨rfl, a0, a1, a2, trivial⟩
  obtain ⟨ρ, rs, h', ⟨hv, hw⟩, c, g, f, cs, hcs, k1, k2, k3, k4, k5, k6⟩ := vc_110 l [xf 12 2, xi x0, xi x1, xi x2] h ha hg (fun q hq => absurd hq List.not_mem_nil) (fun q hq => absurd hq List.not_mem_nil) (fun ρ hρ g hg' => absurd hg' List.not_mem_nil)
  have e0 : ρ 0 = x0.toInt := hv.1
  have e1 : ρ 1 = x1.toInt := hv.2.1
  have e2 : ρ 2 = x2.toInt := hv.2.2.1
  rcases List.mem_cons.mp hcs with rfl | hcs
  · obtain ⟨v, rfl, kv⟩ := sres_i k3
    exact ⟨v, h', c, g, f, Or.inl kv⟩
  rcases List.mem_cons.mp hcs with rfl | hcs
  · obtain ⟨v, rfl, kv⟩ := sres_i k3
    exact ⟨v, h', c, g, f, Or.inr (Or.inl ⟨(by have z := k1 0 _ rfl; rw [e0] at z; exact z), (by have z := k1 1 _ rfl; rw [e1] at z; exact z), (by have z := k1 2 _ rfl; rw [e2] at z; exact z), kv⟩)⟩
  rcases List.mem_cons.mp hcs with rfl | hcs
  · obtain ⟨v, rfl, kv⟩ := sres_i k3
    exact ⟨v, h', c, g, f, Or.inr (Or.inr (⟨(by have z := k1 0 _ rfl; rw [e0] at z; exact z), (by have z := k1 1 _ rfl; rw [e1] at z; exact z), (by have z := k1 2 _ rfl; rw [e2] at z; exact z), kv⟩))⟩
  exact absurd hcs List.not_mem_nil
theorem vl_235 (l : Launch) (x0 : Int32) (x1 : Int32) (x2 : Int32) (h : XH) (hg : sgood vT vR vE 153 6051 h) (a0 : (-2147483648) ≤ x0.toInt ∧ x0.toInt ≤ 2147483647) (a1 : (-2147483648) ≤ x1.toInt ∧ x1.toInt ≤ 2147483647) (a2 : (-2147483648) ≤ x2.toInt ∧ x2.toInt ≤ 2147483647) : ∃ (v : Int32) (h' : XH), CX l 2 45 false 235 [xf 13 104, xi x0, xi x1, xi x2] h [xi v] h' ∧ sgood vT vR vE 153 6051 h' ∧ sframe ([(104, 2, false), (104, 63, false), (104, 64, false)], []) h h' ∧ ((((-1) ≤ v.toInt ∧ v.toInt ≤ (-1))) ∨ ((0 ≤ x0.toInt ∧ x0.toInt ≤ 5) ∧ (0 ≤ x1.toInt ∧ x1.toInt ≤ 5) ∧ (0 ≤ x2.toInt ∧ x2.toInt ≤ 1) ∧ ((-2) ≤ v.toInt ∧ v.toInt ≤ (-2))) ∨ ((0 ≤ x0.toInt ∧ x0.toInt ≤ 5) ∧ (0 ≤ x1.toInt ∧ x1.toInt ≤ 5) ∧ (0 ≤ x2.toInt ∧ x2.toInt ≤ 0) ∧ (0 ≤ v.toInt ∧ v.toInt ≤ 9)) ∨ ((0 ≤ x0.toInt ∧ x0.toInt ≤ 5) ∧ (0 ≤ x1.toInt ∧ x1.toInt ≤ 5) ∧ (1 ≤ x2.toInt ∧ x2.toInt ≤ 1) ∧ (0 ≤ v.toInt ∧ v.toInt ≤ 0)) ∨ ((0 ≤ x0.toInt ∧ x0.toInt ≤ 5) ∧ (0 ≤ x1.toInt ∧ x1.toInt ≤ 5) ∧ (1 ≤ x2.toInt ∧ x2.toInt ≤ 1) ∧ (1 ≤ v.toInt ∧ v.toInt ≤ 1))) := by
  have ha : sargs (cap vC_113) [xf 13 104, xi x0, xi x1, xi x2] := ⟨rfl, a0, a1, a2, trivial⟩
  obtain ⟨ρ, rs, h', ⟨hv, hw⟩, c, g, f, cs, hcs, k1, k2, k3, k4, k5, k6⟩ := vc_113 l [xf 13 104, xi x0, xi x1, xi x2] h ha hg (fun q hq => absurd hq List.not_mem_nil) (fun q hq => absurd hq List.not_mem_nil) (fun ρ hρ g hg' => absurd hg' List.not_mem_nil)
  have e0 : ρ 0 = x0.toInt := hv.1
  have e1 : ρ 1 = x1.toInt := hv.2.1
  have e2 : ρ 2 = x2.toInt := hv.2.2.1
  rcases List.mem_cons.mp hcs with rfl | hcs
  · obtain ⟨v, rfl, kv⟩ := sres_i k3
    exact ⟨v, h', c, g, f, Or.inl kv⟩
  rcases List.mem_cons.mp hcs with rfl | hcs
  · obtain ⟨v, rfl, kv⟩ := sres_i k3
    exact ⟨v, h', c, g, f, Or.inr (Or.inl ⟨(by have z := k1 0 _ rfl; rw [e0] at z; exact z), (by have z := k1 1 _ rfl; rw [e1] at z; exact z), (by have z := k1 2 _ rfl; rw [e2] at z; exact z), kv⟩)⟩
  rcases List.mem_cons.mp hcs with rfl | hcs
  · obtain ⟨v, rfl, kv⟩ := sres_i k3
    exact ⟨v, h', c, g, f, Or.inr (Or.inr (Or.inl ⟨(by have z := k1 0 _ rfl; rw [e0] at z; exact z), (by have z := k1 1 _ rfl; rw [e1] at z; exact z), (by have z := k1 2 _ rfl; rw [e2] at z; exact z), kv⟩))⟩
  rcases List.mem_cons.mp hcs with rfl | hcs
  · obtain ⟨v, rfl, kv⟩ := sres_i k3
    exact ⟨v, h', c, g, f, Or.inr (Or.inr (Or.inr (Or.inl ⟨(by have z := k1 0 _ rfl; rw [e0] at z; exact z), (by have z := k1 1 _ rfl; rw [e1] at z; exact z), (by have z := k1 2 _ rfl; rw [e2] at z; exact z), kv⟩)))⟩
  rcases List.mem_cons.mp hcs with rfl | hcs
  · obtain ⟨v, rfl, kv⟩ := sres_i k3
    exact ⟨v, h', c, g, f, Or.inr (Or.inr (Or.inr (Or.inr (⟨(by have z := k1 0 _ rfl; rw [e0] at z; exact z), (by have z := k1 1 _ rfl; rw [e1] at z; exact z), (by have z := k1 2 _ rfl; rw [e2] at z; exact z), kv⟩))))⟩
  exact absurd hcs List.not_mem_nil
theorem vl_84 (l : Launch) (x0 : Int32) (x1 : Int32) (h : XH) (hg : sgood vT vR vE 153 6051 h) (a0 : (-2147483648) ≤ x0.toInt ∧ x0.toInt ≤ 2147483647) (a1 : (-2147483648) ≤ x1.toInt ∧ x1.toInt ≤ 2147483647) : ∃ (v : Int32) (h' : XH), CX l 4 98 false 84 [xf 12 2, xi x0, xi x1] h [xi v] h' ∧ sgood vT vR vE 153 6051 h' ∧ sframe ([], []) h h' ∧ ((((-2147483648) ≤ v.toInt ∧ v.toInt ≤ 99)) ∨ ((0 ≤ x0.toInt ∧ x0.toInt ≤ 7) ∧ (1 ≤ x1.toInt ∧ x1.toInt ≤ 9) ∧ (0 ≤ v.toInt ∧ v.toInt ≤ 9))) := by
  have ha : sargs (cap vC_116) [xf 12 2, xi x0, xi x1] := ⟨rfl, a0, a1, trivial⟩
  obtain ⟨ρ, rs, h', ⟨hv, hw⟩, c, g, f, cs, hcs, k1, k2, k3, k4, k5, k6⟩ := vc_116 l [xf 12 2, xi x0, xi x1] h ha hg (fun q hq => absurd hq List.not_mem_nil) (fun q hq => absurd hq List.not_mem_nil) (fun ρ hρ g hg' => absurd hg' List.not_mem_nil)
  have e0 : ρ 0 = x0.toInt := hv.1
  have e1 : ρ 1 = x1.toInt := hv.2.1
  rcases List.mem_cons.mp hcs with rfl | hcs
  · obtain ⟨v, rfl, kv⟩ := sres_i k3
    exact ⟨v, h', c, g, f, Or.inl kv⟩
  rcases List.mem_cons.mp hcs with rfl | hcs
  · obtain ⟨v, rfl, kv⟩ := sres_i k3
    exact ⟨v, h', c, g, f, Or.inr (⟨(by have z := k1 0 _ rfl; rw [e0] at z; exact z), (by have z := k1 1 _ rfl; rw [e1] at z; exact z), kv⟩)⟩
  exact absurd hcs List.not_mem_nil
theorem vl_236 (l : Launch) (x0 : Int32) (x1 : Int32) (h : XH) (hg : sgood vT vR vE 153 6051 h) (a0 : (-2147483648) ≤ x0.toInt ∧ x0.toInt ≤ 2147483647) (a1 : (-2147483648) ≤ x1.toInt ∧ x1.toInt ≤ 2147483647) : ∃ (v : Int32) (h' : XH), CX l 7 194 false 236 [xf 13 104, xi x0, xi x1] h [xi v] h' ∧ sgood vT vR vE 153 6051 h' ∧ sframe ([(104, 2, false), (104, 54, false), (104, 63, false), (104, 64, false)], []) h h' ∧ ((((-2147483648) ≤ v.toInt ∧ v.toInt ≤ 99))) := by
  have ha : sargs (cap vC_118) [xf 13 104, xi x0, xi x1] := ⟨rfl, a0, a1, trivial⟩
  obtain ⟨ρ, rs, h', ⟨hv, hw⟩, c, g, f, cs, hcs, k1, k2, k3, k4, k5, k6⟩ := vc_118 l [xf 13 104, xi x0, xi x1] h ha hg (fun q hq => absurd hq List.not_mem_nil) (fun q hq => absurd hq List.not_mem_nil) (fun ρ hρ g hg' => absurd hg' List.not_mem_nil)
  have e0 : ρ 0 = x0.toInt := hv.1
  have e1 : ρ 1 = x1.toInt := hv.2.1
  rcases List.mem_cons.mp hcs with rfl | hcs
  · obtain ⟨v, rfl, kv⟩ := sres_i k3
    exact ⟨v, h', c, g, f, kv⟩
  exact absurd hcs List.not_mem_nil
theorem vl_87 (l : Launch) (x0 : Int32) (x1 : Int32) (h : XH) (hg : sgood vT vR vE 153 6051 h) (a0 : (-2147483648) ≤ x0.toInt ∧ x0.toInt ≤ 2147483647) (a1 : (-2147483648) ≤ x1.toInt ∧ x1.toInt ≤ 2147483647) : ∃ (v : Int64) (h' : XH), CX l 4 94 false 87 [xf 12 2, xi x0, xi x1] h [xl v] h' ∧ sgood vT vR vE 153 6051 h' ∧ sframe ([], []) h h' ∧ ((True)) := by
  have ha : sargs (cap vC_123) [xf 12 2, xi x0, xi x1] := ⟨rfl, a0, a1, trivial⟩
  obtain ⟨ρ, rs, h', ⟨hv, hw⟩, c, g, f, cs, hcs, k1, k2, k3, k4, k5, k6⟩ := vc_123 l [xf 12 2, xi x0, xi x1] h ha hg (fun q hq => absurd hq List.not_mem_nil) (fun q hq => absurd hq List.not_mem_nil) (fun ρ hρ g hg' => absurd hg' List.not_mem_nil)
  have e0 : ρ 0 = x0.toInt := hv.1
  have e1 : ρ 1 = x1.toInt := hv.2.1
  rcases List.mem_cons.mp hcs with rfl | hcs
  · obtain ⟨v, rfl⟩ := sres_l k3
    exact ⟨v, h', c, g, f, trivial⟩
  exact absurd hcs List.not_mem_nil
theorem vl_237 (l : Launch) (x0 : Int32) (x1 : Int32) (h : XH) (hg : sgood vT vR vE 153 6051 h) (a0 : (-2147483648) ≤ x0.toInt ∧ x0.toInt ≤ 2147483647) (a1 : (-2147483648) ≤ x1.toInt ∧ x1.toInt ≤ 2147483647) : ∃ (v : Int64) (h' : XH), CX l 4 112 false 237 [xf 13 104, xi x0, xi x1] h [xl v] h' ∧ sgood vT vR vE 153 6051 h' ∧ sframe ([(104, 2, false), (104, 54, false), (104, 63, false), (104, 64, false)], []) h h' ∧ ((True)) := by
  have ha : sargs (cap vC_129) [xf 13 104, xi x0, xi x1] := ⟨rfl, a0, a1, trivial⟩
  obtain ⟨ρ, rs, h', ⟨hv, hw⟩, c, g, f, cs, hcs, k1, k2, k3, k4, k5, k6⟩ := vc_129 l [xf 13 104, xi x0, xi x1] h ha hg (fun q hq => absurd hq List.not_mem_nil) (fun q hq => absurd hq List.not_mem_nil) (fun ρ hρ g hg' => absurd hg' List.not_mem_nil)
  have e0 : ρ 0 = x0.toInt := hv.1
  have e1 : ρ 1 = x1.toInt := hv.2.1
  rcases List.mem_cons.mp hcs with rfl | hcs
  · obtain ⟨v, rfl⟩ := sres_l k3
    exact ⟨v, h', c, g, f, trivial⟩
  exact absurd hcs List.not_mem_nil
theorem vl_92 (l : Launch) (x0 : Int32) (x1 : Int32) (h : XH) (hg : sgood vT vR vE 153 6051 h) (a0 : (-2147483648) ≤ x0.toInt ∧ x0.toInt ≤ 2147483647) (a1 : (-2147483648) ≤ x1.toInt ∧ x1.toInt ≤ 2147483647) : ∃ (v : Int32) (h' : XH), CX l 2 68 false 92 [xf 12 2, xi x0, xi x1] h [xi v] h' ∧ sgood vT vR vE 153 6051 h' ∧ sframe ([(53, 0, true), (81, 0, false), (82, 0, true), (83, 0, true), (84, 0, true)], []) h h' ∧ (((0 ≤ v.toInt ∧ v.toInt ≤ 0)) ∨ ((0 ≤ x0.toInt ∧ x0.toInt ≤ 7) ∧ ((-1) ≤ x1.toInt ∧ x1.toInt ≤ 1) ∧ (1 ≤ v.toInt ∧ v.toInt ≤ 1))) := by
  have ha : sargs (cap vC_131) [xf 12 2, xi x0, xi x1] := ⟨rfl, a0, a1, trivial⟩
  obtain ⟨ρ, rs, h', ⟨hv, hw⟩, c, g, f, cs, hcs, k1, k2, k3, k4, k5, k6⟩ := vc_131 l [xf 12 2, xi x0, xi x1] h ha hg (fun q hq => absurd hq List.not_mem_nil) (fun q hq => absurd hq List.not_mem_nil) (fun ρ hρ g hg' => absurd hg' List.not_mem_nil)
  have e0 : ρ 0 = x0.toInt := hv.1
  have e1 : ρ 1 = x1.toInt := hv.2.1
  rcases List.mem_cons.mp hcs with rfl | hcs
  · obtain ⟨v, rfl, kv⟩ := sres_i k3
    exact ⟨v, h', c, g, f, Or.inl kv⟩
  rcases List.mem_cons.mp hcs with rfl | hcs
  · obtain ⟨v, rfl, kv⟩ := sres_i k3
    exact ⟨v, h', c, g, f, Or.inr (⟨(by have z := k1 0 _ rfl; rw [e0] at z; exact z), (by have z := k1 1 _ rfl; rw [e1] at z; exact z), kv⟩)⟩
  exact absurd hcs List.not_mem_nil
theorem vl_238 (l : Launch) (x0 : Int32) (x1 : Int32) (h : XH) (hg : sgood vT vR vE 153 6051 h) (a0 : (-2147483648) ≤ x0.toInt ∧ x0.toInt ≤ 2147483647) (a1 : (-2147483648) ≤ x1.toInt ∧ x1.toInt ≤ 2147483647) : ∃ (v : Int32) (h' : XH), CX l 3 81 false 238 [xf 13 104, xi x0, xi x1] h [xi v] h' ∧ sgood vT vR vE 153 6051 h' ∧ sframe ([(104, 2, false), (104, 76, false), (136, 0, true), (149, 0, true)], []) h h' ∧ (((0 ≤ v.toInt ∧ v.toInt ≤ 0)) ∨ ((0 ≤ x0.toInt ∧ x0.toInt ≤ 7) ∧ ((-1) ≤ x1.toInt ∧ x1.toInt ≤ 1) ∧ (1 ≤ v.toInt ∧ v.toInt ≤ 1))) := by
  have ha : sargs (cap vC_134) [xf 13 104, xi x0, xi x1] := ⟨rfl, a0, a1, trivial⟩
  obtain ⟨ρ, rs, h', ⟨hv, hw⟩, c, g, f, cs, hcs, k1, k2, k3, k4, k5, k6⟩ := vc_134 l [xf 13 104, xi x0, xi x1] h ha hg (fun q hq => absurd hq List.not_mem_nil) (fun q hq => absurd hq List.not_mem_nil) (fun ρ hρ g hg' => absurd hg' List.not_mem_nil)
  have e0 : ρ 0 = x0.toInt := hv.1
  have e1 : ρ 1 = x1.toInt := hv.2.1
  rcases List.mem_cons.mp hcs with rfl | hcs
  · obtain ⟨v, rfl, kv⟩ := sres_i k3
    exact ⟨v, h', c, g, f, Or.inl kv⟩
  rcases List.mem_cons.mp hcs with rfl | hcs
  · obtain ⟨v, rfl, kv⟩ := sres_i k3
    exact ⟨v, h', c, g, f, Or.inr (⟨(by have z := k1 0 _ rfl; rw [e0] at z; exact z), (by have z := k1 1 _ rfl; rw [e1] at z; exact z), kv⟩)⟩
  exact absurd hcs List.not_mem_nil
theorem vl_94 (l : Launch) (x0 : Int32) (x1 : Int32) (h : XH) (hg : sgood vT vR vE 153 6051 h) (a0 : (-2147483648) ≤ x0.toInt ∧ x0.toInt ≤ 2147483647) (a1 : (-2147483648) ≤ x1.toInt ∧ x1.toInt ≤ 2147483647) : ∃ (v : Int32) (h' : XH), CX l 2 68 false 94 [xf 12 2, xi x0, xi x1] h [xi v] h' ∧ sgood vT vR vE 153 6051 h' ∧ sframe ([(52, 0, true), (56, 0, true), (81, 0, false), (82, 0, true), (83, 0, true), (84, 0, true)], []) h h' ∧ (((0 ≤ v.toInt ∧ v.toInt ≤ 0)) ∨ ((0 ≤ x0.toInt ∧ x0.toInt ≤ 7) ∧ (0 ≤ x1.toInt ∧ x1.toInt ≤ 5) ∧ (1 ≤ v.toInt ∧ v.toInt ≤ 1))) := by
  have ha : sargs (cap vC_137) [xf 12 2, xi x0, xi x1] := ⟨rfl, a0, a1, trivial⟩
  obtain ⟨ρ, rs, h', ⟨hv, hw⟩, c, g, f, cs, hcs, k1, k2, k3, k4, k5, k6⟩ := vc_137 l [xf 12 2, xi x0, xi x1] h ha hg (fun q hq => absurd hq List.not_mem_nil) (fun q hq => absurd hq List.not_mem_nil) (fun ρ hρ g hg' => absurd hg' List.not_mem_nil)
  have e0 : ρ 0 = x0.toInt := hv.1
  have e1 : ρ 1 = x1.toInt := hv.2.1
  rcases List.mem_cons.mp hcs with rfl | hcs
  · obtain ⟨v, rfl, kv⟩ := sres_i k3
    exact ⟨v, h', c, g, f, Or.inl kv⟩
  rcases List.mem_cons.mp hcs with rfl | hcs
  · obtain ⟨v, rfl, kv⟩ := sres_i k3
    exact ⟨v, h', c, g, f, Or.inr (⟨(by have z := k1 0 _ rfl; rw [e0] at z; exact z), (by have z := k1 1 _ rfl; rw [e1] at z; exact z), kv⟩)⟩
  exact absurd hcs List.not_mem_nil
theorem vl_241 (l : Launch) (x0 : Int32) (x1 : Int32) (h : XH) (hg : sgood vT vR vE 153 6051 h) (a0 : (-2147483648) ≤ x0.toInt ∧ x0.toInt ≤ 2147483647) (a1 : (-2147483648) ≤ x1.toInt ∧ x1.toInt ≤ 2147483647) : ∃ (v : Int32) (h' : XH), CX l 3 81 false 241 [xf 13 104, xi x0, xi x1] h [xi v] h' ∧ sgood vT vR vE 153 6051 h' ∧ sframe ([(104, 2, false), (104, 76, false), (135, 0, false), (135, 1, false), (135, 2, false), (135, 3, false), (135, 4, false), (135, 5, false), (135, 6, false), (135, 7, false), (149, 0, true)], []) h h' ∧ (((0 ≤ v.toInt ∧ v.toInt ≤ 0)) ∨ ((0 ≤ x0.toInt ∧ x0.toInt ≤ 7) ∧ (0 ≤ x1.toInt ∧ x1.toInt ≤ 5) ∧ (1 ≤ v.toInt ∧ v.toInt ≤ 1))) := by
  have ha : sargs (cap vC_146) [xf 13 104, xi x0, xi x1] := ⟨rfl, a0, a1, trivial⟩
  obtain ⟨ρ, rs, h', ⟨hv, hw⟩, c, g, f, cs, hcs, k1, k2, k3, k4, k5, k6⟩ := vc_146 l [xf 13 104, xi x0, xi x1] h ha hg (fun q hq => absurd hq List.not_mem_nil) (fun q hq => absurd hq List.not_mem_nil) (fun ρ hρ g hg' => absurd hg' List.not_mem_nil)
  have e0 : ρ 0 = x0.toInt := hv.1
  have e1 : ρ 1 = x1.toInt := hv.2.1
  rcases List.mem_cons.mp hcs with rfl | hcs
  · obtain ⟨v, rfl, kv⟩ := sres_i k3
    exact ⟨v, h', c, g, f, Or.inl kv⟩
  rcases List.mem_cons.mp hcs with rfl | hcs
  · obtain ⟨v, rfl, kv⟩ := sres_i k3
    exact ⟨v, h', c, g, f, Or.inr (⟨(by have z := k1 0 _ rfl; rw [e0] at z; exact z), (by have z := k1 1 _ rfl; rw [e1] at z; exact z), kv⟩)⟩
  exact absurd hcs List.not_mem_nil
theorem vl_96 (l : Launch) (x0 : Int32) (x1 : Int32) (h : XH) (hg : sgood vT vR vE 153 6051 h) (a0 : (-2147483648) ≤ x0.toInt ∧ x0.toInt ≤ 2147483647) (a1 : (-2147483648) ≤ x1.toInt ∧ x1.toInt ≤ 2147483647) : ∃ (v : Int32) (h' : XH), CX l 2 68 false 96 [xf 12 2, xi x0, xi x1] h [xi v] h' ∧ sgood vT vR vE 153 6051 h' ∧ sframe ([(49, 0, true), (51, 0, true), (55, 0, true), (81, 0, false), (82, 0, true), (83, 0, true), (84, 0, true)], []) h h' ∧ (((0 ≤ v.toInt ∧ v.toInt ≤ 0)) ∨ ((0 ≤ x0.toInt ∧ x0.toInt ≤ 5) ∧ (1 ≤ x1.toInt ∧ x1.toInt ≤ 9) ∧ (1 ≤ v.toInt ∧ v.toInt ≤ 1))) := by
  have ha : sargs (cap vC_148) [xf 12 2, xi x0, xi x1] := ⟨rfl, a0, a1, trivial⟩
  obtain ⟨ρ, rs, h', ⟨hv, hw⟩, c, g, f, cs, hcs, k1, k2, k3, k4, k5, k6⟩ := vc_148 l [xf 12 2, xi x0, xi x1] h ha hg (fun q hq => absurd hq List.not_mem_nil) (fun q hq => absurd hq List.not_mem_nil) (fun ρ hρ g hg' => absurd hg' List.not_mem_nil)
  have e0 : ρ 0 = x0.toInt := hv.1
  have e1 : ρ 1 = x1.toInt := hv.2.1
  rcases List.mem_cons.mp hcs with rfl | hcs
  · obtain ⟨v, rfl, kv⟩ := sres_i k3
    exact ⟨v, h', c, g, f, Or.inl kv⟩
  rcases List.mem_cons.mp hcs with rfl | hcs
  · obtain ⟨v, rfl, kv⟩ := sres_i k3
    exact ⟨v, h', c, g, f, Or.inr (⟨(by have z := k1 0 _ rfl; rw [e0] at z; exact z), (by have z := k1 1 _ rfl; rw [e1] at z; exact z), kv⟩)⟩
  exact absurd hcs List.not_mem_nil
theorem vl_242 (l : Launch) (x0 : Int32) (x1 : Int32) (h : XH) (hg : sgood vT vR vE 153 6051 h) (a0 : (-2147483648) ≤ x0.toInt ∧ x0.toInt ≤ 2147483647) (a1 : (-2147483648) ≤ x1.toInt ∧ x1.toInt ≤ 2147483647) : ∃ (v : Int32) (h' : XH), CX l 3 81 false 242 [xf 13 104, xi x0, xi x1] h [xi v] h' ∧ sgood vT vR vE 153 6051 h' ∧ sframe ([(104, 2, false), (104, 76, false), (133, 0, false), (133, 1, false), (133, 2, false), (133, 3, false), (133, 4, false), (133, 5, false), (149, 0, true)], []) h h' ∧ (((0 ≤ v.toInt ∧ v.toInt ≤ 0)) ∨ ((0 ≤ x0.toInt ∧ x0.toInt ≤ 5) ∧ (1 ≤ x1.toInt ∧ x1.toInt ≤ 9) ∧ (1 ≤ v.toInt ∧ v.toInt ≤ 1))) := by
  have ha : sargs (cap vC_149) [xf 13 104, xi x0, xi x1] := ⟨rfl, a0, a1, trivial⟩
  obtain ⟨ρ, rs, h', ⟨hv, hw⟩, c, g, f, cs, hcs, k1, k2, k3, k4, k5, k6⟩ := vc_149 l [xf 13 104, xi x0, xi x1] h ha hg (fun q hq => absurd hq List.not_mem_nil) (fun q hq => absurd hq List.not_mem_nil) (fun ρ hρ g hg' => absurd hg' List.not_mem_nil)
  have e0 : ρ 0 = x0.toInt := hv.1
  have e1 : ρ 1 = x1.toInt := hv.2.1
  rcases List.mem_cons.mp hcs with rfl | hcs
  · obtain ⟨v, rfl, kv⟩ := sres_i k3
    exact ⟨v, h', c, g, f, Or.inl kv⟩
  rcases List.mem_cons.mp hcs with rfl | hcs
  · obtain ⟨v, rfl, kv⟩ := sres_i k3
    exact ⟨v, h', c, g, f, Or.inr (⟨(by have z := k1 0 _ rfl; rw [e0] at z; exact z), (by have z := k1 1 _ rfl; rw [e1] at z; exact z), kv⟩)⟩
  exact absurd hcs List.not_mem_nil
theorem vl_103 (l : Launch) (x0 : Int32) (x1 : Int32) (x2 : Int32) (h : XH) (hg : sgood vT vR vE 153 6051 h) (a0 : (-2147483648) ≤ x0.toInt ∧ x0.toInt ≤ 2147483647) (a1 : (-2147483648) ≤ x1.toInt ∧ x1.toInt ≤ 2147483647) (a2 : (-2147483648) ≤ x2.toInt ∧ x2.toInt ≤ 2147483647) : ∃ (v : Int32) (h' : XH), CX l 7 165 false 103 [xf 12 2, xi x0, xi x1, xi x2] h [xi v] h' ∧ sgood vT vR vE 153 6051 h' ∧ sframe ([(59, 7, false), (59, 10, false), (60, 0, true), (61, 0, true), (62, 0, true), (63, 0, true), (64, 0, true), (65, 0, true), (66, 0, true), (67, 0, true), (68, 0, true)], [(59, 0)]) h h' ∧ ((((-1) ≤ v.toInt ∧ v.toInt ≤ (-1))) ∨ ((0 ≤ x0.toInt ∧ x0.toInt ≤ 5) ∧ (0 ≤ x1.toInt ∧ x1.toInt ≤ 60) ∧ (0 ≤ x2.toInt ∧ x2.toInt ≤ 0) ∧ (0 ≤ v.toInt ∧ v.toInt ≤ 9)) ∨ ((0 ≤ x0.toInt ∧ x0.toInt ≤ 5) ∧ (0 ≤ x1.toInt ∧ x1.toInt ≤ 60) ∧ (1 ≤ x2.toInt ∧ x2.toInt ≤ 1) ∧ ((-2147483648) ≤ v.toInt ∧ v.toInt ≤ 2147483647))) := by
  have ha : sargs (cap vC_179) [xf 12 2, xi x0, xi x1, xi x2] := ⟨rfl, a0, a1, a2, trivial⟩
  obtain ⟨ρ, rs, h', ⟨hv, hw⟩, c, g, f, cs, hcs, k1, k2, k3, k4, k5, k6⟩ := vc_179 l [xf 12 2, xi x0, xi x1, xi x2] h ha hg (fun q hq => absurd hq List.not_mem_nil) (fun q hq => absurd hq List.not_mem_nil) (fun ρ hρ g hg' => absurd hg' List.not_mem_nil)
  have e0 : ρ 0 = x0.toInt := hv.1
  have e1 : ρ 1 = x1.toInt := hv.2.1
  have e2 : ρ 2 = x2.toInt := hv.2.2.1
  rcases List.mem_cons.mp hcs with rfl | hcs
  · obtain ⟨v, rfl, kv⟩ := sres_i k3
    exact ⟨v, h', c, g, f, Or.inl kv⟩
  rcases List.mem_cons.mp hcs with rfl | hcs
  · obtain ⟨v, rfl, kv⟩ := sres_i k3
    exact ⟨v, h', c, g, f, Or.inr (Or.inl ⟨(by have z := k1 0 _ rfl; rw [e0] at z; exact z), (by have z := k1 1 _ rfl; rw [e1] at z; exact z), (by have z := k1 2 _ rfl; rw [e2] at z; exact z), kv⟩)⟩
  rcases List.mem_cons.mp hcs with rfl | hcs
  · obtain ⟨v, rfl, kv⟩ := sres_i k3
    exact ⟨v, h', c, g, f, Or.inr (Or.inr (⟨(by have z := k1 0 _ rfl; rw [e0] at z; exact z), (by have z := k1 1 _ rfl; rw [e1] at z; exact z), (by have z := k1 2 _ rfl; rw [e2] at z; exact z), kv⟩))⟩
  exact absurd hcs List.not_mem_nil
theorem vl_246 (l : Launch) (x0 : Int32) (x1 : Int32) (x2 : Int32) (h : XH) (hg : sgood vT vR vE 153 6051 h) (a0 : (-2147483648) ≤ x0.toInt ∧ x0.toInt ≤ 2147483647) (a1 : (-2147483648) ≤ x1.toInt ∧ x1.toInt ≤ 2147483647) (a2 : (-2147483648) ≤ x2.toInt ∧ x2.toInt ≤ 2147483647) : ∃ (v : Int32) (h' : XH), CX l 11 287 false 246 [xf 13 104, xi x0, xi x1, xi x2] h [xi v] h' ∧ sgood vT vR vE 153 6051 h' ∧ sframe ([(104, 2, false), (104, 54, false), (104, 63, false), (104, 64, false), (133, 6, false), (133, 7, false), (133, 8, false), (133, 9, false), (133, 10, false), (133, 11, false), (134, 0, true), (135, 8, false), (135, 9, false), (135, 10, false), (135, 11, false), (135, 12, false), (135, 13, false), (135, 14, false), (135, 15, false), (136, 0, true), (137, 0, true), (138, 1, false), (139, 0, true)], []) h h' ∧ ((((-1) ≤ v.toInt ∧ v.toInt ≤ (-1))) ∨ ((0 ≤ x0.toInt ∧ x0.toInt ≤ 5) ∧ (0 ≤ x1.toInt ∧ x1.toInt ≤ 60) ∧ (0 ≤ x2.toInt ∧ x2.toInt ≤ 1) ∧ ((-2147483648) ≤ v.toInt ∧ v.toInt ≤ 2147483647))) := by
  have ha : sargs (cap vC_185) [xf 13 104, xi x0, xi x1, xi x2] := ⟨rfl, a0, a1, a2, trivial⟩
  obtain ⟨ρ, rs, h', ⟨hv, hw⟩, c, g, f, cs, hcs, k1, k2, k3, k4, k5, k6⟩ := vc_185 l [xf 13 104, xi x0, xi x1, xi x2] h ha hg (fun q hq => absurd hq List.not_mem_nil) (fun q hq => absurd hq List.not_mem_nil) (fun ρ hρ g hg' => absurd hg' List.not_mem_nil)
  have e0 : ρ 0 = x0.toInt := hv.1
  have e1 : ρ 1 = x1.toInt := hv.2.1
  have e2 : ρ 2 = x2.toInt := hv.2.2.1
  rcases List.mem_cons.mp hcs with rfl | hcs
  · obtain ⟨v, rfl, kv⟩ := sres_i k3
    exact ⟨v, h', c, g, f, Or.inl kv⟩
  rcases List.mem_cons.mp hcs with rfl | hcs
  · obtain ⟨v, rfl, kv⟩ := sres_i k3
    exact ⟨v, h', c, g, f, Or.inr (⟨(by have z := k1 0 _ rfl; rw [e0] at z; exact z), (by have z := k1 1 _ rfl; rw [e1] at z; exact z), (by have z := k1 2 _ rfl; rw [e2] at z; exact z), kv⟩)⟩
  exact absurd hcs List.not_mem_nil
theorem vl_106 (l : Launch) (x0 : Int32) (h : XH) (hg : sgood vT vR vE 153 6051 h) (a0 : (-2147483648) ≤ x0.toInt ∧ x0.toInt ≤ 2147483647) : ∃ (v : Int32) (h' : XH), CX l 6 145 false 106 [xf 12 2, xi x0] h [xi v] h' ∧ sgood vT vR vE 153 6051 h' ∧ sframe ([(59, 7, false), (59, 10, false), (60, 0, true), (61, 0, true), (62, 0, true), (63, 0, true), (64, 0, true), (65, 0, true), (66, 0, true), (67, 0, true), (68, 0, true)], [(59, 0)]) h h' ∧ ((((-1) ≤ v.toInt ∧ v.toInt ≤ (-1))) ∨ ((1 ≤ x0.toInt ∧ x0.toInt ≤ 99) ∧ (0 ≤ v.toInt ∧ v.toInt ≤ 99)) ∨ ((1 ≤ x0.toInt ∧ x0.toInt ≤ 99) ∧ ((-2) ≤ v.toInt ∧ v.toInt ≤ (-2)))) := by
  have ha : sargs (cap vC_186) [xf 12 2, xi x0] := ⟨rfl, a0, trivial⟩
  obtain ⟨ρ, rs, h', ⟨hv, hw⟩, c, g, f, cs, hcs, k1, k2, k3, k4, k5, k6⟩ := vc_186 l [xf 12 2, xi x0] h ha hg (fun q hq => absurd hq List.not_mem_nil) (fun q hq => absurd hq List.not_mem_nil) (fun ρ hρ g hg' => absurd hg' List.not_mem_nil)
  have e0 : ρ 0 = x0.toInt := hv.1
  rcases List.mem_cons.mp hcs with rfl | hcs
  · obtain ⟨v, rfl, kv⟩ := sres_i k3
    exact ⟨v, h', c, g, f, Or.inl kv⟩
  rcases List.mem_cons.mp hcs with rfl | hcs
  · obtain ⟨v, rfl, kv⟩ := sres_i k3
    exact ⟨v, h', c, g, f, Or.inr (Or.inl ⟨(by have z := k1 0 _ rfl; rw [e0] at z; exact z), kv⟩)⟩
  rcases List.mem_cons.mp hcs with rfl | hcs
  · obtain ⟨v, rfl, kv⟩ := sres_i k3
    exact ⟨v, h', c, g, f, Or.inr (Or.inr (⟨(by have z := k1 0 _ rfl; rw [e0] at z; exact z), kv⟩))⟩
  exact absurd hcs List.not_mem_nil
theorem vl_249 (l : Launch) (x0 : Int32) (h : XH) (hg : sgood vT vR vE 153 6051 h) (a0 : (-2147483648) ≤ x0.toInt ∧ x0.toInt ≤ 2147483647) : ∃ (v : Int32) (h' : XH), CX l 10 265 false 249 [xf 13 104, xi x0] h [xi v] h' ∧ sgood vT vR vE 153 6051 h' ∧ sframe ([(104, 2, false), (104, 54, false), (104, 63, false), (104, 64, false), (133, 6, false), (133, 7, false), (133, 8, false), (133, 9, false), (133, 10, false), (133, 11, false), (134, 0, true), (135, 8, false), (135, 9, false), (135, 10, false), (135, 11, false), (135, 12, false), (135, 13, false), (135, 14, false), (135, 15, false), (136, 0, true), (137, 0, true), (138, 1, false), (139, 0, true)], []) h h' ∧ ((((-1) ≤ v.toInt ∧ v.toInt ≤ (-1))) ∨ ((1 ≤ x0.toInt ∧ x0.toInt ≤ 99) ∧ ((-2) ≤ v.toInt ∧ v.toInt ≤ (-2))) ∨ ((1 ≤ x0.toInt ∧ x0.toInt ≤ 99) ∧ (0 ≤ v.toInt ∧ v.toInt ≤ 99))) := by
  have ha : sargs (cap vC_188) [xf 13 104, xi x0] := ⟨rfl, a0, trivial⟩
  obtain ⟨ρ, rs, h', ⟨hv, hw⟩, c, g, f, cs, hcs, k1, k2, k3, k4, k5, k6⟩ := vc_188 l [xf 13 104, xi x0] h ha hg (fun q hq => absurd hq List.not_mem_nil) (fun q hq => absurd hq List.not_mem_nil) (fun ρ hρ g hg' => absurd hg' List.not_mem_nil)
  have e0 : ρ 0 = x0.toInt := hv.1
  rcases List.mem_cons.mp hcs with rfl | hcs
  · obtain ⟨v, rfl, kv⟩ := sres_i k3
    exact ⟨v, h', c, g, f, Or.inl kv⟩
  rcases List.mem_cons.mp hcs with rfl | hcs
  · obtain ⟨v, rfl, kv⟩ := sres_i k3
    exact ⟨v, h', c, g, f, Or.inr (Or.inl ⟨(by have z := k1 0 _ rfl; rw [e0] at z; exact z), kv⟩)⟩
  rcases List.mem_cons.mp hcs with rfl | hcs
  · obtain ⟨v, rfl, kv⟩ := sres_i k3
    exact ⟨v, h', c, g, f, Or.inr (Or.inr (⟨(by have z := k1 0 _ rfl; rw [e0] at z; exact z), kv⟩))⟩
  exact absurd hcs List.not_mem_nil
theorem vl_107 (l : Launch) (x0 : Int32) (h : XH) (hg : sgood vT vR vE 153 6051 h) (a0 : (-2147483648) ≤ x0.toInt ∧ x0.toInt ≤ 2147483647) : ∃ (v : Int32) (h' : XH), CX l 3 72 false 107 [xf 12 2, xi x0] h [xi v] h' ∧ sgood vT vR vE 153 6051 h' ∧ sframe ([], []) h h' ∧ ((((-1) ≤ v.toInt ∧ v.toInt ≤ (-1))) ∨ ((0 ≤ x0.toInt ∧ x0.toInt ≤ 7) ∧ ((-2147483648) ≤ v.toInt ∧ v.toInt ≤ 2147483647))) := by
  have ha : sargs (cap vC_192) [xf 12 2, xi x0] := ⟨rfl, a0, trivial⟩
  obtain ⟨ρ, rs, h', ⟨hv, hw⟩, c, g, f, cs, hcs, k1, k2, k3, k4, k5, k6⟩ := vc_192 l [xf 12 2, xi x0] h ha hg (fun q hq => absurd hq List.not_mem_nil) (fun q hq => absurd hq List.not_mem_nil) (fun ρ hρ g hg' => absurd hg' List.not_mem_nil)
  have e0 : ρ 0 = x0.toInt := hv.1
  rcases List.mem_cons.mp hcs with rfl | hcs
  · obtain ⟨v, rfl, kv⟩ := sres_i k3
    exact ⟨v, h', c, g, f, Or.inl kv⟩
  rcases List.mem_cons.mp hcs with rfl | hcs
  · obtain ⟨v, rfl, kv⟩ := sres_i k3
    exact ⟨v, h', c, g, f, Or.inr (⟨(by have z := k1 0 _ rfl; rw [e0] at z; exact z), kv⟩)⟩
  exact absurd hcs List.not_mem_nil
theorem vl_250 (l : Launch) (x0 : Int32) (h : XH) (hg : sgood vT vR vE 153 6051 h) (a0 : (-2147483648) ≤ x0.toInt ∧ x0.toInt ≤ 2147483647) : ∃ (v : Int32) (h' : XH), CX l 1 23 false 250 [xf 13 104, xi x0] h [xi v] h' ∧ sgood vT vR vE 153 6051 h' ∧ sframe ([(104, 2, false)], []) h h' ∧ ((((-1) ≤ v.toInt ∧ v.toInt ≤ (-1))) ∨ ((0 ≤ x0.toInt ∧ x0.toInt ≤ 7) ∧ ((-2147483648) ≤ v.toInt ∧ v.toInt ≤ 2147483647))) := by
  have ha : sargs (cap vC_195) [xf 13 104, xi x0] := ⟨rfl, a0, trivial⟩
  obtain ⟨ρ, rs, h', ⟨hv, hw⟩, c, g, f, cs, hcs, k1, k2, k3, k4, k5, k6⟩ := vc_195 l [xf 13 104, xi x0] h ha hg (fun q hq => absurd hq List.not_mem_nil) (fun q hq => absurd hq List.not_mem_nil) (fun ρ hρ g hg' => absurd hg' List.not_mem_nil)
  have e0 : ρ 0 = x0.toInt := hv.1
  rcases List.mem_cons.mp hcs with rfl | hcs
  · obtain ⟨v, rfl, kv⟩ := sres_i k3
    exact ⟨v, h', c, g, f, Or.inl kv⟩
  rcases List.mem_cons.mp hcs with rfl | hcs
  · obtain ⟨v, rfl, kv⟩ := sres_i k3
    exact ⟨v, h', c, g, f, Or.inr (⟨(by have z := k1 0 _ rfl; rw [e0] at z; exact z), kv⟩)⟩
  exact absurd hcs List.not_mem_nil
theorem vl_111 (l : Launch) (x0 : Int32) (x1 : Int32) (h : XH) (hg : sgood vT vR vE 153 6051 h) (a0 : (-2147483648) ≤ x0.toInt ∧ x0.toInt ≤ 2147483647) (a1 : 0 ≤ x1.toInt ∧ x1.toInt ≤ 1) : ∃ (v : Int32) (h' : XH), CX l 6 149 false 111 [xf 12 2, xi x0, xi x1] h [xi v] h' ∧ sgood vT vR vE 153 6051 h' ∧ sframe ([(92, 0, true)], []) h h' ∧ ((((-1) ≤ v.toInt ∧ v.toInt ≤ (-1))) ∨ ((0 ≤ x0.toInt ∧ x0.toInt ≤ 5) ∧ ((-2) ≤ v.toInt ∧ v.toInt ≤ 255))) := by
  have ha : sargs (cap vC_199) [xf 12 2, xi x0, xi x1] := ⟨rfl, a0, a1, trivial⟩
  obtain ⟨ρ, rs, h', ⟨hv, hw⟩, c, g, f, cs, hcs, k1, k2, k3, k4, k5, k6⟩ := vc_199 l [xf 12 2, xi x0, xi x1] h ha hg (fun q hq => absurd hq List.not_mem_nil) (fun q hq => absurd hq List.not_mem_nil) (fun ρ hρ g hg' => absurd hg' List.not_mem_nil)
  have e0 : ρ 0 = x0.toInt := hv.1
  have e1 : ρ 1 = x1.toInt := hv.2.1
  rcases List.mem_cons.mp hcs with rfl | hcs
  · obtain ⟨v, rfl, kv⟩ := sres_i k3
    exact ⟨v, h', c, g, f, Or.inl kv⟩
  rcases List.mem_cons.mp hcs with rfl | hcs
  · obtain ⟨v, rfl, kv⟩ := sres_i k3
    exact ⟨v, h', c, g, f, Or.inr (⟨(by have z := k1 0 _ rfl; rw [e0] at z; exact z), kv⟩)⟩
  exact absurd hcs List.not_mem_nil
theorem vl_253 (l : Launch) (x0 : Int32) (x1 : Int32) (h : XH) (hg : sgood vT vR vE 153 6051 h) (a0 : (-2147483648) ≤ x0.toInt ∧ x0.toInt ≤ 2147483647) (a1 : 0 ≤ x1.toInt ∧ x1.toInt ≤ 1) : ∃ (v : Int32) (h' : XH), CX l 9 242 false 253 [xf 13 104, xi x0, xi x1] h [xi v] h' ∧ sgood vT vR vE 153 6051 h' ∧ sframe ([(104, 2, false), (104, 54, false), (104, 63, false), (104, 64, false), (133, 6, false), (133, 7, false), (133, 8, false), (133, 9, false), (133, 10, false), (133, 11, false), (134, 6, false), (134, 7, false), (134, 8, false), (134, 9, false), (134, 10, false), (134, 11, false), (135, 8, false), (135, 9, false), (135, 10, false), (135, 11, false), (135, 12, false), (135, 13, false), (135, 14, false), (135, 15, false), (136, 0, true), (137, 8, false), (137, 9, false), (137, 10, false), (137, 11, false), (137, 12, false), (137, 13, false), (137, 14, false), (137, 15, false), (138, 1, false)], []) h h' ∧ ((((-1) ≤ v.toInt ∧ v.toInt ≤ (-1))) ∨ ((0 ≤ x0.toInt ∧ x0.toInt ≤ 5) ∧ ((-2) ≤ v.toInt ∧ v.toInt ≤ 255))) := by
  have ha : sargs (cap vC_201) [xf 13 104, xi x0, xi x1] := ⟨rfl, a0, a1, trivial⟩
  obtain ⟨ρ, rs, h', ⟨hv, hw⟩, c, g, f, cs, hcs, k1, k2, k3, k4, k5, k6⟩ := vc_201 l [xf 13 104, xi x0, xi x1] h ha hg (fun q hq => absurd hq List.not_mem_nil) (fun q hq => absurd hq List.not_mem_nil) (fun ρ hρ g hg' => absurd hg' List.not_mem_nil)
  have e0 : ρ 0 = x0.toInt := hv.1
  have e1 : ρ 1 = x1.toInt := hv.2.1
  rcases List.mem_cons.mp hcs with rfl | hcs
  · obtain ⟨v, rfl, kv⟩ := sres_i k3
    exact ⟨v, h', c, g, f, Or.inl kv⟩
  rcases List.mem_cons.mp hcs with rfl | hcs
  · obtain ⟨v, rfl, kv⟩ := sres_i k3
    exact ⟨v, h', c, g, f, Or.inr (⟨(by have z := k1 0 _ rfl; rw [e0] at z; exact z), kv⟩)⟩
  exact absurd hcs List.not_mem_nil
theorem vl_115 (l : Launch) (x0 : Int32) (h : XH) (hg : sgood vT vR vE 153 6051 h) (a0 : (-2147483648) ≤ x0.toInt ∧ x0.toInt ≤ 2147483647) : ∃ (v : Int32) (h' : XH), CX l 6 146 false 115 [xf 12 2, xi x0] h [xi v] h' ∧ sgood vT vR vE 153 6051 h' ∧ sframe ([(93, 0, false), (93, 2, false), (94, 0, true), (95, 0, true), (96, 0, true), (97, 0, true)], []) h h' ∧ ((((-1) ≤ v.toInt ∧ v.toInt ≤ (-1))) ∨ ((1 ≤ x0.toInt ∧ x0.toInt ≤ 4) ∧ ((-2) ≤ v.toInt ∧ v.toInt ≤ (-2))) ∨ ((0 ≤ x0.toInt ∧ x0.toInt ≤ 0) ∧ ((-2147483648) ≤ v.toInt ∧ v.toInt ≤ 2147483647)) ∨ ((1 ≤ x0.toInt ∧ x0.toInt ≤ 4) ∧ (0 ≤ v.toInt ∧ v.toInt ≤ 9))) := by
  have ha : sargs (cap vC_208) [xf 12 2, xi x0] := ⟨rfl, a0, trivial⟩
  obtain ⟨ρ, rs, h', ⟨hv, hw⟩, c, g, f, cs, hcs, k1, k2, k3, k4, k5, k6⟩ := vc_208 l [xf 12 2, xi x0] h ha hg (fun q hq => absurd hq List.not_mem_nil) (fun q hq => absurd hq List.not_mem_nil) (fun ρ hρ g hg' => absurd hg' List.not_mem_nil)
  have e0 : ρ 0 = x0.toInt := hv.1
  rcases List.mem_cons.mp hcs with rfl | hcs
  · obtain ⟨v, rfl, kv⟩ := sres_i k3
    exact ⟨v, h', c, g, f, Or.inl kv⟩
  rcases List.mem_cons.mp hcs with rfl | hcs
  · obtain ⟨v, rfl, kv⟩ := sres_i k3
    exact ⟨v, h', c, g, f, Or.inr (Or.inl ⟨(by have z := k1 0 _ rfl; rw [e0] at z; exact z), kv⟩)⟩
  rcases List.mem_cons.mp hcs with rfl | hcs
  · obtain ⟨v, rfl, kv⟩ := sres_i k3
    exact ⟨v, h', c, g, f, Or.inr (Or.inr (Or.inl ⟨(by have z := k1 0 _ rfl; rw [e0] at z; exact z), kv⟩))⟩
  rcases List.mem_cons.mp hcs with rfl | hcs
  · obtain ⟨v, rfl, kv⟩ := sres_i k3
    exact ⟨v, h', c, g, f, Or.inr (Or.inr (Or.inr (⟨(by have z := k1 0 _ rfl; rw [e0] at z; exact z), kv⟩)))⟩
  exact absurd hcs List.not_mem_nil
theorem vl_255 (l : Launch) (x0 : Int32) (h : XH) (hg : sgood vT vR vE 153 6051 h) (a0 : (-2147483648) ≤ x0.toInt ∧ x0.toInt ≤ 2147483647) : ∃ (v : Int32) (h' : XH), CX l 6 169 false 255 [xf 13 104, xi x0] h [xi v] h' ∧ sgood vT vR vE 153 6051 h' ∧ sframe ([(104, 2, false), (104, 54, false), (104, 63, false), (104, 64, false), (133, 6, false), (133, 7, false), (133, 8, false), (133, 9, false), (133, 10, false), (133, 11, false), (134, 6, false), (134, 7, false), (134, 8, false), (134, 9, false), (134, 10, false), (134, 11, false), (135, 8, false), (135, 9, false), (135, 10, false), (135, 11, false), (135, 12, false), (135, 13, false), (135, 14, false), (135, 15, false), (136, 8, false), (136, 9, false), (136, 10, false), (136, 11, false), (136, 12, false), (136, 13, false), (136, 14, false), (136, 15, false), (137, 8, false), (137, 9, false), (137, 10, false), (137, 11, false), (137, 12, false), (137, 13, false), (137, 14, false), (137, 15, false), (138, 1, false)], []) h h' ∧ ((((-1) ≤ v.toInt ∧ v.toInt ≤ (-1))) ∨ ((1 ≤ x0.toInt ∧ x0.toInt ≤ 4) ∧ ((-2) ≤ v.toInt ∧ v.toInt ≤ (-2))) ∨ ((0 ≤ x0.toInt ∧ x0.toInt ≤ 4) ∧ ((-2147483648) ≤ v.toInt ∧ v.toInt ≤ 2147483647)) ∨ ((1 ≤ x0.toInt ∧ x0.toInt ≤ 3) ∧ (0 ≤ v.toInt ∧ v.toInt ≤ 9)) ∨ ((0 ≤ x0.toInt ∧ x0.toInt ≤ 0) ∧ (0 ≤ v.toInt ∧ v.toInt ≤ 0))) := by
  have ha : sargs (cap vC_215) [xf 13 104, xi x0] := ⟨rfl, a0, trivial⟩
  obtain ⟨ρ, rs, h', ⟨hv, hw⟩, c, g, f, cs, hcs, k1, k2, k3, k4, k5, k6⟩ := vc_215 l [xf 13 104, xi x0] h ha hg (fun q hq => absurd hq List.not_mem_nil) (fun q hq => absurd hq List.not_mem_nil) (fun ρ hρ g hg' => absurd hg' List.not_mem_nil)
  have e0 : ρ 0 = x0.toInt := hv.1
  rcases List.mem_cons.mp hcs with rfl | hcs
  · obtain ⟨v, rfl, kv⟩ := sres_i k3
    exact ⟨v, h', c, g, f, Or.inl kv⟩
  rcases List.mem_cons.mp hcs with rfl | hcs
  · obtain ⟨v, rfl, kv⟩ := sres_i k3
    exact ⟨v, h', c, g, f, Or.inr (Or.inl ⟨(by have z := k1 0 _ rfl; rw [e0] at z; exact z), kv⟩)⟩
  rcases List.mem_cons.mp hcs with rfl | hcs
  · obtain ⟨v, rfl, kv⟩ := sres_i k3
    exact ⟨v, h', c, g, f, Or.inr (Or.inr (Or.inl ⟨(by have z := k1 0 _ rfl; rw [e0] at z; exact z), kv⟩))⟩
  rcases List.mem_cons.mp hcs with rfl | hcs
  · obtain ⟨v, rfl, kv⟩ := sres_i k3
    exact ⟨v, h', c, g, f, Or.inr (Or.inr (Or.inr (Or.inl ⟨(by have z := k1 0 _ rfl; rw [e0] at z; exact z), kv⟩)))⟩
  rcases List.mem_cons.mp hcs with rfl | hcs
  · obtain ⟨v, rfl, kv⟩ := sres_i k3
    exact ⟨v, h', c, g, f, Or.inr (Or.inr (Or.inr (Or.inr (⟨(by have z := k1 0 _ rfl; rw [e0] at z; exact z), kv⟩))))⟩
  exact absurd hcs List.not_mem_nil
theorem vl_121 (l : Launch)  (h : XH) (hg : sgood vT vR vE 153 6051 h)  : ∃ (v : Int32) (h' : XH), CX l 2 44 false 121 [xf 12 2] h [xi v] h' ∧ sgood vT vR vE 153 6051 h' ∧ sframe ([], []) h h' ∧ ((((-2147483648) ≤ v.toInt ∧ v.toInt ≤ 2147483647))) := by
  have ha : sargs (cap vC_217) [xf 12 2] := ⟨rfl, trivial⟩
  obtain ⟨ρ, rs, h', ⟨hv, hw⟩, c, g, f, cs, hcs, k1, k2, k3, k4, k5, k6⟩ := vc_217 l [xf 12 2] h ha hg (fun q hq => absurd hq List.not_mem_nil) (fun q hq => absurd hq List.not_mem_nil) (fun ρ hρ g hg' => absurd hg' List.not_mem_nil)
  rcases List.mem_cons.mp hcs with rfl | hcs
  · obtain ⟨v, rfl, kv⟩ := sres_i k3
    exact ⟨v, h', c, g, f, kv⟩
  exact absurd hcs List.not_mem_nil
theorem vl_257 (l : Launch)  (h : XH) (hg : sgood vT vR vE 153 6051 h)  : ∃ (v : Int32) (h' : XH), CX l 2 46 false 257 [xf 13 104] h [xi v] h' ∧ sgood vT vR vE 153 6051 h' ∧ sframe ([(104, 2, false)], []) h h' ∧ ((((-2147483648) ≤ v.toInt ∧ v.toInt ≤ 2147483647))) := by
  have ha : sargs (cap vC_219) [xf 13 104] := ⟨rfl, trivial⟩
  obtain ⟨ρ, rs, h', ⟨hv, hw⟩, c, g, f, cs, hcs, k1, k2, k3, k4, k5, k6⟩ := vc_219 l [xf 13 104] h ha hg (fun q hq => absurd hq List.not_mem_nil) (fun q hq => absurd hq List.not_mem_nil) (fun ρ hρ g hg' => absurd hg' List.not_mem_nil)
  rcases List.mem_cons.mp hcs with rfl | hcs
  · obtain ⟨v, rfl, kv⟩ := sres_i k3
    exact ⟨v, h', c, g, f, kv⟩
  exact absurd hcs List.not_mem_nil
theorem vl_123 (l : Launch) (x0 : Int32) (h : XH) (hg : sgood vT vR vE 153 6051 h) (a0 : (-2147483648) ≤ x0.toInt ∧ x0.toInt ≤ 2147483647) : ∃ (v : Int32) (h' : XH), CX l 2 44 false 123 [xf 12 2, xi x0] h [xi v] h' ∧ sgood vT vR vE 153 6051 h' ∧ sframe ([], []) h h' ∧ ((((-1) ≤ v.toInt ∧ v.toInt ≤ (-1))) ∨ ((0 ≤ x0.toInt ∧ x0.toInt ≤ 1) ∧ ((-2147483648) ≤ v.toInt ∧ v.toInt ≤ 2147483647))) := by
  have ha : sargs (cap vC_220) [xf 12 2, xi x0] := ⟨rfl, a0, trivial⟩
  obtain ⟨ρ, rs, h', ⟨hv, hw⟩, c, g, f, cs, hcs, k1, k2, k3, k4, k5, k6⟩ := vc_220 l [xf 12 2, xi x0] h ha hg (fun q hq => absurd hq List.not_mem_nil) (fun q hq => absurd hq List.not_mem_nil) (fun ρ hρ g hg' => absurd hg' List.not_mem_nil)
  have e0 : ρ 0 = x0.toInt := hv.1
  rcases List.mem_cons.mp hcs with rfl | hcs
  · obtain ⟨v, rfl, kv⟩ := sres_i k3
    exact ⟨v, h', c, g, f, Or.inl kv⟩
  rcases List.mem_cons.mp hcs with rfl | hcs
  · obtain ⟨v, rfl, kv⟩ := sres_i k3
    exact ⟨v, h', c, g, f, Or.inr (⟨(by have z := k1 0 _ rfl; rw [e0] at z; exact z), kv⟩)⟩
  exact absurd hcs List.not_mem_nil
theorem vl_259 (l : Launch) (x0 : Int32) (h : XH) (hg : sgood vT vR vE 153 6051 h) (a0 : (-2147483648) ≤ x0.toInt ∧ x0.toInt ≤ 2147483647) : ∃ (v : Int32) (h' : XH), CX l 2 46 false 259 [xf 13 104, xi x0] h [xi v] h' ∧ sgood vT vR vE 153 6051 h' ∧ sframe ([(104, 2, false), (104, 63, false), (104, 64, false), (133, 6, false), (133, 7, false), (133, 8, false), (133, 9, false), (133, 10, false), (133, 11, false), (134, 6, false), (134, 7, false), (134, 8, false), (134, 9, false), (134, 10, false), (134, 11, false), (135, 8, false), (135, 9, false), (135, 10, false), (135, 11, false), (135, 12, false), (135, 13, false), (135, 14, false), (135, 15, false), (136, 8, false), (136, 9, false), (136, 10, false), (136, 11, false), (136, 12, false), (136, 13, false), (136, 14, false), (136, 15, false), (137, 8, false), (137, 9, false), (137, 10, false), (137, 11, false), (137, 12, false), (137, 13, false), (137, 14, false), (137, 15, false), (138, 1, false)], []) h h' ∧ ((((-1) ≤ v.toInt ∧ v.toInt ≤ (-1))) ∨ ((0 ≤ x0.toInt ∧ x0.toInt ≤ 1) ∧ ((-2147483648) ≤ v.toInt ∧ v.toInt ≤ 2147483647))) := by
  have ha : sargs (cap vC_221) [xf 13 104, xi x0] := ⟨rfl, a0, trivial⟩
  obtain ⟨ρ, rs, h', ⟨hv, hw⟩, c, g, f, cs, hcs, k1, k2, k3, k4, k5, k6⟩ := vc_221 l [xf 13 104, xi x0] h ha hg (fun q hq => absurd hq List.not_mem_nil) (fun q hq => absurd hq List.not_mem_nil) (fun ρ hρ g hg' => absurd hg' List.not_mem_nil)
  have e0 : ρ 0 = x0.toInt := hv.1
  rcases List.mem_cons.mp hcs with rfl | hcs
  · obtain ⟨v, rfl, kv⟩ := sres_i k3
    exact ⟨v, h', c, g, f, Or.inl kv⟩
  rcases List.mem_cons.mp hcs with rfl | hcs
  · obtain ⟨v, rfl, kv⟩ := sres_i k3
    exact ⟨v, h', c, g, f, Or.inr (⟨(by have z := k1 0 _ rfl; rw [e0] at z; exact z), kv⟩)⟩
  exact absurd hcs List.not_mem_nil
theorem vl_124 (l : Launch) (x0 : Int32) (x1 : Int32) (x2 : Int32) (h : XH) (hg : sgood vT vR vE 153 6051 h) (a0 : (-2147483648) ≤ x0.toInt ∧ x0.toInt ≤ 2147483647) (a1 : (-2147483648) ≤ x1.toInt ∧ x1.toInt ≤ 2147483647) (a2 : (-2147483648) ≤ x2.toInt ∧ x2.toInt ≤ 2147483647) : ∃ (v : Int32) (h' : XH), CX l 7 172 false 124 [xf 12 2, xi x0, xi x1, xi x2] h [xi v] h' ∧ sgood vT vR vE 153 6051 h' ∧ sframe ([(59, 7, false), (59, 10, false), (60, 0, true), (61, 0, true), (62, 0, true), (63, 0, true), (64, 0, true), (65, 0, true), (66, 0, true), (67, 0, true), (68, 0, true), (99, 0, true)], [(59, 0)]) h h' ∧ ((((-1) ≤ v.toInt ∧ v.toInt ≤ (-1))) ∨ ((0 ≤ x0.toInt ∧ x0.toInt ≤ 5) ∧ (0 ≤ x1.toInt ∧ x1.toInt ≤ 5) ∧ (0 ≤ x2.toInt ∧ x2.toInt ≤ 60) ∧ ((-2) ≤ v.toInt ∧ v.toInt ≤ (-2))) ∨ ((0 ≤ x0.toInt ∧ x0.toInt ≤ 5) ∧ (0 ≤ x1.toInt ∧ x1.toInt ≤ 5) ∧ (0 ≤ x2.toInt ∧ x2.toInt ≤ 60) ∧ (0 ≤ v.toInt ∧ v.toInt ≤ 60))) := by
  have ha : sargs (cap vC_230) [xf 12 2, xi x0, xi x1, xi x2] := ⟨rfl, a0, a1, a2, trivial⟩
  obtain ⟨ρ, rs, h', ⟨hv, hw⟩, c, g, f, cs, hcs, k1, k2, k3, k4, k5, k6⟩ := vc_230 l [xf 12 2, xi x0, xi x1, xi x2] h ha hg (fun q hq => absurd hq List.not_mem_nil) (fun q hq => absurd hq List.not_mem_nil) (fun ρ hρ g hg' => absurd hg' List.not_mem_nil)
  have e0 : ρ 0 = x0.toInt := hv.1
  have e1 : ρ 1 = x1.toInt := hv.2.1
  have e2 : ρ 2 = x2.toInt := hv.2.2.1
  rcases List.mem_cons.mp hcs with rfl | hcs
  · obtain ⟨v, rfl, kv⟩ := sres_i k3
    exact ⟨v, h', c, g, f, Or.inl kv⟩
  rcases List.mem_cons.mp hcs with rfl | hcs
  · obtain ⟨v, rfl, kv⟩ := sres_i k3
    exact ⟨v, h', c, g, f, Or.inr (Or.inl ⟨(by have z := k1 0 _ rfl; rw [e0] at z; exact z), (by have z := k1 1 _ rfl; rw [e1] at z; exact z), (by have z := k1 2 _ rfl; rw [e2] at z; exact z), kv⟩)⟩
  rcases List.mem_cons.mp hcs with rfl | hcs
  · obtain ⟨v, rfl, kv⟩ := sres_i k3
    exact ⟨v, h', c, g, f, Or.inr (Or.inr (⟨(by have z := k1 0 _ rfl; rw [e0] at z; exact z), (by have z := k1 1 _ rfl; rw [e1] at z; exact z), (by have z := k1 2 _ rfl; rw [e2] at z; exact z), kv⟩))⟩
  exact absurd hcs List.not_mem_nil
theorem vl_260 (l : Launch) (x0 : Int32) (x1 : Int32) (x2 : Int32) (h : XH) (hg : sgood vT vR vE 153 6051 h) (a0 : (-2147483648) ≤ x0.toInt ∧ x0.toInt ≤ 2147483647) (a1 : (-2147483648) ≤ x1.toInt ∧ x1.toInt ≤ 2147483647) (a2 : (-2147483648) ≤ x2.toInt ∧ x2.toInt ≤ 2147483647) : ∃ (v : Int32) (h' : XH), CX l 11 292 false 260 [xf 13 104, xi x0, xi x1, xi x2] h [xi v] h' ∧ sgood vT vR vE 153 6051 h' ∧ sframe ([(104, 2, false), (104, 54, false), (104, 63, false), (104, 64, false), (133, 6, false), (133, 7, false), (133, 8, false), (133, 9, false), (133, 10, false), (133, 11, false), (134, 0, true), (135, 8, false), (135, 9, false), (135, 10, false), (135, 11, false), (135, 12, false), (135, 13, false), (135, 14, false), (135, 15, false), (136, 0, true), (137, 0, true), (138, 1, false), (139, 0, true), (140, 0, true)], []) h h' ∧ ((((-1) ≤ v.toInt ∧ v.toInt ≤ (-1))) ∨ ((0 ≤ x0.toInt ∧ x0.toInt ≤ 5) ∧ (0 ≤ x1.toInt ∧ x1.toInt ≤ 5) ∧ (0 ≤ x2.toInt ∧ x2.toInt ≤ 60) ∧ ((-2) ≤ v.toInt ∧ v.toInt ≤ (-2))) ∨ ((0 ≤ x0.toInt ∧ x0.toInt ≤ 5) ∧ (0 ≤ x1.toInt ∧ x1.toInt ≤ 5) ∧ (0 ≤ x2.toInt ∧ x2.toInt ≤ 60) ∧ (0 ≤ v.toInt ∧ v.toInt ≤ 60))) := by
  have ha : sargs (cap vC_234) [xf 13 104, xi x0, xi x1, xi x2] := ⟨rfl, a0, a1, a2, trivial⟩
  obtain ⟨ρ, rs, h', ⟨hv, hw⟩, c, g, f, cs, hcs, k1, k2, k3, k4, k5, k6⟩ := vc_234 l [xf 13 104, xi x0, xi x1, xi x2] h ha hg (fun q hq => absurd hq List.not_mem_nil) (fun q hq => absurd hq List.not_mem_nil) (fun ρ hρ g hg' => absurd hg' List.not_mem_nil)
  have e0 : ρ 0 = x0.toInt := hv.1
  have e1 : ρ 1 = x1.toInt := hv.2.1
  have e2 : ρ 2 = x2.toInt := hv.2.2.1
  rcases List.mem_cons.mp hcs with rfl | hcs
  · obtain ⟨v, rfl, kv⟩ := sres_i k3
    exact ⟨v, h', c, g, f, Or.inl kv⟩
  rcases List.mem_cons.mp hcs with rfl | hcs
  · obtain ⟨v, rfl, kv⟩ := sres_i k3
    exact ⟨v, h', c, g, f, Or.inr (Or.inl ⟨(by have z := k1 0 _ rfl; rw [e0] at z; exact z), (by have z := k1 1 _ rfl; rw [e1] at z; exact z), (by have z := k1 2 _ rfl; rw [e2] at z; exact z), kv⟩)⟩
  rcases List.mem_cons.mp hcs with rfl | hcs
  · obtain ⟨v, rfl, kv⟩ := sres_i k3
    exact ⟨v, h', c, g, f, Or.inr (Or.inr (⟨(by have z := k1 0 _ rfl; rw [e0] at z; exact z), (by have z := k1 1 _ rfl; rw [e1] at z; exact z), (by have z := k1 2 _ rfl; rw [e2] at z; exact z), kv⟩))⟩
  exact absurd hcs List.not_mem_nil
theorem vl_130 (l : Launch) (x0 : Int32) (x1 : Int32) (h : XH) (hg : sgood vT vR vE 153 6051 h) (a0 : (-2147483648) ≤ x0.toInt ∧ x0.toInt ≤ 2147483647) (a1 : (-2147483648) ≤ x1.toInt ∧ x1.toInt ≤ 2147483647) : ∃ (v : Int32) (h' : XH), CX l 7 172 false 130 [xf 12 2, xi x0, xi x1] h [xi v] h' ∧ sgood vT vR vE 153 6051 h' ∧ sframe ([(59, 7, false), (59, 10, false), (60, 0, true), (61, 0, true), (62, 0, true), (63, 0, true), (64, 0, true), (65, 0, true), (66, 0, true), (67, 0, true), (68, 0, true), (99, 0, true)], [(59, 0)]) h h' ∧ ((((-1) ≤ v.toInt ∧ v.toInt ≤ (-1))) ∨ ((0 ≤ x0.toInt ∧ x0.toInt ≤ 5) ∧ (0 ≤ x1.toInt ∧ x1.toInt ≤ 5) ∧ ((-2) ≤ v.toInt ∧ v.toInt ≤ (-2))) ∨ ((0 ≤ x0.toInt ∧ x0.toInt ≤ 5) ∧ (0 ≤ x1.toInt ∧ x1.toInt ≤ 5) ∧ ((-1) ≤ v.toInt ∧ v.toInt ≤ 60))) := by
  have ha : sargs (cap vC_235) [xf 12 2, xi x0, xi x1] := ⟨rfl, a0, a1, trivial⟩
  obtain ⟨ρ, rs, h', ⟨hv, hw⟩, c, g, f, cs, hcs, k1, k2, k3, k4, k5, k6⟩ := vc_235 l [xf 12 2, xi x0, xi x1] h ha hg (fun q hq => absurd hq List.not_mem_nil) (fun q hq => absurd hq List.not_mem_nil) (fun ρ hρ g hg' => absurd hg' List.not_mem_nil)
  have e0 : ρ 0 = x0.toInt := hv.1
  have e1 : ρ 1 = x1.toInt := hv.2.1
  rcases List.mem_cons.mp hcs with rfl | hcs
  · obtain ⟨v, rfl, kv⟩ := sres_i k3
    exact ⟨v, h', c, g, f, Or.inl kv⟩
  rcases List.mem_cons.mp hcs with rfl | hcs
  · obtain ⟨v, rfl, kv⟩ := sres_i k3
    exact ⟨v, h', c, g, f, Or.inr (Or.inl ⟨(by have z := k1 0 _ rfl; rw [e0] at z; exact z), (by have z := k1 1 _ rfl; rw [e1] at z; exact z), kv⟩)⟩
  rcases List.mem_cons.mp hcs with rfl | hcs
  · obtain ⟨v, rfl, kv⟩ := sres_i k3
    exact ⟨v, h', c, g, f, Or.inr (Or.inr (⟨(by have z := k1 0 _ rfl; rw [e0] at z; exact z), (by have z := k1 1 _ rfl; rw [e1] at z; exact z), kv⟩))⟩
  exact absurd hcs List.not_mem_nil
theorem vl_131 (l : Launch) (x0 : Int32) (h : XH) (hg : sgood vT vR vE 153 6051 h) (a0 : (-2147483648) ≤ x0.toInt ∧ x0.toInt ≤ 2147483647) : ∃ (v : Int32) (h' : XH), CX l 6 152 false 131 [xf 12 2, xi x0] h [xi v] h' ∧ sgood vT vR vE 153 6051 h' ∧ sframe ([], []) h h' ∧ ((((-1) ≤ v.toInt ∧ v.toInt ≤ (-1))) ∨ ((0 ≤ x0.toInt ∧ x0.toInt ≤ 7) ∧ ((-2147483648) ≤ v.toInt ∧ v.toInt ≤ 2147483647)) ∨ ((0 ≤ x0.toInt ∧ x0.toInt ≤ 7) ∧ ((-2) ≤ v.toInt ∧ v.toInt ≤ (-2)))) := by
  have ha : sargs (cap vC_243) [xf 12 2, xi x0] := ⟨rfl, a0, trivial⟩
  obtain ⟨ρ, rs, h', ⟨hv, hw⟩, c, g, f, cs, hcs, k1, k2, k3, k4, k5, k6⟩ := vc_243 l [xf 12 2, xi x0] h ha hg (fun q hq => absurd hq List.not_mem_nil) (fun q hq => absurd hq List.not_mem_nil) (fun ρ hρ g hg' => absurd hg' List.not_mem_nil)
  have e0 : ρ 0 = x0.toInt := hv.1
  rcases List.mem_cons.mp hcs with rfl | hcs
  · obtain ⟨v, rfl, kv⟩ := sres_i k3
    exact ⟨v, h', c, g, f, Or.inl kv⟩
  rcases List.mem_cons.mp hcs with rfl | hcs
  · obtain ⟨v, rfl, kv⟩ := sres_i k3
    exact ⟨v, h', c, g, f, Or.inr (Or.inl ⟨(by have z := k1 0 _ rfl; rw [e0] at z; exact z), kv⟩)⟩
  rcases List.mem_cons.mp hcs with rfl | hcs
  · obtain ⟨v, rfl, kv⟩ := sres_i k3
    exact ⟨v, h', c, g, f, Or.inr (Or.inr (⟨(by have z := k1 0 _ rfl; rw [e0] at z; exact z), kv⟩))⟩
  exact absurd hcs List.not_mem_nil
theorem vl_264 (l : Launch) (x0 : Int32) (h : XH) (hg : sgood vT vR vE 153 6051 h) (a0 : (-2147483648) ≤ x0.toInt ∧ x0.toInt ≤ 2147483647) : ∃ (v : Int32) (h' : XH), CX l 7 196 false 264 [xf 13 104, xi x0] h [xi v] h' ∧ sgood vT vR vE 153 6051 h' ∧ sframe ([(104, 2, false), (104, 54, false), (104, 63, false), (104, 64, false), (141, 0, true), (142, 0, true), (143, 0, true), (144, 0, true)], []) h h' ∧ ((((-1) ≤ v.toInt ∧ v.toInt ≤ (-1))) ∨ ((0 ≤ x0.toInt ∧ x0.toInt ≤ 7) ∧ ((-2) ≤ v.toInt ∧ v.toInt ≤ (-2))) ∨ ((0 ≤ x0.toInt ∧ x0.toInt ≤ 7) ∧ ((-1) ≤ v.toInt ∧ v.toInt ≤ 5))) := by
  have ha : sargs (cap vC_245) [xf 13 104, xi x0] := ⟨rfl, a0, trivial⟩
  obtain ⟨ρ, rs, h', ⟨hv, hw⟩, c, g, f, cs, hcs, k1, k2, k3, k4, k5, k6⟩ := vc_245 l [xf 13 104, xi x0] h ha hg (fun q hq => absurd hq List.not_mem_nil) (fun q hq => absurd hq List.not_mem_nil) (fun ρ hρ g hg' => absurd hg' List.not_mem_nil)
  have e0 : ρ 0 = x0.toInt := hv.1
  rcases List.mem_cons.mp hcs with rfl | hcs
  · obtain ⟨v, rfl, kv⟩ := sres_i k3
    exact ⟨v, h', c, g, f, Or.inl kv⟩
  rcases List.mem_cons.mp hcs with rfl | hcs
  · obtain ⟨v, rfl, kv⟩ := sres_i k3
    exact ⟨v, h', c, g, f, Or.inr (Or.inl ⟨(by have z := k1 0 _ rfl; rw [e0] at z; exact z), kv⟩)⟩
  rcases List.mem_cons.mp hcs with rfl | hcs
  · obtain ⟨v, rfl, kv⟩ := sres_i k3
    exact ⟨v, h', c, g, f, Or.inr (Or.inr (⟨(by have z := k1 0 _ rfl; rw [e0] at z; exact z), kv⟩))⟩
  exact absurd hcs List.not_mem_nil
theorem vl_138 (l : Launch) (x0 : Int32) (x1 : Int32) (h : XH) (hg : sgood vT vR vE 153 6051 h) (a0 : (-2147483648) ≤ x0.toInt ∧ x0.toInt ≤ 2147483647) (a1 : (-2147483648) ≤ x1.toInt ∧ x1.toInt ≤ 2147483647) : ∃ (v : Int32) (h' : XH), CX l 1 24 false 138 [xf 12 2, xi x0, xi x1] h [xi v] h' ∧ sgood vT vR vE 153 6051 h' ∧ sframe ([], []) h h' ∧ ((((-1) ≤ v.toInt ∧ v.toInt ≤ (-1))) ∨ ((0 ≤ x0.toInt ∧ x0.toInt ≤ 5) ∧ (0 ≤ x1.toInt ∧ x1.toInt ≤ 2) ∧ (0 ≤ v.toInt ∧ v.toInt ≤ 891))) := by
  have ha : sargs (cap vC_247) [xf 12 2, xi x0, xi x1] := ⟨rfl, a0, a1, trivial⟩
  obtain ⟨ρ, rs, h', ⟨hv, hw⟩, c, g, f, cs, hcs, k1, k2, k3, k4, k5, k6⟩ := vc_247 l [xf 12 2, xi x0, xi x1] h ha hg (fun q hq => absurd hq List.not_mem_nil) (fun q hq => absurd hq List.not_mem_nil) (fun ρ hρ g hg' => absurd hg' List.not_mem_nil)
  have e0 : ρ 0 = x0.toInt := hv.1
  have e1 : ρ 1 = x1.toInt := hv.2.1
  rcases List.mem_cons.mp hcs with rfl | hcs
  · obtain ⟨v, rfl, kv⟩ := sres_i k3
    exact ⟨v, h', c, g, f, Or.inl kv⟩
  rcases List.mem_cons.mp hcs with rfl | hcs
  · obtain ⟨v, rfl, kv⟩ := sres_i k3
    exact ⟨v, h', c, g, f, Or.inr (⟨(by have z := k1 0 _ rfl; rw [e0] at z; exact z), (by have z := k1 1 _ rfl; rw [e1] at z; exact z), kv⟩)⟩
  exact absurd hcs List.not_mem_nil
theorem vl_266 (l : Launch) (x0 : Int32) (x1 : Int32) (h : XH) (hg : sgood vT vR vE 153 6051 h) (a0 : (-2147483648) ≤ x0.toInt ∧ x0.toInt ≤ 2147483647) (a1 : (-2147483648) ≤ x1.toInt ∧ x1.toInt ≤ 2147483647) : ∃ (v : Int32) (h' : XH), CX l 1 22 false 266 [xf 13 104, xi x0, xi x1] h [xi v] h' ∧ sgood vT vR vE 153 6051 h' ∧ sframe ([(104, 2, false)], []) h h' ∧ ((((-1) ≤ v.toInt ∧ v.toInt ≤ (-1))) ∨ ((0 ≤ x0.toInt ∧ x0.toInt ≤ 5) ∧ (0 ≤ x1.toInt ∧ x1.toInt ≤ 2) ∧ (0 ≤ v.toInt ∧ v.toInt ≤ 891))) := by
  have ha : sargs (cap vC_249) [xf 13 104, xi x0, xi x1] := ⟨rfl, a0, a1, trivial⟩
  obtain ⟨ρ, rs, h', ⟨hv, hw⟩, c, g, f, cs, hcs, k1, k2, k3, k4, k5, k6⟩ := vc_249 l [xf 13 104, xi x0, xi x1] h ha hg (fun q hq => absurd hq List.not_mem_nil) (fun q hq => absurd hq List.not_mem_nil) (fun ρ hρ g hg' => absurd hg' List.not_mem_nil)
  have e0 : ρ 0 = x0.toInt := hv.1
  have e1 : ρ 1 = x1.toInt := hv.2.1
  rcases List.mem_cons.mp hcs with rfl | hcs
  · obtain ⟨v, rfl, kv⟩ := sres_i k3
    exact ⟨v, h', c, g, f, Or.inl kv⟩
  rcases List.mem_cons.mp hcs with rfl | hcs
  · obtain ⟨v, rfl, kv⟩ := sres_i k3
    exact ⟨v, h', c, g, f, Or.inr (⟨(by have z := k1 0 _ rfl; rw [e0] at z; exact z), (by have z := k1 1 _ rfl; rw [e1] at z; exact z), kv⟩)⟩
  exact absurd hcs List.not_mem_nil
theorem vl_140 (l : Launch) (x0 : Int32) (x1 : Int32) (h : XH) (hg : sgood vT vR vE 153 6051 h) (a0 : (-2147483648) ≤ x0.toInt ∧ x0.toInt ≤ 2147483647) (a1 : (-2147483648) ≤ x1.toInt ∧ x1.toInt ≤ 2147483647) : ∃ (v : Int32) (h' : XH), CX l 7 177 false 140 [xf 12 2, xi x0, xi x1] h [xi v] h' ∧ sgood vT vR vE 153 6051 h' ∧ sframe ([], []) h h' ∧ (((0 ≤ x0.toInt ∧ x0.toInt ≤ 7) ∧ (0 ≤ x1.toInt ∧ x1.toInt ≤ 7) ∧ (0 ≤ v.toInt ∧ v.toInt ≤ 63)) ∨ (((-1) ≤ v.toInt ∧ v.toInt ≤ (-1)))) := by
  have ha : sargs (cap vC_253) [xf 12 2, xi x0, xi x1] := ⟨rfl, a0, a1, trivial⟩
  obtain ⟨ρ, rs, h', ⟨hv, hw⟩, c, g, f, cs, hcs, k1, k2, k3, k4, k5, k6⟩ := vc_253 l [xf 12 2, xi x0, xi x1] h ha hg (fun q hq => absurd hq List.not_mem_nil) (fun q hq => absurd hq List.not_mem_nil) (fun ρ hρ g hg' => absurd hg' List.not_mem_nil)
  have e0 : ρ 0 = x0.toInt := hv.1
  have e1 : ρ 1 = x1.toInt := hv.2.1
  rcases List.mem_cons.mp hcs with rfl | hcs
  · obtain ⟨v, rfl, kv⟩ := sres_i k3
    exact ⟨v, h', c, g, f, Or.inl ⟨(by have z := k1 0 _ rfl; rw [e0] at z; exact z), (by have z := k1 1 _ rfl; rw [e1] at z; exact z), kv⟩⟩
  rcases List.mem_cons.mp hcs with rfl | hcs
  · obtain ⟨v, rfl, kv⟩ := sres_i k3
    exact ⟨v, h', c, g, f, Or.inr (kv)⟩
  exact absurd hcs List.not_mem_nil
theorem vl_267 (l : Launch) (x0 : Int32) (x1 : Int32) (h : XH) (hg : sgood vT vR vE 153 6051 h) (a0 : (-2147483648) ≤ x0.toInt ∧ x0.toInt ≤ 2147483647) (a1 : (-2147483648) ≤ x1.toInt ∧ x1.toInt ≤ 2147483647) : ∃ (v : Int32) (h' : XH), CX l 10 268 false 267 [xf 13 104, xi x0, xi x1] h [xi v] h' ∧ sgood vT vR vE 153 6051 h' ∧ sframe ([(104, 2, false), (104, 54, false), (104, 63, false), (104, 64, false), (133, 6, false), (133, 7, false), (133, 8, false), (133, 9, false), (133, 10, false), (133, 11, false), (134, 6, false), (134, 7, false), (134, 8, false), (134, 9, false), (134, 10, false), (134, 11, false), (135, 8, false), (135, 9, false), (135, 10, false), (135, 11, false), (135, 12, false), (135, 13, false), (135, 14, false), (135, 15, false), (136, 0, true), (137, 8, false), (137, 9, false), (137, 10, false), (137, 11, false), (137, 12, false), (137, 13, false), (137, 14, false), (137, 15, false), (138, 1, false), (145, 0, true), (146, 0, true)], []) h h' ∧ (((0 ≤ x0.toInt ∧ x0.toInt ≤ 7) ∧ (0 ≤ x1.toInt ∧ x1.toInt ≤ 7) ∧ ((-2147483648) ≤ v.toInt ∧ v.toInt ≤ 2147483647)) ∨ ((0 ≤ x0.toInt ∧ x0.toInt ≤ 7) ∧ (0 ≤ x1.toInt ∧ x1.toInt ≤ 7) ∧ (0 ≤ v.toInt ∧ v.toInt ≤ 0)) ∨ ((0 ≤ x0.toInt ∧ x0.toInt ≤ 7) ∧ (0 ≤ x1.toInt ∧ x1.toInt ≤ 7) ∧ (1 ≤ v.toInt ∧ v.toInt ≤ 1)) ∨ ((0 ≤ x0.toInt ∧ x0.toInt ≤ 7) ∧ (0 ≤ x1.toInt ∧ x1.toInt ≤ 7) ∧ (10 ≤ v.toInt ∧ v.toInt ≤ 11)) ∨ (((-1) ≤ v.toInt ∧ v.toInt ≤ (-1)))) := by
  have ha : sargs (cap vC_256) [xf 13 104, xi x0, xi x1] := ⟨rfl, a0, a1, trivial⟩
  obtain ⟨ρ, rs, h', ⟨hv, hw⟩, c, g, f, cs, hcs, k1, k2, k3, k4, k5, k6⟩ := vc_256 l [xf 13 104, xi x0, xi x1] h ha hg (fun q hq => absurd hq List.not_mem_nil) (fun q hq => absurd hq List.not_mem_nil) (fun ρ hρ g hg' => absurd hg' List.not_mem_nil)
  have e0 : ρ 0 = x0.toInt := hv.1
  have e1 : ρ 1 = x1.toInt := hv.2.1
  rcases List.mem_cons.mp hcs with rfl | hcs
  · obtain ⟨v, rfl, kv⟩ := sres_i k3
    exact ⟨v, h', c, g, f, Or.inl ⟨(by have z := k1 0 _ rfl; rw [e0] at z; exact z), (by have z := k1 1 _ rfl; rw [e1] at z; exact z), kv⟩⟩
  rcases List.mem_cons.mp hcs with rfl | hcs
  · obtain ⟨v, rfl, kv⟩ := sres_i k3
    exact ⟨v, h', c, g, f, Or.inr (Or.inl ⟨(by have z := k1 0 _ rfl; rw [e0] at z; exact z), (by have z := k1 1 _ rfl; rw [e1] at z; exact z), kv⟩)⟩
  rcases List.mem_cons.mp hcs with rfl | hcs
  · obtain ⟨v, rfl, kv⟩ := sres_i k3
    exact ⟨v, h', c, g, f, Or.inr (Or.inr (Or.inl ⟨(by have z := k1 0 _ rfl; rw [e0] at z; exact z), (by have z := k1 1 _ rfl; rw [e1] at z; exact z), kv⟩))⟩
  rcases List.mem_cons.mp hcs with rfl | hcs
  · obtain ⟨v, rfl, kv⟩ := sres_i k3
    exact ⟨v, h', c, g, f, Or.inr (Or.inr (Or.inr (Or.inl ⟨(by have z := k1 0 _ rfl; rw [e0] at z; exact z), (by have z := k1 1 _ rfl; rw [e1] at z; exact z), kv⟩)))⟩
  rcases List.mem_cons.mp hcs with rfl | hcs
  · obtain ⟨v, rfl, kv⟩ := sres_i k3
    exact ⟨v, h', c, g, f, Or.inr (Or.inr (Or.inr (Or.inr (kv))))⟩
  exact absurd hcs List.not_mem_nil
theorem vl_144 (l : Launch) (x0 : Int32) (x1 : Int32) (x2 : Int32) (h : XH) (hg : sgood vT vR vE 153 6051 h) (a0 : (-2147483648) ≤ x0.toInt ∧ x0.toInt ≤ 2147483647) (a1 : (-2147483648) ≤ x1.toInt ∧ x1.toInt ≤ 2147483647) (a2 : (-2147483648) ≤ x2.toInt ∧ x2.toInt ≤ 2147483647) : ∃ (v : Int32) (h' : XH), CX l 7 177 false 144 [xf 12 2, xi x0, xi x1, xi x2] h [xi v] h' ∧ sgood vT vR vE 153 6051 h' ∧ sframe ([], []) h h' ∧ ((((-1) ≤ v.toInt ∧ v.toInt ≤ (-1))) ∨ ((0 ≤ x0.toInt ∧ x0.toInt ≤ 7) ∧ (0 ≤ x1.toInt ∧ x1.toInt ≤ 7) ∧ (0 ≤ x2.toInt ∧ x2.toInt ≤ 2147483647) ∧ (0 ≤ v.toInt ∧ v.toInt ≤ 11)) ∨ ((0 ≤ x0.toInt ∧ x0.toInt ≤ 7) ∧ (0 ≤ x1.toInt ∧ x1.toInt ≤ 7) ∧ (0 ≤ x2.toInt ∧ x2.toInt ≤ 2147483647) ∧ ((-2) ≤ v.toInt ∧ v.toInt ≤ (-2)))) := by
  have ha : sargs (cap vC_257) [xf 12 2, xi x0, xi x1, xi x2] := ⟨rfl, a0, a1, a2, trivial⟩
  obtain ⟨ρ, rs, h', ⟨hv, hw⟩, c, g, f, cs, hcs, k1, k2, k3, k4, k5, k6⟩ := vc_257 l [xf 12 2, xi x0, xi x1, xi x2] h ha hg (fun q hq => absurd hq List.not_mem_nil) (fun q hq => absurd hq List.not_mem_nil) (fun ρ hρ g hg' => absurd hg' List.not_mem_nil)
  have e0 : ρ 0 = x0.toInt := hv.1
  have e1 : ρ 1 = x1.toInt := hv.2.1
  have e2 : ρ 2 = x2.toInt := hv.2.2.1
  rcases List.mem_cons.mp hcs with rfl | hcs
  · obtain ⟨v, rfl, kv⟩ := sres_i k3
    exact ⟨v, h', c, g, f, Or.inl kv⟩
  rcases List.mem_cons.mp hcs with rfl | hcs
  · obtain ⟨v, rfl, kv⟩ := sres_i k3
    exact ⟨v, h', c, g, f, Or.inr (Or.inl ⟨(by have z := k1 0 _ rfl; rw [e0] at z; exact z), (by have z := k1 1 _ rfl; rw [e1] at z; exact z), (by have z := k1 2 _ rfl; rw [e2] at z; exact z), kv⟩)⟩
  rcases List.mem_cons.mp hcs with rfl | hcs
  · obtain ⟨v, rfl, kv⟩ := sres_i k3
    exact ⟨v, h', c, g, f, Or.inr (Or.inr (⟨(by have z := k1 0 _ rfl; rw [e0] at z; exact z), (by have z := k1 1 _ rfl; rw [e1] at z; exact z), (by have z := k1 2 _ rfl; rw [e2] at z; exact z), kv⟩))⟩
  exact absurd hcs List.not_mem_nil
theorem vl_270 (l : Launch) (x0 : Int32) (x1 : Int32) (x2 : Int32) (h : XH) (hg : sgood vT vR vE 153 6051 h) (a0 : (-2147483648) ≤ x0.toInt ∧ x0.toInt ≤ 2147483647) (a1 : (-2147483648) ≤ x1.toInt ∧ x1.toInt ≤ 2147483647) (a2 : (-2147483648) ≤ x2.toInt ∧ x2.toInt ≤ 2147483647) : ∃ (v : Int32) (h' : XH), CX l 10 268 false 270 [xf 13 104, xi x0, xi x1, xi x2] h [xi v] h' ∧ sgood vT vR vE 153 6051 h' ∧ sframe ([(104, 2, false), (104, 54, false), (104, 63, false), (104, 64, false), (133, 6, false), (133, 7, false), (133, 8, false), (133, 9, false), (133, 10, false), (133, 11, false), (134, 6, false), (134, 7, false), (134, 8, false), (134, 9, false), (134, 10, false), (134, 11, false), (135, 8, false), (135, 9, false), (135, 10, false), (135, 11, false), (135, 12, false), (135, 13, false), (135, 14, false), (135, 15, false), (136, 0, true), (137, 8, false), (137, 9, false), (137, 10, false), (137, 11, false), (137, 12, false), (137, 13, false), (137, 14, false), (137, 15, false), (138, 1, false), (145, 0, true), (146, 0, true)], []) h h' ∧ (((0 ≤ x0.toInt ∧ x0.toInt ≤ 7) ∧ (0 ≤ x1.toInt ∧ x1.toInt ≤ 7) ∧ (0 ≤ x2.toInt ∧ x2.toInt ≤ 2147483647) ∧ ((-2) ≤ v.toInt ∧ v.toInt ≤ (-2))) ∨ ((0 ≤ x0.toInt ∧ x0.toInt ≤ 7) ∧ (0 ≤ x1.toInt ∧ x1.toInt ≤ 7) ∧ (0 ≤ x2.toInt ∧ x2.toInt ≤ 2147483647) ∧ (0 ≤ v.toInt ∧ v.toInt ≤ 0)) ∨ ((0 ≤ x0.toInt ∧ x0.toInt ≤ 7) ∧ (0 ≤ x1.toInt ∧ x1.toInt ≤ 7) ∧ (0 ≤ x2.toInt ∧ x2.toInt ≤ 2147483647) ∧ (1 ≤ v.toInt ∧ v.toInt ≤ 1)) ∨ ((0 ≤ x0.toInt ∧ x0.toInt ≤ 7) ∧ (0 ≤ x1.toInt ∧ x1.toInt ≤ 7) ∧ (0 ≤ x2.toInt ∧ x2.toInt ≤ 2147483647) ∧ (10 ≤ v.toInt ∧ v.toInt ≤ 11)) ∨ (((-1) ≤ v.toInt ∧ v.toInt ≤ (-1)))) := by
  have ha : sargs (cap vC_258) [xf 13 104, xi x0, xi x1, xi x2] := ⟨rfl, a0, a1, a2, trivial⟩
  obtain ⟨ρ, rs, h', ⟨hv, hw⟩, c, g, f, cs, hcs, k1, k2, k3, k4, k5, k6⟩ := vc_258 l [xf 13 104, xi x0, xi x1, xi x2] h ha hg (fun q hq => absurd hq List.not_mem_nil) (fun q hq => absurd hq List.not_mem_nil) (fun ρ hρ g hg' => absurd hg' List.not_mem_nil)
  have e0 : ρ 0 = x0.toInt := hv.1
  have e1 : ρ 1 = x1.toInt := hv.2.1
  have e2 : ρ 2 = x2.toInt := hv.2.2.1
  rcases List.mem_cons.mp hcs with rfl | hcs
  · obtain ⟨v, rfl, kv⟩ := sres_i k3
    exact ⟨v, h', c, g, f, Or.inl ⟨(by have z := k1 0 _ rfl; rw [e0] at z; exact z), (by have z := k1 1 _ rfl; rw [e1] at z; exact z), (by have z := k1 2 _ rfl; rw [e2] at z; exact z), kv⟩⟩
  rcases List.mem_cons.mp hcs with rfl | hcs
  · obtain ⟨v, rfl, kv⟩ := sres_i k3
    exact ⟨v, h', c, g, f, Or.inr (Or.inl ⟨(by have z := k1 0 _ rfl; rw [e0] at z; exact z), (by have z := k1 1 _ rfl; rw [e1] at z; exact z), (by have z := k1 2 _ rfl; rw [e2] at z; exact z), kv⟩)⟩
  rcases List.mem_cons.mp hcs with rfl | hcs
  · obtain ⟨v, rfl, kv⟩ := sres_i k3
    exact ⟨v, h', c, g, f, Or.inr (Or.inr (Or.inl ⟨(by have z := k1 0 _ rfl; rw [e0] at z; exact z), (by have z := k1 1 _ rfl; rw [e1] at z; exact z), (by have z := k1 2 _ rfl; rw [e2] at z; exact z), kv⟩))⟩
  rcases List.mem_cons.mp hcs with rfl | hcs
  · obtain ⟨v, rfl, kv⟩ := sres_i k3
    exact ⟨v, h', c, g, f, Or.inr (Or.inr (Or.inr (Or.inl ⟨(by have z := k1 0 _ rfl; rw [e0] at z; exact z), (by have z := k1 1 _ rfl; rw [e1] at z; exact z), (by have z := k1 2 _ rfl; rw [e2] at z; exact z), kv⟩)))⟩
  rcases List.mem_cons.mp hcs with rfl | hcs
  · obtain ⟨v, rfl, kv⟩ := sres_i k3
    exact ⟨v, h', c, g, f, Or.inr (Or.inr (Or.inr (Or.inr (kv))))⟩
  exact absurd hcs List.not_mem_nil
theorem vl_145 (l : Launch) (x0 : Int32) (x1 : Int32) (x2 : Int32) (x3 : Int32) (h : XH) (hg : sgood vT vR vE 153 6051 h) (a0 : (-2147483648) ≤ x0.toInt ∧ x0.toInt ≤ 2147483647) (a1 : (-2147483648) ≤ x1.toInt ∧ x1.toInt ≤ 2147483647) (a2 : (-2147483648) ≤ x2.toInt ∧ x2.toInt ≤ 2147483647) (a3 : 0 ≤ x3.toInt ∧ x3.toInt ≤ 1) : ∃ (v : Int32) (h' : XH), CX l 1 24 false 145 [xf 12 2, xi x0, xi x1, xi x2, xi x3] h [xi v] h' ∧ sgood vT vR vE 153 6051 h' ∧ sframe ([(85, 0, false), (86, 0, false), (86, 1, false), (86, 2, false), (86, 3, false), (86, 4, false), (86, 5, false), (86, 6, false), (86, 7, false), (86, 8, false), (86, 9, false), (86, 10, false), (86, 11, false), (86, 12, false), (86, 13, false), (86, 14, false), (86, 15, false), (86, 16, false), (86, 17, false), (86, 18, false), (86, 19, false), (86, 20, false), (86, 21, false), (86, 22, false), (86, 23, false), (87, 0, false), (87, 1, false), (87, 2, false), (87, 3, false), (87, 4, false), (87, 5, false), (87, 6, false), (87, 7, false), (87, 8, false), (87, 9, false), (87, 10, false), (87, 11, false), (87, 12, false), (87, 13, false), (87, 14, false), (87, 15, false), (87, 16, false), (87, 17, false), (87, 18, false), (87, 19, false), (87, 20, false), (87, 21, false), (87, 22, false), (87, 23, false), (88, 0, false), (88, 1, false), (88, 2, false), (88, 3, false), (88, 4, false), (88, 5, false), (88, 6, false), (88, 7, false), (88, 8, false), (88, 9, false), (88, 10, false), (88, 11, false), (88, 12, false), (88, 13, false), (88, 14, false), (88, 15, false), (88, 16, false), (88, 17, false), (88, 18, false), (88, 19, false), (88, 20, false), (88, 21, false), (88, 22, false), (88, 23, false), (89, 0, false), (89, 1, false), (89, 2, false), (89, 3, false), (89, 4, false), (89, 5, false), (89, 6, false), (89, 7, false), (89, 8, false), (89, 9, false), (89, 10, false), (89, 11, false), (89, 12, false), (89, 13, false), (89, 14, false), (89, 15, false), (89, 16, false), (89, 17, false), (89, 18, false), (89, 19, false), (89, 20, false), (89, 21, false), (89, 22, false), (89, 23, false)], []) h h' ∧ ((((-1) ≤ v.toInt ∧ v.toInt ≤ (-1))) ∨ ((1 ≤ x0.toInt ∧ x0.toInt ≤ 30) ∧ (0 ≤ x1.toInt ∧ x1.toInt ≤ 5) ∧ (1 ≤ x2.toInt ∧ x2.toInt ≤ 9) ∧ (0 ≤ v.toInt ∧ v.toInt ≤ 0)) ∨ ((1 ≤ x0.toInt ∧ x0.toInt ≤ 30) ∧ (0 ≤ x1.toInt ∧ x1.toInt ≤ 5) ∧ (1 ≤ x2.toInt ∧ x2.toInt ≤ 9) ∧ (1 ≤ v.toInt ∧ v.toInt ≤ 1)) ∨ ((1 ≤ x0.toInt ∧ x0.toInt ≤ 30) ∧ (0 ≤ x1.toInt ∧ x1.toInt ≤ 5) ∧ (1 ≤ x2.toInt ∧ x2.toInt ≤ 9) ∧ (2 ≤ v.toInt ∧ v.toInt ≤ 23))) := by
  have ha : sargs (cap vC_261) [xf 12 2, xi x0, xi x1, xi x2, xi x3] := ⟨rfl, a0, a1, a2, a3, trivial⟩
  obtain ⟨ρ, rs, h', ⟨hv, hw⟩, c, g, f, cs, hcs, k1, k2, k3, k4, k5, k6⟩ := vc_261 l [xf 12 2, xi x0, xi x1, xi x2, xi x3] h ha hg (fun q hq => absurd hq List.not_mem_nil) (fun q hq => absurd hq List.not_mem_nil) (fun ρ hρ g hg' => absurd hg' List.not_mem_nil)
  have e0 : ρ 0 = x0.toInt := hv.1
  have e1 : ρ 1 = x1.toInt := hv.2.1
  have e2 : ρ 2 = x2.toInt := hv.2.2.1
  have e3 : ρ 3 = x3.toInt := hv.2.2.2.1
  rcases List.mem_cons.mp hcs with rfl | hcs
  · obtain ⟨v, rfl, kv⟩ := sres_i k3
    exact ⟨v, h', c, g, f, Or.inl kv⟩
  rcases List.mem_cons.mp hcs with rfl | hcs
  · obtain ⟨v, rfl, kv⟩ := sres_i k3
    exact ⟨v, h', c, g, f, Or.inr (Or.inl ⟨(by have z := k1 0 _ rfl; rw [e0] at z; exact z), (by have z := k1 1 _ rfl; rw [e1] at z; exact z), (by have z := k1 2 _ rfl; rw [e2] at z; exact z), kv⟩)⟩
  rcases List.mem_cons.mp hcs with rfl | hcs
  · obtain ⟨v, rfl, kv⟩ := sres_i k3
    exact ⟨v, h', c, g, f, Or.inr (Or.inr (Or.inl ⟨(by have z := k1 0 _ rfl; rw [e0] at z; exact z), (by have z := k1 1 _ rfl; rw [e1] at z; exact z), (by have z := k1 2 _ rfl; rw [e2] at z; exact z), kv⟩))⟩
  rcases List.mem_cons.mp hcs with rfl | hcs
  · obtain ⟨v, rfl, kv⟩ := sres_i k3
    exact ⟨v, h', c, g, f, Or.inr (Or.inr (Or.inr (⟨(by have z := k1 0 _ rfl; rw [e0] at z; exact z), (by have z := k1 1 _ rfl; rw [e1] at z; exact z), (by have z := k1 2 _ rfl; rw [e2] at z; exact z), kv⟩)))⟩
  exact absurd hcs List.not_mem_nil
theorem vl_271 (l : Launch) (x0 : Int32) (x1 : Int32) (x2 : Int32) (x3 : Int32) (h : XH) (hg : sgood vT vR vE 153 6051 h) (a0 : (-2147483648) ≤ x0.toInt ∧ x0.toInt ≤ 2147483647) (a1 : (-2147483648) ≤ x1.toInt ∧ x1.toInt ≤ 2147483647) (a2 : (-2147483648) ≤ x2.toInt ∧ x2.toInt ≤ 2147483647) (a3 : 0 ≤ x3.toInt ∧ x3.toInt ≤ 1) : ∃ (v : Int32) (h' : XH), CX l 1 24 false 271 [xf 13 104, xi x0, xi x1, xi x2, xi x3] h [xi v] h' ∧ sgood vT vR vE 153 6051 h' ∧ sframe ([(104, 2, false), (104, 72, false), (147, 0, false), (147, 1, false), (147, 2, false), (147, 3, false), (147, 4, false), (147, 5, false), (147, 6, false), (147, 7, false), (147, 8, false), (147, 9, false), (147, 10, false), (147, 11, false), (147, 12, false), (147, 13, false), (147, 14, false), (147, 15, false), (147, 16, false), (147, 17, false), (147, 18, false), (147, 19, false), (147, 20, false), (147, 21, false), (147, 22, false), (147, 23, false), (147, 24, false), (147, 25, false), (147, 26, false), (147, 27, false), (147, 28, false), (147, 29, false), (147, 30, false), (147, 31, false), (147, 32, false), (147, 33, false), (147, 34, false), (147, 35, false), (147, 36, false), (147, 37, false), (147, 38, false), (147, 39, false), (147, 40, false), (147, 41, false), (147, 42, false), (147, 43, false), (147, 44, false), (147, 45, false), (147, 46, false), (147, 47, false), (147, 48, false), (147, 49, false), (147, 50, false), (147, 51, false), (147, 52, false), (147, 53, false), (147, 54, false), (147, 55, false), (147, 56, false), (147, 57, false), (147, 58, false), (147, 59, false), (147, 60, false), (147, 61, false), (147, 62, false), (147, 63, false), (147, 64, false), (147, 65, false), (147, 66, false), (147, 67, false), (147, 68, false), (147, 69, false), (147, 70, false), (147, 71, false), (147, 72, false), (147, 73, false), (147, 74, false), (147, 75, false), (147, 76, false), (147, 77, false), (147, 78, false), (147, 79, false), (147, 80, false), (147, 81, false), (147, 82, false), (147, 83, false), (147, 84, false), (147, 85, false), (147, 86, false), (147, 87, false), (147, 88, false), (147, 89, false), (147, 90, false), (147, 91, false), (147, 92, false), (147, 93, false), (147, 94, false), (147, 95, false)], []) h h' ∧ ((((-1) ≤ v.toInt ∧ v.toInt ≤ (-1))) ∨ ((1 ≤ x0.toInt ∧ x0.toInt ≤ 30) ∧ (0 ≤ x1.toInt ∧ x1.toInt ≤ 5) ∧ (1 ≤ x2.toInt ∧ x2.toInt ≤ 9) ∧ (0 ≤ v.toInt ∧ v.toInt ≤ 0)) ∨ ((1 ≤ x0.toInt ∧ x0.toInt ≤ 30) ∧ (0 ≤ x1.toInt ∧ x1.toInt ≤ 5) ∧ (1 ≤ x2.toInt ∧ x2.toInt ≤ 9) ∧ (1 ≤ v.toInt ∧ v.toInt ≤ 1)) ∨ ((1 ≤ x0.toInt ∧ x0.toInt ≤ 30) ∧ (0 ≤ x1.toInt ∧ x1.toInt ≤ 5) ∧ (1 ≤ x2.toInt ∧ x2.toInt ≤ 9) ∧ (2 ≤ v.toInt ∧ v.toInt ≤ 23))) := by
  have ha : sargs (cap vC_265) [xf 13 104, xi x0, xi x1, xi x2, xi x3] := ⟨rfl, a0, a1, a2, a3, trivial⟩
  obtain ⟨ρ, rs, h', ⟨hv, hw⟩, c, g, f, cs, hcs, k1, k2, k3, k4, k5, k6⟩ := vc_265 l [xf 13 104, xi x0, xi x1, xi x2, xi x3] h ha hg (fun q hq => absurd hq List.not_mem_nil) (fun q hq => absurd hq List.not_mem_nil) (fun ρ hρ g hg' => absurd hg' List.not_mem_nil)
  have e0 : ρ 0 = x0.toInt := hv.1
  have e1 : ρ 1 = x1.toInt := hv.2.1
  have e2 : ρ 2 = x2.toInt := hv.2.2.1
  have e3 : ρ 3 = x3.toInt := hv.2.2.2.1
  rcases List.mem_cons.mp hcs with rfl | hcs
  · obtain ⟨v, rfl, kv⟩ := sres_i k3
    exact ⟨v, h', c, g, f, Or.inl kv⟩
  rcases List.mem_cons.mp hcs with rfl | hcs
  · obtain ⟨v, rfl, kv⟩ := sres_i k3
    exact ⟨v, h', c, g, f, Or.inr (Or.inl ⟨(by have z := k1 0 _ rfl; rw [e0] at z; exact z), (by have z := k1 1 _ rfl; rw [e1] at z; exact z), (by have z := k1 2 _ rfl; rw [e2] at z; exact z), kv⟩)⟩
  rcases List.mem_cons.mp hcs with rfl | hcs
  · obtain ⟨v, rfl, kv⟩ := sres_i k3
    exact ⟨v, h', c, g, f, Or.inr (Or.inr (Or.inl ⟨(by have z := k1 0 _ rfl; rw [e0] at z; exact z), (by have z := k1 1 _ rfl; rw [e1] at z; exact z), (by have z := k1 2 _ rfl; rw [e2] at z; exact z), kv⟩))⟩
  rcases List.mem_cons.mp hcs with rfl | hcs
  · obtain ⟨v, rfl, kv⟩ := sres_i k3
    exact ⟨v, h', c, g, f, Or.inr (Or.inr (Or.inr (⟨(by have z := k1 0 _ rfl; rw [e0] at z; exact z), (by have z := k1 1 _ rfl; rw [e1] at z; exact z), (by have z := k1 2 _ rfl; rw [e2] at z; exact z), kv⟩)))⟩
  exact absurd hcs List.not_mem_nil
theorem vl_147 (l : Launch) (x0 : Int32) (h : XH) (hg : sgood vT vR vE 153 6051 h) (a0 : (-2147483648) ≤ x0.toInt ∧ x0.toInt ≤ 2147483647) : ∃ (v : Int32) (h' : XH), CX l 1 24 false 147 [xf 12 2, xi x0] h [xi v] h' ∧ sgood vT vR vE 153 6051 h' ∧ sframe ([(85, 0, false), (86, 0, false), (86, 1, false), (86, 2, false), (86, 3, false), (86, 4, false), (86, 5, false), (86, 6, false), (86, 7, false), (86, 8, false), (86, 9, false), (86, 10, false), (86, 11, false), (86, 12, false), (86, 13, false), (86, 14, false), (86, 15, false), (86, 16, false), (86, 17, false), (86, 18, false), (86, 19, false), (86, 20, false), (86, 21, false), (86, 22, false), (86, 23, false), (87, 0, false), (87, 1, false), (87, 2, false), (87, 3, false), (87, 4, false), (87, 5, false), (87, 6, false), (87, 7, false), (87, 8, false), (87, 9, false), (87, 10, false), (87, 11, false), (87, 12, false), (87, 13, false), (87, 14, false), (87, 15, false), (87, 16, false), (87, 17, false), (87, 18, false), (87, 19, false), (87, 20, false), (87, 21, false), (87, 22, false), (87, 23, false), (88, 0, false), (88, 1, false), (88, 2, false), (88, 3, false), (88, 4, false), (88, 5, false), (88, 6, false), (88, 7, false), (88, 8, false), (88, 9, false), (88, 10, false), (88, 11, false), (88, 12, false), (88, 13, false), (88, 14, false), (88, 15, false), (88, 16, false), (88, 17, false), (88, 18, false), (88, 19, false), (88, 20, false), (88, 21, false), (88, 22, false), (88, 23, false), (89, 0, false), (89, 1, false), (89, 2, false), (89, 3, false), (89, 4, false), (89, 5, false), (89, 6, false), (89, 7, false), (89, 8, false), (89, 9, false), (89, 10, false), (89, 11, false), (89, 12, false), (89, 13, false), (89, 14, false), (89, 15, false), (89, 16, false), (89, 17, false), (89, 18, false), (89, 19, false), (89, 20, false), (89, 21, false), (89, 22, false), (89, 23, false)], []) h h' ∧ ((((-1) ≤ v.toInt ∧ v.toInt ≤ (-1))) ∨ ((0 ≤ x0.toInt ∧ x0.toInt ≤ 23) ∧ (0 ≤ v.toInt ∧ v.toInt ≤ 0)) ∨ ((0 ≤ x0.toInt ∧ x0.toInt ≤ 23) ∧ (1 ≤ v.toInt ∧ v.toInt ≤ 1)) ∨ ((0 ≤ x0.toInt ∧ x0.toInt ≤ 23) ∧ (2 ≤ v.toInt ∧ v.toInt ≤ 23))) := by
  have ha : sargs (cap vC_267) [xf 12 2, xi x0] := ⟨rfl, a0, trivial⟩
  obtain ⟨ρ, rs, h', ⟨hv, hw⟩, c, g, f, cs, hcs, k1, k2, k3, k4, k5, k6⟩ := vc_267 l [xf 12 2, xi x0] h ha hg (fun q hq => absurd hq List.not_mem_nil) (fun q hq => absurd hq List.not_mem_nil) (fun ρ hρ g hg' => absurd hg' List.not_mem_nil)
  have e0 : ρ 0 = x0.toInt := hv.1
  rcases List.mem_cons.mp hcs with rfl | hcs
  · obtain ⟨v, rfl, kv⟩ := sres_i k3
    exact ⟨v, h', c, g, f, Or.inl kv⟩
  rcases List.mem_cons.mp hcs with rfl | hcs
  · obtain ⟨v, rfl, kv⟩ := sres_i k3
    exact ⟨v, h', c, g, f, Or.inr (Or.inl ⟨(by have z := k1 0 _ rfl; rw [e0] at z; exact z), kv⟩)⟩
  rcases List.mem_cons.mp hcs with rfl | hcs
  · obtain ⟨v, rfl, kv⟩ := sres_i k3
    exact ⟨v, h', c, g, f, Or.inr (Or.inr (Or.inl ⟨(by have z := k1 0 _ rfl; rw [e0] at z; exact z), kv⟩))⟩
  rcases List.mem_cons.mp hcs with rfl | hcs
  · obtain ⟨v, rfl, kv⟩ := sres_i k3
    exact ⟨v, h', c, g, f, Or.inr (Or.inr (Or.inr (⟨(by have z := k1 0 _ rfl; rw [e0] at z; exact z), kv⟩)))⟩
  exact absurd hcs List.not_mem_nil
theorem vl_273 (l : Launch) (x0 : Int32) (h : XH) (hg : sgood vT vR vE 153 6051 h) (a0 : (-2147483648) ≤ x0.toInt ∧ x0.toInt ≤ 2147483647) : ∃ (v : Int32) (h' : XH), CX l 1 24 false 273 [xf 13 104, xi x0] h [xi v] h' ∧ sgood vT vR vE 153 6051 h' ∧ sframe ([(104, 2, false), (104, 72, false), (147, 0, false), (147, 1, false), (147, 2, false), (147, 3, false), (147, 4, false), (147, 5, false), (147, 6, false), (147, 7, false), (147, 8, false), (147, 9, false), (147, 10, false), (147, 11, false), (147, 12, false), (147, 13, false), (147, 14, false), (147, 15, false), (147, 16, false), (147, 17, false), (147, 18, false), (147, 19, false), (147, 20, false), (147, 21, false), (147, 22, false), (147, 23, false), (147, 24, false), (147, 25, false), (147, 26, false), (147, 27, false), (147, 28, false), (147, 29, false), (147, 30, false), (147, 31, false), (147, 32, false), (147, 33, false), (147, 34, false), (147, 35, false), (147, 36, false), (147, 37, false), (147, 38, false), (147, 39, false), (147, 40, false), (147, 41, false), (147, 42, false), (147, 43, false), (147, 44, false), (147, 45, false), (147, 46, false), (147, 47, false), (147, 48, false), (147, 49, false), (147, 50, false), (147, 51, false), (147, 52, false), (147, 53, false), (147, 54, false), (147, 55, false), (147, 56, false), (147, 57, false), (147, 58, false), (147, 59, false), (147, 60, false), (147, 61, false), (147, 62, false), (147, 63, false), (147, 64, false), (147, 65, false), (147, 66, false), (147, 67, false), (147, 68, false), (147, 69, false), (147, 70, false), (147, 71, false), (147, 72, false), (147, 73, false), (147, 74, false), (147, 75, false), (147, 76, false), (147, 77, false), (147, 78, false), (147, 79, false), (147, 80, false), (147, 81, false), (147, 82, false), (147, 83, false), (147, 84, false), (147, 85, false), (147, 86, false), (147, 87, false), (147, 88, false), (147, 89, false), (147, 90, false), (147, 91, false), (147, 92, false), (147, 93, false), (147, 94, false), (147, 95, false)], []) h h' ∧ ((((-1) ≤ v.toInt ∧ v.toInt ≤ (-1))) ∨ ((0 ≤ x0.toInt ∧ x0.toInt ≤ 22) ∧ (1 ≤ v.toInt ∧ v.toInt ≤ 1)) ∨ ((0 ≤ x0.toInt ∧ x0.toInt ≤ 22) ∧ (2 ≤ v.toInt ∧ v.toInt ≤ 23))) := by
  have ha : sargs (cap vC_269) [xf 13 104, xi x0] := ⟨rfl, a0, trivial⟩
  obtain ⟨ρ, rs, h', ⟨hv, hw⟩, c, g, f, cs, hcs, k1, k2, k3, k4, k5, k6⟩ := vc_269 l [xf 13 104, xi x0] h ha hg (fun q hq => absurd hq List.not_mem_nil) (fun q hq => absurd hq List.not_mem_nil) (fun ρ hρ g hg' => absurd hg' List.not_mem_nil)
  have e0 : ρ 0 = x0.toInt := hv.1
  rcases List.mem_cons.mp hcs with rfl | hcs
  · obtain ⟨v, rfl, kv⟩ := sres_i k3
    exact ⟨v, h', c, g, f, Or.inl kv⟩
  rcases List.mem_cons.mp hcs with rfl | hcs
  · obtain ⟨v, rfl, kv⟩ := sres_i k3
    exact ⟨v, h', c, g, f, Or.inr (Or.inl ⟨(by have z := k1 0 _ rfl; rw [e0] at z; exact z), kv⟩)⟩
  rcases List.mem_cons.mp hcs with rfl | hcs
  · obtain ⟨v, rfl, kv⟩ := sres_i k3
    exact ⟨v, h', c, g, f, Or.inr (Or.inr (⟨(by have z := k1 0 _ rfl; rw [e0] at z; exact z), kv⟩))⟩
  exact absurd hcs List.not_mem_nil
theorem vl_148 (l : Launch) (x0 : Int32) (h : XH) (hg : sgood vT vR vE 153 6051 h) (a0 : (-2147483648) ≤ x0.toInt ∧ x0.toInt ≤ 2147483647) : ∃ (v : Int32) (h' : XH), CX l 0 0 false 148 [xf 12 2, xi x0] h [xi v] h' ∧ sgood vT vR vE 153 6051 h' ∧ sframe ([(85, 1, false)], []) h h' ∧ (((0 ≤ v.toInt ∧ v.toInt ≤ 0)) ∨ (((-1) ≤ x0.toInt ∧ x0.toInt ≤ 24) ∧ (1 ≤ v.toInt ∧ v.toInt ≤ 1))) := by
  have ha : sargs (cap vC_270) [xf 12 2, xi x0] := ⟨rfl, a0, trivial⟩
  obtain ⟨ρ, rs, h', ⟨hv, hw⟩, c, g, f, cs, hcs, k1, k2, k3, k4, k5, k6⟩ := vc_270 l [xf 12 2, xi x0] h ha hg (fun q hq => absurd hq List.not_mem_nil) (fun q hq => absurd hq List.not_mem_nil) (fun ρ hρ g hg' => absurd hg' List.not_mem_nil)
  have e0 : ρ 0 = x0.toInt := hv.1
  rcases List.mem_cons.mp hcs with rfl | hcs
  · obtain ⟨v, rfl, kv⟩ := sres_i k3
    exact ⟨v, h', c, g, f, Or.inl kv⟩
  rcases List.mem_cons.mp hcs with rfl | hcs
  · obtain ⟨v, rfl, kv⟩ := sres_i k3
    exact ⟨v, h', c, g, f, Or.inr (⟨(by have z := k1 0 _ rfl; rw [e0] at z; exact z), kv⟩)⟩
  exact absurd hcs List.not_mem_nil
theorem vl_274 (l : Launch) (x0 : Int32) (h : XH) (hg : sgood vT vR vE 153 6051 h) (a0 : (-2147483648) ≤ x0.toInt ∧ x0.toInt ≤ 2147483647) : ∃ (v : Int32) (h' : XH), CX l 1 22 false 274 [xf 13 104, xi x0] h [xi v] h' ∧ sgood vT vR vE 153 6051 h' ∧ sframe ([(104, 2, false), (104, 73, false)], []) h h' ∧ (((0 ≤ v.toInt ∧ v.toInt ≤ 0)) ∨ (((-1) ≤ x0.toInt ∧ x0.toInt ≤ 24) ∧ (1 ≤ v.toInt ∧ v.toInt ≤ 1))) := by
  have ha : sargs (cap vC_272) [xf 13 104, xi x0] := ⟨rfl, a0, trivial⟩
  obtain ⟨ρ, rs, h', ⟨hv, hw⟩, c, g, f, cs, hcs, k1, k2, k3, k4, k5, k6⟩ := vc_272 l [xf 13 104, xi x0] h ha hg (fun q hq => absurd hq List.not_mem_nil) (fun q hq => absurd hq List.not_mem_nil) (fun ρ hρ g hg' => absurd hg' List.not_mem_nil)
  have e0 : ρ 0 = x0.toInt := hv.1
  rcases List.mem_cons.mp hcs with rfl | hcs
  · obtain ⟨v, rfl, kv⟩ := sres_i k3
    exact ⟨v, h', c, g, f, Or.inl kv⟩
  rcases List.mem_cons.mp hcs with rfl | hcs
  · obtain ⟨v, rfl, kv⟩ := sres_i k3
    exact ⟨v, h', c, g, f, Or.inr (⟨(by have z := k1 0 _ rfl; rw [e0] at z; exact z), kv⟩)⟩
  exact absurd hcs List.not_mem_nil
theorem vl_149 (l : Launch) (x0 : Int32) (h : XH) (hg : sgood vT vR vE 153 6051 h) (a0 : (-2147483648) ≤ x0.toInt ∧ x0.toInt ≤ 2147483647) : ∃ (v : Int32) (h' : XH), CX l 7 169 false 149 [xf 12 2, xi x0] h [xi v] h' ∧ sgood vT vR vE 153 6051 h' ∧ sframe ([(59, 7, false), (59, 10, false), (60, 0, true), (61, 0, true), (62, 0, true), (63, 0, true), (64, 0, true), (65, 0, true), (66, 0, true), (67, 0, true), (68, 0, true), (90, 0, true)], [(59, 0)]) h h' ∧ ((((-1) ≤ v.toInt ∧ v.toInt ≤ (-1))) ∨ ((0 ≤ x0.toInt ∧ x0.toInt ≤ 5) ∧ (0 ≤ v.toInt ∧ v.toInt ≤ 2147483647))) := by
  have ha : sargs (cap vC_331) [xf 12 2, xi x0] := ⟨rfl, a0, trivial⟩
  obtain ⟨ρ, rs, h', ⟨hv, hw⟩, c, g, f, cs, hcs, k1, k2, k3, k4, k5, k6⟩ := vc_331 l [xf 12 2, xi x0] h ha hg (fun q hq => absurd hq List.not_mem_nil) (fun q hq => absurd hq List.not_mem_nil) (fun ρ hρ g hg' => absurd hg' List.not_mem_nil)
  have e0 : ρ 0 = x0.toInt := hv.1
  rcases List.mem_cons.mp hcs with rfl | hcs
  · obtain ⟨v, rfl, kv⟩ := sres_i k3
    exact ⟨v, h', c, g, f, Or.inl kv⟩
  rcases List.mem_cons.mp hcs with rfl | hcs
  · obtain ⟨v, rfl, kv⟩ := sres_i k3
    exact ⟨v, h', c, g, f, Or.inr (⟨(by have z := k1 0 _ rfl; rw [e0] at z; exact z), kv⟩)⟩
  exact absurd hcs List.not_mem_nil
theorem vl_275 (l : Launch) (x0 : Int32) (h : XH) (hg : sgood vT vR vE 153 6051 h) (a0 : (-2147483648) ≤ x0.toInt ∧ x0.toInt ≤ 2147483647) : ∃ (v : Int32) (h' : XH), CX l 11 288 false 275 [xf 13 104, xi x0] h [xi v] h' ∧ sgood vT vR vE 153 6051 h' ∧ sframe ([(104, 2, false), (104, 54, false), (104, 63, false), (104, 64, false), (133, 6, false), (133, 7, false), (133, 8, false), (133, 9, false), (133, 10, false), (133, 11, false), (134, 0, true), (135, 8, false), (135, 9, false), (135, 10, false), (135, 11, false), (135, 12, false), (135, 13, false), (135, 14, false), (135, 15, false), (136, 0, true), (137, 0, true), (138, 1, false), (139, 0, true), (148, 0, true)], []) h h' ∧ ((((-1) ≤ v.toInt ∧ v.toInt ≤ (-1))) ∨ ((0 ≤ x0.toInt ∧ x0.toInt ≤ 5) ∧ (0 ≤ v.toInt ∧ v.toInt ≤ 2147483647))) := by
  have ha : sargs (cap vC_336) [xf 13 104, xi x0] := ⟨rfl, a0, trivial⟩
  obtain ⟨ρ, rs, h', ⟨hv, hw⟩, c, g, f, cs, hcs, k1, k2, k3, k4, k5, k6⟩ := vc_336 l [xf 13 104, xi x0] h ha hg (fun q hq => absurd hq List.not_mem_nil) (fun q hq => absurd hq List.not_mem_nil) (fun ρ hρ g hg' => absurd hg' List.not_mem_nil)
  have e0 : ρ 0 = x0.toInt := hv.1
  rcases List.mem_cons.mp hcs with rfl | hcs
  · obtain ⟨v, rfl, kv⟩ := sres_i k3
    exact ⟨v, h', c, g, f, Or.inl kv⟩
  rcases List.mem_cons.mp hcs with rfl | hcs
  · obtain ⟨v, rfl, kv⟩ := sres_i k3
    exact ⟨v, h', c, g, f, Or.inr (⟨(by have z := k1 0 _ rfl; rw [e0] at z; exact z), kv⟩)⟩
  exact absurd hcs List.not_mem_nil
theorem vl_156 (l : Launch) (x0 : Int32) (x1 : Int32) (x2 : Int32) (x3 : Int32) (h : XH) (hg : sgood vT vR vE 153 6051 h) (a0 : (-2147483648) ≤ x0.toInt ∧ x0.toInt ≤ 2147483647) (a1 : (-2147483648) ≤ x1.toInt ∧ x1.toInt ≤ 2147483647) (a2 : (-2147483648) ≤ x2.toInt ∧ x2.toInt ≤ 2147483647) (a3 : (-2147483648) ≤ x3.toInt ∧ x3.toInt ≤ 2147483647) : ∃ (v : Int32) (h' : XH), CX l 6 145 false 156 [xf 12 2, xi x0, xi x1, xi x2, xi x3] h [xi v] h' ∧ sgood vT vR vE 153 6051 h' ∧ sframe ([(59, 7, false), (59, 10, false), (60, 0, true), (61, 0, true), (62, 0, true), (63, 0, true), (64, 0, true), (65, 0, true), (66, 0, true), (67, 0, true), (68, 0, true)], [(59, 0)]) h h' ∧ ((((-1) ≤ v.toInt ∧ v.toInt ≤ (-1))) ∨ ((0 ≤ x0.toInt ∧ x0.toInt ≤ 2147483647) ∧ (1 ≤ x1.toInt ∧ x1.toInt ≤ 60) ∧ (0 ≤ x2.toInt ∧ x2.toInt ≤ 5) ∧ (1 ≤ x3.toInt ∧ x3.toInt ≤ 9) ∧ ((-2147483648) ≤ v.toInt ∧ v.toInt ≤ 2147483647))) := by
  have ha : sargs (cap vC_339) [xf 12 2, xi x0, xi x1, xi x2, xi x3] := ⟨rfl, a0, a1, a2, a3, trivial⟩
  obtain ⟨ρ, rs, h', ⟨hv, hw⟩, c, g, f, cs, hcs, k1, k2, k3, k4, k5, k6⟩ := vc_339 l [xf 12 2, xi x0, xi x1, xi x2, xi x3] h ha hg (fun q hq => absurd hq List.not_mem_nil) (fun q hq => absurd hq List.not_mem_nil) (fun ρ hρ g hg' => absurd hg' List.not_mem_nil)
  have e0 : ρ 0 = x0.toInt := hv.1
  have e1 : ρ 1 = x1.toInt := hv.2.1
  have e2 : ρ 2 = x2.toInt := hv.2.2.1
  have e3 : ρ 3 = x3.toInt := hv.2.2.2.1
  rcases List.mem_cons.mp hcs with rfl | hcs
  · obtain ⟨v, rfl, kv⟩ := sres_i k3
    exact ⟨v, h', c, g, f, Or.inl kv⟩
  rcases List.mem_cons.mp hcs with rfl | hcs
  · obtain ⟨v, rfl, kv⟩ := sres_i k3
    exact ⟨v, h', c, g, f, Or.inr (⟨(by have z := k1 0 _ rfl; rw [e0] at z; exact z), (by have z := k1 1 _ rfl; rw [e1] at z; exact z), (by have z := k1 2 _ rfl; rw [e2] at z; exact z), (by have z := k1 3 _ rfl; rw [e3] at z; exact z), kv⟩)⟩
  exact absurd hcs List.not_mem_nil
theorem vl_279 (l : Launch) (x0 : Int32) (x1 : Int32) (x2 : Int32) (x3 : Int32) (h : XH) (hg : sgood vT vR vE 153 6051 h) (a0 : (-2147483648) ≤ x0.toInt ∧ x0.toInt ≤ 2147483647) (a1 : (-2147483648) ≤ x1.toInt ∧ x1.toInt ≤ 2147483647) (a2 : (-2147483648) ≤ x2.toInt ∧ x2.toInt ≤ 2147483647) (a3 : (-2147483648) ≤ x3.toInt ∧ x3.toInt ≤ 2147483647) : ∃ (v : Int32) (h' : XH), CX l 10 265 false 279 [xf 13 104, xi x0, xi x1, xi x2, xi x3] h [xi v] h' ∧ sgood vT vR vE 153 6051 h' ∧ sframe ([(104, 2, false), (104, 54, false), (104, 63, false), (104, 64, false), (133, 6, false), (133, 7, false), (133, 8, false), (133, 9, false), (133, 10, false), (133, 11, false), (134, 0, true), (135, 8, false), (135, 9, false), (135, 10, false), (135, 11, false), (135, 12, false), (135, 13, false), (135, 14, false), (135, 15, false), (136, 0, true), (137, 0, true), (138, 1, false), (139, 0, true)], []) h h' ∧ ((((-1) ≤ v.toInt ∧ v.toInt ≤ (-1))) ∨ ((0 ≤ x0.toInt ∧ x0.toInt ≤ 2147483647) ∧ (1 ≤ x1.toInt ∧ x1.toInt ≤ 60) ∧ (0 ≤ x2.toInt ∧ x2.toInt ≤ 5) ∧ (1 ≤ x3.toInt ∧ x3.toInt ≤ 9) ∧ ((-2147483648) ≤ v.toInt ∧ v.toInt ≤ 2147483647))) := by
  have ha : sargs (cap vC_343) [xf 13 104, xi x0, xi x1, xi x2, xi x3] := ⟨rfl, a0, a1, a2, a3, trivial⟩
  obtain ⟨ρ, rs, h', ⟨hv, hw⟩, c, g, f, cs, hcs, k1, k2, k3, k4, k5, k6⟩ := vc_343 l [xf 13 104, xi x0, xi x1, xi x2, xi x3] h ha hg (fun q hq => absurd hq List.not_mem_nil) (fun q hq => absurd hq List.not_mem_nil) (fun ρ hρ g hg' => absurd hg' List.not_mem_nil)
  have e0 : ρ 0 = x0.toInt := hv.1
  have e1 : ρ 1 = x1.toInt := hv.2.1
  have e2 : ρ 2 = x2.toInt := hv.2.2.1
  have e3 : ρ 3 = x3.toInt := hv.2.2.2.1
  rcases List.mem_cons.mp hcs with rfl | hcs
  · obtain ⟨v, rfl, kv⟩ := sres_i k3
    exact ⟨v, h', c, g, f, Or.inl kv⟩
  rcases List.mem_cons.mp hcs with rfl | hcs
  · obtain ⟨v, rfl, kv⟩ := sres_i k3
    exact ⟨v, h', c, g, f, Or.inr (⟨(by have z := k1 0 _ rfl; rw [e0] at z; exact z), (by have z := k1 1 _ rfl; rw [e1] at z; exact z), (by have z := k1 2 _ rfl; rw [e2] at z; exact z), (by have z := k1 3 _ rfl; rw [e3] at z; exact z), kv⟩)⟩
  exact absurd hcs List.not_mem_nil
theorem vl_159 (l : Launch) (x0 : Int32) (x1 : Int32) (x2 : Int32) (h : XH) (hg : sgood vT vR vE 153 6051 h) (a0 : (-2147483648) ≤ x0.toInt ∧ x0.toInt ≤ 2147483647) (a1 : (-2147483648) ≤ x1.toInt ∧ x1.toInt ≤ 2147483647) (a2 : (-2147483648) ≤ x2.toInt ∧ x2.toInt ≤ 2147483647) : ∃ (v : Int32) (h' : XH), CX l 7 165 false 159 [xf 12 2, xi x0, xi x1, xi x2] h [xi v] h' ∧ sgood vT vR vE 153 6051 h' ∧ sframe ([(59, 7, false), (59, 10, false), (59, 11, false), (60, 0, true), (61, 0, true), (62, 0, true), (63, 0, true), (64, 0, true), (65, 0, true), (66, 0, true), (67, 0, true), (68, 0, true)], [(59, 0)]) h h' ∧ ((((-1) ≤ v.toInt ∧ v.toInt ≤ (-1))) ∨ ((0 ≤ x0.toInt ∧ x0.toInt ≤ 4) ∧ (0 ≤ x1.toInt ∧ x1.toInt ≤ 7) ∧ (0 ≤ x2.toInt ∧ x2.toInt ≤ 60) ∧ ((-2147483648) ≤ v.toInt ∧ v.toInt ≤ 2147483647))) := by
  have ha : sargs (cap vC_346) [xf 12 2, xi x0, xi x1, xi x2] := ⟨rfl, a0, a1, a2, trivial⟩
  obtain ⟨ρ, rs, h', ⟨hv, hw⟩, c, g, f, cs, hcs, k1, k2, k3, k4, k5, k6⟩ := vc_346 l [xf 12 2, xi x0, xi x1, xi x2] h ha hg (fun q hq => absurd hq List.not_mem_nil) (fun q hq => absurd hq List.not_mem_nil) (fun ρ hρ g hg' => absurd hg' List.not_mem_nil)
  have e0 : ρ 0 = x0.toInt := hv.1
  have e1 : ρ 1 = x1.toInt := hv.2.1
  have e2 : ρ 2 = x2.toInt := hv.2.2.1
  rcases List.mem_cons.mp hcs with rfl | hcs
  · obtain ⟨v, rfl, kv⟩ := sres_i k3
    exact ⟨v, h', c, g, f, Or.inl kv⟩
  rcases List.mem_cons.mp hcs with rfl | hcs
  · obtain ⟨v, rfl, kv⟩ := sres_i k3
    exact ⟨v, h', c, g, f, Or.inr (⟨(by have z := k1 0 _ rfl; rw [e0] at z; exact z), (by have z := k1 1 _ rfl; rw [e1] at z; exact z), (by have z := k1 2 _ rfl; rw [e2] at z; exact z), kv⟩)⟩
  exact absurd hcs List.not_mem_nil
theorem vl_281 (l : Launch) (x0 : Int32) (x1 : Int32) (x2 : Int32) (h : XH) (hg : sgood vT vR vE 153 6051 h) (a0 : (-2147483648) ≤ x0.toInt ∧ x0.toInt ≤ 2147483647) (a1 : (-2147483648) ≤ x1.toInt ∧ x1.toInt ≤ 2147483647) (a2 : (-2147483648) ≤ x2.toInt ∧ x2.toInt ≤ 2147483647) : ∃ (v : Int32) (h' : XH), CX l 11 287 false 281 [xf 13 104, xi x0, xi x1, xi x2] h [xi v] h' ∧ sgood vT vR vE 153 6051 h' ∧ sframe ([(104, 2, false), (104, 54, false), (104, 63, false), (104, 64, false), (133, 6, false), (133, 7, false), (133, 8, false), (133, 9, false), (133, 10, false), (133, 11, false), (134, 0, true), (135, 8, false), (135, 9, false), (135, 10, false), (135, 11, false), (135, 12, false), (135, 13, false), (135, 14, false), (135, 15, false), (136, 0, true), (137, 0, true), (138, 1, false), (139, 0, true)], []) h h' ∧ ((((-1) ≤ v.toInt ∧ v.toInt ≤ (-1))) ∨ ((0 ≤ x0.toInt ∧ x0.toInt ≤ 4) ∧ (0 ≤ x1.toInt ∧ x1.toInt ≤ 7) ∧ (0 ≤ x2.toInt ∧ x2.toInt ≤ 60) ∧ ((-2147483648) ≤ v.toInt ∧ v.toInt ≤ 2147483647))) := by
  have ha : sargs (cap vC_348) [xf 13 104, xi x0, xi x1, xi x2] := ⟨rfl, a0, a1, a2, trivial⟩
  obtain ⟨ρ, rs, h', ⟨hv, hw⟩, c, g, f, cs, hcs, k1, k2, k3, k4, k5, k6⟩ := vc_348 l [xf 13 104, xi x0, xi x1, xi x2] h ha hg (fun q hq => absurd hq List.not_mem_nil) (fun q hq => absurd hq List.not_mem_nil) (fun ρ hρ g hg' => absurd hg' List.not_mem_nil)
  have e0 : ρ 0 = x0.toInt := hv.1
  have e1 : ρ 1 = x1.toInt := hv.2.1
  have e2 : ρ 2 = x2.toInt := hv.2.2.1
  rcases List.mem_cons.mp hcs with rfl | hcs
  · obtain ⟨v, rfl, kv⟩ := sres_i k3
    exact ⟨v, h', c, g, f, Or.inl kv⟩
  rcases List.mem_cons.mp hcs with rfl | hcs
  · obtain ⟨v, rfl, kv⟩ := sres_i k3
    exact ⟨v, h', c, g, f, Or.inr (⟨(by have z := k1 0 _ rfl; rw [e0] at z; exact z), (by have z := k1 1 _ rfl; rw [e1] at z; exact z), (by have z := k1 2 _ rfl; rw [e2] at z; exact z), kv⟩)⟩
  exact absurd hcs List.not_mem_nil
theorem vl_161 (l : Launch)  (h : XH) (hg : sgood vT vR vE 153 6051 h)  : ∃ (v : Int32) (h' : XH), CX l 2 47 false 161 [xf 12 2] h [xi v] h' ∧ sgood vT vR vE 153 6051 h' ∧ sframe ([(49, 0, true), (51, 0, true), (52, 0, true), (53, 0, true), (55, 0, true), (56, 0, true), (81, 0, false), (81, 1, false), (81, 2, false), (81, 3, false)], []) h h' ∧ (((0 ≤ v.toInt ∧ v.toInt ≤ 20)) ∨ (((-1) ≤ v.toInt ∧ v.toInt ≤ (-1)))) := by
  have ha : sargs (cap vC_350) [xf 12 2] := ⟨rfl, trivial⟩
  obtain ⟨ρ, rs, h', ⟨hv, hw⟩, c, g, f, cs, hcs, k1, k2, k3, k4, k5, k6⟩ := vc_350 l [xf 12 2] h ha hg (fun q hq => absurd hq List.not_mem_nil) (fun q hq => absurd hq List.not_mem_nil) (fun ρ hρ g hg' => absurd hg' List.not_mem_nil)
  rcases List.mem_cons.mp hcs with rfl | hcs
  · obtain ⟨v, rfl, kv⟩ := sres_i k3
    exact ⟨v, h', c, g, f, Or.inl kv⟩
  rcases List.mem_cons.mp hcs with rfl | hcs
  · obtain ⟨v, rfl, kv⟩ := sres_i k3
    exact ⟨v, h', c, g, f, Or.inr (kv)⟩
  exact absurd hcs List.not_mem_nil
theorem vl_283 (l : Launch)  (h : XH) (hg : sgood vT vR vE 153 6051 h)  : ∃ (v : Int32) (h' : XH), CX l 1 23 false 283 [xf 13 104] h [xi v] h' ∧ sgood vT vR vE 153 6051 h' ∧ sframe ([(104, 2, false), (104, 76, false), (133, 0, true), (135, 0, true), (136, 0, true)], []) h h' ∧ ((((-1) ≤ v.toInt ∧ v.toInt ≤ (-1))) ∨ ((2 ≤ v.toInt ∧ v.toInt ≤ 19)) ∨ ((1 ≤ v.toInt ∧ v.toInt ≤ 1)) ∨ ((0 ≤ v.toInt ∧ v.toInt ≤ 0))) := by
  have ha : sargs (cap vC_371) [xf 13 104] := ⟨rfl, trivial⟩
  obtain ⟨ρ, rs, h', ⟨hv, hw⟩, c, g, f, cs, hcs, k1, k2, k3, k4, k5, k6⟩ := vc_371 l [xf 13 104] h ha hg (fun q hq => absurd hq List.not_mem_nil) (fun q hq => absurd hq List.not_mem_nil) (fun ρ hρ g hg' => absurd hg' List.not_mem_nil)
  rcases List.mem_cons.mp hcs with rfl | hcs
  · obtain ⟨v, rfl, kv⟩ := sres_i k3
    exact ⟨v, h', c, g, f, Or.inl kv⟩
  rcases List.mem_cons.mp hcs with rfl | hcs
  · obtain ⟨v, rfl, kv⟩ := sres_i k3
    exact ⟨v, h', c, g, f, Or.inr (Or.inl kv)⟩
  rcases List.mem_cons.mp hcs with rfl | hcs
  · obtain ⟨v, rfl, kv⟩ := sres_i k3
    exact ⟨v, h', c, g, f, Or.inr (Or.inr (Or.inl kv))⟩
  rcases List.mem_cons.mp hcs with rfl | hcs
  · obtain ⟨v, rfl, kv⟩ := sres_i k3
    exact ⟨v, h', c, g, f, Or.inr (Or.inr (Or.inr (kv)))⟩
  exact absurd hcs List.not_mem_nil
theorem vl_165 (l : Launch) (x0 : Int32) (h : XH) (hg : sgood vT vR vE 153 6051 h) (a0 : (-2147483648) ≤ x0.toInt ∧ x0.toInt ≤ 2147483647) : ∃ (v : Int32) (h' : XH), CX l 2 37 false 165 [xf 12 2, xi x0] h [xi v] h' ∧ sgood vT vR vE 153 6051 h' ∧ sframe ([], []) h h' ∧ (((0 ≤ x0.toInt ∧ x0.toInt ≤ 13) ∧ (0 ≤ v.toInt ∧ v.toInt ≤ 64)) ∨ ((5 ≤ x0.toInt ∧ x0.toInt ≤ 10) ∧ ((-2147483648) ≤ v.toInt ∧ v.toInt ≤ 2147483647)) ∨ (((-1) ≤ v.toInt ∧ v.toInt ≤ (-1)))) := by
  have ha : sargs (cap vC_384) [xf 12 2, xi x0] := ⟨rfl, a0, trivial⟩
  obtain ⟨ρ, rs, h', ⟨hv, hw⟩, c, g, f, cs, hcs, k1, k2, k3, k4, k5, k6⟩ := vc_384 l [xf 12 2, xi x0] h ha hg (fun q hq => absurd hq List.not_mem_nil) (fun q hq => absurd hq List.not_mem_nil) (fun ρ hρ g hg' => absurd hg' List.not_mem_nil)
  have e0 : ρ 0 = x0.toInt := hv.1
  rcases List.mem_cons.mp hcs with rfl | hcs
  · obtain ⟨v, rfl, kv⟩ := sres_i k3
    exact ⟨v, h', c, g, f, Or.inl ⟨(by have z := k1 0 _ rfl; rw [e0] at z; exact z), kv⟩⟩
  rcases List.mem_cons.mp hcs with rfl | hcs
  · obtain ⟨v, rfl, kv⟩ := sres_i k3
    exact ⟨v, h', c, g, f, Or.inr (Or.inl ⟨(by have z := k1 0 _ rfl; rw [e0] at z; exact z), kv⟩)⟩
  rcases List.mem_cons.mp hcs with rfl | hcs
  · obtain ⟨v, rfl, kv⟩ := sres_i k3
    exact ⟨v, h', c, g, f, Or.inr (Or.inr (kv))⟩
  exact absurd hcs List.not_mem_nil
theorem vl_287 (l : Launch) (x0 : Int32) (h : XH) (hg : sgood vT vR vE 153 6051 h) (a0 : (-2147483648) ≤ x0.toInt ∧ x0.toInt ≤ 2147483647) : ∃ (v : Int32) (h' : XH), CX l 2 45 false 287 [xf 13 104, xi x0] h [xi v] h' ∧ sgood vT vR vE 153 6051 h' ∧ sframe ([(104, 2, false), (104, 63, false), (104, 64, false)], []) h h' ∧ (((0 ≤ x0.toInt ∧ x0.toInt ≤ 13) ∧ (0 ≤ v.toInt ∧ v.toInt ≤ 64)) ∨ ((5 ≤ x0.toInt ∧ x0.toInt ≤ 10) ∧ ((-2147483648) ≤ v.toInt ∧ v.toInt ≤ 2147483647)) ∨ (((-1) ≤ v.toInt ∧ v.toInt ≤ (-1)))) := by
  have ha : sargs (cap vC_385) [xf 13 104, xi x0] := ⟨rfl, a0, trivial⟩
  obtain ⟨ρ, rs, h', ⟨hv, hw⟩, c, g, f, cs, hcs, k1, k2, k3, k4, k5, k6⟩ := vc_385 l [xf 13 104, xi x0] h ha hg (fun q hq => absurd hq List.not_mem_nil) (fun q hq => absurd hq List.not_mem_nil) (fun ρ hρ g hg' => absurd hg' List.not_mem_nil)
  have e0 : ρ 0 = x0.toInt := hv.1
  rcases List.mem_cons.mp hcs with rfl | hcs
  · obtain ⟨v, rfl, kv⟩ := sres_i k3
    exact ⟨v, h', c, g, f, Or.inl ⟨(by have z := k1 0 _ rfl; rw [e0] at z; exact z), kv⟩⟩
  rcases List.mem_cons.mp hcs with rfl | hcs
  · obtain ⟨v, rfl, kv⟩ := sres_i k3
    exact ⟨v, h', c, g, f, Or.inr (Or.inl ⟨(by have z := k1 0 _ rfl; rw [e0] at z; exact z), kv⟩)⟩
  rcases List.mem_cons.mp hcs with rfl | hcs
  · obtain ⟨v, rfl, kv⟩ := sres_i k3
    exact ⟨v, h', c, g, f, Or.inr (Or.inr (kv))⟩
  exact absurd hcs List.not_mem_nil
set_option maxRecDepth 100000 in
set_option maxHeartbeats 4000000 in
theorem lw_c0 (l : Launch) (Ls : Nat) (xs : Nat → Int32) (N U : Nat) (F : List XV → XH → Prop) (i : Int32) (x5 x6 : XV) (h : XH) (H : vLw h) (i0 : 0 ≤ i.toInt) (i1 : i.toInt + 6 ≤ Ls) (hL : Ls ≤ 3072) (eL : (Int32.ofNat Ls - (Int32.ofInt (6))).toInt = Ls - 6) (hN : 153 ≤ N) (hU : 6051 ≤ U) (hc : (xs (i).toNatClampNeg &&& (Int32.ofInt (63))).toInt = 0) (k : ∀ h' x5' x6', vLw h' → XB l Ls xs 14 538 false 288 N U F 23 [xf 50 1, xf 12 2, xf 13 104, xf 40001 152, xi (i + (Int32.ofInt (6))), x5', x6'] [] h') : XB l Ls xs 14 538 false 288 N U F 23 [xf 50 1, xf 12 2, xf 13 104, xf 40001 152, xi i, x5, x6] [] h := by
  have e1 : (i + (Int32.ofInt (1))).toInt = i.toInt + 1 := by rw [Int32.toInt_add, show (Int32.ofInt (1)).toInt = 1 from rfl]; exact Int.bmod_eq_of_le (by omega) (by omega)
  have e2 : (i + (Int32.ofInt (2))).toInt = i.toInt + 2 := by rw [Int32.toInt_add, show (Int32.ofInt (2)).toInt = 2 from rfl]; exact Int.bmod_eq_of_le (by omega) (by omega)
  have e3 : (i + (Int32.ofInt (3))).toInt = i.toInt + 3 := by rw [Int32.toInt_add, show (Int32.ofInt (3)).toInt = 3 from rfl]; exact Int.bmod_eq_of_le (by omega) (by omega)
  have e4 : (i + (Int32.ofInt (4))).toInt = i.toInt + 4 := by rw [Int32.toInt_add, show (Int32.ofInt (4)).toInt = 4 from rfl]; exact Int.bmod_eq_of_le (by omega) (by omega)
  have e5 : (i + (Int32.ofInt (5))).toInt = i.toInt + 5 := by rw [Int32.toInt_add, show (Int32.ofInt (5)).toInt = 5 from rfl]; exact Int.bmod_eq_of_le (by omega) (by omega)
  have hg := H.1
  have R0 := H.2
  refine XB_path (sc := some (Ls, xs)) (inl := []) (n := 80) (sp := [231]) (o := [0, 1]) (xin_ok rfl) (Or.inr rfl) rfl rfl (Nat.le_trans (Nat.le_of_eq hg.2.2.2.1) hN) (Nat.le_trans (Nat.le_of_eq hg.2.2.2.2) hU) ⟨⟨⟨⟨⟨⟨⟨⟨trivial, (fun z => absurd (Int32.lt_iff_toInt_lt.mp z) (by omega))⟩, (vp_of (i := i) (n := Ls) (by omega) (by omega))⟩, ⟨hc, by decide⟩⟩, (vp_of (i := (i + (Int32.ofInt (1)))) (n := Ls) (by omega) (by omega))⟩, (vp_of (i := (i + (Int32.ofInt (2)))) (n := Ls) (by omega) (by omega))⟩, (vp_of (i := (i + (Int32.ofInt (3)))) (n := Ls) (by omega) (by omega))⟩, (vp_of (i := (i + (Int32.ofInt (4)))) (n := Ls) (by omega) (by omega))⟩, (vp_of (i := (i + (Int32.ofInt (5)))) (n := Ls) (by omega) (by omega))⟩ ?_
  show XB l Ls xs 14 538 false 288 N U F 231 [xf 50 1, xf 12 2, xf 13 104, xf 40001 152, xi i, x5, x6] [xi (xs ((i + (Int32.ofInt (5)))).toNatClampNeg), xi (xs ((i + (Int32.ofInt (4)))).toNatClampNeg), xi (xs ((i + (Int32.ofInt (3)))).toNatClampNeg), xi (xs ((i + (Int32.ofInt (2)))).toNatClampNeg), xi (xs ((i + (Int32.ofInt (1)))).toNatClampNeg), xf 12 2] h
  obtain ⟨f0, hF⟩ : ∃ f0 : Nat, (xI h 45 1).toInt = f0 := ⟨(xI h 45 1).toInt.toNat, by have b : 0 ≤ (xI h 45 1).toInt ∧ (xI h 45 1).toInt ≤ 700 := vbnd hg.1 45 1; omega⟩
  obtain ⟨v1, h1, cc1, g1, s1⟩ := ck_feed l ((xs ((i + (Int32.ofInt (1)))).toNatClampNeg)) ((xs ((i + (Int32.ofInt (2)))).toNatClampNeg)) ((xs ((i + (Int32.ofInt (3)))).toNatClampNeg)) ((xs ((i + (Int32.ofInt (4)))).toNatClampNeg)) ((xs ((i + (Int32.ofInt (5)))).toNatClampNeg)) f0 h hg hF
  refine XB_call (i := .invokevirtual 13) (aux := 6) (nx := 234) (K := 13) (vs := [xf 12 2, xi (xs ((i + (Int32.ofInt (1)))).toNatClampNeg), xi (xs ((i + (Int32.ofInt (2)))).toNatClampNeg), xi (xs ((i + (Int32.ofInt (3)))).toNatClampNeg), xi (xs ((i + (Int32.ofInt (4)))).toNatClampNeg), xi (xs ((i + (Int32.ofInt (5)))).toNatClampNeg)]) (rs := [xi v1]) (rest := []) rfl rfl rfl rfl rfl rfl cc1 (by decide) (by decide) (Nat.le_of_ble_eq_true rfl) ⟨Nat.le_trans (Nat.le_of_eq g1.1.2.2.2.1) hN, Nat.le_trans (Nat.le_of_eq g1.1.2.2.2.2) hU⟩ ?_
  show XB l Ls xs 14 538 false 288 N U F 234 [xf 50 1, xf 12 2, xf 13 104, xf 40001 152, xi i, x5, x6] [xi v1] h1
  refine XB_path (sc := some (Ls, xs)) (inl := []) (n := 80) (sp := [266]) (o := []) (xin_ok rfl) (Or.inr rfl) rfl rfl (Nat.le_trans (Nat.le_of_eq g1.1.2.2.2.1) hN) (Nat.le_trans (Nat.le_of_eq g1.1.2.2.2.2) hU) ⟨⟨⟨⟨⟨trivial, (vp_of (i := (i + (Int32.ofInt (1)))) (n := Ls) (by omega) (by omega))⟩, (vp_of (i := (i + (Int32.ofInt (2)))) (n := Ls) (by omega) (by omega))⟩, (vp_of (i := (i + (Int32.ofInt (3)))) (n := Ls) (by omega) (by omega))⟩, (vp_of (i := (i + (Int32.ofInt (4)))) (n := Ls) (by omega) (by omega))⟩, (vp_of (i := (i + (Int32.ofInt (5)))) (n := Ls) (by omega) (by omega))⟩ ?_
  show XB l Ls xs 14 538 false 288 N U F 266 [xf 50 1, xf 12 2, xf 13 104, xf 40001 152, xi i, x5, x6] [xi (xs ((i + (Int32.ofInt (5)))).toNatClampNeg), xi (xs ((i + (Int32.ofInt (4)))).toNatClampNeg), xi (xs ((i + (Int32.ofInt (3)))).toNatClampNeg), xi (xs ((i + (Int32.ofInt (2)))).toNatClampNeg), xi (xs ((i + (Int32.ofInt (1)))).toNatClampNeg), xf 13 104] h1
  obtain ⟨v2, h2, cc2, g2, s2⟩ := jk_feed l ((xs ((i + (Int32.ofInt (1)))).toNatClampNeg)) ((xs ((i + (Int32.ofInt (2)))).toNatClampNeg)) ((xs ((i + (Int32.ofInt (3)))).toNatClampNeg)) ((xs ((i + (Int32.ofInt (4)))).toNatClampNeg)) ((xs ((i + (Int32.ofInt (5)))).toNatClampNeg)) f0 h1 g1.1 (by rw [g1.2.1 104 1 rfl, ← R0.1.1]; exact hF)
  refine XB_call (i := .invokevirtual 178) (aux := 6) (nx := 269) (K := 178) (vs := [xf 13 104, xi (xs ((i + (Int32.ofInt (1)))).toNatClampNeg), xi (xs ((i + (Int32.ofInt (2)))).toNatClampNeg), xi (xs ((i + (Int32.ofInt (3)))).toNatClampNeg), xi (xs ((i + (Int32.ofInt (4)))).toNatClampNeg), xi (xs ((i + (Int32.ofInt (5)))).toNatClampNeg)]) (rs := [xi v2]) (rest := []) rfl rfl rfl rfl rfl rfl cc2 (by decide) (by decide) (Nat.le_of_ble_eq_true rfl) ⟨Nat.le_trans (Nat.le_of_eq g2.1.2.2.2.1) hN, Nat.le_trans (Nat.le_of_eq g2.1.2.2.2.2) hU⟩ ?_
  show XB l Ls xs 14 538 false 288 N U F 269 [xf 50 1, xf 12 2, xf 13 104, xf 40001 152, xi i, x5, x6] [xi v2] h2
  obtain ⟨same, RF1⟩ := vR1_feed R0.1 hF g1.2 s1 g2.2 s2
  have RF : vRl h2 := ⟨RF1, R0.2.1.fr ((vKeep.of g1.2 rfl).tr (vKeep.of g2.2 rfl)), R0.2.2.1.fr ((vKeep.of g1.2 rfl).tr (vKeep.of g2.2 rfl)), R0.2.2.2.1.fr ((vKeep.of g1.2 rfl).tr (vKeep.of g2.2 rfl)), R0.2.2.2.2.1.fr ((vKeep.of g1.2 rfl).tr (vKeep.of g2.2 rfl)), R0.2.2.2.2.2.fr hg.1 ((vKeep.of g1.2 rfl).tr (vKeep.of g2.2 rfl)) ((g2.2.2 2 1 rfl).trans (g1.2.2 2 1 rfl)) ((g2.2.2 2 2 rfl).trans (g1.2.2 2 2 rfl))⟩
  refine XB_path (sc := some (Ls, xs)) (inl := []) (n := 80) (sp := [23]) (o := []) (xin_ok rfl) (Or.inr rfl) rfl rfl (Nat.le_trans (Nat.le_of_eq g2.1.2.2.2.1) hN) (Nat.le_trans (Nat.le_of_eq g2.1.2.2.2.2) hU) trivial ?_
  show XB l Ls xs 14 538 false 288 N U F 23 [xf 50 1, xf 12 2, xf 13 104, xf 40001 152, xi (i + Int32.ofInt (6)), x5, x6] [] h2
  exact k h2 (x5) (x6) ⟨g2.1, RF⟩
set_option maxRecDepth 100000 in
set_option maxHeartbeats 4000000 in
theorem lw_c1 (l : Launch) (Ls : Nat) (xs : Nat → Int32) (N U : Nat) (F : List XV → XH → Prop) (i : Int32) (x5 x6 : XV) (h : XH) (H : vLw h) (i0 : 0 ≤ i.toInt) (i1 : i.toInt + 6 ≤ Ls) (hL : Ls ≤ 3072) (eL : (Int32.ofNat Ls - (Int32.ofInt (6))).toInt = Ls - 6) (hN : 153 ≤ N) (hU : 6051 ≤ U) (hc : (xs (i).toNatClampNeg &&& (Int32.ofInt (63))).toInt = 1) (k : ∀ h' x5' x6', vLw h' → XB l Ls xs 14 538 false 288 N U F 23 [xf 50 1, xf 12 2, xf 13 104, xf 40001 152, xi (i + (Int32.ofInt (6))), x5', x6'] [] h') : XB l Ls xs 14 538 false 288 N U F 23 [xf 50 1, xf 12 2, xf 13 104, xf 40001 152, xi i, x5, x6] [] h := by
  have e1 : (i + (Int32.ofInt (1))).toInt = i.toInt + 1 := by rw [Int32.toInt_add, show (Int32.ofInt (1)).toInt = 1 from rfl]; exact Int.bmod_eq_of_le (by omega) (by omega)
  have e2 : (i + (Int32.ofInt (2))).toInt = i.toInt + 2 := by rw [Int32.toInt_add, show (Int32.ofInt (2)).toInt = 2 from rfl]; exact Int.bmod_eq_of_le (by omega) (by omega)
  have e3 : (i + (Int32.ofInt (3))).toInt = i.toInt + 3 := by rw [Int32.toInt_add, show (Int32.ofInt (3)).toInt = 3 from rfl]; exact Int.bmod_eq_of_le (by omega) (by omega)
  have e4 : (i + (Int32.ofInt (4))).toInt = i.toInt + 4 := by rw [Int32.toInt_add, show (Int32.ofInt (4)).toInt = 4 from rfl]; exact Int.bmod_eq_of_le (by omega) (by omega)
  have e5 : (i + (Int32.ofInt (5))).toInt = i.toInt + 5 := by rw [Int32.toInt_add, show (Int32.ofInt (5)).toInt = 5 from rfl]; exact Int.bmod_eq_of_le (by omega) (by omega)
  have hg := H.1
  have R0 := H.2
  refine XB_path (sc := some (Ls, xs)) (inl := []) (n := 80) (sp := [280]) (o := [0, 2]) (xin_ok rfl) (Or.inr rfl) rfl rfl (Nat.le_trans (Nat.le_of_eq hg.2.2.2.1) hN) (Nat.le_trans (Nat.le_of_eq hg.2.2.2.2) hU) ⟨⟨⟨⟨trivial, (fun z => absurd (Int32.lt_iff_toInt_lt.mp z) (by omega))⟩, (vp_of (i := i) (n := Ls) (by omega) (by omega))⟩, ⟨hc, by decide⟩⟩, (vp_of (i := (i + (Int32.ofInt (1)))) (n := Ls) (by omega) (by omega))⟩ ?_
  show XB l Ls xs 14 538 false 288 N U F 280 [xf 50 1, xf 12 2, xf 13 104, xf 40001 152, xi i, x5, x6] [xi (xs ((i + (Int32.ofInt (1)))).toNatClampNeg), xf 12 2] h
  by_cases hn : ((xs ((i + (Int32.ofInt (1)))).toNatClampNeg)).toInt < 0 ∨ (xI h 45 1).toInt < ((xs ((i + (Int32.ofInt (1)))).toNatClampNeg)).toInt
  · have cc1 := ck_textN l ((xs ((i + (Int32.ofInt (1)))).toNatClampNeg)) h hg hn
    refine XB_call (i := .invokevirtual 15) (aux := 2) (nx := 283) (K := 15) (vs := [xf 12 2, xi (xs ((i + (Int32.ofInt (1)))).toNatClampNeg)]) (rs := [xi (Int32.ofInt (-2))]) (rest := []) rfl rfl rfl rfl rfl rfl cc1 (by decide) (by decide) (Nat.le_of_ble_eq_true rfl) ⟨Nat.le_trans (Nat.le_of_eq hg.2.2.2.1) hN, Nat.le_trans (Nat.le_of_eq hg.2.2.2.2) hU⟩ ?_
    show XB l Ls xs 14 538 false 288 N U F 283 [xf 50 1, xf 12 2, xf 13 104, xf 40001 152, xi i, x5, x6] [xi (Int32.ofInt (-2))] h
    refine XB_path (sc := some (Ls, xs)) (inl := []) (n := 80) (sp := [291]) (o := []) (xin_ok rfl) (Or.inr rfl) rfl rfl (Nat.le_trans (Nat.le_of_eq hg.2.2.2.1) hN) (Nat.le_trans (Nat.le_of_eq hg.2.2.2.2) hU) ⟨trivial, (vp_of (i := (i + (Int32.ofInt (1)))) (n := Ls) (by omega) (by omega))⟩ ?_
    show XB l Ls xs 14 538 false 288 N U F 291 [xf 50 1, xf 12 2, xf 13 104, xf 40001 152, xi i, x5, x6] [xi (xs ((i + (Int32.ofInt (1)))).toNatClampNeg), xf 13 104] h
    obtain ⟨v2, h2, cc2, g2, s6, s7⟩ := vh_text l ((xs ((i + (Int32.ofInt (1)))).toNatClampNeg)) h hg
    obtain ⟨h3, cc3, g3⟩ := jk_textN l ((xs ((i + (Int32.ofInt (1)))).toNatClampNeg)) h ⟨hg.1, trivial, trivial, hg.2.2.2⟩ (by rw [← R0.1.1]; exact hn)
    refine XB_two (i := .invokevirtual 179) (aux := 2) (nx := 294) (K := 179) (vs := [xf 13 104, xi (xs ((i + (Int32.ofInt (1)))).toNatClampNeg)]) (rs := [xi v2]) (rs2 := [xi (Int32.ofInt (-2))]) (rest := []) rfl rfl rfl rfl rfl rfl cc2 cc3 ⟨g2.1.2.2.2.1.trans hg.2.2.2.1.symm, g2.1.2.2.2.2.trans hg.2.2.2.2.symm⟩ ⟨g3.1.2.2.2.1.trans hg.2.2.2.1.symm, g3.1.2.2.2.2.trans hg.2.2.2.2.symm⟩ (by decide) (by decide) (by decide) (by decide) (Nat.le_of_ble_eq_true rfl) ⟨Nat.le_trans (Nat.le_of_eq g2.1.2.2.2.1) hN, Nat.le_trans (Nat.le_of_eq g2.1.2.2.2.2) hU⟩ (fun ag => ?_)
    show XB l Ls xs 14 538 false 288 N U F 294 [xf 50 1, xf 12 2, xf 13 104, xf 40001 152, xi i, x5, x6] [xi v2] h2
    have ev : v2 = Int32.ofInt (-2) := ag.v
    obtain ⟨a1, a4, a5, a12, a13, a14, a15, a16, a63, a64, a72, a73, a76, a78⟩ := zag_m ag g2.1.1 g3.1.1
    have a138 := zag_138 ag g2.1.1 g3.1.1 0 (by decide)
    have aK := zag_K ag g2.1.1 g3.1.1
    have RT := vRl_textN hg.1 R0 g2.2 (a1.trans (g3.2.1 104 1 rfl)) (a4.trans (g3.2.1 104 4 rfl)) (a5.trans (g3.2.1 104 5 rfl)) (a138.trans (g3.2.1 138 0 rfl)) (a78.trans (g3.2.1 104 78 rfl)) (a72.trans (g3.2.1 104 72 rfl)) (fun k k1 k2 => (aK.1 k k1 k2).trans (g3.2.1 104 k (swj_no (sw_m2 (by omega))))) (fun c k c1 c2 hk => (aK.2 c k c1 c2 hk).trans (g3.2.1 c k (swj_lo c1 c2 hk)))
    refine XB_path (sc := some (Ls, xs)) (inl := []) (n := 80) (sp := [23]) (o := []) (xin_ok rfl) (Or.inr rfl) rfl rfl (Nat.le_trans (Nat.le_of_eq g2.1.2.2.2.1) hN) (Nat.le_trans (Nat.le_of_eq g2.1.2.2.2.2) hU) trivial ?_
    show XB l Ls xs 14 538 false 288 N U F 23 [xf 50 1, xf 12 2, xf 13 104, xf 40001 152, xi (i + Int32.ofInt (6)), x5, x6] [] h2
    exact k h2 (x5) (x6) ⟨g2.1, RT⟩
  obtain ⟨n0, hn0⟩ : ∃ n0 : Nat, ((xs ((i + (Int32.ofInt (1)))).toNatClampNeg)).toInt = n0 := ⟨((xs ((i + (Int32.ofInt (1)))).toNatClampNeg)).toInt.toNat, by omega⟩
  obtain ⟨Z0, Z1⟩ := id R0.2.2.2.2.2
  rcases Z1.1 with ⟨rr1, rr2, Z2⟩ | ⟨rr1, rr2, Z2⟩
  · obtain ⟨v1, h1, cc1, g1, s1, s2, s3, s4, s5⟩ := ck_text24 l (fun k => sby (xI h 46 k).toInt) n0 ((xs ((i + (Int32.ofInt (1)))).toNatClampNeg)) h hg hn0 (by omega) (fun k hk => rfl) rr1 rr2
    refine XB_call (i := .invokevirtual 15) (aux := 2) (nx := 283) (K := 15) (vs := [xf 12 2, xi (xs ((i + (Int32.ofInt (1)))).toNatClampNeg)]) (rs := [xi v1]) (rest := []) rfl rfl rfl rfl rfl rfl cc1 (by decide) (by decide) (Nat.le_of_ble_eq_true rfl) ⟨Nat.le_trans (Nat.le_of_eq g1.1.2.2.2.1) hN, Nat.le_trans (Nat.le_of_eq g1.1.2.2.2.2) hU⟩ ?_
    show XB l Ls xs 14 538 false 288 N U F 283 [xf 50 1, xf 12 2, xf 13 104, xf 40001 152, xi i, x5, x6] [xi v1] h1
    refine XB_path (sc := some (Ls, xs)) (inl := []) (n := 80) (sp := [291]) (o := []) (xin_ok rfl) (Or.inr rfl) rfl rfl (Nat.le_trans (Nat.le_of_eq g1.1.2.2.2.1) hN) (Nat.le_trans (Nat.le_of_eq g1.1.2.2.2.2) hU) ⟨trivial, (vp_of (i := (i + (Int32.ofInt (1)))) (n := Ls) (by omega) (by omega))⟩ ?_
    show XB l Ls xs 14 538 false 288 N U F 291 [xf 50 1, xf 12 2, xf 13 104, xf 40001 152, xi i, x5, x6] [xi (xs ((i + (Int32.ofInt (1)))).toNatClampNeg), xf 13 104] h1
    obtain ⟨v2, h2, cc2, g2, s6, s7⟩ := vh_text l ((xs ((i + (Int32.ofInt (1)))).toNatClampNeg)) h1 g1.1
    have u1 : xI h1 104 1 = xI h 104 1 := g1.2.1 104 1 rfl
    obtain ⟨v3, h3, cc3, g3, t1, t2, t3, t4, t5⟩ := jk_text l (fun k => sby (xI h 46 k).toInt) n0 ((xs ((i + (Int32.ofInt (1)))).toNatClampNeg)) h1 ⟨g1.1.1, trivial, trivial, g1.1.2.2.2⟩ hn0 (by rw [u1, ← R0.1.1]; omega) (fun k hk => by rw [g1.2.1 105 k rfl]; exact (R0.1.2 k (by omega)).symm)
    refine XB_two (i := .invokevirtual 179) (aux := 2) (nx := 294) (K := 179) (vs := [xf 13 104, xi (xs ((i + (Int32.ofInt (1)))).toNatClampNeg)]) (rs := [xi v2]) (rs2 := [xi v3]) (rest := []) rfl rfl rfl rfl rfl rfl cc2 cc3 ⟨g2.1.2.2.2.1.trans g1.1.2.2.2.1.symm, g2.1.2.2.2.2.trans g1.1.2.2.2.2.symm⟩ ⟨g3.1.2.2.2.1.trans g1.1.2.2.2.1.symm, g3.1.2.2.2.2.trans g1.1.2.2.2.2.symm⟩ (by decide) (by decide) (by decide) (by decide) (Nat.le_of_ble_eq_true rfl) ⟨Nat.le_trans (Nat.le_of_eq g2.1.2.2.2.1) hN, Nat.le_trans (Nat.le_of_eq g2.1.2.2.2.2) hU⟩ (fun ag => ?_)
    show XB l Ls xs 14 538 false 288 N U F 294 [xf 50 1, xf 12 2, xf 13 104, xf 40001 152, xi i, x5, x6] [xi v2] h2
    have ev : v2 = v3 := ag.v
    have same : v1 = v2 := Int32.toInt_inj.mp (by rw [ev, s2, t1])
    obtain ⟨a1, a4, a5, a12, a13, a14, a15, a16, a63, a64, a72, a73, a76, a78⟩ := zag_m ag g2.1.1 g3.1.1
    have a138 := zag_138 ag g2.1.1 g3.1.1 0 (by decide)
    have aK := zag_K ag g2.1.1 g3.1.1
    have e0 : xI h2 45 1 = 0 := by rw [g2.2.1 45 1 rfl]; exact Int32.toInt_inj.mp s1
    have e1_ : xI h2 104 1 = (Int32.ofInt (0)) := s7 (by omega) (by rw [u1, ← R0.1.1]; omega)
    have e2_ : xI h2 45 2 = xI h2 104 4 := Int32.toInt_inj.mp (by rw [g2.2.1 45 2 rfl, a4, s3, t2])
    have e3_ : xI h2 45 3 = xI h2 104 5 := Int32.toInt_inj.mp (by rw [g2.2.1 45 3 rfl, a5, s4, t3])
    have ecl : ∀ c k, 3 ≤ c → c < 44 → ¬ c = 23 → xI h2 c k = xI h1 c k := fun c k c1 c2 c3 => (vKeep.of g2.2 rfl : vKeep vL6c h1 h2) c k (scell_in (vL6_c c c2 c1 c3))
    have RT : vRl h2 := by
      rcases s5 with ⟨y1, y2, y3, kz, k26, k81, k85, k851, kst⟩ | ⟨y1, y⟩
      · have j := t4 y1
        refine ⟨vR1_0 e0 e1_, ⟨e2_, e3_⟩, (g2.2.1 48 7 rfl).trans (kst.2.2.2.2.2.1.trans (j.2.1.2.2.symm.trans a138.symm)), ⟨(g2.2.1 2 6 rfl).trans (k26.trans (j.2.2.2.2.2.2.2.symm.trans a78.symm)), fun z => absurd ((g2.2.1 2 6 rfl).trans k26) z⟩, (g2.2.1 85 0 rfl).trans (k85.trans (j.2.2.2.2.1.symm.trans a72.symm)), (sText (fun k => sby (xI h 46 k).toInt) n0).2.2.2, Or.inr ⟨(g2.2.2 2 1 rfl).trans y2, (g2.2.2 2 2 rfl).trans y3, kTx.fr (c := 24) ⟨kz.1, kz.2.1, kz.2.2.1⟩ (fun i k i1 i2 => ecl i k (by omega) (by omega) (by omega))⟩, j.1.fr g3.1.1 aK.1 aK.2⟩
      · have t := t5 y1
        refine ⟨vR1_0 e0 e1_, ⟨e2_, e3_⟩, (g2.2.1 48 7 rfl).trans ((y.1 48 7 rfl).trans (R0.2.2.1.trans ((g1.2.1 138 0 rfl).symm.trans ((t.1 138 0 rfl).symm.trans a138.symm)))), ⟨(g2.2.1 2 6 rfl).trans ((y.1 2 6 rfl).trans (R0.2.2.2.1.1.trans ((g1.2.1 104 78 rfl).symm.trans ((t.1 104 78 rfl).symm.trans a78.symm)))), ?_⟩, (g2.2.1 85 0 rfl).trans ((y.1 85 0 rfl).trans (R0.2.2.2.2.1.trans ((g1.2.1 104 72 rfl).symm.trans ((t.1 104 72 rfl).symm.trans a72.symm)))), Z0, Or.inl ⟨(g2.2.2 2 1 rfl).trans ((y.2 2 1 rfl).trans rr1), (g2.2.2 2 2 rfl).trans ((y.2 2 2 rfl).trans rr2), Z2.fr (fun i k i1 i2 => (ecl i k (by omega) (by omega) (by omega)).trans ((vKeep.of y rfl : vKeep vL63 h h1) i k (scell_in (vL6_3 i (by omega) (by omega)))))⟩, Z1.2.fr hg.1 (fun k k1 k2 => (aK.1 k k1 k2).trans ((t.1 104 k (sw_wf (by omega))).trans (g1.2.1 104 k rfl))) (fun c k c1 c2 hk => (aK.2 c k c1 c2 hk).trans ((t.1 c k (swj_lo c1 c2 hk)).trans ((vKeep.of g1.2 rfl : vKeep vL6j h h1) c k (scell_in (vL6_j c (by omega) c1)))))⟩
        rw [g2.2.1 2 6 rfl, y.1 2 6 rfl, g2.2.1 70 7 rfl, y.1 70 7 rfl, g2.2.1 151 14 rfl, g1.2.1 151 14 rfl]
        exact R0.2.2.2.1.2
    refine XB_path (sc := some (Ls, xs)) (inl := []) (n := 80) (sp := [23]) (o := []) (xin_ok rfl) (Or.inr rfl) rfl rfl (Nat.le_trans (Nat.le_of_eq g2.1.2.2.2.1) hN) (Nat.le_trans (Nat.le_of_eq g2.1.2.2.2.2) hU) trivial ?_
    show XB l Ls xs 14 538 false 288 N U F 23 [xf 50 1, xf 12 2, xf 13 104, xf 40001 152, xi (i + Int32.ofInt (6)), x5, x6] [] h2
    exact k h2 (x5) (x6) ⟨g2.1, RT⟩
  · obtain ⟨v1, h1, cc1, g1, s1, s2, s3, s4, s5⟩ := ck_text3 l (fun k => sby (xI h 46 k).toInt) n0 ((xs ((i + (Int32.ofInt (1)))).toNatClampNeg)) h hg hn0 (by omega) (fun k hk => rfl) rr1 rr2
    refine XB_call (i := .invokevirtual 15) (aux := 2) (nx := 283) (K := 15) (vs := [xf 12 2, xi (xs ((i + (Int32.ofInt (1)))).toNatClampNeg)]) (rs := [xi v1]) (rest := []) rfl rfl rfl rfl rfl rfl cc1 (by decide) (by decide) (Nat.le_of_ble_eq_true rfl) ⟨Nat.le_trans (Nat.le_of_eq g1.1.2.2.2.1) hN, Nat.le_trans (Nat.le_of_eq g1.1.2.2.2.2) hU⟩ ?_
    show XB l Ls xs 14 538 false 288 N U F 283 [xf 50 1, xf 12 2, xf 13 104, xf 40001 152, xi i, x5, x6] [xi v1] h1
    refine XB_path (sc := some (Ls, xs)) (inl := []) (n := 80) (sp := [291]) (o := []) (xin_ok rfl) (Or.inr rfl) rfl rfl (Nat.le_trans (Nat.le_of_eq g1.1.2.2.2.1) hN) (Nat.le_trans (Nat.le_of_eq g1.1.2.2.2.2) hU) ⟨trivial, (vp_of (i := (i + (Int32.ofInt (1)))) (n := Ls) (by omega) (by omega))⟩ ?_
    show XB l Ls xs 14 538 false 288 N U F 291 [xf 50 1, xf 12 2, xf 13 104, xf 40001 152, xi i, x5, x6] [xi (xs ((i + (Int32.ofInt (1)))).toNatClampNeg), xf 13 104] h1
    obtain ⟨v2, h2, cc2, g2, s6, s7⟩ := vh_text l ((xs ((i + (Int32.ofInt (1)))).toNatClampNeg)) h1 g1.1
    have u1 : xI h1 104 1 = xI h 104 1 := g1.2.1 104 1 rfl
    obtain ⟨v3, h3, cc3, g3, t1, t2, t3, t4, t5⟩ := jk_text l (fun k => sby (xI h 46 k).toInt) n0 ((xs ((i + (Int32.ofInt (1)))).toNatClampNeg)) h1 ⟨g1.1.1, trivial, trivial, g1.1.2.2.2⟩ hn0 (by rw [u1, ← R0.1.1]; omega) (fun k hk => by rw [g1.2.1 105 k rfl]; exact (R0.1.2 k (by omega)).symm)
    refine XB_two (i := .invokevirtual 179) (aux := 2) (nx := 294) (K := 179) (vs := [xf 13 104, xi (xs ((i + (Int32.ofInt (1)))).toNatClampNeg)]) (rs := [xi v2]) (rs2 := [xi v3]) (rest := []) rfl rfl rfl rfl rfl rfl cc2 cc3 ⟨g2.1.2.2.2.1.trans g1.1.2.2.2.1.symm, g2.1.2.2.2.2.trans g1.1.2.2.2.2.symm⟩ ⟨g3.1.2.2.2.1.trans g1.1.2.2.2.1.symm, g3.1.2.2.2.2.trans g1.1.2.2.2.2.symm⟩ (by decide) (by decide) (by decide) (by decide) (Nat.le_of_ble_eq_true rfl) ⟨Nat.le_trans (Nat.le_of_eq g2.1.2.2.2.1) hN, Nat.le_trans (Nat.le_of_eq g2.1.2.2.2.2) hU⟩ (fun ag => ?_)
    show XB l Ls xs 14 538 false 288 N U F 294 [xf 50 1, xf 12 2, xf 13 104, xf 40001 152, xi i, x5, x6] [xi v2] h2
    have ev : v2 = v3 := ag.v
    have same : v1 = v2 := Int32.toInt_inj.mp (by rw [ev, s2, t1])
    obtain ⟨a1, a4, a5, a12, a13, a14, a15, a16, a63, a64, a72, a73, a76, a78⟩ := zag_m ag g2.1.1 g3.1.1
    have a138 := zag_138 ag g2.1.1 g3.1.1 0 (by decide)
    have aK := zag_K ag g2.1.1 g3.1.1
    have e0 : xI h2 45 1 = 0 := by rw [g2.2.1 45 1 rfl]; exact Int32.toInt_inj.mp s1
    have e1_ : xI h2 104 1 = (Int32.ofInt (0)) := s7 (by omega) (by rw [u1, ← R0.1.1]; omega)
    have e2_ : xI h2 45 2 = xI h2 104 4 := Int32.toInt_inj.mp (by rw [g2.2.1 45 2 rfl, a4, s3, t2])
    have e3_ : xI h2 45 3 = xI h2 104 5 := Int32.toInt_inj.mp (by rw [g2.2.1 45 3 rfl, a5, s4, t3])
    have ecl : ∀ c k, 3 ≤ c → c < 44 → ¬ c = 23 → xI h2 c k = xI h1 c k := fun c k c1 c2 c3 => (vKeep.of g2.2 rfl : vKeep vL6c h1 h2) c k (scell_in (vL6_c c c2 c1 c3))
    have RT : vRl h2 := by
      rcases s5 with ⟨y1, y2, y3, kz, k26, k81, k85, k851, kst⟩ | ⟨y1, y⟩
      · have j := t4 y1
        refine ⟨vR1_0 e0 e1_, ⟨e2_, e3_⟩, (g2.2.1 48 7 rfl).trans (kst.2.2.2.2.2.1.trans (j.2.1.2.2.symm.trans a138.symm)), ⟨(g2.2.1 2 6 rfl).trans (k26.trans (j.2.2.2.2.2.2.2.symm.trans a78.symm)), fun z => absurd ((g2.2.1 2 6 rfl).trans k26) z⟩, (g2.2.1 85 0 rfl).trans (k85.trans (j.2.2.2.2.1.symm.trans a72.symm)), (sText (fun k => sby (xI h 46 k).toInt) n0).2.2.2, Or.inl ⟨(g2.2.2 2 1 rfl).trans y2, (g2.2.2 2 2 rfl).trans y3, kTx.fr (c := 3) ⟨kz.1, kz.2.1, kz.2.2.1⟩ (fun i k i1 i2 => ecl i k (by omega) (by omega) (by omega))⟩, j.1.fr g3.1.1 aK.1 aK.2⟩
      · have t := t5 y1
        refine ⟨vR1_0 e0 e1_, ⟨e2_, e3_⟩, (g2.2.1 48 7 rfl).trans ((y.1 48 7 rfl).trans (R0.2.2.1.trans ((g1.2.1 138 0 rfl).symm.trans ((t.1 138 0 rfl).symm.trans a138.symm)))), ⟨(g2.2.1 2 6 rfl).trans ((y.1 2 6 rfl).trans (R0.2.2.2.1.1.trans ((g1.2.1 104 78 rfl).symm.trans ((t.1 104 78 rfl).symm.trans a78.symm)))), ?_⟩, (g2.2.1 85 0 rfl).trans ((y.1 85 0 rfl).trans (R0.2.2.2.2.1.trans ((g1.2.1 104 72 rfl).symm.trans ((t.1 104 72 rfl).symm.trans a72.symm)))), Z0, Or.inr ⟨(g2.2.2 2 1 rfl).trans ((y.2 2 1 rfl).trans rr1), (g2.2.2 2 2 rfl).trans ((y.2 2 2 rfl).trans rr2), Z2.fr (fun i k i1 i2 => (ecl i k (by omega) (by omega) (by omega)).trans ((vKeep.of y rfl : vKeep vL624 h h1) i k (scell_in (vL6_24 i (by omega) (by omega)))))⟩, Z1.2.fr hg.1 (fun k k1 k2 => (aK.1 k k1 k2).trans ((t.1 104 k (sw_wf (by omega))).trans (g1.2.1 104 k rfl))) (fun c k c1 c2 hk => (aK.2 c k c1 c2 hk).trans ((t.1 c k (swj_lo c1 c2 hk)).trans ((vKeep.of g1.2 rfl : vKeep vL6j h h1) c k (scell_in (vL6_j c (by omega) c1)))))⟩
        rw [g2.2.1 2 6 rfl, y.1 2 6 rfl, g2.2.1 70 7 rfl, y.1 70 7 rfl, g2.2.1 151 14 rfl, g1.2.1 151 14 rfl]
        exact R0.2.2.2.1.2
    refine XB_path (sc := some (Ls, xs)) (inl := []) (n := 80) (sp := [23]) (o := []) (xin_ok rfl) (Or.inr rfl) rfl rfl (Nat.le_trans (Nat.le_of_eq g2.1.2.2.2.1) hN) (Nat.le_trans (Nat.le_of_eq g2.1.2.2.2.2) hU) trivial ?_
    show XB l Ls xs 14 538 false 288 N U F 23 [xf 50 1, xf 12 2, xf 13 104, xf 40001 152, xi (i + Int32.ofInt (6)), x5, x6] [] h2
    exact k h2 (x5) (x6) ⟨g2.1, RT⟩
set_option maxRecDepth 100000 in
set_option maxHeartbeats 4000000 in
theorem lw_c2 (l : Launch) (Ls : Nat) (xs : Nat → Int32) (N U : Nat) (F : List XV → XH → Prop) (i : Int32) (x5 x6 : XV) (h : XH) (H : vLw h) (i0 : 0 ≤ i.toInt) (i1 : i.toInt + 6 ≤ Ls) (hL : Ls ≤ 3072) (eL : (Int32.ofNat Ls - (Int32.ofInt (6))).toInt = Ls - 6) (hN : 153 ≤ N) (hU : 6051 ≤ U) (hc : (xs (i).toNatClampNeg &&& (Int32.ofInt (63))).toInt = 2) (k : ∀ h' x5' x6', vLw h' → XB l Ls xs 14 538 false 288 N U F 23 [xf 50 1, xf 12 2, xf 13 104, xf 40001 152, xi (i + (Int32.ofInt (6))), x5', x6'] [] h') : XB l Ls xs 14 538 false 288 N U F 23 [xf 50 1, xf 12 2, xf 13 104, xf 40001 152, xi i, x5, x6] [] h := by
  have e1 : (i + (Int32.ofInt (1))).toInt = i.toInt + 1 := by rw [Int32.toInt_add, show (Int32.ofInt (1)).toInt = 1 from rfl]; exact Int.bmod_eq_of_le (by omega) (by omega)
  have e2 : (i + (Int32.ofInt (2))).toInt = i.toInt + 2 := by rw [Int32.toInt_add, show (Int32.ofInt (2)).toInt = 2 from rfl]; exact Int.bmod_eq_of_le (by omega) (by omega)
  have e3 : (i + (Int32.ofInt (3))).toInt = i.toInt + 3 := by rw [Int32.toInt_add, show (Int32.ofInt (3)).toInt = 3 from rfl]; exact Int.bmod_eq_of_le (by omega) (by omega)
  have e4 : (i + (Int32.ofInt (4))).toInt = i.toInt + 4 := by rw [Int32.toInt_add, show (Int32.ofInt (4)).toInt = 4 from rfl]; exact Int.bmod_eq_of_le (by omega) (by omega)
  have e5 : (i + (Int32.ofInt (5))).toInt = i.toInt + 5 := by rw [Int32.toInt_add, show (Int32.ofInt (5)).toInt = 5 from rfl]; exact Int.bmod_eq_of_le (by omega) (by omega)
  have hg := H.1
  have R0 := H.2
  refine XB_path (sc := some (Ls, xs)) (inl := []) (n := 80) (sp := [305]) (o := [0, 3]) (xin_ok rfl) (Or.inr rfl) rfl rfl (Nat.le_trans (Nat.le_of_eq hg.2.2.2.1) hN) (Nat.le_trans (Nat.le_of_eq hg.2.2.2.2) hU) ⟨⟨⟨⟨trivial, (fun z => absurd (Int32.lt_iff_toInt_lt.mp z) (by omega))⟩, (vp_of (i := i) (n := Ls) (by omega) (by omega))⟩, ⟨hc, by decide⟩⟩, (vp_of (i := (i + (Int32.ofInt (1)))) (n := Ls) (by omega) (by omega))⟩ ?_
  show XB l Ls xs 14 538 false 288 N U F 305 [xf 50 1, xf 12 2, xf 13 104, xf 40001 152, xi i, x5, x6] [xi (xs ((i + (Int32.ofInt (1)))).toNatClampNeg), xf 12 2] h
  have cc1 := ck_fault l ((xs ((i + (Int32.ofInt (1)))).toNatClampNeg)) h hg
  refine XB_call (i := .invokevirtual 69) (aux := 2) (nx := 308) (K := 69) (vs := [xf 12 2, xi (xs ((i + (Int32.ofInt (1)))).toNatClampNeg)]) (rs := [xi (zfl ((xs ((i + (Int32.ofInt (1)))).toNatClampNeg)) (xI h 45 2) (xI h 45 3))]) (rest := []) rfl rfl rfl rfl rfl rfl cc1 (by decide) (by decide) (Nat.le_of_ble_eq_true rfl) ⟨Nat.le_trans (Nat.le_of_eq hg.2.2.2.1) hN, Nat.le_trans (Nat.le_of_eq hg.2.2.2.2) hU⟩ ?_
  show XB l Ls xs 14 538 false 288 N U F 308 [xf 50 1, xf 12 2, xf 13 104, xf 40001 152, xi i, x5, x6] [xi (zfl ((xs ((i + (Int32.ofInt (1)))).toNatClampNeg)) (xI h 45 2) (xI h 45 3))] h
  refine XB_path (sc := some (Ls, xs)) (inl := []) (n := 80) (sp := [316]) (o := []) (xin_ok rfl) (Or.inr rfl) rfl rfl (Nat.le_trans (Nat.le_of_eq hg.2.2.2.1) hN) (Nat.le_trans (Nat.le_of_eq hg.2.2.2.2) hU) ⟨trivial, (vp_of (i := (i + (Int32.ofInt (1)))) (n := Ls) (by omega) (by omega))⟩ ?_
  show XB l Ls xs 14 538 false 288 N U F 316 [xf 50 1, xf 12 2, xf 13 104, xf 40001 152, xi i, x5, x6] [xi (xs ((i + (Int32.ofInt (1)))).toNatClampNeg), xf 13 104] h
  obtain ⟨h2, cc2, g2⟩ := jk_fault l ((xs ((i + (Int32.ofInt (1)))).toNatClampNeg)) h hg
  refine XB_call (i := .invokevirtual 211) (aux := 2) (nx := 319) (K := 211) (vs := [xf 13 104, xi (xs ((i + (Int32.ofInt (1)))).toNatClampNeg)]) (rs := [xi (zfl ((xs ((i + (Int32.ofInt (1)))).toNatClampNeg)) (xI h 104 4) (xI h 104 5))]) (rest := []) rfl rfl rfl rfl rfl rfl cc2 (by decide) (by decide) (Nat.le_of_ble_eq_true rfl) ⟨Nat.le_trans (Nat.le_of_eq g2.1.2.2.2.1) hN, Nat.le_trans (Nat.le_of_eq g2.1.2.2.2.2) hU⟩ ?_
  show XB l Ls xs 14 538 false 288 N U F 319 [xf 50 1, xf 12 2, xf 13 104, xf 40001 152, xi i, x5, x6] [xi (zfl ((xs ((i + (Int32.ofInt (1)))).toNatClampNeg)) (xI h 104 4) (xI h 104 5))] h2
  have same : (zfl ((xs ((i + (Int32.ofInt (1)))).toNatClampNeg)) (xI h 45 2) (xI h 45 3)) = (zfl ((xs ((i + (Int32.ofInt (1)))).toNatClampNeg)) (xI h 104 4) (xI h 104 5)) := by rw [R0.2.1.1, R0.2.1.2]
  have RT := R0.fr hg.1 g2.2 rfl rfl rfl
  refine XB_path (sc := some (Ls, xs)) (inl := []) (n := 80) (sp := [23]) (o := []) (xin_ok rfl) (Or.inr rfl) rfl rfl (Nat.le_trans (Nat.le_of_eq g2.1.2.2.2.1) hN) (Nat.le_trans (Nat.le_of_eq g2.1.2.2.2.2) hU) trivial ?_
  show XB l Ls xs 14 538 false 288 N U F 23 [xf 50 1, xf 12 2, xf 13 104, xf 40001 152, xi (i + Int32.ofInt (6)), x5, x6] [] h2
  exact k h2 (x5) (x6) ⟨g2.1, RT⟩
set_option maxRecDepth 100000 in
set_option maxHeartbeats 4000000 in
theorem lw_c3 (l : Launch) (Ls : Nat) (xs : Nat → Int32) (N U : Nat) (F : List XV → XH → Prop) (i : Int32) (x5 x6 : XV) (h : XH) (H : vLw h) (i0 : 0 ≤ i.toInt) (i1 : i.toInt + 6 ≤ Ls) (hL : Ls ≤ 3072) (eL : (Int32.ofNat Ls - (Int32.ofInt (6))).toInt = Ls - 6) (hN : 153 ≤ N) (hU : 6051 ≤ U) (hc : (xs (i).toNatClampNeg &&& (Int32.ofInt (63))).toInt = 3) (k : ∀ h' x5' x6', vLw h' → XB l Ls xs 14 538 false 288 N U F 23 [xf 50 1, xf 12 2, xf 13 104, xf 40001 152, xi (i + (Int32.ofInt (6))), x5', x6'] [] h') : XB l Ls xs 14 538 false 288 N U F 23 [xf 50 1, xf 12 2, xf 13 104, xf 40001 152, xi i, x5, x6] [] h := by
  have e1 : (i + (Int32.ofInt (1))).toInt = i.toInt + 1 := by rw [Int32.toInt_add, show (Int32.ofInt (1)).toInt = 1 from rfl]; exact Int.bmod_eq_of_le (by omega) (by omega)
  have e2 : (i + (Int32.ofInt (2))).toInt = i.toInt + 2 := by rw [Int32.toInt_add, show (Int32.ofInt (2)).toInt = 2 from rfl]; exact Int.bmod_eq_of_le (by omega) (by omega)
  have e3 : (i + (Int32.ofInt (3))).toInt = i.toInt + 3 := by rw [Int32.toInt_add, show (Int32.ofInt (3)).toInt = 3 from rfl]; exact Int.bmod_eq_of_le (by omega) (by omega)
  have e4 : (i + (Int32.ofInt (4))).toInt = i.toInt + 4 := by rw [Int32.toInt_add, show (Int32.ofInt (4)).toInt = 4 from rfl]; exact Int.bmod_eq_of_le (by omega) (by omega)
  have e5 : (i + (Int32.ofInt (5))).toInt = i.toInt + 5 := by rw [Int32.toInt_add, show (Int32.ofInt (5)).toInt = 5 from rfl]; exact Int.bmod_eq_of_le (by omega) (by omega)
  have hg := H.1
  have R0 := H.2
  refine XB_path (sc := some (Ls, xs)) (inl := []) (n := 80) (sp := [336]) (o := [0, 4]) (xin_ok rfl) (Or.inr rfl) rfl rfl (Nat.le_trans (Nat.le_of_eq hg.2.2.2.1) hN) (Nat.le_trans (Nat.le_of_eq hg.2.2.2.2) hU) ⟨⟨⟨⟨⟨trivial, (fun z => absurd (Int32.lt_iff_toInt_lt.mp z) (by omega))⟩, (vp_of (i := i) (n := Ls) (by omega) (by omega))⟩, ⟨hc, by decide⟩⟩, (vp_of (i := (i + (Int32.ofInt (1)))) (n := Ls) (by omega) (by omega))⟩, (vp_of (i := (i + (Int32.ofInt (2)))) (n := Ls) (by omega) (by omega))⟩ ?_
  show XB l Ls xs 14 538 false 288 N U F 336 [xf 50 1, xf 12 2, xf 13 104, xf 40001 152, xi i, x5, x6] [xi (xs ((i + (Int32.ofInt (2)))).toNatClampNeg), xi (xs ((i + (Int32.ofInt (1)))).toNatClampNeg), xf 12 2] h
  obtain ⟨Z0, Z1⟩ := id R0.2.2.2.2.2
  have B := (Z1.2.B hg.1).1
  obtain ⟨⟨B00, B01⟩, -, ⟨B20, B21⟩, -⟩ := B
  rcases Z1.1 with ⟨rr1, rr2, Z2⟩ | ⟨rr1, rr2, Z2⟩
  · obtain ⟨v1, cc1, s1⟩ := ck_named3 l ((xs ((i + (Int32.ofInt (1)))).toNatClampNeg)) ((xs ((i + (Int32.ofInt (2)))).toNatClampNeg)) (fun k => Z0 (100 + k)) (fun k => Z0 (170 + k)) (Z0 0).toNat (Z0 2).toNat h hg rr1 ((Z2.1.1 0 (by decide)).trans (by omega)) ((Z2.1.1 2 (by decide)).trans (by omega)) (by omega) (by omega) (fun k hk => Z2.1.2.2 0 k (by decide) (show (k : Int) < Z0 0 by omega)) (fun k hk => Z2.1.2.2 7 k (by decide) (show (k : Int) < Z0 2 by omega))
    refine XB_call (i := .invokevirtual 70) (aux := 3) (nx := 339) (K := 70) (vs := [xf 12 2, xi (xs ((i + (Int32.ofInt (1)))).toNatClampNeg), xi (xs ((i + (Int32.ofInt (2)))).toNatClampNeg)]) (rs := [xi v1]) (rest := []) rfl rfl rfl rfl rfl rfl cc1 (by decide) (by decide) (Nat.le_of_ble_eq_true rfl) ⟨Nat.le_trans (Nat.le_of_eq hg.2.2.2.1) hN, Nat.le_trans (Nat.le_of_eq hg.2.2.2.2) hU⟩ ?_
    show XB l Ls xs 14 538 false 288 N U F 339 [xf 50 1, xf 12 2, xf 13 104, xf 40001 152, xi i, x5, x6] [xi v1] h
    refine XB_path (sc := some (Ls, xs)) (inl := []) (n := 80) (sp := [352]) (o := []) (xin_ok rfl) (Or.inr rfl) rfl rfl (Nat.le_trans (Nat.le_of_eq hg.2.2.2.1) hN) (Nat.le_trans (Nat.le_of_eq hg.2.2.2.2) hU) ⟨⟨trivial, (vp_of (i := (i + (Int32.ofInt (1)))) (n := Ls) (by omega) (by omega))⟩, (vp_of (i := (i + (Int32.ofInt (2)))) (n := Ls) (by omega) (by omega))⟩ ?_
    show XB l Ls xs 14 538 false 288 N U F 352 [xf 50 1, xf 12 2, xf 13 104, xf 40001 152, xi i, x5, x6] [xi (xs ((i + (Int32.ofInt (2)))).toNatClampNeg), xi (xs ((i + (Int32.ofInt (1)))).toNatClampNeg), xf 13 104, xi v1] h
    obtain ⟨v2, h2, cc2, g2, s2⟩ := jk_named l ((xs ((i + (Int32.ofInt (1)))).toNatClampNeg)) ((xs ((i + (Int32.ofInt (2)))).toNatClampNeg)) (fun k => Z0 (100 + k)) (fun k => Z0 (170 + k)) (Z0 0).toNat (Z0 2).toNat h hg ((Z1.2.1 0 (by decide)).trans (by omega)) ((Z1.2.1 2 (by decide)).trans (by omega)) (by omega) (by omega) (fun k hk => Z1.2.2.2.1 0 k (by decide) (show (k : Int) < Z0 0 by omega)) (fun k hk => Z1.2.2.2.1 7 k (by decide) (show (k : Int) < Z0 2 by omega))
    refine XB_call (i := .invokevirtual 212) (aux := 3) (nx := 355) (K := 212) (vs := [xf 13 104, xi (xs ((i + (Int32.ofInt (1)))).toNatClampNeg), xi (xs ((i + (Int32.ofInt (2)))).toNatClampNeg)]) (rs := [xi v2]) (rest := [xi v1]) rfl rfl rfl rfl rfl rfl cc2 (by decide) (by decide) (Nat.le_of_ble_eq_true rfl) ⟨Nat.le_trans (Nat.le_of_eq g2.1.2.2.2.1) hN, Nat.le_trans (Nat.le_of_eq g2.1.2.2.2.2) hU⟩ ?_
    show XB l Ls xs 14 538 false 288 N U F 355 [xf 50 1, xf 12 2, xf 13 104, xf 40001 152, xi i, x5, x6] [xi v2, xi v1] h2
    have same : v1 = v2 := Int32.toInt_inj.mp (s1.trans s2.symm)
    have RT := R0.fr hg.1 g2.2 rfl rfl rfl
    refine XB_path (sc := some (Ls, xs)) (inl := []) (n := 80) (sp := [23]) (o := [1]) (xin_ok rfl) (Or.inr rfl) rfl rfl (Nat.le_trans (Nat.le_of_eq g2.1.2.2.2.1) hN) (Nat.le_trans (Nat.le_of_eq g2.1.2.2.2.2) hU) ⟨trivial, same⟩ ?_
    show XB l Ls xs 14 538 false 288 N U F 23 [xf 50 1, xf 12 2, xf 13 104, xf 40001 152, xi (i + Int32.ofInt (6)), x5, x6] [] h2
    exact k h2 (x5) (x6) ⟨g2.1, RT⟩
  · obtain ⟨v1, cc1, s1⟩ := ck_named24 l ((xs ((i + (Int32.ofInt (1)))).toNatClampNeg)) ((xs ((i + (Int32.ofInt (2)))).toNatClampNeg)) (fun k => Z0 (100 + k)) (fun k => Z0 (170 + k)) (Z0 0).toNat (Z0 2).toNat h hg rr1 ((Z2.1.1 0 (by decide)).trans (by omega)) ((Z2.1.1 2 (by decide)).trans (by omega)) (by omega) (by omega) (fun k hk => Z2.1.2.2 0 k (by decide) (show (k : Int) < Z0 0 by omega)) (fun k hk => Z2.1.2.2 7 k (by decide) (show (k : Int) < Z0 2 by omega))
    refine XB_call (i := .invokevirtual 70) (aux := 3) (nx := 339) (K := 70) (vs := [xf 12 2, xi (xs ((i + (Int32.ofInt (1)))).toNatClampNeg), xi (xs ((i + (Int32.ofInt (2)))).toNatClampNeg)]) (rs := [xi v1]) (rest := []) rfl rfl rfl rfl rfl rfl cc1 (by decide) (by decide) (Nat.le_of_ble_eq_true rfl) ⟨Nat.le_trans (Nat.le_of_eq hg.2.2.2.1) hN, Nat.le_trans (Nat.le_of_eq hg.2.2.2.2) hU⟩ ?_
    show XB l Ls xs 14 538 false 288 N U F 339 [xf 50 1, xf 12 2, xf 13 104, xf 40001 152, xi i, x5, x6] [xi v1] h
    refine XB_path (sc := some (Ls, xs)) (inl := []) (n := 80) (sp := [352]) (o := []) (xin_ok rfl) (Or.inr rfl) rfl rfl (Nat.le_trans (Nat.le_of_eq hg.2.2.2.1) hN) (Nat.le_trans (Nat.le_of_eq hg.2.2.2.2) hU) ⟨⟨trivial, (vp_of (i := (i + (Int32.ofInt (1)))) (n := Ls) (by omega) (by omega))⟩, (vp_of (i := (i + (Int32.ofInt (2)))) (n := Ls) (by omega) (by omega))⟩ ?_
    show XB l Ls xs 14 538 false 288 N U F 352 [xf 50 1, xf 12 2, xf 13 104, xf 40001 152, xi i, x5, x6] [xi (xs ((i + (Int32.ofInt (2)))).toNatClampNeg), xi (xs ((i + (Int32.ofInt (1)))).toNatClampNeg), xf 13 104, xi v1] h
    obtain ⟨v2, h2, cc2, g2, s2⟩ := jk_named l ((xs ((i + (Int32.ofInt (1)))).toNatClampNeg)) ((xs ((i + (Int32.ofInt (2)))).toNatClampNeg)) (fun k => Z0 (100 + k)) (fun k => Z0 (170 + k)) (Z0 0).toNat (Z0 2).toNat h hg ((Z1.2.1 0 (by decide)).trans (by omega)) ((Z1.2.1 2 (by decide)).trans (by omega)) (by omega) (by omega) (fun k hk => Z1.2.2.2.1 0 k (by decide) (show (k : Int) < Z0 0 by omega)) (fun k hk => Z1.2.2.2.1 7 k (by decide) (show (k : Int) < Z0 2 by omega))
    refine XB_call (i := .invokevirtual 212) (aux := 3) (nx := 355) (K := 212) (vs := [xf 13 104, xi (xs ((i + (Int32.ofInt (1)))).toNatClampNeg), xi (xs ((i + (Int32.ofInt (2)))).toNatClampNeg)]) (rs := [xi v2]) (rest := [xi v1]) rfl rfl rfl rfl rfl rfl cc2 (by decide) (by decide) (Nat.le_of_ble_eq_true rfl) ⟨Nat.le_trans (Nat.le_of_eq g2.1.2.2.2.1) hN, Nat.le_trans (Nat.le_of_eq g2.1.2.2.2.2) hU⟩ ?_
    show XB l Ls xs 14 538 false 288 N U F 355 [xf 50 1, xf 12 2, xf 13 104, xf 40001 152, xi i, x5, x6] [xi v2, xi v1] h2
    have same : v1 = v2 := Int32.toInt_inj.mp (s1.trans s2.symm)
    have RT := R0.fr hg.1 g2.2 rfl rfl rfl
    refine XB_path (sc := some (Ls, xs)) (inl := []) (n := 80) (sp := [23]) (o := [1]) (xin_ok rfl) (Or.inr rfl) rfl rfl (Nat.le_trans (Nat.le_of_eq g2.1.2.2.2.1) hN) (Nat.le_trans (Nat.le_of_eq g2.1.2.2.2.2) hU) ⟨trivial, same⟩ ?_
    show XB l Ls xs 14 538 false 288 N U F 23 [xf 50 1, xf 12 2, xf 13 104, xf 40001 152, xi (i + Int32.ofInt (6)), x5, x6] [] h2
    exact k h2 (x5) (x6) ⟨g2.1, RT⟩
set_option maxRecDepth 100000 in
set_option maxHeartbeats 4000000 in
theorem lw_c4 (l : Launch) (Ls : Nat) (xs : Nat → Int32) (N U : Nat) (F : List XV → XH → Prop) (i : Int32) (x5 x6 : XV) (h : XH) (H : vLw h) (i0 : 0 ≤ i.toInt) (i1 : i.toInt + 6 ≤ Ls) (hL : Ls ≤ 3072) (eL : (Int32.ofNat Ls - (Int32.ofInt (6))).toInt = Ls - 6) (hN : 153 ≤ N) (hU : 6051 ≤ U) (hc : (xs (i).toNatClampNeg &&& (Int32.ofInt (63))).toInt = 4) (k : ∀ h' x5' x6', vLw h' → XB l Ls xs 14 538 false 288 N U F 23 [xf 50 1, xf 12 2, xf 13 104, xf 40001 152, xi (i + (Int32.ofInt (6))), x5', x6'] [] h') : XB l Ls xs 14 538 false 288 (N + 1) (U + 6) F 23 [xf 50 1, xf 12 2, xf 13 104, xf 40001 152, xi i, x5, x6] [] h := by
  have e1 : (i + (Int32.ofInt (1))).toInt = i.toInt + 1 := by rw [Int32.toInt_add, show (Int32.ofInt (1)).toInt = 1 from rfl]; exact Int.bmod_eq_of_le (by omega) (by omega)
  have e2 : (i + (Int32.ofInt (2))).toInt = i.toInt + 2 := by rw [Int32.toInt_add, show (Int32.ofInt (2)).toInt = 2 from rfl]; exact Int.bmod_eq_of_le (by omega) (by omega)
  have e3 : (i + (Int32.ofInt (3))).toInt = i.toInt + 3 := by rw [Int32.toInt_add, show (Int32.ofInt (3)).toInt = 3 from rfl]; exact Int.bmod_eq_of_le (by omega) (by omega)
  have e4 : (i + (Int32.ofInt (4))).toInt = i.toInt + 4 := by rw [Int32.toInt_add, show (Int32.ofInt (4)).toInt = 4 from rfl]; exact Int.bmod_eq_of_le (by omega) (by omega)
  have e5 : (i + (Int32.ofInt (5))).toInt = i.toInt + 5 := by rw [Int32.toInt_add, show (Int32.ofInt (5)).toInt = 5 from rfl]; exact Int.bmod_eq_of_le (by omega) (by omega)
  have hg := H.1
  have R0 := H.2
  have hN1 : 153 ≤ N + 1 := by omega
  have hU1 : 6051 ≤ U + 6 := by omega
  refine XB_path (sc := some (Ls, xs)) (inl := []) (n := 80) (sp := [374]) (o := [0, 5]) (xin_ok rfl) (Or.inr rfl) rfl rfl (Nat.le_trans (Nat.le_of_eq hg.2.2.2.1) hN1) (Nat.le_trans (Nat.le_of_eq hg.2.2.2.2) hU1) ⟨⟨⟨⟨⟨trivial, (fun z => absurd (Int32.lt_iff_toInt_lt.mp z) (by omega))⟩, (vp_of (i := i) (n := Ls) (by omega) (by omega))⟩, ⟨hc, by decide⟩⟩, (vp_of (i := (i + (Int32.ofInt (1)))) (n := Ls) (by omega) (by omega))⟩, (vp_of (i := (i + (Int32.ofInt (2)))) (n := Ls) (by omega) (by omega))⟩ ?_
  show XB l Ls xs 14 538 false 288 (N + 1) (U + 6) F 374 [xf 50 1, xf 12 2, xf 13 104, xf 40001 152, xi i, x5, x6] [xf 40001 152, xi (xs ((i + (Int32.ofInt (2)))).toNatClampNeg), xi (xs ((i + (Int32.ofInt (1)))).toNatClampNeg), xf 12 2] h
  obtain ⟨r, h1, X1, gp, M1⟩ := vh_lperson l (xs ((i + (Int32.ofInt (1)))).toNatClampNeg) (xs ((i + (Int32.ofInt (2)))).toNatClampNeg) h hg
  refine XB_person (N' := N) (U' := U) (r := r) (h' := h1) X1 ⟨gp.1.2.2.2.1.trans hg.2.2.2.1.symm, gp.1.2.2.2.2.trans hg.2.2.2.2.symm⟩ rfl ⟨Nat.le_refl _, Nat.le_refl _⟩ ⟨Nat.le_trans (Nat.le_of_eq hg.2.2.2.1) hN, Nat.le_trans (Nat.le_of_eq hg.2.2.2.2) hU⟩ M1 ?_
  show XB l Ls xs 14 538 false 288 N U F 377 [xf 50 1, xf 12 2, xf 13 104, xf 40001 152, xi i, x5, x6] [xi r] h1
  have RP := R0.fr hg.1 gp.2 rfl rfl rfl
  refine XB_path (sc := some (Ls, xs)) (inl := []) (n := 80) (sp := [392]) (o := []) (xin_ok rfl) (Or.inr rfl) rfl rfl (Nat.le_trans (Nat.le_of_eq gp.1.2.2.2.1) hN) (Nat.le_trans (Nat.le_of_eq gp.1.2.2.2.2) hU) ⟨⟨trivial, (vp_of (i := (i + (Int32.ofInt (1)))) (n := Ls) (by omega) (by omega))⟩, (vp_of (i := (i + (Int32.ofInt (2)))) (n := Ls) (by omega) (by omega))⟩ ?_
  show XB l Ls xs 14 538 false 288 N U F 392 [xf 50 1, xf 12 2, xf 13 104, xf 40001 152, xi i, xi r, x6] [xi (xs ((i + (Int32.ofInt (2)))).toNatClampNeg), xi (xs ((i + (Int32.ofInt (1)))).toNatClampNeg), xf 13 104] h1
  obtain ⟨v1, h2, cc1, g1, f1, -⟩ := vl_213 l ((xs ((i + (Int32.ofInt (1)))).toNatClampNeg)) ((xs ((i + (Int32.ofInt (2)))).toNatClampNeg)) h1 gp.1 (i32r_of _) (i32r_of _)
  refine XB_call (i := .invokevirtual 213) (aux := 3) (nx := 395) (K := 213) (vs := [xf 13 104, xi (xs ((i + (Int32.ofInt (1)))).toNatClampNeg), xi (xs ((i + (Int32.ofInt (2)))).toNatClampNeg)]) (rs := [xi v1]) (rest := []) rfl rfl rfl rfl rfl rfl cc1 (by decide) (by decide) (Nat.le_of_ble_eq_true rfl) ⟨Nat.le_trans (Nat.le_of_eq g1.2.2.2.1) hN, Nat.le_trans (Nat.le_of_eq g1.2.2.2.2) hU⟩ ?_
  show XB l Ls xs 14 538 false 288 N U F 395 [xf 50 1, xf 12 2, xf 13 104, xf 40001 152, xi i, xi r, x6] [xi v1] h2
  have R1 := RP.fr gp.1.1 f1 rfl rfl rfl
  refine XB_path (sc := some (Ls, xs)) (inl := []) (n := 80) (sp := [23]) (o := []) (xin_ok rfl) (Or.inr rfl) rfl rfl (Nat.le_trans (Nat.le_of_eq g1.2.2.2.1) hN) (Nat.le_trans (Nat.le_of_eq g1.2.2.2.2) hU) trivial ?_
  show XB l Ls xs 14 538 false 288 N U F 23 [xf 50 1, xf 12 2, xf 13 104, xf 40001 152, xi (i + Int32.ofInt (6)), xi r, xi v1] [] h2
  exact k h2 (xi r) (xi v1) ⟨g1, R1⟩
set_option maxRecDepth 100000 in
set_option maxHeartbeats 4000000 in
theorem lw_c5 (l : Launch) (Ls : Nat) (xs : Nat → Int32) (N U : Nat) (F : List XV → XH → Prop) (i : Int32) (x5 x6 : XV) (h : XH) (H : vLw h) (i0 : 0 ≤ i.toInt) (i1 : i.toInt + 6 ≤ Ls) (hL : Ls ≤ 3072) (eL : (Int32.ofNat Ls - (Int32.ofInt (6))).toInt = Ls - 6) (hN : 153 ≤ N) (hU : 6051 ≤ U) (hc : (xs (i).toNatClampNeg &&& (Int32.ofInt (63))).toInt = 5) (k : ∀ h' x5' x6', vLw h' → XB l Ls xs 14 538 false 288 N U F 23 [xf 50 1, xf 12 2, xf 13 104, xf 40001 152, xi (i + (Int32.ofInt (6))), x5', x6'] [] h') : XB l Ls xs 14 538 false 288 N U F 23 [xf 50 1, xf 12 2, xf 13 104, xf 40001 152, xi i, x5, x6] [] h := by
  have e1 : (i + (Int32.ofInt (1))).toInt = i.toInt + 1 := by rw [Int32.toInt_add, show (Int32.ofInt (1)).toInt = 1 from rfl]; exact Int.bmod_eq_of_le (by omega) (by omega)
  have e2 : (i + (Int32.ofInt (2))).toInt = i.toInt + 2 := by rw [Int32.toInt_add, show (Int32.ofInt (2)).toInt = 2 from rfl]; exact Int.bmod_eq_of_le (by omega) (by omega)
  have e3 : (i + (Int32.ofInt (3))).toInt = i.toInt + 3 := by rw [Int32.toInt_add, show (Int32.ofInt (3)).toInt = 3 from rfl]; exact Int.bmod_eq_of_le (by omega) (by omega)
  have e4 : (i + (Int32.ofInt (4))).toInt = i.toInt + 4 := by rw [Int32.toInt_add, show (Int32.ofInt (4)).toInt = 4 from rfl]; exact Int.bmod_eq_of_le (by omega) (by omega)
  have e5 : (i + (Int32.ofInt (5))).toInt = i.toInt + 5 := by rw [Int32.toInt_add, show (Int32.ofInt (5)).toInt = 5 from rfl]; exact Int.bmod_eq_of_le (by omega) (by omega)
  have hg := H.1
  have R0 := H.2
  refine XB_path (sc := some (Ls, xs)) (inl := []) (n := 80) (sp := [413]) (o := [0, 6]) (xin_ok rfl) (Or.inr rfl) rfl rfl (Nat.le_trans (Nat.le_of_eq hg.2.2.2.1) hN) (Nat.le_trans (Nat.le_of_eq hg.2.2.2.2) hU) ⟨⟨⟨⟨⟨trivial, (fun z => absurd (Int32.lt_iff_toInt_lt.mp z) (by omega))⟩, (vp_of (i := i) (n := Ls) (by omega) (by omega))⟩, ⟨hc, by decide⟩⟩, (vp_of (i := (i + (Int32.ofInt (1)))) (n := Ls) (by omega) (by omega))⟩, (vp_of (i := (i + (Int32.ofInt (2)))) (n := Ls) (by omega) (by omega))⟩ ?_
  show XB l Ls xs 14 538 false 288 N U F 413 [xf 50 1, xf 12 2, xf 13 104, xf 40001 152, xi i, x5, x6] [xi (xs ((i + (Int32.ofInt (2)))).toNatClampNeg), xi (xs ((i + (Int32.ofInt (1)))).toNatClampNeg), xf 12 2] h
  obtain ⟨v1, h1, cc1, g1, f1, -⟩ := vl_71 l ((xs ((i + (Int32.ofInt (1)))).toNatClampNeg)) ((xs ((i + (Int32.ofInt (2)))).toNatClampNeg)) h hg (i32r_of _) (i32r_of _)
  refine XB_call (i := .invokevirtual 71) (aux := 3) (nx := 416) (K := 71) (vs := [xf 12 2, xi (xs ((i + (Int32.ofInt (1)))).toNatClampNeg), xi (xs ((i + (Int32.ofInt (2)))).toNatClampNeg)]) (rs := [xi v1]) (rest := []) rfl rfl rfl rfl rfl rfl cc1 (by decide) (by decide) (Nat.le_of_ble_eq_true rfl) ⟨Nat.le_trans (Nat.le_of_eq g1.2.2.2.1) hN, Nat.le_trans (Nat.le_of_eq g1.2.2.2.2) hU⟩ ?_
  show XB l Ls xs 14 538 false 288 N U F 416 [xf 50 1, xf 12 2, xf 13 104, xf 40001 152, xi i, x5, x6] [xi v1] h1
  have R1 := R0.fr hg.1 f1 rfl rfl rfl
  refine XB_path (sc := some (Ls, xs)) (inl := []) (n := 80) (sp := [430]) (o := []) (xin_ok rfl) (Or.inr rfl) rfl rfl (Nat.le_trans (Nat.le_of_eq g1.2.2.2.1) hN) (Nat.le_trans (Nat.le_of_eq g1.2.2.2.2) hU) ⟨⟨trivial, (vp_of (i := (i + (Int32.ofInt (1)))) (n := Ls) (by omega) (by omega))⟩, (vp_of (i := (i + (Int32.ofInt (2)))) (n := Ls) (by omega) (by omega))⟩ ?_
  show XB l Ls xs 14 538 false 288 N U F 430 [xf 50 1, xf 12 2, xf 13 104, xf 40001 152, xi i, x5, x6] [xi (xs ((i + (Int32.ofInt (2)))).toNatClampNeg), xi (xs ((i + (Int32.ofInt (1)))).toNatClampNeg), xf 13 104] h1
  obtain ⟨v2, h2, cc2, g2, f2, -⟩ := vl_230 l ((xs ((i + (Int32.ofInt (1)))).toNatClampNeg)) ((xs ((i + (Int32.ofInt (2)))).toNatClampNeg)) h1 g1 (i32r_of _) (i32r_of _)
  refine XB_call (i := .invokevirtual 230) (aux := 3) (nx := 433) (K := 230) (vs := [xf 13 104, xi (xs ((i + (Int32.ofInt (1)))).toNatClampNeg), xi (xs ((i + (Int32.ofInt (2)))).toNatClampNeg)]) (rs := [xi v2]) (rest := []) rfl rfl rfl rfl rfl rfl cc2 (by decide) (by decide) (Nat.le_of_ble_eq_true rfl) ⟨Nat.le_trans (Nat.le_of_eq g2.2.2.2.1) hN, Nat.le_trans (Nat.le_of_eq g2.2.2.2.2) hU⟩ ?_
  show XB l Ls xs 14 538 false 288 N U F 433 [xf 50 1, xf 12 2, xf 13 104, xf 40001 152, xi i, x5, x6] [xi v2] h2
  have R2 := R1.fr g1.1 f2 rfl rfl rfl
  refine XB_path (sc := some (Ls, xs)) (inl := []) (n := 80) (sp := [23]) (o := []) (xin_ok rfl) (Or.inr rfl) rfl rfl (Nat.le_trans (Nat.le_of_eq g2.2.2.2.1) hN) (Nat.le_trans (Nat.le_of_eq g2.2.2.2.2) hU) trivial ?_
  show XB l Ls xs 14 538 false 288 N U F 23 [xf 50 1, xf 12 2, xf 13 104, xf 40001 152, xi (i + Int32.ofInt (6)), x5, x6] [] h2
  exact k h2 (x5) (x6) ⟨g2, R2⟩
set_option maxRecDepth 100000 in
set_option maxHeartbeats 4000000 in
theorem lw_c6 (l : Launch) (Ls : Nat) (xs : Nat → Int32) (N U : Nat) (F : List XV → XH → Prop) (i : Int32) (x5 x6 : XV) (h : XH) (H : vLw h) (i0 : 0 ≤ i.toInt) (i1 : i.toInt + 6 ≤ Ls) (hL : Ls ≤ 3072) (eL : (Int32.ofNat Ls - (Int32.ofInt (6))).toInt = Ls - 6) (hN : 153 ≤ N) (hU : 6051 ≤ U) (hc : (xs (i).toNatClampNeg &&& (Int32.ofInt (63))).toInt = 6) (k : ∀ h' x5' x6', vLw h' → XB l Ls xs 14 538 false 288 N U F 23 [xf 50 1, xf 12 2, xf 13 104, xf 40001 152, xi (i + (Int32.ofInt (6))), x5', x6'] [] h') : XB l Ls xs 14 538 false 288 N U F 23 [xf 50 1, xf 12 2, xf 13 104, xf 40001 152, xi i, x5, x6] [] h := by
  have e1 : (i + (Int32.ofInt (1))).toInt = i.toInt + 1 := by rw [Int32.toInt_add, show (Int32.ofInt (1)).toInt = 1 from rfl]; exact Int.bmod_eq_of_le (by omega) (by omega)
  have e2 : (i + (Int32.ofInt (2))).toInt = i.toInt + 2 := by rw [Int32.toInt_add, show (Int32.ofInt (2)).toInt = 2 from rfl]; exact Int.bmod_eq_of_le (by omega) (by omega)
  have e3 : (i + (Int32.ofInt (3))).toInt = i.toInt + 3 := by rw [Int32.toInt_add, show (Int32.ofInt (3)).toInt = 3 from rfl]; exact Int.bmod_eq_of_le (by omega) (by omega)
  have e4 : (i + (Int32.ofInt (4))).toInt = i.toInt + 4 := by rw [Int32.toInt_add, show (Int32.ofInt (4)).toInt = 4 from rfl]; exact Int.bmod_eq_of_le (by omega) (by omega)
  have e5 : (i + (Int32.ofInt (5))).toInt = i.toInt + 5 := by rw [Int32.toInt_add, show (Int32.ofInt (5)).toInt = 5 from rfl]; exact Int.bmod_eq_of_le (by omega) (by omega)
  have hg := H.1
  have R0 := H.2
  refine XB_path (sc := some (Ls, xs)) (inl := []) (n := 80) (sp := [456]) (o := [0, 7]) (xin_ok rfl) (Or.inr rfl) rfl rfl (Nat.le_trans (Nat.le_of_eq hg.2.2.2.1) hN) (Nat.le_trans (Nat.le_of_eq hg.2.2.2.2) hU) ⟨⟨⟨⟨⟨⟨trivial, (fun z => absurd (Int32.lt_iff_toInt_lt.mp z) (by omega))⟩, (vp_of (i := i) (n := Ls) (by omega) (by omega))⟩, ⟨hc, by decide⟩⟩, (vp_of (i := (i + (Int32.ofInt (1)))) (n := Ls) (by omega) (by omega))⟩, (vp_of (i := (i + (Int32.ofInt (2)))) (n := Ls) (by omega) (by omega))⟩, (vp_of (i := (i + (Int32.ofInt (3)))) (n := Ls) (by omega) (by omega))⟩ ?_
  show XB l Ls xs 14 538 false 288 N U F 456 [xf 50 1, xf 12 2, xf 13 104, xf 40001 152, xi i, x5, x6] [xi (xs ((i + (Int32.ofInt (3)))).toNatClampNeg), xi (xs ((i + (Int32.ofInt (2)))).toNatClampNeg), xi (xs ((i + (Int32.ofInt (1)))).toNatClampNeg), xf 12 2] h
  obtain ⟨v1, h1, cc1, g1, f1, -⟩ := vl_83 l ((xs ((i + (Int32.ofInt (1)))).toNatClampNeg)) ((xs ((i + (Int32.ofInt (2)))).toNatClampNeg)) ((xs ((i + (Int32.ofInt (3)))).toNatClampNeg)) h hg (i32r_of _) (i32r_of _) (i32r_of _)
  refine XB_call (i := .invokevirtual 83) (aux := 4) (nx := 459) (K := 83) (vs := [xf 12 2, xi (xs ((i + (Int32.ofInt (1)))).toNatClampNeg), xi (xs ((i + (Int32.ofInt (2)))).toNatClampNeg), xi (xs ((i + (Int32.ofInt (3)))).toNatClampNeg)]) (rs := [xi v1]) (rest := []) rfl rfl rfl rfl rfl rfl cc1 (by decide) (by decide) (Nat.le_of_ble_eq_true rfl) ⟨Nat.le_trans (Nat.le_of_eq g1.2.2.2.1) hN, Nat.le_trans (Nat.le_of_eq g1.2.2.2.2) hU⟩ ?_
  show XB l Ls xs 14 538 false 288 N U F 459 [xf 50 1, xf 12 2, xf 13 104, xf 40001 152, xi i, x5, x6] [xi v1] h1
  have R1 := R0.fr hg.1 f1 rfl rfl rfl
  refine XB_path (sc := some (Ls, xs)) (inl := []) (n := 80) (sp := [479]) (o := []) (xin_ok rfl) (Or.inr rfl) rfl rfl (Nat.le_trans (Nat.le_of_eq g1.2.2.2.1) hN) (Nat.le_trans (Nat.le_of_eq g1.2.2.2.2) hU) ⟨⟨⟨trivial, (vp_of (i := (i + (Int32.ofInt (1)))) (n := Ls) (by omega) (by omega))⟩, (vp_of (i := (i + (Int32.ofInt (2)))) (n := Ls) (by omega) (by omega))⟩, (vp_of (i := (i + (Int32.ofInt (3)))) (n := Ls) (by omega) (by omega))⟩ ?_
  show XB l Ls xs 14 538 false 288 N U F 479 [xf 50 1, xf 12 2, xf 13 104, xf 40001 152, xi i, x5, x6] [xi (xs ((i + (Int32.ofInt (3)))).toNatClampNeg), xi (xs ((i + (Int32.ofInt (2)))).toNatClampNeg), xi (xs ((i + (Int32.ofInt (1)))).toNatClampNeg), xf 13 104] h1
  obtain ⟨v2, h2, cc2, g2, f2, -⟩ := vl_235 l ((xs ((i + (Int32.ofInt (1)))).toNatClampNeg)) ((xs ((i + (Int32.ofInt (2)))).toNatClampNeg)) ((xs ((i + (Int32.ofInt (3)))).toNatClampNeg)) h1 g1 (i32r_of _) (i32r_of _) (i32r_of _)
  refine XB_call (i := .invokevirtual 235) (aux := 4) (nx := 482) (K := 235) (vs := [xf 13 104, xi (xs ((i + (Int32.ofInt (1)))).toNatClampNeg), xi (xs ((i + (Int32.ofInt (2)))).toNatClampNeg), xi (xs ((i + (Int32.ofInt (3)))).toNatClampNeg)]) (rs := [xi v2]) (rest := []) rfl rfl rfl rfl rfl rfl cc2 (by decide) (by decide) (Nat.le_of_ble_eq_true rfl) ⟨Nat.le_trans (Nat.le_of_eq g2.2.2.2.1) hN, Nat.le_trans (Nat.le_of_eq g2.2.2.2.2) hU⟩ ?_
  show XB l Ls xs 14 538 false 288 N U F 482 [xf 50 1, xf 12 2, xf 13 104, xf 40001 152, xi i, x5, x6] [xi v2] h2
  have R2 := R1.fr g1.1 f2 rfl rfl rfl
  refine XB_path (sc := some (Ls, xs)) (inl := []) (n := 80) (sp := [23]) (o := []) (xin_ok rfl) (Or.inr rfl) rfl rfl (Nat.le_trans (Nat.le_of_eq g2.2.2.2.1) hN) (Nat.le_trans (Nat.le_of_eq g2.2.2.2.2) hU) trivial ?_
  show XB l Ls xs 14 538 false 288 N U F 23 [xf 50 1, xf 12 2, xf 13 104, xf 40001 152, xi (i + Int32.ofInt (6)), x5, x6] [] h2
  exact k h2 (x5) (x6) ⟨g2, R2⟩
set_option maxRecDepth 100000 in
set_option maxHeartbeats 4000000 in
theorem lw_c7 (l : Launch) (Ls : Nat) (xs : Nat → Int32) (N U : Nat) (F : List XV → XH → Prop) (i : Int32) (x5 x6 : XV) (h : XH) (H : vLw h) (i0 : 0 ≤ i.toInt) (i1 : i.toInt + 6 ≤ Ls) (hL : Ls ≤ 3072) (eL : (Int32.ofNat Ls - (Int32.ofInt (6))).toInt = Ls - 6) (hN : 153 ≤ N) (hU : 6051 ≤ U) (hc : (xs (i).toNatClampNeg &&& (Int32.ofInt (63))).toInt = 7) (k : ∀ h' x5' x6', vLw h' → XB l Ls xs 14 538 false 288 N U F 23 [xf 50 1, xf 12 2, xf 13 104, xf 40001 152, xi (i + (Int32.ofInt (6))), x5', x6'] [] h') : XB l Ls xs 14 538 false 288 N U F 23 [xf 50 1, xf 12 2, xf 13 104, xf 40001 152, xi i, x5, x6] [] h := by
  have e1 : (i + (Int32.ofInt (1))).toInt = i.toInt + 1 := by rw [Int32.toInt_add, show (Int32.ofInt (1)).toInt = 1 from rfl]; exact Int.bmod_eq_of_le (by omega) (by omega)
  have e2 : (i + (Int32.ofInt (2))).toInt = i.toInt + 2 := by rw [Int32.toInt_add, show (Int32.ofInt (2)).toInt = 2 from rfl]; exact Int.bmod_eq_of_le (by omega) (by omega)
  have e3 : (i + (Int32.ofInt (3))).toInt = i.toInt + 3 := by rw [Int32.toInt_add, show (Int32.ofInt (3)).toInt = 3 from rfl]; exact Int.bmod_eq_of_le (by omega) (by omega)
  have e4 : (i + (Int32.ofInt (4))).toInt = i.toInt + 4 := by rw [Int32.toInt_add, show (Int32.ofInt (4)).toInt = 4 from rfl]; exact Int.bmod_eq_of_le (by omega) (by omega)
  have e5 : (i + (Int32.ofInt (5))).toInt = i.toInt + 5 := by rw [Int32.toInt_add, show (Int32.ofInt (5)).toInt = 5 from rfl]; exact Int.bmod_eq_of_le (by omega) (by omega)
  have hg := H.1
  have R0 := H.2
  refine XB_path (sc := some (Ls, xs)) (inl := []) (n := 80) (sp := [499]) (o := [0, 8]) (xin_ok rfl) (Or.inr rfl) rfl rfl (Nat.le_trans (Nat.le_of_eq hg.2.2.2.1) hN) (Nat.le_trans (Nat.le_of_eq hg.2.2.2.2) hU) ⟨⟨⟨⟨⟨trivial, (fun z => absurd (Int32.lt_iff_toInt_lt.mp z) (by omega))⟩, (vp_of (i := i) (n := Ls) (by omega) (by omega))⟩, ⟨hc, by decide⟩⟩, (vp_of (i := (i + (Int32.ofInt (1)))) (n := Ls) (by omega) (by omega))⟩, (vp_of (i := (i + (Int32.ofInt (2)))) (n := Ls) (by omega) (by omega))⟩ ?_
  show XB l Ls xs 14 538 false 288 N U F 499 [xf 50 1, xf 12 2, xf 13 104, xf 40001 152, xi i, x5, x6] [xi (xs ((i + (Int32.ofInt (2)))).toNatClampNeg), xi (xs ((i + (Int32.ofInt (1)))).toNatClampNeg), xf 12 2] h
  obtain ⟨v1, h1, cc1, g1, f1, -⟩ := vl_84 l ((xs ((i + (Int32.ofInt (1)))).toNatClampNeg)) ((xs ((i + (Int32.ofInt (2)))).toNatClampNeg)) h hg (i32r_of _) (i32r_of _)
  refine XB_call (i := .invokevirtual 84) (aux := 3) (nx := 502) (K := 84) (vs := [xf 12 2, xi (xs ((i + (Int32.ofInt (1)))).toNatClampNeg), xi (xs ((i + (Int32.ofInt (2)))).toNatClampNeg)]) (rs := [xi v1]) (rest := []) rfl rfl rfl rfl rfl rfl cc1 (by decide) (by decide) (Nat.le_of_ble_eq_true rfl) ⟨Nat.le_trans (Nat.le_of_eq g1.2.2.2.1) hN, Nat.le_trans (Nat.le_of_eq g1.2.2.2.2) hU⟩ ?_
  show XB l Ls xs 14 538 false 288 N U F 502 [xf 50 1, xf 12 2, xf 13 104, xf 40001 152, xi i, x5, x6] [xi v1] h1
  have R1 := R0.fr hg.1 f1 rfl rfl rfl
  refine XB_path (sc := some (Ls, xs)) (inl := []) (n := 80) (sp := [516]) (o := []) (xin_ok rfl) (Or.inr rfl) rfl rfl (Nat.le_trans (Nat.le_of_eq g1.2.2.2.1) hN) (Nat.le_trans (Nat.le_of_eq g1.2.2.2.2) hU) ⟨⟨trivial, (vp_of (i := (i + (Int32.ofInt (1)))) (n := Ls) (by omega) (by omega))⟩, (vp_of (i := (i + (Int32.ofInt (2)))) (n := Ls) (by omega) (by omega))⟩ ?_
  show XB l Ls xs 14 538 false 288 N U F 516 [xf 50 1, xf 12 2, xf 13 104, xf 40001 152, xi i, x5, x6] [xi (xs ((i + (Int32.ofInt (2)))).toNatClampNeg), xi (xs ((i + (Int32.ofInt (1)))).toNatClampNeg), xf 13 104] h1
  obtain ⟨v2, h2, cc2, g2, f2, -⟩ := vl_236 l ((xs ((i + (Int32.ofInt (1)))).toNatClampNeg)) ((xs ((i + (Int32.ofInt (2)))).toNatClampNeg)) h1 g1 (i32r_of _) (i32r_of _)
  refine XB_call (i := .invokevirtual 236) (aux := 3) (nx := 519) (K := 236) (vs := [xf 13 104, xi (xs ((i + (Int32.ofInt (1)))).toNatClampNeg), xi (xs ((i + (Int32.ofInt (2)))).toNatClampNeg)]) (rs := [xi v2]) (rest := []) rfl rfl rfl rfl rfl rfl cc2 (by decide) (by decide) (Nat.le_of_ble_eq_true rfl) ⟨Nat.le_trans (Nat.le_of_eq g2.2.2.2.1) hN, Nat.le_trans (Nat.le_of_eq g2.2.2.2.2) hU⟩ ?_
  show XB l Ls xs 14 538 false 288 N U F 519 [xf 50 1, xf 12 2, xf 13 104, xf 40001 152, xi i, x5, x6] [xi v2] h2
  have R2 := R1.fr g1.1 f2 rfl rfl rfl
  refine XB_path (sc := some (Ls, xs)) (inl := []) (n := 80) (sp := [23]) (o := []) (xin_ok rfl) (Or.inr rfl) rfl rfl (Nat.le_trans (Nat.le_of_eq g2.2.2.2.1) hN) (Nat.le_trans (Nat.le_of_eq g2.2.2.2.2) hU) trivial ?_
  show XB l Ls xs 14 538 false 288 N U F 23 [xf 50 1, xf 12 2, xf 13 104, xf 40001 152, xi (i + Int32.ofInt (6)), x5, x6] [] h2
  exact k h2 (x5) (x6) ⟨g2, R2⟩
set_option maxRecDepth 100000 in
set_option maxHeartbeats 4000000 in
theorem lw_c8 (l : Launch) (Ls : Nat) (xs : Nat → Int32) (N U : Nat) (F : List XV → XH → Prop) (i : Int32) (x5 x6 : XV) (h : XH) (H : vLw h) (i0 : 0 ≤ i.toInt) (i1 : i.toInt + 6 ≤ Ls) (hL : Ls ≤ 3072) (eL : (Int32.ofNat Ls - (Int32.ofInt (6))).toInt = Ls - 6) (hN : 153 ≤ N) (hU : 6051 ≤ U) (hc : (xs (i).toNatClampNeg &&& (Int32.ofInt (63))).toInt = 8) (k : ∀ h' x5' x6', vLw h' → XB l Ls xs 14 538 false 288 N U F 23 [xf 50 1, xf 12 2, xf 13 104, xf 40001 152, xi (i + (Int32.ofInt (6))), x5', x6'] [] h') : XB l Ls xs 14 538 false 288 N U F 23 [xf 50 1, xf 12 2, xf 13 104, xf 40001 152, xi i, x5, x6] [] h := by
  have e1 : (i + (Int32.ofInt (1))).toInt = i.toInt + 1 := by rw [Int32.toInt_add, show (Int32.ofInt (1)).toInt = 1 from rfl]; exact Int.bmod_eq_of_le (by omega) (by omega)
  have e2 : (i + (Int32.ofInt (2))).toInt = i.toInt + 2 := by rw [Int32.toInt_add, show (Int32.ofInt (2)).toInt = 2 from rfl]; exact Int.bmod_eq_of_le (by omega) (by omega)
  have e3 : (i + (Int32.ofInt (3))).toInt = i.toInt + 3 := by rw [Int32.toInt_add, show (Int32.ofInt (3)).toInt = 3 from rfl]; exact Int.bmod_eq_of_le (by omega) (by omega)
  have e4 : (i + (Int32.ofInt (4))).toInt = i.toInt + 4 := by rw [Int32.toInt_add, show (Int32.ofInt (4)).toInt = 4 from rfl]; exact Int.bmod_eq_of_le (by omega) (by omega)
  have e5 : (i + (Int32.ofInt (5))).toInt = i.toInt + 5 := by rw [Int32.toInt_add, show (Int32.ofInt (5)).toInt = 5 from rfl]; exact Int.bmod_eq_of_le (by omega) (by omega)
  have hg := H.1
  have R0 := H.2
  refine XB_path (sc := some (Ls, xs)) (inl := []) (n := 80) (sp := [536]) (o := [0, 9]) (xin_ok rfl) (Or.inr rfl) rfl rfl (Nat.le_trans (Nat.le_of_eq hg.2.2.2.1) hN) (Nat.le_trans (Nat.le_of_eq hg.2.2.2.2) hU) ⟨⟨⟨⟨⟨trivial, (fun z => absurd (Int32.lt_iff_toInt_lt.mp z) (by omega))⟩, (vp_of (i := i) (n := Ls) (by omega) (by omega))⟩, ⟨hc, by decide⟩⟩, (vp_of (i := (i + (Int32.ofInt (1)))) (n := Ls) (by omega) (by omega))⟩, (vp_of (i := (i + (Int32.ofInt (2)))) (n := Ls) (by omega) (by omega))⟩ ?_
  show XB l Ls xs 14 538 false 288 N U F 536 [xf 50 1, xf 12 2, xf 13 104, xf 40001 152, xi i, x5, x6] [xi (xs ((i + (Int32.ofInt (2)))).toNatClampNeg), xi (xs ((i + (Int32.ofInt (1)))).toNatClampNeg), xf 12 2] h
  obtain ⟨v1, h1, cc1, g1, f1, -⟩ := vl_87 l ((xs ((i + (Int32.ofInt (1)))).toNatClampNeg)) ((xs ((i + (Int32.ofInt (2)))).toNatClampNeg)) h hg (i32r_of _) (i32r_of _)
  refine XB_call (i := .invokevirtual 87) (aux := 3) (nx := 539) (K := 87) (vs := [xf 12 2, xi (xs ((i + (Int32.ofInt (1)))).toNatClampNeg), xi (xs ((i + (Int32.ofInt (2)))).toNatClampNeg)]) (rs := [xl v1]) (rest := []) rfl rfl rfl rfl rfl rfl cc1 (by decide) (by decide) (Nat.le_of_ble_eq_true rfl) ⟨Nat.le_trans (Nat.le_of_eq g1.2.2.2.1) hN, Nat.le_trans (Nat.le_of_eq g1.2.2.2.2) hU⟩ ?_
  show XB l Ls xs 14 538 false 288 N U F 539 [xf 50 1, xf 12 2, xf 13 104, xf 40001 152, xi i, x5, x6] [xl v1] h1
  have R1 := R0.fr hg.1 f1 rfl rfl rfl
  refine XB_pop2 (aux := 0) (nx := 540) rfl ?_
  show XB l Ls xs 14 538 false 288 N U F 540 [xf 50 1, xf 12 2, xf 13 104, xf 40001 152, xi i, x5, x6] [] h1
  refine XB_path (sc := some (Ls, xs)) (inl := []) (n := 80) (sp := [553]) (o := []) (xin_ok rfl) (Or.inr rfl) rfl rfl (Nat.le_trans (Nat.le_of_eq g1.2.2.2.1) hN) (Nat.le_trans (Nat.le_of_eq g1.2.2.2.2) hU) ⟨⟨trivial, (vp_of (i := (i + (Int32.ofInt (1)))) (n := Ls) (by omega) (by omega))⟩, (vp_of (i := (i + (Int32.ofInt (2)))) (n := Ls) (by omega) (by omega))⟩ ?_
  show XB l Ls xs 14 538 false 288 N U F 553 [xf 50 1, xf 12 2, xf 13 104, xf 40001 152, xi i, x5, x6] [xi (xs ((i + (Int32.ofInt (2)))).toNatClampNeg), xi (xs ((i + (Int32.ofInt (1)))).toNatClampNeg), xf 13 104] h1
  obtain ⟨v2, h2, cc2, g2, f2, -⟩ := vl_237 l ((xs ((i + (Int32.ofInt (1)))).toNatClampNeg)) ((xs ((i + (Int32.ofInt (2)))).toNatClampNeg)) h1 g1 (i32r_of _) (i32r_of _)
  refine XB_call (i := .invokevirtual 237) (aux := 3) (nx := 556) (K := 237) (vs := [xf 13 104, xi (xs ((i + (Int32.ofInt (1)))).toNatClampNeg), xi (xs ((i + (Int32.ofInt (2)))).toNatClampNeg)]) (rs := [xl v2]) (rest := []) rfl rfl rfl rfl rfl rfl cc2 (by decide) (by decide) (Nat.le_of_ble_eq_true rfl) ⟨Nat.le_trans (Nat.le_of_eq g2.2.2.2.1) hN, Nat.le_trans (Nat.le_of_eq g2.2.2.2.2) hU⟩ ?_
  show XB l Ls xs 14 538 false 288 N U F 556 [xf 50 1, xf 12 2, xf 13 104, xf 40001 152, xi i, x5, x6] [xl v2] h2
  have R2 := R1.fr g1.1 f2 rfl rfl rfl
  refine XB_pop2 (aux := 0) (nx := 557) rfl ?_
  show XB l Ls xs 14 538 false 288 N U F 557 [xf 50 1, xf 12 2, xf 13 104, xf 40001 152, xi i, x5, x6] [] h2
  refine XB_path (sc := some (Ls, xs)) (inl := []) (n := 80) (sp := [23]) (o := []) (xin_ok rfl) (Or.inr rfl) rfl rfl (Nat.le_trans (Nat.le_of_eq g2.2.2.2.1) hN) (Nat.le_trans (Nat.le_of_eq g2.2.2.2.2) hU) trivial ?_
  show XB l Ls xs 14 538 false 288 N U F 23 [xf 50 1, xf 12 2, xf 13 104, xf 40001 152, xi (i + Int32.ofInt (6)), x5, x6] [] h2
  exact k h2 (x5) (x6) ⟨g2, R2⟩
set_option maxRecDepth 100000 in
set_option maxHeartbeats 4000000 in
theorem lw_c9 (l : Launch) (Ls : Nat) (xs : Nat → Int32) (N U : Nat) (F : List XV → XH → Prop) (i : Int32) (x5 x6 : XV) (h : XH) (H : vLw h) (i0 : 0 ≤ i.toInt) (i1 : i.toInt + 6 ≤ Ls) (hL : Ls ≤ 3072) (eL : (Int32.ofNat Ls - (Int32.ofInt (6))).toInt = Ls - 6) (hN : 153 ≤ N) (hU : 6051 ≤ U) (hc : (xs (i).toNatClampNeg &&& (Int32.ofInt (63))).toInt = 9) (k : ∀ h' x5' x6', vLw h' → XB l Ls xs 14 538 false 288 N U F 23 [xf 50 1, xf 12 2, xf 13 104, xf 40001 152, xi (i + (Int32.ofInt (6))), x5', x6'] [] h') : XB l Ls xs 14 538 false 288 N U F 23 [xf 50 1, xf 12 2, xf 13 104, xf 40001 152, xi i, x5, x6] [] h := by
  have e1 : (i + (Int32.ofInt (1))).toInt = i.toInt + 1 := by rw [Int32.toInt_add, show (Int32.ofInt (1)).toInt = 1 from rfl]; exact Int.bmod_eq_of_le (by omega) (by omega)
  have e2 : (i + (Int32.ofInt (2))).toInt = i.toInt + 2 := by rw [Int32.toInt_add, show (Int32.ofInt (2)).toInt = 2 from rfl]; exact Int.bmod_eq_of_le (by omega) (by omega)
  have e3 : (i + (Int32.ofInt (3))).toInt = i.toInt + 3 := by rw [Int32.toInt_add, show (Int32.ofInt (3)).toInt = 3 from rfl]; exact Int.bmod_eq_of_le (by omega) (by omega)
  have e4 : (i + (Int32.ofInt (4))).toInt = i.toInt + 4 := by rw [Int32.toInt_add, show (Int32.ofInt (4)).toInt = 4 from rfl]; exact Int.bmod_eq_of_le (by omega) (by omega)
  have e5 : (i + (Int32.ofInt (5))).toInt = i.toInt + 5 := by rw [Int32.toInt_add, show (Int32.ofInt (5)).toInt = 5 from rfl]; exact Int.bmod_eq_of_le (by omega) (by omega)
  have hg := H.1
  have R0 := H.2
  refine XB_path (sc := some (Ls, xs)) (inl := []) (n := 80) (sp := [573]) (o := [0, 10]) (xin_ok rfl) (Or.inr rfl) rfl rfl (Nat.le_trans (Nat.le_of_eq hg.2.2.2.1) hN) (Nat.le_trans (Nat.le_of_eq hg.2.2.2.2) hU) ⟨⟨⟨⟨⟨trivial, (fun z => absurd (Int32.lt_iff_toInt_lt.mp z) (by omega))⟩, (vp_of (i := i) (n := Ls) (by omega) (by omega))⟩, ⟨hc, by decide⟩⟩, (vp_of (i := (i + (Int32.ofInt (1)))) (n := Ls) (by omega) (by omega))⟩, (vp_of (i := (i + (Int32.ofInt (2)))) (n := Ls) (by omega) (by omega))⟩ ?_
  show XB l Ls xs 14 538 false 288 N U F 573 [xf 50 1, xf 12 2, xf 13 104, xf 40001 152, xi i, x5, x6] [xi (xs ((i + (Int32.ofInt (2)))).toNatClampNeg), xi (xs ((i + (Int32.ofInt (1)))).toNatClampNeg), xf 12 2] h
  obtain ⟨v1, h1, cc1, g1, f1, -⟩ := vl_92 l ((xs ((i + (Int32.ofInt (1)))).toNatClampNeg)) ((xs ((i + (Int32.ofInt (2)))).toNatClampNeg)) h hg (i32r_of _) (i32r_of _)
  refine XB_call (i := .invokevirtual 92) (aux := 3) (nx := 576) (K := 92) (vs := [xf 12 2, xi (xs ((i + (Int32.ofInt (1)))).toNatClampNeg), xi (xs ((i + (Int32.ofInt (2)))).toNatClampNeg)]) (rs := [xi v1]) (rest := []) rfl rfl rfl rfl rfl rfl cc1 (by decide) (by decide) (Nat.le_of_ble_eq_true rfl) ⟨Nat.le_trans (Nat.le_of_eq g1.2.2.2.1) hN, Nat.le_trans (Nat.le_of_eq g1.2.2.2.2) hU⟩ ?_
  show XB l Ls xs 14 538 false 288 N U F 576 [xf 50 1, xf 12 2, xf 13 104, xf 40001 152, xi i, x5, x6] [xi v1] h1
  have R1 := R0.fr hg.1 f1 rfl rfl rfl
  refine XB_path (sc := some (Ls, xs)) (inl := []) (n := 80) (sp := [590]) (o := []) (xin_ok rfl) (Or.inr rfl) rfl rfl (Nat.le_trans (Nat.le_of_eq g1.2.2.2.1) hN) (Nat.le_trans (Nat.le_of_eq g1.2.2.2.2) hU) ⟨⟨trivial, (vp_of (i := (i + (Int32.ofInt (1)))) (n := Ls) (by omega) (by omega))⟩, (vp_of (i := (i + (Int32.ofInt (2)))) (n := Ls) (by omega) (by omega))⟩ ?_
  show XB l Ls xs 14 538 false 288 N U F 590 [xf 50 1, xf 12 2, xf 13 104, xf 40001 152, xi i, x5, x6] [xi (xs ((i + (Int32.ofInt (2)))).toNatClampNeg), xi (xs ((i + (Int32.ofInt (1)))).toNatClampNeg), xf 13 104] h1
  obtain ⟨v2, h2, cc2, g2, f2, -⟩ := vl_238 l ((xs ((i + (Int32.ofInt (1)))).toNatClampNeg)) ((xs ((i + (Int32.ofInt (2)))).toNatClampNeg)) h1 g1 (i32r_of _) (i32r_of _)
  refine XB_call (i := .invokevirtual 238) (aux := 3) (nx := 593) (K := 238) (vs := [xf 13 104, xi (xs ((i + (Int32.ofInt (1)))).toNatClampNeg), xi (xs ((i + (Int32.ofInt (2)))).toNatClampNeg)]) (rs := [xi v2]) (rest := []) rfl rfl rfl rfl rfl rfl cc2 (by decide) (by decide) (Nat.le_of_ble_eq_true rfl) ⟨Nat.le_trans (Nat.le_of_eq g2.2.2.2.1) hN, Nat.le_trans (Nat.le_of_eq g2.2.2.2.2) hU⟩ ?_
  show XB l Ls xs 14 538 false 288 N U F 593 [xf 50 1, xf 12 2, xf 13 104, xf 40001 152, xi i, x5, x6] [xi v2] h2
  have R2 := R1.fr g1.1 f2 rfl rfl rfl
  refine XB_path (sc := some (Ls, xs)) (inl := []) (n := 80) (sp := [23]) (o := []) (xin_ok rfl) (Or.inr rfl) rfl rfl (Nat.le_trans (Nat.le_of_eq g2.2.2.2.1) hN) (Nat.le_trans (Nat.le_of_eq g2.2.2.2.2) hU) trivial ?_
  show XB l Ls xs 14 538 false 288 N U F 23 [xf 50 1, xf 12 2, xf 13 104, xf 40001 152, xi (i + Int32.ofInt (6)), x5, x6] [] h2
  exact k h2 (x5) (x6) ⟨g2, R2⟩
set_option maxRecDepth 100000 in
set_option maxHeartbeats 4000000 in
theorem lw_c10 (l : Launch) (Ls : Nat) (xs : Nat → Int32) (N U : Nat) (F : List XV → XH → Prop) (i : Int32) (x5 x6 : XV) (h : XH) (H : vLw h) (i0 : 0 ≤ i.toInt) (i1 : i.toInt + 6 ≤ Ls) (hL : Ls ≤ 3072) (eL : (Int32.ofNat Ls - (Int32.ofInt (6))).toInt = Ls - 6) (hN : 153 ≤ N) (hU : 6051 ≤ U) (hc : (xs (i).toNatClampNeg &&& (Int32.ofInt (63))).toInt = 10) (k : ∀ h' x5' x6', vLw h' → XB l Ls xs 14 538 false 288 N U F 23 [xf 50 1, xf 12 2, xf 13 104, xf 40001 152, xi (i + (Int32.ofInt (6))), x5', x6'] [] h') : XB l Ls xs 14 538 false 288 N U F 23 [xf 50 1, xf 12 2, xf 13 104, xf 40001 152, xi i, x5, x6] [] h := by
  have e1 : (i + (Int32.ofInt (1))).toInt = i.toInt + 1 := by rw [Int32.toInt_add, show (Int32.ofInt (1)).toInt = 1 from rfl]; exact Int.bmod_eq_of_le (by omega) (by omega)
  have e2 : (i + (Int32.ofInt (2))).toInt = i.toInt + 2 := by rw [Int32.toInt_add, show (Int32.ofInt (2)).toInt = 2 from rfl]; exact Int.bmod_eq_of_le (by omega) (by omega)
  have e3 : (i + (Int32.ofInt (3))).toInt = i.toInt + 3 := by rw [Int32.toInt_add, show (Int32.ofInt (3)).toInt = 3 from rfl]; exact Int.bmod_eq_of_le (by omega) (by omega)
  have e4 : (i + (Int32.ofInt (4))).toInt = i.toInt + 4 := by rw [Int32.toInt_add, show (Int32.ofInt (4)).toInt = 4 from rfl]; exact Int.bmod_eq_of_le (by omega) (by omega)
  have e5 : (i + (Int32.ofInt (5))).toInt = i.toInt + 5 := by rw [Int32.toInt_add, show (Int32.ofInt (5)).toInt = 5 from rfl]; exact Int.bmod_eq_of_le (by omega) (by omega)
  have hg := H.1
  have R0 := H.2
  refine XB_path (sc := some (Ls, xs)) (inl := []) (n := 80) (sp := [610]) (o := [0, 11]) (xin_ok rfl) (Or.inr rfl) rfl rfl (Nat.le_trans (Nat.le_of_eq hg.2.2.2.1) hN) (Nat.le_trans (Nat.le_of_eq hg.2.2.2.2) hU) ⟨⟨⟨⟨⟨trivial, (fun z => absurd (Int32.lt_iff_toInt_lt.mp z) (by omega))⟩, (vp_of (i := i) (n := Ls) (by omega) (by omega))⟩, ⟨hc, by decide⟩⟩, (vp_of (i := (i + (Int32.ofInt (1)))) (n := Ls) (by omega) (by omega))⟩, (vp_of (i := (i + (Int32.ofInt (2)))) (n := Ls) (by omega) (by omega))⟩ ?_
  show XB l Ls xs 14 538 false 288 N U F 610 [xf 50 1, xf 12 2, xf 13 104, xf 40001 152, xi i, x5, x6] [xi (xs ((i + (Int32.ofInt (2)))).toNatClampNeg), xi (xs ((i + (Int32.ofInt (1)))).toNatClampNeg), xf 12 2] h
  obtain ⟨v1, h1, cc1, g1, f1, -⟩ := vl_94 l ((xs ((i + (Int32.ofInt (1)))).toNatClampNeg)) ((xs ((i + (Int32.ofInt (2)))).toNatClampNeg)) h hg (i32r_of _) (i32r_of _)
  refine XB_call (i := .invokevirtual 94) (aux := 3) (nx := 613) (K := 94) (vs := [xf 12 2, xi (xs ((i + (Int32.ofInt (1)))).toNatClampNeg), xi (xs ((i + (Int32.ofInt (2)))).toNatClampNeg)]) (rs := [xi v1]) (rest := []) rfl rfl rfl rfl rfl rfl cc1 (by decide) (by decide) (Nat.le_of_ble_eq_true rfl) ⟨Nat.le_trans (Nat.le_of_eq g1.2.2.2.1) hN, Nat.le_trans (Nat.le_of_eq g1.2.2.2.2) hU⟩ ?_
  show XB l Ls xs 14 538 false 288 N U F 613 [xf 50 1, xf 12 2, xf 13 104, xf 40001 152, xi i, x5, x6] [xi v1] h1
  have R1 := R0.fr hg.1 f1 rfl rfl rfl
  refine XB_path (sc := some (Ls, xs)) (inl := []) (n := 80) (sp := [627]) (o := []) (xin_ok rfl) (Or.inr rfl) rfl rfl (Nat.le_trans (Nat.le_of_eq g1.2.2.2.1) hN) (Nat.le_trans (Nat.le_of_eq g1.2.2.2.2) hU) ⟨⟨trivial, (vp_of (i := (i + (Int32.ofInt (1)))) (n := Ls) (by omega) (by omega))⟩, (vp_of (i := (i + (Int32.ofInt (2)))) (n := Ls) (by omega) (by omega))⟩ ?_
  show XB l Ls xs 14 538 false 288 N U F 627 [xf 50 1, xf 12 2, xf 13 104, xf 40001 152, xi i, x5, x6] [xi (xs ((i + (Int32.ofInt (2)))).toNatClampNeg), xi (xs ((i + (Int32.ofInt (1)))).toNatClampNeg), xf 13 104] h1
  obtain ⟨v2, h2, cc2, g2, f2, -⟩ := vl_241 l ((xs ((i + (Int32.ofInt (1)))).toNatClampNeg)) ((xs ((i + (Int32.ofInt (2)))).toNatClampNeg)) h1 g1 (i32r_of _) (i32r_of _)
  refine XB_call (i := .invokevirtual 241) (aux := 3) (nx := 630) (K := 241) (vs := [xf 13 104, xi (xs ((i + (Int32.ofInt (1)))).toNatClampNeg), xi (xs ((i + (Int32.ofInt (2)))).toNatClampNeg)]) (rs := [xi v2]) (rest := []) rfl rfl rfl rfl rfl rfl cc2 (by decide) (by decide) (Nat.le_of_ble_eq_true rfl) ⟨Nat.le_trans (Nat.le_of_eq g2.2.2.2.1) hN, Nat.le_trans (Nat.le_of_eq g2.2.2.2.2) hU⟩ ?_
  show XB l Ls xs 14 538 false 288 N U F 630 [xf 50 1, xf 12 2, xf 13 104, xf 40001 152, xi i, x5, x6] [xi v2] h2
  have R2 := R1.fr g1.1 f2 rfl rfl rfl
  refine XB_path (sc := some (Ls, xs)) (inl := []) (n := 80) (sp := [23]) (o := []) (xin_ok rfl) (Or.inr rfl) rfl rfl (Nat.le_trans (Nat.le_of_eq g2.2.2.2.1) hN) (Nat.le_trans (Nat.le_of_eq g2.2.2.2.2) hU) trivial ?_
  show XB l Ls xs 14 538 false 288 N U F 23 [xf 50 1, xf 12 2, xf 13 104, xf 40001 152, xi (i + Int32.ofInt (6)), x5, x6] [] h2
  exact k h2 (x5) (x6) ⟨g2, R2⟩
set_option maxRecDepth 100000 in
set_option maxHeartbeats 4000000 in
theorem lw_c11 (l : Launch) (Ls : Nat) (xs : Nat → Int32) (N U : Nat) (F : List XV → XH → Prop) (i : Int32) (x5 x6 : XV) (h : XH) (H : vLw h) (i0 : 0 ≤ i.toInt) (i1 : i.toInt + 6 ≤ Ls) (hL : Ls ≤ 3072) (eL : (Int32.ofNat Ls - (Int32.ofInt (6))).toInt = Ls - 6) (hN : 153 ≤ N) (hU : 6051 ≤ U) (hc : (xs (i).toNatClampNeg &&& (Int32.ofInt (63))).toInt = 11) (k : ∀ h' x5' x6', vLw h' → XB l Ls xs 14 538 false 288 N U F 23 [xf 50 1, xf 12 2, xf 13 104, xf 40001 152, xi (i + (Int32.ofInt (6))), x5', x6'] [] h') : XB l Ls xs 14 538 false 288 N U F 23 [xf 50 1, xf 12 2, xf 13 104, xf 40001 152, xi i, x5, x6] [] h := by
  have e1 : (i + (Int32.ofInt (1))).toInt = i.toInt + 1 := by rw [Int32.toInt_add, show (Int32.ofInt (1)).toInt = 1 from rfl]; exact Int.bmod_eq_of_le (by omega) (by omega)
  have e2 : (i + (Int32.ofInt (2))).toInt = i.toInt + 2 := by rw [Int32.toInt_add, show (Int32.ofInt (2)).toInt = 2 from rfl]; exact Int.bmod_eq_of_le (by omega) (by omega)
  have e3 : (i + (Int32.ofInt (3))).toInt = i.toInt + 3 := by rw [Int32.toInt_add, show (Int32.ofInt (3)).toInt = 3 from rfl]; exact Int.bmod_eq_of_le (by omega) (by omega)
  have e4 : (i + (Int32.ofInt (4))).toInt = i.toInt + 4 := by rw [Int32.toInt_add, show (Int32.ofInt (4)).toInt = 4 from rfl]; exact Int.bmod_eq_of_le (by omega) (by omega)
  have e5 : (i + (Int32.ofInt (5))).toInt = i.toInt + 5 := by rw [Int32.toInt_add, show (Int32.ofInt (5)).toInt = 5 from rfl]; exact Int.bmod_eq_of_le (by omega) (by omega)
  have hg := H.1
  have R0 := H.2
  refine XB_path (sc := some (Ls, xs)) (inl := []) (n := 80) (sp := [647]) (o := [0, 12]) (xin_ok rfl) (Or.inr rfl) rfl rfl (Nat.le_trans (Nat.le_of_eq hg.2.2.2.1) hN) (Nat.le_trans (Nat.le_of_eq hg.2.2.2.2) hU) ⟨⟨⟨⟨⟨trivial, (fun z => absurd (Int32.lt_iff_toInt_lt.mp z) (by omega))⟩, (vp_of (i := i) (n := Ls) (by omega) (by omega))⟩, ⟨hc, by decide⟩⟩, (vp_of (i := (i + (Int32.ofInt (1)))) (n := Ls) (by omega) (by omega))⟩, (vp_of (i := (i + (Int32.ofInt (2)))) (n := Ls) (by omega) (by omega))⟩ ?_
  show XB l Ls xs 14 538 false 288 N U F 647 [xf 50 1, xf 12 2, xf 13 104, xf 40001 152, xi i, x5, x6] [xi (xs ((i + (Int32.ofInt (2)))).toNatClampNeg), xi (xs ((i + (Int32.ofInt (1)))).toNatClampNeg), xf 12 2] h
  obtain ⟨v1, h1, cc1, g1, f1, -⟩ := vl_96 l ((xs ((i + (Int32.ofInt (1)))).toNatClampNeg)) ((xs ((i + (Int32.ofInt (2)))).toNatClampNeg)) h hg (i32r_of _) (i32r_of _)
  refine XB_call (i := .invokevirtual 96) (aux := 3) (nx := 650) (K := 96) (vs := [xf 12 2, xi (xs ((i + (Int32.ofInt (1)))).toNatClampNeg), xi (xs ((i + (Int32.ofInt (2)))).toNatClampNeg)]) (rs := [xi v1]) (rest := []) rfl rfl rfl rfl rfl rfl cc1 (by decide) (by decide) (Nat.le_of_ble_eq_true rfl) ⟨Nat.le_trans (Nat.le_of_eq g1.2.2.2.1) hN, Nat.le_trans (Nat.le_of_eq g1.2.2.2.2) hU⟩ ?_
  show XB l Ls xs 14 538 false 288 N U F 650 [xf 50 1, xf 12 2, xf 13 104, xf 40001 152, xi i, x5, x6] [xi v1] h1
  have R1 := R0.fr hg.1 f1 rfl rfl rfl
  refine XB_path (sc := some (Ls, xs)) (inl := []) (n := 80) (sp := [664]) (o := []) (xin_ok rfl) (Or.inr rfl) rfl rfl (Nat.le_trans (Nat.le_of_eq g1.2.2.2.1) hN) (Nat.le_trans (Nat.le_of_eq g1.2.2.2.2) hU) ⟨⟨trivial, (vp_of (i := (i + (Int32.ofInt (1)))) (n := Ls) (by omega) (by omega))⟩, (vp_of (i := (i + (Int32.ofInt (2)))) (n := Ls) (by omega) (by omega))⟩ ?_
  show XB l Ls xs 14 538 false 288 N U F 664 [xf 50 1, xf 12 2, xf 13 104, xf 40001 152, xi i, x5, x6] [xi (xs ((i + (Int32.ofInt (2)))).toNatClampNeg), xi (xs ((i + (Int32.ofInt (1)))).toNatClampNeg), xf 13 104] h1
  obtain ⟨v2, h2, cc2, g2, f2, -⟩ := vl_242 l ((xs ((i + (Int32.ofInt (1)))).toNatClampNeg)) ((xs ((i + (Int32.ofInt (2)))).toNatClampNeg)) h1 g1 (i32r_of _) (i32r_of _)
  refine XB_call (i := .invokevirtual 242) (aux := 3) (nx := 667) (K := 242) (vs := [xf 13 104, xi (xs ((i + (Int32.ofInt (1)))).toNatClampNeg), xi (xs ((i + (Int32.ofInt (2)))).toNatClampNeg)]) (rs := [xi v2]) (rest := []) rfl rfl rfl rfl rfl rfl cc2 (by decide) (by decide) (Nat.le_of_ble_eq_true rfl) ⟨Nat.le_trans (Nat.le_of_eq g2.2.2.2.1) hN, Nat.le_trans (Nat.le_of_eq g2.2.2.2.2) hU⟩ ?_
  show XB l Ls xs 14 538 false 288 N U F 667 [xf 50 1, xf 12 2, xf 13 104, xf 40001 152, xi i, x5, x6] [xi v2] h2
  have R2 := R1.fr g1.1 f2 rfl rfl rfl
  refine XB_path (sc := some (Ls, xs)) (inl := []) (n := 80) (sp := [23]) (o := []) (xin_ok rfl) (Or.inr rfl) rfl rfl (Nat.le_trans (Nat.le_of_eq g2.2.2.2.1) hN) (Nat.le_trans (Nat.le_of_eq g2.2.2.2.2) hU) trivial ?_
  show XB l Ls xs 14 538 false 288 N U F 23 [xf 50 1, xf 12 2, xf 13 104, xf 40001 152, xi (i + Int32.ofInt (6)), x5, x6] [] h2
  exact k h2 (x5) (x6) ⟨g2, R2⟩
set_option maxRecDepth 100000 in
set_option maxHeartbeats 4000000 in
theorem lw_c12 (l : Launch) (Ls : Nat) (xs : Nat → Int32) (N U : Nat) (F : List XV → XH → Prop) (i : Int32) (x5 x6 : XV) (h : XH) (H : vLw h) (i0 : 0 ≤ i.toInt) (i1 : i.toInt + 6 ≤ Ls) (hL : Ls ≤ 3072) (eL : (Int32.ofNat Ls - (Int32.ofInt (6))).toInt = Ls - 6) (hN : 153 ≤ N) (hU : 6051 ≤ U) (hc : (xs (i).toNatClampNeg &&& (Int32.ofInt (63))).toInt = 12) (k : ∀ h' x5' x6', vLw h' → XB l Ls xs 14 538 false 288 N U F 23 [xf 50 1, xf 12 2, xf 13 104, xf 40001 152, xi (i + (Int32.ofInt (6))), x5', x6'] [] h') : XB l Ls xs 14 538 false 288 N U F 23 [xf 50 1, xf 12 2, xf 13 104, xf 40001 152, xi i, x5, x6] [] h := by
  have e1 : (i + (Int32.ofInt (1))).toInt = i.toInt + 1 := by rw [Int32.toInt_add, show (Int32.ofInt (1)).toInt = 1 from rfl]; exact Int.bmod_eq_of_le (by omega) (by omega)
  have e2 : (i + (Int32.ofInt (2))).toInt = i.toInt + 2 := by rw [Int32.toInt_add, show (Int32.ofInt (2)).toInt = 2 from rfl]; exact Int.bmod_eq_of_le (by omega) (by omega)
  have e3 : (i + (Int32.ofInt (3))).toInt = i.toInt + 3 := by rw [Int32.toInt_add, show (Int32.ofInt (3)).toInt = 3 from rfl]; exact Int.bmod_eq_of_le (by omega) (by omega)
  have e4 : (i + (Int32.ofInt (4))).toInt = i.toInt + 4 := by rw [Int32.toInt_add, show (Int32.ofInt (4)).toInt = 4 from rfl]; exact Int.bmod_eq_of_le (by omega) (by omega)
  have e5 : (i + (Int32.ofInt (5))).toInt = i.toInt + 5 := by rw [Int32.toInt_add, show (Int32.ofInt (5)).toInt = 5 from rfl]; exact Int.bmod_eq_of_le (by omega) (by omega)
  have hg := H.1
  have R0 := H.2
  refine XB_path (sc := some (Ls, xs)) (inl := []) (n := 80) (sp := [678]) (o := [0, 13]) (xin_ok rfl) (Or.inr rfl) rfl rfl (Nat.le_trans (Nat.le_of_eq hg.2.2.2.1) hN) (Nat.le_trans (Nat.le_of_eq hg.2.2.2.2) hU) ⟨⟨⟨⟨trivial, (fun z => absurd (Int32.lt_iff_toInt_lt.mp z) (by omega))⟩, (vp_of (i := i) (n := Ls) (by omega) (by omega))⟩, ⟨hc, by decide⟩⟩, (vp_of (i := (i + (Int32.ofInt (1)))) (n := Ls) (by omega) (by omega))⟩ ?_
  show XB l Ls xs 14 538 false 288 N U F 678 [xf 50 1, xf 12 2, xf 13 104, xf 40001 152, xi i, x5, x6] [xi (xs ((i + (Int32.ofInt (1)))).toNatClampNeg), xf 12 2] h
  obtain ⟨v1, h1, cc1, g1, s1, e1_⟩ := ck_seasons l ((xs ((i + (Int32.ofInt (1)))).toNatClampNeg)) h hg
  refine XB_call (i := .invokevirtual 97) (aux := 2) (nx := 681) (K := 97) (vs := [xf 12 2, xi (xs ((i + (Int32.ofInt (1)))).toNatClampNeg)]) (rs := [xi v1]) (rest := []) rfl rfl rfl rfl rfl rfl cc1 (by decide) (by decide) (Nat.le_of_ble_eq_true rfl) ⟨Nat.le_trans (Nat.le_of_eq g1.1.2.2.2.1) hN, Nat.le_trans (Nat.le_of_eq g1.1.2.2.2.2) hU⟩ ?_
  show XB l Ls xs 14 538 false 288 N U F 681 [xf 50 1, xf 12 2, xf 13 104, xf 40001 152, xi i, x5, x6] [xi v1] h1
  refine XB_path (sc := some (Ls, xs)) (inl := []) (n := 80) (sp := [689]) (o := []) (xin_ok rfl) (Or.inr rfl) rfl rfl (Nat.le_trans (Nat.le_of_eq g1.1.2.2.2.1) hN) (Nat.le_trans (Nat.le_of_eq g1.1.2.2.2.2) hU) ⟨trivial, (vp_of (i := (i + (Int32.ofInt (1)))) (n := Ls) (by omega) (by omega))⟩ ?_
  show XB l Ls xs 14 538 false 288 N U F 689 [xf 50 1, xf 12 2, xf 13 104, xf 40001 152, xi i, x5, x6] [xi (xs ((i + (Int32.ofInt (1)))).toNatClampNeg), xf 13 104] h1
  obtain ⟨v2, h2, cc2, g2, s2, e2_⟩ := jk_seasons l ((xs ((i + (Int32.ofInt (1)))).toNatClampNeg)) h1 g1.1
  refine XB_call (i := .invokevirtual 243) (aux := 2) (nx := 692) (K := 243) (vs := [xf 13 104, xi (xs ((i + (Int32.ofInt (1)))).toNatClampNeg)]) (rs := [xi v2]) (rest := []) rfl rfl rfl rfl rfl rfl cc2 (by decide) (by decide) (Nat.le_of_ble_eq_true rfl) ⟨Nat.le_trans (Nat.le_of_eq g2.1.2.2.2.1) hN, Nat.le_trans (Nat.le_of_eq g2.1.2.2.2.2) hU⟩ ?_
  show XB l Ls xs 14 538 false 288 N U F 692 [xf 50 1, xf 12 2, xf 13 104, xf 40001 152, xi i, x5, x6] [xi v2] h2
  have u1 : xI h1 138 0 = xI h 48 7 := (g1.2.1 138 0 rfl).trans R0.2.2.1.symm
  rw [u1] at s2 e2_
  have same : v1 = v2 := s1.trans s2.symm
  have RT : vRl h2 := ⟨R0.1.fr ((vKeep.of g1.2 rfl).tr (vKeep.of g2.2 rfl)), R0.2.1.fr ((vKeep.of g1.2 rfl).tr (vKeep.of g2.2 rfl)), (g2.2.1 48 7 rfl).trans (e1_.trans e2_.symm), R0.2.2.2.1.fr ((vKeep.of g1.2 rfl).tr (vKeep.of g2.2 rfl)), R0.2.2.2.2.1.fr ((vKeep.of g1.2 rfl).tr (vKeep.of g2.2 rfl)), R0.2.2.2.2.2.fr hg.1 ((vKeep.of g1.2 rfl).tr (vKeep.of g2.2 rfl)) ((g2.2.2 2 1 rfl).trans (g1.2.2 2 1 rfl)) ((g2.2.2 2 2 rfl).trans (g1.2.2 2 2 rfl))⟩
  refine XB_path (sc := some (Ls, xs)) (inl := []) (n := 80) (sp := [23]) (o := []) (xin_ok rfl) (Or.inr rfl) rfl rfl (Nat.le_trans (Nat.le_of_eq g2.1.2.2.2.1) hN) (Nat.le_trans (Nat.le_of_eq g2.1.2.2.2.2) hU) trivial ?_
  show XB l Ls xs 14 538 false 288 N U F 23 [xf 50 1, xf 12 2, xf 13 104, xf 40001 152, xi (i + Int32.ofInt (6)), x5, x6] [] h2
  exact k h2 (x5) (x6) ⟨g2.1, RT⟩
set_option maxRecDepth 100000 in
set_option maxHeartbeats 4000000 in
theorem lw_c13 (l : Launch) (Ls : Nat) (xs : Nat → Int32) (N U : Nat) (F : List XV → XH → Prop) (i : Int32) (x5 x6 : XV) (h : XH) (H : vLw h) (i0 : 0 ≤ i.toInt) (i1 : i.toInt + 6 ≤ Ls) (hL : Ls ≤ 3072) (eL : (Int32.ofNat Ls - (Int32.ofInt (6))).toInt = Ls - 6) (hN : 153 ≤ N) (hU : 6051 ≤ U) (hc : (xs (i).toNatClampNeg &&& (Int32.ofInt (63))).toInt = 13) (k : ∀ h' x5' x6', vLw h' → XB l Ls xs 14 538 false 288 N U F 23 [xf 50 1, xf 12 2, xf 13 104, xf 40001 152, xi (i + (Int32.ofInt (6))), x5', x6'] [] h') : XB l Ls xs 14 538 false 288 N U F 23 [xf 50 1, xf 12 2, xf 13 104, xf 40001 152, xi i, x5, x6] [] h := by
  have e1 : (i + (Int32.ofInt (1))).toInt = i.toInt + 1 := by rw [Int32.toInt_add, show (Int32.ofInt (1)).toInt = 1 from rfl]; exact Int.bmod_eq_of_le (by omega) (by omega)
  have e2 : (i + (Int32.ofInt (2))).toInt = i.toInt + 2 := by rw [Int32.toInt_add, show (Int32.ofInt (2)).toInt = 2 from rfl]; exact Int.bmod_eq_of_le (by omega) (by omega)
  have e3 : (i + (Int32.ofInt (3))).toInt = i.toInt + 3 := by rw [Int32.toInt_add, show (Int32.ofInt (3)).toInt = 3 from rfl]; exact Int.bmod_eq_of_le (by omega) (by omega)
  have e4 : (i + (Int32.ofInt (4))).toInt = i.toInt + 4 := by rw [Int32.toInt_add, show (Int32.ofInt (4)).toInt = 4 from rfl]; exact Int.bmod_eq_of_le (by omega) (by omega)
  have e5 : (i + (Int32.ofInt (5))).toInt = i.toInt + 5 := by rw [Int32.toInt_add, show (Int32.ofInt (5)).toInt = 5 from rfl]; exact Int.bmod_eq_of_le (by omega) (by omega)
  have hg := H.1
  have R0 := H.2
  refine XB_path (sc := some (Ls, xs)) (inl := []) (n := 80) (sp := [715]) (o := [0, 14]) (xin_ok rfl) (Or.inr rfl) rfl rfl (Nat.le_trans (Nat.le_of_eq hg.2.2.2.1) hN) (Nat.le_trans (Nat.le_of_eq hg.2.2.2.2) hU) ⟨⟨⟨⟨⟨⟨trivial, (fun z => absurd (Int32.lt_iff_toInt_lt.mp z) (by omega))⟩, (vp_of (i := i) (n := Ls) (by omega) (by omega))⟩, ⟨hc, by decide⟩⟩, (vp_of (i := (i + (Int32.ofInt (1)))) (n := Ls) (by omega) (by omega))⟩, (vp_of (i := (i + (Int32.ofInt (2)))) (n := Ls) (by omega) (by omega))⟩, (vp_of (i := (i + (Int32.ofInt (3)))) (n := Ls) (by omega) (by omega))⟩ ?_
  show XB l Ls xs 14 538 false 288 N U F 715 [xf 50 1, xf 12 2, xf 13 104, xf 40001 152, xi i, x5, x6] [xi (xs ((i + (Int32.ofInt (3)))).toNatClampNeg), xi (xs ((i + (Int32.ofInt (2)))).toNatClampNeg), xi (xs ((i + (Int32.ofInt (1)))).toNatClampNeg), xf 12 2] h
  obtain ⟨v1, h1, cc1, g1, f1, -⟩ := vl_103 l ((xs ((i + (Int32.ofInt (1)))).toNatClampNeg)) ((xs ((i + (Int32.ofInt (2)))).toNatClampNeg)) ((xs ((i + (Int32.ofInt (3)))).toNatClampNeg)) h hg (i32r_of _) (i32r_of _) (i32r_of _)
  refine XB_call (i := .invokevirtual 103) (aux := 4) (nx := 718) (K := 103) (vs := [xf 12 2, xi (xs ((i + (Int32.ofInt (1)))).toNatClampNeg), xi (xs ((i + (Int32.ofInt (2)))).toNatClampNeg), xi (xs ((i + (Int32.ofInt (3)))).toNatClampNeg)]) (rs := [xi v1]) (rest := []) rfl rfl rfl rfl rfl rfl cc1 (by decide) (by decide) (Nat.le_of_ble_eq_true rfl) ⟨Nat.le_trans (Nat.le_of_eq g1.2.2.2.1) hN, Nat.le_trans (Nat.le_of_eq g1.2.2.2.2) hU⟩ ?_
  show XB l Ls xs 14 538 false 288 N U F 718 [xf 50 1, xf 12 2, xf 13 104, xf 40001 152, xi i, x5, x6] [xi v1] h1
  have R1 := R0.fr hg.1 f1 rfl rfl rfl
  refine XB_path (sc := some (Ls, xs)) (inl := []) (n := 80) (sp := [738]) (o := []) (xin_ok rfl) (Or.inr rfl) rfl rfl (Nat.le_trans (Nat.le_of_eq g1.2.2.2.1) hN) (Nat.le_trans (Nat.le_of_eq g1.2.2.2.2) hU) ⟨⟨⟨trivial, (vp_of (i := (i + (Int32.ofInt (1)))) (n := Ls) (by omega) (by omega))⟩, (vp_of (i := (i + (Int32.ofInt (2)))) (n := Ls) (by omega) (by omega))⟩, (vp_of (i := (i + (Int32.ofInt (3)))) (n := Ls) (by omega) (by omega))⟩ ?_
  show XB l Ls xs 14 538 false 288 N U F 738 [xf 50 1, xf 12 2, xf 13 104, xf 40001 152, xi i, x5, x6] [xi (xs ((i + (Int32.ofInt (3)))).toNatClampNeg), xi (xs ((i + (Int32.ofInt (2)))).toNatClampNeg), xi (xs ((i + (Int32.ofInt (1)))).toNatClampNeg), xf 13 104] h1
  obtain ⟨v2, h2, cc2, g2, f2, -⟩ := vl_246 l ((xs ((i + (Int32.ofInt (1)))).toNatClampNeg)) ((xs ((i + (Int32.ofInt (2)))).toNatClampNeg)) ((xs ((i + (Int32.ofInt (3)))).toNatClampNeg)) h1 g1 (i32r_of _) (i32r_of _) (i32r_of _)
  refine XB_call (i := .invokevirtual 246) (aux := 4) (nx := 741) (K := 246) (vs := [xf 13 104, xi (xs ((i + (Int32.ofInt (1)))).toNatClampNeg), xi (xs ((i + (Int32.ofInt (2)))).toNatClampNeg), xi (xs ((i + (Int32.ofInt (3)))).toNatClampNeg)]) (rs := [xi v2]) (rest := []) rfl rfl rfl rfl rfl rfl cc2 (by decide) (by decide) (Nat.le_of_ble_eq_true rfl) ⟨Nat.le_trans (Nat.le_of_eq g2.2.2.2.1) hN, Nat.le_trans (Nat.le_of_eq g2.2.2.2.2) hU⟩ ?_
  show XB l Ls xs 14 538 false 288 N U F 741 [xf 50 1, xf 12 2, xf 13 104, xf 40001 152, xi i, x5, x6] [xi v2] h2
  have R2 := R1.fr g1.1 f2 rfl rfl rfl
  refine XB_path (sc := some (Ls, xs)) (inl := []) (n := 80) (sp := [23]) (o := []) (xin_ok rfl) (Or.inr rfl) rfl rfl (Nat.le_trans (Nat.le_of_eq g2.2.2.2.1) hN) (Nat.le_trans (Nat.le_of_eq g2.2.2.2.2) hU) trivial ?_
  show XB l Ls xs 14 538 false 288 N U F 23 [xf 50 1, xf 12 2, xf 13 104, xf 40001 152, xi (i + Int32.ofInt (6)), x5, x6] [] h2
  exact k h2 (x5) (x6) ⟨g2, R2⟩
set_option maxRecDepth 100000 in
set_option maxHeartbeats 4000000 in
theorem lw_c14 (l : Launch) (Ls : Nat) (xs : Nat → Int32) (N U : Nat) (F : List XV → XH → Prop) (i : Int32) (x5 x6 : XV) (h : XH) (H : vLw h) (i0 : 0 ≤ i.toInt) (i1 : i.toInt + 6 ≤ Ls) (hL : Ls ≤ 3072) (eL : (Int32.ofNat Ls - (Int32.ofInt (6))).toInt = Ls - 6) (hN : 153 ≤ N) (hU : 6051 ≤ U) (hc : (xs (i).toNatClampNeg &&& (Int32.ofInt (63))).toInt = 14) (k : ∀ h' x5' x6', vLw h' → XB l Ls xs 14 538 false 288 N U F 23 [xf 50 1, xf 12 2, xf 13 104, xf 40001 152, xi (i + (Int32.ofInt (6))), x5', x6'] [] h') : XB l Ls xs 14 538 false 288 N U F 23 [xf 50 1, xf 12 2, xf 13 104, xf 40001 152, xi i, x5, x6] [] h := by
  have e1 : (i + (Int32.ofInt (1))).toInt = i.toInt + 1 := by rw [Int32.toInt_add, show (Int32.ofInt (1)).toInt = 1 from rfl]; exact Int.bmod_eq_of_le (by omega) (by omega)
  have e2 : (i + (Int32.ofInt (2))).toInt = i.toInt + 2 := by rw [Int32.toInt_add, show (Int32.ofInt (2)).toInt = 2 from rfl]; exact Int.bmod_eq_of_le (by omega) (by omega)
  have e3 : (i + (Int32.ofInt (3))).toInt = i.toInt + 3 := by rw [Int32.toInt_add, show (Int32.ofInt (3)).toInt = 3 from rfl]; exact Int.bmod_eq_of_le (by omega) (by omega)
  have e4 : (i + (Int32.ofInt (4))).toInt = i.toInt + 4 := by rw [Int32.toInt_add, show (Int32.ofInt (4)).toInt = 4 from rfl]; exact Int.bmod_eq_of_le (by omega) (by omega)
  have e5 : (i + (Int32.ofInt (5))).toInt = i.toInt + 5 := by rw [Int32.toInt_add, show (Int32.ofInt (5)).toInt = 5 from rfl]; exact Int.bmod_eq_of_le (by omega) (by omega)
  have hg := H.1
  have R0 := H.2
  refine XB_path (sc := some (Ls, xs)) (inl := []) (n := 80) (sp := [752]) (o := [0, 15]) (xin_ok rfl) (Or.inr rfl) rfl rfl (Nat.le_trans (Nat.le_of_eq hg.2.2.2.1) hN) (Nat.le_trans (Nat.le_of_eq hg.2.2.2.2) hU) ⟨⟨⟨⟨trivial, (fun z => absurd (Int32.lt_iff_toInt_lt.mp z) (by omega))⟩, (vp_of (i := i) (n := Ls) (by omega) (by omega))⟩, ⟨hc, by decide⟩⟩, (vp_of (i := (i + (Int32.ofInt (1)))) (n := Ls) (by omega) (by omega))⟩ ?_
  show XB l Ls xs 14 538 false 288 N U F 752 [xf 50 1, xf 12 2, xf 13 104, xf 40001 152, xi i, x5, x6] [xi (xs ((i + (Int32.ofInt (1)))).toNatClampNeg), xf 12 2] h
  obtain ⟨v1, h1, cc1, g1, f1, -⟩ := vl_106 l ((xs ((i + (Int32.ofInt (1)))).toNatClampNeg)) h hg (i32r_of _)
  refine XB_call (i := .invokevirtual 106) (aux := 2) (nx := 755) (K := 106) (vs := [xf 12 2, xi (xs ((i + (Int32.ofInt (1)))).toNatClampNeg)]) (rs := [xi v1]) (rest := []) rfl rfl rfl rfl rfl rfl cc1 (by decide) (by decide) (Nat.le_of_ble_eq_true rfl) ⟨Nat.le_trans (Nat.le_of_eq g1.2.2.2.1) hN, Nat.le_trans (Nat.le_of_eq g1.2.2.2.2) hU⟩ ?_
  show XB l Ls xs 14 538 false 288 N U F 755 [xf 50 1, xf 12 2, xf 13 104, xf 40001 152, xi i, x5, x6] [xi v1] h1
  have R1 := R0.fr hg.1 f1 rfl rfl rfl
  refine XB_path (sc := some (Ls, xs)) (inl := []) (n := 80) (sp := [763]) (o := []) (xin_ok rfl) (Or.inr rfl) rfl rfl (Nat.le_trans (Nat.le_of_eq g1.2.2.2.1) hN) (Nat.le_trans (Nat.le_of_eq g1.2.2.2.2) hU) ⟨trivial, (vp_of (i := (i + (Int32.ofInt (1)))) (n := Ls) (by omega) (by omega))⟩ ?_
  show XB l Ls xs 14 538 false 288 N U F 763 [xf 50 1, xf 12 2, xf 13 104, xf 40001 152, xi i, x5, x6] [xi (xs ((i + (Int32.ofInt (1)))).toNatClampNeg), xf 13 104] h1
  obtain ⟨v2, h2, cc2, g2, f2, -⟩ := vl_249 l ((xs ((i + (Int32.ofInt (1)))).toNatClampNeg)) h1 g1 (i32r_of _)
  refine XB_call (i := .invokevirtual 249) (aux := 2) (nx := 766) (K := 249) (vs := [xf 13 104, xi (xs ((i + (Int32.ofInt (1)))).toNatClampNeg)]) (rs := [xi v2]) (rest := []) rfl rfl rfl rfl rfl rfl cc2 (by decide) (by decide) (Nat.le_of_ble_eq_true rfl) ⟨Nat.le_trans (Nat.le_of_eq g2.2.2.2.1) hN, Nat.le_trans (Nat.le_of_eq g2.2.2.2.2) hU⟩ ?_
  show XB l Ls xs 14 538 false 288 N U F 766 [xf 50 1, xf 12 2, xf 13 104, xf 40001 152, xi i, x5, x6] [xi v2] h2
  have R2 := R1.fr g1.1 f2 rfl rfl rfl
  refine XB_path (sc := some (Ls, xs)) (inl := []) (n := 80) (sp := [23]) (o := []) (xin_ok rfl) (Or.inr rfl) rfl rfl (Nat.le_trans (Nat.le_of_eq g2.2.2.2.1) hN) (Nat.le_trans (Nat.le_of_eq g2.2.2.2.2) hU) trivial ?_
  show XB l Ls xs 14 538 false 288 N U F 23 [xf 50 1, xf 12 2, xf 13 104, xf 40001 152, xi (i + Int32.ofInt (6)), x5, x6] [] h2
  exact k h2 (x5) (x6) ⟨g2, R2⟩
set_option maxRecDepth 100000 in
set_option maxHeartbeats 4000000 in
theorem lw_c15 (l : Launch) (Ls : Nat) (xs : Nat → Int32) (N U : Nat) (F : List XV → XH → Prop) (i : Int32) (x5 x6 : XV) (h : XH) (H : vLw h) (i0 : 0 ≤ i.toInt) (i1 : i.toInt + 6 ≤ Ls) (hL : Ls ≤ 3072) (eL : (Int32.ofNat Ls - (Int32.ofInt (6))).toInt = Ls - 6) (hN : 153 ≤ N) (hU : 6051 ≤ U) (hc : (xs (i).toNatClampNeg &&& (Int32.ofInt (63))).toInt = 15) (k : ∀ h' x5' x6', vLw h' → XB l Ls xs 14 538 false 288 N U F 23 [xf 50 1, xf 12 2, xf 13 104, xf 40001 152, xi (i + (Int32.ofInt (6))), x5', x6'] [] h') : XB l Ls xs 14 538 false 288 N U F 23 [xf 50 1, xf 12 2, xf 13 104, xf 40001 152, xi i, x5, x6] [] h := by
  have e1 : (i + (Int32.ofInt (1))).toInt = i.toInt + 1 := by rw [Int32.toInt_add, show (Int32.ofInt (1)).toInt = 1 from rfl]; exact Int.bmod_eq_of_le (by omega) (by omega)
  have e2 : (i + (Int32.ofInt (2))).toInt = i.toInt + 2 := by rw [Int32.toInt_add, show (Int32.ofInt (2)).toInt = 2 from rfl]; exact Int.bmod_eq_of_le (by omega) (by omega)
  have e3 : (i + (Int32.ofInt (3))).toInt = i.toInt + 3 := by rw [Int32.toInt_add, show (Int32.ofInt (3)).toInt = 3 from rfl]; exact Int.bmod_eq_of_le (by omega) (by omega)
  have e4 : (i + (Int32.ofInt (4))).toInt = i.toInt + 4 := by rw [Int32.toInt_add, show (Int32.ofInt (4)).toInt = 4 from rfl]; exact Int.bmod_eq_of_le (by omega) (by omega)
  have e5 : (i + (Int32.ofInt (5))).toInt = i.toInt + 5 := by rw [Int32.toInt_add, show (Int32.ofInt (5)).toInt = 5 from rfl]; exact Int.bmod_eq_of_le (by omega) (by omega)
  have hg := H.1
  have R0 := H.2
  refine XB_path (sc := some (Ls, xs)) (inl := []) (n := 80) (sp := [777]) (o := [0, 16]) (xin_ok rfl) (Or.inr rfl) rfl rfl (Nat.le_trans (Nat.le_of_eq hg.2.2.2.1) hN) (Nat.le_trans (Nat.le_of_eq hg.2.2.2.2) hU) ⟨⟨⟨⟨trivial, (fun z => absurd (Int32.lt_iff_toInt_lt.mp z) (by omega))⟩, (vp_of (i := i) (n := Ls) (by omega) (by omega))⟩, ⟨hc, by decide⟩⟩, (vp_of (i := (i + (Int32.ofInt (1)))) (n := Ls) (by omega) (by omega))⟩ ?_
  show XB l Ls xs 14 538 false 288 N U F 777 [xf 50 1, xf 12 2, xf 13 104, xf 40001 152, xi i, x5, x6] [xi (xs ((i + (Int32.ofInt (1)))).toNatClampNeg), xf 12 2] h
  obtain ⟨v1, h1, cc1, g1, f1, -⟩ := vl_107 l ((xs ((i + (Int32.ofInt (1)))).toNatClampNeg)) h hg (i32r_of _)
  refine XB_call (i := .invokevirtual 107) (aux := 2) (nx := 780) (K := 107) (vs := [xf 12 2, xi (xs ((i + (Int32.ofInt (1)))).toNatClampNeg)]) (rs := [xi v1]) (rest := []) rfl rfl rfl rfl rfl rfl cc1 (by decide) (by decide) (Nat.le_of_ble_eq_true rfl) ⟨Nat.le_trans (Nat.le_of_eq g1.2.2.2.1) hN, Nat.le_trans (Nat.le_of_eq g1.2.2.2.2) hU⟩ ?_
  show XB l Ls xs 14 538 false 288 N U F 780 [xf 50 1, xf 12 2, xf 13 104, xf 40001 152, xi i, x5, x6] [xi v1] h1
  have R1 := R0.fr hg.1 f1 rfl rfl rfl
  refine XB_path (sc := some (Ls, xs)) (inl := []) (n := 80) (sp := [788]) (o := []) (xin_ok rfl) (Or.inr rfl) rfl rfl (Nat.le_trans (Nat.le_of_eq g1.2.2.2.1) hN) (Nat.le_trans (Nat.le_of_eq g1.2.2.2.2) hU) ⟨trivial, (vp_of (i := (i + (Int32.ofInt (1)))) (n := Ls) (by omega) (by omega))⟩ ?_
  show XB l Ls xs 14 538 false 288 N U F 788 [xf 50 1, xf 12 2, xf 13 104, xf 40001 152, xi i, x5, x6] [xi (xs ((i + (Int32.ofInt (1)))).toNatClampNeg), xf 13 104] h1
  obtain ⟨v2, h2, cc2, g2, f2, -⟩ := vl_250 l ((xs ((i + (Int32.ofInt (1)))).toNatClampNeg)) h1 g1 (i32r_of _)
  refine XB_call (i := .invokevirtual 250) (aux := 2) (nx := 791) (K := 250) (vs := [xf 13 104, xi (xs ((i + (Int32.ofInt (1)))).toNatClampNeg)]) (rs := [xi v2]) (rest := []) rfl rfl rfl rfl rfl rfl cc2 (by decide) (by decide) (Nat.le_of_ble_eq_true rfl) ⟨Nat.le_trans (Nat.le_of_eq g2.2.2.2.1) hN, Nat.le_trans (Nat.le_of_eq g2.2.2.2.2) hU⟩ ?_
  show XB l Ls xs 14 538 false 288 N U F 791 [xf 50 1, xf 12 2, xf 13 104, xf 40001 152, xi i, x5, x6] [xi v2] h2
  have R2 := R1.fr g1.1 f2 rfl rfl rfl
  refine XB_path (sc := some (Ls, xs)) (inl := []) (n := 80) (sp := [23]) (o := []) (xin_ok rfl) (Or.inr rfl) rfl rfl (Nat.le_trans (Nat.le_of_eq g2.2.2.2.1) hN) (Nat.le_trans (Nat.le_of_eq g2.2.2.2.2) hU) trivial ?_
  show XB l Ls xs 14 538 false 288 N U F 23 [xf 50 1, xf 12 2, xf 13 104, xf 40001 152, xi (i + Int32.ofInt (6)), x5, x6] [] h2
  exact k h2 (x5) (x6) ⟨g2, R2⟩
set_option maxRecDepth 100000 in
set_option maxHeartbeats 4000000 in
theorem lw_c16 (l : Launch) (Ls : Nat) (xs : Nat → Int32) (N U : Nat) (F : List XV → XH → Prop) (i : Int32) (x5 x6 : XV) (h : XH) (H : vLw h) (i0 : 0 ≤ i.toInt) (i1 : i.toInt + 6 ≤ Ls) (hL : Ls ≤ 3072) (eL : (Int32.ofNat Ls - (Int32.ofInt (6))).toInt = Ls - 6) (hN : 153 ≤ N) (hU : 6051 ≤ U) (hc : (xs (i).toNatClampNeg &&& (Int32.ofInt (63))).toInt = 16) (k : ∀ h' x5' x6', vLw h' → XB l Ls xs 14 538 false 288 N U F 23 [xf 50 1, xf 12 2, xf 13 104, xf 40001 152, xi (i + (Int32.ofInt (6))), x5', x6'] [] h') : XB l Ls xs 14 538 false 288 N U F 23 [xf 50 1, xf 12 2, xf 13 104, xf 40001 152, xi i, x5, x6] [] h := by
  have e1 : (i + (Int32.ofInt (1))).toInt = i.toInt + 1 := by rw [Int32.toInt_add, show (Int32.ofInt (1)).toInt = 1 from rfl]; exact Int.bmod_eq_of_le (by omega) (by omega)
  have e2 : (i + (Int32.ofInt (2))).toInt = i.toInt + 2 := by rw [Int32.toInt_add, show (Int32.ofInt (2)).toInt = 2 from rfl]; exact Int.bmod_eq_of_le (by omega) (by omega)
  have e3 : (i + (Int32.ofInt (3))).toInt = i.toInt + 3 := by rw [Int32.toInt_add, show (Int32.ofInt (3)).toInt = 3 from rfl]; exact Int.bmod_eq_of_le (by omega) (by omega)
  have e4 : (i + (Int32.ofInt (4))).toInt = i.toInt + 4 := by rw [Int32.toInt_add, show (Int32.ofInt (4)).toInt = 4 from rfl]; exact Int.bmod_eq_of_le (by omega) (by omega)
  have e5 : (i + (Int32.ofInt (5))).toInt = i.toInt + 5 := by rw [Int32.toInt_add, show (Int32.ofInt (5)).toInt = 5 from rfl]; exact Int.bmod_eq_of_le (by omega) (by omega)
  have hg := H.1
  have R0 := H.2
  by_cases c1 : (xs ((i + (Int32.ofInt (2)))).toNatClampNeg) = 0
  · refine XB_path (sc := some (Ls, xs)) (inl := []) (n := 80) (sp := [816]) (o := [0, 17, 1]) (xin_ok rfl) (Or.inr rfl) rfl rfl (Nat.le_trans (Nat.le_of_eq hg.2.2.2.1) hN) (Nat.le_trans (Nat.le_of_eq hg.2.2.2.2) hU) ⟨⟨⟨⟨⟨⟨trivial, (fun z => absurd (Int32.lt_iff_toInt_lt.mp z) (by omega))⟩, (vp_of (i := i) (n := Ls) (by omega) (by omega))⟩, ⟨hc, by decide⟩⟩, (vp_of (i := (i + (Int32.ofInt (1)))) (n := Ls) (by omega) (by omega))⟩, (vp_of (i := (i + (Int32.ofInt (2)))) (n := Ls) (by omega) (by omega))⟩, c1⟩ ?_
    show XB l Ls xs 14 538 false 288 N U F 816 [xf 50 1, xf 12 2, xf 13 104, xf 40001 152, xi i, x5, x6] [xi (Int32.ofInt (0)), xi (xs ((i + (Int32.ofInt (1)))).toNatClampNeg), xf 12 2] h
    obtain ⟨v1, h1, cc1, g1, f1, -⟩ := vl_111 l ((xs ((i + (Int32.ofInt (1)))).toNatClampNeg)) ((Int32.ofInt (0))) h hg (i32r_of _) ⟨by decide, by decide⟩
    refine XB_call (i := .invokevirtual 111) (aux := 3) (nx := 819) (K := 111) (vs := [xf 12 2, xi (xs ((i + (Int32.ofInt (1)))).toNatClampNeg), xi (Int32.ofInt (0))]) (rs := [xi v1]) (rest := []) rfl rfl rfl rfl rfl rfl cc1 (by decide) (by decide) (Nat.le_of_ble_eq_true rfl) ⟨Nat.le_trans (Nat.le_of_eq g1.2.2.2.1) hN, Nat.le_trans (Nat.le_of_eq g1.2.2.2.2) hU⟩ ?_
    show XB l Ls xs 14 538 false 288 N U F 819 [xf 50 1, xf 12 2, xf 13 104, xf 40001 152, xi i, x5, x6] [xi v1] h1
    have R1 := R0.fr hg.1 f1 rfl rfl rfl
    refine XB_path (sc := some (Ls, xs)) (inl := []) (n := 80) (sp := [841]) (o := [1]) (xin_ok rfl) (Or.inr rfl) rfl rfl (Nat.le_trans (Nat.le_of_eq g1.2.2.2.1) hN) (Nat.le_trans (Nat.le_of_eq g1.2.2.2.2) hU) ⟨⟨⟨trivial, (vp_of (i := (i + (Int32.ofInt (1)))) (n := Ls) (by omega) (by omega))⟩, (vp_of (i := (i + (Int32.ofInt (2)))) (n := Ls) (by omega) (by omega))⟩, c1⟩ ?_
    show XB l Ls xs 14 538 false 288 N U F 841 [xf 50 1, xf 12 2, xf 13 104, xf 40001 152, xi i, x5, x6] [xi (Int32.ofInt (0)), xi (xs ((i + (Int32.ofInt (1)))).toNatClampNeg), xf 13 104] h1
    obtain ⟨v2, h2, cc2, g2, f2, -⟩ := vl_253 l ((xs ((i + (Int32.ofInt (1)))).toNatClampNeg)) ((Int32.ofInt (0))) h1 g1 (i32r_of _) ⟨by decide, by decide⟩
    refine XB_call (i := .invokevirtual 253) (aux := 3) (nx := 844) (K := 253) (vs := [xf 13 104, xi (xs ((i + (Int32.ofInt (1)))).toNatClampNeg), xi (Int32.ofInt (0))]) (rs := [xi v2]) (rest := []) rfl rfl rfl rfl rfl rfl cc2 (by decide) (by decide) (Nat.le_of_ble_eq_true rfl) ⟨Nat.le_trans (Nat.le_of_eq g2.2.2.2.1) hN, Nat.le_trans (Nat.le_of_eq g2.2.2.2.2) hU⟩ ?_
    show XB l Ls xs 14 538 false 288 N U F 844 [xf 50 1, xf 12 2, xf 13 104, xf 40001 152, xi i, x5, x6] [xi v2] h2
    have R2 := R1.fr g1.1 f2 rfl rfl rfl
    refine XB_path (sc := some (Ls, xs)) (inl := []) (n := 80) (sp := [23]) (o := []) (xin_ok rfl) (Or.inr rfl) rfl rfl (Nat.le_trans (Nat.le_of_eq g2.2.2.2.1) hN) (Nat.le_trans (Nat.le_of_eq g2.2.2.2.2) hU) trivial ?_
    show XB l Ls xs 14 538 false 288 N U F 23 [xf 50 1, xf 12 2, xf 13 104, xf 40001 152, xi (i + Int32.ofInt (6)), x5, x6] [] h2
    exact k h2 (x5) (x6) ⟨g2, R2⟩
  · refine XB_path (sc := some (Ls, xs)) (inl := []) (n := 80) (sp := [816]) (o := [0, 17, 0]) (xin_ok rfl) (Or.inr rfl) rfl rfl (Nat.le_trans (Nat.le_of_eq hg.2.2.2.1) hN) (Nat.le_trans (Nat.le_of_eq hg.2.2.2.2) hU) ⟨⟨⟨⟨⟨⟨trivial, (fun z => absurd (Int32.lt_iff_toInt_lt.mp z) (by omega))⟩, (vp_of (i := i) (n := Ls) (by omega) (by omega))⟩, ⟨hc, by decide⟩⟩, (vp_of (i := (i + (Int32.ofInt (1)))) (n := Ls) (by omega) (by omega))⟩, (vp_of (i := (i + (Int32.ofInt (2)))) (n := Ls) (by omega) (by omega))⟩, c1⟩ ?_
    show XB l Ls xs 14 538 false 288 N U F 816 [xf 50 1, xf 12 2, xf 13 104, xf 40001 152, xi i, x5, x6] [xi (Int32.ofInt (1)), xi (xs ((i + (Int32.ofInt (1)))).toNatClampNeg), xf 12 2] h
    obtain ⟨v3, h3, cc3, g3, f3, -⟩ := vl_111 l ((xs ((i + (Int32.ofInt (1)))).toNatClampNeg)) ((Int32.ofInt (1))) h hg (i32r_of _) ⟨by decide, by decide⟩
    refine XB_call (i := .invokevirtual 111) (aux := 3) (nx := 819) (K := 111) (vs := [xf 12 2, xi (xs ((i + (Int32.ofInt (1)))).toNatClampNeg), xi (Int32.ofInt (1))]) (rs := [xi v3]) (rest := []) rfl rfl rfl rfl rfl rfl cc3 (by decide) (by decide) (Nat.le_of_ble_eq_true rfl) ⟨Nat.le_trans (Nat.le_of_eq g3.2.2.2.1) hN, Nat.le_trans (Nat.le_of_eq g3.2.2.2.2) hU⟩ ?_
    show XB l Ls xs 14 538 false 288 N U F 819 [xf 50 1, xf 12 2, xf 13 104, xf 40001 152, xi i, x5, x6] [xi v3] h3
    have R3 := R0.fr hg.1 f3 rfl rfl rfl
    refine XB_path (sc := some (Ls, xs)) (inl := []) (n := 80) (sp := [841]) (o := [0]) (xin_ok rfl) (Or.inr rfl) rfl rfl (Nat.le_trans (Nat.le_of_eq g3.2.2.2.1) hN) (Nat.le_trans (Nat.le_of_eq g3.2.2.2.2) hU) ⟨⟨⟨trivial, (vp_of (i := (i + (Int32.ofInt (1)))) (n := Ls) (by omega) (by omega))⟩, (vp_of (i := (i + (Int32.ofInt (2)))) (n := Ls) (by omega) (by omega))⟩, c1⟩ ?_
    show XB l Ls xs 14 538 false 288 N U F 841 [xf 50 1, xf 12 2, xf 13 104, xf 40001 152, xi i, x5, x6] [xi (Int32.ofInt (1)), xi (xs ((i + (Int32.ofInt (1)))).toNatClampNeg), xf 13 104] h3
    obtain ⟨v4, h4, cc4, g4, f4, -⟩ := vl_253 l ((xs ((i + (Int32.ofInt (1)))).toNatClampNeg)) ((Int32.ofInt (1))) h3 g3 (i32r_of _) ⟨by decide, by decide⟩
    refine XB_call (i := .invokevirtual 253) (aux := 3) (nx := 844) (K := 253) (vs := [xf 13 104, xi (xs ((i + (Int32.ofInt (1)))).toNatClampNeg), xi (Int32.ofInt (1))]) (rs := [xi v4]) (rest := []) rfl rfl rfl rfl rfl rfl cc4 (by decide) (by decide) (Nat.le_of_ble_eq_true rfl) ⟨Nat.le_trans (Nat.le_of_eq g4.2.2.2.1) hN, Nat.le_trans (Nat.le_of_eq g4.2.2.2.2) hU⟩ ?_
    show XB l Ls xs 14 538 false 288 N U F 844 [xf 50 1, xf 12 2, xf 13 104, xf 40001 152, xi i, x5, x6] [xi v4] h4
    have R4 := R3.fr g3.1 f4 rfl rfl rfl
    refine XB_path (sc := some (Ls, xs)) (inl := []) (n := 80) (sp := [23]) (o := []) (xin_ok rfl) (Or.inr rfl) rfl rfl (Nat.le_trans (Nat.le_of_eq g4.2.2.2.1) hN) (Nat.le_trans (Nat.le_of_eq g4.2.2.2.2) hU) trivial ?_
    show XB l Ls xs 14 538 false 288 N U F 23 [xf 50 1, xf 12 2, xf 13 104, xf 40001 152, xi (i + Int32.ofInt (6)), x5, x6] [] h4
    exact k h4 (x5) (x6) ⟨g4, R4⟩
set_option maxRecDepth 100000 in
set_option maxHeartbeats 4000000 in
theorem lw_c17 (l : Launch) (Ls : Nat) (xs : Nat → Int32) (N U : Nat) (F : List XV → XH → Prop) (i : Int32) (x5 x6 : XV) (h : XH) (H : vLw h) (i0 : 0 ≤ i.toInt) (i1 : i.toInt + 6 ≤ Ls) (hL : Ls ≤ 3072) (eL : (Int32.ofNat Ls - (Int32.ofInt (6))).toInt = Ls - 6) (hN : 153 ≤ N) (hU : 6051 ≤ U) (hc : (xs (i).toNatClampNeg &&& (Int32.ofInt (63))).toInt = 17) (k : ∀ h' x5' x6', vLw h' → XB l Ls xs 14 538 false 288 N U F 23 [xf 50 1, xf 12 2, xf 13 104, xf 40001 152, xi (i + (Int32.ofInt (6))), x5', x6'] [] h') : XB l Ls xs 14 538 false 288 N U F 23 [xf 50 1, xf 12 2, xf 13 104, xf 40001 152, xi i, x5, x6] [] h := by
  have e1 : (i + (Int32.ofInt (1))).toInt = i.toInt + 1 := by rw [Int32.toInt_add, show (Int32.ofInt (1)).toInt = 1 from rfl]; exact Int.bmod_eq_of_le (by omega) (by omega)
  have e2 : (i + (Int32.ofInt (2))).toInt = i.toInt + 2 := by rw [Int32.toInt_add, show (Int32.ofInt (2)).toInt = 2 from rfl]; exact Int.bmod_eq_of_le (by omega) (by omega)
  have e3 : (i + (Int32.ofInt (3))).toInt = i.toInt + 3 := by rw [Int32.toInt_add, show (Int32.ofInt (3)).toInt = 3 from rfl]; exact Int.bmod_eq_of_le (by omega) (by omega)
  have e4 : (i + (Int32.ofInt (4))).toInt = i.toInt + 4 := by rw [Int32.toInt_add, show (Int32.ofInt (4)).toInt = 4 from rfl]; exact Int.bmod_eq_of_le (by omega) (by omega)
  have e5 : (i + (Int32.ofInt (5))).toInt = i.toInt + 5 := by rw [Int32.toInt_add, show (Int32.ofInt (5)).toInt = 5 from rfl]; exact Int.bmod_eq_of_le (by omega) (by omega)
  have hg := H.1
  have R0 := H.2
  refine XB_path (sc := some (Ls, xs)) (inl := []) (n := 80) (sp := [855]) (o := [0, 18]) (xin_ok rfl) (Or.inr rfl) rfl rfl (Nat.le_trans (Nat.le_of_eq hg.2.2.2.1) hN) (Nat.le_trans (Nat.le_of_eq hg.2.2.2.2) hU) ⟨⟨⟨⟨trivial, (fun z => absurd (Int32.lt_iff_toInt_lt.mp z) (by omega))⟩, (vp_of (i := i) (n := Ls) (by omega) (by omega))⟩, ⟨hc, by decide⟩⟩, (vp_of (i := (i + (Int32.ofInt (1)))) (n := Ls) (by omega) (by omega))⟩ ?_
  show XB l Ls xs 14 538 false 288 N U F 855 [xf 50 1, xf 12 2, xf 13 104, xf 40001 152, xi i, x5, x6] [xi (xs ((i + (Int32.ofInt (1)))).toNatClampNeg), xf 12 2] h
  obtain ⟨v1, h1, cc1, g1, f1, -⟩ := vl_115 l ((xs ((i + (Int32.ofInt (1)))).toNatClampNeg)) h hg (i32r_of _)
  refine XB_call (i := .invokevirtual 115) (aux := 2) (nx := 858) (K := 115) (vs := [xf 12 2, xi (xs ((i + (Int32.ofInt (1)))).toNatClampNeg)]) (rs := [xi v1]) (rest := []) rfl rfl rfl rfl rfl rfl cc1 (by decide) (by decide) (Nat.le_of_ble_eq_true rfl) ⟨Nat.le_trans (Nat.le_of_eq g1.2.2.2.1) hN, Nat.le_trans (Nat.le_of_eq g1.2.2.2.2) hU⟩ ?_
  show XB l Ls xs 14 538 false 288 N U F 858 [xf 50 1, xf 12 2, xf 13 104, xf 40001 152, xi i, x5, x6] [xi v1] h1
  have R1 := R0.fr hg.1 f1 rfl rfl rfl
  refine XB_path (sc := some (Ls, xs)) (inl := []) (n := 80) (sp := [866]) (o := []) (xin_ok rfl) (Or.inr rfl) rfl rfl (Nat.le_trans (Nat.le_of_eq g1.2.2.2.1) hN) (Nat.le_trans (Nat.le_of_eq g1.2.2.2.2) hU) ⟨trivial, (vp_of (i := (i + (Int32.ofInt (1)))) (n := Ls) (by omega) (by omega))⟩ ?_
  show XB l Ls xs 14 538 false 288 N U F 866 [xf 50 1, xf 12 2, xf 13 104, xf 40001 152, xi i, x5, x6] [xi (xs ((i + (Int32.ofInt (1)))).toNatClampNeg), xf 13 104] h1
  obtain ⟨v2, h2, cc2, g2, f2, -⟩ := vl_255 l ((xs ((i + (Int32.ofInt (1)))).toNatClampNeg)) h1 g1 (i32r_of _)
  refine XB_call (i := .invokevirtual 255) (aux := 2) (nx := 869) (K := 255) (vs := [xf 13 104, xi (xs ((i + (Int32.ofInt (1)))).toNatClampNeg)]) (rs := [xi v2]) (rest := []) rfl rfl rfl rfl rfl rfl cc2 (by decide) (by decide) (Nat.le_of_ble_eq_true rfl) ⟨Nat.le_trans (Nat.le_of_eq g2.2.2.2.1) hN, Nat.le_trans (Nat.le_of_eq g2.2.2.2.2) hU⟩ ?_
  show XB l Ls xs 14 538 false 288 N U F 869 [xf 50 1, xf 12 2, xf 13 104, xf 40001 152, xi i, x5, x6] [xi v2] h2
  have R2 := R1.fr g1.1 f2 rfl rfl rfl
  refine XB_path (sc := some (Ls, xs)) (inl := []) (n := 80) (sp := [23]) (o := []) (xin_ok rfl) (Or.inr rfl) rfl rfl (Nat.le_trans (Nat.le_of_eq g2.2.2.2.1) hN) (Nat.le_trans (Nat.le_of_eq g2.2.2.2.2) hU) trivial ?_
  show XB l Ls xs 14 538 false 288 N U F 23 [xf 50 1, xf 12 2, xf 13 104, xf 40001 152, xi (i + Int32.ofInt (6)), x5, x6] [] h2
  exact k h2 (x5) (x6) ⟨g2, R2⟩
