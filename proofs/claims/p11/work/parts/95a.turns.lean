/-! THE LAW: a turn, call by call. -/
theorem jk_sea149 {h h' : XH} {k : Nat} (G : mW (fun c k : Nat => ((c = 104 ∧ (k = 2 ∨ k = 54 ∨ k = 63 ∨ k = 64 ∨ k = 76)) ∨ c = 139 ∨ ((c = 133 ∨ c = 134) ∧ k < 6) ∨ ((c = 136 ∨ c = 137) ∧ k < 8) ∨ (c = 138 ∧ k = 0))) h h') : xI h' 149 k = xI h 149 k := G.k (fun z => by
  have z : ((149 = 104 ∧ (k = 2 ∨ k = 54 ∨ k = 63 ∨ k = 64 ∨ k = 76)) ∨ 149 = 139 ∨ ((149 = 133 ∨ 149 = 134) ∧ k < 6) ∨ ((149 = 136 ∨ 149 = 137) ∧ k < 8) ∨ (149 = 138 ∧ k = 0)) := z
  omega)
theorem jk_kp149 {h h' : XH} {k : Nat} (G : mW (fun c k : Nat => ((c = 104 ∧ (k = 2 ∨ k = 78)) ∨ c = 150 ∨ c = 151)) h h') : xI h' 149 k = xI h 149 k := G.k (fun z => by
  have z : ((149 = 104 ∧ (k = 2 ∨ k = 78)) ∨ 149 = 150 ∨ 149 = 151) := z
  omega)
theorem jk_kp76 {h h' : XH} (G : mW (fun c k : Nat => ((c = 104 ∧ (k = 2 ∨ k = 78)) ∨ c = 150 ∨ c = 151)) h h') : xI h' 104 76 = xI h 104 76 := G.k (fun z => by
  have z : ((104 = 104 ∧ (76 = 2 ∨ 76 = 78)) ∨ 104 = 150 ∨ 104 = 151) := z
  omega)
theorem vl_69 (l : Launch) (x0 : Int32) (h : XH) (hg : sgood vT vR vE 153 6051 h) (a0 : (-2147483648) ≤ x0.toInt ∧ x0.toInt ≤ 2147483647) : ∃ (v : Int32) (h' : XH), CX l 0 0 false 69 [xf 12 2, xi x0] h [xi v] h' ∧ sgood vT vR vE 153 6051 h' ∧ sframe ([], []) h h' ∧ (((1 ≤ x0.toInt ∧ x0.toInt ≤ 1) ∧ ((-1) ≤ v.toInt ∧ v.toInt ≤ 700)) ∨ ((0 ≤ x0.toInt ∧ x0.toInt ≤ 0) ∧ (0 ≤ v.toInt ∧ v.toInt ≤ 5)) ∨ (((-1) ≤ v.toInt ∧ v.toInt ≤ (-1)))) := by
  have ha : sargs (cap vC_68) [xf 12 2, xi x0] := ⟨rfl, a0, trivial⟩
  obtain ⟨ρ, rs, h', ⟨hv, hw⟩, c, g, f, cs, hcs, k1, k2, k3, k4, k5, k6⟩ := vc_68 l [xf 12 2, xi x0] h ha hg (fun q hq => absurd hq List.not_mem_nil) (fun q hq => absurd hq List.not_mem_nil) (fun ρ hρ g hg' => absurd hg' List.not_mem_nil)
  have e0 : ρ 0 = x0.toInt := hv.1
  rcases List.mem_cons.mp hcs with rfl | hcs
  · obtain ⟨v, rfl, kv⟩ := sres_i k3
    exact ⟨v, h', c, g, f, Or.inl ⟨(by have z := k1 0 _ rfl; rw [e0] at z; exact z), kv⟩⟩
  rcases List.mem_cons.mp hcs with rfl | hcs
  · obtain ⟨v, rfl, kv⟩ := sres_i k3
    exact ⟨v, h', c, g, f, Or.inr (Or.inl ⟨(by have z := k1 0 _ rfl; rw [e0] at z; exact z), kv⟩)⟩
  rcases List.mem_cons.mp hcs with rfl | hcs
  · obtain ⟨v, rfl, kv⟩ := sres_i k3
    exact ⟨v, h', c, g, f, Or.inr (Or.inr (kv))⟩
  exact absurd hcs List.not_mem_nil
theorem vl_211 (l : Launch) (x0 : Int32) (h : XH) (hg : sgood vT vR vE 153 6051 h) (a0 : (-2147483648) ≤ x0.toInt ∧ x0.toInt ≤ 2147483647) : ∃ (v : Int32) (h' : XH), CX l 0 0 false 211 [xf 13 104, xi x0] h [xi v] h' ∧ sgood vT vR vE 153 6051 h' ∧ sframe ([(104, 2, false)], []) h h' ∧ (((0 ≤ x0.toInt ∧ x0.toInt ≤ 0) ∧ (0 ≤ v.toInt ∧ v.toInt ≤ 5)) ∨ ((1 ≤ x0.toInt ∧ x0.toInt ≤ 1) ∧ ((-1) ≤ v.toInt ∧ v.toInt ≤ 700)) ∨ (((-1) ≤ v.toInt ∧ v.toInt ≤ (-1)))) := by
  have ha : sargs (cap vC_69) [xf 13 104, xi x0] := ⟨rfl, a0, trivial⟩
  obtain ⟨ρ, rs, h', ⟨hv, hw⟩, c, g, f, cs, hcs, k1, k2, k3, k4, k5, k6⟩ := vc_69 l [xf 13 104, xi x0] h ha hg (fun q hq => absurd hq List.not_mem_nil) (fun q hq => absurd hq List.not_mem_nil) (fun ρ hρ g hg' => absurd hg' List.not_mem_nil)
  have e0 : ρ 0 = x0.toInt := hv.1
  rcases List.mem_cons.mp hcs with rfl | hcs
  · obtain ⟨v, rfl, kv⟩ := sres_i k3
    exact ⟨v, h', c, g, f, Or.inl ⟨(by have z := k1 0 _ rfl; rw [e0] at z; exact z), kv⟩⟩
  rcases List.mem_cons.mp hcs with rfl | hcs
  · obtain ⟨v, rfl, kv⟩ := sres_i k3
    exact ⟨v, h', c, g, f, Or.inr (Or.inl ⟨(by have z := k1 0 _ rfl; rw [e0] at z; exact z), kv⟩)⟩
  rcases List.mem_cons.mp hcs with rfl | hcs
  · obtain ⟨v, rfl, kv⟩ := sres_i k3
    exact ⟨v, h', c, g, f, Or.inr (Or.inr (kv))⟩
  exact absurd hcs List.not_mem_nil
theorem vl_70 (l : Launch) (x0 : Int32) (x1 : Int32) (h : XH) (hg : sgood vT vR vE 153 6051 h) (a0 : (-2147483648) ≤ x0.toInt ∧ x0.toInt ≤ 2147483647) (a1 : (-2147483648) ≤ x1.toInt ∧ x1.toInt ≤ 2147483647) : ∃ (v : Int32) (h' : XH), CX l 1 22 false 70 [xf 12 2, xi x0, xi x1] h [xi v] h' ∧ sgood vT vR vE 153 6051 h' ∧ sframe ([], []) h h' ∧ ((((-1) ≤ v.toInt ∧ v.toInt ≤ (-1))) ∨ ((0 ≤ x0.toInt ∧ x0.toInt ≤ 1) ∧ (0 ≤ v.toInt ∧ v.toInt ≤ 7))) := by
  have ha : sargs (cap vC_70) [xf 12 2, xi x0, xi x1] := ⟨rfl, a0, a1, trivial⟩
  obtain ⟨ρ, rs, h', ⟨hv, hw⟩, c, g, f, cs, hcs, k1, k2, k3, k4, k5, k6⟩ := vc_70 l [xf 12 2, xi x0, xi x1] h ha hg (fun q hq => absurd hq List.not_mem_nil) (fun q hq => absurd hq List.not_mem_nil) (fun ρ hρ g hg' => absurd hg' List.not_mem_nil)
  have e0 : ρ 0 = x0.toInt := hv.1
  have e1 : ρ 1 = x1.toInt := hv.2.1
  rcases List.mem_cons.mp hcs with rfl | hcs
  · obtain ⟨v, rfl, kv⟩ := sres_i k3
    exact ⟨v, h', c, g, f, Or.inl kv⟩
  rcases List.mem_cons.mp hcs with rfl | hcs
  · obtain ⟨v, rfl, kv⟩ := sres_i k3
    exact ⟨v, h', c, g, f, Or.inr (⟨(by have z := k1 0 _ rfl; rw [e0] at z; exact z), kv⟩)⟩
  exact absurd hcs List.not_mem_nil
theorem vl_212 (l : Launch) (x0 : Int32) (x1 : Int32) (h : XH) (hg : sgood vT vR vE 153 6051 h) (a0 : (-2147483648) ≤ x0.toInt ∧ x0.toInt ≤ 2147483647) (a1 : (-2147483648) ≤ x1.toInt ∧ x1.toInt ≤ 2147483647) : ∃ (v : Int32) (h' : XH), CX l 1 24 false 212 [xf 13 104, xi x0, xi x1] h [xi v] h' ∧ sgood vT vR vE 153 6051 h' ∧ sframe ([(104, 2, false)], []) h h' ∧ ((((-1) ≤ v.toInt ∧ v.toInt ≤ (-1))) ∨ ((0 ≤ x0.toInt ∧ x0.toInt ≤ 1) ∧ (0 ≤ v.toInt ∧ v.toInt ≤ 7))) := by
  have ha : sargs (cap vC_73) [xf 13 104, xi x0, xi x1] := ⟨rfl, a0, a1, trivial⟩
  obtain ⟨ρ, rs, h', ⟨hv, hw⟩, c, g, f, cs, hcs, k1, k2, k3, k4, k5, k6⟩ := vc_73 l [xf 13 104, xi x0, xi x1] h ha hg (fun q hq => absurd hq List.not_mem_nil) (fun q hq => absurd hq List.not_mem_nil) (fun ρ hρ g hg' => absurd hg' List.not_mem_nil)
  have e0 : ρ 0 = x0.toInt := hv.1
  have e1 : ρ 1 = x1.toInt := hv.2.1
  rcases List.mem_cons.mp hcs with rfl | hcs
  · obtain ⟨v, rfl, kv⟩ := sres_i k3
    exact ⟨v, h', c, g, f, Or.inl kv⟩
  rcases List.mem_cons.mp hcs with rfl | hcs
  · obtain ⟨v, rfl, kv⟩ := sres_i k3
    exact ⟨v, h', c, g, f, Or.inr (⟨(by have z := k1 0 _ rfl; rw [e0] at z; exact z), kv⟩)⟩
  exact absurd hcs List.not_mem_nil
theorem vl_213 (l : Launch) (x0 : Int32) (x1 : Int32) (h : XH) (hg : sgood vT vR vE 153 6051 h) (a0 : (-2147483648) ≤ x0.toInt ∧ x0.toInt ≤ 2147483647) (a1 : (-2147483648) ≤ x1.toInt ∧ x1.toInt ≤ 2147483647) : ∃ (v : Int32) (h' : XH), CX l 8 218 false 213 [xf 13 104, xi x0, xi x1] h [xi v] h' ∧ sgood vT vR vE 153 6051 h' ∧ sframe ([(104, 2, false), (104, 54, false), (104, 63, false), (104, 64, false)], []) h h' ∧ (((0 ≤ v.toInt ∧ v.toInt ≤ 0)) ∨ ((0 ≤ x0.toInt ∧ x0.toInt ≤ 7) ∧ (3 ≤ x1.toInt ∧ x1.toInt ≤ 5) ∧ (1 ≤ v.toInt ∧ v.toInt ≤ 1)) ∨ ((0 ≤ x0.toInt ∧ x0.toInt ≤ 7) ∧ (3 ≤ x1.toInt ∧ x1.toInt ≤ 4) ∧ ((-2147483648) ≤ v.toInt ∧ v.toInt ≤ 2147483647)) ∨ ((0 ≤ x0.toInt ∧ x0.toInt ≤ 7) ∧ (3 ≤ x1.toInt ∧ x1.toInt ≤ 3) ∧ ((-1) ≤ v.toInt ∧ v.toInt ≤ (-1))) ∨ ((0 ≤ x0.toInt ∧ x0.toInt ≤ 7) ∧ (0 ≤ x1.toInt ∧ x1.toInt ≤ 2) ∧ (0 ≤ v.toInt ∧ v.toInt ≤ 9))) := by
  have ha : sargs (cap vC_87) [xf 13 104, xi x0, xi x1] := ⟨rfl, a0, a1, trivial⟩
  obtain ⟨ρ, rs, h', ⟨hv, hw⟩, c, g, f, cs, hcs, k1, k2, k3, k4, k5, k6⟩ := vc_87 l [xf 13 104, xi x0, xi x1] h ha hg (fun q hq => absurd hq List.not_mem_nil) (fun q hq => absurd hq List.not_mem_nil) (fun ρ hρ g hg' => absurd hg' List.not_mem_nil)
  have e0 : ρ 0 = x0.toInt := hv.1
  have e1 : ρ 1 = x1.toInt := hv.2.1
  rcases List.mem_cons.mp hcs with rfl | hcs
  · obtain ⟨v, rfl, kv⟩ := sres_i k3
    exact ⟨v, h', c, g, f, Or.inl kv⟩
  rcases List.mem_cons.mp hcs with rfl | hcs
  · obtain ⟨v, rfl, kv⟩ := sres_i k3
    exact ⟨v, h', c, g, f, Or.inr (Or.inl ⟨(by have z := k1 0 _ rfl; rw [e0] at z; exact z), (by have z := k1 1 _ rfl; rw [e1] at z; exact z), kv⟩)⟩
  rcases List.mem_cons.mp hcs with rfl | hcs
  · obtain ⟨v, rfl, kv⟩ := sres_i k3
    exact ⟨v, h', c, g, f, Or.inr (Or.inr (Or.inl ⟨(by have z := k1 0 _ rfl; rw [e0] at z; exact z), (by have z := k1 1 _ rfl; rw [e1] at z; exact z), kv⟩))⟩
  rcases List.mem_cons.mp hcs with rfl | hcs
  · obtain ⟨v, rfl, kv⟩ := sres_i k3
    exact ⟨v, h', c, g, f, Or.inr (Or.inr (Or.inr (Or.inl ⟨(by have z := k1 0 _ rfl; rw [e0] at z; exact z), (by have z := k1 1 _ rfl; rw [e1] at z; exact z), kv⟩)))⟩
  rcases List.mem_cons.mp hcs with rfl | hcs
  · obtain ⟨v, rfl, kv⟩ := sres_i k3
    exact ⟨v, h', c, g, f, Or.inr (Or.inr (Or.inr (Or.inr (⟨(by have z := k1 0 _ rfl; rw [e0] at z; exact z), (by have z := k1 1 _ rfl; rw [e1] at z; exact z), kv⟩))))⟩
  exact absurd hcs List.not_mem_nil
theorem vl_71 (l : Launch) (x0 : Int32) (x1 : Int32) (h : XH) (hg : sgood vT vR vE 153 6051 h) (a0 : (-2147483648) ≤ x0.toInt ∧ x0.toInt ≤ 2147483647) (a1 : (-2147483648) ≤ x1.toInt ∧ x1.toInt ≤ 2147483647) : ∃ (v : Int32) (h' : XH), CX l 6 145 false 71 [xf 12 2, xi x0, xi x1] h [xi v] h' ∧ sgood vT vR vE 153 6051 h' ∧ sframe ([], []) h h' ∧ ((((-2147483648) ≤ v.toInt ∧ v.toInt ≤ 2147483647)) ∨ ((0 ≤ x0.toInt ∧ x0.toInt ≤ 5) ∧ (0 ≤ x1.toInt ∧ x1.toInt ≤ 5) ∧ (0 ≤ v.toInt ∧ v.toInt ≤ 9999))) := by
  have ha : sargs (cap vC_101) [xf 12 2, xi x0, xi x1] := ⟨rfl, a0, a1, trivial⟩
  obtain ⟨ρ, rs, h', ⟨hv, hw⟩, c, g, f, cs, hcs, k1, k2, k3, k4, k5, k6⟩ := vc_101 l [xf 12 2, xi x0, xi x1] h ha hg (fun q hq => absurd hq List.not_mem_nil) (fun q hq => absurd hq List.not_mem_nil) (fun ρ hρ g hg' => absurd hg' List.not_mem_nil)
  have e0 : ρ 0 = x0.toInt := hv.1
  have e1 : ρ 1 = x1.toInt := hv.2.1
  rcases List.mem_cons.mp hcs with rfl | hcs
  · obtain ⟨v, rfl, kv⟩ := sres_i k3
    exact ⟨v, h', c, g, f, Or.inl kv⟩
  rcases List.mem_cons.mp hcs with rfl | hcs
  · obtain ⟨v, rfl, kv⟩ := sres_i k3
    exact ⟨v, h', c, g, f, Or.inr (⟨(by have z := k1 0 _ rfl; rw [e0] at z; exact z), (by have z := k1 1 _ rfl; rw [e1] at z; exact z), kv⟩)⟩
  exact absurd hcs List.not_mem_nil
theorem vl_230 (l : Launch) (x0 : Int32) (x1 : Int32) (h : XH) (hg : sgood vT vR vE 153 6051 h) (a0 : (-2147483648) ≤ x0.toInt ∧ x0.toInt ≤ 2147483647) (a1 : (-2147483648) ≤ x1.toInt ∧ x1.toInt ≤ 2147483647) : ∃ (v : Int32) (h' : XH), CX l 9 242 false 230 [xf 13 104, xi x0, xi x1] h [xi v] h' ∧ sgood vT vR vE 153 6051 h' ∧ sframe ([(104, 2, false), (104, 54, false), (104, 63, false), (104, 64, false)], []) h h' ∧ ((((-2147483648) ≤ v.toInt ∧ v.toInt ≤ 2147483647)) ∨ ((0 ≤ x0.toInt ∧ x0.toInt ≤ 5) ∧ (1 ≤ x1.toInt ∧ x1.toInt ≤ 2) ∧ (0 ≤ v.toInt ∧ v.toInt ≤ 99))) := by
  have ha : sargs (cap vC_107) [xf 13 104, xi x0, xi x1] := ⟨rfl, a0, a1, trivial⟩
  obtain ⟨ρ, rs, h', ⟨hv, hw⟩, c, g, f, cs, hcs, k1, k2, k3, k4, k5, k6⟩ := vc_107 l [xf 13 104, xi x0, xi x1] h ha hg (fun q hq => absurd hq List.not_mem_nil) (fun q hq => absurd hq List.not_mem_nil) (fun ρ hρ g hg' => absurd hg' List.not_mem_nil)
  have e0 : ρ 0 = x0.toInt := hv.1
  have e1 : ρ 1 = x1.toInt := hv.2.1
  rcases List.mem_cons.mp hcs with rfl | hcs
  · obtain ⟨v, rfl, kv⟩ := sres_i k3
    exact ⟨v, h', c, g, f, Or.inl kv⟩
  rcases List.mem_cons.mp hcs with rfl | hcs
  · obtain ⟨v, rfl, kv⟩ := sres_i k3
    exact ⟨v, h', c, g, f, Or.inr (⟨(by have z := k1 0 _ rfl; rw [e0] at z; exact z), (by have z := k1 1 _ rfl; rw [e1] at z; exact z), kv⟩)⟩
  exact absurd hcs List.not_mem_nil
theorem vl_83 (l : Launch) (x0 : Int32) (x1 : Int32) (x2 : Int32) (h : XH) (hg : sgood vT vR vE 153 6051 h) (a0 : (-2147483648) ≤ x0.toInt ∧ x0.toInt ≤ 2147483647) (a1 : (-2147483648) ≤ x1.toInt ∧ x1.toInt ≤ 2147483647) (a2 : (-2147483648) ≤ x2.toInt ∧ x2.toInt ≤ 2147483647) : ∃ (v : Int32) (h' : XH), CX l 1 25 false 83 [xf 12 2, xi x0, xi x1, xi x2] h [xi v] h' ∧ sgood vT vR vE 153 6051 h' ∧ sframe ([], []) h h' ∧ ((((-1) ≤ v.toInt ∧ v.toInt ≤ (-1))) ∨ ((0 ≤ x0.toInt ∧ x0.toInt ≤ 5) ∧ (0 ≤ x1.toInt ∧ x1.toInt ≤ 5) ∧ (0 ≤ x2.toInt ∧ x2.toInt ≤ 1) ∧ ((-2) ≤ v.toInt ∧ v.toInt ≤ (-2))) ∨ ((0 ≤ x0.toInt ∧ x0.toInt ≤ 5) ∧ (0 ≤ x1.toInt ∧ x1.toInt ≤ 5) ∧ (0 ≤ x2.toInt ∧ x2.toInt ≤ 1) ∧ (0 ≤ v.toInt ∧ v.toInt ≤ 9))) := by
  have ha : sargs (cap vC_110) [xf 12 2, xi x0, xi x1, xi x2] := ⟨rfl, a0, a1, a2, trivial⟩
  obtain ⟨ρ, rs, h', ⟨hv, hw⟩, c, g, f, cs, hcs, k1, k2, k3, k4, k5, k6⟩ := vc_110 l [xf 12 2, xi x0, xi x1, xi x2] h ha hg (fun q hq => absurd hq List.not_mem_nil) (fun q hq => absurd hq List.not_mem_nil) (fun ρ hρ g hg' => absurd hg' List.not_mem_nil)
  have e0 : ρ 0 = x0.toInt := hv.1
  have e1 : ρ 1 = x1.toInt := hv.2.1
  have e2 : ρ 2 = x2.toInt := hv.2.2.1
  rcases List.mem_cons.mp hcs with rfl | hcs
  · obtain ⟨v, rfl, kv⟩ := sres_i k3
    exact ⟨v, h', c, g, f, Or.inl kv⟩
  rcases List.mem_cons.mp hcs with rfl | hcs
  · obtain ⟨v, rfl, kv⟩ := sres_i k3
    exact ⟨v, h', c, g, f, Or.inr (Or.inl ⟨(by have z := k1 0 _ rfl; rw [e0] at z; exact z), (by have z := k1 1 _ rfl; rw [e1] at z; exact z), (by have z := k1 2 _ rfl; rw [e2] at z; exact z), kv⟩)⟩
  rcases List.mem_cons.mp hcs with rfl | hcs
  · obtain ⟨v, rfl, kv⟩ := sres_i k3
    exact ⟨v, h', c, g, f, Or.inr (Or.inr (⟨(by have z := k1 0 _ rfl; rw [e0] at z; exact z), (by have z := k1 1 _ rfl; rw [e1] at z; exact z), (by have z := k1 2 _ rfl; rw [e2] at z; exact z), kv⟩))⟩
  exact absurd hcs List.not_mem_nil
theorem vl_235 (l : Launch) (x0 : Int32) (x1 : Int32) (x2 : Int32) (h : XH) (hg : sgood vT vR vE 153 6051 h) (a0 : (-2147483648) ≤ x0.toInt ∧ x0.toInt ≤ 2147483647) (a1 : (-2147483648) ≤ x1.toInt ∧ x1.toInt ≤ 2147483647) (a2 : (-2147483648) ≤ x2.toInt ∧ x2.toInt ≤ 2147483647) : ∃ (v : Int32) (h' : XH), CX l 2 45 false 235 [xf 13 104, xi x0, xi x1, xi x2] h [xi v] h' ∧ sgood vT vR vE 153 6051 h' ∧ sframe ([(104, 2, false), (104, 63, false), (104, 64, false)], []) h h' ∧ ((((-1) ≤ v.toInt ∧ v.toInt ≤ (-1))) ∨ ((0 ≤ x0.toInt ∧ x0.toInt ≤ 5) ∧ (0 ≤ x1.toInt ∧ x1.toInt ≤ 5) ∧ (0 ≤ x2.toInt ∧ x2.toInt ≤ 1) ∧ ((-2) ≤ v.toInt ∧ v.toInt ≤ (-2))) ∨ ((0 ≤ x0.toInt ∧ x0.toInt ≤ 5) ∧ (0 ≤ x1.toInt ∧ x1.toInt ≤ 5) ∧ (0 ≤ x2.toInt ∧ x2.toInt ≤ 0) ∧ (0 ≤ v.toInt ∧ v.toInt ≤ 9)) ∨ ((0 ≤ x0.toInt ∧ x0.toInt ≤ 5) ∧ (0 ≤ x1.toInt ∧ x1.toInt ≤ 5) ∧ (1 ≤ x2.toInt ∧ x2.toInt ≤ 1) ∧ (0 ≤ v.toInt ∧ v.toInt ≤ 0)) ∨ ((0 ≤ x0.toInt ∧ x0.toInt ≤ 5) ∧ (0 ≤ x1.toInt ∧ x1.toInt ≤ 5) ∧ (1 ≤ x2.toInt ∧ x2.toInt ≤ 1) ∧ (1 ≤ v.toInt ∧ v.toInt ≤ 1))) := by
  have ha : sargs (cap vC_113) [xf 13 104, xi x0, xi x1, xi x2] := ⟨rfl, a0, a1, a2, trivial⟩
  obtain ⟨ρ, rs, h', ⟨hv, hw⟩, c, g, f, cs, hcs, k1, k2, k3, k4, k5, k6⟩ := vc_113 l [xf 13 104, xi x0, xi x1, xi x2] h ha hg (fun q hq => absurd hq List.not_mem_nil) (fun q hq => absurd hq List.not_mem_nil) (fun ρ hρ g hg' => absurd hg' List.not_mem_nil)
  have e0 : ρ 0 = x0.toInt := hv.1
  have e1 : ρ 1 = x1.toInt := hv.2.1
  have e2 : ρ 2 = x2.toInt := hv.2.2.1
  rcases List.mem_cons.mp hcs with rfl | hcs
  · obtain ⟨v, rfl, kv⟩ := sres_i k3
    exact ⟨v, h', c, g, f, Or.inl kv⟩
  rcases List.mem_cons.mp hcs with rfl | hcs
  · obtain ⟨v, rfl, kv⟩ := sres_i k3
    exact ⟨v, h', c, g, f, Or.inr (Or.inl ⟨(by have z := k1 0 _ rfl; rw [e0] at z; exact z), (by have z := k1 1 _ rfl; rw [e1] at z; exact z), (by have z := k1 2 _ rfl; rw [e2] at z; exact z), kv⟩)⟩
  rcases List.mem_cons.mp hcs with rfl | hcs
  · obtain ⟨v, rfl, kv⟩ := sres_i k3
    exact ⟨v, h', c, g, f, Or.inr (Or.inr (Or.inl ⟨(by have z := k1 0 _ rfl; rw [e0] at z; exact z), (by have z := k1 1 _ rfl; rw [e1] at z; exact z), (by have z := k1 2 _ rfl; rw [e2] at z; exact z), kv⟩))⟩
  rcases List.mem_cons.mp hcs with rfl | hcs
  · obtain ⟨v, rfl, kv⟩ := sres_i k3
    exact ⟨v, h', c, g, f, Or.inr (Or.inr (Or.inr (Or.inl ⟨(by have z := k1 0 _ rfl; rw [e0] at z; exact z), (by have z := k1 1 _ rfl; rw [e1] at z; exact z), (by have z := k1 2 _ rfl; rw [e2] at z; exact z), kv⟩)))⟩
  rcases List.mem_cons.mp hcs with rfl | hcs
  · obtain ⟨v, rfl, kv⟩ := sres_i k3
    exact ⟨v, h', c, g, f, Or.inr (Or.inr (Or.inr (Or.inr (⟨(by have z := k1 0 _ rfl; rw [e0] at z; exact z), (by have z := k1 1 _ rfl; rw [e1] at z; exact z), (by have z := k1 2 _ rfl; rw [e2] at z; exact z), kv⟩))))⟩
  exact absurd hcs List.not_mem_nil
theorem vl_84 (l : Launch) (x0 : Int32) (x1 : Int32) (h : XH) (hg : sgood vT vR vE 153 6051 h) (a0 : (-2147483648) ≤ x0.toInt ∧ x0.toInt ≤ 2147483647) (a1 : (-2147483648) ≤ x1.toInt ∧ x1.toInt ≤ 2147483647) : ∃ (v : Int32) (h' : XH), CX l 4 98 false 84 [xf 12 2, xi x0, xi x1] h [xi v] h' ∧ sgood vT vR vE 153 6051 h' ∧ sframe ([], []) h h' ∧ ((((-2147483648) ≤ v.toInt ∧ v.toInt ≤ 99)) ∨ ((0 ≤ x0.toInt ∧ x0.toInt ≤ 7) ∧ (1 ≤ x1.toInt ∧ x1.toInt ≤ 9) ∧ (0 ≤ v.toInt ∧ v.toInt ≤ 9))) := by
  have ha : sargs (cap vC_116) [xf 12 2, xi x0, xi x1] := ⟨rfl, a0, a1, trivial⟩
  obtain ⟨ρ, rs, h', ⟨hv, hw⟩, c, g, f, cs, hcs, k1, k2, k3, k4, k5, k6⟩ := vc_116 l [xf 12 2, xi x0, xi x1] h ha hg (fun q hq => absurd hq List.not_mem_nil) (fun q hq => absurd hq List.not_mem_nil) (fun ρ hρ g hg' => absurd hg' List.not_mem_nil)
  have e0 : ρ 0 = x0.toInt := hv.1
  have e1 : ρ 1 = x1.toInt := hv.2.1
  rcases List.mem_cons.mp hcs with rfl | hcs
  · obtain ⟨v, rfl, kv⟩ := sres_i k3
    exact ⟨v, h', c, g, f, Or.inl kv⟩
  rcases List.mem_cons.mp hcs with rfl | hcs
  · obtain ⟨v, rfl, kv⟩ := sres_i k3
    exact ⟨v, h', c, g, f, Or.inr (⟨(by have z := k1 0 _ rfl; rw [e0] at z; exact z), (by have z := k1 1 _ rfl; rw [e1] at z; exact z), kv⟩)⟩
  exact absurd hcs List.not_mem_nil
theorem vl_236 (l : Launch) (x0 : Int32) (x1 : Int32) (h : XH) (hg : sgood vT vR vE 153 6051 h) (a0 : (-2147483648) ≤ x0.toInt ∧ x0.toInt ≤ 2147483647) (a1 : (-2147483648) ≤ x1.toInt ∧ x1.toInt ≤ 2147483647) : ∃ (v : Int32) (h' : XH), CX l 7 194 false 236 [xf 13 104, xi x0, xi x1] h [xi v] h' ∧ sgood vT vR vE 153 6051 h' ∧ sframe ([(104, 2, false), (104, 54, false), (104, 63, false), (104, 64, false)], []) h h' ∧ ((((-2147483648) ≤ v.toInt ∧ v.toInt ≤ 99))) := by
  have ha : sargs (cap vC_118) [xf 13 104, xi x0, xi x1] := ⟨rfl, a0, a1, trivial⟩
  obtain ⟨ρ, rs, h', ⟨hv, hw⟩, c, g, f, cs, hcs, k1, k2, k3, k4, k5, k6⟩ := vc_118 l [xf 13 104, xi x0, xi x1] h ha hg (fun q hq => absurd hq List.not_mem_nil) (fun q hq => absurd hq List.not_mem_nil) (fun ρ hρ g hg' => absurd hg' List.not_mem_nil)
  have e0 : ρ 0 = x0.toInt := hv.1
  have e1 : ρ 1 = x1.toInt := hv.2.1
  rcases List.mem_cons.mp hcs with rfl | hcs
  · obtain ⟨v, rfl, kv⟩ := sres_i k3
    exact ⟨v, h', c, g, f, kv⟩
  exact absurd hcs List.not_mem_nil
theorem vl_87 (l : Launch) (x0 : Int32) (x1 : Int32) (h : XH) (hg : sgood vT vR vE 153 6051 h) (a0 : (-2147483648) ≤ x0.toInt ∧ x0.toInt ≤ 2147483647) (a1 : (-2147483648) ≤ x1.toInt ∧ x1.toInt ≤ 2147483647) : ∃ (v : Int64) (h' : XH), CX l 4 94 false 87 [xf 12 2, xi x0, xi x1] h [xl v] h' ∧ sgood vT vR vE 153 6051 h' ∧ sframe ([], []) h h' ∧ ((True)) := by
  have ha : sargs (cap vC_123) [xf 12 2, xi x0, xi x1] := ⟨rfl, a0, a1, trivial⟩
  obtain ⟨ρ, rs, h', ⟨hv, hw⟩, c, g, f, cs, hcs, k1, k2, k3, k4, k5, k6⟩ := vc_123 l [xf 12 2, xi x0, xi x1] h ha hg (fun q hq => absurd hq List.not_mem_nil) (fun q hq => absurd hq List.not_mem_nil) (fun ρ hρ g hg' => absurd hg' List.not_mem_nil)
  have e0 : ρ 0 = x0.toInt := hv.1
  have e1 : ρ 1 = x1.toInt := hv.2.1
  rcases List.mem_cons.mp hcs with rfl | hcs
  · obtain ⟨v, rfl⟩ := sres_l k3
    exact ⟨v, h', c, g, f, trivial⟩
  exact absurd hcs List.not_mem_nil
theorem vl_237 (l : Launch) (x0 : Int32) (x1 : Int32) (h : XH) (hg : sgood vT vR vE 153 6051 h) (a0 : (-2147483648) ≤ x0.toInt ∧ x0.toInt ≤ 2147483647) (a1 : (-2147483648) ≤ x1.toInt ∧ x1.toInt ≤ 2147483647) : ∃ (v : Int64) (h' : XH), CX l 4 112 false 237 [xf 13 104, xi x0, xi x1] h [xl v] h' ∧ sgood vT vR vE 153 6051 h' ∧ sframe ([(104, 2, false), (104, 54, false), (104, 63, false), (104, 64, false)], []) h h' ∧ ((True)) := by
  have ha : sargs (cap vC_129) [xf 13 104, xi x0, xi x1] := ⟨rfl, a0, a1, trivial⟩
  obtain ⟨ρ, rs, h', ⟨hv, hw⟩, c, g, f, cs, hcs, k1, k2, k3, k4, k5, k6⟩ := vc_129 l [xf 13 104, xi x0, xi x1] h ha hg (fun q hq => absurd hq List.not_mem_nil) (fun q hq => absurd hq List.not_mem_nil) (fun ρ hρ g hg' => absurd hg' List.not_mem_nil)
  have e0 : ρ 0 = x0.toInt := hv.1
  have e1 : ρ 1 = x1.toInt := hv.2.1
  rcases List.mem_cons.mp hcs with rfl | hcs
  · obtain ⟨v, rfl⟩ := sres_l k3
    exact ⟨v, h', c, g, f, trivial⟩
  exact absurd hcs List.not_mem_nil
theorem vl_92 (l : Launch) (x0 : Int32) (x1 : Int32) (h : XH) (hg : sgood vT vR vE 153 6051 h) (a0 : (-2147483648) ≤ x0.toInt ∧ x0.toInt ≤ 2147483647) (a1 : (-2147483648) ≤ x1.toInt ∧ x1.toInt ≤ 2147483647) : ∃ (v : Int32) (h' : XH), CX l 2 68 false 92 [xf 12 2, xi x0, xi x1] h [xi v] h' ∧ sgood vT vR vE 153 6051 h' ∧ sframe ([(53, 0, true), (81, 0, false), (82, 0, true), (83, 0, true), (84, 0, true)], []) h h' ∧ (((0 ≤ v.toInt ∧ v.toInt ≤ 0)) ∨ ((0 ≤ x0.toInt ∧ x0.toInt ≤ 7) ∧ ((-1) ≤ x1.toInt ∧ x1.toInt ≤ 1) ∧ (1 ≤ v.toInt ∧ v.toInt ≤ 1))) := by
  have ha : sargs (cap vC_131) [xf 12 2, xi x0, xi x1] := ⟨rfl, a0, a1, trivial⟩
  obtain ⟨ρ, rs, h', ⟨hv, hw⟩, c, g, f, cs, hcs, k1, k2, k3, k4, k5, k6⟩ := vc_131 l [xf 12 2, xi x0, xi x1] h ha hg (fun q hq => absurd hq List.not_mem_nil) (fun q hq => absurd hq List.not_mem_nil) (fun ρ hρ g hg' => absurd hg' List.not_mem_nil)
  have e0 : ρ 0 = x0.toInt := hv.1
  have e1 : ρ 1 = x1.toInt := hv.2.1
  rcases List.mem_cons.mp hcs with rfl | hcs
  · obtain ⟨v, rfl, kv⟩ := sres_i k3
    exact ⟨v, h', c, g, f, Or.inl kv⟩
  rcases List.mem_cons.mp hcs with rfl | hcs
  · obtain ⟨v, rfl, kv⟩ := sres_i k3
    exact ⟨v, h', c, g, f, Or.inr (⟨(by have z := k1 0 _ rfl; rw [e0] at z; exact z), (by have z := k1 1 _ rfl; rw [e1] at z; exact z), kv⟩)⟩
  exact absurd hcs List.not_mem_nil
theorem vl_238 (l : Launch) (x0 : Int32) (x1 : Int32) (h : XH) (hg : sgood vT vR vE 153 6051 h) (a0 : (-2147483648) ≤ x0.toInt ∧ x0.toInt ≤ 2147483647) (a1 : (-2147483648) ≤ x1.toInt ∧ x1.toInt ≤ 2147483647) : ∃ (v : Int32) (h' : XH), CX l 3 81 false 238 [xf 13 104, xi x0, xi x1] h [xi v] h' ∧ sgood vT vR vE 153 6051 h' ∧ sframe ([(104, 2, false), (104, 76, false), (136, 0, true), (149, 0, true)], []) h h' ∧ (((0 ≤ v.toInt ∧ v.toInt ≤ 0)) ∨ ((0 ≤ x0.toInt ∧ x0.toInt ≤ 7) ∧ ((-1) ≤ x1.toInt ∧ x1.toInt ≤ 1) ∧ (1 ≤ v.toInt ∧ v.toInt ≤ 1))) := by
  have ha : sargs (cap vC_134) [xf 13 104, xi x0, xi x1] := ⟨rfl, a0, a1, trivial⟩
  obtain ⟨ρ, rs, h', ⟨hv, hw⟩, c, g, f, cs, hcs, k1, k2, k3, k4, k5, k6⟩ := vc_134 l [xf 13 104, xi x0, xi x1] h ha hg (fun q hq => absurd hq List.not_mem_nil) (fun q hq => absurd hq List.not_mem_nil) (fun ρ hρ g hg' => absurd hg' List.not_mem_nil)
  have e0 : ρ 0 = x0.toInt := hv.1
  have e1 : ρ 1 = x1.toInt := hv.2.1
  rcases List.mem_cons.mp hcs with rfl | hcs
  · obtain ⟨v, rfl, kv⟩ := sres_i k3
    exact ⟨v, h', c, g, f, Or.inl kv⟩
  rcases List.mem_cons.mp hcs with rfl | hcs
  · obtain ⟨v, rfl, kv⟩ := sres_i k3
    exact ⟨v, h', c, g, f, Or.inr (⟨(by have z := k1 0 _ rfl; rw [e0] at z; exact z), (by have z := k1 1 _ rfl; rw [e1] at z; exact z), kv⟩)⟩
  exact absurd hcs List.not_mem_nil
theorem vl_94 (l : Launch) (x0 : Int32) (x1 : Int32) (h : XH) (hg : sgood vT vR vE 153 6051 h) (a0 : (-2147483648) ≤ x0.toInt ∧ x0.toInt ≤ 2147483647) (a1 : (-2147483648) ≤ x1.toInt ∧ x1.toInt ≤ 2147483647) : ∃ (v : Int32) (h' : XH), CX l 2 68 false 94 [xf 12 2, xi x0, xi x1] h [xi v] h' ∧ sgood vT vR vE 153 6051 h' ∧ sframe ([(52, 0, true), (56, 0, true), (81, 0, false), (82, 0, true), (83, 0, true), (84, 0, true)], []) h h' ∧ (((0 ≤ v.toInt ∧ v.toInt ≤ 0)) ∨ ((0 ≤ x0.toInt ∧ x0.toInt ≤ 7) ∧ (0 ≤ x1.toInt ∧ x1.toInt ≤ 5) ∧ (1 ≤ v.toInt ∧ v.toInt ≤ 1))) := by
  have ha : sargs (cap vC_137) [xf 12 2, xi x0, xi x1] := ⟨rfl, a0, a1, trivial⟩
  obtain ⟨ρ, rs, h', ⟨hv, hw⟩, c, g, f, cs, hcs, k1, k2, k3, k4, k5, k6⟩ := vc_137 l [xf 12 2, xi x0, xi x1] h ha hg (fun q hq => absurd hq List.not_mem_nil) (fun q hq => absurd hq List.not_mem_nil) (fun ρ hρ g hg' => absurd hg' List.not_mem_nil)
  have e0 : ρ 0 = x0.toInt := hv.1
  have e1 : ρ 1 = x1.toInt := hv.2.1
  rcases List.mem_cons.mp hcs with rfl | hcs
  · obtain ⟨v, rfl, kv⟩ := sres_i k3
    exact ⟨v, h', c, g, f, Or.inl kv⟩
  rcases List.mem_cons.mp hcs with rfl | hcs
  · obtain ⟨v, rfl, kv⟩ := sres_i k3
    exact ⟨v, h', c, g, f, Or.inr (⟨(by have z := k1 0 _ rfl; rw [e0] at z; exact z), (by have z := k1 1 _ rfl; rw [e1] at z; exact z), kv⟩)⟩
  exact absurd hcs List.not_mem_nil
theorem vl_241 (l : Launch) (x0 : Int32) (x1 : Int32) (h : XH) (hg : sgood vT vR vE 153 6051 h) (a0 : (-2147483648) ≤ x0.toInt ∧ x0.toInt ≤ 2147483647) (a1 : (-2147483648) ≤ x1.toInt ∧ x1.toInt ≤ 2147483647) : ∃ (v : Int32) (h' : XH), CX l 3 81 false 241 [xf 13 104, xi x0, xi x1] h [xi v] h' ∧ sgood vT vR vE 153 6051 h' ∧ sframe ([(104, 2, false), (104, 76, false), (135, 0, false), (135, 1, false), (135, 2, false), (135, 3, false), (135, 4, false), (135, 5, false), (135, 6, false), (135, 7, false), (149, 0, true)], []) h h' ∧ (((0 ≤ v.toInt ∧ v.toInt ≤ 0)) ∨ ((0 ≤ x0.toInt ∧ x0.toInt ≤ 7) ∧ (0 ≤ x1.toInt ∧ x1.toInt ≤ 5) ∧ (1 ≤ v.toInt ∧ v.toInt ≤ 1))) := by
  have ha : sargs (cap vC_146) [xf 13 104, xi x0, xi x1] := ⟨rfl, a0, a1, trivial⟩
  obtain ⟨ρ, rs, h', ⟨hv, hw⟩, c, g, f, cs, hcs, k1, k2, k3, k4, k5, k6⟩ := vc_146 l [xf 13 104, xi x0, xi x1] h ha hg (fun q hq => absurd hq List.not_mem_nil) (fun q hq => absurd hq List.not_mem_nil) (fun ρ hρ g hg' => absurd hg' List.not_mem_nil)
  have e0 : ρ 0 = x0.toInt := hv.1
  have e1 : ρ 1 = x1.toInt := hv.2.1
  rcases List.mem_cons.mp hcs with rfl | hcs
  · obtain ⟨v, rfl, kv⟩ := sres_i k3
    exact ⟨v, h', c, g, f, Or.inl kv⟩
  rcases List.mem_cons.mp hcs with rfl | hcs
  · obtain ⟨v, rfl, kv⟩ := sres_i k3
    exact ⟨v, h', c, g, f, Or.inr (⟨(by have z := k1 0 _ rfl; rw [e0] at z; exact z), (by have z := k1 1 _ rfl; rw [e1] at z; exact z), kv⟩)⟩
  exact absurd hcs List.not_mem_nil
theorem vl_96 (l : Launch) (x0 : Int32) (x1 : Int32) (h : XH) (hg : sgood vT vR vE 153 6051 h) (a0 : (-2147483648) ≤ x0.toInt ∧ x0.toInt ≤ 2147483647) (a1 : (-2147483648) ≤ x1.toInt ∧ x1.toInt ≤ 2147483647) : ∃ (v : Int32) (h' : XH), CX l 2 68 false 96 [xf 12 2, xi x0, xi x1] h [xi v] h' ∧ sgood vT vR vE 153 6051 h' ∧ sframe ([(49, 0, true), (51, 0, true), (55, 0, true), (81, 0, false), (82, 0, true), (83, 0, true), (84, 0, true)], []) h h' ∧ (((0 ≤ v.toInt ∧ v.toInt ≤ 0)) ∨ ((0 ≤ x0.toInt ∧ x0.toInt ≤ 5) ∧ (1 ≤ x1.toInt ∧ x1.toInt ≤ 9) ∧ (1 ≤ v.toInt ∧ v.toInt ≤ 1))) := by
  have ha : sargs (cap vC_148) [xf 12 2, xi x0, xi x1] := ⟨rfl, a0, a1, trivial⟩
  obtain ⟨ρ, rs, h', ⟨hv, hw⟩, c, g, f, cs, hcs, k1, k2, k3, k4, k5, k6⟩ := vc_148 l [xf 12 2, xi x0, xi x1] h ha hg (fun q hq => absurd hq List.not_mem_nil) (fun q hq => absurd hq List.not_mem_nil) (fun ρ hρ g hg' => absurd hg' List.not_mem_nil)
  have e0 : ρ 0 = x0.toInt := hv.1
  have e1 : ρ 1 = x1.toInt := hv.2.1
  rcases List.mem_cons.mp hcs with rfl | hcs
  · obtain ⟨v, rfl, kv⟩ := sres_i k3
    exact ⟨v, h', c, g, f, Or.inl kv⟩
  rcases List.mem_cons.mp hcs with rfl | hcs
  · obtain ⟨v, rfl, kv⟩ := sres_i k3
    exact ⟨v, h', c, g, f, Or.inr (⟨(by have z := k1 0 _ rfl; rw [e0] at z; exact z), (by have z := k1 1 _ rfl; rw [e1] at z; exact z), kv⟩)⟩
  exact absurd hcs List.not_mem_nil
theorem vl_242 (l : Launch) (x0 : Int32) (x1 : Int32) (h : XH) (hg : sgood vT vR vE 153 6051 h) (a0 : (-2147483648) ≤ x0.toInt ∧ x0.toInt ≤ 2147483647) (a1 : (-2147483648) ≤ x1.toInt ∧ x1.toInt ≤ 2147483647) : ∃ (v : Int32) (h' : XH), CX l 3 81 false 242 [xf 13 104, xi x0, xi x1] h [xi v] h' ∧ sgood vT vR vE 153 6051 h' ∧ sframe ([(104, 2, false), (104, 76, false), (133, 0, false), (133, 1, false), (133, 2, false), (133, 3, false), (133, 4, false), (133, 5, false), (149, 0, true)], []) h h' ∧ (((0 ≤ v.toInt ∧ v.toInt ≤ 0)) ∨ ((0 ≤ x0.toInt ∧ x0.toInt ≤ 5) ∧ (1 ≤ x1.toInt ∧ x1.toInt ≤ 9) ∧ (1 ≤ v.toInt ∧ v.toInt ≤ 1))) := by
  have ha : sargs (cap vC_149) [xf 13 104, xi x0, xi x1] := ⟨rfl, a0, a1, trivial⟩
  obtain ⟨ρ, rs, h', ⟨hv, hw⟩, c, g, f, cs, hcs, k1, k2, k3, k4, k5, k6⟩ := vc_149 l [xf 13 104, xi x0, xi x1] h ha hg (fun q hq => absurd hq List.not_mem_nil) (fun q hq => absurd hq List.not_mem_nil) (fun ρ hρ g hg' => absurd hg' List.not_mem_nil)
  have e0 : ρ 0 = x0.toInt := hv.1
  have e1 : ρ 1 = x1.toInt := hv.2.1
  rcases List.mem_cons.mp hcs with rfl | hcs
  · obtain ⟨v, rfl, kv⟩ := sres_i k3
    exact ⟨v, h', c, g, f, Or.inl kv⟩
  rcases List.mem_cons.mp hcs with rfl | hcs
  · obtain ⟨v, rfl, kv⟩ := sres_i k3
    exact ⟨v, h', c, g, f, Or.inr (⟨(by have z := k1 0 _ rfl; rw [e0] at z; exact z), (by have z := k1 1 _ rfl; rw [e1] at z; exact z), kv⟩)⟩
  exact absurd hcs List.not_mem_nil
theorem vl_97 (l : Launch) (x0 : Int32) (h : XH) (hg : sgood vT vR vE 153 6051 h) (a0 : (-2147483648) ≤ x0.toInt ∧ x0.toInt ≤ 2147483647) : ∃ (v : Int32) (h' : XH), CX l 7 165 false 97 [xf 12 2, xi x0] h [xi v] h' ∧ sgood vT vR vE 153 6051 h' ∧ sframe ([(48, 7, false), (49, 0, true), (50, 0, true), (51, 0, true), (53, 0, true), (54, 0, true), (55, 0, true), (57, 0, true), (81, 0, false)], []) h h' ∧ ((((-1) ≤ v.toInt ∧ v.toInt ≤ (-1))) ∨ ((0 ≤ x0.toInt ∧ x0.toInt ≤ 99) ∧ ((-2147483648) ≤ v.toInt ∧ v.toInt ≤ 2147483647))) := by
  have ha : sargs (cap vC_156) [xf 12 2, xi x0] := ⟨rfl, a0, trivial⟩
  obtain ⟨ρ, rs, h', ⟨hv, hw⟩, c, g, f, cs, hcs, k1, k2, k3, k4, k5, k6⟩ := vc_156 l [xf 12 2, xi x0] h ha hg (fun q hq => absurd hq List.not_mem_nil) (fun q hq => absurd hq List.not_mem_nil) (fun ρ hρ g hg' => absurd hg' List.not_mem_nil)
  have e0 : ρ 0 = x0.toInt := hv.1
  rcases List.mem_cons.mp hcs with rfl | hcs
  · obtain ⟨v, rfl, kv⟩ := sres_i k3
    exact ⟨v, h', c, g, f, Or.inl kv⟩
  rcases List.mem_cons.mp hcs with rfl | hcs
  · obtain ⟨v, rfl, kv⟩ := sres_i k3
    exact ⟨v, h', c, g, f, Or.inr (⟨(by have z := k1 0 _ rfl; rw [e0] at z; exact z), kv⟩)⟩
  exact absurd hcs List.not_mem_nil
theorem vl_243 (l : Launch) (x0 : Int32) (h : XH) (hg : sgood vT vR vE 153 6051 h) (a0 : (-2147483648) ≤ x0.toInt ∧ x0.toInt ≤ 2147483647) : ∃ (v : Int32) (h' : XH), CX l 10 265 false 243 [xf 13 104, xi x0] h [xi v] h' ∧ sgood vT vR vE 153 6051 h' ∧ sframe ([(104, 2, false), (104, 54, false), (104, 63, false), (104, 64, false), (104, 76, false), (133, 0, false), (133, 1, false), (133, 2, false), (133, 3, false), (133, 4, false), (133, 5, false), (134, 0, false), (134, 1, false), (134, 2, false), (134, 3, false), (134, 4, false), (134, 5, false), (136, 0, false), (136, 1, false), (136, 2, false), (136, 3, false), (136, 4, false), (136, 5, false), (136, 6, false), (136, 7, false), (137, 0, false), (137, 1, false), (137, 2, false), (137, 3, false), (137, 4, false), (137, 5, false), (137, 6, false), (137, 7, false), (138, 0, false), (139, 0, true)], []) h h' ∧ ((((-1) ≤ v.toInt ∧ v.toInt ≤ (-1))) ∨ ((0 ≤ x0.toInt ∧ x0.toInt ≤ 99) ∧ ((-2147483648) ≤ v.toInt ∧ v.toInt ≤ 2147483647))) := by
  have ha : sargs (cap vD_160) [xf 13 104, xi x0] := ⟨rfl, a0, trivial⟩
  obtain ⟨ρ, rs, h', ⟨hv, hw⟩, c, g, f, cs, hcs, k1, k2, k3, k4, k5, k6⟩ := vDc_160 l [xf 13 104, xi x0] h ha hg (fun q hq => absurd hq List.not_mem_nil) (fun q hq => absurd hq List.not_mem_nil) (fun ρ hρ g hg' => absurd hg' List.not_mem_nil)
  have e0 : ρ 0 = x0.toInt := hv.1
  rcases List.mem_cons.mp hcs with rfl | hcs
  · obtain ⟨v, rfl, kv⟩ := sres_i k3
    exact ⟨v, h', c, g, f, Or.inl kv⟩
  rcases List.mem_cons.mp hcs with rfl | hcs
  · obtain ⟨v, rfl, kv⟩ := sres_i k3
    exact ⟨v, h', c, g, f, Or.inr (⟨(by have z := k1 0 _ rfl; rw [e0] at z; exact z), kv⟩)⟩
  exact absurd hcs List.not_mem_nil
theorem vl_103 (l : Launch) (x0 : Int32) (x1 : Int32) (x2 : Int32) (h : XH) (hg : sgood vT vR vE 153 6051 h) (a0 : (-2147483648) ≤ x0.toInt ∧ x0.toInt ≤ 2147483647) (a1 : (-2147483648) ≤ x1.toInt ∧ x1.toInt ≤ 2147483647) (a2 : (-2147483648) ≤ x2.toInt ∧ x2.toInt ≤ 2147483647) : ∃ (v : Int32) (h' : XH), CX l 7 165 false 103 [xf 12 2, xi x0, xi x1, xi x2] h [xi v] h' ∧ sgood vT vR vE 153 6051 h' ∧ sframe ([(59, 7, false), (59, 10, false), (60, 0, true), (61, 0, true), (62, 0, true), (63, 0, true), (64, 0, true), (65, 0, true), (66, 0, true), (67, 0, true), (68, 0, true)], [(59, 0)]) h h' ∧ ((((-1) ≤ v.toInt ∧ v.toInt ≤ (-1))) ∨ ((0 ≤ x0.toInt ∧ x0.toInt ≤ 5) ∧ (0 ≤ x1.toInt ∧ x1.toInt ≤ 60) ∧ (0 ≤ x2.toInt ∧ x2.toInt ≤ 0) ∧ (0 ≤ v.toInt ∧ v.toInt ≤ 9)) ∨ ((0 ≤ x0.toInt ∧ x0.toInt ≤ 5) ∧ (0 ≤ x1.toInt ∧ x1.toInt ≤ 60) ∧ (1 ≤ x2.toInt ∧ x2.toInt ≤ 1) ∧ ((-2147483648) ≤ v.toInt ∧ v.toInt ≤ 2147483647))) := by
  have ha : sargs (cap vC_179) [xf 12 2, xi x0, xi x1, xi x2] := ⟨rfl, a0, a1, a2, trivial⟩
  obtain ⟨ρ, rs, h', ⟨hv, hw⟩, c, g, f, cs, hcs, k1, k2, k3, k4, k5, k6⟩ := vc_179 l [xf 12 2, xi x0, xi x1, xi x2] h ha hg (fun q hq => absurd hq List.not_mem_nil) (fun q hq => absurd hq List.not_mem_nil) (fun ρ hρ g hg' => absurd hg' List.not_mem_nil)
  have e0 : ρ 0 = x0.toInt := hv.1
  have e1 : ρ 1 = x1.toInt := hv.2.1
  have e2 : ρ 2 = x2.toInt := hv.2.2.1
  rcases List.mem_cons.mp hcs with rfl | hcs
  · obtain ⟨v, rfl, kv⟩ := sres_i k3
    exact ⟨v, h', c, g, f, Or.inl kv⟩
  rcases List.mem_cons.mp hcs with rfl | hcs
  · obtain ⟨v, rfl, kv⟩ := sres_i k3
    exact ⟨v, h', c, g, f, Or.inr (Or.inl ⟨(by have z := k1 0 _ rfl; rw [e0] at z; exact z), (by have z := k1 1 _ rfl; rw [e1] at z; exact z), (by have z := k1 2 _ rfl; rw [e2] at z; exact z), kv⟩)⟩
  rcases List.mem_cons.mp hcs with rfl | hcs
  · obtain ⟨v, rfl, kv⟩ := sres_i k3
    exact ⟨v, h', c, g, f, Or.inr (Or.inr (⟨(by have z := k1 0 _ rfl; rw [e0] at z; exact z), (by have z := k1 1 _ rfl; rw [e1] at z; exact z), (by have z := k1 2 _ rfl; rw [e2] at z; exact z), kv⟩))⟩
  exact absurd hcs List.not_mem_nil
theorem vl_246 (l : Launch) (x0 : Int32) (x1 : Int32) (x2 : Int32) (h : XH) (hg : sgood vT vR vE 153 6051 h) (a0 : (-2147483648) ≤ x0.toInt ∧ x0.toInt ≤ 2147483647) (a1 : (-2147483648) ≤ x1.toInt ∧ x1.toInt ≤ 2147483647) (a2 : (-2147483648) ≤ x2.toInt ∧ x2.toInt ≤ 2147483647) : ∃ (v : Int32) (h' : XH), CX l 11 287 false 246 [xf 13 104, xi x0, xi x1, xi x2] h [xi v] h' ∧ sgood vT vR vE 153 6051 h' ∧ sframe ([(104, 2, false), (104, 54, false), (104, 63, false), (104, 64, false), (133, 6, false), (133, 7, false), (133, 8, false), (133, 9, false), (133, 10, false), (133, 11, false), (134, 6, false), (134, 7, false), (134, 8, false), (134, 9, false), (134, 10, false), (134, 11, false), (135, 8, false), (135, 9, false), (135, 10, false), (135, 11, false), (135, 12, false), (135, 13, false), (135, 14, false), (135, 15, false), (136, 8, false), (136, 9, false), (136, 10, false), (136, 11, false), (136, 12, false), (136, 13, false), (136, 14, false), (136, 15, false), (137, 8, false), (137, 9, false), (137, 10, false), (137, 11, false), (137, 12, false), (137, 13, false), (137, 14, false), (137, 15, false), (138, 1, false), (139, 0, true)], []) h h' ∧ ((((-1) ≤ v.toInt ∧ v.toInt ≤ (-1))) ∨ ((0 ≤ x0.toInt ∧ x0.toInt ≤ 5) ∧ (0 ≤ x1.toInt ∧ x1.toInt ≤ 60) ∧ (0 ≤ x2.toInt ∧ x2.toInt ≤ 1) ∧ ((-2147483648) ≤ v.toInt ∧ v.toInt ≤ 2147483647))) := by
  have ha : sargs (cap vD_185) [xf 13 104, xi x0, xi x1, xi x2] := ⟨rfl, a0, a1, a2, trivial⟩
  obtain ⟨ρ, rs, h', ⟨hv, hw⟩, c, g, f, cs, hcs, k1, k2, k3, k4, k5, k6⟩ := vDc_185 l [xf 13 104, xi x0, xi x1, xi x2] h ha hg (fun q hq => absurd hq List.not_mem_nil) (fun q hq => absurd hq List.not_mem_nil) (fun ρ hρ g hg' => absurd hg' List.not_mem_nil)
  have e0 : ρ 0 = x0.toInt := hv.1
  have e1 : ρ 1 = x1.toInt := hv.2.1
  have e2 : ρ 2 = x2.toInt := hv.2.2.1
  rcases List.mem_cons.mp hcs with rfl | hcs
  · obtain ⟨v, rfl, kv⟩ := sres_i k3
    exact ⟨v, h', c, g, f, Or.inl kv⟩
  rcases List.mem_cons.mp hcs with rfl | hcs
  · obtain ⟨v, rfl, kv⟩ := sres_i k3
    exact ⟨v, h', c, g, f, Or.inr (⟨(by have z := k1 0 _ rfl; rw [e0] at z; exact z), (by have z := k1 1 _ rfl; rw [e1] at z; exact z), (by have z := k1 2 _ rfl; rw [e2] at z; exact z), kv⟩)⟩
  exact absurd hcs List.not_mem_nil
theorem vl_106 (l : Launch) (x0 : Int32) (h : XH) (hg : sgood vT vR vE 153 6051 h) (a0 : (-2147483648) ≤ x0.toInt ∧ x0.toInt ≤ 2147483647) : ∃ (v : Int32) (h' : XH), CX l 6 145 false 106 [xf 12 2, xi x0] h [xi v] h' ∧ sgood vT vR vE 153 6051 h' ∧ sframe ([(59, 7, false), (59, 10, false), (60, 0, true), (61, 0, true), (62, 0, true), (63, 0, true), (64, 0, true), (65, 0, true), (66, 0, true), (67, 0, true), (68, 0, true)], [(59, 0)]) h h' ∧ ((((-1) ≤ v.toInt ∧ v.toInt ≤ (-1))) ∨ ((1 ≤ x0.toInt ∧ x0.toInt ≤ 99) ∧ (0 ≤ v.toInt ∧ v.toInt ≤ 99)) ∨ ((1 ≤ x0.toInt ∧ x0.toInt ≤ 99) ∧ ((-2) ≤ v.toInt ∧ v.toInt ≤ (-2)))) := by
  have ha : sargs (cap vC_186) [xf 12 2, xi x0] := ⟨rfl, a0, trivial⟩
  obtain ⟨ρ, rs, h', ⟨hv, hw⟩, c, g, f, cs, hcs, k1, k2, k3, k4, k5, k6⟩ := vc_186 l [xf 12 2, xi x0] h ha hg (fun q hq => absurd hq List.not_mem_nil) (fun q hq => absurd hq List.not_mem_nil) (fun ρ hρ g hg' => absurd hg' List.not_mem_nil)
  have e0 : ρ 0 = x0.toInt := hv.1
  rcases List.mem_cons.mp hcs with rfl | hcs
  · obtain ⟨v, rfl, kv⟩ := sres_i k3
    exact ⟨v, h', c, g, f, Or.inl kv⟩
  rcases List.mem_cons.mp hcs with rfl | hcs
  · obtain ⟨v, rfl, kv⟩ := sres_i k3
    exact ⟨v, h', c, g, f, Or.inr (Or.inl ⟨(by have z := k1 0 _ rfl; rw [e0] at z; exact z), kv⟩)⟩
  rcases List.mem_cons.mp hcs with rfl | hcs
  · obtain ⟨v, rfl, kv⟩ := sres_i k3
    exact ⟨v, h', c, g, f, Or.inr (Or.inr (⟨(by have z := k1 0 _ rfl; rw [e0] at z; exact z), kv⟩))⟩
  exact absurd hcs List.not_mem_nil
theorem vl_249 (l : Launch) (x0 : Int32) (h : XH) (hg : sgood vT vR vE 153 6051 h) (a0 : (-2147483648) ≤ x0.toInt ∧ x0.toInt ≤ 2147483647) : ∃ (v : Int32) (h' : XH), CX l 10 265 false 249 [xf 13 104, xi x0] h [xi v] h' ∧ sgood vT vR vE 153 6051 h' ∧ sframe ([(104, 2, false), (104, 54, false), (104, 63, false), (104, 64, false), (133, 6, false), (133, 7, false), (133, 8, false), (133, 9, false), (133, 10, false), (133, 11, false), (134, 6, false), (134, 7, false), (134, 8, false), (134, 9, false), (134, 10, false), (134, 11, false), (135, 8, false), (135, 9, false), (135, 10, false), (135, 11, false), (135, 12, false), (135, 13, false), (135, 14, false), (135, 15, false), (136, 8, false), (136, 9, false), (136, 10, false), (136, 11, false), (136, 12, false), (136, 13, false), (136, 14, false), (136, 15, false), (137, 8, false), (137, 9, false), (137, 10, false), (137, 11, false), (137, 12, false), (137, 13, false), (137, 14, false), (137, 15, false), (138, 1, false), (139, 0, true)], []) h h' ∧ ((((-1) ≤ v.toInt ∧ v.toInt ≤ (-1))) ∨ ((1 ≤ x0.toInt ∧ x0.toInt ≤ 99) ∧ ((-2) ≤ v.toInt ∧ v.toInt ≤ (-2))) ∨ ((1 ≤ x0.toInt ∧ x0.toInt ≤ 99) ∧ (0 ≤ v.toInt ∧ v.toInt ≤ 99))) := by
  have ha : sargs (cap vD_188) [xf 13 104, xi x0] := ⟨rfl, a0, trivial⟩
  obtain ⟨ρ, rs, h', ⟨hv, hw⟩, c, g, f, cs, hcs, k1, k2, k3, k4, k5, k6⟩ := vDc_188 l [xf 13 104, xi x0] h ha hg (fun q hq => absurd hq List.not_mem_nil) (fun q hq => absurd hq List.not_mem_nil) (fun ρ hρ g hg' => absurd hg' List.not_mem_nil)
  have e0 : ρ 0 = x0.toInt := hv.1
  rcases List.mem_cons.mp hcs with rfl | hcs
  · obtain ⟨v, rfl, kv⟩ := sres_i k3
    exact ⟨v, h', c, g, f, Or.inl kv⟩
  rcases List.mem_cons.mp hcs with rfl | hcs
  · obtain ⟨v, rfl, kv⟩ := sres_i k3
    exact ⟨v, h', c, g, f, Or.inr (Or.inl ⟨(by have z := k1 0 _ rfl; rw [e0] at z; exact z), kv⟩)⟩
  rcases List.mem_cons.mp hcs with rfl | hcs
  · obtain ⟨v, rfl, kv⟩ := sres_i k3
    exact ⟨v, h', c, g, f, Or.inr (Or.inr (⟨(by have z := k1 0 _ rfl; rw [e0] at z; exact z), kv⟩))⟩
  exact absurd hcs List.not_mem_nil
theorem vl_107 (l : Launch) (x0 : Int32) (h : XH) (hg : sgood vT vR vE 153 6051 h) (a0 : (-2147483648) ≤ x0.toInt ∧ x0.toInt ≤ 2147483647) : ∃ (v : Int32) (h' : XH), CX l 3 72 false 107 [xf 12 2, xi x0] h [xi v] h' ∧ sgood vT vR vE 153 6051 h' ∧ sframe ([], []) h h' ∧ ((((-1) ≤ v.toInt ∧ v.toInt ≤ (-1))) ∨ ((0 ≤ x0.toInt ∧ x0.toInt ≤ 7) ∧ ((-2147483648) ≤ v.toInt ∧ v.toInt ≤ 2147483647))) := by
  have ha : sargs (cap vC_192) [xf 12 2, xi x0] := ⟨rfl, a0, trivial⟩
  obtain ⟨ρ, rs, h', ⟨hv, hw⟩, c, g, f, cs, hcs, k1, k2, k3, k4, k5, k6⟩ := vc_192 l [xf 12 2, xi x0] h ha hg (fun q hq => absurd hq List.not_mem_nil) (fun q hq => absurd hq List.not_mem_nil) (fun ρ hρ g hg' => absurd hg' List.not_mem_nil)
  have e0 : ρ 0 = x0.toInt := hv.1
  rcases List.mem_cons.mp hcs with rfl | hcs
  · obtain ⟨v, rfl, kv⟩ := sres_i k3
    exact ⟨v, h', c, g, f, Or.inl kv⟩
  rcases List.mem_cons.mp hcs with rfl | hcs
  · obtain ⟨v, rfl, kv⟩ := sres_i k3
    exact ⟨v, h', c, g, f, Or.inr (⟨(by have z := k1 0 _ rfl; rw [e0] at z; exact z), kv⟩)⟩
  exact absurd hcs List.not_mem_nil
theorem vl_250 (l : Launch) (x0 : Int32) (h : XH) (hg : sgood vT vR vE 153 6051 h) (a0 : (-2147483648) ≤ x0.toInt ∧ x0.toInt ≤ 2147483647) : ∃ (v : Int32) (h' : XH), CX l 1 23 false 250 [xf 13 104, xi x0] h [xi v] h' ∧ sgood vT vR vE 153 6051 h' ∧ sframe ([(104, 2, false)], []) h h' ∧ ((((-1) ≤ v.toInt ∧ v.toInt ≤ (-1))) ∨ ((0 ≤ x0.toInt ∧ x0.toInt ≤ 7) ∧ ((-2147483648) ≤ v.toInt ∧ v.toInt ≤ 2147483647))) := by
  have ha : sargs (cap vC_195) [xf 13 104, xi x0] := ⟨rfl, a0, trivial⟩
  obtain ⟨ρ, rs, h', ⟨hv, hw⟩, c, g, f, cs, hcs, k1, k2, k3, k4, k5, k6⟩ := vc_195 l [xf 13 104, xi x0] h ha hg (fun q hq => absurd hq List.not_mem_nil) (fun q hq => absurd hq List.not_mem_nil) (fun ρ hρ g hg' => absurd hg' List.not_mem_nil)
  have e0 : ρ 0 = x0.toInt := hv.1
  rcases List.mem_cons.mp hcs with rfl | hcs
  · obtain ⟨v, rfl, kv⟩ := sres_i k3
    exact ⟨v, h', c, g, f, Or.inl kv⟩
  rcases List.mem_cons.mp hcs with rfl | hcs
  · obtain ⟨v, rfl, kv⟩ := sres_i k3
    exact ⟨v, h', c, g, f, Or.inr (⟨(by have z := k1 0 _ rfl; rw [e0] at z; exact z), kv⟩)⟩
  exact absurd hcs List.not_mem_nil
theorem vl_111 (l : Launch) (x0 : Int32) (x1 : Int32) (h : XH) (hg : sgood vT vR vE 153 6051 h) (a0 : (-2147483648) ≤ x0.toInt ∧ x0.toInt ≤ 2147483647) (a1 : 0 ≤ x1.toInt ∧ x1.toInt ≤ 1) : ∃ (v : Int32) (h' : XH), CX l 6 149 false 111 [xf 12 2, xi x0, xi x1] h [xi v] h' ∧ sgood vT vR vE 153 6051 h' ∧ sframe ([(92, 0, true)], []) h h' ∧ ((((-1) ≤ v.toInt ∧ v.toInt ≤ (-1))) ∨ ((0 ≤ x0.toInt ∧ x0.toInt ≤ 5) ∧ ((-2) ≤ v.toInt ∧ v.toInt ≤ 255))) := by
  have ha : sargs (cap vC_199) [xf 12 2, xi x0, xi x1] := ⟨rfl, a0, a1, trivial⟩
  obtain ⟨ρ, rs, h', ⟨hv, hw⟩, c, g, f, cs, hcs, k1, k2, k3, k4, k5, k6⟩ := vc_199 l [xf 12 2, xi x0, xi x1] h ha hg (fun q hq => absurd hq List.not_mem_nil) (fun q hq => absurd hq List.not_mem_nil) (fun ρ hρ g hg' => absurd hg' List.not_mem_nil)
  have e0 : ρ 0 = x0.toInt := hv.1
  have e1 : ρ 1 = x1.toInt := hv.2.1
  rcases List.mem_cons.mp hcs with rfl | hcs
  · obtain ⟨v, rfl, kv⟩ := sres_i k3
    exact ⟨v, h', c, g, f, Or.inl kv⟩
  rcases List.mem_cons.mp hcs with rfl | hcs
  · obtain ⟨v, rfl, kv⟩ := sres_i k3
    exact ⟨v, h', c, g, f, Or.inr (⟨(by have z := k1 0 _ rfl; rw [e0] at z; exact z), kv⟩)⟩
  exact absurd hcs List.not_mem_nil
theorem vl_253 (l : Launch) (x0 : Int32) (x1 : Int32) (h : XH) (hg : sgood vT vR vE 153 6051 h) (a0 : (-2147483648) ≤ x0.toInt ∧ x0.toInt ≤ 2147483647) (a1 : 0 ≤ x1.toInt ∧ x1.toInt ≤ 1) : ∃ (v : Int32) (h' : XH), CX l 9 242 false 253 [xf 13 104, xi x0, xi x1] h [xi v] h' ∧ sgood vT vR vE 153 6051 h' ∧ sframe ([(104, 2, false), (104, 54, false), (104, 63, false), (104, 64, false), (133, 6, false), (133, 7, false), (133, 8, false), (133, 9, false), (133, 10, false), (133, 11, false), (134, 6, false), (134, 7, false), (134, 8, false), (134, 9, false), (134, 10, false), (134, 11, false), (135, 8, false), (135, 9, false), (135, 10, false), (135, 11, false), (135, 12, false), (135, 13, false), (135, 14, false), (135, 15, false), (136, 8, false), (136, 9, false), (136, 10, false), (136, 11, false), (136, 12, false), (136, 13, false), (136, 14, false), (136, 15, false), (137, 8, false), (137, 9, false), (137, 10, false), (137, 11, false), (137, 12, false), (137, 13, false), (137, 14, false), (137, 15, false), (138, 1, false)], []) h h' ∧ ((((-1) ≤ v.toInt ∧ v.toInt ≤ (-1))) ∨ ((0 ≤ x0.toInt ∧ x0.toInt ≤ 5) ∧ ((-2) ≤ v.toInt ∧ v.toInt ≤ 255))) := by
  have ha : sargs (cap vD_201) [xf 13 104, xi x0, xi x1] := ⟨rfl, a0, a1, trivial⟩
  obtain ⟨ρ, rs, h', ⟨hv, hw⟩, c, g, f, cs, hcs, k1, k2, k3, k4, k5, k6⟩ := vDc_201 l [xf 13 104, xi x0, xi x1] h ha hg (fun q hq => absurd hq List.not_mem_nil) (fun q hq => absurd hq List.not_mem_nil) (fun ρ hρ g hg' => absurd hg' List.not_mem_nil)
  have e0 : ρ 0 = x0.toInt := hv.1
  have e1 : ρ 1 = x1.toInt := hv.2.1
  rcases List.mem_cons.mp hcs with rfl | hcs
  · obtain ⟨v, rfl, kv⟩ := sres_i k3
    exact ⟨v, h', c, g, f, Or.inl kv⟩
  rcases List.mem_cons.mp hcs with rfl | hcs
  · obtain ⟨v, rfl, kv⟩ := sres_i k3
    exact ⟨v, h', c, g, f, Or.inr (⟨(by have z := k1 0 _ rfl; rw [e0] at z; exact z), kv⟩)⟩
  exact absurd hcs List.not_mem_nil
theorem vl_115 (l : Launch) (x0 : Int32) (h : XH) (hg : sgood vT vR vE 153 6051 h) (a0 : (-2147483648) ≤ x0.toInt ∧ x0.toInt ≤ 2147483647) : ∃ (v : Int32) (h' : XH), CX l 6 146 false 115 [xf 12 2, xi x0] h [xi v] h' ∧ sgood vT vR vE 153 6051 h' ∧ sframe ([(93, 0, false), (93, 2, false), (94, 0, true), (95, 0, true), (96, 0, true), (97, 0, true)], []) h h' ∧ ((((-1) ≤ v.toInt ∧ v.toInt ≤ (-1))) ∨ ((1 ≤ x0.toInt ∧ x0.toInt ≤ 4) ∧ ((-2) ≤ v.toInt ∧ v.toInt ≤ (-2))) ∨ ((0 ≤ x0.toInt ∧ x0.toInt ≤ 0) ∧ ((-2147483648) ≤ v.toInt ∧ v.toInt ≤ 2147483647)) ∨ ((1 ≤ x0.toInt ∧ x0.toInt ≤ 4) ∧ (0 ≤ v.toInt ∧ v.toInt ≤ 9))) := by
  have ha : sargs (cap vC_208) [xf 12 2, xi x0] := ⟨rfl, a0, trivial⟩
  obtain ⟨ρ, rs, h', ⟨hv, hw⟩, c, g, f, cs, hcs, k1, k2, k3, k4, k5, k6⟩ := vc_208 l [xf 12 2, xi x0] h ha hg (fun q hq => absurd hq List.not_mem_nil) (fun q hq => absurd hq List.not_mem_nil) (fun ρ hρ g hg' => absurd hg' List.not_mem_nil)
  have e0 : ρ 0 = x0.toInt := hv.1
  rcases List.mem_cons.mp hcs with rfl | hcs
  · obtain ⟨v, rfl, kv⟩ := sres_i k3
    exact ⟨v, h', c, g, f, Or.inl kv⟩
  rcases List.mem_cons.mp hcs with rfl | hcs
  · obtain ⟨v, rfl, kv⟩ := sres_i k3
    exact ⟨v, h', c, g, f, Or.inr (Or.inl ⟨(by have z := k1 0 _ rfl; rw [e0] at z; exact z), kv⟩)⟩
  rcases List.mem_cons.mp hcs with rfl | hcs
  · obtain ⟨v, rfl, kv⟩ := sres_i k3
    exact ⟨v, h', c, g, f, Or.inr (Or.inr (Or.inl ⟨(by have z := k1 0 _ rfl; rw [e0] at z; exact z), kv⟩))⟩
  rcases List.mem_cons.mp hcs with rfl | hcs
  · obtain ⟨v, rfl, kv⟩ := sres_i k3
    exact ⟨v, h', c, g, f, Or.inr (Or.inr (Or.inr (⟨(by have z := k1 0 _ rfl; rw [e0] at z; exact z), kv⟩)))⟩
  exact absurd hcs List.not_mem_nil
theorem vl_255 (l : Launch) (x0 : Int32) (h : XH) (hg : sgood vT vR vE 153 6051 h) (a0 : (-2147483648) ≤ x0.toInt ∧ x0.toInt ≤ 2147483647) : ∃ (v : Int32) (h' : XH), CX l 6 169 false 255 [xf 13 104, xi x0] h [xi v] h' ∧ sgood vT vR vE 153 6051 h' ∧ sframe ([(104, 2, false), (104, 54, false), (104, 63, false), (104, 64, false), (133, 6, false), (133, 7, false), (133, 8, false), (133, 9, false), (133, 10, false), (133, 11, false), (134, 6, false), (134, 7, false), (134, 8, false), (134, 9, false), (134, 10, false), (134, 11, false), (135, 8, false), (135, 9, false), (135, 10, false), (135, 11, false), (135, 12, false), (135, 13, false), (135, 14, false), (135, 15, false), (136, 8, false), (136, 9, false), (136, 10, false), (136, 11, false), (136, 12, false), (136, 13, false), (136, 14, false), (136, 15, false), (137, 8, false), (137, 9, false), (137, 10, false), (137, 11, false), (137, 12, false), (137, 13, false), (137, 14, false), (137, 15, false), (138, 1, false)], []) h h' ∧ ((((-1) ≤ v.toInt ∧ v.toInt ≤ (-1))) ∨ ((1 ≤ x0.toInt ∧ x0.toInt ≤ 4) ∧ ((-2) ≤ v.toInt ∧ v.toInt ≤ (-2))) ∨ ((0 ≤ x0.toInt ∧ x0.toInt ≤ 4) ∧ ((-2147483648) ≤ v.toInt ∧ v.toInt ≤ 2147483647)) ∨ ((1 ≤ x0.toInt ∧ x0.toInt ≤ 3) ∧ (0 ≤ v.toInt ∧ v.toInt ≤ 9)) ∨ ((0 ≤ x0.toInt ∧ x0.toInt ≤ 0) ∧ (0 ≤ v.toInt ∧ v.toInt ≤ 0))) := by
  have ha : sargs (cap vC_215) [xf 13 104, xi x0] := ⟨rfl, a0, trivial⟩
  obtain ⟨ρ, rs, h', ⟨hv, hw⟩, c, g, f, cs, hcs, k1, k2, k3, k4, k5, k6⟩ := vc_215 l [xf 13 104, xi x0] h ha hg (fun q hq => absurd hq List.not_mem_nil) (fun q hq => absurd hq List.not_mem_nil) (fun ρ hρ g hg' => absurd hg' List.not_mem_nil)
  have e0 : ρ 0 = x0.toInt := hv.1
  rcases List.mem_cons.mp hcs with rfl | hcs
  · obtain ⟨v, rfl, kv⟩ := sres_i k3
    exact ⟨v, h', c, g, f, Or.inl kv⟩
  rcases List.mem_cons.mp hcs with rfl | hcs
  · obtain ⟨v, rfl, kv⟩ := sres_i k3
    exact ⟨v, h', c, g, f, Or.inr (Or.inl ⟨(by have z := k1 0 _ rfl; rw [e0] at z; exact z), kv⟩)⟩
  rcases List.mem_cons.mp hcs with rfl | hcs
  · obtain ⟨v, rfl, kv⟩ := sres_i k3
    exact ⟨v, h', c, g, f, Or.inr (Or.inr (Or.inl ⟨(by have z := k1 0 _ rfl; rw [e0] at z; exact z), kv⟩))⟩
  rcases List.mem_cons.mp hcs with rfl | hcs
  · obtain ⟨v, rfl, kv⟩ := sres_i k3
    exact ⟨v, h', c, g, f, Or.inr (Or.inr (Or.inr (Or.inl ⟨(by have z := k1 0 _ rfl; rw [e0] at z; exact z), kv⟩)))⟩
  rcases List.mem_cons.mp hcs with rfl | hcs
  · obtain ⟨v, rfl, kv⟩ := sres_i k3
    exact ⟨v, h', c, g, f, Or.inr (Or.inr (Or.inr (Or.inr (⟨(by have z := k1 0 _ rfl; rw [e0] at z; exact z), kv⟩))))⟩
  exact absurd hcs List.not_mem_nil
theorem vl_121 (l : Launch)  (h : XH) (hg : sgood vT vR vE 153 6051 h)  : ∃ (v : Int32) (h' : XH), CX l 2 44 false 121 [xf 12 2] h [xi v] h' ∧ sgood vT vR vE 153 6051 h' ∧ sframe ([], []) h h' ∧ ((((-2147483648) ≤ v.toInt ∧ v.toInt ≤ 2147483647))) := by
  have ha : sargs (cap vC_217) [xf 12 2] := ⟨rfl, trivial⟩
  obtain ⟨ρ, rs, h', ⟨hv, hw⟩, c, g, f, cs, hcs, k1, k2, k3, k4, k5, k6⟩ := vc_217 l [xf 12 2] h ha hg (fun q hq => absurd hq List.not_mem_nil) (fun q hq => absurd hq List.not_mem_nil) (fun ρ hρ g hg' => absurd hg' List.not_mem_nil)
  rcases List.mem_cons.mp hcs with rfl | hcs
  · obtain ⟨v, rfl, kv⟩ := sres_i k3
    exact ⟨v, h', c, g, f, kv⟩
  exact absurd hcs List.not_mem_nil
theorem vl_257 (l : Launch)  (h : XH) (hg : sgood vT vR vE 153 6051 h)  : ∃ (v : Int32) (h' : XH), CX l 2 46 false 257 [xf 13 104] h [xi v] h' ∧ sgood vT vR vE 153 6051 h' ∧ sframe ([(104, 2, false)], []) h h' ∧ ((((-2147483648) ≤ v.toInt ∧ v.toInt ≤ 2147483647))) := by
  have ha : sargs (cap vC_219) [xf 13 104] := ⟨rfl, trivial⟩
  obtain ⟨ρ, rs, h', ⟨hv, hw⟩, c, g, f, cs, hcs, k1, k2, k3, k4, k5, k6⟩ := vc_219 l [xf 13 104] h ha hg (fun q hq => absurd hq List.not_mem_nil) (fun q hq => absurd hq List.not_mem_nil) (fun ρ hρ g hg' => absurd hg' List.not_mem_nil)
  rcases List.mem_cons.mp hcs with rfl | hcs
  · obtain ⟨v, rfl, kv⟩ := sres_i k3
    exact ⟨v, h', c, g, f, kv⟩
  exact absurd hcs List.not_mem_nil
theorem vl_123 (l : Launch) (x0 : Int32) (h : XH) (hg : sgood vT vR vE 153 6051 h) (a0 : (-2147483648) ≤ x0.toInt ∧ x0.toInt ≤ 2147483647) : ∃ (v : Int32) (h' : XH), CX l 2 44 false 123 [xf 12 2, xi x0] h [xi v] h' ∧ sgood vT vR vE 153 6051 h' ∧ sframe ([], []) h h' ∧ ((((-1) ≤ v.toInt ∧ v.toInt ≤ (-1))) ∨ ((0 ≤ x0.toInt ∧ x0.toInt ≤ 1) ∧ ((-2147483648) ≤ v.toInt ∧ v.toInt ≤ 2147483647))) := by
  have ha : sargs (cap vC_220) [xf 12 2, xi x0] := ⟨rfl, a0, trivial⟩
  obtain ⟨ρ, rs, h', ⟨hv, hw⟩, c, g, f, cs, hcs, k1, k2, k3, k4, k5, k6⟩ := vc_220 l [xf 12 2, xi x0] h ha hg (fun q hq => absurd hq List.not_mem_nil) (fun q hq => absurd hq List.not_mem_nil) (fun ρ hρ g hg' => absurd hg' List.not_mem_nil)
  have e0 : ρ 0 = x0.toInt := hv.1
  rcases List.mem_cons.mp hcs with rfl | hcs
  · obtain ⟨v, rfl, kv⟩ := sres_i k3
    exact ⟨v, h', c, g, f, Or.inl kv⟩
  rcases List.mem_cons.mp hcs with rfl | hcs
  · obtain ⟨v, rfl, kv⟩ := sres_i k3
    exact ⟨v, h', c, g, f, Or.inr (⟨(by have z := k1 0 _ rfl; rw [e0] at z; exact z), kv⟩)⟩
  exact absurd hcs List.not_mem_nil
theorem vl_259 (l : Launch) (x0 : Int32) (h : XH) (hg : sgood vT vR vE 153 6051 h) (a0 : (-2147483648) ≤ x0.toInt ∧ x0.toInt ≤ 2147483647) : ∃ (v : Int32) (h' : XH), CX l 2 46 false 259 [xf 13 104, xi x0] h [xi v] h' ∧ sgood vT vR vE 153 6051 h' ∧ sframe ([(104, 2, false), (104, 63, false), (104, 64, false), (133, 6, false), (133, 7, false), (133, 8, false), (133, 9, false), (133, 10, false), (133, 11, false), (134, 6, false), (134, 7, false), (134, 8, false), (134, 9, false), (134, 10, false), (134, 11, false), (135, 8, false), (135, 9, false), (135, 10, false), (135, 11, false), (135, 12, false), (135, 13, false), (135, 14, false), (135, 15, false), (136, 8, false), (136, 9, false), (136, 10, false), (136, 11, false), (136, 12, false), (136, 13, false), (136, 14, false), (136, 15, false), (137, 8, false), (137, 9, false), (137, 10, false), (137, 11, false), (137, 12, false), (137, 13, false), (137, 14, false), (137, 15, false), (138, 1, false)], []) h h' ∧ ((((-1) ≤ v.toInt ∧ v.toInt ≤ (-1))) ∨ ((0 ≤ x0.toInt ∧ x0.toInt ≤ 1) ∧ ((-2147483648) ≤ v.toInt ∧ v.toInt ≤ 2147483647))) := by
  have ha : sargs (cap vC_221) [xf 13 104, xi x0] := ⟨rfl, a0, trivial⟩
  obtain ⟨ρ, rs, h', ⟨hv, hw⟩, c, g, f, cs, hcs, k1, k2, k3, k4, k5, k6⟩ := vc_221 l [xf 13 104, xi x0] h ha hg (fun q hq => absurd hq List.not_mem_nil) (fun q hq => absurd hq List.not_mem_nil) (fun ρ hρ g hg' => absurd hg' List.not_mem_nil)
  have e0 : ρ 0 = x0.toInt := hv.1
  rcases List.mem_cons.mp hcs with rfl | hcs
  · obtain ⟨v, rfl, kv⟩ := sres_i k3
    exact ⟨v, h', c, g, f, Or.inl kv⟩
  rcases List.mem_cons.mp hcs with rfl | hcs
  · obtain ⟨v, rfl, kv⟩ := sres_i k3
    exact ⟨v, h', c, g, f, Or.inr (⟨(by have z := k1 0 _ rfl; rw [e0] at z; exact z), kv⟩)⟩
  exact absurd hcs List.not_mem_nil
theorem vl_124 (l : Launch) (x0 : Int32) (x1 : Int32) (x2 : Int32) (h : XH) (hg : sgood vT vR vE 153 6051 h) (a0 : (-2147483648) ≤ x0.toInt ∧ x0.toInt ≤ 2147483647) (a1 : (-2147483648) ≤ x1.toInt ∧ x1.toInt ≤ 2147483647) (a2 : (-2147483648) ≤ x2.toInt ∧ x2.toInt ≤ 2147483647) : ∃ (v : Int32) (h' : XH), CX l 7 172 false 124 [xf 12 2, xi x0, xi x1, xi x2] h [xi v] h' ∧ sgood vT vR vE 153 6051 h' ∧ sframe ([(59, 7, false), (59, 10, false), (60, 0, true), (61, 0, true), (62, 0, true), (63, 0, true), (64, 0, true), (65, 0, true), (66, 0, true), (67, 0, true), (68, 0, true), (99, 0, true)], [(59, 0)]) h h' ∧ ((((-1) ≤ v.toInt ∧ v.toInt ≤ (-1))) ∨ ((0 ≤ x0.toInt ∧ x0.toInt ≤ 5) ∧ (0 ≤ x1.toInt ∧ x1.toInt ≤ 5) ∧ (0 ≤ x2.toInt ∧ x2.toInt ≤ 60) ∧ ((-2) ≤ v.toInt ∧ v.toInt ≤ (-2))) ∨ ((0 ≤ x0.toInt ∧ x0.toInt ≤ 5) ∧ (0 ≤ x1.toInt ∧ x1.toInt ≤ 5) ∧ (0 ≤ x2.toInt ∧ x2.toInt ≤ 60) ∧ (0 ≤ v.toInt ∧ v.toInt ≤ 60))) := by
  have ha : sargs (cap vC_230) [xf 12 2, xi x0, xi x1, xi x2] := ⟨rfl, a0, a1, a2, trivial⟩
  obtain ⟨ρ, rs, h', ⟨hv, hw⟩, c, g, f, cs, hcs, k1, k2, k3, k4, k5, k6⟩ := vc_230 l [xf 12 2, xi x0, xi x1, xi x2] h ha hg (fun q hq => absurd hq List.not_mem_nil) (fun q hq => absurd hq List.not_mem_nil) (fun ρ hρ g hg' => absurd hg' List.not_mem_nil)
  have e0 : ρ 0 = x0.toInt := hv.1
  have e1 : ρ 1 = x1.toInt := hv.2.1
  have e2 : ρ 2 = x2.toInt := hv.2.2.1
  rcases List.mem_cons.mp hcs with rfl | hcs
  · obtain ⟨v, rfl, kv⟩ := sres_i k3
    exact ⟨v, h', c, g, f, Or.inl kv⟩
  rcases List.mem_cons.mp hcs with rfl | hcs
  · obtain ⟨v, rfl, kv⟩ := sres_i k3
    exact ⟨v, h', c, g, f, Or.inr (Or.inl ⟨(by have z := k1 0 _ rfl; rw [e0] at z; exact z), (by have z := k1 1 _ rfl; rw [e1] at z; exact z), (by have z := k1 2 _ rfl; rw [e2] at z; exact z), kv⟩)⟩
  rcases List.mem_cons.mp hcs with rfl | hcs
  · obtain ⟨v, rfl, kv⟩ := sres_i k3
    exact ⟨v, h', c, g, f, Or.inr (Or.inr (⟨(by have z := k1 0 _ rfl; rw [e0] at z; exact z), (by have z := k1 1 _ rfl; rw [e1] at z; exact z), (by have z := k1 2 _ rfl; rw [e2] at z; exact z), kv⟩))⟩
  exact absurd hcs List.not_mem_nil
theorem vl_260 (l : Launch) (x0 : Int32) (x1 : Int32) (x2 : Int32) (h : XH) (hg : sgood vT vR vE 153 6051 h) (a0 : (-2147483648) ≤ x0.toInt ∧ x0.toInt ≤ 2147483647) (a1 : (-2147483648) ≤ x1.toInt ∧ x1.toInt ≤ 2147483647) (a2 : (-2147483648) ≤ x2.toInt ∧ x2.toInt ≤ 2147483647) : ∃ (v : Int32) (h' : XH), CX l 11 292 false 260 [xf 13 104, xi x0, xi x1, xi x2] h [xi v] h' ∧ sgood vT vR vE 153 6051 h' ∧ sframe ([(104, 2, false), (104, 54, false), (104, 63, false), (104, 64, false), (133, 6, false), (133, 7, false), (133, 8, false), (133, 9, false), (133, 10, false), (133, 11, false), (134, 6, false), (134, 7, false), (134, 8, false), (134, 9, false), (134, 10, false), (134, 11, false), (135, 8, false), (135, 9, false), (135, 10, false), (135, 11, false), (135, 12, false), (135, 13, false), (135, 14, false), (135, 15, false), (136, 8, false), (136, 9, false), (136, 10, false), (136, 11, false), (136, 12, false), (136, 13, false), (136, 14, false), (136, 15, false), (137, 8, false), (137, 9, false), (137, 10, false), (137, 11, false), (137, 12, false), (137, 13, false), (137, 14, false), (137, 15, false), (138, 1, false), (139, 0, true), (140, 0, true)], []) h h' ∧ ((((-1) ≤ v.toInt ∧ v.toInt ≤ (-1))) ∨ ((0 ≤ x0.toInt ∧ x0.toInt ≤ 5) ∧ (0 ≤ x1.toInt ∧ x1.toInt ≤ 5) ∧ (0 ≤ x2.toInt ∧ x2.toInt ≤ 60) ∧ ((-2) ≤ v.toInt ∧ v.toInt ≤ (-2))) ∨ ((0 ≤ x0.toInt ∧ x0.toInt ≤ 5) ∧ (0 ≤ x1.toInt ∧ x1.toInt ≤ 5) ∧ (0 ≤ x2.toInt ∧ x2.toInt ≤ 60) ∧ (0 ≤ v.toInt ∧ v.toInt ≤ 60))) := by
  have ha : sargs (cap vD_234) [xf 13 104, xi x0, xi x1, xi x2] := ⟨rfl, a0, a1, a2, trivial⟩
  obtain ⟨ρ, rs, h', ⟨hv, hw⟩, c, g, f, cs, hcs, k1, k2, k3, k4, k5, k6⟩ := vDc_234 l [xf 13 104, xi x0, xi x1, xi x2] h ha hg (fun q hq => absurd hq List.not_mem_nil) (fun q hq => absurd hq List.not_mem_nil) (fun ρ hρ g hg' => absurd hg' List.not_mem_nil)
  have e0 : ρ 0 = x0.toInt := hv.1
  have e1 : ρ 1 = x1.toInt := hv.2.1
  have e2 : ρ 2 = x2.toInt := hv.2.2.1
  rcases List.mem_cons.mp hcs with rfl | hcs
  · obtain ⟨v, rfl, kv⟩ := sres_i k3
    exact ⟨v, h', c, g, f, Or.inl kv⟩
  rcases List.mem_cons.mp hcs with rfl | hcs
  · obtain ⟨v, rfl, kv⟩ := sres_i k3
    exact ⟨v, h', c, g, f, Or.inr (Or.inl ⟨(by have z := k1 0 _ rfl; rw [e0] at z; exact z), (by have z := k1 1 _ rfl; rw [e1] at z; exact z), (by have z := k1 2 _ rfl; rw [e2] at z; exact z), kv⟩)⟩
  rcases List.mem_cons.mp hcs with rfl | hcs
  · obtain ⟨v, rfl, kv⟩ := sres_i k3
    exact ⟨v, h', c, g, f, Or.inr (Or.inr (⟨(by have z := k1 0 _ rfl; rw [e0] at z; exact z), (by have z := k1 1 _ rfl; rw [e1] at z; exact z), (by have z := k1 2 _ rfl; rw [e2] at z; exact z), kv⟩))⟩
  exact absurd hcs List.not_mem_nil
theorem vl_130 (l : Launch) (x0 : Int32) (x1 : Int32) (h : XH) (hg : sgood vT vR vE 153 6051 h) (a0 : (-2147483648) ≤ x0.toInt ∧ x0.toInt ≤ 2147483647) (a1 : (-2147483648) ≤ x1.toInt ∧ x1.toInt ≤ 2147483647) : ∃ (v : Int32) (h' : XH), CX l 7 172 false 130 [xf 12 2, xi x0, xi x1] h [xi v] h' ∧ sgood vT vR vE 153 6051 h' ∧ sframe ([(59, 7, false), (59, 10, false), (60, 0, true), (61, 0, true), (62, 0, true), (63, 0, true), (64, 0, true), (65, 0, true), (66, 0, true), (67, 0, true), (68, 0, true), (99, 0, true)], [(59, 0)]) h h' ∧ ((((-1) ≤ v.toInt ∧ v.toInt ≤ (-1))) ∨ ((0 ≤ x0.toInt ∧ x0.toInt ≤ 5) ∧ (0 ≤ x1.toInt ∧ x1.toInt ≤ 5) ∧ ((-2) ≤ v.toInt ∧ v.toInt ≤ (-2))) ∨ ((0 ≤ x0.toInt ∧ x0.toInt ≤ 5) ∧ (0 ≤ x1.toInt ∧ x1.toInt ≤ 5) ∧ ((-1) ≤ v.toInt ∧ v.toInt ≤ 60))) := by
  have ha : sargs (cap vC_235) [xf 12 2, xi x0, xi x1] := ⟨rfl, a0, a1, trivial⟩
  obtain ⟨ρ, rs, h', ⟨hv, hw⟩, c, g, f, cs, hcs, k1, k2, k3, k4, k5, k6⟩ := vc_235 l [xf 12 2, xi x0, xi x1] h ha hg (fun q hq => absurd hq List.not_mem_nil) (fun q hq => absurd hq List.not_mem_nil) (fun ρ hρ g hg' => absurd hg' List.not_mem_nil)
  have e0 : ρ 0 = x0.toInt := hv.1
  have e1 : ρ 1 = x1.toInt := hv.2.1
  rcases List.mem_cons.mp hcs with rfl | hcs
  · obtain ⟨v, rfl, kv⟩ := sres_i k3
    exact ⟨v, h', c, g, f, Or.inl kv⟩
  rcases List.mem_cons.mp hcs with rfl | hcs
  · obtain ⟨v, rfl, kv⟩ := sres_i k3
    exact ⟨v, h', c, g, f, Or.inr (Or.inl ⟨(by have z := k1 0 _ rfl; rw [e0] at z; exact z), (by have z := k1 1 _ rfl; rw [e1] at z; exact z), kv⟩)⟩
  rcases List.mem_cons.mp hcs with rfl | hcs
  · obtain ⟨v, rfl, kv⟩ := sres_i k3
    exact ⟨v, h', c, g, f, Or.inr (Or.inr (⟨(by have z := k1 0 _ rfl; rw [e0] at z; exact z), (by have z := k1 1 _ rfl; rw [e1] at z; exact z), kv⟩))⟩
  exact absurd hcs List.not_mem_nil
theorem vl_131 (l : Launch) (x0 : Int32) (h : XH) (hg : sgood vT vR vE 153 6051 h) (a0 : (-2147483648) ≤ x0.toInt ∧ x0.toInt ≤ 2147483647) : ∃ (v : Int32) (h' : XH), CX l 6 152 false 131 [xf 12 2, xi x0] h [xi v] h' ∧ sgood vT vR vE 153 6051 h' ∧ sframe ([], []) h h' ∧ ((((-1) ≤ v.toInt ∧ v.toInt ≤ (-1))) ∨ ((0 ≤ x0.toInt ∧ x0.toInt ≤ 7) ∧ ((-2147483648) ≤ v.toInt ∧ v.toInt ≤ 2147483647)) ∨ ((0 ≤ x0.toInt ∧ x0.toInt ≤ 7) ∧ ((-2) ≤ v.toInt ∧ v.toInt ≤ (-2)))) := by
  have ha : sargs (cap vC_243) [xf 12 2, xi x0] := ⟨rfl, a0, trivial⟩
  obtain ⟨ρ, rs, h', ⟨hv, hw⟩, c, g, f, cs, hcs, k1, k2, k3, k4, k5, k6⟩ := vc_243 l [xf 12 2, xi x0] h ha hg (fun q hq => absurd hq List.not_mem_nil) (fun q hq => absurd hq List.not_mem_nil) (fun ρ hρ g hg' => absurd hg' List.not_mem_nil)
  have e0 : ρ 0 = x0.toInt := hv.1
  rcases List.mem_cons.mp hcs with rfl | hcs
  · obtain ⟨v, rfl, kv⟩ := sres_i k3
    exact ⟨v, h', c, g, f, Or.inl kv⟩
  rcases List.mem_cons.mp hcs with rfl | hcs
  · obtain ⟨v, rfl, kv⟩ := sres_i k3
    exact ⟨v, h', c, g, f, Or.inr (Or.inl ⟨(by have z := k1 0 _ rfl; rw [e0] at z; exact z), kv⟩)⟩
  rcases List.mem_cons.mp hcs with rfl | hcs
  · obtain ⟨v, rfl, kv⟩ := sres_i k3
    exact ⟨v, h', c, g, f, Or.inr (Or.inr (⟨(by have z := k1 0 _ rfl; rw [e0] at z; exact z), kv⟩))⟩
  exact absurd hcs List.not_mem_nil
theorem vl_264 (l : Launch) (x0 : Int32) (h : XH) (hg : sgood vT vR vE 153 6051 h) (a0 : (-2147483648) ≤ x0.toInt ∧ x0.toInt ≤ 2147483647) : ∃ (v : Int32) (h' : XH), CX l 7 196 false 264 [xf 13 104, xi x0] h [xi v] h' ∧ sgood vT vR vE 153 6051 h' ∧ sframe ([(104, 2, false), (104, 54, false), (104, 63, false), (104, 64, false), (141, 0, true), (142, 0, true), (143, 0, true), (144, 0, true)], []) h h' ∧ ((((-1) ≤ v.toInt ∧ v.toInt ≤ (-1))) ∨ ((0 ≤ x0.toInt ∧ x0.toInt ≤ 7) ∧ ((-2) ≤ v.toInt ∧ v.toInt ≤ (-2))) ∨ ((0 ≤ x0.toInt ∧ x0.toInt ≤ 7) ∧ ((-1) ≤ v.toInt ∧ v.toInt ≤ 5))) := by
  have ha : sargs (cap vC_245) [xf 13 104, xi x0] := ⟨rfl, a0, trivial⟩
  obtain ⟨ρ, rs, h', ⟨hv, hw⟩, c, g, f, cs, hcs, k1, k2, k3, k4, k5, k6⟩ := vc_245 l [xf 13 104, xi x0] h ha hg (fun q hq => absurd hq List.not_mem_nil) (fun q hq => absurd hq List.not_mem_nil) (fun ρ hρ g hg' => absurd hg' List.not_mem_nil)
  have e0 : ρ 0 = x0.toInt := hv.1
  rcases List.mem_cons.mp hcs with rfl | hcs
  · obtain ⟨v, rfl, kv⟩ := sres_i k3
    exact ⟨v, h', c, g, f, Or.inl kv⟩
  rcases List.mem_cons.mp hcs with rfl | hcs
  · obtain ⟨v, rfl, kv⟩ := sres_i k3
    exact ⟨v, h', c, g, f, Or.inr (Or.inl ⟨(by have z := k1 0 _ rfl; rw [e0] at z; exact z), kv⟩)⟩
  rcases List.mem_cons.mp hcs with rfl | hcs
  · obtain ⟨v, rfl, kv⟩ := sres_i k3
    exact ⟨v, h', c, g, f, Or.inr (Or.inr (⟨(by have z := k1 0 _ rfl; rw [e0] at z; exact z), kv⟩))⟩
  exact absurd hcs List.not_mem_nil
theorem vl_138 (l : Launch) (x0 : Int32) (x1 : Int32) (h : XH) (hg : sgood vT vR vE 153 6051 h) (a0 : (-2147483648) ≤ x0.toInt ∧ x0.toInt ≤ 2147483647) (a1 : (-2147483648) ≤ x1.toInt ∧ x1.toInt ≤ 2147483647) : ∃ (v : Int32) (h' : XH), CX l 1 24 false 138 [xf 12 2, xi x0, xi x1] h [xi v] h' ∧ sgood vT vR vE 153 6051 h' ∧ sframe ([], []) h h' ∧ ((((-1) ≤ v.toInt ∧ v.toInt ≤ (-1))) ∨ ((0 ≤ x0.toInt ∧ x0.toInt ≤ 5) ∧ (0 ≤ x1.toInt ∧ x1.toInt ≤ 2) ∧ (0 ≤ v.toInt ∧ v.toInt ≤ 891))) := by
  have ha : sargs (cap vC_247) [xf 12 2, xi x0, xi x1] := ⟨rfl, a0, a1, trivial⟩
  obtain ⟨ρ, rs, h', ⟨hv, hw⟩, c, g, f, cs, hcs, k1, k2, k3, k4, k5, k6⟩ := vc_247 l [xf 12 2, xi x0, xi x1] h ha hg (fun q hq => absurd hq List.not_mem_nil) (fun q hq => absurd hq List.not_mem_nil) (fun ρ hρ g hg' => absurd hg' List.not_mem_nil)
  have e0 : ρ 0 = x0.toInt := hv.1
  have e1 : ρ 1 = x1.toInt := hv.2.1
  rcases List.mem_cons.mp hcs with rfl | hcs
  · obtain ⟨v, rfl, kv⟩ := sres_i k3
    exact ⟨v, h', c, g, f, Or.inl kv⟩
  rcases List.mem_cons.mp hcs with rfl | hcs
  · obtain ⟨v, rfl, kv⟩ := sres_i k3
    exact ⟨v, h', c, g, f, Or.inr (⟨(by have z := k1 0 _ rfl; rw [e0] at z; exact z), (by have z := k1 1 _ rfl; rw [e1] at z; exact z), kv⟩)⟩
  exact absurd hcs List.not_mem_nil
theorem vl_266 (l : Launch) (x0 : Int32) (x1 : Int32) (h : XH) (hg : sgood vT vR vE 153 6051 h) (a0 : (-2147483648) ≤ x0.toInt ∧ x0.toInt ≤ 2147483647) (a1 : (-2147483648) ≤ x1.toInt ∧ x1.toInt ≤ 2147483647) : ∃ (v : Int32) (h' : XH), CX l 1 22 false 266 [xf 13 104, xi x0, xi x1] h [xi v] h' ∧ sgood vT vR vE 153 6051 h' ∧ sframe ([(104, 2, false)], []) h h' ∧ ((((-1) ≤ v.toInt ∧ v.toInt ≤ (-1))) ∨ ((0 ≤ x0.toInt ∧ x0.toInt ≤ 5) ∧ (0 ≤ x1.toInt ∧ x1.toInt ≤ 2) ∧ (0 ≤ v.toInt ∧ v.toInt ≤ 891))) := by
  have ha : sargs (cap vC_249) [xf 13 104, xi x0, xi x1] := ⟨rfl, a0, a1, trivial⟩
  obtain ⟨ρ, rs, h', ⟨hv, hw⟩, c, g, f, cs, hcs, k1, k2, k3, k4, k5, k6⟩ := vc_249 l [xf 13 104, xi x0, xi x1] h ha hg (fun q hq => absurd hq List.not_mem_nil) (fun q hq => absurd hq List.not_mem_nil) (fun ρ hρ g hg' => absurd hg' List.not_mem_nil)
  have e0 : ρ 0 = x0.toInt := hv.1
  have e1 : ρ 1 = x1.toInt := hv.2.1
  rcases List.mem_cons.mp hcs with rfl | hcs
  · obtain ⟨v, rfl, kv⟩ := sres_i k3
    exact ⟨v, h', c, g, f, Or.inl kv⟩
  rcases List.mem_cons.mp hcs with rfl | hcs
  · obtain ⟨v, rfl, kv⟩ := sres_i k3
    exact ⟨v, h', c, g, f, Or.inr (⟨(by have z := k1 0 _ rfl; rw [e0] at z; exact z), (by have z := k1 1 _ rfl; rw [e1] at z; exact z), kv⟩)⟩
  exact absurd hcs List.not_mem_nil
theorem vl_140 (l : Launch) (x0 : Int32) (x1 : Int32) (h : XH) (hg : sgood vT vR vE 153 6051 h) (a0 : (-2147483648) ≤ x0.toInt ∧ x0.toInt ≤ 2147483647) (a1 : (-2147483648) ≤ x1.toInt ∧ x1.toInt ≤ 2147483647) : ∃ (v : Int32) (h' : XH), CX l 7 177 false 140 [xf 12 2, xi x0, xi x1] h [xi v] h' ∧ sgood vT vR vE 153 6051 h' ∧ sframe ([], []) h h' ∧ (((0 ≤ x0.toInt ∧ x0.toInt ≤ 7) ∧ (0 ≤ x1.toInt ∧ x1.toInt ≤ 7) ∧ (0 ≤ v.toInt ∧ v.toInt ≤ 63)) ∨ (((-1) ≤ v.toInt ∧ v.toInt ≤ (-1)))) := by
  have ha : sargs (cap vC_253) [xf 12 2, xi x0, xi x1] := ⟨rfl, a0, a1, trivial⟩
  obtain ⟨ρ, rs, h', ⟨hv, hw⟩, c, g, f, cs, hcs, k1, k2, k3, k4, k5, k6⟩ := vc_253 l [xf 12 2, xi x0, xi x1] h ha hg (fun q hq => absurd hq List.not_mem_nil) (fun q hq => absurd hq List.not_mem_nil) (fun ρ hρ g hg' => absurd hg' List.not_mem_nil)
  have e0 : ρ 0 = x0.toInt := hv.1
  have e1 : ρ 1 = x1.toInt := hv.2.1
  rcases List.mem_cons.mp hcs with rfl | hcs
  · obtain ⟨v, rfl, kv⟩ := sres_i k3
    exact ⟨v, h', c, g, f, Or.inl ⟨(by have z := k1 0 _ rfl; rw [e0] at z; exact z), (by have z := k1 1 _ rfl; rw [e1] at z; exact z), kv⟩⟩
  rcases List.mem_cons.mp hcs with rfl | hcs
  · obtain ⟨v, rfl, kv⟩ := sres_i k3
    exact ⟨v, h', c, g, f, Or.inr (kv)⟩
  exact absurd hcs List.not_mem_nil
theorem vl_267 (l : Launch) (x0 : Int32) (x1 : Int32) (h : XH) (hg : sgood vT vR vE 153 6051 h) (a0 : (-2147483648) ≤ x0.toInt ∧ x0.toInt ≤ 2147483647) (a1 : (-2147483648) ≤ x1.toInt ∧ x1.toInt ≤ 2147483647) : ∃ (v : Int32) (h' : XH), CX l 10 268 false 267 [xf 13 104, xi x0, xi x1] h [xi v] h' ∧ sgood vT vR vE 153 6051 h' ∧ sframe ([(104, 2, false), (104, 54, false), (104, 63, false), (104, 64, false), (133, 6, false), (133, 7, false), (133, 8, false), (133, 9, false), (133, 10, false), (133, 11, false), (134, 6, false), (134, 7, false), (134, 8, false), (134, 9, false), (134, 10, false), (134, 11, false), (135, 8, false), (135, 9, false), (135, 10, false), (135, 11, false), (135, 12, false), (135, 13, false), (135, 14, false), (135, 15, false), (136, 8, false), (136, 9, false), (136, 10, false), (136, 11, false), (136, 12, false), (136, 13, false), (136, 14, false), (136, 15, false), (137, 8, false), (137, 9, false), (137, 10, false), (137, 11, false), (137, 12, false), (137, 13, false), (137, 14, false), (137, 15, false), (138, 1, false), (145, 0, true), (146, 0, true)], []) h h' ∧ (((0 ≤ x0.toInt ∧ x0.toInt ≤ 7) ∧ (0 ≤ x1.toInt ∧ x1.toInt ≤ 7) ∧ ((-2147483648) ≤ v.toInt ∧ v.toInt ≤ 2147483647)) ∨ ((0 ≤ x0.toInt ∧ x0.toInt ≤ 7) ∧ (0 ≤ x1.toInt ∧ x1.toInt ≤ 7) ∧ (0 ≤ v.toInt ∧ v.toInt ≤ 0)) ∨ ((0 ≤ x0.toInt ∧ x0.toInt ≤ 7) ∧ (0 ≤ x1.toInt ∧ x1.toInt ≤ 7) ∧ (1 ≤ v.toInt ∧ v.toInt ≤ 1)) ∨ ((0 ≤ x0.toInt ∧ x0.toInt ≤ 7) ∧ (0 ≤ x1.toInt ∧ x1.toInt ≤ 7) ∧ (10 ≤ v.toInt ∧ v.toInt ≤ 11)) ∨ (((-1) ≤ v.toInt ∧ v.toInt ≤ (-1)))) := by
  have ha : sargs (cap vD_256) [xf 13 104, xi x0, xi x1] := ⟨rfl, a0, a1, trivial⟩
  obtain ⟨ρ, rs, h', ⟨hv, hw⟩, c, g, f, cs, hcs, k1, k2, k3, k4, k5, k6⟩ := vDc_256 l [xf 13 104, xi x0, xi x1] h ha hg (fun q hq => absurd hq List.not_mem_nil) (fun q hq => absurd hq List.not_mem_nil) (fun ρ hρ g hg' => absurd hg' List.not_mem_nil)
  have e0 : ρ 0 = x0.toInt := hv.1
  have e1 : ρ 1 = x1.toInt := hv.2.1
  rcases List.mem_cons.mp hcs with rfl | hcs
  · obtain ⟨v, rfl, kv⟩ := sres_i k3
    exact ⟨v, h', c, g, f, Or.inl ⟨(by have z := k1 0 _ rfl; rw [e0] at z; exact z), (by have z := k1 1 _ rfl; rw [e1] at z; exact z), kv⟩⟩
  rcases List.mem_cons.mp hcs with rfl | hcs
  · obtain ⟨v, rfl, kv⟩ := sres_i k3
    exact ⟨v, h', c, g, f, Or.inr (Or.inl ⟨(by have z := k1 0 _ rfl; rw [e0] at z; exact z), (by have z := k1 1 _ rfl; rw [e1] at z; exact z), kv⟩)⟩
  rcases List.mem_cons.mp hcs with rfl | hcs
  · obtain ⟨v, rfl, kv⟩ := sres_i k3
    exact ⟨v, h', c, g, f, Or.inr (Or.inr (Or.inl ⟨(by have z := k1 0 _ rfl; rw [e0] at z; exact z), (by have z := k1 1 _ rfl; rw [e1] at z; exact z), kv⟩))⟩
  rcases List.mem_cons.mp hcs with rfl | hcs
  · obtain ⟨v, rfl, kv⟩ := sres_i k3
    exact ⟨v, h', c, g, f, Or.inr (Or.inr (Or.inr (Or.inl ⟨(by have z := k1 0 _ rfl; rw [e0] at z; exact z), (by have z := k1 1 _ rfl; rw [e1] at z; exact z), kv⟩)))⟩
  rcases List.mem_cons.mp hcs with rfl | hcs
  · obtain ⟨v, rfl, kv⟩ := sres_i k3
    exact ⟨v, h', c, g, f, Or.inr (Or.inr (Or.inr (Or.inr (kv))))⟩
  exact absurd hcs List.not_mem_nil
theorem vl_144 (l : Launch) (x0 : Int32) (x1 : Int32) (x2 : Int32) (h : XH) (hg : sgood vT vR vE 153 6051 h) (a0 : (-2147483648) ≤ x0.toInt ∧ x0.toInt ≤ 2147483647) (a1 : (-2147483648) ≤ x1.toInt ∧ x1.toInt ≤ 2147483647) (a2 : (-2147483648) ≤ x2.toInt ∧ x2.toInt ≤ 2147483647) : ∃ (v : Int32) (h' : XH), CX l 7 177 false 144 [xf 12 2, xi x0, xi x1, xi x2] h [xi v] h' ∧ sgood vT vR vE 153 6051 h' ∧ sframe ([], []) h h' ∧ ((((-1) ≤ v.toInt ∧ v.toInt ≤ (-1))) ∨ ((0 ≤ x0.toInt ∧ x0.toInt ≤ 7) ∧ (0 ≤ x1.toInt ∧ x1.toInt ≤ 7) ∧ (0 ≤ x2.toInt ∧ x2.toInt ≤ 2147483647) ∧ (0 ≤ v.toInt ∧ v.toInt ≤ 11)) ∨ ((0 ≤ x0.toInt ∧ x0.toInt ≤ 7) ∧ (0 ≤ x1.toInt ∧ x1.toInt ≤ 7) ∧ (0 ≤ x2.toInt ∧ x2.toInt ≤ 2147483647) ∧ ((-2) ≤ v.toInt ∧ v.toInt ≤ (-2)))) := by
  have ha : sargs (cap vC_257) [xf 12 2, xi x0, xi x1, xi x2] := ⟨rfl, a0, a1, a2, trivial⟩
  obtain ⟨ρ, rs, h', ⟨hv, hw⟩, c, g, f, cs, hcs, k1, k2, k3, k4, k5, k6⟩ := vc_257 l [xf 12 2, xi x0, xi x1, xi x2] h ha hg (fun q hq => absurd hq List.not_mem_nil) (fun q hq => absurd hq List.not_mem_nil) (fun ρ hρ g hg' => absurd hg' List.not_mem_nil)
  have e0 : ρ 0 = x0.toInt := hv.1
  have e1 : ρ 1 = x1.toInt := hv.2.1
  have e2 : ρ 2 = x2.toInt := hv.2.2.1
  rcases List.mem_cons.mp hcs with rfl | hcs
  · obtain ⟨v, rfl, kv⟩ := sres_i k3
    exact ⟨v, h', c, g, f, Or.inl kv⟩
  rcases List.mem_cons.mp hcs with rfl | hcs
  · obtain ⟨v, rfl, kv⟩ := sres_i k3
    exact ⟨v, h', c, g, f, Or.inr (Or.inl ⟨(by have z := k1 0 _ rfl; rw [e0] at z; exact z), (by have z := k1 1 _ rfl; rw [e1] at z; exact z), (by have z := k1 2 _ rfl; rw [e2] at z; exact z), kv⟩)⟩
  rcases List.mem_cons.mp hcs with rfl | hcs
  · obtain ⟨v, rfl, kv⟩ := sres_i k3
    exact ⟨v, h', c, g, f, Or.inr (Or.inr (⟨(by have z := k1 0 _ rfl; rw [e0] at z; exact z), (by have z := k1 1 _ rfl; rw [e1] at z; exact z), (by have z := k1 2 _ rfl; rw [e2] at z; exact z), kv⟩))⟩
  exact absurd hcs List.not_mem_nil
theorem vl_270 (l : Launch) (x0 : Int32) (x1 : Int32) (x2 : Int32) (h : XH) (hg : sgood vT vR vE 153 6051 h) (a0 : (-2147483648) ≤ x0.toInt ∧ x0.toInt ≤ 2147483647) (a1 : (-2147483648) ≤ x1.toInt ∧ x1.toInt ≤ 2147483647) (a2 : (-2147483648) ≤ x2.toInt ∧ x2.toInt ≤ 2147483647) : ∃ (v : Int32) (h' : XH), CX l 10 268 false 270 [xf 13 104, xi x0, xi x1, xi x2] h [xi v] h' ∧ sgood vT vR vE 153 6051 h' ∧ sframe ([(104, 2, false), (104, 54, false), (104, 63, false), (104, 64, false), (133, 6, false), (133, 7, false), (133, 8, false), (133, 9, false), (133, 10, false), (133, 11, false), (134, 6, false), (134, 7, false), (134, 8, false), (134, 9, false), (134, 10, false), (134, 11, false), (135, 8, false), (135, 9, false), (135, 10, false), (135, 11, false), (135, 12, false), (135, 13, false), (135, 14, false), (135, 15, false), (136, 8, false), (136, 9, false), (136, 10, false), (136, 11, false), (136, 12, false), (136, 13, false), (136, 14, false), (136, 15, false), (137, 8, false), (137, 9, false), (137, 10, false), (137, 11, false), (137, 12, false), (137, 13, false), (137, 14, false), (137, 15, false), (138, 1, false), (145, 0, true), (146, 0, true)], []) h h' ∧ (((0 ≤ x0.toInt ∧ x0.toInt ≤ 7) ∧ (0 ≤ x1.toInt ∧ x1.toInt ≤ 7) ∧ (0 ≤ x2.toInt ∧ x2.toInt ≤ 2147483647) ∧ ((-2) ≤ v.toInt ∧ v.toInt ≤ (-2))) ∨ ((0 ≤ x0.toInt ∧ x0.toInt ≤ 7) ∧ (0 ≤ x1.toInt ∧ x1.toInt ≤ 7) ∧ (0 ≤ x2.toInt ∧ x2.toInt ≤ 2147483647) ∧ (0 ≤ v.toInt ∧ v.toInt ≤ 0)) ∨ ((0 ≤ x0.toInt ∧ x0.toInt ≤ 7) ∧ (0 ≤ x1.toInt ∧ x1.toInt ≤ 7) ∧ (0 ≤ x2.toInt ∧ x2.toInt ≤ 2147483647) ∧ (1 ≤ v.toInt ∧ v.toInt ≤ 1)) ∨ ((0 ≤ x0.toInt ∧ x0.toInt ≤ 7) ∧ (0 ≤ x1.toInt ∧ x1.toInt ≤ 7) ∧ (0 ≤ x2.toInt ∧ x2.toInt ≤ 2147483647) ∧ (10 ≤ v.toInt ∧ v.toInt ≤ 11)) ∨ (((-1) ≤ v.toInt ∧ v.toInt ≤ (-1)))) := by
  have ha : sargs (cap vD_258) [xf 13 104, xi x0, xi x1, xi x2] := ⟨rfl, a0, a1, a2, trivial⟩
  obtain ⟨ρ, rs, h', ⟨hv, hw⟩, c, g, f, cs, hcs, k1, k2, k3, k4, k5, k6⟩ := vDc_258 l [xf 13 104, xi x0, xi x1, xi x2] h ha hg (fun q hq => absurd hq List.not_mem_nil) (fun q hq => absurd hq List.not_mem_nil) (fun ρ hρ g hg' => absurd hg' List.not_mem_nil)
  have e0 : ρ 0 = x0.toInt := hv.1
  have e1 : ρ 1 = x1.toInt := hv.2.1
  have e2 : ρ 2 = x2.toInt := hv.2.2.1
  rcases List.mem_cons.mp hcs with rfl | hcs
  · obtain ⟨v, rfl, kv⟩ := sres_i k3
    exact ⟨v, h', c, g, f, Or.inl ⟨(by have z := k1 0 _ rfl; rw [e0] at z; exact z), (by have z := k1 1 _ rfl; rw [e1] at z; exact z), (by have z := k1 2 _ rfl; rw [e2] at z; exact z), kv⟩⟩
  rcases List.mem_cons.mp hcs with rfl | hcs
  · obtain ⟨v, rfl, kv⟩ := sres_i k3
    exact ⟨v, h', c, g, f, Or.inr (Or.inl ⟨(by have z := k1 0 _ rfl; rw [e0] at z; exact z), (by have z := k1 1 _ rfl; rw [e1] at z; exact z), (by have z := k1 2 _ rfl; rw [e2] at z; exact z), kv⟩)⟩
  rcases List.mem_cons.mp hcs with rfl | hcs
  · obtain ⟨v, rfl, kv⟩ := sres_i k3
    exact ⟨v, h', c, g, f, Or.inr (Or.inr (Or.inl ⟨(by have z := k1 0 _ rfl; rw [e0] at z; exact z), (by have z := k1 1 _ rfl; rw [e1] at z; exact z), (by have z := k1 2 _ rfl; rw [e2] at z; exact z), kv⟩))⟩
  rcases List.mem_cons.mp hcs with rfl | hcs
  · obtain ⟨v, rfl, kv⟩ := sres_i k3
    exact ⟨v, h', c, g, f, Or.inr (Or.inr (Or.inr (Or.inl ⟨(by have z := k1 0 _ rfl; rw [e0] at z; exact z), (by have z := k1 1 _ rfl; rw [e1] at z; exact z), (by have z := k1 2 _ rfl; rw [e2] at z; exact z), kv⟩)))⟩
  rcases List.mem_cons.mp hcs with rfl | hcs
  · obtain ⟨v, rfl, kv⟩ := sres_i k3
    exact ⟨v, h', c, g, f, Or.inr (Or.inr (Or.inr (Or.inr (kv))))⟩
  exact absurd hcs List.not_mem_nil
theorem vl_145 (l : Launch) (x0 : Int32) (x1 : Int32) (x2 : Int32) (x3 : Int32) (h : XH) (hg : sgood vT vR vE 153 6051 h) (a0 : (-2147483648) ≤ x0.toInt ∧ x0.toInt ≤ 2147483647) (a1 : (-2147483648) ≤ x1.toInt ∧ x1.toInt ≤ 2147483647) (a2 : (-2147483648) ≤ x2.toInt ∧ x2.toInt ≤ 2147483647) (a3 : 0 ≤ x3.toInt ∧ x3.toInt ≤ 1) : ∃ (v : Int32) (h' : XH), CX l 1 24 false 145 [xf 12 2, xi x0, xi x1, xi x2, xi x3] h [xi v] h' ∧ sgood vT vR vE 153 6051 h' ∧ sframe ([(85, 0, false), (86, 0, false), (86, 1, false), (86, 2, false), (86, 3, false), (86, 4, false), (86, 5, false), (86, 6, false), (86, 7, false), (86, 8, false), (86, 9, false), (86, 10, false), (86, 11, false), (86, 12, false), (86, 13, false), (86, 14, false), (86, 15, false), (86, 16, false), (86, 17, false), (86, 18, false), (86, 19, false), (86, 20, false), (86, 21, false), (86, 22, false), (86, 23, false), (87, 0, false), (87, 1, false), (87, 2, false), (87, 3, false), (87, 4, false), (87, 5, false), (87, 6, false), (87, 7, false), (87, 8, false), (87, 9, false), (87, 10, false), (87, 11, false), (87, 12, false), (87, 13, false), (87, 14, false), (87, 15, false), (87, 16, false), (87, 17, false), (87, 18, false), (87, 19, false), (87, 20, false), (87, 21, false), (87, 22, false), (87, 23, false), (88, 0, false), (88, 1, false), (88, 2, false), (88, 3, false), (88, 4, false), (88, 5, false), (88, 6, false), (88, 7, false), (88, 8, false), (88, 9, false), (88, 10, false), (88, 11, false), (88, 12, false), (88, 13, false), (88, 14, false), (88, 15, false), (88, 16, false), (88, 17, false), (88, 18, false), (88, 19, false), (88, 20, false), (88, 21, false), (88, 22, false), (88, 23, false), (89, 0, false), (89, 1, false), (89, 2, false), (89, 3, false), (89, 4, false), (89, 5, false), (89, 6, false), (89, 7, false), (89, 8, false), (89, 9, false), (89, 10, false), (89, 11, false), (89, 12, false), (89, 13, false), (89, 14, false), (89, 15, false), (89, 16, false), (89, 17, false), (89, 18, false), (89, 19, false), (89, 20, false), (89, 21, false), (89, 22, false), (89, 23, false)], []) h h' ∧ ((((-1) ≤ v.toInt ∧ v.toInt ≤ (-1))) ∨ ((1 ≤ x0.toInt ∧ x0.toInt ≤ 30) ∧ (0 ≤ x1.toInt ∧ x1.toInt ≤ 5) ∧ (1 ≤ x2.toInt ∧ x2.toInt ≤ 9) ∧ (0 ≤ v.toInt ∧ v.toInt ≤ 0)) ∨ ((1 ≤ x0.toInt ∧ x0.toInt ≤ 30) ∧ (0 ≤ x1.toInt ∧ x1.toInt ≤ 5) ∧ (1 ≤ x2.toInt ∧ x2.toInt ≤ 9) ∧ (1 ≤ v.toInt ∧ v.toInt ≤ 1)) ∨ ((1 ≤ x0.toInt ∧ x0.toInt ≤ 30) ∧ (0 ≤ x1.toInt ∧ x1.toInt ≤ 5) ∧ (1 ≤ x2.toInt ∧ x2.toInt ≤ 9) ∧ (2 ≤ v.toInt ∧ v.toInt ≤ 23))) := by
  have ha : sargs (cap vC_261) [xf 12 2, xi x0, xi x1, xi x2, xi x3] := ⟨rfl, a0, a1, a2, a3, trivial⟩
  obtain ⟨ρ, rs, h', ⟨hv, hw⟩, c, g, f, cs, hcs, k1, k2, k3, k4, k5, k6⟩ := vc_261 l [xf 12 2, xi x0, xi x1, xi x2, xi x3] h ha hg (fun q hq => absurd hq List.not_mem_nil) (fun q hq => absurd hq List.not_mem_nil) (fun ρ hρ g hg' => absurd hg' List.not_mem_nil)
  have e0 : ρ 0 = x0.toInt := hv.1
  have e1 : ρ 1 = x1.toInt := hv.2.1
  have e2 : ρ 2 = x2.toInt := hv.2.2.1
  have e3 : ρ 3 = x3.toInt := hv.2.2.2.1
  rcases List.mem_cons.mp hcs with rfl | hcs
  · obtain ⟨v, rfl, kv⟩ := sres_i k3
    exact ⟨v, h', c, g, f, Or.inl kv⟩
  rcases List.mem_cons.mp hcs with rfl | hcs
  · obtain ⟨v, rfl, kv⟩ := sres_i k3
    exact ⟨v, h', c, g, f, Or.inr (Or.inl ⟨(by have z := k1 0 _ rfl; rw [e0] at z; exact z), (by have z := k1 1 _ rfl; rw [e1] at z; exact z), (by have z := k1 2 _ rfl; rw [e2] at z; exact z), kv⟩)⟩
  rcases List.mem_cons.mp hcs with rfl | hcs
  · obtain ⟨v, rfl, kv⟩ := sres_i k3
    exact ⟨v, h', c, g, f, Or.inr (Or.inr (Or.inl ⟨(by have z := k1 0 _ rfl; rw [e0] at z; exact z), (by have z := k1 1 _ rfl; rw [e1] at z; exact z), (by have z := k1 2 _ rfl; rw [e2] at z; exact z), kv⟩))⟩
  rcases List.mem_cons.mp hcs with rfl | hcs
  · obtain ⟨v, rfl, kv⟩ := sres_i k3
    exact ⟨v, h', c, g, f, Or.inr (Or.inr (Or.inr (⟨(by have z := k1 0 _ rfl; rw [e0] at z; exact z), (by have z := k1 1 _ rfl; rw [e1] at z; exact z), (by have z := k1 2 _ rfl; rw [e2] at z; exact z), kv⟩)))⟩
  exact absurd hcs List.not_mem_nil
theorem vl_271 (l : Launch) (x0 : Int32) (x1 : Int32) (x2 : Int32) (x3 : Int32) (h : XH) (hg : sgood vT vR vE 153 6051 h) (a0 : (-2147483648) ≤ x0.toInt ∧ x0.toInt ≤ 2147483647) (a1 : (-2147483648) ≤ x1.toInt ∧ x1.toInt ≤ 2147483647) (a2 : (-2147483648) ≤ x2.toInt ∧ x2.toInt ≤ 2147483647) (a3 : 0 ≤ x3.toInt ∧ x3.toInt ≤ 1) : ∃ (v : Int32) (h' : XH), CX l 1 24 false 271 [xf 13 104, xi x0, xi x1, xi x2, xi x3] h [xi v] h' ∧ sgood vT vR vE 153 6051 h' ∧ sframe ([(104, 2, false), (104, 72, false), (147, 0, false), (147, 1, false), (147, 2, false), (147, 3, false), (147, 4, false), (147, 5, false), (147, 6, false), (147, 7, false), (147, 8, false), (147, 9, false), (147, 10, false), (147, 11, false), (147, 12, false), (147, 13, false), (147, 14, false), (147, 15, false), (147, 16, false), (147, 17, false), (147, 18, false), (147, 19, false), (147, 20, false), (147, 21, false), (147, 22, false), (147, 23, false), (147, 24, false), (147, 25, false), (147, 26, false), (147, 27, false), (147, 28, false), (147, 29, false), (147, 30, false), (147, 31, false), (147, 32, false), (147, 33, false), (147, 34, false), (147, 35, false), (147, 36, false), (147, 37, false), (147, 38, false), (147, 39, false), (147, 40, false), (147, 41, false), (147, 42, false), (147, 43, false), (147, 44, false), (147, 45, false), (147, 46, false), (147, 47, false), (147, 48, false), (147, 49, false), (147, 50, false), (147, 51, false), (147, 52, false), (147, 53, false), (147, 54, false), (147, 55, false), (147, 56, false), (147, 57, false), (147, 58, false), (147, 59, false), (147, 60, false), (147, 61, false), (147, 62, false), (147, 63, false), (147, 64, false), (147, 65, false), (147, 66, false), (147, 67, false), (147, 68, false), (147, 69, false), (147, 70, false), (147, 71, false), (147, 72, false), (147, 73, false), (147, 74, false), (147, 75, false), (147, 76, false), (147, 77, false), (147, 78, false), (147, 79, false), (147, 80, false), (147, 81, false), (147, 82, false), (147, 83, false), (147, 84, false), (147, 85, false), (147, 86, false), (147, 87, false), (147, 88, false), (147, 89, false), (147, 90, false), (147, 91, false), (147, 92, false), (147, 93, false), (147, 94, false), (147, 95, false)], []) h h' ∧ ((((-1) ≤ v.toInt ∧ v.toInt ≤ (-1))) ∨ ((1 ≤ x0.toInt ∧ x0.toInt ≤ 30) ∧ (0 ≤ x1.toInt ∧ x1.toInt ≤ 5) ∧ (1 ≤ x2.toInt ∧ x2.toInt ≤ 9) ∧ (0 ≤ v.toInt ∧ v.toInt ≤ 0)) ∨ ((1 ≤ x0.toInt ∧ x0.toInt ≤ 30) ∧ (0 ≤ x1.toInt ∧ x1.toInt ≤ 5) ∧ (1 ≤ x2.toInt ∧ x2.toInt ≤ 9) ∧ (1 ≤ v.toInt ∧ v.toInt ≤ 1)) ∨ ((1 ≤ x0.toInt ∧ x0.toInt ≤ 30) ∧ (0 ≤ x1.toInt ∧ x1.toInt ≤ 5) ∧ (1 ≤ x2.toInt ∧ x2.toInt ≤ 9) ∧ (2 ≤ v.toInt ∧ v.toInt ≤ 23))) := by
  have ha : sargs (cap vC_265) [xf 13 104, xi x0, xi x1, xi x2, xi x3] := ⟨rfl, a0, a1, a2, a3, trivial⟩
  obtain ⟨ρ, rs, h', ⟨hv, hw⟩, c, g, f, cs, hcs, k1, k2, k3, k4, k5, k6⟩ := vc_265 l [xf 13 104, xi x0, xi x1, xi x2, xi x3] h ha hg (fun q hq => absurd hq List.not_mem_nil) (fun q hq => absurd hq List.not_mem_nil) (fun ρ hρ g hg' => absurd hg' List.not_mem_nil)
  have e0 : ρ 0 = x0.toInt := hv.1
  have e1 : ρ 1 = x1.toInt := hv.2.1
  have e2 : ρ 2 = x2.toInt := hv.2.2.1
  have e3 : ρ 3 = x3.toInt := hv.2.2.2.1
  rcases List.mem_cons.mp hcs with rfl | hcs
  · obtain ⟨v, rfl, kv⟩ := sres_i k3
    exact ⟨v, h', c, g, f, Or.inl kv⟩
  rcases List.mem_cons.mp hcs with rfl | hcs
  · obtain ⟨v, rfl, kv⟩ := sres_i k3
    exact ⟨v, h', c, g, f, Or.inr (Or.inl ⟨(by have z := k1 0 _ rfl; rw [e0] at z; exact z), (by have z := k1 1 _ rfl; rw [e1] at z; exact z), (by have z := k1 2 _ rfl; rw [e2] at z; exact z), kv⟩)⟩
  rcases List.mem_cons.mp hcs with rfl | hcs
  · obtain ⟨v, rfl, kv⟩ := sres_i k3
    exact ⟨v, h', c, g, f, Or.inr (Or.inr (Or.inl ⟨(by have z := k1 0 _ rfl; rw [e0] at z; exact z), (by have z := k1 1 _ rfl; rw [e1] at z; exact z), (by have z := k1 2 _ rfl; rw [e2] at z; exact z), kv⟩))⟩
  rcases List.mem_cons.mp hcs with rfl | hcs
  · obtain ⟨v, rfl, kv⟩ := sres_i k3
    exact ⟨v, h', c, g, f, Or.inr (Or.inr (Or.inr (⟨(by have z := k1 0 _ rfl; rw [e0] at z; exact z), (by have z := k1 1 _ rfl; rw [e1] at z; exact z), (by have z := k1 2 _ rfl; rw [e2] at z; exact z), kv⟩)))⟩
  exact absurd hcs List.not_mem_nil
theorem vl_147 (l : Launch) (x0 : Int32) (h : XH) (hg : sgood vT vR vE 153 6051 h) (a0 : (-2147483648) ≤ x0.toInt ∧ x0.toInt ≤ 2147483647) : ∃ (v : Int32) (h' : XH), CX l 1 24 false 147 [xf 12 2, xi x0] h [xi v] h' ∧ sgood vT vR vE 153 6051 h' ∧ sframe ([(85, 0, false), (86, 0, false), (86, 1, false), (86, 2, false), (86, 3, false), (86, 4, false), (86, 5, false), (86, 6, false), (86, 7, false), (86, 8, false), (86, 9, false), (86, 10, false), (86, 11, false), (86, 12, false), (86, 13, false), (86, 14, false), (86, 15, false), (86, 16, false), (86, 17, false), (86, 18, false), (86, 19, false), (86, 20, false), (86, 21, false), (86, 22, false), (86, 23, false), (87, 0, false), (87, 1, false), (87, 2, false), (87, 3, false), (87, 4, false), (87, 5, false), (87, 6, false), (87, 7, false), (87, 8, false), (87, 9, false), (87, 10, false), (87, 11, false), (87, 12, false), (87, 13, false), (87, 14, false), (87, 15, false), (87, 16, false), (87, 17, false), (87, 18, false), (87, 19, false), (87, 20, false), (87, 21, false), (87, 22, false), (87, 23, false), (88, 0, false), (88, 1, false), (88, 2, false), (88, 3, false), (88, 4, false), (88, 5, false), (88, 6, false), (88, 7, false), (88, 8, false), (88, 9, false), (88, 10, false), (88, 11, false), (88, 12, false), (88, 13, false), (88, 14, false), (88, 15, false), (88, 16, false), (88, 17, false), (88, 18, false), (88, 19, false), (88, 20, false), (88, 21, false), (88, 22, false), (88, 23, false), (89, 0, false), (89, 1, false), (89, 2, false), (89, 3, false), (89, 4, false), (89, 5, false), (89, 6, false), (89, 7, false), (89, 8, false), (89, 9, false), (89, 10, false), (89, 11, false), (89, 12, false), (89, 13, false), (89, 14, false), (89, 15, false), (89, 16, false), (89, 17, false), (89, 18, false), (89, 19, false), (89, 20, false), (89, 21, false), (89, 22, false), (89, 23, false)], []) h h' ∧ ((((-1) ≤ v.toInt ∧ v.toInt ≤ (-1))) ∨ ((0 ≤ x0.toInt ∧ x0.toInt ≤ 23) ∧ (0 ≤ v.toInt ∧ v.toInt ≤ 0)) ∨ ((0 ≤ x0.toInt ∧ x0.toInt ≤ 23) ∧ (1 ≤ v.toInt ∧ v.toInt ≤ 1)) ∨ ((0 ≤ x0.toInt ∧ x0.toInt ≤ 23) ∧ (2 ≤ v.toInt ∧ v.toInt ≤ 23))) := by
  have ha : sargs (cap vC_267) [xf 12 2, xi x0] := ⟨rfl, a0, trivial⟩
  obtain ⟨ρ, rs, h', ⟨hv, hw⟩, c, g, f, cs, hcs, k1, k2, k3, k4, k5, k6⟩ := vc_267 l [xf 12 2, xi x0] h ha hg (fun q hq => absurd hq List.not_mem_nil) (fun q hq => absurd hq List.not_mem_nil) (fun ρ hρ g hg' => absurd hg' List.not_mem_nil)
  have e0 : ρ 0 = x0.toInt := hv.1
  rcases List.mem_cons.mp hcs with rfl | hcs
  · obtain ⟨v, rfl, kv⟩ := sres_i k3
    exact ⟨v, h', c, g, f, Or.inl kv⟩
  rcases List.mem_cons.mp hcs with rfl | hcs
  · obtain ⟨v, rfl, kv⟩ := sres_i k3
    exact ⟨v, h', c, g, f, Or.inr (Or.inl ⟨(by have z := k1 0 _ rfl; rw [e0] at z; exact z), kv⟩)⟩
  rcases List.mem_cons.mp hcs with rfl | hcs
  · obtain ⟨v, rfl, kv⟩ := sres_i k3
    exact ⟨v, h', c, g, f, Or.inr (Or.inr (Or.inl ⟨(by have z := k1 0 _ rfl; rw [e0] at z; exact z), kv⟩))⟩
  rcases List.mem_cons.mp hcs with rfl | hcs
  · obtain ⟨v, rfl, kv⟩ := sres_i k3
    exact ⟨v, h', c, g, f, Or.inr (Or.inr (Or.inr (⟨(by have z := k1 0 _ rfl; rw [e0] at z; exact z), kv⟩)))⟩
  exact absurd hcs List.not_mem_nil
theorem vl_273 (l : Launch) (x0 : Int32) (h : XH) (hg : sgood vT vR vE 153 6051 h) (a0 : (-2147483648) ≤ x0.toInt ∧ x0.toInt ≤ 2147483647) : ∃ (v : Int32) (h' : XH), CX l 1 24 false 273 [xf 13 104, xi x0] h [xi v] h' ∧ sgood vT vR vE 153 6051 h' ∧ sframe ([(104, 2, false), (104, 72, false), (147, 0, false), (147, 1, false), (147, 2, false), (147, 3, false), (147, 4, false), (147, 5, false), (147, 6, false), (147, 7, false), (147, 8, false), (147, 9, false), (147, 10, false), (147, 11, false), (147, 12, false), (147, 13, false), (147, 14, false), (147, 15, false), (147, 16, false), (147, 17, false), (147, 18, false), (147, 19, false), (147, 20, false), (147, 21, false), (147, 22, false), (147, 23, false), (147, 24, false), (147, 25, false), (147, 26, false), (147, 27, false), (147, 28, false), (147, 29, false), (147, 30, false), (147, 31, false), (147, 32, false), (147, 33, false), (147, 34, false), (147, 35, false), (147, 36, false), (147, 37, false), (147, 38, false), (147, 39, false), (147, 40, false), (147, 41, false), (147, 42, false), (147, 43, false), (147, 44, false), (147, 45, false), (147, 46, false), (147, 47, false), (147, 48, false), (147, 49, false), (147, 50, false), (147, 51, false), (147, 52, false), (147, 53, false), (147, 54, false), (147, 55, false), (147, 56, false), (147, 57, false), (147, 58, false), (147, 59, false), (147, 60, false), (147, 61, false), (147, 62, false), (147, 63, false), (147, 64, false), (147, 65, false), (147, 66, false), (147, 67, false), (147, 68, false), (147, 69, false), (147, 70, false), (147, 71, false), (147, 72, false), (147, 73, false), (147, 74, false), (147, 75, false), (147, 76, false), (147, 77, false), (147, 78, false), (147, 79, false), (147, 80, false), (147, 81, false), (147, 82, false), (147, 83, false), (147, 84, false), (147, 85, false), (147, 86, false), (147, 87, false), (147, 88, false), (147, 89, false), (147, 90, false), (147, 91, false), (147, 92, false), (147, 93, false), (147, 94, false), (147, 95, false)], []) h h' ∧ ((((-1) ≤ v.toInt ∧ v.toInt ≤ (-1))) ∨ ((0 ≤ x0.toInt ∧ x0.toInt ≤ 22) ∧ (1 ≤ v.toInt ∧ v.toInt ≤ 1)) ∨ ((0 ≤ x0.toInt ∧ x0.toInt ≤ 22) ∧ (2 ≤ v.toInt ∧ v.toInt ≤ 23))) := by
  have ha : sargs (cap vC_269) [xf 13 104, xi x0] := ⟨rfl, a0, trivial⟩
  obtain ⟨ρ, rs, h', ⟨hv, hw⟩, c, g, f, cs, hcs, k1, k2, k3, k4, k5, k6⟩ := vc_269 l [xf 13 104, xi x0] h ha hg (fun q hq => absurd hq List.not_mem_nil) (fun q hq => absurd hq List.not_mem_nil) (fun ρ hρ g hg' => absurd hg' List.not_mem_nil)
  have e0 : ρ 0 = x0.toInt := hv.1
  rcases List.mem_cons.mp hcs with rfl | hcs
  · obtain ⟨v, rfl, kv⟩ := sres_i k3
    exact ⟨v, h', c, g, f, Or.inl kv⟩
  rcases List.mem_cons.mp hcs with rfl | hcs
  · obtain ⟨v, rfl, kv⟩ := sres_i k3
    exact ⟨v, h', c, g, f, Or.inr (Or.inl ⟨(by have z := k1 0 _ rfl; rw [e0] at z; exact z), kv⟩)⟩
  rcases List.mem_cons.mp hcs with rfl | hcs
  · obtain ⟨v, rfl, kv⟩ := sres_i k3
    exact ⟨v, h', c, g, f, Or.inr (Or.inr (⟨(by have z := k1 0 _ rfl; rw [e0] at z; exact z), kv⟩))⟩
  exact absurd hcs List.not_mem_nil
theorem vl_148 (l : Launch) (x0 : Int32) (h : XH) (hg : sgood vT vR vE 153 6051 h) (a0 : (-2147483648) ≤ x0.toInt ∧ x0.toInt ≤ 2147483647) : ∃ (v : Int32) (h' : XH), CX l 0 0 false 148 [xf 12 2, xi x0] h [xi v] h' ∧ sgood vT vR vE 153 6051 h' ∧ sframe ([(85, 1, false)], []) h h' ∧ (((0 ≤ v.toInt ∧ v.toInt ≤ 0)) ∨ (((-1) ≤ x0.toInt ∧ x0.toInt ≤ 24) ∧ (1 ≤ v.toInt ∧ v.toInt ≤ 1))) := by
  have ha : sargs (cap vC_270) [xf 12 2, xi x0] := ⟨rfl, a0, trivial⟩
  obtain ⟨ρ, rs, h', ⟨hv, hw⟩, c, g, f, cs, hcs, k1, k2, k3, k4, k5, k6⟩ := vc_270 l [xf 12 2, xi x0] h ha hg (fun q hq => absurd hq List.not_mem_nil) (fun q hq => absurd hq List.not_mem_nil) (fun ρ hρ g hg' => absurd hg' List.not_mem_nil)
  have e0 : ρ 0 = x0.toInt := hv.1
  rcases List.mem_cons.mp hcs with rfl | hcs
  · obtain ⟨v, rfl, kv⟩ := sres_i k3
    exact ⟨v, h', c, g, f, Or.inl kv⟩
  rcases List.mem_cons.mp hcs with rfl | hcs
  · obtain ⟨v, rfl, kv⟩ := sres_i k3
    exact ⟨v, h', c, g, f, Or.inr (⟨(by have z := k1 0 _ rfl; rw [e0] at z; exact z), kv⟩)⟩
  exact absurd hcs List.not_mem_nil
theorem vl_274 (l : Launch) (x0 : Int32) (h : XH) (hg : sgood vT vR vE 153 6051 h) (a0 : (-2147483648) ≤ x0.toInt ∧ x0.toInt ≤ 2147483647) : ∃ (v : Int32) (h' : XH), CX l 1 22 false 274 [xf 13 104, xi x0] h [xi v] h' ∧ sgood vT vR vE 153 6051 h' ∧ sframe ([(104, 2, false), (104, 73, false)], []) h h' ∧ (((0 ≤ v.toInt ∧ v.toInt ≤ 0)) ∨ (((-1) ≤ x0.toInt ∧ x0.toInt ≤ 24) ∧ (1 ≤ v.toInt ∧ v.toInt ≤ 1))) := by
  have ha : sargs (cap vC_272) [xf 13 104, xi x0] := ⟨rfl, a0, trivial⟩
  obtain ⟨ρ, rs, h', ⟨hv, hw⟩, c, g, f, cs, hcs, k1, k2, k3, k4, k5, k6⟩ := vc_272 l [xf 13 104, xi x0] h ha hg (fun q hq => absurd hq List.not_mem_nil) (fun q hq => absurd hq List.not_mem_nil) (fun ρ hρ g hg' => absurd hg' List.not_mem_nil)
  have e0 : ρ 0 = x0.toInt := hv.1
  rcases List.mem_cons.mp hcs with rfl | hcs
  · obtain ⟨v, rfl, kv⟩ := sres_i k3
    exact ⟨v, h', c, g, f, Or.inl kv⟩
  rcases List.mem_cons.mp hcs with rfl | hcs
  · obtain ⟨v, rfl, kv⟩ := sres_i k3
    exact ⟨v, h', c, g, f, Or.inr (⟨(by have z := k1 0 _ rfl; rw [e0] at z; exact z), kv⟩)⟩
  exact absurd hcs List.not_mem_nil
theorem vl_149 (l : Launch) (x0 : Int32) (h : XH) (hg : sgood vT vR vE 153 6051 h) (a0 : (-2147483648) ≤ x0.toInt ∧ x0.toInt ≤ 2147483647) : ∃ (v : Int32) (h' : XH), CX l 7 169 false 149 [xf 12 2, xi x0] h [xi v] h' ∧ sgood vT vR vE 153 6051 h' ∧ sframe ([(59, 7, false), (59, 10, false), (60, 0, true), (61, 0, true), (62, 0, true), (63, 0, true), (64, 0, true), (65, 0, true), (66, 0, true), (67, 0, true), (68, 0, true), (90, 0, true)], [(59, 0)]) h h' ∧ ((((-1) ≤ v.toInt ∧ v.toInt ≤ (-1))) ∨ ((0 ≤ x0.toInt ∧ x0.toInt ≤ 5) ∧ (0 ≤ v.toInt ∧ v.toInt ≤ 2147483647))) := by
  have ha : sargs (cap vC_331) [xf 12 2, xi x0] := ⟨rfl, a0, trivial⟩
  obtain ⟨ρ, rs, h', ⟨hv, hw⟩, c, g, f, cs, hcs, k1, k2, k3, k4, k5, k6⟩ := vc_331 l [xf 12 2, xi x0] h ha hg (fun q hq => absurd hq List.not_mem_nil) (fun q hq => absurd hq List.not_mem_nil) (fun ρ hρ g hg' => absurd hg' List.not_mem_nil)
  have e0 : ρ 0 = x0.toInt := hv.1
  rcases List.mem_cons.mp hcs with rfl | hcs
  · obtain ⟨v, rfl, kv⟩ := sres_i k3
    exact ⟨v, h', c, g, f, Or.inl kv⟩
  rcases List.mem_cons.mp hcs with rfl | hcs
  · obtain ⟨v, rfl, kv⟩ := sres_i k3
    exact ⟨v, h', c, g, f, Or.inr (⟨(by have z := k1 0 _ rfl; rw [e0] at z; exact z), kv⟩)⟩
  exact absurd hcs List.not_mem_nil
theorem vl_275 (l : Launch) (x0 : Int32) (h : XH) (hg : sgood vT vR vE 153 6051 h) (a0 : (-2147483648) ≤ x0.toInt ∧ x0.toInt ≤ 2147483647) : ∃ (v : Int32) (h' : XH), CX l 11 288 false 275 [xf 13 104, xi x0] h [xi v] h' ∧ sgood vT vR vE 153 6051 h' ∧ sframe ([(104, 2, false), (104, 54, false), (104, 63, false), (104, 64, false), (133, 6, false), (133, 7, false), (133, 8, false), (133, 9, false), (133, 10, false), (133, 11, false), (134, 6, false), (134, 7, false), (134, 8, false), (134, 9, false), (134, 10, false), (134, 11, false), (135, 8, false), (135, 9, false), (135, 10, false), (135, 11, false), (135, 12, false), (135, 13, false), (135, 14, false), (135, 15, false), (136, 8, false), (136, 9, false), (136, 10, false), (136, 11, false), (136, 12, false), (136, 13, false), (136, 14, false), (136, 15, false), (137, 8, false), (137, 9, false), (137, 10, false), (137, 11, false), (137, 12, false), (137, 13, false), (137, 14, false), (137, 15, false), (138, 1, false), (139, 0, true), (148, 0, true)], []) h h' ∧ ((((-1) ≤ v.toInt ∧ v.toInt ≤ (-1))) ∨ ((0 ≤ x0.toInt ∧ x0.toInt ≤ 5) ∧ (0 ≤ v.toInt ∧ v.toInt ≤ 2147483647))) := by
  have ha : sargs (cap vD_336) [xf 13 104, xi x0] := ⟨rfl, a0, trivial⟩
  obtain ⟨ρ, rs, h', ⟨hv, hw⟩, c, g, f, cs, hcs, k1, k2, k3, k4, k5, k6⟩ := vDc_336 l [xf 13 104, xi x0] h ha hg (fun q hq => absurd hq List.not_mem_nil) (fun q hq => absurd hq List.not_mem_nil) (fun ρ hρ g hg' => absurd hg' List.not_mem_nil)
  have e0 : ρ 0 = x0.toInt := hv.1
  rcases List.mem_cons.mp hcs with rfl | hcs
  · obtain ⟨v, rfl, kv⟩ := sres_i k3
    exact ⟨v, h', c, g, f, Or.inl kv⟩
  rcases List.mem_cons.mp hcs with rfl | hcs
  · obtain ⟨v, rfl, kv⟩ := sres_i k3
    exact ⟨v, h', c, g, f, Or.inr (⟨(by have z := k1 0 _ rfl; rw [e0] at z; exact z), kv⟩)⟩
  exact absurd hcs List.not_mem_nil
theorem vl_156 (l : Launch) (x0 : Int32) (x1 : Int32) (x2 : Int32) (x3 : Int32) (h : XH) (hg : sgood vT vR vE 153 6051 h) (a0 : (-2147483648) ≤ x0.toInt ∧ x0.toInt ≤ 2147483647) (a1 : (-2147483648) ≤ x1.toInt ∧ x1.toInt ≤ 2147483647) (a2 : (-2147483648) ≤ x2.toInt ∧ x2.toInt ≤ 2147483647) (a3 : (-2147483648) ≤ x3.toInt ∧ x3.toInt ≤ 2147483647) : ∃ (v : Int32) (h' : XH), CX l 6 145 false 156 [xf 12 2, xi x0, xi x1, xi x2, xi x3] h [xi v] h' ∧ sgood vT vR vE 153 6051 h' ∧ sframe ([(59, 7, false), (59, 10, false), (60, 0, true), (61, 0, true), (62, 0, true), (63, 0, true), (64, 0, true), (65, 0, true), (66, 0, true), (67, 0, true), (68, 0, true)], [(59, 0)]) h h' ∧ ((((-1) ≤ v.toInt ∧ v.toInt ≤ (-1))) ∨ ((0 ≤ x0.toInt ∧ x0.toInt ≤ 2147483647) ∧ (1 ≤ x1.toInt ∧ x1.toInt ≤ 60) ∧ (0 ≤ x2.toInt ∧ x2.toInt ≤ 5) ∧ (1 ≤ x3.toInt ∧ x3.toInt ≤ 9) ∧ ((-2147483648) ≤ v.toInt ∧ v.toInt ≤ 2147483647))) := by
  have ha : sargs (cap vC_339) [xf 12 2, xi x0, xi x1, xi x2, xi x3] := ⟨rfl, a0, a1, a2, a3, trivial⟩
  obtain ⟨ρ, rs, h', ⟨hv, hw⟩, c, g, f, cs, hcs, k1, k2, k3, k4, k5, k6⟩ := vc_339 l [xf 12 2, xi x0, xi x1, xi x2, xi x3] h ha hg (fun q hq => absurd hq List.not_mem_nil) (fun q hq => absurd hq List.not_mem_nil) (fun ρ hρ g hg' => absurd hg' List.not_mem_nil)
  have e0 : ρ 0 = x0.toInt := hv.1
  have e1 : ρ 1 = x1.toInt := hv.2.1
  have e2 : ρ 2 = x2.toInt := hv.2.2.1
  have e3 : ρ 3 = x3.toInt := hv.2.2.2.1
  rcases List.mem_cons.mp hcs with rfl | hcs
  · obtain ⟨v, rfl, kv⟩ := sres_i k3
    exact ⟨v, h', c, g, f, Or.inl kv⟩
  rcases List.mem_cons.mp hcs with rfl | hcs
  · obtain ⟨v, rfl, kv⟩ := sres_i k3
    exact ⟨v, h', c, g, f, Or.inr (⟨(by have z := k1 0 _ rfl; rw [e0] at z; exact z), (by have z := k1 1 _ rfl; rw [e1] at z; exact z), (by have z := k1 2 _ rfl; rw [e2] at z; exact z), (by have z := k1 3 _ rfl; rw [e3] at z; exact z), kv⟩)⟩
  exact absurd hcs List.not_mem_nil
theorem vl_279 (l : Launch) (x0 : Int32) (x1 : Int32) (x2 : Int32) (x3 : Int32) (h : XH) (hg : sgood vT vR vE 153 6051 h) (a0 : (-2147483648) ≤ x0.toInt ∧ x0.toInt ≤ 2147483647) (a1 : (-2147483648) ≤ x1.toInt ∧ x1.toInt ≤ 2147483647) (a2 : (-2147483648) ≤ x2.toInt ∧ x2.toInt ≤ 2147483647) (a3 : (-2147483648) ≤ x3.toInt ∧ x3.toInt ≤ 2147483647) : ∃ (v : Int32) (h' : XH), CX l 10 265 false 279 [xf 13 104, xi x0, xi x1, xi x2, xi x3] h [xi v] h' ∧ sgood vT vR vE 153 6051 h' ∧ sframe ([(104, 2, false), (104, 54, false), (104, 63, false), (104, 64, false), (133, 6, false), (133, 7, false), (133, 8, false), (133, 9, false), (133, 10, false), (133, 11, false), (134, 6, false), (134, 7, false), (134, 8, false), (134, 9, false), (134, 10, false), (134, 11, false), (135, 8, false), (135, 9, false), (135, 10, false), (135, 11, false), (135, 12, false), (135, 13, false), (135, 14, false), (135, 15, false), (136, 8, false), (136, 9, false), (136, 10, false), (136, 11, false), (136, 12, false), (136, 13, false), (136, 14, false), (136, 15, false), (137, 8, false), (137, 9, false), (137, 10, false), (137, 11, false), (137, 12, false), (137, 13, false), (137, 14, false), (137, 15, false), (138, 1, false), (139, 0, true)], []) h h' ∧ ((((-1) ≤ v.toInt ∧ v.toInt ≤ (-1))) ∨ ((0 ≤ x0.toInt ∧ x0.toInt ≤ 2147483647) ∧ (1 ≤ x1.toInt ∧ x1.toInt ≤ 60) ∧ (0 ≤ x2.toInt ∧ x2.toInt ≤ 5) ∧ (1 ≤ x3.toInt ∧ x3.toInt ≤ 9) ∧ ((-2147483648) ≤ v.toInt ∧ v.toInt ≤ 2147483647))) := by
  have ha : sargs (cap vD_343) [xf 13 104, xi x0, xi x1, xi x2, xi x3] := ⟨rfl, a0, a1, a2, a3, trivial⟩
  obtain ⟨ρ, rs, h', ⟨hv, hw⟩, c, g, f, cs, hcs, k1, k2, k3, k4, k5, k6⟩ := vDc_343 l [xf 13 104, xi x0, xi x1, xi x2, xi x3] h ha hg (fun q hq => absurd hq List.not_mem_nil) (fun q hq => absurd hq List.not_mem_nil) (fun ρ hρ g hg' => absurd hg' List.not_mem_nil)
  have e0 : ρ 0 = x0.toInt := hv.1
  have e1 : ρ 1 = x1.toInt := hv.2.1
  have e2 : ρ 2 = x2.toInt := hv.2.2.1
  have e3 : ρ 3 = x3.toInt := hv.2.2.2.1
  rcases List.mem_cons.mp hcs with rfl | hcs
  · obtain ⟨v, rfl, kv⟩ := sres_i k3
    exact ⟨v, h', c, g, f, Or.inl kv⟩
  rcases List.mem_cons.mp hcs with rfl | hcs
  · obtain ⟨v, rfl, kv⟩ := sres_i k3
    exact ⟨v, h', c, g, f, Or.inr (⟨(by have z := k1 0 _ rfl; rw [e0] at z; exact z), (by have z := k1 1 _ rfl; rw [e1] at z; exact z), (by have z := k1 2 _ rfl; rw [e2] at z; exact z), (by have z := k1 3 _ rfl; rw [e3] at z; exact z), kv⟩)⟩
  exact absurd hcs List.not_mem_nil
theorem vl_159 (l : Launch) (x0 : Int32) (x1 : Int32) (x2 : Int32) (h : XH) (hg : sgood vT vR vE 153 6051 h) (a0 : (-2147483648) ≤ x0.toInt ∧ x0.toInt ≤ 2147483647) (a1 : (-2147483648) ≤ x1.toInt ∧ x1.toInt ≤ 2147483647) (a2 : (-2147483648) ≤ x2.toInt ∧ x2.toInt ≤ 2147483647) : ∃ (v : Int32) (h' : XH), CX l 7 165 false 159 [xf 12 2, xi x0, xi x1, xi x2] h [xi v] h' ∧ sgood vT vR vE 153 6051 h' ∧ sframe ([(59, 7, false), (59, 10, false), (59, 11, false), (60, 0, true), (61, 0, true), (62, 0, true), (63, 0, true), (64, 0, true), (65, 0, true), (66, 0, true), (67, 0, true), (68, 0, true)], [(59, 0)]) h h' ∧ ((((-1) ≤ v.toInt ∧ v.toInt ≤ (-1))) ∨ ((0 ≤ x0.toInt ∧ x0.toInt ≤ 4) ∧ (0 ≤ x1.toInt ∧ x1.toInt ≤ 7) ∧ (0 ≤ x2.toInt ∧ x2.toInt ≤ 60) ∧ ((-2147483648) ≤ v.toInt ∧ v.toInt ≤ 2147483647))) := by
  have ha : sargs (cap vC_346) [xf 12 2, xi x0, xi x1, xi x2] := ⟨rfl, a0, a1, a2, trivial⟩
  obtain ⟨ρ, rs, h', ⟨hv, hw⟩, c, g, f, cs, hcs, k1, k2, k3, k4, k5, k6⟩ := vc_346 l [xf 12 2, xi x0, xi x1, xi x2] h ha hg (fun q hq => absurd hq List.not_mem_nil) (fun q hq => absurd hq List.not_mem_nil) (fun ρ hρ g hg' => absurd hg' List.not_mem_nil)
  have e0 : ρ 0 = x0.toInt := hv.1
  have e1 : ρ 1 = x1.toInt := hv.2.1
  have e2 : ρ 2 = x2.toInt := hv.2.2.1
  rcases List.mem_cons.mp hcs with rfl | hcs
  · obtain ⟨v, rfl, kv⟩ := sres_i k3
    exact ⟨v, h', c, g, f, Or.inl kv⟩
  rcases List.mem_cons.mp hcs with rfl | hcs
  · obtain ⟨v, rfl, kv⟩ := sres_i k3
    exact ⟨v, h', c, g, f, Or.inr (⟨(by have z := k1 0 _ rfl; rw [e0] at z; exact z), (by have z := k1 1 _ rfl; rw [e1] at z; exact z), (by have z := k1 2 _ rfl; rw [e2] at z; exact z), kv⟩)⟩
  exact absurd hcs List.not_mem_nil
theorem vl_281 (l : Launch) (x0 : Int32) (x1 : Int32) (x2 : Int32) (h : XH) (hg : sgood vT vR vE 153 6051 h) (a0 : (-2147483648) ≤ x0.toInt ∧ x0.toInt ≤ 2147483647) (a1 : (-2147483648) ≤ x1.toInt ∧ x1.toInt ≤ 2147483647) (a2 : (-2147483648) ≤ x2.toInt ∧ x2.toInt ≤ 2147483647) : ∃ (v : Int32) (h' : XH), CX l 11 287 false 281 [xf 13 104, xi x0, xi x1, xi x2] h [xi v] h' ∧ sgood vT vR vE 153 6051 h' ∧ sframe ([(104, 2, false), (104, 54, false), (104, 63, false), (104, 64, false), (133, 6, false), (133, 7, false), (133, 8, false), (133, 9, false), (133, 10, false), (133, 11, false), (134, 6, false), (134, 7, false), (134, 8, false), (134, 9, false), (134, 10, false), (134, 11, false), (135, 8, false), (135, 9, false), (135, 10, false), (135, 11, false), (135, 12, false), (135, 13, false), (135, 14, false), (135, 15, false), (136, 8, false), (136, 9, false), (136, 10, false), (136, 11, false), (136, 12, false), (136, 13, false), (136, 14, false), (136, 15, false), (137, 8, false), (137, 9, false), (137, 10, false), (137, 11, false), (137, 12, false), (137, 13, false), (137, 14, false), (137, 15, false), (138, 1, false), (139, 0, true)], []) h h' ∧ ((((-1) ≤ v.toInt ∧ v.toInt ≤ (-1))) ∨ ((0 ≤ x0.toInt ∧ x0.toInt ≤ 4) ∧ (0 ≤ x1.toInt ∧ x1.toInt ≤ 7) ∧ (0 ≤ x2.toInt ∧ x2.toInt ≤ 60) ∧ ((-2147483648) ≤ v.toInt ∧ v.toInt ≤ 2147483647))) := by
  have ha : sargs (cap vD_348) [xf 13 104, xi x0, xi x1, xi x2] := ⟨rfl, a0, a1, a2, trivial⟩
  obtain ⟨ρ, rs, h', ⟨hv, hw⟩, c, g, f, cs, hcs, k1, k2, k3, k4, k5, k6⟩ := vDc_348 l [xf 13 104, xi x0, xi x1, xi x2] h ha hg (fun q hq => absurd hq List.not_mem_nil) (fun q hq => absurd hq List.not_mem_nil) (fun ρ hρ g hg' => absurd hg' List.not_mem_nil)
  have e0 : ρ 0 = x0.toInt := hv.1
  have e1 : ρ 1 = x1.toInt := hv.2.1
  have e2 : ρ 2 = x2.toInt := hv.2.2.1
  rcases List.mem_cons.mp hcs with rfl | hcs
  · obtain ⟨v, rfl, kv⟩ := sres_i k3
    exact ⟨v, h', c, g, f, Or.inl kv⟩
  rcases List.mem_cons.mp hcs with rfl | hcs
  · obtain ⟨v, rfl, kv⟩ := sres_i k3
    exact ⟨v, h', c, g, f, Or.inr (⟨(by have z := k1 0 _ rfl; rw [e0] at z; exact z), (by have z := k1 1 _ rfl; rw [e1] at z; exact z), (by have z := k1 2 _ rfl; rw [e2] at z; exact z), kv⟩)⟩
  exact absurd hcs List.not_mem_nil
theorem vl_161 (l : Launch)  (h : XH) (hg : sgood vT vR vE 153 6051 h)  : ∃ (v : Int32) (h' : XH), CX l 2 47 false 161 [xf 12 2] h [xi v] h' ∧ sgood vT vR vE 153 6051 h' ∧ sframe ([(49, 0, true), (51, 0, true), (52, 0, true), (53, 0, true), (55, 0, true), (56, 0, true), (81, 0, false), (81, 1, false), (81, 2, false), (81, 3, false)], []) h h' ∧ (((0 ≤ v.toInt ∧ v.toInt ≤ 20)) ∨ (((-1) ≤ v.toInt ∧ v.toInt ≤ (-1)))) := by
  have ha : sargs (cap vC_350) [xf 12 2] := ⟨rfl, trivial⟩
  obtain ⟨ρ, rs, h', ⟨hv, hw⟩, c, g, f, cs, hcs, k1, k2, k3, k4, k5, k6⟩ := vc_350 l [xf 12 2] h ha hg (fun q hq => absurd hq List.not_mem_nil) (fun q hq => absurd hq List.not_mem_nil) (fun ρ hρ g hg' => absurd hg' List.not_mem_nil)
  rcases List.mem_cons.mp hcs with rfl | hcs
  · obtain ⟨v, rfl, kv⟩ := sres_i k3
    exact ⟨v, h', c, g, f, Or.inl kv⟩
  rcases List.mem_cons.mp hcs with rfl | hcs
  · obtain ⟨v, rfl, kv⟩ := sres_i k3
    exact ⟨v, h', c, g, f, Or.inr (kv)⟩
  exact absurd hcs List.not_mem_nil
theorem vl_283 (l : Launch)  (h : XH) (hg : sgood vT vR vE 153 6051 h)  : ∃ (v : Int32) (h' : XH), CX l 1 23 false 283 [xf 13 104] h [xi v] h' ∧ sgood vT vR vE 153 6051 h' ∧ sframe ([(104, 2, false), (104, 76, false), (133, 0, true), (135, 0, true), (136, 0, true)], []) h h' ∧ ((((-1) ≤ v.toInt ∧ v.toInt ≤ (-1))) ∨ ((2 ≤ v.toInt ∧ v.toInt ≤ 19)) ∨ ((1 ≤ v.toInt ∧ v.toInt ≤ 1)) ∨ ((0 ≤ v.toInt ∧ v.toInt ≤ 0))) := by
  have ha : sargs (cap vC_371) [xf 13 104] := ⟨rfl, trivial⟩
  obtain ⟨ρ, rs, h', ⟨hv, hw⟩, c, g, f, cs, hcs, k1, k2, k3, k4, k5, k6⟩ := vc_371 l [xf 13 104] h ha hg (fun q hq => absurd hq List.not_mem_nil) (fun q hq => absurd hq List.not_mem_nil) (fun ρ hρ g hg' => absurd hg' List.not_mem_nil)
  rcases List.mem_cons.mp hcs with rfl | hcs
  · obtain ⟨v, rfl, kv⟩ := sres_i k3
    exact ⟨v, h', c, g, f, Or.inl kv⟩
  rcases List.mem_cons.mp hcs with rfl | hcs
  · obtain ⟨v, rfl, kv⟩ := sres_i k3
    exact ⟨v, h', c, g, f, Or.inr (Or.inl kv)⟩
  rcases List.mem_cons.mp hcs with rfl | hcs
  · obtain ⟨v, rfl, kv⟩ := sres_i k3
    exact ⟨v, h', c, g, f, Or.inr (Or.inr (Or.inl kv))⟩
  rcases List.mem_cons.mp hcs with rfl | hcs
  · obtain ⟨v, rfl, kv⟩ := sres_i k3
    exact ⟨v, h', c, g, f, Or.inr (Or.inr (Or.inr (kv)))⟩
  exact absurd hcs List.not_mem_nil
theorem vl_285 (l : Launch)  (h : XH) (hg : sgood vT vR vE 153 6051 h)  : ∃ (v : Int32) (h' : XH), CX l 1 23 false 285 [xf 13 104] h [xi v] h' ∧ sgood vT vR vE 153 6051 h' ∧ sframe ([(104, 2, false), (104, 78, false), (149, 0, true), (150, 0, true), (151, 0, true)], []) h h' ∧ ((((-2147483648) ≤ v.toInt ∧ v.toInt ≤ 2147483647))) := by
  have ha : sargs (cap vC_375) [xf 13 104] := ⟨rfl, trivial⟩
  obtain ⟨ρ, rs, h', ⟨hv, hw⟩, c, g, f, cs, hcs, k1, k2, k3, k4, k5, k6⟩ := vc_375 l [xf 13 104] h ha hg (fun q hq => absurd hq List.not_mem_nil) (fun q hq => absurd hq List.not_mem_nil) (fun ρ hρ g hg' => absurd hg' List.not_mem_nil)
  rcases List.mem_cons.mp hcs with rfl | hcs
  · obtain ⟨v, rfl, kv⟩ := sres_i k3
    exact ⟨v, h', c, g, f, kv⟩
  exact absurd hcs List.not_mem_nil
theorem vl_286 (l : Launch)  (h : XH) (hg : sgood vT vR vE 153 6051 h)  : ∃ (v : Int32) (h' : XH), CX l 1 23 false 286 [xf 13 104] h [xi v] h' ∧ sgood vT vR vE 153 6051 h' ∧ sframe ([(104, 2, false), (104, 76, false), (133, 0, true), (134, 0, true), (135, 0, true), (136, 0, true), (137, 0, true), (138, 0, false)], []) h h' ∧ ((((-1) ≤ v.toInt ∧ v.toInt ≤ (-1))) ∨ (((-2147483648) ≤ v.toInt ∧ v.toInt ≤ 2147483647))) := by
  have ha : sargs (cap vC_379) [xf 13 104] := ⟨rfl, trivial⟩
  obtain ⟨ρ, rs, h', ⟨hv, hw⟩, c, g, f, cs, hcs, k1, k2, k3, k4, k5, k6⟩ := vc_379 l [xf 13 104] h ha hg (fun q hq => absurd hq List.not_mem_nil) (fun q hq => absurd hq List.not_mem_nil) (fun ρ hρ g hg' => absurd hg' List.not_mem_nil)
  rcases List.mem_cons.mp hcs with rfl | hcs
  · obtain ⟨v, rfl, kv⟩ := sres_i k3
    exact ⟨v, h', c, g, f, Or.inl kv⟩
  rcases List.mem_cons.mp hcs with rfl | hcs
  · obtain ⟨v, rfl, kv⟩ := sres_i k3
    exact ⟨v, h', c, g, f, Or.inr (kv)⟩
  exact absurd hcs List.not_mem_nil
theorem vl_165 (l : Launch) (x0 : Int32) (h : XH) (hg : sgood vT vR vE 153 6051 h) (a0 : (-2147483648) ≤ x0.toInt ∧ x0.toInt ≤ 2147483647) : ∃ (v : Int32) (h' : XH), CX l 2 37 false 165 [xf 12 2, xi x0] h [xi v] h' ∧ sgood vT vR vE 153 6051 h' ∧ sframe ([], []) h h' ∧ (((0 ≤ x0.toInt ∧ x0.toInt ≤ 13) ∧ (0 ≤ v.toInt ∧ v.toInt ≤ 64)) ∨ ((5 ≤ x0.toInt ∧ x0.toInt ≤ 10) ∧ ((-2147483648) ≤ v.toInt ∧ v.toInt ≤ 2147483647)) ∨ (((-1) ≤ v.toInt ∧ v.toInt ≤ (-1)))) := by
  have ha : sargs (cap vC_384) [xf 12 2, xi x0] := ⟨rfl, a0, trivial⟩
  obtain ⟨ρ, rs, h', ⟨hv, hw⟩, c, g, f, cs, hcs, k1, k2, k3, k4, k5, k6⟩ := vc_384 l [xf 12 2, xi x0] h ha hg (fun q hq => absurd hq List.not_mem_nil) (fun q hq => absurd hq List.not_mem_nil) (fun ρ hρ g hg' => absurd hg' List.not_mem_nil)
  have e0 : ρ 0 = x0.toInt := hv.1
  rcases List.mem_cons.mp hcs with rfl | hcs
  · obtain ⟨v, rfl, kv⟩ := sres_i k3
    exact ⟨v, h', c, g, f, Or.inl ⟨(by have z := k1 0 _ rfl; rw [e0] at z; exact z), kv⟩⟩
  rcases List.mem_cons.mp hcs with rfl | hcs
  · obtain ⟨v, rfl, kv⟩ := sres_i k3
    exact ⟨v, h', c, g, f, Or.inr (Or.inl ⟨(by have z := k1 0 _ rfl; rw [e0] at z; exact z), kv⟩)⟩
  rcases List.mem_cons.mp hcs with rfl | hcs
  · obtain ⟨v, rfl, kv⟩ := sres_i k3
    exact ⟨v, h', c, g, f, Or.inr (Or.inr (kv))⟩
  exact absurd hcs List.not_mem_nil
theorem vl_287 (l : Launch) (x0 : Int32) (h : XH) (hg : sgood vT vR vE 153 6051 h) (a0 : (-2147483648) ≤ x0.toInt ∧ x0.toInt ≤ 2147483647) : ∃ (v : Int32) (h' : XH), CX l 2 45 false 287 [xf 13 104, xi x0] h [xi v] h' ∧ sgood vT vR vE 153 6051 h' ∧ sframe ([(104, 2, false), (104, 63, false), (104, 64, false)], []) h h' ∧ (((0 ≤ x0.toInt ∧ x0.toInt ≤ 13) ∧ (0 ≤ v.toInt ∧ v.toInt ≤ 64)) ∨ ((5 ≤ x0.toInt ∧ x0.toInt ≤ 10) ∧ ((-2147483648) ≤ v.toInt ∧ v.toInt ≤ 2147483647)) ∨ (((-1) ≤ v.toInt ∧ v.toInt ≤ (-1)))) := by
  have ha : sargs (cap vC_385) [xf 13 104, xi x0] := ⟨rfl, a0, trivial⟩
  obtain ⟨ρ, rs, h', ⟨hv, hw⟩, c, g, f, cs, hcs, k1, k2, k3, k4, k5, k6⟩ := vc_385 l [xf 13 104, xi x0] h ha hg (fun q hq => absurd hq List.not_mem_nil) (fun q hq => absurd hq List.not_mem_nil) (fun ρ hρ g hg' => absurd hg' List.not_mem_nil)
  have e0 : ρ 0 = x0.toInt := hv.1
  rcases List.mem_cons.mp hcs with rfl | hcs
  · obtain ⟨v, rfl, kv⟩ := sres_i k3
    exact ⟨v, h', c, g, f, Or.inl ⟨(by have z := k1 0 _ rfl; rw [e0] at z; exact z), kv⟩⟩
  rcases List.mem_cons.mp hcs with rfl | hcs
  · obtain ⟨v, rfl, kv⟩ := sres_i k3
    exact ⟨v, h', c, g, f, Or.inr (Or.inl ⟨(by have z := k1 0 _ rfl; rw [e0] at z; exact z), kv⟩)⟩
  rcases List.mem_cons.mp hcs with rfl | hcs
  · obtain ⟨v, rfl, kv⟩ := sres_i k3
    exact ⟨v, h', c, g, f, Or.inr (Or.inr (kv))⟩
  exact absurd hcs List.not_mem_nil
set_option maxRecDepth 100000 in
set_option maxHeartbeats 4000000 in
theorem lw_c0 (l : Launch) (Ls : Nat) (xs : Nat → Int32) (N U : Nat) (F : List XV → XH → Prop) (i : Int32) (x5 x6 : XV) (h : XH) (H : vLw h) (i0 : 0 ≤ i.toInt) (i1 : i.toInt + 6 ≤ Ls) (hL : Ls ≤ 3072) (eL : (Int32.ofNat Ls - (Int32.ofInt (6))).toInt = Ls - 6) (hN : 153 ≤ N) (hU : 6051 ≤ U) (hc : (xs (i).toNatClampNeg &&& (Int32.ofInt (63))).toInt = 0) (k : ∀ h' x5' x6', vLw h' → XB l Ls xs 14 538 false 288 N U F 23 [xf 50 1, xf 12 2, xf 13 104, xf 40001 152, xi (i + (Int32.ofInt (6))), x5', x6'] [] h') : XB l Ls xs 14 538 false 288 N U F 23 [xf 50 1, xf 12 2, xf 13 104, xf 40001 152, xi i, x5, x6] [] h := by
  have e1 : (i + (Int32.ofInt (1))).toInt = i.toInt + 1 := by rw [Int32.toInt_add, show (Int32.ofInt (1)).toInt = 1 from rfl]; exact Int.bmod_eq_of_le (by omega) (by omega)
  have e2 : (i + (Int32.ofInt (2))).toInt = i.toInt + 2 := by rw [Int32.toInt_add, show (Int32.ofInt (2)).toInt = 2 from rfl]; exact Int.bmod_eq_of_le (by omega) (by omega)
  have e3 : (i + (Int32.ofInt (3))).toInt = i.toInt + 3 := by rw [Int32.toInt_add, show (Int32.ofInt (3)).toInt = 3 from rfl]; exact Int.bmod_eq_of_le (by omega) (by omega)
  have e4 : (i + (Int32.ofInt (4))).toInt = i.toInt + 4 := by rw [Int32.toInt_add, show (Int32.ofInt (4)).toInt = 4 from rfl]; exact Int.bmod_eq_of_le (by omega) (by omega)
  have e5 : (i + (Int32.ofInt (5))).toInt = i.toInt + 5 := by rw [Int32.toInt_add, show (Int32.ofInt (5)).toInt = 5 from rfl]; exact Int.bmod_eq_of_le (by omega) (by omega)
  have hg := H.1
  have R0 := H.2
  refine XB_path (sc := some (Ls, xs)) (inl := []) (n := 80) (sp := [231]) (o := [0, 1]) (xin_ok rfl) (Or.inr rfl) rfl rfl (Nat.le_trans (Nat.le_of_eq hg.2.2.2.1) hN) (Nat.le_trans (Nat.le_of_eq hg.2.2.2.2) hU) ⟨⟨⟨⟨⟨⟨⟨⟨trivial, (fun z => absurd (Int32.lt_iff_toInt_lt.mp z) (by omega))⟩, (vp_of (i := i) (n := Ls) (by omega) (by omega))⟩, ⟨hc, by decide⟩⟩, (vp_of (i := (i + (Int32.ofInt (1)))) (n := Ls) (by omega) (by omega))⟩, (vp_of (i := (i + (Int32.ofInt (2)))) (n := Ls) (by omega) (by omega))⟩, (vp_of (i := (i + (Int32.ofInt (3)))) (n := Ls) (by omega) (by omega))⟩, (vp_of (i := (i + (Int32.ofInt (4)))) (n := Ls) (by omega) (by omega))⟩, (vp_of (i := (i + (Int32.ofInt (5)))) (n := Ls) (by omega) (by omega))⟩ ?_
  show XB l Ls xs 14 538 false 288 N U F 231 [xf 50 1, xf 12 2, xf 13 104, xf 40001 152, xi i, x5, x6] [xi (xs ((i + (Int32.ofInt (5)))).toNatClampNeg), xi (xs ((i + (Int32.ofInt (4)))).toNatClampNeg), xi (xs ((i + (Int32.ofInt (3)))).toNatClampNeg), xi (xs ((i + (Int32.ofInt (2)))).toNatClampNeg), xi (xs ((i + (Int32.ofInt (1)))).toNatClampNeg), xf 12 2] h
  obtain ⟨f0, hF⟩ : ∃ f0 : Nat, (xI h 45 1).toInt = f0 := ⟨(xI h 45 1).toInt.toNat, by have b : 0 ≤ (xI h 45 1).toInt ∧ (xI h 45 1).toInt ≤ 700 := vbnd hg.1 45 1; omega⟩
  obtain ⟨v1, h1, cc1, g1, s1⟩ := ck_feed l ((xs ((i + (Int32.ofInt (1)))).toNatClampNeg)) ((xs ((i + (Int32.ofInt (2)))).toNatClampNeg)) ((xs ((i + (Int32.ofInt (3)))).toNatClampNeg)) ((xs ((i + (Int32.ofInt (4)))).toNatClampNeg)) ((xs ((i + (Int32.ofInt (5)))).toNatClampNeg)) f0 h hg hF
  refine XB_call (i := .invokevirtual 13) (aux := 6) (nx := 234) (K := 13) (vs := [xf 12 2, xi (xs ((i + (Int32.ofInt (1)))).toNatClampNeg), xi (xs ((i + (Int32.ofInt (2)))).toNatClampNeg), xi (xs ((i + (Int32.ofInt (3)))).toNatClampNeg), xi (xs ((i + (Int32.ofInt (4)))).toNatClampNeg), xi (xs ((i + (Int32.ofInt (5)))).toNatClampNeg)]) (rs := [xi v1]) (rest := []) rfl rfl rfl rfl rfl rfl cc1 (by decide) (by decide) (Nat.le_of_ble_eq_true rfl) ⟨Nat.le_trans (Nat.le_of_eq g1.1.2.2.2.1) hN, Nat.le_trans (Nat.le_of_eq g1.1.2.2.2.2) hU⟩ ?_
  show XB l Ls xs 14 538 false 288 N U F 234 [xf 50 1, xf 12 2, xf 13 104, xf 40001 152, xi i, x5, x6] [xi v1] h1
  refine XB_path (sc := some (Ls, xs)) (inl := []) (n := 80) (sp := [266]) (o := []) (xin_ok rfl) (Or.inr rfl) rfl rfl (Nat.le_trans (Nat.le_of_eq g1.1.2.2.2.1) hN) (Nat.le_trans (Nat.le_of_eq g1.1.2.2.2.2) hU) ⟨⟨⟨⟨⟨trivial, (vp_of (i := (i + (Int32.ofInt (1)))) (n := Ls) (by omega) (by omega))⟩, (vp_of (i := (i + (Int32.ofInt (2)))) (n := Ls) (by omega) (by omega))⟩, (vp_of (i := (i + (Int32.ofInt (3)))) (n := Ls) (by omega) (by omega))⟩, (vp_of (i := (i + (Int32.ofInt (4)))) (n := Ls) (by omega) (by omega))⟩, (vp_of (i := (i + (Int32.ofInt (5)))) (n := Ls) (by omega) (by omega))⟩ ?_
  show XB l Ls xs 14 538 false 288 N U F 266 [xf 50 1, xf 12 2, xf 13 104, xf 40001 152, xi i, x5, x6] [xi (xs ((i + (Int32.ofInt (5)))).toNatClampNeg), xi (xs ((i + (Int32.ofInt (4)))).toNatClampNeg), xi (xs ((i + (Int32.ofInt (3)))).toNatClampNeg), xi (xs ((i + (Int32.ofInt (2)))).toNatClampNeg), xi (xs ((i + (Int32.ofInt (1)))).toNatClampNeg), xf 13 104] h1
  obtain ⟨v2, h2, cc2, g2, s2⟩ := jk_feed l ((xs ((i + (Int32.ofInt (1)))).toNatClampNeg)) ((xs ((i + (Int32.ofInt (2)))).toNatClampNeg)) ((xs ((i + (Int32.ofInt (3)))).toNatClampNeg)) ((xs ((i + (Int32.ofInt (4)))).toNatClampNeg)) ((xs ((i + (Int32.ofInt (5)))).toNatClampNeg)) f0 h1 g1.1 (by rw [g1.2.1 104 1 rfl, ← R0.1.1]; exact hF)
  refine XB_call (i := .invokevirtual 178) (aux := 6) (nx := 269) (K := 178) (vs := [xf 13 104, xi (xs ((i + (Int32.ofInt (1)))).toNatClampNeg), xi (xs ((i + (Int32.ofInt (2)))).toNatClampNeg), xi (xs ((i + (Int32.ofInt (3)))).toNatClampNeg), xi (xs ((i + (Int32.ofInt (4)))).toNatClampNeg), xi (xs ((i + (Int32.ofInt (5)))).toNatClampNeg)]) (rs := [xi v2]) (rest := []) rfl rfl rfl rfl rfl rfl cc2 (by decide) (by decide) (Nat.le_of_ble_eq_true rfl) ⟨Nat.le_trans (Nat.le_of_eq g2.1.2.2.2.1) hN, Nat.le_trans (Nat.le_of_eq g2.1.2.2.2.2) hU⟩ ?_
  show XB l Ls xs 14 538 false 288 N U F 269 [xf 50 1, xf 12 2, xf 13 104, xf 40001 152, xi i, x5, x6] [xi v2] h2
  obtain ⟨same, RF1⟩ := vR1_feed R0.1 hF g1.2 s1 g2.2 s2
  have RF : vRl h2 := ⟨RF1, R0.2.k hg.1 ((((vKeep.of g1.2 (by decide +kernel)) : vKeep vL7 _ _)).tr ((vKeep.of g2.2 (by decide +kernel)) : vKeep vL7 _ _)) ((g2.2.2 2 1 rfl).trans (g1.2.2 2 1 rfl)) ((g2.2.2 2 2 rfl).trans (g1.2.2 2 2 rfl)) ((g2.2.2 48 0 rfl).trans (g1.2.2 48 0 rfl)) ((g2.2.2 70 0 rfl).trans (g1.2.2 70 0 rfl))⟩
  refine XB_path (sc := some (Ls, xs)) (inl := []) (n := 80) (sp := [23]) (o := []) (xin_ok rfl) (Or.inr rfl) rfl rfl (Nat.le_trans (Nat.le_of_eq g2.1.2.2.2.1) hN) (Nat.le_trans (Nat.le_of_eq g2.1.2.2.2.2) hU) trivial ?_
  show XB l Ls xs 14 538 false 288 N U F 23 [xf 50 1, xf 12 2, xf 13 104, xf 40001 152, xi (i + Int32.ofInt (6)), x5, x6] [] h2
  exact k h2 (x5) (x6) ⟨g2.1, RF⟩
set_option maxRecDepth 100000 in
set_option maxHeartbeats 4000000 in
theorem lw_c1 (l : Launch) (Ls : Nat) (xs : Nat → Int32) (N U : Nat) (F : List XV → XH → Prop) (i : Int32) (x5 x6 : XV) (h : XH) (H : vLw h) (i0 : 0 ≤ i.toInt) (i1 : i.toInt + 6 ≤ Ls) (hL : Ls ≤ 3072) (eL : (Int32.ofNat Ls - (Int32.ofInt (6))).toInt = Ls - 6) (hN : 153 ≤ N) (hU : 6051 ≤ U) (hc : (xs (i).toNatClampNeg &&& (Int32.ofInt (63))).toInt = 1) (k : ∀ h' x5' x6', vLw h' → XB l Ls xs 14 538 false 288 N U F 23 [xf 50 1, xf 12 2, xf 13 104, xf 40001 152, xi (i + (Int32.ofInt (6))), x5', x6'] [] h') : XB l Ls xs 14 538 false 288 N U F 23 [xf 50 1, xf 12 2, xf 13 104, xf 40001 152, xi i, x5, x6] [] h := by
  have e1 : (i + (Int32.ofInt (1))).toInt = i.toInt + 1 := by rw [Int32.toInt_add, show (Int32.ofInt (1)).toInt = 1 from rfl]; exact Int.bmod_eq_of_le (by omega) (by omega)
  have e2 : (i + (Int32.ofInt (2))).toInt = i.toInt + 2 := by rw [Int32.toInt_add, show (Int32.ofInt (2)).toInt = 2 from rfl]; exact Int.bmod_eq_of_le (by omega) (by omega)
  have e3 : (i + (Int32.ofInt (3))).toInt = i.toInt + 3 := by rw [Int32.toInt_add, show (Int32.ofInt (3)).toInt = 3 from rfl]; exact Int.bmod_eq_of_le (by omega) (by omega)
  have e4 : (i + (Int32.ofInt (4))).toInt = i.toInt + 4 := by rw [Int32.toInt_add, show (Int32.ofInt (4)).toInt = 4 from rfl]; exact Int.bmod_eq_of_le (by omega) (by omega)
  have e5 : (i + (Int32.ofInt (5))).toInt = i.toInt + 5 := by rw [Int32.toInt_add, show (Int32.ofInt (5)).toInt = 5 from rfl]; exact Int.bmod_eq_of_le (by omega) (by omega)
  have hg := H.1
  have R0 := H.2
  refine XB_path (sc := some (Ls, xs)) (inl := []) (n := 80) (sp := [280]) (o := [0, 2]) (xin_ok rfl) (Or.inr rfl) rfl rfl (Nat.le_trans (Nat.le_of_eq hg.2.2.2.1) hN) (Nat.le_trans (Nat.le_of_eq hg.2.2.2.2) hU) ⟨⟨⟨⟨trivial, (fun z => absurd (Int32.lt_iff_toInt_lt.mp z) (by omega))⟩, (vp_of (i := i) (n := Ls) (by omega) (by omega))⟩, ⟨hc, by decide⟩⟩, (vp_of (i := (i + (Int32.ofInt (1)))) (n := Ls) (by omega) (by omega))⟩ ?_
  show XB l Ls xs 14 538 false 288 N U F 280 [xf 50 1, xf 12 2, xf 13 104, xf 40001 152, xi i, x5, x6] [xi (xs ((i + (Int32.ofInt (1)))).toNatClampNeg), xf 12 2] h
  obtain ⟨c0, Z, Y, n, UU, En, t0, P, Cl, Mo, Im⟩ := id R0.2
  obtain ⟨A, V, md, n20, un, pk⟩ := id P
  obtain ⟨B, -, -, zv, -⟩ := id A
  have B0 := B.1.2
  have B2 := B.2.2.1.2
  by_cases hn : ((xs ((i + (Int32.ofInt (1)))).toNatClampNeg)).toInt < 0 ∨ (xI h 45 1).toInt < ((xs ((i + (Int32.ofInt (1)))).toNatClampNeg)).toInt
  · have cc1 := ck_textN l ((xs ((i + (Int32.ofInt (1)))).toNatClampNeg)) h hg hn
    refine XB_call (i := .invokevirtual 15) (aux := 2) (nx := 283) (K := 15) (vs := [xf 12 2, xi (xs ((i + (Int32.ofInt (1)))).toNatClampNeg)]) (rs := [xi (Int32.ofInt (-2))]) (rest := []) rfl rfl rfl rfl rfl rfl cc1 (by decide) (by decide) (Nat.le_of_ble_eq_true rfl) ⟨Nat.le_trans (Nat.le_of_eq hg.2.2.2.1) hN, Nat.le_trans (Nat.le_of_eq hg.2.2.2.2) hU⟩ ?_
    show XB l Ls xs 14 538 false 288 N U F 283 [xf 50 1, xf 12 2, xf 13 104, xf 40001 152, xi i, x5, x6] [xi (Int32.ofInt (-2))] h
    refine XB_path (sc := some (Ls, xs)) (inl := []) (n := 80) (sp := [291]) (o := []) (xin_ok rfl) (Or.inr rfl) rfl rfl (Nat.le_trans (Nat.le_of_eq hg.2.2.2.1) hN) (Nat.le_trans (Nat.le_of_eq hg.2.2.2.2) hU) ⟨trivial, (vp_of (i := (i + (Int32.ofInt (1)))) (n := Ls) (by omega) (by omega))⟩ ?_
    show XB l Ls xs 14 538 false 288 N U F 291 [xf 50 1, xf 12 2, xf 13 104, xf 40001 152, xi i, x5, x6] [xi (xs ((i + (Int32.ofInt (1)))).toNatClampNeg), xf 13 104] h
    obtain ⟨v2, h2, cc2, g2, s6, s7⟩ := vh_text l ((xs ((i + (Int32.ofInt (1)))).toNatClampNeg)) h hg
    obtain ⟨h3, cc3, g3⟩ := jk_textN l ((xs ((i + (Int32.ofInt (1)))).toNatClampNeg)) h (mI.of hg) (by rw [← R0.1.1]; exact hn)
    refine XB_two (i := .invokevirtual 179) (aux := 2) (nx := 294) (K := 179) (vs := [xf 13 104, xi (xs ((i + (Int32.ofInt (1)))).toNatClampNeg)]) (rs := [xi v2]) (rs2 := [xi (Int32.ofInt (-2))]) (rest := []) rfl rfl rfl rfl rfl rfl cc2 cc3 ⟨g2.1.2.2.2.1.trans hg.2.2.2.1.symm, g2.1.2.2.2.2.trans hg.2.2.2.2.symm⟩ ⟨g3.1.2.2.2.1.trans hg.2.2.2.1.symm, g3.1.2.2.2.2.trans hg.2.2.2.2.symm⟩ (by decide) (by decide) (by decide) (by decide) (Nat.le_of_ble_eq_true rfl) ⟨Nat.le_trans (Nat.le_of_eq g2.1.2.2.2.1) hN, Nat.le_trans (Nat.le_of_eq g2.1.2.2.2.2) hU⟩ (fun ag => ?_)
    show XB l Ls xs 14 538 false 288 N U F 294 [xf 50 1, xf 12 2, xf 13 104, xf 40001 152, xi i, x5, x6] [xi v2] h2
    have ev : v2 = Int32.ofInt (-2) := ag.v
    obtain ⟨a1, a4, a5, a12, a13, a14, a15, a16, a63, a64, a72, a73, a76, a78⟩ := zag_m ag g2.1.1 g3.1.1
    have aK := zag_K ag g2.1.1 g3.1.1
    have e3 : ∀ c k, ¬ c = 104 → xI h3 c k = xI h c k := fun c k hc => g3.2.1 c k (swj_no (sw_ne hc))
    have jK2 : jK Z h2 := Mo.1.fr hg.1 (fun k k1 k2 => (aK.1 k k1 k2).trans (g3.2.1 104 k (swj_no (sw_m2 (by omega))))) (fun c k c1 c2 hk => (aK.2 c k c1 c2 hk).trans (e3 c k (by omega)))
    have i150 : ∀ X, jIm Z X h → jIm Z X h2 := fun X w => jIm.ag ag g2.1.1 g3.1.1 A.1 ⟨w.1.fr A.1 (fun j _ _ => e3 150 j (by decide)), fun r hr => (e3 151 r (by decide)).trans (w.2.1 r hr), fun p hp => (e3 151 _ (by decide)).trans (w.2.2.1 p hp), (e3 151 14 (by decide)).trans w.2.2.2⟩
    have RT : vRl h2 := ⟨⟨(g2.2.1 45 1 rfl).trans (R0.1.1.trans ((g3.2.1 104 1 rfl).symm.trans a1.symm)), fun k hk => by rw [g2.2.1 45 1 rfl] at hk; rw [g2.2.1 46 k rfl, g2.2.1 105 k rfl]; exact R0.1.2 k hk⟩, c0, Z, Y, n, UU, En, t0.fr (g2.2.2 2 1 rfl) (g2.2.2 2 2 rfl), P, Cl.f7 t0.c ((vKeep.of g2.2 (by decide +kernel)) : vKeep (vL6c ++ vLw48 ++ vLp) _ _) (g2.2.2 48 0 rfl), ⟨jK2, jHf.ag ag g2.1.1 g3.1.1 A.1 (Mo.2.1.o (fun c k c1 c2 => e3 c k (by omega))), jY.ag ag g2.1.1 g3.1.1 A.1 ⟨fun r hr => (e3 134 _ (by decide)).trans (Mo.2.2.1.1 r hr), fun p hp => (e3 137 _ (by decide)).trans (Mo.2.2.1.2 p hp)⟩, jPa.ag ag g2.1.1 g3.1.1 A.1 n20 (Mo.2.2.2.o A.1 (fun k => e3 149 k (by decide)) (g3.2.1 104 76 rfl))⟩, ⟨(g2.2.1 2 6 rfl).trans (Im.1.trans ((g3.2.1 104 78 rfl).symm.trans a78.symm)), fun z => by obtain ⟨X, x1, x2, x3, x4⟩ := Im.2 (fun y => z ((g2.2.1 2 6 rfl).trans y)); exact ⟨X, x1, x2, x3.fr ((vKeep.of g2.2 (by decide +kernel)) : vKeep vLw70 _ _) (g2.2.2 70 0 rfl), i150 X x4⟩⟩⟩
    refine XB_path (sc := some (Ls, xs)) (inl := []) (n := 80) (sp := [23]) (o := []) (xin_ok rfl) (Or.inr rfl) rfl rfl (Nat.le_trans (Nat.le_of_eq g2.1.2.2.2.1) hN) (Nat.le_trans (Nat.le_of_eq g2.1.2.2.2.2) hU) trivial ?_
    show XB l Ls xs 14 538 false 288 N U F 23 [xf 50 1, xf 12 2, xf 13 104, xf 40001 152, xi (i + Int32.ofInt (6)), x5, x6] [] h2
    exact k h2 (x5) (x6) ⟨g2.1, RT⟩
  · obtain ⟨n0, hn0⟩ : ∃ n0 : Nat, ((xs ((i + (Int32.ofInt (1)))).toNatClampNeg)).toInt = n0 := ⟨((xs ((i + (Int32.ofInt (1)))).toNatClampNeg)).toInt.toNat, by omega⟩
    rcases t0 with ⟨rfl, rr1, rr2⟩ | ⟨rfl, rr1, rr2⟩
    · have t1 : vTold 3 h := Or.inl ⟨rfl, rr1, rr2⟩
      have cc0 := t1.c
      obtain ⟨v1, h1, cc1, g1, s1, s2, s3, s4, s5⟩ := ck_textV24 l (fun k => sby (xI h 46 k).toInt) n0 ((xs ((i + (Int32.ofInt (1)))).toNatClampNeg)) h hg hn0 (by omega) (fun k hk => rfl) rr1 rr2
      by_cases ok : (sText (fun k => sby (xI h 46 k).toInt) n0).2.1 = 0
      · obtain ⟨v3, h3, cc3, m3, wS⟩ := ck_textS24 l (fun k => sby (xI h 46 k).toInt) n0 ((xs ((i + (Int32.ofInt (1)))).toNatClampNeg)) h hg hn0 (by omega) (fun k hk => rfl) rr1 rr2 ok
        refine XB_two (i := .invokevirtual 15) (aux := 2) (nx := 283) (K := 15) (vs := [xf 12 2, xi (xs ((i + (Int32.ofInt (1)))).toNatClampNeg)]) (rs := [xi v1]) (rs2 := [xi v3]) (rest := []) rfl rfl rfl rfl rfl rfl cc1 cc3 ⟨g1.1.2.2.2.1.trans hg.2.2.2.1.symm, g1.1.2.2.2.2.trans hg.2.2.2.2.symm⟩ ⟨m3.2.2.2.1.trans hg.2.2.2.1.symm, m3.2.2.2.2.trans hg.2.2.2.2.symm⟩ (by decide) (by decide) (by decide) (by decide) (Nat.le_of_ble_eq_true rfl) ⟨Nat.le_trans (Nat.le_of_eq g1.1.2.2.2.1) hN, Nat.le_trans (Nat.le_of_eq g1.1.2.2.2.2) hU⟩ (fun ag1 => ?_)
        show XB l Ls xs 14 538 false 288 N U F 283 [xf 50 1, xf 12 2, xf 13 104, xf 40001 152, xi i, x5, x6] [xi v1] h1
        refine XB_path (sc := some (Ls, xs)) (inl := []) (n := 80) (sp := [291]) (o := []) (xin_ok rfl) (Or.inr rfl) rfl rfl (Nat.le_trans (Nat.le_of_eq g1.1.2.2.2.1) hN) (Nat.le_trans (Nat.le_of_eq g1.1.2.2.2.2) hU) ⟨trivial, (vp_of (i := (i + (Int32.ofInt (1)))) (n := Ls) (by omega) (by omega))⟩ ?_
        show XB l Ls xs 14 538 false 288 N U F 291 [xf 50 1, xf 12 2, xf 13 104, xf 40001 152, xi i, x5, x6] [xi (xs ((i + (Int32.ofInt (1)))).toNatClampNeg), xf 13 104] h1
        obtain ⟨v2, h2, cc2, g2, s6, s7⟩ := vh_text l ((xs ((i + (Int32.ofInt (1)))).toNatClampNeg)) h1 g1.1
        have u1 : xI h1 104 1 = xI h 104 1 := g1.2.1 104 1 rfl
        obtain ⟨v3_, h3_, cc3_, g3, t1_, t2_, t3_, t4, t5⟩ := jk_text l (fun k => sby (xI h 46 k).toInt) n0 ((xs ((i + (Int32.ofInt (1)))).toNatClampNeg)) h1 (mI.of g1.1) hn0 (by rw [u1, ← R0.1.1]; omega) (fun k hk => by rw [g1.2.1 105 k rfl]; exact (R0.1.2 k (by omega)).symm)
        refine XB_two (i := .invokevirtual 179) (aux := 2) (nx := 294) (K := 179) (vs := [xf 13 104, xi (xs ((i + (Int32.ofInt (1)))).toNatClampNeg)]) (rs := [xi v2]) (rs2 := [xi v3_]) (rest := []) rfl rfl rfl rfl rfl rfl cc2 cc3_ ⟨g2.1.2.2.2.1.trans g1.1.2.2.2.1.symm, g2.1.2.2.2.2.trans g1.1.2.2.2.2.symm⟩ ⟨g3.1.2.2.2.1.trans g1.1.2.2.2.1.symm, g3.1.2.2.2.2.trans g1.1.2.2.2.2.symm⟩ (by decide) (by decide) (by decide) (by decide) (Nat.le_of_ble_eq_true rfl) ⟨Nat.le_trans (Nat.le_of_eq g2.1.2.2.2.1) hN, Nat.le_trans (Nat.le_of_eq g2.1.2.2.2.2) hU⟩ (fun ag => ?_)
        show XB l Ls xs 14 538 false 288 N U F 294 [xf 50 1, xf 12 2, xf 13 104, xf 40001 152, xi i, x5, x6] [xi v2] h2
        have ev : v2 = v3_ := ag.v
        have same : v1 = v2 := Int32.toInt_inj.mp (by rw [ev, s2, t1_])
        obtain ⟨a1, a4, a5, a12, a13, a14, a15, a16, a63, a64, a72, a73, a76, a78⟩ := zag_m ag g2.1.1 g3.1.1
        have aK := zag_K ag g2.1.1 g3.1.1
        have e0 : xI h2 45 1 = 0 := by rw [g2.2.1 45 1 rfl]; exact Int32.toInt_inj.mp s1
        have e1_ : xI h2 104 1 = (Int32.ofInt (0)) := s7 (by omega) (by rw [u1, ← R0.1.1]; omega)
        have ecl : ∀ c k, 3 ≤ c → c < 44 → ¬ c = 23 → xI h2 c k = xI h1 c k := fun c k c1 c2 c3 => (vKeep.of g2.2 rfl : vKeep vL6c h1 h2) c k (scell_in (vL6_c c c2 c1 c3))
        have RT : vRl h2 := by
          rcases s5 with ⟨y1, y2, y3, kz, k26, k81, k85, k851, kst, k480⟩ | ⟨y1, y⟩
          · have j := t4 y1
            have A2 : zAll (sText (fun k => sby (xI h 46 k).toInt) n0).2.2.2 := zAll_text ok
            have jb := jBg.w A2 j.1 j.2.1
            have w1 : vWo48 24 (sText (fun k => sby (xI h 46 k).toInt) n0).2.2.2 (zY0 (sText (fun k => sby (xI h 46 k).toInt) n0).2.2.2) h1 := vWo48.ag ag1 g1.1.1 m3.1 A2.1 wS k480
            exact ⟨vR1_0 e0 e1_, 24, (sText (fun k => sby (xI h 46 k).toInt) n0).2.2.2, zY0 (sText (fun k => sby (xI h 46 k).toInt) n0).2.2.2, 0, fun _ => zY0 (sText (fun k => sby (xI h 46 k).toInt) n0).2.2.2, En, Or.inr ⟨rfl, (g2.2.2 2 1 rfl).trans y2, (g2.2.2 2 2 rfl).trans y3⟩, vPst.nil A2 (zVd_0 A2) rfl En, ⟨kTx.fr (c := 24) ⟨kz.1, kz.2.1, kz.2.2.1⟩ (fun i k i1 i2 => ecl i k (by omega) (by omega) (by omega)), w1.fr ((vKeep.of g2.2 (by decide +kernel)) : vKeep vLw48 _ _) (g2.2.2 48 0 rfl), ⟨by rw [g2.2.1 81 0 rfl, k81]; rfl, fun k hk => absurd hk (Nat.not_lt_zero k)⟩⟩, ⟨j.1.fr g3.1.1 aK.1 aK.2, jHf.ag ag g2.1.1 g3.1.1 A2.1 jb.1, jY.ag ag g2.1.1 g3.1.1 A2.1 jb.2, ⟨by rw [a76, j.2.2.2.2.2.2.1]; rfl, fun k hk => absurd hk (Nat.not_lt_zero k)⟩⟩, ⟨(g2.2.1 2 6 rfl).trans (k26.trans (j.2.2.2.2.2.2.2.symm.trans a78.symm)), fun z => absurd ((g2.2.1 2 6 rfl).trans k26) z⟩⟩
          · exact absurd ok y1
        refine XB_path (sc := some (Ls, xs)) (inl := []) (n := 80) (sp := [23]) (o := []) (xin_ok rfl) (Or.inr rfl) rfl rfl (Nat.le_trans (Nat.le_of_eq g2.1.2.2.2.1) hN) (Nat.le_trans (Nat.le_of_eq g2.1.2.2.2.2) hU) trivial ?_
        show XB l Ls xs 14 538 false 288 N U F 23 [xf 50 1, xf 12 2, xf 13 104, xf 40001 152, xi (i + Int32.ofInt (6)), x5, x6] [] h2
        exact k h2 (x5) (x6) ⟨g2.1, RT⟩
      · have nok := ok
        refine XB_call (i := .invokevirtual 15) (aux := 2) (nx := 283) (K := 15) (vs := [xf 12 2, xi (xs ((i + (Int32.ofInt (1)))).toNatClampNeg)]) (rs := [xi v1]) (rest := []) rfl rfl rfl rfl rfl rfl cc1 (by decide) (by decide) (Nat.le_of_ble_eq_true rfl) ⟨Nat.le_trans (Nat.le_of_eq g1.1.2.2.2.1) hN, Nat.le_trans (Nat.le_of_eq g1.1.2.2.2.2) hU⟩ ?_
        show XB l Ls xs 14 538 false 288 N U F 283 [xf 50 1, xf 12 2, xf 13 104, xf 40001 152, xi i, x5, x6] [xi v1] h1
        refine XB_path (sc := some (Ls, xs)) (inl := []) (n := 80) (sp := [291]) (o := []) (xin_ok rfl) (Or.inr rfl) rfl rfl (Nat.le_trans (Nat.le_of_eq g1.1.2.2.2.1) hN) (Nat.le_trans (Nat.le_of_eq g1.1.2.2.2.2) hU) ⟨trivial, (vp_of (i := (i + (Int32.ofInt (1)))) (n := Ls) (by omega) (by omega))⟩ ?_
        show XB l Ls xs 14 538 false 288 N U F 291 [xf 50 1, xf 12 2, xf 13 104, xf 40001 152, xi i, x5, x6] [xi (xs ((i + (Int32.ofInt (1)))).toNatClampNeg), xf 13 104] h1
        obtain ⟨v2, h2, cc2, g2, s6, s7⟩ := vh_text l ((xs ((i + (Int32.ofInt (1)))).toNatClampNeg)) h1 g1.1
        have u1 : xI h1 104 1 = xI h 104 1 := g1.2.1 104 1 rfl
        obtain ⟨v3_, h3_, cc3_, g3, t1_, t2_, t3_, t4, t5⟩ := jk_text l (fun k => sby (xI h 46 k).toInt) n0 ((xs ((i + (Int32.ofInt (1)))).toNatClampNeg)) h1 (mI.of g1.1) hn0 (by rw [u1, ← R0.1.1]; omega) (fun k hk => by rw [g1.2.1 105 k rfl]; exact (R0.1.2 k (by omega)).symm)
        refine XB_two (i := .invokevirtual 179) (aux := 2) (nx := 294) (K := 179) (vs := [xf 13 104, xi (xs ((i + (Int32.ofInt (1)))).toNatClampNeg)]) (rs := [xi v2]) (rs2 := [xi v3_]) (rest := []) rfl rfl rfl rfl rfl rfl cc2 cc3_ ⟨g2.1.2.2.2.1.trans g1.1.2.2.2.1.symm, g2.1.2.2.2.2.trans g1.1.2.2.2.2.symm⟩ ⟨g3.1.2.2.2.1.trans g1.1.2.2.2.1.symm, g3.1.2.2.2.2.trans g1.1.2.2.2.2.symm⟩ (by decide) (by decide) (by decide) (by decide) (Nat.le_of_ble_eq_true rfl) ⟨Nat.le_trans (Nat.le_of_eq g2.1.2.2.2.1) hN, Nat.le_trans (Nat.le_of_eq g2.1.2.2.2.2) hU⟩ (fun ag => ?_)
        show XB l Ls xs 14 538 false 288 N U F 294 [xf 50 1, xf 12 2, xf 13 104, xf 40001 152, xi i, x5, x6] [xi v2] h2
        have ev : v2 = v3_ := ag.v
        have same : v1 = v2 := Int32.toInt_inj.mp (by rw [ev, s2, t1_])
        obtain ⟨a1, a4, a5, a12, a13, a14, a15, a16, a63, a64, a72, a73, a76, a78⟩ := zag_m ag g2.1.1 g3.1.1
        have aK := zag_K ag g2.1.1 g3.1.1
        have e0 : xI h2 45 1 = 0 := by rw [g2.2.1 45 1 rfl]; exact Int32.toInt_inj.mp s1
        have e1_ : xI h2 104 1 = (Int32.ofInt (0)) := s7 (by omega) (by rw [u1, ← R0.1.1]; omega)
        have ecl : ∀ c k, 3 ≤ c → c < 44 → ¬ c = 23 → xI h2 c k = xI h1 c k := fun c k c1 c2 c3 => (vKeep.of g2.2 rfl : vKeep vL6c h1 h2) c k (scell_in (vL6_c c c2 c1 c3))
        have RT : vRl h2 := by
          rcases s5 with ⟨y1, -⟩ | ⟨y1, y⟩
          · exact absurd y1 nok
          · have t := t5 y1
            have e3 : ∀ c k, 133 ≤ c → c ≤ 151 → ¬ (138 < c ∧ c < 149) → xI h3_ c k = xI h1 c k := fun c k c1 c2 c3 => by
              rcases (by omega : c = 133 ∨ c = 134 ∨ c = 135 ∨ c = 136 ∨ c = 137 ∨ c = 138 ∨ c = 149 ∨ c = 150 ∨ c = 151) with rfl | rfl | rfl | rfl | rfl | rfl | rfl | rfl | rfl <;> exact t.1 _ k rfl
            have j0 := Mo.f7 hg.1 A.1 ((vKeep.of g1.2 (by decide +kernel)) : vKeep (vL6j ++ vLh ++ vLq) _ _)
            have jK2 : jK Z h2 := j0.1.fr g1.1.1 (fun k k1 k2 => (aK.1 k k1 k2).trans (t.1 104 k (sw_wf (by omega)))) (fun c k c1 c2 hk => (aK.2 c k c1 c2 hk).trans (t.1 c k (swj_lo c1 c2 hk)))
            have i150 : ∀ X, jIm Z X h1 → jIm Z X h2 := fun X w => jIm.ag ag g2.1.1 g3.1.1 A.1 ⟨w.1.fr A.1 (fun j _ _ => e3 150 j (by decide) (by decide) (by decide)), fun r hr => (e3 151 r (by decide) (by decide) (by decide)).trans (w.2.1 r hr), fun p hp => (e3 151 _ (by decide) (by decide) (by decide)).trans (w.2.2.1 p hp), (e3 151 14 (by decide) (by decide) (by decide)).trans w.2.2.2⟩
            have Im1 : ∀ X, jIm Z X h → jIm Z X h1 := fun X w => ⟨w.1.fr A.1 (fun j _ _ => g1.2.1 150 j rfl), fun r hr => (g1.2.1 151 r rfl).trans (w.2.1 r hr), fun p hp => (g1.2.1 151 _ rfl).trans (w.2.2.1 p hp), (g1.2.1 151 14 rfl).trans w.2.2.2⟩
            have kT2 : kTx 3 Z h2 := Cl.1.fr (fun i k i1 i2 => (ecl i k (by omega) (by omega) (by omega)).trans ((vKeep.of y rfl : vKeep vL63 h h1) i k (scell_in (vL6_3 i (by omega) (by omega)))))
            exact ⟨vR1_0 e0 e1_, 3, Z, Y, n, UU, En, Or.inl ⟨rfl, ((g2.2.2 2 1 rfl).trans (y.2 2 1 rfl)).trans rr1, ((g2.2.2 2 2 rfl).trans (y.2 2 2 rfl)).trans rr2⟩, P, ⟨kT2, Cl.2.1.fr ((((vKeep.of y (by decide +kernel)) : vKeep vLw48 _ _)).tr ((vKeep.of g2.2 (by decide +kernel)) : vKeep vLw48 _ _)) ((g2.2.2 48 0 rfl).trans (y.2 48 0 rfl)), Cl.2.2.fr ((((vKeep.of y (by decide +kernel)) : vKeep vLp _ _)).tr ((vKeep.of g2.2 (by decide +kernel)) : vKeep vLp _ _))⟩, ⟨jK2, jHf.ag ag g2.1.1 g3.1.1 A.1 (j0.2.1.o (fun c k c1 c2 => e3 c k (by omega) (by omega) (by omega))), jY.ag ag g2.1.1 g3.1.1 A.1 ⟨fun r hr => (e3 134 _ (by decide) (by decide) (by decide)).trans (j0.2.2.1.1 r hr), fun p hp => (e3 137 _ (by decide) (by decide) (by decide)).trans (j0.2.2.1.2 p hp)⟩, jPa.ag ag g2.1.1 g3.1.1 A.1 n20 (j0.2.2.2.o A.1 (fun k => e3 149 k (by decide) (by decide) (by decide)) (t.1 104 76 rfl))⟩, ⟨(g2.2.1 2 6 rfl).trans ((y.1 2 6 rfl).trans (Im.1.trans ((g1.2.1 104 78 rfl).symm.trans ((t.1 104 78 rfl).symm.trans a78.symm)))), fun z => by obtain ⟨X, x1, x2, x3, x4⟩ := Im.2 (fun w => z ((g2.2.1 2 6 rfl).trans ((y.1 2 6 rfl).trans w))); exact ⟨X, x1, x2, x3.fr ((((vKeep.of y (by decide +kernel)) : vKeep vLw70 _ _)).tr ((vKeep.of g2.2 (by decide +kernel)) : vKeep vLw70 _ _)) ((g2.2.2 70 0 rfl).trans (y.2 70 0 rfl)), i150 X (Im1 X x4)⟩⟩⟩
        refine XB_path (sc := some (Ls, xs)) (inl := []) (n := 80) (sp := [23]) (o := []) (xin_ok rfl) (Or.inr rfl) rfl rfl (Nat.le_trans (Nat.le_of_eq g2.1.2.2.2.1) hN) (Nat.le_trans (Nat.le_of_eq g2.1.2.2.2.2) hU) trivial ?_
        show XB l Ls xs 14 538 false 288 N U F 23 [xf 50 1, xf 12 2, xf 13 104, xf 40001 152, xi (i + Int32.ofInt (6)), x5, x6] [] h2
        exact k h2 (x5) (x6) ⟨g2.1, RT⟩
    · have t1 : vTold 24 h := Or.inr ⟨rfl, rr1, rr2⟩
      have cc0 := t1.c
      obtain ⟨v1, h1, cc1, g1, s1, s2, s3, s4, s5⟩ := ck_textV3 l (fun k => sby (xI h 46 k).toInt) n0 ((xs ((i + (Int32.ofInt (1)))).toNatClampNeg)) h hg hn0 (by omega) (fun k hk => rfl) rr1 rr2
      by_cases ok : (sText (fun k => sby (xI h 46 k).toInt) n0).2.1 = 0
      · obtain ⟨v3, h3, cc3, m3, wS⟩ := ck_textS3 l (fun k => sby (xI h 46 k).toInt) n0 ((xs ((i + (Int32.ofInt (1)))).toNatClampNeg)) h hg hn0 (by omega) (fun k hk => rfl) rr1 rr2 ok
        refine XB_two (i := .invokevirtual 15) (aux := 2) (nx := 283) (K := 15) (vs := [xf 12 2, xi (xs ((i + (Int32.ofInt (1)))).toNatClampNeg)]) (rs := [xi v1]) (rs2 := [xi v3]) (rest := []) rfl rfl rfl rfl rfl rfl cc1 cc3 ⟨g1.1.2.2.2.1.trans hg.2.2.2.1.symm, g1.1.2.2.2.2.trans hg.2.2.2.2.symm⟩ ⟨m3.2.2.2.1.trans hg.2.2.2.1.symm, m3.2.2.2.2.trans hg.2.2.2.2.symm⟩ (by decide) (by decide) (by decide) (by decide) (Nat.le_of_ble_eq_true rfl) ⟨Nat.le_trans (Nat.le_of_eq g1.1.2.2.2.1) hN, Nat.le_trans (Nat.le_of_eq g1.1.2.2.2.2) hU⟩ (fun ag1 => ?_)
        show XB l Ls xs 14 538 false 288 N U F 283 [xf 50 1, xf 12 2, xf 13 104, xf 40001 152, xi i, x5, x6] [xi v1] h1
        refine XB_path (sc := some (Ls, xs)) (inl := []) (n := 80) (sp := [291]) (o := []) (xin_ok rfl) (Or.inr rfl) rfl rfl (Nat.le_trans (Nat.le_of_eq g1.1.2.2.2.1) hN) (Nat.le_trans (Nat.le_of_eq g1.1.2.2.2.2) hU) ⟨trivial, (vp_of (i := (i + (Int32.ofInt (1)))) (n := Ls) (by omega) (by omega))⟩ ?_
        show XB l Ls xs 14 538 false 288 N U F 291 [xf 50 1, xf 12 2, xf 13 104, xf 40001 152, xi i, x5, x6] [xi (xs ((i + (Int32.ofInt (1)))).toNatClampNeg), xf 13 104] h1
        obtain ⟨v2, h2, cc2, g2, s6, s7⟩ := vh_text l ((xs ((i + (Int32.ofInt (1)))).toNatClampNeg)) h1 g1.1
        have u1 : xI h1 104 1 = xI h 104 1 := g1.2.1 104 1 rfl
        obtain ⟨v3_, h3_, cc3_, g3, t1_, t2_, t3_, t4, t5⟩ := jk_text l (fun k => sby (xI h 46 k).toInt) n0 ((xs ((i + (Int32.ofInt (1)))).toNatClampNeg)) h1 (mI.of g1.1) hn0 (by rw [u1, ← R0.1.1]; omega) (fun k hk => by rw [g1.2.1 105 k rfl]; exact (R0.1.2 k (by omega)).symm)
        refine XB_two (i := .invokevirtual 179) (aux := 2) (nx := 294) (K := 179) (vs := [xf 13 104, xi (xs ((i + (Int32.ofInt (1)))).toNatClampNeg)]) (rs := [xi v2]) (rs2 := [xi v3_]) (rest := []) rfl rfl rfl rfl rfl rfl cc2 cc3_ ⟨g2.1.2.2.2.1.trans g1.1.2.2.2.1.symm, g2.1.2.2.2.2.trans g1.1.2.2.2.2.symm⟩ ⟨g3.1.2.2.2.1.trans g1.1.2.2.2.1.symm, g3.1.2.2.2.2.trans g1.1.2.2.2.2.symm⟩ (by decide) (by decide) (by decide) (by decide) (Nat.le_of_ble_eq_true rfl) ⟨Nat.le_trans (Nat.le_of_eq g2.1.2.2.2.1) hN, Nat.le_trans (Nat.le_of_eq g2.1.2.2.2.2) hU⟩ (fun ag => ?_)
        show XB l Ls xs 14 538 false 288 N U F 294 [xf 50 1, xf 12 2, xf 13 104, xf 40001 152, xi i, x5, x6] [xi v2] h2
        have ev : v2 = v3_ := ag.v
        have same : v1 = v2 := Int32.toInt_inj.mp (by rw [ev, s2, t1_])
        obtain ⟨a1, a4, a5, a12, a13, a14, a15, a16, a63, a64, a72, a73, a76, a78⟩ := zag_m ag g2.1.1 g3.1.1
        have aK := zag_K ag g2.1.1 g3.1.1
        have e0 : xI h2 45 1 = 0 := by rw [g2.2.1 45 1 rfl]; exact Int32.toInt_inj.mp s1
        have e1_ : xI h2 104 1 = (Int32.ofInt (0)) := s7 (by omega) (by rw [u1, ← R0.1.1]; omega)
        have ecl : ∀ c k, 3 ≤ c → c < 44 → ¬ c = 23 → xI h2 c k = xI h1 c k := fun c k c1 c2 c3 => (vKeep.of g2.2 rfl : vKeep vL6c h1 h2) c k (scell_in (vL6_c c c2 c1 c3))
        have RT : vRl h2 := by
          rcases s5 with ⟨y1, y2, y3, kz, k26, k81, k85, k851, kst, k480⟩ | ⟨y1, y⟩
          · have j := t4 y1
            have A2 : zAll (sText (fun k => sby (xI h 46 k).toInt) n0).2.2.2 := zAll_text ok
            have jb := jBg.w A2 j.1 j.2.1
            have w1 : vWo48 3 (sText (fun k => sby (xI h 46 k).toInt) n0).2.2.2 (zY0 (sText (fun k => sby (xI h 46 k).toInt) n0).2.2.2) h1 := vWo48.ag ag1 g1.1.1 m3.1 A2.1 wS k480
            exact ⟨vR1_0 e0 e1_, 3, (sText (fun k => sby (xI h 46 k).toInt) n0).2.2.2, zY0 (sText (fun k => sby (xI h 46 k).toInt) n0).2.2.2, 0, fun _ => zY0 (sText (fun k => sby (xI h 46 k).toInt) n0).2.2.2, En, Or.inl ⟨rfl, (g2.2.2 2 1 rfl).trans y2, (g2.2.2 2 2 rfl).trans y3⟩, vPst.nil A2 (zVd_0 A2) rfl En, ⟨kTx.fr (c := 3) ⟨kz.1, kz.2.1, kz.2.2.1⟩ (fun i k i1 i2 => ecl i k (by omega) (by omega) (by omega)), w1.fr ((vKeep.of g2.2 (by decide +kernel)) : vKeep vLw48 _ _) (g2.2.2 48 0 rfl), ⟨by rw [g2.2.1 81 0 rfl, k81]; rfl, fun k hk => absurd hk (Nat.not_lt_zero k)⟩⟩, ⟨j.1.fr g3.1.1 aK.1 aK.2, jHf.ag ag g2.1.1 g3.1.1 A2.1 jb.1, jY.ag ag g2.1.1 g3.1.1 A2.1 jb.2, ⟨by rw [a76, j.2.2.2.2.2.2.1]; rfl, fun k hk => absurd hk (Nat.not_lt_zero k)⟩⟩, ⟨(g2.2.1 2 6 rfl).trans (k26.trans (j.2.2.2.2.2.2.2.symm.trans a78.symm)), fun z => absurd ((g2.2.1 2 6 rfl).trans k26) z⟩⟩
          · exact absurd ok y1
        refine XB_path (sc := some (Ls, xs)) (inl := []) (n := 80) (sp := [23]) (o := []) (xin_ok rfl) (Or.inr rfl) rfl rfl (Nat.le_trans (Nat.le_of_eq g2.1.2.2.2.1) hN) (Nat.le_trans (Nat.le_of_eq g2.1.2.2.2.2) hU) trivial ?_
        show XB l Ls xs 14 538 false 288 N U F 23 [xf 50 1, xf 12 2, xf 13 104, xf 40001 152, xi (i + Int32.ofInt (6)), x5, x6] [] h2
        exact k h2 (x5) (x6) ⟨g2.1, RT⟩
      · have nok := ok
        refine XB_call (i := .invokevirtual 15) (aux := 2) (nx := 283) (K := 15) (vs := [xf 12 2, xi (xs ((i + (Int32.ofInt (1)))).toNatClampNeg)]) (rs := [xi v1]) (rest := []) rfl rfl rfl rfl rfl rfl cc1 (by decide) (by decide) (Nat.le_of_ble_eq_true rfl) ⟨Nat.le_trans (Nat.le_of_eq g1.1.2.2.2.1) hN, Nat.le_trans (Nat.le_of_eq g1.1.2.2.2.2) hU⟩ ?_
        show XB l Ls xs 14 538 false 288 N U F 283 [xf 50 1, xf 12 2, xf 13 104, xf 40001 152, xi i, x5, x6] [xi v1] h1
        refine XB_path (sc := some (Ls, xs)) (inl := []) (n := 80) (sp := [291]) (o := []) (xin_ok rfl) (Or.inr rfl) rfl rfl (Nat.le_trans (Nat.le_of_eq g1.1.2.2.2.1) hN) (Nat.le_trans (Nat.le_of_eq g1.1.2.2.2.2) hU) ⟨trivial, (vp_of (i := (i + (Int32.ofInt (1)))) (n := Ls) (by omega) (by omega))⟩ ?_
        show XB l Ls xs 14 538 false 288 N U F 291 [xf 50 1, xf 12 2, xf 13 104, xf 40001 152, xi i, x5, x6] [xi (xs ((i + (Int32.ofInt (1)))).toNatClampNeg), xf 13 104] h1
        obtain ⟨v2, h2, cc2, g2, s6, s7⟩ := vh_text l ((xs ((i + (Int32.ofInt (1)))).toNatClampNeg)) h1 g1.1
        have u1 : xI h1 104 1 = xI h 104 1 := g1.2.1 104 1 rfl
        obtain ⟨v3_, h3_, cc3_, g3, t1_, t2_, t3_, t4, t5⟩ := jk_text l (fun k => sby (xI h 46 k).toInt) n0 ((xs ((i + (Int32.ofInt (1)))).toNatClampNeg)) h1 (mI.of g1.1) hn0 (by rw [u1, ← R0.1.1]; omega) (fun k hk => by rw [g1.2.1 105 k rfl]; exact (R0.1.2 k (by omega)).symm)
        refine XB_two (i := .invokevirtual 179) (aux := 2) (nx := 294) (K := 179) (vs := [xf 13 104, xi (xs ((i + (Int32.ofInt (1)))).toNatClampNeg)]) (rs := [xi v2]) (rs2 := [xi v3_]) (rest := []) rfl rfl rfl rfl rfl rfl cc2 cc3_ ⟨g2.1.2.2.2.1.trans g1.1.2.2.2.1.symm, g2.1.2.2.2.2.trans g1.1.2.2.2.2.symm⟩ ⟨g3.1.2.2.2.1.trans g1.1.2.2.2.1.symm, g3.1.2.2.2.2.trans g1.1.2.2.2.2.symm⟩ (by decide) (by decide) (by decide) (by decide) (Nat.le_of_ble_eq_true rfl) ⟨Nat.le_trans (Nat.le_of_eq g2.1.2.2.2.1) hN, Nat.le_trans (Nat.le_of_eq g2.1.2.2.2.2) hU⟩ (fun ag => ?_)
        show XB l Ls xs 14 538 false 288 N U F 294 [xf 50 1, xf 12 2, xf 13 104, xf 40001 152, xi i, x5, x6] [xi v2] h2
        have ev : v2 = v3_ := ag.v
        have same : v1 = v2 := Int32.toInt_inj.mp (by rw [ev, s2, t1_])
        obtain ⟨a1, a4, a5, a12, a13, a14, a15, a16, a63, a64, a72, a73, a76, a78⟩ := zag_m ag g2.1.1 g3.1.1
        have aK := zag_K ag g2.1.1 g3.1.1
        have e0 : xI h2 45 1 = 0 := by rw [g2.2.1 45 1 rfl]; exact Int32.toInt_inj.mp s1
        have e1_ : xI h2 104 1 = (Int32.ofInt (0)) := s7 (by omega) (by rw [u1, ← R0.1.1]; omega)
        have ecl : ∀ c k, 3 ≤ c → c < 44 → ¬ c = 23 → xI h2 c k = xI h1 c k := fun c k c1 c2 c3 => (vKeep.of g2.2 rfl : vKeep vL6c h1 h2) c k (scell_in (vL6_c c c2 c1 c3))
        have RT : vRl h2 := by
          rcases s5 with ⟨y1, -⟩ | ⟨y1, y⟩
          · exact absurd y1 nok
          · have t := t5 y1
            have e3 : ∀ c k, 133 ≤ c → c ≤ 151 → ¬ (138 < c ∧ c < 149) → xI h3_ c k = xI h1 c k := fun c k c1 c2 c3 => by
              rcases (by omega : c = 133 ∨ c = 134 ∨ c = 135 ∨ c = 136 ∨ c = 137 ∨ c = 138 ∨ c = 149 ∨ c = 150 ∨ c = 151) with rfl | rfl | rfl | rfl | rfl | rfl | rfl | rfl | rfl <;> exact t.1 _ k rfl
            have j0 := Mo.f7 hg.1 A.1 ((vKeep.of g1.2 (by decide +kernel)) : vKeep (vL6j ++ vLh ++ vLq) _ _)
            have jK2 : jK Z h2 := j0.1.fr g1.1.1 (fun k k1 k2 => (aK.1 k k1 k2).trans (t.1 104 k (sw_wf (by omega)))) (fun c k c1 c2 hk => (aK.2 c k c1 c2 hk).trans (t.1 c k (swj_lo c1 c2 hk)))
            have i150 : ∀ X, jIm Z X h1 → jIm Z X h2 := fun X w => jIm.ag ag g2.1.1 g3.1.1 A.1 ⟨w.1.fr A.1 (fun j _ _ => e3 150 j (by decide) (by decide) (by decide)), fun r hr => (e3 151 r (by decide) (by decide) (by decide)).trans (w.2.1 r hr), fun p hp => (e3 151 _ (by decide) (by decide) (by decide)).trans (w.2.2.1 p hp), (e3 151 14 (by decide) (by decide) (by decide)).trans w.2.2.2⟩
            have Im1 : ∀ X, jIm Z X h → jIm Z X h1 := fun X w => ⟨w.1.fr A.1 (fun j _ _ => g1.2.1 150 j rfl), fun r hr => (g1.2.1 151 r rfl).trans (w.2.1 r hr), fun p hp => (g1.2.1 151 _ rfl).trans (w.2.2.1 p hp), (g1.2.1 151 14 rfl).trans w.2.2.2⟩
            have kT2 : kTx 24 Z h2 := Cl.1.fr (fun i k i1 i2 => (ecl i k (by omega) (by omega) (by omega)).trans ((vKeep.of y rfl : vKeep vL624 h h1) i k (scell_in (vL6_24 i (by omega) (by omega)))))
            exact ⟨vR1_0 e0 e1_, 24, Z, Y, n, UU, En, Or.inr ⟨rfl, ((g2.2.2 2 1 rfl).trans (y.2 2 1 rfl)).trans rr1, ((g2.2.2 2 2 rfl).trans (y.2 2 2 rfl)).trans rr2⟩, P, ⟨kT2, Cl.2.1.fr ((((vKeep.of y (by decide +kernel)) : vKeep vLw48 _ _)).tr ((vKeep.of g2.2 (by decide +kernel)) : vKeep vLw48 _ _)) ((g2.2.2 48 0 rfl).trans (y.2 48 0 rfl)), Cl.2.2.fr ((((vKeep.of y (by decide +kernel)) : vKeep vLp _ _)).tr ((vKeep.of g2.2 (by decide +kernel)) : vKeep vLp _ _))⟩, ⟨jK2, jHf.ag ag g2.1.1 g3.1.1 A.1 (j0.2.1.o (fun c k c1 c2 => e3 c k (by omega) (by omega) (by omega))), jY.ag ag g2.1.1 g3.1.1 A.1 ⟨fun r hr => (e3 134 _ (by decide) (by decide) (by decide)).trans (j0.2.2.1.1 r hr), fun p hp => (e3 137 _ (by decide) (by decide) (by decide)).trans (j0.2.2.1.2 p hp)⟩, jPa.ag ag g2.1.1 g3.1.1 A.1 n20 (j0.2.2.2.o A.1 (fun k => e3 149 k (by decide) (by decide) (by decide)) (t.1 104 76 rfl))⟩, ⟨(g2.2.1 2 6 rfl).trans ((y.1 2 6 rfl).trans (Im.1.trans ((g1.2.1 104 78 rfl).symm.trans ((t.1 104 78 rfl).symm.trans a78.symm)))), fun z => by obtain ⟨X, x1, x2, x3, x4⟩ := Im.2 (fun w => z ((g2.2.1 2 6 rfl).trans ((y.1 2 6 rfl).trans w))); exact ⟨X, x1, x2, x3.fr ((((vKeep.of y (by decide +kernel)) : vKeep vLw70 _ _)).tr ((vKeep.of g2.2 (by decide +kernel)) : vKeep vLw70 _ _)) ((g2.2.2 70 0 rfl).trans (y.2 70 0 rfl)), i150 X (Im1 X x4)⟩⟩⟩
        refine XB_path (sc := some (Ls, xs)) (inl := []) (n := 80) (sp := [23]) (o := []) (xin_ok rfl) (Or.inr rfl) rfl rfl (Nat.le_trans (Nat.le_of_eq g2.1.2.2.2.1) hN) (Nat.le_trans (Nat.le_of_eq g2.1.2.2.2.2) hU) trivial ?_
        show XB l Ls xs 14 538 false 288 N U F 23 [xf 50 1, xf 12 2, xf 13 104, xf 40001 152, xi (i + Int32.ofInt (6)), x5, x6] [] h2
        exact k h2 (x5) (x6) ⟨g2.1, RT⟩
set_option maxRecDepth 100000 in
set_option maxHeartbeats 4000000 in
theorem lw_c2 (l : Launch) (Ls : Nat) (xs : Nat → Int32) (N U : Nat) (F : List XV → XH → Prop) (i : Int32) (x5 x6 : XV) (h : XH) (H : vLw h) (i0 : 0 ≤ i.toInt) (i1 : i.toInt + 6 ≤ Ls) (hL : Ls ≤ 3072) (eL : (Int32.ofNat Ls - (Int32.ofInt (6))).toInt = Ls - 6) (hN : 153 ≤ N) (hU : 6051 ≤ U) (hc : (xs (i).toNatClampNeg &&& (Int32.ofInt (63))).toInt = 2) (k : ∀ h' x5' x6', vLw h' → XB l Ls xs 14 538 false 288 N U F 23 [xf 50 1, xf 12 2, xf 13 104, xf 40001 152, xi (i + (Int32.ofInt (6))), x5', x6'] [] h') : XB l Ls xs 14 538 false 288 N U F 23 [xf 50 1, xf 12 2, xf 13 104, xf 40001 152, xi i, x5, x6] [] h := by
  have e1 : (i + (Int32.ofInt (1))).toInt = i.toInt + 1 := by rw [Int32.toInt_add, show (Int32.ofInt (1)).toInt = 1 from rfl]; exact Int.bmod_eq_of_le (by omega) (by omega)
  have e2 : (i + (Int32.ofInt (2))).toInt = i.toInt + 2 := by rw [Int32.toInt_add, show (Int32.ofInt (2)).toInt = 2 from rfl]; exact Int.bmod_eq_of_le (by omega) (by omega)
  have e3 : (i + (Int32.ofInt (3))).toInt = i.toInt + 3 := by rw [Int32.toInt_add, show (Int32.ofInt (3)).toInt = 3 from rfl]; exact Int.bmod_eq_of_le (by omega) (by omega)
  have e4 : (i + (Int32.ofInt (4))).toInt = i.toInt + 4 := by rw [Int32.toInt_add, show (Int32.ofInt (4)).toInt = 4 from rfl]; exact Int.bmod_eq_of_le (by omega) (by omega)
  have e5 : (i + (Int32.ofInt (5))).toInt = i.toInt + 5 := by rw [Int32.toInt_add, show (Int32.ofInt (5)).toInt = 5 from rfl]; exact Int.bmod_eq_of_le (by omega) (by omega)
  have hg := H.1
  have R0 := H.2
  refine XB_path (sc := some (Ls, xs)) (inl := []) (n := 80) (sp := [305]) (o := [0, 3]) (xin_ok rfl) (Or.inr rfl) rfl rfl (Nat.le_trans (Nat.le_of_eq hg.2.2.2.1) hN) (Nat.le_trans (Nat.le_of_eq hg.2.2.2.2) hU) ⟨⟨⟨⟨trivial, (fun z => absurd (Int32.lt_iff_toInt_lt.mp z) (by omega))⟩, (vp_of (i := i) (n := Ls) (by omega) (by omega))⟩, ⟨hc, by decide⟩⟩, (vp_of (i := (i + (Int32.ofInt (1)))) (n := Ls) (by omega) (by omega))⟩ ?_
  show XB l Ls xs 14 538 false 288 N U F 305 [xf 50 1, xf 12 2, xf 13 104, xf 40001 152, xi i, x5, x6] [xi (xs ((i + (Int32.ofInt (1)))).toNatClampNeg), xf 12 2] h
  obtain ⟨v1, h1, cc1, g1, f1, -⟩ := vl_69 l ((xs ((i + (Int32.ofInt (1)))).toNatClampNeg)) h hg (i32r_of _)
  refine XB_call (i := .invokevirtual 69) (aux := 2) (nx := 308) (K := 69) (vs := [xf 12 2, xi (xs ((i + (Int32.ofInt (1)))).toNatClampNeg)]) (rs := [xi v1]) (rest := []) rfl rfl rfl rfl rfl rfl cc1 (by decide) (by decide) (Nat.le_of_ble_eq_true rfl) ⟨Nat.le_trans (Nat.le_of_eq g1.2.2.2.1) hN, Nat.le_trans (Nat.le_of_eq g1.2.2.2.2) hU⟩ ?_
  show XB l Ls xs 14 538 false 288 N U F 308 [xf 50 1, xf 12 2, xf 13 104, xf 40001 152, xi i, x5, x6] [xi v1] h1
  have R1 := R0.fr hg.1 f1 (by decide +kernel) (by decide +kernel) rfl rfl rfl rfl
  refine XB_path (sc := some (Ls, xs)) (inl := []) (n := 80) (sp := [316]) (o := []) (xin_ok rfl) (Or.inr rfl) rfl rfl (Nat.le_trans (Nat.le_of_eq g1.2.2.2.1) hN) (Nat.le_trans (Nat.le_of_eq g1.2.2.2.2) hU) ⟨trivial, (vp_of (i := (i + (Int32.ofInt (1)))) (n := Ls) (by omega) (by omega))⟩ ?_
  show XB l Ls xs 14 538 false 288 N U F 316 [xf 50 1, xf 12 2, xf 13 104, xf 40001 152, xi i, x5, x6] [xi (xs ((i + (Int32.ofInt (1)))).toNatClampNeg), xf 13 104] h1
  obtain ⟨v2, h2, cc2, g2, f2, -⟩ := vl_211 l ((xs ((i + (Int32.ofInt (1)))).toNatClampNeg)) h1 g1 (i32r_of _)
  refine XB_call (i := .invokevirtual 211) (aux := 2) (nx := 319) (K := 211) (vs := [xf 13 104, xi (xs ((i + (Int32.ofInt (1)))).toNatClampNeg)]) (rs := [xi v2]) (rest := []) rfl rfl rfl rfl rfl rfl cc2 (by decide) (by decide) (Nat.le_of_ble_eq_true rfl) ⟨Nat.le_trans (Nat.le_of_eq g2.2.2.2.1) hN, Nat.le_trans (Nat.le_of_eq g2.2.2.2.2) hU⟩ ?_
  show XB l Ls xs 14 538 false 288 N U F 319 [xf 50 1, xf 12 2, xf 13 104, xf 40001 152, xi i, x5, x6] [xi v2] h2
  have R2 := R1.fr g1.1 f2 (by decide +kernel) (by decide +kernel) rfl rfl rfl rfl
  refine XB_path (sc := some (Ls, xs)) (inl := []) (n := 80) (sp := [23]) (o := []) (xin_ok rfl) (Or.inr rfl) rfl rfl (Nat.le_trans (Nat.le_of_eq g2.2.2.2.1) hN) (Nat.le_trans (Nat.le_of_eq g2.2.2.2.2) hU) trivial ?_
  show XB l Ls xs 14 538 false 288 N U F 23 [xf 50 1, xf 12 2, xf 13 104, xf 40001 152, xi (i + Int32.ofInt (6)), x5, x6] [] h2
  exact k h2 (x5) (x6) ⟨g2, R2⟩
set_option maxRecDepth 100000 in
set_option maxHeartbeats 4000000 in
theorem lw_c3 (l : Launch) (Ls : Nat) (xs : Nat → Int32) (N U : Nat) (F : List XV → XH → Prop) (i : Int32) (x5 x6 : XV) (h : XH) (H : vLw h) (i0 : 0 ≤ i.toInt) (i1 : i.toInt + 6 ≤ Ls) (hL : Ls ≤ 3072) (eL : (Int32.ofNat Ls - (Int32.ofInt (6))).toInt = Ls - 6) (hN : 153 ≤ N) (hU : 6051 ≤ U) (hc : (xs (i).toNatClampNeg &&& (Int32.ofInt (63))).toInt = 3) (k : ∀ h' x5' x6', vLw h' → XB l Ls xs 14 538 false 288 N U F 23 [xf 50 1, xf 12 2, xf 13 104, xf 40001 152, xi (i + (Int32.ofInt (6))), x5', x6'] [] h') : XB l Ls xs 14 538 false 288 N U F 23 [xf 50 1, xf 12 2, xf 13 104, xf 40001 152, xi i, x5, x6] [] h := by
  have e1 : (i + (Int32.ofInt (1))).toInt = i.toInt + 1 := by rw [Int32.toInt_add, show (Int32.ofInt (1)).toInt = 1 from rfl]; exact Int.bmod_eq_of_le (by omega) (by omega)
  have e2 : (i + (Int32.ofInt (2))).toInt = i.toInt + 2 := by rw [Int32.toInt_add, show (Int32.ofInt (2)).toInt = 2 from rfl]; exact Int.bmod_eq_of_le (by omega) (by omega)
  have e3 : (i + (Int32.ofInt (3))).toInt = i.toInt + 3 := by rw [Int32.toInt_add, show (Int32.ofInt (3)).toInt = 3 from rfl]; exact Int.bmod_eq_of_le (by omega) (by omega)
  have e4 : (i + (Int32.ofInt (4))).toInt = i.toInt + 4 := by rw [Int32.toInt_add, show (Int32.ofInt (4)).toInt = 4 from rfl]; exact Int.bmod_eq_of_le (by omega) (by omega)
  have e5 : (i + (Int32.ofInt (5))).toInt = i.toInt + 5 := by rw [Int32.toInt_add, show (Int32.ofInt (5)).toInt = 5 from rfl]; exact Int.bmod_eq_of_le (by omega) (by omega)
  have hg := H.1
  have R0 := H.2
  refine XB_path (sc := some (Ls, xs)) (inl := []) (n := 80) (sp := [336]) (o := [0, 4]) (xin_ok rfl) (Or.inr rfl) rfl rfl (Nat.le_trans (Nat.le_of_eq hg.2.2.2.1) hN) (Nat.le_trans (Nat.le_of_eq hg.2.2.2.2) hU) ⟨⟨⟨⟨⟨trivial, (fun z => absurd (Int32.lt_iff_toInt_lt.mp z) (by omega))⟩, (vp_of (i := i) (n := Ls) (by omega) (by omega))⟩, ⟨hc, by decide⟩⟩, (vp_of (i := (i + (Int32.ofInt (1)))) (n := Ls) (by omega) (by omega))⟩, (vp_of (i := (i + (Int32.ofInt (2)))) (n := Ls) (by omega) (by omega))⟩ ?_
  show XB l Ls xs 14 538 false 288 N U F 336 [xf 50 1, xf 12 2, xf 13 104, xf 40001 152, xi i, x5, x6] [xi (xs ((i + (Int32.ofInt (2)))).toNatClampNeg), xi (xs ((i + (Int32.ofInt (1)))).toNatClampNeg), xf 12 2] h
  obtain ⟨v1, h1, cc1, g1, f1, -⟩ := vl_70 l ((xs ((i + (Int32.ofInt (1)))).toNatClampNeg)) ((xs ((i + (Int32.ofInt (2)))).toNatClampNeg)) h hg (i32r_of _) (i32r_of _)
  refine XB_call (i := .invokevirtual 70) (aux := 3) (nx := 339) (K := 70) (vs := [xf 12 2, xi (xs ((i + (Int32.ofInt (1)))).toNatClampNeg), xi (xs ((i + (Int32.ofInt (2)))).toNatClampNeg)]) (rs := [xi v1]) (rest := []) rfl rfl rfl rfl rfl rfl cc1 (by decide) (by decide) (Nat.le_of_ble_eq_true rfl) ⟨Nat.le_trans (Nat.le_of_eq g1.2.2.2.1) hN, Nat.le_trans (Nat.le_of_eq g1.2.2.2.2) hU⟩ ?_
  show XB l Ls xs 14 538 false 288 N U F 339 [xf 50 1, xf 12 2, xf 13 104, xf 40001 152, xi i, x5, x6] [xi v1] h1
  have R1 := R0.fr hg.1 f1 (by decide +kernel) (by decide +kernel) rfl rfl rfl rfl
  refine XB_path (sc := some (Ls, xs)) (inl := []) (n := 80) (sp := [353]) (o := []) (xin_ok rfl) (Or.inr rfl) rfl rfl (Nat.le_trans (Nat.le_of_eq g1.2.2.2.1) hN) (Nat.le_trans (Nat.le_of_eq g1.2.2.2.2) hU) ⟨⟨trivial, (vp_of (i := (i + (Int32.ofInt (1)))) (n := Ls) (by omega) (by omega))⟩, (vp_of (i := (i + (Int32.ofInt (2)))) (n := Ls) (by omega) (by omega))⟩ ?_
  show XB l Ls xs 14 538 false 288 N U F 353 [xf 50 1, xf 12 2, xf 13 104, xf 40001 152, xi i, x5, x6] [xi (xs ((i + (Int32.ofInt (2)))).toNatClampNeg), xi (xs ((i + (Int32.ofInt (1)))).toNatClampNeg), xf 13 104] h1
  obtain ⟨v2, h2, cc2, g2, f2, -⟩ := vl_212 l ((xs ((i + (Int32.ofInt (1)))).toNatClampNeg)) ((xs ((i + (Int32.ofInt (2)))).toNatClampNeg)) h1 g1 (i32r_of _) (i32r_of _)
  refine XB_call (i := .invokevirtual 212) (aux := 3) (nx := 356) (K := 212) (vs := [xf 13 104, xi (xs ((i + (Int32.ofInt (1)))).toNatClampNeg), xi (xs ((i + (Int32.ofInt (2)))).toNatClampNeg)]) (rs := [xi v2]) (rest := []) rfl rfl rfl rfl rfl rfl cc2 (by decide) (by decide) (Nat.le_of_ble_eq_true rfl) ⟨Nat.le_trans (Nat.le_of_eq g2.2.2.2.1) hN, Nat.le_trans (Nat.le_of_eq g2.2.2.2.2) hU⟩ ?_
  show XB l Ls xs 14 538 false 288 N U F 356 [xf 50 1, xf 12 2, xf 13 104, xf 40001 152, xi i, x5, x6] [xi v2] h2
  have R2 := R1.fr g1.1 f2 (by decide +kernel) (by decide +kernel) rfl rfl rfl rfl
  refine XB_path (sc := some (Ls, xs)) (inl := []) (n := 80) (sp := [23]) (o := []) (xin_ok rfl) (Or.inr rfl) rfl rfl (Nat.le_trans (Nat.le_of_eq g2.2.2.2.1) hN) (Nat.le_trans (Nat.le_of_eq g2.2.2.2.2) hU) trivial ?_
  show XB l Ls xs 14 538 false 288 N U F 23 [xf 50 1, xf 12 2, xf 13 104, xf 40001 152, xi (i + Int32.ofInt (6)), x5, x6] [] h2
  exact k h2 (x5) (x6) ⟨g2, R2⟩
set_option maxRecDepth 100000 in
set_option maxHeartbeats 4000000 in
theorem lw_c4 (l : Launch) (Ls : Nat) (xs : Nat → Int32) (N U : Nat) (F : List XV → XH → Prop) (i : Int32) (x5 x6 : XV) (h : XH) (H : vLw h) (i0 : 0 ≤ i.toInt) (i1 : i.toInt + 6 ≤ Ls) (hL : Ls ≤ 3072) (eL : (Int32.ofNat Ls - (Int32.ofInt (6))).toInt = Ls - 6) (hN : 153 ≤ N) (hU : 6051 ≤ U) (hc : (xs (i).toNatClampNeg &&& (Int32.ofInt (63))).toInt = 4) (k : ∀ h' x5' x6', vLw h' → XB l Ls xs 14 538 false 288 N U F 23 [xf 50 1, xf 12 2, xf 13 104, xf 40001 152, xi (i + (Int32.ofInt (6))), x5', x6'] [] h') : XB l Ls xs 14 538 false 288 (N + 1) (U + 6) F 23 [xf 50 1, xf 12 2, xf 13 104, xf 40001 152, xi i, x5, x6] [] h := by
  have e1 : (i + (Int32.ofInt (1))).toInt = i.toInt + 1 := by rw [Int32.toInt_add, show (Int32.ofInt (1)).toInt = 1 from rfl]; exact Int.bmod_eq_of_le (by omega) (by omega)
  have e2 : (i + (Int32.ofInt (2))).toInt = i.toInt + 2 := by rw [Int32.toInt_add, show (Int32.ofInt (2)).toInt = 2 from rfl]; exact Int.bmod_eq_of_le (by omega) (by omega)
  have e3 : (i + (Int32.ofInt (3))).toInt = i.toInt + 3 := by rw [Int32.toInt_add, show (Int32.ofInt (3)).toInt = 3 from rfl]; exact Int.bmod_eq_of_le (by omega) (by omega)
  have e4 : (i + (Int32.ofInt (4))).toInt = i.toInt + 4 := by rw [Int32.toInt_add, show (Int32.ofInt (4)).toInt = 4 from rfl]; exact Int.bmod_eq_of_le (by omega) (by omega)
  have e5 : (i + (Int32.ofInt (5))).toInt = i.toInt + 5 := by rw [Int32.toInt_add, show (Int32.ofInt (5)).toInt = 5 from rfl]; exact Int.bmod_eq_of_le (by omega) (by omega)
  have hg := H.1
  have R0 := H.2
  have hN1 : 153 ≤ N + 1 := by omega
  have hU1 : 6051 ≤ U + 6 := by omega
  refine XB_path (sc := some (Ls, xs)) (inl := []) (n := 80) (sp := [374]) (o := [0, 5]) (xin_ok rfl) (Or.inr rfl) rfl rfl (Nat.le_trans (Nat.le_of_eq hg.2.2.2.1) hN1) (Nat.le_trans (Nat.le_of_eq hg.2.2.2.2) hU1) ⟨⟨⟨⟨⟨trivial, (fun z => absurd (Int32.lt_iff_toInt_lt.mp z) (by omega))⟩, (vp_of (i := i) (n := Ls) (by omega) (by omega))⟩, ⟨hc, by decide⟩⟩, (vp_of (i := (i + (Int32.ofInt (1)))) (n := Ls) (by omega) (by omega))⟩, (vp_of (i := (i + (Int32.ofInt (2)))) (n := Ls) (by omega) (by omega))⟩ ?_
  show XB l Ls xs 14 538 false 288 (N + 1) (U + 6) F 374 [xf 50 1, xf 12 2, xf 13 104, xf 40001 152, xi i, x5, x6] [xf 40001 152, xi (xs ((i + (Int32.ofInt (2)))).toNatClampNeg), xi (xs ((i + (Int32.ofInt (1)))).toNatClampNeg), xf 12 2] h
  obtain ⟨r, h1, X1, gp, M1⟩ := vh_lperson l (xs ((i + (Int32.ofInt (1)))).toNatClampNeg) (xs ((i + (Int32.ofInt (2)))).toNatClampNeg) h hg
  refine XB_person (N' := N) (U' := U) (r := r) (h' := h1) X1 ⟨gp.1.2.2.2.1.trans hg.2.2.2.1.symm, gp.1.2.2.2.2.trans hg.2.2.2.2.symm⟩ rfl ⟨Nat.le_refl _, Nat.le_refl _⟩ ⟨Nat.le_trans (Nat.le_of_eq hg.2.2.2.1) hN, Nat.le_trans (Nat.le_of_eq hg.2.2.2.2) hU⟩ M1 ?_
  show XB l Ls xs 14 538 false 288 N U F 377 [xf 50 1, xf 12 2, xf 13 104, xf 40001 152, xi i, x5, x6] [xi r] h1
  have RP := R0.fr hg.1 gp.2 (by decide +kernel) (by decide +kernel) rfl rfl rfl rfl
  refine XB_path (sc := some (Ls, xs)) (inl := []) (n := 80) (sp := [392]) (o := []) (xin_ok rfl) (Or.inr rfl) rfl rfl (Nat.le_trans (Nat.le_of_eq gp.1.2.2.2.1) hN) (Nat.le_trans (Nat.le_of_eq gp.1.2.2.2.2) hU) ⟨⟨trivial, (vp_of (i := (i + (Int32.ofInt (1)))) (n := Ls) (by omega) (by omega))⟩, (vp_of (i := (i + (Int32.ofInt (2)))) (n := Ls) (by omega) (by omega))⟩ ?_
  show XB l Ls xs 14 538 false 288 N U F 392 [xf 50 1, xf 12 2, xf 13 104, xf 40001 152, xi i, xi r, x6] [xi (xs ((i + (Int32.ofInt (2)))).toNatClampNeg), xi (xs ((i + (Int32.ofInt (1)))).toNatClampNeg), xf 13 104] h1
  obtain ⟨v1, h2, cc1, g1, f1, -⟩ := vl_213 l ((xs ((i + (Int32.ofInt (1)))).toNatClampNeg)) ((xs ((i + (Int32.ofInt (2)))).toNatClampNeg)) h1 gp.1 (i32r_of _) (i32r_of _)
  refine XB_call (i := .invokevirtual 213) (aux := 3) (nx := 395) (K := 213) (vs := [xf 13 104, xi (xs ((i + (Int32.ofInt (1)))).toNatClampNeg), xi (xs ((i + (Int32.ofInt (2)))).toNatClampNeg)]) (rs := [xi v1]) (rest := []) rfl rfl rfl rfl rfl rfl cc1 (by decide) (by decide) (Nat.le_of_ble_eq_true rfl) ⟨Nat.le_trans (Nat.le_of_eq g1.2.2.2.1) hN, Nat.le_trans (Nat.le_of_eq g1.2.2.2.2) hU⟩ ?_
  show XB l Ls xs 14 538 false 288 N U F 395 [xf 50 1, xf 12 2, xf 13 104, xf 40001 152, xi i, xi r, x6] [xi v1] h2
  have R1 := RP.fr gp.1.1 f1 (by decide +kernel) (by decide +kernel) rfl rfl rfl rfl
  refine XB_path (sc := some (Ls, xs)) (inl := []) (n := 80) (sp := [23]) (o := []) (xin_ok rfl) (Or.inr rfl) rfl rfl (Nat.le_trans (Nat.le_of_eq g1.2.2.2.1) hN) (Nat.le_trans (Nat.le_of_eq g1.2.2.2.2) hU) trivial ?_
  show XB l Ls xs 14 538 false 288 N U F 23 [xf 50 1, xf 12 2, xf 13 104, xf 40001 152, xi (i + Int32.ofInt (6)), xi r, xi v1] [] h2
  exact k h2 (xi r) (xi v1) ⟨g1, R1⟩
set_option maxRecDepth 100000 in
set_option maxHeartbeats 4000000 in
theorem lw_c5 (l : Launch) (Ls : Nat) (xs : Nat → Int32) (N U : Nat) (F : List XV → XH → Prop) (i : Int32) (x5 x6 : XV) (h : XH) (H : vLw h) (i0 : 0 ≤ i.toInt) (i1 : i.toInt + 6 ≤ Ls) (hL : Ls ≤ 3072) (eL : (Int32.ofNat Ls - (Int32.ofInt (6))).toInt = Ls - 6) (hN : 153 ≤ N) (hU : 6051 ≤ U) (hc : (xs (i).toNatClampNeg &&& (Int32.ofInt (63))).toInt = 5) (k : ∀ h' x5' x6', vLw h' → XB l Ls xs 14 538 false 288 N U F 23 [xf 50 1, xf 12 2, xf 13 104, xf 40001 152, xi (i + (Int32.ofInt (6))), x5', x6'] [] h') : XB l Ls xs 14 538 false 288 N U F 23 [xf 50 1, xf 12 2, xf 13 104, xf 40001 152, xi i, x5, x6] [] h := by
  have e1 : (i + (Int32.ofInt (1))).toInt = i.toInt + 1 := by rw [Int32.toInt_add, show (Int32.ofInt (1)).toInt = 1 from rfl]; exact Int.bmod_eq_of_le (by omega) (by omega)
  have e2 : (i + (Int32.ofInt (2))).toInt = i.toInt + 2 := by rw [Int32.toInt_add, show (Int32.ofInt (2)).toInt = 2 from rfl]; exact Int.bmod_eq_of_le (by omega) (by omega)
  have e3 : (i + (Int32.ofInt (3))).toInt = i.toInt + 3 := by rw [Int32.toInt_add, show (Int32.ofInt (3)).toInt = 3 from rfl]; exact Int.bmod_eq_of_le (by omega) (by omega)
  have e4 : (i + (Int32.ofInt (4))).toInt = i.toInt + 4 := by rw [Int32.toInt_add, show (Int32.ofInt (4)).toInt = 4 from rfl]; exact Int.bmod_eq_of_le (by omega) (by omega)
  have e5 : (i + (Int32.ofInt (5))).toInt = i.toInt + 5 := by rw [Int32.toInt_add, show (Int32.ofInt (5)).toInt = 5 from rfl]; exact Int.bmod_eq_of_le (by omega) (by omega)
  have hg := H.1
  have R0 := H.2
  refine XB_path (sc := some (Ls, xs)) (inl := []) (n := 80) (sp := [413]) (o := [0, 6]) (xin_ok rfl) (Or.inr rfl) rfl rfl (Nat.le_trans (Nat.le_of_eq hg.2.2.2.1) hN) (Nat.le_trans (Nat.le_of_eq hg.2.2.2.2) hU) ⟨⟨⟨⟨⟨trivial, (fun z => absurd (Int32.lt_iff_toInt_lt.mp z) (by omega))⟩, (vp_of (i := i) (n := Ls) (by omega) (by omega))⟩, ⟨hc, by decide⟩⟩, (vp_of (i := (i + (Int32.ofInt (1)))) (n := Ls) (by omega) (by omega))⟩, (vp_of (i := (i + (Int32.ofInt (2)))) (n := Ls) (by omega) (by omega))⟩ ?_
  show XB l Ls xs 14 538 false 288 N U F 413 [xf 50 1, xf 12 2, xf 13 104, xf 40001 152, xi i, x5, x6] [xi (xs ((i + (Int32.ofInt (2)))).toNatClampNeg), xi (xs ((i + (Int32.ofInt (1)))).toNatClampNeg), xf 12 2] h
  obtain ⟨v1, h1, cc1, g1, f1, -⟩ := vl_71 l ((xs ((i + (Int32.ofInt (1)))).toNatClampNeg)) ((xs ((i + (Int32.ofInt (2)))).toNatClampNeg)) h hg (i32r_of _) (i32r_of _)
  refine XB_call (i := .invokevirtual 71) (aux := 3) (nx := 416) (K := 71) (vs := [xf 12 2, xi (xs ((i + (Int32.ofInt (1)))).toNatClampNeg), xi (xs ((i + (Int32.ofInt (2)))).toNatClampNeg)]) (rs := [xi v1]) (rest := []) rfl rfl rfl rfl rfl rfl cc1 (by decide) (by decide) (Nat.le_of_ble_eq_true rfl) ⟨Nat.le_trans (Nat.le_of_eq g1.2.2.2.1) hN, Nat.le_trans (Nat.le_of_eq g1.2.2.2.2) hU⟩ ?_
  show XB l Ls xs 14 538 false 288 N U F 416 [xf 50 1, xf 12 2, xf 13 104, xf 40001 152, xi i, x5, x6] [xi v1] h1
  have R1 := R0.fr hg.1 f1 (by decide +kernel) (by decide +kernel) rfl rfl rfl rfl
  refine XB_path (sc := some (Ls, xs)) (inl := []) (n := 80) (sp := [430]) (o := []) (xin_ok rfl) (Or.inr rfl) rfl rfl (Nat.le_trans (Nat.le_of_eq g1.2.2.2.1) hN) (Nat.le_trans (Nat.le_of_eq g1.2.2.2.2) hU) ⟨⟨trivial, (vp_of (i := (i + (Int32.ofInt (1)))) (n := Ls) (by omega) (by omega))⟩, (vp_of (i := (i + (Int32.ofInt (2)))) (n := Ls) (by omega) (by omega))⟩ ?_
  show XB l Ls xs 14 538 false 288 N U F 430 [xf 50 1, xf 12 2, xf 13 104, xf 40001 152, xi i, x5, x6] [xi (xs ((i + (Int32.ofInt (2)))).toNatClampNeg), xi (xs ((i + (Int32.ofInt (1)))).toNatClampNeg), xf 13 104] h1
  obtain ⟨v2, h2, cc2, g2, f2, -⟩ := vl_230 l ((xs ((i + (Int32.ofInt (1)))).toNatClampNeg)) ((xs ((i + (Int32.ofInt (2)))).toNatClampNeg)) h1 g1 (i32r_of _) (i32r_of _)
  refine XB_call (i := .invokevirtual 230) (aux := 3) (nx := 433) (K := 230) (vs := [xf 13 104, xi (xs ((i + (Int32.ofInt (1)))).toNatClampNeg), xi (xs ((i + (Int32.ofInt (2)))).toNatClampNeg)]) (rs := [xi v2]) (rest := []) rfl rfl rfl rfl rfl rfl cc2 (by decide) (by decide) (Nat.le_of_ble_eq_true rfl) ⟨Nat.le_trans (Nat.le_of_eq g2.2.2.2.1) hN, Nat.le_trans (Nat.le_of_eq g2.2.2.2.2) hU⟩ ?_
  show XB l Ls xs 14 538 false 288 N U F 433 [xf 50 1, xf 12 2, xf 13 104, xf 40001 152, xi i, x5, x6] [xi v2] h2
  have R2 := R1.fr g1.1 f2 (by decide +kernel) (by decide +kernel) rfl rfl rfl rfl
  refine XB_path (sc := some (Ls, xs)) (inl := []) (n := 80) (sp := [23]) (o := []) (xin_ok rfl) (Or.inr rfl) rfl rfl (Nat.le_trans (Nat.le_of_eq g2.2.2.2.1) hN) (Nat.le_trans (Nat.le_of_eq g2.2.2.2.2) hU) trivial ?_
  show XB l Ls xs 14 538 false 288 N U F 23 [xf 50 1, xf 12 2, xf 13 104, xf 40001 152, xi (i + Int32.ofInt (6)), x5, x6] [] h2
  exact k h2 (x5) (x6) ⟨g2, R2⟩
set_option maxRecDepth 100000 in
set_option maxHeartbeats 4000000 in
theorem lw_c6 (l : Launch) (Ls : Nat) (xs : Nat → Int32) (N U : Nat) (F : List XV → XH → Prop) (i : Int32) (x5 x6 : XV) (h : XH) (H : vLw h) (i0 : 0 ≤ i.toInt) (i1 : i.toInt + 6 ≤ Ls) (hL : Ls ≤ 3072) (eL : (Int32.ofNat Ls - (Int32.ofInt (6))).toInt = Ls - 6) (hN : 153 ≤ N) (hU : 6051 ≤ U) (hc : (xs (i).toNatClampNeg &&& (Int32.ofInt (63))).toInt = 6) (k : ∀ h' x5' x6', vLw h' → XB l Ls xs 14 538 false 288 N U F 23 [xf 50 1, xf 12 2, xf 13 104, xf 40001 152, xi (i + (Int32.ofInt (6))), x5', x6'] [] h') : XB l Ls xs 14 538 false 288 N U F 23 [xf 50 1, xf 12 2, xf 13 104, xf 40001 152, xi i, x5, x6] [] h := by
  have e1 : (i + (Int32.ofInt (1))).toInt = i.toInt + 1 := by rw [Int32.toInt_add, show (Int32.ofInt (1)).toInt = 1 from rfl]; exact Int.bmod_eq_of_le (by omega) (by omega)
  have e2 : (i + (Int32.ofInt (2))).toInt = i.toInt + 2 := by rw [Int32.toInt_add, show (Int32.ofInt (2)).toInt = 2 from rfl]; exact Int.bmod_eq_of_le (by omega) (by omega)
  have e3 : (i + (Int32.ofInt (3))).toInt = i.toInt + 3 := by rw [Int32.toInt_add, show (Int32.ofInt (3)).toInt = 3 from rfl]; exact Int.bmod_eq_of_le (by omega) (by omega)
  have e4 : (i + (Int32.ofInt (4))).toInt = i.toInt + 4 := by rw [Int32.toInt_add, show (Int32.ofInt (4)).toInt = 4 from rfl]; exact Int.bmod_eq_of_le (by omega) (by omega)
  have e5 : (i + (Int32.ofInt (5))).toInt = i.toInt + 5 := by rw [Int32.toInt_add, show (Int32.ofInt (5)).toInt = 5 from rfl]; exact Int.bmod_eq_of_le (by omega) (by omega)
  have hg := H.1
  have R0 := H.2
  refine XB_path (sc := some (Ls, xs)) (inl := []) (n := 80) (sp := [456]) (o := [0, 7]) (xin_ok rfl) (Or.inr rfl) rfl rfl (Nat.le_trans (Nat.le_of_eq hg.2.2.2.1) hN) (Nat.le_trans (Nat.le_of_eq hg.2.2.2.2) hU) ⟨⟨⟨⟨⟨⟨trivial, (fun z => absurd (Int32.lt_iff_toInt_lt.mp z) (by omega))⟩, (vp_of (i := i) (n := Ls) (by omega) (by omega))⟩, ⟨hc, by decide⟩⟩, (vp_of (i := (i + (Int32.ofInt (1)))) (n := Ls) (by omega) (by omega))⟩, (vp_of (i := (i + (Int32.ofInt (2)))) (n := Ls) (by omega) (by omega))⟩, (vp_of (i := (i + (Int32.ofInt (3)))) (n := Ls) (by omega) (by omega))⟩ ?_
  show XB l Ls xs 14 538 false 288 N U F 456 [xf 50 1, xf 12 2, xf 13 104, xf 40001 152, xi i, x5, x6] [xi (xs ((i + (Int32.ofInt (3)))).toNatClampNeg), xi (xs ((i + (Int32.ofInt (2)))).toNatClampNeg), xi (xs ((i + (Int32.ofInt (1)))).toNatClampNeg), xf 12 2] h
  obtain ⟨v1, h1, cc1, g1, f1, -⟩ := vl_83 l ((xs ((i + (Int32.ofInt (1)))).toNatClampNeg)) ((xs ((i + (Int32.ofInt (2)))).toNatClampNeg)) ((xs ((i + (Int32.ofInt (3)))).toNatClampNeg)) h hg (i32r_of _) (i32r_of _) (i32r_of _)
  refine XB_call (i := .invokevirtual 83) (aux := 4) (nx := 459) (K := 83) (vs := [xf 12 2, xi (xs ((i + (Int32.ofInt (1)))).toNatClampNeg), xi (xs ((i + (Int32.ofInt (2)))).toNatClampNeg), xi (xs ((i + (Int32.ofInt (3)))).toNatClampNeg)]) (rs := [xi v1]) (rest := []) rfl rfl rfl rfl rfl rfl cc1 (by decide) (by decide) (Nat.le_of_ble_eq_true rfl) ⟨Nat.le_trans (Nat.le_of_eq g1.2.2.2.1) hN, Nat.le_trans (Nat.le_of_eq g1.2.2.2.2) hU⟩ ?_
  show XB l Ls xs 14 538 false 288 N U F 459 [xf 50 1, xf 12 2, xf 13 104, xf 40001 152, xi i, x5, x6] [xi v1] h1
  have R1 := R0.fr hg.1 f1 (by decide +kernel) (by decide +kernel) rfl rfl rfl rfl
  refine XB_path (sc := some (Ls, xs)) (inl := []) (n := 80) (sp := [479]) (o := []) (xin_ok rfl) (Or.inr rfl) rfl rfl (Nat.le_trans (Nat.le_of_eq g1.2.2.2.1) hN) (Nat.le_trans (Nat.le_of_eq g1.2.2.2.2) hU) ⟨⟨⟨trivial, (vp_of (i := (i + (Int32.ofInt (1)))) (n := Ls) (by omega) (by omega))⟩, (vp_of (i := (i + (Int32.ofInt (2)))) (n := Ls) (by omega) (by omega))⟩, (vp_of (i := (i + (Int32.ofInt (3)))) (n := Ls) (by omega) (by omega))⟩ ?_
  show XB l Ls xs 14 538 false 288 N U F 479 [xf 50 1, xf 12 2, xf 13 104, xf 40001 152, xi i, x5, x6] [xi (xs ((i + (Int32.ofInt (3)))).toNatClampNeg), xi (xs ((i + (Int32.ofInt (2)))).toNatClampNeg), xi (xs ((i + (Int32.ofInt (1)))).toNatClampNeg), xf 13 104] h1
  obtain ⟨v2, h2, cc2, g2, f2, -⟩ := vl_235 l ((xs ((i + (Int32.ofInt (1)))).toNatClampNeg)) ((xs ((i + (Int32.ofInt (2)))).toNatClampNeg)) ((xs ((i + (Int32.ofInt (3)))).toNatClampNeg)) h1 g1 (i32r_of _) (i32r_of _) (i32r_of _)
  refine XB_call (i := .invokevirtual 235) (aux := 4) (nx := 482) (K := 235) (vs := [xf 13 104, xi (xs ((i + (Int32.ofInt (1)))).toNatClampNeg), xi (xs ((i + (Int32.ofInt (2)))).toNatClampNeg), xi (xs ((i + (Int32.ofInt (3)))).toNatClampNeg)]) (rs := [xi v2]) (rest := []) rfl rfl rfl rfl rfl rfl cc2 (by decide) (by decide) (Nat.le_of_ble_eq_true rfl) ⟨Nat.le_trans (Nat.le_of_eq g2.2.2.2.1) hN, Nat.le_trans (Nat.le_of_eq g2.2.2.2.2) hU⟩ ?_
  show XB l Ls xs 14 538 false 288 N U F 482 [xf 50 1, xf 12 2, xf 13 104, xf 40001 152, xi i, x5, x6] [xi v2] h2
  have R2 := R1.fr g1.1 f2 (by decide +kernel) (by decide +kernel) rfl rfl rfl rfl
  refine XB_path (sc := some (Ls, xs)) (inl := []) (n := 80) (sp := [23]) (o := []) (xin_ok rfl) (Or.inr rfl) rfl rfl (Nat.le_trans (Nat.le_of_eq g2.2.2.2.1) hN) (Nat.le_trans (Nat.le_of_eq g2.2.2.2.2) hU) trivial ?_
  show XB l Ls xs 14 538 false 288 N U F 23 [xf 50 1, xf 12 2, xf 13 104, xf 40001 152, xi (i + Int32.ofInt (6)), x5, x6] [] h2
  exact k h2 (x5) (x6) ⟨g2, R2⟩
set_option maxRecDepth 100000 in
set_option maxHeartbeats 4000000 in
theorem lw_c7 (l : Launch) (Ls : Nat) (xs : Nat → Int32) (N U : Nat) (F : List XV → XH → Prop) (i : Int32) (x5 x6 : XV) (h : XH) (H : vLw h) (i0 : 0 ≤ i.toInt) (i1 : i.toInt + 6 ≤ Ls) (hL : Ls ≤ 3072) (eL : (Int32.ofNat Ls - (Int32.ofInt (6))).toInt = Ls - 6) (hN : 153 ≤ N) (hU : 6051 ≤ U) (hc : (xs (i).toNatClampNeg &&& (Int32.ofInt (63))).toInt = 7) (k : ∀ h' x5' x6', vLw h' → XB l Ls xs 14 538 false 288 N U F 23 [xf 50 1, xf 12 2, xf 13 104, xf 40001 152, xi (i + (Int32.ofInt (6))), x5', x6'] [] h') : XB l Ls xs 14 538 false 288 N U F 23 [xf 50 1, xf 12 2, xf 13 104, xf 40001 152, xi i, x5, x6] [] h := by
  have e1 : (i + (Int32.ofInt (1))).toInt = i.toInt + 1 := by rw [Int32.toInt_add, show (Int32.ofInt (1)).toInt = 1 from rfl]; exact Int.bmod_eq_of_le (by omega) (by omega)
  have e2 : (i + (Int32.ofInt (2))).toInt = i.toInt + 2 := by rw [Int32.toInt_add, show (Int32.ofInt (2)).toInt = 2 from rfl]; exact Int.bmod_eq_of_le (by omega) (by omega)
  have e3 : (i + (Int32.ofInt (3))).toInt = i.toInt + 3 := by rw [Int32.toInt_add, show (Int32.ofInt (3)).toInt = 3 from rfl]; exact Int.bmod_eq_of_le (by omega) (by omega)
  have e4 : (i + (Int32.ofInt (4))).toInt = i.toInt + 4 := by rw [Int32.toInt_add, show (Int32.ofInt (4)).toInt = 4 from rfl]; exact Int.bmod_eq_of_le (by omega) (by omega)
  have e5 : (i + (Int32.ofInt (5))).toInt = i.toInt + 5 := by rw [Int32.toInt_add, show (Int32.ofInt (5)).toInt = 5 from rfl]; exact Int.bmod_eq_of_le (by omega) (by omega)
  have hg := H.1
  have R0 := H.2
  refine XB_path (sc := some (Ls, xs)) (inl := []) (n := 80) (sp := [499]) (o := [0, 8]) (xin_ok rfl) (Or.inr rfl) rfl rfl (Nat.le_trans (Nat.le_of_eq hg.2.2.2.1) hN) (Nat.le_trans (Nat.le_of_eq hg.2.2.2.2) hU) ⟨⟨⟨⟨⟨trivial, (fun z => absurd (Int32.lt_iff_toInt_lt.mp z) (by omega))⟩, (vp_of (i := i) (n := Ls) (by omega) (by omega))⟩, ⟨hc, by decide⟩⟩, (vp_of (i := (i + (Int32.ofInt (1)))) (n := Ls) (by omega) (by omega))⟩, (vp_of (i := (i + (Int32.ofInt (2)))) (n := Ls) (by omega) (by omega))⟩ ?_
  show XB l Ls xs 14 538 false 288 N U F 499 [xf 50 1, xf 12 2, xf 13 104, xf 40001 152, xi i, x5, x6] [xi (xs ((i + (Int32.ofInt (2)))).toNatClampNeg), xi (xs ((i + (Int32.ofInt (1)))).toNatClampNeg), xf 12 2] h
  obtain ⟨v1, h1, cc1, g1, f1, -⟩ := vl_84 l ((xs ((i + (Int32.ofInt (1)))).toNatClampNeg)) ((xs ((i + (Int32.ofInt (2)))).toNatClampNeg)) h hg (i32r_of _) (i32r_of _)
  refine XB_call (i := .invokevirtual 84) (aux := 3) (nx := 502) (K := 84) (vs := [xf 12 2, xi (xs ((i + (Int32.ofInt (1)))).toNatClampNeg), xi (xs ((i + (Int32.ofInt (2)))).toNatClampNeg)]) (rs := [xi v1]) (rest := []) rfl rfl rfl rfl rfl rfl cc1 (by decide) (by decide) (Nat.le_of_ble_eq_true rfl) ⟨Nat.le_trans (Nat.le_of_eq g1.2.2.2.1) hN, Nat.le_trans (Nat.le_of_eq g1.2.2.2.2) hU⟩ ?_
  show XB l Ls xs 14 538 false 288 N U F 502 [xf 50 1, xf 12 2, xf 13 104, xf 40001 152, xi i, x5, x6] [xi v1] h1
  have R1 := R0.fr hg.1 f1 (by decide +kernel) (by decide +kernel) rfl rfl rfl rfl
  refine XB_path (sc := some (Ls, xs)) (inl := []) (n := 80) (sp := [516]) (o := []) (xin_ok rfl) (Or.inr rfl) rfl rfl (Nat.le_trans (Nat.le_of_eq g1.2.2.2.1) hN) (Nat.le_trans (Nat.le_of_eq g1.2.2.2.2) hU) ⟨⟨trivial, (vp_of (i := (i + (Int32.ofInt (1)))) (n := Ls) (by omega) (by omega))⟩, (vp_of (i := (i + (Int32.ofInt (2)))) (n := Ls) (by omega) (by omega))⟩ ?_
  show XB l Ls xs 14 538 false 288 N U F 516 [xf 50 1, xf 12 2, xf 13 104, xf 40001 152, xi i, x5, x6] [xi (xs ((i + (Int32.ofInt (2)))).toNatClampNeg), xi (xs ((i + (Int32.ofInt (1)))).toNatClampNeg), xf 13 104] h1
  obtain ⟨v2, h2, cc2, g2, f2, -⟩ := vl_236 l ((xs ((i + (Int32.ofInt (1)))).toNatClampNeg)) ((xs ((i + (Int32.ofInt (2)))).toNatClampNeg)) h1 g1 (i32r_of _) (i32r_of _)
  refine XB_call (i := .invokevirtual 236) (aux := 3) (nx := 519) (K := 236) (vs := [xf 13 104, xi (xs ((i + (Int32.ofInt (1)))).toNatClampNeg), xi (xs ((i + (Int32.ofInt (2)))).toNatClampNeg)]) (rs := [xi v2]) (rest := []) rfl rfl rfl rfl rfl rfl cc2 (by decide) (by decide) (Nat.le_of_ble_eq_true rfl) ⟨Nat.le_trans (Nat.le_of_eq g2.2.2.2.1) hN, Nat.le_trans (Nat.le_of_eq g2.2.2.2.2) hU⟩ ?_
  show XB l Ls xs 14 538 false 288 N U F 519 [xf 50 1, xf 12 2, xf 13 104, xf 40001 152, xi i, x5, x6] [xi v2] h2
  have R2 := R1.fr g1.1 f2 (by decide +kernel) (by decide +kernel) rfl rfl rfl rfl
  refine XB_path (sc := some (Ls, xs)) (inl := []) (n := 80) (sp := [23]) (o := []) (xin_ok rfl) (Or.inr rfl) rfl rfl (Nat.le_trans (Nat.le_of_eq g2.2.2.2.1) hN) (Nat.le_trans (Nat.le_of_eq g2.2.2.2.2) hU) trivial ?_
  show XB l Ls xs 14 538 false 288 N U F 23 [xf 50 1, xf 12 2, xf 13 104, xf 40001 152, xi (i + Int32.ofInt (6)), x5, x6] [] h2
  exact k h2 (x5) (x6) ⟨g2, R2⟩
set_option maxRecDepth 100000 in
set_option maxHeartbeats 4000000 in
theorem lw_c8 (l : Launch) (Ls : Nat) (xs : Nat → Int32) (N U : Nat) (F : List XV → XH → Prop) (i : Int32) (x5 x6 : XV) (h : XH) (H : vLw h) (i0 : 0 ≤ i.toInt) (i1 : i.toInt + 6 ≤ Ls) (hL : Ls ≤ 3072) (eL : (Int32.ofNat Ls - (Int32.ofInt (6))).toInt = Ls - 6) (hN : 153 ≤ N) (hU : 6051 ≤ U) (hc : (xs (i).toNatClampNeg &&& (Int32.ofInt (63))).toInt = 8) (k : ∀ h' x5' x6', vLw h' → XB l Ls xs 14 538 false 288 N U F 23 [xf 50 1, xf 12 2, xf 13 104, xf 40001 152, xi (i + (Int32.ofInt (6))), x5', x6'] [] h') : XB l Ls xs 14 538 false 288 N U F 23 [xf 50 1, xf 12 2, xf 13 104, xf 40001 152, xi i, x5, x6] [] h := by
  have e1 : (i + (Int32.ofInt (1))).toInt = i.toInt + 1 := by rw [Int32.toInt_add, show (Int32.ofInt (1)).toInt = 1 from rfl]; exact Int.bmod_eq_of_le (by omega) (by omega)
  have e2 : (i + (Int32.ofInt (2))).toInt = i.toInt + 2 := by rw [Int32.toInt_add, show (Int32.ofInt (2)).toInt = 2 from rfl]; exact Int.bmod_eq_of_le (by omega) (by omega)
  have e3 : (i + (Int32.ofInt (3))).toInt = i.toInt + 3 := by rw [Int32.toInt_add, show (Int32.ofInt (3)).toInt = 3 from rfl]; exact Int.bmod_eq_of_le (by omega) (by omega)
  have e4 : (i + (Int32.ofInt (4))).toInt = i.toInt + 4 := by rw [Int32.toInt_add, show (Int32.ofInt (4)).toInt = 4 from rfl]; exact Int.bmod_eq_of_le (by omega) (by omega)
  have e5 : (i + (Int32.ofInt (5))).toInt = i.toInt + 5 := by rw [Int32.toInt_add, show (Int32.ofInt (5)).toInt = 5 from rfl]; exact Int.bmod_eq_of_le (by omega) (by omega)
  have hg := H.1
  have R0 := H.2
  refine XB_path (sc := some (Ls, xs)) (inl := []) (n := 80) (sp := [536]) (o := [0, 9]) (xin_ok rfl) (Or.inr rfl) rfl rfl (Nat.le_trans (Nat.le_of_eq hg.2.2.2.1) hN) (Nat.le_trans (Nat.le_of_eq hg.2.2.2.2) hU) ⟨⟨⟨⟨⟨trivial, (fun z => absurd (Int32.lt_iff_toInt_lt.mp z) (by omega))⟩, (vp_of (i := i) (n := Ls) (by omega) (by omega))⟩, ⟨hc, by decide⟩⟩, (vp_of (i := (i + (Int32.ofInt (1)))) (n := Ls) (by omega) (by omega))⟩, (vp_of (i := (i + (Int32.ofInt (2)))) (n := Ls) (by omega) (by omega))⟩ ?_
  show XB l Ls xs 14 538 false 288 N U F 536 [xf 50 1, xf 12 2, xf 13 104, xf 40001 152, xi i, x5, x6] [xi (xs ((i + (Int32.ofInt (2)))).toNatClampNeg), xi (xs ((i + (Int32.ofInt (1)))).toNatClampNeg), xf 12 2] h
  obtain ⟨v1, h1, cc1, g1, f1, -⟩ := vl_87 l ((xs ((i + (Int32.ofInt (1)))).toNatClampNeg)) ((xs ((i + (Int32.ofInt (2)))).toNatClampNeg)) h hg (i32r_of _) (i32r_of _)
  refine XB_call (i := .invokevirtual 87) (aux := 3) (nx := 539) (K := 87) (vs := [xf 12 2, xi (xs ((i + (Int32.ofInt (1)))).toNatClampNeg), xi (xs ((i + (Int32.ofInt (2)))).toNatClampNeg)]) (rs := [xl v1]) (rest := []) rfl rfl rfl rfl rfl rfl cc1 (by decide) (by decide) (Nat.le_of_ble_eq_true rfl) ⟨Nat.le_trans (Nat.le_of_eq g1.2.2.2.1) hN, Nat.le_trans (Nat.le_of_eq g1.2.2.2.2) hU⟩ ?_
  show XB l Ls xs 14 538 false 288 N U F 539 [xf 50 1, xf 12 2, xf 13 104, xf 40001 152, xi i, x5, x6] [xl v1] h1
  have R1 := R0.fr hg.1 f1 (by decide +kernel) (by decide +kernel) rfl rfl rfl rfl
  refine XB_pop2 (aux := 0) (nx := 540) rfl ?_
  show XB l Ls xs 14 538 false 288 N U F 540 [xf 50 1, xf 12 2, xf 13 104, xf 40001 152, xi i, x5, x6] [] h1
  refine XB_path (sc := some (Ls, xs)) (inl := []) (n := 80) (sp := [553]) (o := []) (xin_ok rfl) (Or.inr rfl) rfl rfl (Nat.le_trans (Nat.le_of_eq g1.2.2.2.1) hN) (Nat.le_trans (Nat.le_of_eq g1.2.2.2.2) hU) ⟨⟨trivial, (vp_of (i := (i + (Int32.ofInt (1)))) (n := Ls) (by omega) (by omega))⟩, (vp_of (i := (i + (Int32.ofInt (2)))) (n := Ls) (by omega) (by omega))⟩ ?_
  show XB l Ls xs 14 538 false 288 N U F 553 [xf 50 1, xf 12 2, xf 13 104, xf 40001 152, xi i, x5, x6] [xi (xs ((i + (Int32.ofInt (2)))).toNatClampNeg), xi (xs ((i + (Int32.ofInt (1)))).toNatClampNeg), xf 13 104] h1
  obtain ⟨v2, h2, cc2, g2, f2, -⟩ := vl_237 l ((xs ((i + (Int32.ofInt (1)))).toNatClampNeg)) ((xs ((i + (Int32.ofInt (2)))).toNatClampNeg)) h1 g1 (i32r_of _) (i32r_of _)
  refine XB_call (i := .invokevirtual 237) (aux := 3) (nx := 556) (K := 237) (vs := [xf 13 104, xi (xs ((i + (Int32.ofInt (1)))).toNatClampNeg), xi (xs ((i + (Int32.ofInt (2)))).toNatClampNeg)]) (rs := [xl v2]) (rest := []) rfl rfl rfl rfl rfl rfl cc2 (by decide) (by decide) (Nat.le_of_ble_eq_true rfl) ⟨Nat.le_trans (Nat.le_of_eq g2.2.2.2.1) hN, Nat.le_trans (Nat.le_of_eq g2.2.2.2.2) hU⟩ ?_
  show XB l Ls xs 14 538 false 288 N U F 556 [xf 50 1, xf 12 2, xf 13 104, xf 40001 152, xi i, x5, x6] [xl v2] h2
  have R2 := R1.fr g1.1 f2 (by decide +kernel) (by decide +kernel) rfl rfl rfl rfl
  refine XB_pop2 (aux := 0) (nx := 557) rfl ?_
  show XB l Ls xs 14 538 false 288 N U F 557 [xf 50 1, xf 12 2, xf 13 104, xf 40001 152, xi i, x5, x6] [] h2
  refine XB_path (sc := some (Ls, xs)) (inl := []) (n := 80) (sp := [23]) (o := []) (xin_ok rfl) (Or.inr rfl) rfl rfl (Nat.le_trans (Nat.le_of_eq g2.2.2.2.1) hN) (Nat.le_trans (Nat.le_of_eq g2.2.2.2.2) hU) trivial ?_
  show XB l Ls xs 14 538 false 288 N U F 23 [xf 50 1, xf 12 2, xf 13 104, xf 40001 152, xi (i + Int32.ofInt (6)), x5, x6] [] h2
  exact k h2 (x5) (x6) ⟨g2, R2⟩
set_option maxRecDepth 100000 in
set_option maxHeartbeats 4000000 in
theorem lw_c9 (l : Launch) (Ls : Nat) (xs : Nat → Int32) (N U : Nat) (F : List XV → XH → Prop) (i : Int32) (x5 x6 : XV) (h : XH) (H : vLw h) (i0 : 0 ≤ i.toInt) (i1 : i.toInt + 6 ≤ Ls) (hL : Ls ≤ 3072) (eL : (Int32.ofNat Ls - (Int32.ofInt (6))).toInt = Ls - 6) (hN : 153 ≤ N) (hU : 6051 ≤ U) (hc : (xs (i).toNatClampNeg &&& (Int32.ofInt (63))).toInt = 9) (k : ∀ h' x5' x6', vLw h' → XB l Ls xs 14 538 false 288 N U F 23 [xf 50 1, xf 12 2, xf 13 104, xf 40001 152, xi (i + (Int32.ofInt (6))), x5', x6'] [] h') : XB l Ls xs 14 538 false 288 N U F 23 [xf 50 1, xf 12 2, xf 13 104, xf 40001 152, xi i, x5, x6] [] h := by
  have e1 : (i + (Int32.ofInt (1))).toInt = i.toInt + 1 := by rw [Int32.toInt_add, show (Int32.ofInt (1)).toInt = 1 from rfl]; exact Int.bmod_eq_of_le (by omega) (by omega)
  have e2 : (i + (Int32.ofInt (2))).toInt = i.toInt + 2 := by rw [Int32.toInt_add, show (Int32.ofInt (2)).toInt = 2 from rfl]; exact Int.bmod_eq_of_le (by omega) (by omega)
  have e3 : (i + (Int32.ofInt (3))).toInt = i.toInt + 3 := by rw [Int32.toInt_add, show (Int32.ofInt (3)).toInt = 3 from rfl]; exact Int.bmod_eq_of_le (by omega) (by omega)
  have e4 : (i + (Int32.ofInt (4))).toInt = i.toInt + 4 := by rw [Int32.toInt_add, show (Int32.ofInt (4)).toInt = 4 from rfl]; exact Int.bmod_eq_of_le (by omega) (by omega)
  have e5 : (i + (Int32.ofInt (5))).toInt = i.toInt + 5 := by rw [Int32.toInt_add, show (Int32.ofInt (5)).toInt = 5 from rfl]; exact Int.bmod_eq_of_le (by omega) (by omega)
  have hg := H.1
  have R0 := H.2
  refine XB_path (sc := some (Ls, xs)) (inl := []) (n := 80) (sp := [573]) (o := [0, 10]) (xin_ok rfl) (Or.inr rfl) rfl rfl (Nat.le_trans (Nat.le_of_eq hg.2.2.2.1) hN) (Nat.le_trans (Nat.le_of_eq hg.2.2.2.2) hU) ⟨⟨⟨⟨⟨trivial, (fun z => absurd (Int32.lt_iff_toInt_lt.mp z) (by omega))⟩, (vp_of (i := i) (n := Ls) (by omega) (by omega))⟩, ⟨hc, by decide⟩⟩, (vp_of (i := (i + (Int32.ofInt (1)))) (n := Ls) (by omega) (by omega))⟩, (vp_of (i := (i + (Int32.ofInt (2)))) (n := Ls) (by omega) (by omega))⟩ ?_
  show XB l Ls xs 14 538 false 288 N U F 573 [xf 50 1, xf 12 2, xf 13 104, xf 40001 152, xi i, x5, x6] [xi (xs ((i + (Int32.ofInt (2)))).toNatClampNeg), xi (xs ((i + (Int32.ofInt (1)))).toNatClampNeg), xf 12 2] h
  obtain ⟨c0, Z, Y, n, UU, En, t0, P, Cl, Mo, Im⟩ := id R0.2
  obtain ⟨A, V, md, n20, un, pk⟩ := id P
  obtain ⟨B, -, -, zv, -⟩ := id A
  have B0 := B.1.2
  have B2 := B.2.2.1.2
  rcases t0 with ⟨rfl, rr1, rr2⟩ | ⟨rfl, rr1, rr2⟩
  · have t1 : vTold 3 h := Or.inl ⟨rfl, rr1, rr2⟩
    have cc0 := t1.c
    obtain ⟨v1, h1, cc1, g1, f1, -⟩ := vl_92 l ((xs ((i + (Int32.ofInt (1)))).toNatClampNeg)) ((xs ((i + (Int32.ofInt (2)))).toNatClampNeg)) h hg (i32r_of _) (i32r_of _)
    obtain ⟨v3, h3, cc3, s1⟩ := ck_canvass3 l Z Y ((xs ((i + (Int32.ofInt (1)))).toNatClampNeg)) ((xs ((i + (Int32.ofInt (2)))).toNatClampNeg)) n En h (mI.of hg) A rr1 Cl.1 Cl.2.1.1 V Cl.2.1.2.1 Cl.2.1.2.2.1 Cl.2.2
    have m3 : mI h3 := by
      rcases s1 with ⟨-, -, e⟩ | ⟨-, -, G, -⟩
      · rw [e]; exact mI.of hg
      · exact G.1
    refine XB_two (i := .invokevirtual 92) (aux := 3) (nx := 576) (K := 92) (vs := [xf 12 2, xi (xs ((i + (Int32.ofInt (1)))).toNatClampNeg), xi (xs ((i + (Int32.ofInt (2)))).toNatClampNeg)]) (rs := [xi v1]) (rs2 := [xi v3]) (rest := []) rfl rfl rfl rfl rfl rfl cc1 cc3 ⟨g1.2.2.2.1.trans hg.2.2.2.1.symm, g1.2.2.2.2.trans hg.2.2.2.2.symm⟩ ⟨m3.2.2.2.1.trans hg.2.2.2.1.symm, m3.2.2.2.2.trans hg.2.2.2.2.symm⟩ (by decide) (by decide) (by decide) (by decide) (Nat.le_of_ble_eq_true rfl) ⟨Nat.le_trans (Nat.le_of_eq g1.2.2.2.1) hN, Nat.le_trans (Nat.le_of_eq g1.2.2.2.2) hU⟩ (fun ag1 => ?_)
    show XB l Ls xs 14 538 false 288 N U F 576 [xf 50 1, xf 12 2, xf 13 104, xf 40001 152, xi i, x5, x6] [xi v1] h1
    have ev1 : v1 = v3 := ag1.v
    refine XB_path (sc := some (Ls, xs)) (inl := []) (n := 80) (sp := [589]) (o := []) (xin_ok rfl) (Or.inr rfl) rfl rfl (Nat.le_trans (Nat.le_of_eq g1.2.2.2.1) hN) (Nat.le_trans (Nat.le_of_eq g1.2.2.2.2) hU) ⟨⟨trivial, (vp_of (i := (i + (Int32.ofInt (1)))) (n := Ls) (by omega) (by omega))⟩, (vp_of (i := (i + (Int32.ofInt (2)))) (n := Ls) (by omega) (by omega))⟩ ?_
    show XB l Ls xs 14 538 false 288 N U F 589 [xf 50 1, xf 12 2, xf 13 104, xf 40001 152, xi i, x5, x6] [xi (xs ((i + (Int32.ofInt (2)))).toNatClampNeg), xi (xs ((i + (Int32.ofInt (1)))).toNatClampNeg), xf 13 104, xi v1] h1
    obtain ⟨v2, h2, cc2, g2, f2, -⟩ := vl_238 l ((xs ((i + (Int32.ofInt (1)))).toNatClampNeg)) ((xs ((i + (Int32.ofInt (2)))).toNatClampNeg)) h1 g1 (i32r_of _) (i32r_of _)
    obtain ⟨j1, j2, j3, j4⟩ := Mo.f7 hg.1 A.1 ((vKeep.of f1 (by decide +kernel)) : vKeep (vL6j ++ vLh ++ vLq) _ _)
    rw [← un] at j2
    have VU : zVd Z (UU n) := by rw [un]; exact V
    obtain ⟨v4, h4, cc4, s2⟩ := jk_canvass l Z UU n ((xs ((i + (Int32.ofInt (1)))).toNatClampNeg)) ((xs ((i + (Int32.ofInt (2)))).toNatClampNeg)) h1 (mI.of g1) A j1 n20 j2 VU j4
    have m4 : mI h4 := by
      rcases s2 with ⟨-, -, G⟩ | ⟨-, -, G, -⟩
      · exact G.1
      · exact G.1
    refine XB_two (i := .invokevirtual 238) (aux := 3) (nx := 592) (K := 238) (vs := [xf 13 104, xi (xs ((i + (Int32.ofInt (1)))).toNatClampNeg), xi (xs ((i + (Int32.ofInt (2)))).toNatClampNeg)]) (rs := [xi v2]) (rs2 := [xi v4]) (rest := [xi v1]) rfl rfl rfl rfl rfl rfl cc2 cc4 ⟨g2.2.2.2.1.trans g1.2.2.2.1.symm, g2.2.2.2.2.trans g1.2.2.2.2.symm⟩ ⟨m4.2.2.2.1.trans g1.2.2.2.1.symm, m4.2.2.2.2.trans g1.2.2.2.2.symm⟩ (by decide) (by decide) (by decide) (by decide) (Nat.le_of_ble_eq_true rfl) ⟨Nat.le_trans (Nat.le_of_eq g2.2.2.2.1) hN, Nat.le_trans (Nat.le_of_eq g2.2.2.2.2) hU⟩ (fun ag2 => ?_)
    show XB l Ls xs 14 538 false 288 N U F 592 [xf 50 1, xf 12 2, xf 13 104, xf 40001 152, xi i, x5, x6] [xi v2, xi v1] h2
    have ev2 : v2 = v4 := ag2.v
    rw [un] at s2 j2
    have both : v1 = v2 ∧ vR7 h2 := by
      rw [ev1, ev2]
      have kT2 : kTx 3 Z h2 := Cl.1.f7 cc0 ((((vKeep.of f1 (by decide +kernel)) : vKeep vL6c _ _)).tr ((vKeep.of f2 (by decide +kernel)) : vKeep vL6c _ _))
      have kJ2 : jK Z h2 := (Mo.1.f7 hg.1 ((((vKeep.of f1 (by decide +kernel)) : vKeep vL6j _ _)).tr ((vKeep.of f2 (by decide +kernel)) : vKeep vL6j _ _)))
      have r48 : xR h1 48 0 = 3 := (f1.2 48 0 rfl).trans Cl.2.1.1.2.2.2.2.2
      have i2 : vImg 3 Z h2 := Im.f7 A.1 ((((vKeep.of f1 (by decide +kernel)) : vKeep (vLw70 ++ vLim) _ _)).tr ((vKeep.of f2 (by decide +kernel)) : vKeep (vLw70 ++ vLim) _ _)) ((f2.2 70 0 rfl).trans (f1.2 70 0 rfl))
      have t2 : vTold 3 h2 := t1.fr ((f2.2 2 1 rfl).trans (f1.2 2 1 rfl)) ((f2.2 2 2 rfl).trans (f1.2 2 2 rfl))
      have y2_ : ∀ c k, c = 134 ∨ c = 137 → xI h2 c k = xI h1 c k := fun c k hc => by
        rcases hc with rfl | rfl
        · exact f2.1 134 k rfl
        · exact f2.1 137 k rfl
      have w2_ : ∀ (X : Nat → Int32), vWo48 3 Z X h3 → vWo48 3 Z X h2 := fun X w => (vWo48.ag ag1 g1.1 m3.1 A.1 w r48).fr ((vKeep.of f2 (by decide +kernel)) : vKeep vLw48 _ _) (f2.2 48 0 rfl)
      have p2_ : ∀ (N : Nat) (E : Nat → Int32 × Int32 × Int32), N ≤ 20 → kPa N E h3 → kPa N E h2 := fun N E hN w => (kPa.ag ag1 g1.1 m3.1 hN w).fr ((vKeep.of f2 (by decide +kernel)) : vKeep vLp _ _)
      rcases s1 with ⟨y1, y2, y3⟩ | ⟨y1, y2, G3, kw3, kp3⟩
      · rcases s2 with ⟨w1, w2, w3⟩ | ⟨w1, w2, -⟩
        · rw [y3] at w2_ p2_
          exact ⟨y2.trans w2.symm, 3, Z, Y, n, UU, En, t2, P, ⟨kT2, w2_ Y Cl.2.1, p2_ n En n20 Cl.2.2⟩, ⟨kJ2, jHf.ag ag2 g2.1 m4.1 A.1 (j2.o (fun c k c1 c2 => (w3.k (fun z => by have z : (c = 104 ∧ k = 2) := z; omega)))), ⟨fun r hr => (y2_ 134 _ (Or.inl rfl)).trans (j3.1 r hr), fun p hp => (y2_ 137 _ (Or.inr rfl)).trans (j3.2 p hp)⟩, jPa.ag ag2 g2.1 m4.1 A.1 n20 (j4.o A.1 (fun k => (w3.k (fun z => by have z : (149 = 104 ∧ k = 2) := z; omega))) (w3.k (fun z => by have z : (104 = 104 ∧ 76 = 2) := z; omega)))⟩, i2⟩
        · exact absurd w1 y1
      · rcases s2 with ⟨w1, w2, -⟩ | ⟨w1, w2, G4, jw4, jp4⟩
        · exact absurd y1 w1
        · obtain ⟨b1, b2, b3⟩ := id y1
          have ky3 : kY 48 Z (zup Y (30 + ((xs ((i + (Int32.ofInt (1)))).toNatClampNeg)).toInt.toNat) ((xs ((i + (Int32.ofInt (2)))).toNatClampNeg))) h3 := (Cl.2.1.2.2.2.q G3 (by decide)).up A.1 (by omega)
          have kd3 : kD 48 Z (zup Y (30 + ((xs ((i + (Int32.ofInt (1)))).toNatClampNeg)).toInt.toNat) ((xs ((i + (Int32.ofInt (2)))).toNatClampNeg))) h3 := (Cl.2.1.2.1.q G3 (by decide)).sm zv B0 (zSm_cc (by omega))
          have ke3 : kE 48 Z (zup Y (30 + ((xs ((i + (Int32.ofInt (1)))).toNatClampNeg)).toInt.toNat) ((xs ((i + (Int32.ofInt (2)))).toNatClampNeg))) h3 := (Cl.2.1.2.2.1.q G3 (by decide)).sm B2 (zSm_cc (by omega))
          have P2 : vPst Z (zup Y (30 + ((xs ((i + (Int32.ofInt (1)))).toNatClampNeg)).toInt.toNat) ((xs ((i + (Int32.ofInt (2)))).toNatClampNeg))) (zpn n) (zpu n UU (zup Y (30 + ((xs ((i + (Int32.ofInt (1)))).toNatClampNeg)).toInt.toNat) ((xs ((i + (Int32.ofInt (2)))).toNatClampNeg)))) (zpe n En ((Int32.ofInt (0)), ((xs ((i + (Int32.ofInt (1)))).toNatClampNeg)), Y (30 + ((xs ((i + (Int32.ofInt (1)))).toNatClampNeg)).toInt.toNat))) := P.push (zVd_cc A.1 V ⟨b2.1, by omega⟩) (zup_o (by omega)) (Or.inl ⟨rfl, b1, (V.2.2 ((xs ((i + (Int32.ofInt (1)))).toNatClampNeg)).toInt.toNat (by omega)).1, (V.2.2 ((xs ((i + (Int32.ofInt (1)))).toNatClampNeg)).toInt.toNat (by omega)).2⟩) zup_b.symm
          exact ⟨y2.trans w2.symm, 3, Z, (zup Y (30 + ((xs ((i + (Int32.ofInt (1)))).toNatClampNeg)).toInt.toNat) ((xs ((i + (Int32.ofInt (2)))).toNatClampNeg))), zpn n, zpu n UU (zup Y (30 + ((xs ((i + (Int32.ofInt (1)))).toNatClampNeg)).toInt.toNat) ((xs ((i + (Int32.ofInt (2)))).toNatClampNeg))), zpe n En ((Int32.ofInt (0)), ((xs ((i + (Int32.ofInt (1)))).toNatClampNeg)), Y (30 + ((xs ((i + (Int32.ofInt (1)))).toNatClampNeg)).toInt.toNat)), t2, P2, ⟨kT2, w2_ _ ⟨kw3, kd3, ke3, ky3⟩, p2_ _ _ zpn_le kp3⟩, ⟨kJ2, jHf.ag ag2 g2.1 m4.1 A.1 jw4, j3.up A.1 (by omega) y2_, jPa.ag ag2 g2.1 m4.1 A.1 zpn_le jp4⟩, i2⟩
    have RT : vRl h2 := ⟨R0.1.fr ((((vKeep.of f1 (by decide +kernel)) : vKeep vL1 _ _)).tr ((vKeep.of f2 (by decide +kernel)) : vKeep vL1 _ _)), both.2⟩
    refine XB_path (sc := some (Ls, xs)) (inl := []) (n := 80) (sp := [23]) (o := [1]) (xin_ok rfl) (Or.inr rfl) rfl rfl (Nat.le_trans (Nat.le_of_eq g2.2.2.2.1) hN) (Nat.le_trans (Nat.le_of_eq g2.2.2.2.2) hU) ⟨trivial, both.1⟩ ?_
    show XB l Ls xs 14 538 false 288 N U F 23 [xf 50 1, xf 12 2, xf 13 104, xf 40001 152, xi (i + Int32.ofInt (6)), x5, x6] [] h2
    exact k h2 (x5) (x6) ⟨g2, RT⟩
  · have t1 : vTold 24 h := Or.inr ⟨rfl, rr1, rr2⟩
    have cc0 := t1.c
    obtain ⟨v1, h1, cc1, g1, f1, -⟩ := vl_92 l ((xs ((i + (Int32.ofInt (1)))).toNatClampNeg)) ((xs ((i + (Int32.ofInt (2)))).toNatClampNeg)) h hg (i32r_of _) (i32r_of _)
    obtain ⟨v3, h3, cc3, s1⟩ := ck_canvass24 l Z Y ((xs ((i + (Int32.ofInt (1)))).toNatClampNeg)) ((xs ((i + (Int32.ofInt (2)))).toNatClampNeg)) n En h (mI.of hg) A rr1 Cl.1 Cl.2.1.1 V Cl.2.1.2.1 Cl.2.1.2.2.1 Cl.2.2
    have m3 : mI h3 := by
      rcases s1 with ⟨-, -, e⟩ | ⟨-, -, G, -⟩
      · rw [e]; exact mI.of hg
      · exact G.1
    refine XB_two (i := .invokevirtual 92) (aux := 3) (nx := 576) (K := 92) (vs := [xf 12 2, xi (xs ((i + (Int32.ofInt (1)))).toNatClampNeg), xi (xs ((i + (Int32.ofInt (2)))).toNatClampNeg)]) (rs := [xi v1]) (rs2 := [xi v3]) (rest := []) rfl rfl rfl rfl rfl rfl cc1 cc3 ⟨g1.2.2.2.1.trans hg.2.2.2.1.symm, g1.2.2.2.2.trans hg.2.2.2.2.symm⟩ ⟨m3.2.2.2.1.trans hg.2.2.2.1.symm, m3.2.2.2.2.trans hg.2.2.2.2.symm⟩ (by decide) (by decide) (by decide) (by decide) (Nat.le_of_ble_eq_true rfl) ⟨Nat.le_trans (Nat.le_of_eq g1.2.2.2.1) hN, Nat.le_trans (Nat.le_of_eq g1.2.2.2.2) hU⟩ (fun ag1 => ?_)
    show XB l Ls xs 14 538 false 288 N U F 576 [xf 50 1, xf 12 2, xf 13 104, xf 40001 152, xi i, x5, x6] [xi v1] h1
    have ev1 : v1 = v3 := ag1.v
    refine XB_path (sc := some (Ls, xs)) (inl := []) (n := 80) (sp := [589]) (o := []) (xin_ok rfl) (Or.inr rfl) rfl rfl (Nat.le_trans (Nat.le_of_eq g1.2.2.2.1) hN) (Nat.le_trans (Nat.le_of_eq g1.2.2.2.2) hU) ⟨⟨trivial, (vp_of (i := (i + (Int32.ofInt (1)))) (n := Ls) (by omega) (by omega))⟩, (vp_of (i := (i + (Int32.ofInt (2)))) (n := Ls) (by omega) (by omega))⟩ ?_
    show XB l Ls xs 14 538 false 288 N U F 589 [xf 50 1, xf 12 2, xf 13 104, xf 40001 152, xi i, x5, x6] [xi (xs ((i + (Int32.ofInt (2)))).toNatClampNeg), xi (xs ((i + (Int32.ofInt (1)))).toNatClampNeg), xf 13 104, xi v1] h1
    obtain ⟨v2, h2, cc2, g2, f2, -⟩ := vl_238 l ((xs ((i + (Int32.ofInt (1)))).toNatClampNeg)) ((xs ((i + (Int32.ofInt (2)))).toNatClampNeg)) h1 g1 (i32r_of _) (i32r_of _)
    obtain ⟨j1, j2, j3, j4⟩ := Mo.f7 hg.1 A.1 ((vKeep.of f1 (by decide +kernel)) : vKeep (vL6j ++ vLh ++ vLq) _ _)
    rw [← un] at j2
    have VU : zVd Z (UU n) := by rw [un]; exact V
    obtain ⟨v4, h4, cc4, s2⟩ := jk_canvass l Z UU n ((xs ((i + (Int32.ofInt (1)))).toNatClampNeg)) ((xs ((i + (Int32.ofInt (2)))).toNatClampNeg)) h1 (mI.of g1) A j1 n20 j2 VU j4
    have m4 : mI h4 := by
      rcases s2 with ⟨-, -, G⟩ | ⟨-, -, G, -⟩
      · exact G.1
      · exact G.1
    refine XB_two (i := .invokevirtual 238) (aux := 3) (nx := 592) (K := 238) (vs := [xf 13 104, xi (xs ((i + (Int32.ofInt (1)))).toNatClampNeg), xi (xs ((i + (Int32.ofInt (2)))).toNatClampNeg)]) (rs := [xi v2]) (rs2 := [xi v4]) (rest := [xi v1]) rfl rfl rfl rfl rfl rfl cc2 cc4 ⟨g2.2.2.2.1.trans g1.2.2.2.1.symm, g2.2.2.2.2.trans g1.2.2.2.2.symm⟩ ⟨m4.2.2.2.1.trans g1.2.2.2.1.symm, m4.2.2.2.2.trans g1.2.2.2.2.symm⟩ (by decide) (by decide) (by decide) (by decide) (Nat.le_of_ble_eq_true rfl) ⟨Nat.le_trans (Nat.le_of_eq g2.2.2.2.1) hN, Nat.le_trans (Nat.le_of_eq g2.2.2.2.2) hU⟩ (fun ag2 => ?_)
    show XB l Ls xs 14 538 false 288 N U F 592 [xf 50 1, xf 12 2, xf 13 104, xf 40001 152, xi i, x5, x6] [xi v2, xi v1] h2
    have ev2 : v2 = v4 := ag2.v
    rw [un] at s2 j2
    have both : v1 = v2 ∧ vR7 h2 := by
      rw [ev1, ev2]
      have kT2 : kTx 24 Z h2 := Cl.1.f7 cc0 ((((vKeep.of f1 (by decide +kernel)) : vKeep vL6c _ _)).tr ((vKeep.of f2 (by decide +kernel)) : vKeep vL6c _ _))
      have kJ2 : jK Z h2 := (Mo.1.f7 hg.1 ((((vKeep.of f1 (by decide +kernel)) : vKeep vL6j _ _)).tr ((vKeep.of f2 (by decide +kernel)) : vKeep vL6j _ _)))
      have r48 : xR h1 48 0 = 24 := (f1.2 48 0 rfl).trans Cl.2.1.1.2.2.2.2.2
      have i2 : vImg 24 Z h2 := Im.f7 A.1 ((((vKeep.of f1 (by decide +kernel)) : vKeep (vLw70 ++ vLim) _ _)).tr ((vKeep.of f2 (by decide +kernel)) : vKeep (vLw70 ++ vLim) _ _)) ((f2.2 70 0 rfl).trans (f1.2 70 0 rfl))
      have t2 : vTold 24 h2 := t1.fr ((f2.2 2 1 rfl).trans (f1.2 2 1 rfl)) ((f2.2 2 2 rfl).trans (f1.2 2 2 rfl))
      have y2_ : ∀ c k, c = 134 ∨ c = 137 → xI h2 c k = xI h1 c k := fun c k hc => by
        rcases hc with rfl | rfl
        · exact f2.1 134 k rfl
        · exact f2.1 137 k rfl
      have w2_ : ∀ (X : Nat → Int32), vWo48 24 Z X h3 → vWo48 24 Z X h2 := fun X w => (vWo48.ag ag1 g1.1 m3.1 A.1 w r48).fr ((vKeep.of f2 (by decide +kernel)) : vKeep vLw48 _ _) (f2.2 48 0 rfl)
      have p2_ : ∀ (N : Nat) (E : Nat → Int32 × Int32 × Int32), N ≤ 20 → kPa N E h3 → kPa N E h2 := fun N E hN w => (kPa.ag ag1 g1.1 m3.1 hN w).fr ((vKeep.of f2 (by decide +kernel)) : vKeep vLp _ _)
      rcases s1 with ⟨y1, y2, y3⟩ | ⟨y1, y2, G3, kw3, kp3⟩
      · rcases s2 with ⟨w1, w2, w3⟩ | ⟨w1, w2, -⟩
        · rw [y3] at w2_ p2_
          exact ⟨y2.trans w2.symm, 24, Z, Y, n, UU, En, t2, P, ⟨kT2, w2_ Y Cl.2.1, p2_ n En n20 Cl.2.2⟩, ⟨kJ2, jHf.ag ag2 g2.1 m4.1 A.1 (j2.o (fun c k c1 c2 => (w3.k (fun z => by have z : (c = 104 ∧ k = 2) := z; omega)))), ⟨fun r hr => (y2_ 134 _ (Or.inl rfl)).trans (j3.1 r hr), fun p hp => (y2_ 137 _ (Or.inr rfl)).trans (j3.2 p hp)⟩, jPa.ag ag2 g2.1 m4.1 A.1 n20 (j4.o A.1 (fun k => (w3.k (fun z => by have z : (149 = 104 ∧ k = 2) := z; omega))) (w3.k (fun z => by have z : (104 = 104 ∧ 76 = 2) := z; omega)))⟩, i2⟩
        · exact absurd w1 y1
      · rcases s2 with ⟨w1, w2, -⟩ | ⟨w1, w2, G4, jw4, jp4⟩
        · exact absurd y1 w1
        · obtain ⟨b1, b2, b3⟩ := id y1
          have ky3 : kY 48 Z (zup Y (30 + ((xs ((i + (Int32.ofInt (1)))).toNatClampNeg)).toInt.toNat) ((xs ((i + (Int32.ofInt (2)))).toNatClampNeg))) h3 := (Cl.2.1.2.2.2.q G3 (by decide)).up A.1 (by omega)
          have kd3 : kD 48 Z (zup Y (30 + ((xs ((i + (Int32.ofInt (1)))).toNatClampNeg)).toInt.toNat) ((xs ((i + (Int32.ofInt (2)))).toNatClampNeg))) h3 := (Cl.2.1.2.1.q G3 (by decide)).sm zv B0 (zSm_cc (by omega))
          have ke3 : kE 48 Z (zup Y (30 + ((xs ((i + (Int32.ofInt (1)))).toNatClampNeg)).toInt.toNat) ((xs ((i + (Int32.ofInt (2)))).toNatClampNeg))) h3 := (Cl.2.1.2.2.1.q G3 (by decide)).sm B2 (zSm_cc (by omega))
          have P2 : vPst Z (zup Y (30 + ((xs ((i + (Int32.ofInt (1)))).toNatClampNeg)).toInt.toNat) ((xs ((i + (Int32.ofInt (2)))).toNatClampNeg))) (zpn n) (zpu n UU (zup Y (30 + ((xs ((i + (Int32.ofInt (1)))).toNatClampNeg)).toInt.toNat) ((xs ((i + (Int32.ofInt (2)))).toNatClampNeg)))) (zpe n En ((Int32.ofInt (0)), ((xs ((i + (Int32.ofInt (1)))).toNatClampNeg)), Y (30 + ((xs ((i + (Int32.ofInt (1)))).toNatClampNeg)).toInt.toNat))) := P.push (zVd_cc A.1 V ⟨b2.1, by omega⟩) (zup_o (by omega)) (Or.inl ⟨rfl, b1, (V.2.2 ((xs ((i + (Int32.ofInt (1)))).toNatClampNeg)).toInt.toNat (by omega)).1, (V.2.2 ((xs ((i + (Int32.ofInt (1)))).toNatClampNeg)).toInt.toNat (by omega)).2⟩) zup_b.symm
          exact ⟨y2.trans w2.symm, 24, Z, (zup Y (30 + ((xs ((i + (Int32.ofInt (1)))).toNatClampNeg)).toInt.toNat) ((xs ((i + (Int32.ofInt (2)))).toNatClampNeg))), zpn n, zpu n UU (zup Y (30 + ((xs ((i + (Int32.ofInt (1)))).toNatClampNeg)).toInt.toNat) ((xs ((i + (Int32.ofInt (2)))).toNatClampNeg))), zpe n En ((Int32.ofInt (0)), ((xs ((i + (Int32.ofInt (1)))).toNatClampNeg)), Y (30 + ((xs ((i + (Int32.ofInt (1)))).toNatClampNeg)).toInt.toNat)), t2, P2, ⟨kT2, w2_ _ ⟨kw3, kd3, ke3, ky3⟩, p2_ _ _ zpn_le kp3⟩, ⟨kJ2, jHf.ag ag2 g2.1 m4.1 A.1 jw4, j3.up A.1 (by omega) y2_, jPa.ag ag2 g2.1 m4.1 A.1 zpn_le jp4⟩, i2⟩
    have RT : vRl h2 := ⟨R0.1.fr ((((vKeep.of f1 (by decide +kernel)) : vKeep vL1 _ _)).tr ((vKeep.of f2 (by decide +kernel)) : vKeep vL1 _ _)), both.2⟩
    refine XB_path (sc := some (Ls, xs)) (inl := []) (n := 80) (sp := [23]) (o := [1]) (xin_ok rfl) (Or.inr rfl) rfl rfl (Nat.le_trans (Nat.le_of_eq g2.2.2.2.1) hN) (Nat.le_trans (Nat.le_of_eq g2.2.2.2.2) hU) ⟨trivial, both.1⟩ ?_
    show XB l Ls xs 14 538 false 288 N U F 23 [xf 50 1, xf 12 2, xf 13 104, xf 40001 152, xi (i + Int32.ofInt (6)), x5, x6] [] h2
    exact k h2 (x5) (x6) ⟨g2, RT⟩
set_option maxRecDepth 100000 in
set_option maxHeartbeats 4000000 in
theorem lw_c10 (l : Launch) (Ls : Nat) (xs : Nat → Int32) (N U : Nat) (F : List XV → XH → Prop) (i : Int32) (x5 x6 : XV) (h : XH) (H : vLw h) (i0 : 0 ≤ i.toInt) (i1 : i.toInt + 6 ≤ Ls) (hL : Ls ≤ 3072) (eL : (Int32.ofNat Ls - (Int32.ofInt (6))).toInt = Ls - 6) (hN : 153 ≤ N) (hU : 6051 ≤ U) (hc : (xs (i).toNatClampNeg &&& (Int32.ofInt (63))).toInt = 10) (k : ∀ h' x5' x6', vLw h' → XB l Ls xs 14 538 false 288 N U F 23 [xf 50 1, xf 12 2, xf 13 104, xf 40001 152, xi (i + (Int32.ofInt (6))), x5', x6'] [] h') : XB l Ls xs 14 538 false 288 N U F 23 [xf 50 1, xf 12 2, xf 13 104, xf 40001 152, xi i, x5, x6] [] h := by
  have e1 : (i + (Int32.ofInt (1))).toInt = i.toInt + 1 := by rw [Int32.toInt_add, show (Int32.ofInt (1)).toInt = 1 from rfl]; exact Int.bmod_eq_of_le (by omega) (by omega)
  have e2 : (i + (Int32.ofInt (2))).toInt = i.toInt + 2 := by rw [Int32.toInt_add, show (Int32.ofInt (2)).toInt = 2 from rfl]; exact Int.bmod_eq_of_le (by omega) (by omega)
  have e3 : (i + (Int32.ofInt (3))).toInt = i.toInt + 3 := by rw [Int32.toInt_add, show (Int32.ofInt (3)).toInt = 3 from rfl]; exact Int.bmod_eq_of_le (by omega) (by omega)
  have e4 : (i + (Int32.ofInt (4))).toInt = i.toInt + 4 := by rw [Int32.toInt_add, show (Int32.ofInt (4)).toInt = 4 from rfl]; exact Int.bmod_eq_of_le (by omega) (by omega)
  have e5 : (i + (Int32.ofInt (5))).toInt = i.toInt + 5 := by rw [Int32.toInt_add, show (Int32.ofInt (5)).toInt = 5 from rfl]; exact Int.bmod_eq_of_le (by omega) (by omega)
  have hg := H.1
  have R0 := H.2
  refine XB_path (sc := some (Ls, xs)) (inl := []) (n := 80) (sp := [610]) (o := [0, 11]) (xin_ok rfl) (Or.inr rfl) rfl rfl (Nat.le_trans (Nat.le_of_eq hg.2.2.2.1) hN) (Nat.le_trans (Nat.le_of_eq hg.2.2.2.2) hU) ⟨⟨⟨⟨⟨trivial, (fun z => absurd (Int32.lt_iff_toInt_lt.mp z) (by omega))⟩, (vp_of (i := i) (n := Ls) (by omega) (by omega))⟩, ⟨hc, by decide⟩⟩, (vp_of (i := (i + (Int32.ofInt (1)))) (n := Ls) (by omega) (by omega))⟩, (vp_of (i := (i + (Int32.ofInt (2)))) (n := Ls) (by omega) (by omega))⟩ ?_
  show XB l Ls xs 14 538 false 288 N U F 610 [xf 50 1, xf 12 2, xf 13 104, xf 40001 152, xi i, x5, x6] [xi (xs ((i + (Int32.ofInt (2)))).toNatClampNeg), xi (xs ((i + (Int32.ofInt (1)))).toNatClampNeg), xf 12 2] h
  obtain ⟨c0, Z, Y, n, UU, En, t0, P, Cl, Mo, Im⟩ := id R0.2
  obtain ⟨A, V, md, n20, un, pk⟩ := id P
  obtain ⟨B, -, -, zv, -⟩ := id A
  have B0 := B.1.2
  have B2 := B.2.2.1.2
  rcases t0 with ⟨rfl, rr1, rr2⟩ | ⟨rfl, rr1, rr2⟩
  · have t1 : vTold 3 h := Or.inl ⟨rfl, rr1, rr2⟩
    have cc0 := t1.c
    obtain ⟨v1, h1, cc1, g1, f1, -⟩ := vl_94 l ((xs ((i + (Int32.ofInt (1)))).toNatClampNeg)) ((xs ((i + (Int32.ofInt (2)))).toNatClampNeg)) h hg (i32r_of _) (i32r_of _)
    obtain ⟨v3, h3, cc3, s1⟩ := ck_move3 l Z Y ((xs ((i + (Int32.ofInt (1)))).toNatClampNeg)) ((xs ((i + (Int32.ofInt (2)))).toNatClampNeg)) n En h (mI.of hg) A rr1 Cl.1 Cl.2.1.1 V Cl.2.1.2.1 Cl.2.1.2.2.1 Cl.2.2
    have m3 : mI h3 := by
      rcases s1 with ⟨-, -, e⟩ | ⟨-, -, G, -⟩
      · rw [e]; exact mI.of hg
      · exact G.1
    refine XB_two (i := .invokevirtual 94) (aux := 3) (nx := 613) (K := 94) (vs := [xf 12 2, xi (xs ((i + (Int32.ofInt (1)))).toNatClampNeg), xi (xs ((i + (Int32.ofInt (2)))).toNatClampNeg)]) (rs := [xi v1]) (rs2 := [xi v3]) (rest := []) rfl rfl rfl rfl rfl rfl cc1 cc3 ⟨g1.2.2.2.1.trans hg.2.2.2.1.symm, g1.2.2.2.2.trans hg.2.2.2.2.symm⟩ ⟨m3.2.2.2.1.trans hg.2.2.2.1.symm, m3.2.2.2.2.trans hg.2.2.2.2.symm⟩ (by decide) (by decide) (by decide) (by decide) (Nat.le_of_ble_eq_true rfl) ⟨Nat.le_trans (Nat.le_of_eq g1.2.2.2.1) hN, Nat.le_trans (Nat.le_of_eq g1.2.2.2.2) hU⟩ (fun ag1 => ?_)
    show XB l Ls xs 14 538 false 288 N U F 613 [xf 50 1, xf 12 2, xf 13 104, xf 40001 152, xi i, x5, x6] [xi v1] h1
    have ev1 : v1 = v3 := ag1.v
    refine XB_path (sc := some (Ls, xs)) (inl := []) (n := 80) (sp := [627]) (o := []) (xin_ok rfl) (Or.inr rfl) rfl rfl (Nat.le_trans (Nat.le_of_eq g1.2.2.2.1) hN) (Nat.le_trans (Nat.le_of_eq g1.2.2.2.2) hU) ⟨⟨trivial, (vp_of (i := (i + (Int32.ofInt (1)))) (n := Ls) (by omega) (by omega))⟩, (vp_of (i := (i + (Int32.ofInt (2)))) (n := Ls) (by omega) (by omega))⟩ ?_
    show XB l Ls xs 14 538 false 288 N U F 627 [xf 50 1, xf 12 2, xf 13 104, xf 40001 152, xi i, x5, x6] [xi (xs ((i + (Int32.ofInt (2)))).toNatClampNeg), xi (xs ((i + (Int32.ofInt (1)))).toNatClampNeg), xf 13 104] h1
    obtain ⟨v2, h2, cc2, g2, f2, -⟩ := vl_241 l ((xs ((i + (Int32.ofInt (1)))).toNatClampNeg)) ((xs ((i + (Int32.ofInt (2)))).toNatClampNeg)) h1 g1 (i32r_of _) (i32r_of _)
    obtain ⟨j1, j2, j3, j4⟩ := Mo.f7 hg.1 A.1 ((vKeep.of f1 (by decide +kernel)) : vKeep (vL6j ++ vLh ++ vLq) _ _)
    rw [← un] at j2
    have VU : zVd Z (UU n) := by rw [un]; exact V
    obtain ⟨v4, h4, cc4, s2⟩ := jk_move l Z UU n ((xs ((i + (Int32.ofInt (1)))).toNatClampNeg)) ((xs ((i + (Int32.ofInt (2)))).toNatClampNeg)) h1 (mI.of g1) A j1 n20 j2 VU j4
    have m4 : mI h4 := by
      rcases s2 with ⟨-, -, G⟩ | ⟨-, -, G, -⟩
      · exact G.1
      · exact G.1
    refine XB_two (i := .invokevirtual 241) (aux := 3) (nx := 630) (K := 241) (vs := [xf 13 104, xi (xs ((i + (Int32.ofInt (1)))).toNatClampNeg), xi (xs ((i + (Int32.ofInt (2)))).toNatClampNeg)]) (rs := [xi v2]) (rs2 := [xi v4]) (rest := []) rfl rfl rfl rfl rfl rfl cc2 cc4 ⟨g2.2.2.2.1.trans g1.2.2.2.1.symm, g2.2.2.2.2.trans g1.2.2.2.2.symm⟩ ⟨m4.2.2.2.1.trans g1.2.2.2.1.symm, m4.2.2.2.2.trans g1.2.2.2.2.symm⟩ (by decide) (by decide) (by decide) (by decide) (Nat.le_of_ble_eq_true rfl) ⟨Nat.le_trans (Nat.le_of_eq g2.2.2.2.1) hN, Nat.le_trans (Nat.le_of_eq g2.2.2.2.2) hU⟩ (fun ag2 => ?_)
    show XB l Ls xs 14 538 false 288 N U F 630 [xf 50 1, xf 12 2, xf 13 104, xf 40001 152, xi i, x5, x6] [xi v2] h2
    have ev2 : v2 = v4 := ag2.v
    rw [un] at s2 j2
    have both : v1 = v2 ∧ vR7 h2 := by
      rw [ev1, ev2]
      have kT2 : kTx 3 Z h2 := Cl.1.f7 cc0 ((((vKeep.of f1 (by decide +kernel)) : vKeep vL6c _ _)).tr ((vKeep.of f2 (by decide +kernel)) : vKeep vL6c _ _))
      have kJ2 : jK Z h2 := (Mo.1.f7 hg.1 ((((vKeep.of f1 (by decide +kernel)) : vKeep vL6j _ _)).tr ((vKeep.of f2 (by decide +kernel)) : vKeep vL6j _ _)))
      have r48 : xR h1 48 0 = 3 := (f1.2 48 0 rfl).trans Cl.2.1.1.2.2.2.2.2
      have i2 : vImg 3 Z h2 := Im.f7 A.1 ((((vKeep.of f1 (by decide +kernel)) : vKeep (vLw70 ++ vLim) _ _)).tr ((vKeep.of f2 (by decide +kernel)) : vKeep (vLw70 ++ vLim) _ _)) ((f2.2 70 0 rfl).trans (f1.2 70 0 rfl))
      have t2 : vTold 3 h2 := t1.fr ((f2.2 2 1 rfl).trans (f1.2 2 1 rfl)) ((f2.2 2 2 rfl).trans (f1.2 2 2 rfl))
      have y2_ : ∀ c k, c = 134 ∨ c = 137 → xI h2 c k = xI h1 c k := fun c k hc => by
        rcases hc with rfl | rfl
        · exact f2.1 134 k rfl
        · exact f2.1 137 k rfl
      have w2_ : ∀ (X : Nat → Int32), vWo48 3 Z X h3 → vWo48 3 Z X h2 := fun X w => (vWo48.ag ag1 g1.1 m3.1 A.1 w r48).fr ((vKeep.of f2 (by decide +kernel)) : vKeep vLw48 _ _) (f2.2 48 0 rfl)
      have p2_ : ∀ (N : Nat) (E : Nat → Int32 × Int32 × Int32), N ≤ 20 → kPa N E h3 → kPa N E h2 := fun N E hN w => (kPa.ag ag1 g1.1 m3.1 hN w).fr ((vKeep.of f2 (by decide +kernel)) : vKeep vLp _ _)
      rcases s1 with ⟨y1, y2, y3⟩ | ⟨y1, y2, G3, kw3, ke3, kp3⟩
      · rcases s2 with ⟨w1, w2, w3⟩ | ⟨w1, w2, -⟩
        · rw [y3] at w2_ p2_
          exact ⟨y2.trans w2.symm, 3, Z, Y, n, UU, En, t2, P, ⟨kT2, w2_ Y Cl.2.1, p2_ n En n20 Cl.2.2⟩, ⟨kJ2, jHf.ag ag2 g2.1 m4.1 A.1 (j2.o (fun c k c1 c2 => (w3.k (fun z => by have z : (c = 104 ∧ k = 2) := z; omega)))), ⟨fun r hr => (y2_ 134 _ (Or.inl rfl)).trans (j3.1 r hr), fun p hp => (y2_ 137 _ (Or.inr rfl)).trans (j3.2 p hp)⟩, jPa.ag ag2 g2.1 m4.1 A.1 n20 (j4.o A.1 (fun k => (w3.k (fun z => by have z : (149 = 104 ∧ k = 2) := z; omega))) (w3.k (fun z => by have z : (104 = 104 ∧ 76 = 2) := z; omega)))⟩, i2⟩
        · exact absurd w1 y1
      · rcases s2 with ⟨w1, w2, -⟩ | ⟨w1, w2, G4, jw4, jp4⟩
        · exact absurd y1 w1
        · obtain ⟨b1, b2, b3, b4⟩ := id y1
          have ky3 : kY 48 Z (zup Y (20 + ((xs ((i + (Int32.ofInt (1)))).toNatClampNeg)).toInt.toNat) ((xs ((i + (Int32.ofInt (2)))).toNatClampNeg))) h3 := (Cl.2.1.2.2.2.q G3 (by decide)).up A.1 (by omega)
          have kd3 : kD 48 Z (zup Y (20 + ((xs ((i + (Int32.ofInt (1)))).toNatClampNeg)).toInt.toNat) ((xs ((i + (Int32.ofInt (2)))).toNatClampNeg))) h3 := (Cl.2.1.2.1.q G3 (by decide)).sm2 zv B0 ⟨fun i hi => zup_o (by omega), zup_o (by omega)⟩
          have P2 : vPst Z (zup Y (20 + ((xs ((i + (Int32.ofInt (1)))).toNatClampNeg)).toInt.toNat) ((xs ((i + (Int32.ofInt (2)))).toNatClampNeg))) (zpn n) (zpu n UU (zup Y (20 + ((xs ((i + (Int32.ofInt (1)))).toNatClampNeg)).toInt.toNat) ((xs ((i + (Int32.ofInt (2)))).toNatClampNeg)))) (zpe n En ((Int32.ofInt (1)), ((xs ((i + (Int32.ofInt (1)))).toNatClampNeg)), Y (20 + ((xs ((i + (Int32.ofInt (1)))).toNatClampNeg)).toInt.toNat))) := P.push (zVd_mv A.1 V (by omega) b2) (zup_o (by omega)) (Or.inr (Or.inl ⟨rfl, b1, (V.2.1 ((xs ((i + (Int32.ofInt (1)))).toNatClampNeg)).toInt.toNat (by omega)).1, (V.2.1 ((xs ((i + (Int32.ofInt (1)))).toNatClampNeg)).toInt.toNat (by omega)).2⟩)) zup_b.symm
          exact ⟨y2.trans w2.symm, 3, Z, (zup Y (20 + ((xs ((i + (Int32.ofInt (1)))).toNatClampNeg)).toInt.toNat) ((xs ((i + (Int32.ofInt (2)))).toNatClampNeg))), zpn n, zpu n UU (zup Y (20 + ((xs ((i + (Int32.ofInt (1)))).toNatClampNeg)).toInt.toNat) ((xs ((i + (Int32.ofInt (2)))).toNatClampNeg))), zpe n En ((Int32.ofInt (1)), ((xs ((i + (Int32.ofInt (1)))).toNatClampNeg)), Y (20 + ((xs ((i + (Int32.ofInt (1)))).toNatClampNeg)).toInt.toNat)), t2, P2, ⟨kT2, w2_ _ ⟨kw3, kd3, ke3, ky3⟩, p2_ _ _ zpn_le kp3⟩, ⟨kJ2, jHf.ag ag2 g2.1 m4.1 A.1 jw4, j3.up A.1 (by omega) y2_, jPa.ag ag2 g2.1 m4.1 A.1 zpn_le jp4⟩, i2⟩
    have RT : vRl h2 := ⟨R0.1.fr ((((vKeep.of f1 (by decide +kernel)) : vKeep vL1 _ _)).tr ((vKeep.of f2 (by decide +kernel)) : vKeep vL1 _ _)), both.2⟩
    refine XB_path (sc := some (Ls, xs)) (inl := []) (n := 80) (sp := [23]) (o := []) (xin_ok rfl) (Or.inr rfl) rfl rfl (Nat.le_trans (Nat.le_of_eq g2.2.2.2.1) hN) (Nat.le_trans (Nat.le_of_eq g2.2.2.2.2) hU) trivial ?_
    show XB l Ls xs 14 538 false 288 N U F 23 [xf 50 1, xf 12 2, xf 13 104, xf 40001 152, xi (i + Int32.ofInt (6)), x5, x6] [] h2
    exact k h2 (x5) (x6) ⟨g2, RT⟩
  · have t1 : vTold 24 h := Or.inr ⟨rfl, rr1, rr2⟩
    have cc0 := t1.c
    obtain ⟨v1, h1, cc1, g1, f1, -⟩ := vl_94 l ((xs ((i + (Int32.ofInt (1)))).toNatClampNeg)) ((xs ((i + (Int32.ofInt (2)))).toNatClampNeg)) h hg (i32r_of _) (i32r_of _)
    obtain ⟨v3, h3, cc3, s1⟩ := ck_move24 l Z Y ((xs ((i + (Int32.ofInt (1)))).toNatClampNeg)) ((xs ((i + (Int32.ofInt (2)))).toNatClampNeg)) n En h (mI.of hg) A rr1 Cl.1 Cl.2.1.1 V Cl.2.1.2.1 Cl.2.1.2.2.1 Cl.2.2
    have m3 : mI h3 := by
      rcases s1 with ⟨-, -, e⟩ | ⟨-, -, G, -⟩
      · rw [e]; exact mI.of hg
      · exact G.1
    refine XB_two (i := .invokevirtual 94) (aux := 3) (nx := 613) (K := 94) (vs := [xf 12 2, xi (xs ((i + (Int32.ofInt (1)))).toNatClampNeg), xi (xs ((i + (Int32.ofInt (2)))).toNatClampNeg)]) (rs := [xi v1]) (rs2 := [xi v3]) (rest := []) rfl rfl rfl rfl rfl rfl cc1 cc3 ⟨g1.2.2.2.1.trans hg.2.2.2.1.symm, g1.2.2.2.2.trans hg.2.2.2.2.symm⟩ ⟨m3.2.2.2.1.trans hg.2.2.2.1.symm, m3.2.2.2.2.trans hg.2.2.2.2.symm⟩ (by decide) (by decide) (by decide) (by decide) (Nat.le_of_ble_eq_true rfl) ⟨Nat.le_trans (Nat.le_of_eq g1.2.2.2.1) hN, Nat.le_trans (Nat.le_of_eq g1.2.2.2.2) hU⟩ (fun ag1 => ?_)
    show XB l Ls xs 14 538 false 288 N U F 613 [xf 50 1, xf 12 2, xf 13 104, xf 40001 152, xi i, x5, x6] [xi v1] h1
    have ev1 : v1 = v3 := ag1.v
    refine XB_path (sc := some (Ls, xs)) (inl := []) (n := 80) (sp := [627]) (o := []) (xin_ok rfl) (Or.inr rfl) rfl rfl (Nat.le_trans (Nat.le_of_eq g1.2.2.2.1) hN) (Nat.le_trans (Nat.le_of_eq g1.2.2.2.2) hU) ⟨⟨trivial, (vp_of (i := (i + (Int32.ofInt (1)))) (n := Ls) (by omega) (by omega))⟩, (vp_of (i := (i + (Int32.ofInt (2)))) (n := Ls) (by omega) (by omega))⟩ ?_
    show XB l Ls xs 14 538 false 288 N U F 627 [xf 50 1, xf 12 2, xf 13 104, xf 40001 152, xi i, x5, x6] [xi (xs ((i + (Int32.ofInt (2)))).toNatClampNeg), xi (xs ((i + (Int32.ofInt (1)))).toNatClampNeg), xf 13 104] h1
    obtain ⟨v2, h2, cc2, g2, f2, -⟩ := vl_241 l ((xs ((i + (Int32.ofInt (1)))).toNatClampNeg)) ((xs ((i + (Int32.ofInt (2)))).toNatClampNeg)) h1 g1 (i32r_of _) (i32r_of _)
    obtain ⟨j1, j2, j3, j4⟩ := Mo.f7 hg.1 A.1 ((vKeep.of f1 (by decide +kernel)) : vKeep (vL6j ++ vLh ++ vLq) _ _)
    rw [← un] at j2
    have VU : zVd Z (UU n) := by rw [un]; exact V
    obtain ⟨v4, h4, cc4, s2⟩ := jk_move l Z UU n ((xs ((i + (Int32.ofInt (1)))).toNatClampNeg)) ((xs ((i + (Int32.ofInt (2)))).toNatClampNeg)) h1 (mI.of g1) A j1 n20 j2 VU j4
    have m4 : mI h4 := by
      rcases s2 with ⟨-, -, G⟩ | ⟨-, -, G, -⟩
      · exact G.1
      · exact G.1
    refine XB_two (i := .invokevirtual 241) (aux := 3) (nx := 630) (K := 241) (vs := [xf 13 104, xi (xs ((i + (Int32.ofInt (1)))).toNatClampNeg), xi (xs ((i + (Int32.ofInt (2)))).toNatClampNeg)]) (rs := [xi v2]) (rs2 := [xi v4]) (rest := []) rfl rfl rfl rfl rfl rfl cc2 cc4 ⟨g2.2.2.2.1.trans g1.2.2.2.1.symm, g2.2.2.2.2.trans g1.2.2.2.2.symm⟩ ⟨m4.2.2.2.1.trans g1.2.2.2.1.symm, m4.2.2.2.2.trans g1.2.2.2.2.symm⟩ (by decide) (by decide) (by decide) (by decide) (Nat.le_of_ble_eq_true rfl) ⟨Nat.le_trans (Nat.le_of_eq g2.2.2.2.1) hN, Nat.le_trans (Nat.le_of_eq g2.2.2.2.2) hU⟩ (fun ag2 => ?_)
    show XB l Ls xs 14 538 false 288 N U F 630 [xf 50 1, xf 12 2, xf 13 104, xf 40001 152, xi i, x5, x6] [xi v2] h2
    have ev2 : v2 = v4 := ag2.v
    rw [un] at s2 j2
    have both : v1 = v2 ∧ vR7 h2 := by
      rw [ev1, ev2]
      have kT2 : kTx 24 Z h2 := Cl.1.f7 cc0 ((((vKeep.of f1 (by decide +kernel)) : vKeep vL6c _ _)).tr ((vKeep.of f2 (by decide +kernel)) : vKeep vL6c _ _))
      have kJ2 : jK Z h2 := (Mo.1.f7 hg.1 ((((vKeep.of f1 (by decide +kernel)) : vKeep vL6j _ _)).tr ((vKeep.of f2 (by decide +kernel)) : vKeep vL6j _ _)))
      have r48 : xR h1 48 0 = 24 := (f1.2 48 0 rfl).trans Cl.2.1.1.2.2.2.2.2
      have i2 : vImg 24 Z h2 := Im.f7 A.1 ((((vKeep.of f1 (by decide +kernel)) : vKeep (vLw70 ++ vLim) _ _)).tr ((vKeep.of f2 (by decide +kernel)) : vKeep (vLw70 ++ vLim) _ _)) ((f2.2 70 0 rfl).trans (f1.2 70 0 rfl))
      have t2 : vTold 24 h2 := t1.fr ((f2.2 2 1 rfl).trans (f1.2 2 1 rfl)) ((f2.2 2 2 rfl).trans (f1.2 2 2 rfl))
      have y2_ : ∀ c k, c = 134 ∨ c = 137 → xI h2 c k = xI h1 c k := fun c k hc => by
        rcases hc with rfl | rfl
        · exact f2.1 134 k rfl
        · exact f2.1 137 k rfl
      have w2_ : ∀ (X : Nat → Int32), vWo48 24 Z X h3 → vWo48 24 Z X h2 := fun X w => (vWo48.ag ag1 g1.1 m3.1 A.1 w r48).fr ((vKeep.of f2 (by decide +kernel)) : vKeep vLw48 _ _) (f2.2 48 0 rfl)
      have p2_ : ∀ (N : Nat) (E : Nat → Int32 × Int32 × Int32), N ≤ 20 → kPa N E h3 → kPa N E h2 := fun N E hN w => (kPa.ag ag1 g1.1 m3.1 hN w).fr ((vKeep.of f2 (by decide +kernel)) : vKeep vLp _ _)
      rcases s1 with ⟨y1, y2, y3⟩ | ⟨y1, y2, G3, kw3, ke3, kp3⟩
      · rcases s2 with ⟨w1, w2, w3⟩ | ⟨w1, w2, -⟩
        · rw [y3] at w2_ p2_
          exact ⟨y2.trans w2.symm, 24, Z, Y, n, UU, En, t2, P, ⟨kT2, w2_ Y Cl.2.1, p2_ n En n20 Cl.2.2⟩, ⟨kJ2, jHf.ag ag2 g2.1 m4.1 A.1 (j2.o (fun c k c1 c2 => (w3.k (fun z => by have z : (c = 104 ∧ k = 2) := z; omega)))), ⟨fun r hr => (y2_ 134 _ (Or.inl rfl)).trans (j3.1 r hr), fun p hp => (y2_ 137 _ (Or.inr rfl)).trans (j3.2 p hp)⟩, jPa.ag ag2 g2.1 m4.1 A.1 n20 (j4.o A.1 (fun k => (w3.k (fun z => by have z : (149 = 104 ∧ k = 2) := z; omega))) (w3.k (fun z => by have z : (104 = 104 ∧ 76 = 2) := z; omega)))⟩, i2⟩
        · exact absurd w1 y1
      · rcases s2 with ⟨w1, w2, -⟩ | ⟨w1, w2, G4, jw4, jp4⟩
        · exact absurd y1 w1
        · obtain ⟨b1, b2, b3, b4⟩ := id y1
          have ky3 : kY 48 Z (zup Y (20 + ((xs ((i + (Int32.ofInt (1)))).toNatClampNeg)).toInt.toNat) ((xs ((i + (Int32.ofInt (2)))).toNatClampNeg))) h3 := (Cl.2.1.2.2.2.q G3 (by decide)).up A.1 (by omega)
          have kd3 : kD 48 Z (zup Y (20 + ((xs ((i + (Int32.ofInt (1)))).toNatClampNeg)).toInt.toNat) ((xs ((i + (Int32.ofInt (2)))).toNatClampNeg))) h3 := (Cl.2.1.2.1.q G3 (by decide)).sm2 zv B0 ⟨fun i hi => zup_o (by omega), zup_o (by omega)⟩
          have P2 : vPst Z (zup Y (20 + ((xs ((i + (Int32.ofInt (1)))).toNatClampNeg)).toInt.toNat) ((xs ((i + (Int32.ofInt (2)))).toNatClampNeg))) (zpn n) (zpu n UU (zup Y (20 + ((xs ((i + (Int32.ofInt (1)))).toNatClampNeg)).toInt.toNat) ((xs ((i + (Int32.ofInt (2)))).toNatClampNeg)))) (zpe n En ((Int32.ofInt (1)), ((xs ((i + (Int32.ofInt (1)))).toNatClampNeg)), Y (20 + ((xs ((i + (Int32.ofInt (1)))).toNatClampNeg)).toInt.toNat))) := P.push (zVd_mv A.1 V (by omega) b2) (zup_o (by omega)) (Or.inr (Or.inl ⟨rfl, b1, (V.2.1 ((xs ((i + (Int32.ofInt (1)))).toNatClampNeg)).toInt.toNat (by omega)).1, (V.2.1 ((xs ((i + (Int32.ofInt (1)))).toNatClampNeg)).toInt.toNat (by omega)).2⟩)) zup_b.symm
          exact ⟨y2.trans w2.symm, 24, Z, (zup Y (20 + ((xs ((i + (Int32.ofInt (1)))).toNatClampNeg)).toInt.toNat) ((xs ((i + (Int32.ofInt (2)))).toNatClampNeg))), zpn n, zpu n UU (zup Y (20 + ((xs ((i + (Int32.ofInt (1)))).toNatClampNeg)).toInt.toNat) ((xs ((i + (Int32.ofInt (2)))).toNatClampNeg))), zpe n En ((Int32.ofInt (1)), ((xs ((i + (Int32.ofInt (1)))).toNatClampNeg)), Y (20 + ((xs ((i + (Int32.ofInt (1)))).toNatClampNeg)).toInt.toNat)), t2, P2, ⟨kT2, w2_ _ ⟨kw3, kd3, ke3, ky3⟩, p2_ _ _ zpn_le kp3⟩, ⟨kJ2, jHf.ag ag2 g2.1 m4.1 A.1 jw4, j3.up A.1 (by omega) y2_, jPa.ag ag2 g2.1 m4.1 A.1 zpn_le jp4⟩, i2⟩
    have RT : vRl h2 := ⟨R0.1.fr ((((vKeep.of f1 (by decide +kernel)) : vKeep vL1 _ _)).tr ((vKeep.of f2 (by decide +kernel)) : vKeep vL1 _ _)), both.2⟩
    refine XB_path (sc := some (Ls, xs)) (inl := []) (n := 80) (sp := [23]) (o := []) (xin_ok rfl) (Or.inr rfl) rfl rfl (Nat.le_trans (Nat.le_of_eq g2.2.2.2.1) hN) (Nat.le_trans (Nat.le_of_eq g2.2.2.2.2) hU) trivial ?_
    show XB l Ls xs 14 538 false 288 N U F 23 [xf 50 1, xf 12 2, xf 13 104, xf 40001 152, xi (i + Int32.ofInt (6)), x5, x6] [] h2
    exact k h2 (x5) (x6) ⟨g2, RT⟩
set_option maxRecDepth 100000 in
set_option maxHeartbeats 4000000 in
theorem lw_c11 (l : Launch) (Ls : Nat) (xs : Nat → Int32) (N U : Nat) (F : List XV → XH → Prop) (i : Int32) (x5 x6 : XV) (h : XH) (H : vLw h) (i0 : 0 ≤ i.toInt) (i1 : i.toInt + 6 ≤ Ls) (hL : Ls ≤ 3072) (eL : (Int32.ofNat Ls - (Int32.ofInt (6))).toInt = Ls - 6) (hN : 153 ≤ N) (hU : 6051 ≤ U) (hc : (xs (i).toNatClampNeg &&& (Int32.ofInt (63))).toInt = 11) (k : ∀ h' x5' x6', vLw h' → XB l Ls xs 14 538 false 288 N U F 23 [xf 50 1, xf 12 2, xf 13 104, xf 40001 152, xi (i + (Int32.ofInt (6))), x5', x6'] [] h') : XB l Ls xs 14 538 false 288 N U F 23 [xf 50 1, xf 12 2, xf 13 104, xf 40001 152, xi i, x5, x6] [] h := by
  have e1 : (i + (Int32.ofInt (1))).toInt = i.toInt + 1 := by rw [Int32.toInt_add, show (Int32.ofInt (1)).toInt = 1 from rfl]; exact Int.bmod_eq_of_le (by omega) (by omega)
  have e2 : (i + (Int32.ofInt (2))).toInt = i.toInt + 2 := by rw [Int32.toInt_add, show (Int32.ofInt (2)).toInt = 2 from rfl]; exact Int.bmod_eq_of_le (by omega) (by omega)
  have e3 : (i + (Int32.ofInt (3))).toInt = i.toInt + 3 := by rw [Int32.toInt_add, show (Int32.ofInt (3)).toInt = 3 from rfl]; exact Int.bmod_eq_of_le (by omega) (by omega)
  have e4 : (i + (Int32.ofInt (4))).toInt = i.toInt + 4 := by rw [Int32.toInt_add, show (Int32.ofInt (4)).toInt = 4 from rfl]; exact Int.bmod_eq_of_le (by omega) (by omega)
  have e5 : (i + (Int32.ofInt (5))).toInt = i.toInt + 5 := by rw [Int32.toInt_add, show (Int32.ofInt (5)).toInt = 5 from rfl]; exact Int.bmod_eq_of_le (by omega) (by omega)
  have hg := H.1
  have R0 := H.2
  refine XB_path (sc := some (Ls, xs)) (inl := []) (n := 80) (sp := [647]) (o := [0, 12]) (xin_ok rfl) (Or.inr rfl) rfl rfl (Nat.le_trans (Nat.le_of_eq hg.2.2.2.1) hN) (Nat.le_trans (Nat.le_of_eq hg.2.2.2.2) hU) ⟨⟨⟨⟨⟨trivial, (fun z => absurd (Int32.lt_iff_toInt_lt.mp z) (by omega))⟩, (vp_of (i := i) (n := Ls) (by omega) (by omega))⟩, ⟨hc, by decide⟩⟩, (vp_of (i := (i + (Int32.ofInt (1)))) (n := Ls) (by omega) (by omega))⟩, (vp_of (i := (i + (Int32.ofInt (2)))) (n := Ls) (by omega) (by omega))⟩ ?_
  show XB l Ls xs 14 538 false 288 N U F 647 [xf 50 1, xf 12 2, xf 13 104, xf 40001 152, xi i, x5, x6] [xi (xs ((i + (Int32.ofInt (2)))).toNatClampNeg), xi (xs ((i + (Int32.ofInt (1)))).toNatClampNeg), xf 12 2] h
  obtain ⟨c0, Z, Y, n, UU, En, t0, P, Cl, Mo, Im⟩ := id R0.2
  obtain ⟨A, V, md, n20, un, pk⟩ := id P
  obtain ⟨B, -, -, zv, -⟩ := id A
  have B0 := B.1.2
  have B2 := B.2.2.1.2
  rcases t0 with ⟨rfl, rr1, rr2⟩ | ⟨rfl, rr1, rr2⟩
  · have t1 : vTold 3 h := Or.inl ⟨rfl, rr1, rr2⟩
    have cc0 := t1.c
    obtain ⟨v1, h1, cc1, g1, f1, -⟩ := vl_96 l ((xs ((i + (Int32.ofInt (1)))).toNatClampNeg)) ((xs ((i + (Int32.ofInt (2)))).toNatClampNeg)) h hg (i32r_of _) (i32r_of _)
    obtain ⟨v3, h3, cc3, s1⟩ := ck_decree3 l Z Y ((xs ((i + (Int32.ofInt (1)))).toNatClampNeg)) ((xs ((i + (Int32.ofInt (2)))).toNatClampNeg)) n En h (mI.of hg) A rr1 Cl.1 Cl.2.1.1 V Cl.2.1.2.1 Cl.2.1.2.2.1 Cl.2.2
    have m3 : mI h3 := by
      rcases s1 with ⟨-, -, e⟩ | ⟨-, -, G, -⟩
      · rw [e]; exact mI.of hg
      · exact G.1
    refine XB_two (i := .invokevirtual 96) (aux := 3) (nx := 650) (K := 96) (vs := [xf 12 2, xi (xs ((i + (Int32.ofInt (1)))).toNatClampNeg), xi (xs ((i + (Int32.ofInt (2)))).toNatClampNeg)]) (rs := [xi v1]) (rs2 := [xi v3]) (rest := []) rfl rfl rfl rfl rfl rfl cc1 cc3 ⟨g1.2.2.2.1.trans hg.2.2.2.1.symm, g1.2.2.2.2.trans hg.2.2.2.2.symm⟩ ⟨m3.2.2.2.1.trans hg.2.2.2.1.symm, m3.2.2.2.2.trans hg.2.2.2.2.symm⟩ (by decide) (by decide) (by decide) (by decide) (Nat.le_of_ble_eq_true rfl) ⟨Nat.le_trans (Nat.le_of_eq g1.2.2.2.1) hN, Nat.le_trans (Nat.le_of_eq g1.2.2.2.2) hU⟩ (fun ag1 => ?_)
    show XB l Ls xs 14 538 false 288 N U F 650 [xf 50 1, xf 12 2, xf 13 104, xf 40001 152, xi i, x5, x6] [xi v1] h1
    have ev1 : v1 = v3 := ag1.v
    refine XB_path (sc := some (Ls, xs)) (inl := []) (n := 80) (sp := [664]) (o := []) (xin_ok rfl) (Or.inr rfl) rfl rfl (Nat.le_trans (Nat.le_of_eq g1.2.2.2.1) hN) (Nat.le_trans (Nat.le_of_eq g1.2.2.2.2) hU) ⟨⟨trivial, (vp_of (i := (i + (Int32.ofInt (1)))) (n := Ls) (by omega) (by omega))⟩, (vp_of (i := (i + (Int32.ofInt (2)))) (n := Ls) (by omega) (by omega))⟩ ?_
    show XB l Ls xs 14 538 false 288 N U F 664 [xf 50 1, xf 12 2, xf 13 104, xf 40001 152, xi i, x5, x6] [xi (xs ((i + (Int32.ofInt (2)))).toNatClampNeg), xi (xs ((i + (Int32.ofInt (1)))).toNatClampNeg), xf 13 104] h1
    obtain ⟨v2, h2, cc2, g2, f2, -⟩ := vl_242 l ((xs ((i + (Int32.ofInt (1)))).toNatClampNeg)) ((xs ((i + (Int32.ofInt (2)))).toNatClampNeg)) h1 g1 (i32r_of _) (i32r_of _)
    obtain ⟨j1, j2, j3, j4⟩ := Mo.f7 hg.1 A.1 ((vKeep.of f1 (by decide +kernel)) : vKeep (vL6j ++ vLh ++ vLq) _ _)
    rw [← un] at j2
    have VU : zVd Z (UU n) := by rw [un]; exact V
    obtain ⟨v4, h4, cc4, s2⟩ := jk_decree l Z UU n ((xs ((i + (Int32.ofInt (1)))).toNatClampNeg)) ((xs ((i + (Int32.ofInt (2)))).toNatClampNeg)) h1 (mI.of g1) A j1 n20 j2 VU j4
    have m4 : mI h4 := by
      rcases s2 with ⟨-, -, G⟩ | ⟨-, -, G, -⟩
      · exact G.1
      · exact G.1
    refine XB_two (i := .invokevirtual 242) (aux := 3) (nx := 667) (K := 242) (vs := [xf 13 104, xi (xs ((i + (Int32.ofInt (1)))).toNatClampNeg), xi (xs ((i + (Int32.ofInt (2)))).toNatClampNeg)]) (rs := [xi v2]) (rs2 := [xi v4]) (rest := []) rfl rfl rfl rfl rfl rfl cc2 cc4 ⟨g2.2.2.2.1.trans g1.2.2.2.1.symm, g2.2.2.2.2.trans g1.2.2.2.2.symm⟩ ⟨m4.2.2.2.1.trans g1.2.2.2.1.symm, m4.2.2.2.2.trans g1.2.2.2.2.symm⟩ (by decide) (by decide) (by decide) (by decide) (Nat.le_of_ble_eq_true rfl) ⟨Nat.le_trans (Nat.le_of_eq g2.2.2.2.1) hN, Nat.le_trans (Nat.le_of_eq g2.2.2.2.2) hU⟩ (fun ag2 => ?_)
    show XB l Ls xs 14 538 false 288 N U F 667 [xf 50 1, xf 12 2, xf 13 104, xf 40001 152, xi i, x5, x6] [xi v2] h2
    have ev2 : v2 = v4 := ag2.v
    rw [un] at s2 j2
    have both : v1 = v2 ∧ vR7 h2 := by
      rw [ev1, ev2]
      have kT2 : kTx 3 Z h2 := Cl.1.f7 cc0 ((((vKeep.of f1 (by decide +kernel)) : vKeep vL6c _ _)).tr ((vKeep.of f2 (by decide +kernel)) : vKeep vL6c _ _))
      have kJ2 : jK Z h2 := (Mo.1.f7 hg.1 ((((vKeep.of f1 (by decide +kernel)) : vKeep vL6j _ _)).tr ((vKeep.of f2 (by decide +kernel)) : vKeep vL6j _ _)))
      have r48 : xR h1 48 0 = 3 := (f1.2 48 0 rfl).trans Cl.2.1.1.2.2.2.2.2
      have i2 : vImg 3 Z h2 := Im.f7 A.1 ((((vKeep.of f1 (by decide +kernel)) : vKeep (vLw70 ++ vLim) _ _)).tr ((vKeep.of f2 (by decide +kernel)) : vKeep (vLw70 ++ vLim) _ _)) ((f2.2 70 0 rfl).trans (f1.2 70 0 rfl))
      have t2 : vTold 3 h2 := t1.fr ((f2.2 2 1 rfl).trans (f1.2 2 1 rfl)) ((f2.2 2 2 rfl).trans (f1.2 2 2 rfl))
      have y2_ : ∀ c k, c = 134 ∨ c = 137 → xI h2 c k = xI h1 c k := fun c k hc => by
        rcases hc with rfl | rfl
        · exact f2.1 134 k rfl
        · exact f2.1 137 k rfl
      have w2_ : ∀ (X : Nat → Int32), vWo48 3 Z X h3 → vWo48 3 Z X h2 := fun X w => (vWo48.ag ag1 g1.1 m3.1 A.1 w r48).fr ((vKeep.of f2 (by decide +kernel)) : vKeep vLw48 _ _) (f2.2 48 0 rfl)
      have p2_ : ∀ (N : Nat) (E : Nat → Int32 × Int32 × Int32), N ≤ 20 → kPa N E h3 → kPa N E h2 := fun N E hN w => (kPa.ag ag1 g1.1 m3.1 hN w).fr ((vKeep.of f2 (by decide +kernel)) : vKeep vLp _ _)
      rcases s1 with ⟨y1, y2, y3⟩ | ⟨y1, y2, G3, kw3, kd3, ke3, kp3⟩
      · rcases s2 with ⟨w1, w2, w3⟩ | ⟨w1, w2, -⟩
        · rw [y3] at w2_ p2_
          exact ⟨y2.trans w2.symm, 3, Z, Y, n, UU, En, t2, P, ⟨kT2, w2_ Y Cl.2.1, p2_ n En n20 Cl.2.2⟩, ⟨kJ2, jHf.ag ag2 g2.1 m4.1 A.1 (j2.o (fun c k c1 c2 => (w3.k (fun z => by have z : (c = 104 ∧ k = 2) := z; omega)))), ⟨fun r hr => (y2_ 134 _ (Or.inl rfl)).trans (j3.1 r hr), fun p hp => (y2_ 137 _ (Or.inr rfl)).trans (j3.2 p hp)⟩, jPa.ag ag2 g2.1 m4.1 A.1 n20 (j4.o A.1 (fun k => (w3.k (fun z => by have z : (149 = 104 ∧ k = 2) := z; omega))) (w3.k (fun z => by have z : (104 = 104 ∧ 76 = 2) := z; omega)))⟩, i2⟩
        · exact absurd w1 y1
      · rcases s2 with ⟨w1, w2, -⟩ | ⟨w1, w2, G4, jw4, jp4⟩
        · exact absurd y1 w1
        · obtain ⟨b1, b2, b3⟩ := id y1
          have ky3 : kY 48 Z (zup Y ((xs ((i + (Int32.ofInt (1)))).toNatClampNeg)).toInt.toNat ((xs ((i + (Int32.ofInt (2)))).toNatClampNeg))) h3 := (Cl.2.1.2.2.2.q G3 (by decide)).up A.1 (by omega)
          have P2 : vPst Z (zup Y ((xs ((i + (Int32.ofInt (1)))).toNatClampNeg)).toInt.toNat ((xs ((i + (Int32.ofInt (2)))).toNatClampNeg))) (zpn n) (zpu n UU (zup Y ((xs ((i + (Int32.ofInt (1)))).toNatClampNeg)).toInt.toNat ((xs ((i + (Int32.ofInt (2)))).toNatClampNeg)))) (zpe n En ((Int32.ofInt (2)), ((xs ((i + (Int32.ofInt (1)))).toNatClampNeg)), Y ((xs ((i + (Int32.ofInt (1)))).toNatClampNeg)).toInt.toNat)) := P.push (zVd_dc A.1 V (by omega) b2) (zup_o (by omega)) (Or.inr (Or.inr ⟨rfl, b1, (V.1 ((xs ((i + (Int32.ofInt (1)))).toNatClampNeg)).toInt.toNat (by omega)).1, (V.1 ((xs ((i + (Int32.ofInt (1)))).toNatClampNeg)).toInt.toNat (by omega)).2⟩)) zup_b.symm
          exact ⟨y2.trans w2.symm, 3, Z, (zup Y ((xs ((i + (Int32.ofInt (1)))).toNatClampNeg)).toInt.toNat ((xs ((i + (Int32.ofInt (2)))).toNatClampNeg))), zpn n, zpu n UU (zup Y ((xs ((i + (Int32.ofInt (1)))).toNatClampNeg)).toInt.toNat ((xs ((i + (Int32.ofInt (2)))).toNatClampNeg))), zpe n En ((Int32.ofInt (2)), ((xs ((i + (Int32.ofInt (1)))).toNatClampNeg)), Y ((xs ((i + (Int32.ofInt (1)))).toNatClampNeg)).toInt.toNat), t2, P2, ⟨kT2, w2_ _ ⟨kw3, kd3, ke3, ky3⟩, p2_ _ _ zpn_le kp3⟩, ⟨kJ2, jHf.ag ag2 g2.1 m4.1 A.1 jw4, j3.up A.1 (by omega) y2_, jPa.ag ag2 g2.1 m4.1 A.1 zpn_le jp4⟩, i2⟩
    have RT : vRl h2 := ⟨R0.1.fr ((((vKeep.of f1 (by decide +kernel)) : vKeep vL1 _ _)).tr ((vKeep.of f2 (by decide +kernel)) : vKeep vL1 _ _)), both.2⟩
    refine XB_path (sc := some (Ls, xs)) (inl := []) (n := 80) (sp := [23]) (o := []) (xin_ok rfl) (Or.inr rfl) rfl rfl (Nat.le_trans (Nat.le_of_eq g2.2.2.2.1) hN) (Nat.le_trans (Nat.le_of_eq g2.2.2.2.2) hU) trivial ?_
    show XB l Ls xs 14 538 false 288 N U F 23 [xf 50 1, xf 12 2, xf 13 104, xf 40001 152, xi (i + Int32.ofInt (6)), x5, x6] [] h2
    exact k h2 (x5) (x6) ⟨g2, RT⟩
  · have t1 : vTold 24 h := Or.inr ⟨rfl, rr1, rr2⟩
    have cc0 := t1.c
    obtain ⟨v1, h1, cc1, g1, f1, -⟩ := vl_96 l ((xs ((i + (Int32.ofInt (1)))).toNatClampNeg)) ((xs ((i + (Int32.ofInt (2)))).toNatClampNeg)) h hg (i32r_of _) (i32r_of _)
    obtain ⟨v3, h3, cc3, s1⟩ := ck_decree24 l Z Y ((xs ((i + (Int32.ofInt (1)))).toNatClampNeg)) ((xs ((i + (Int32.ofInt (2)))).toNatClampNeg)) n En h (mI.of hg) A rr1 Cl.1 Cl.2.1.1 V Cl.2.1.2.1 Cl.2.1.2.2.1 Cl.2.2
    have m3 : mI h3 := by
      rcases s1 with ⟨-, -, e⟩ | ⟨-, -, G, -⟩
      · rw [e]; exact mI.of hg
      · exact G.1
    refine XB_two (i := .invokevirtual 96) (aux := 3) (nx := 650) (K := 96) (vs := [xf 12 2, xi (xs ((i + (Int32.ofInt (1)))).toNatClampNeg), xi (xs ((i + (Int32.ofInt (2)))).toNatClampNeg)]) (rs := [xi v1]) (rs2 := [xi v3]) (rest := []) rfl rfl rfl rfl rfl rfl cc1 cc3 ⟨g1.2.2.2.1.trans hg.2.2.2.1.symm, g1.2.2.2.2.trans hg.2.2.2.2.symm⟩ ⟨m3.2.2.2.1.trans hg.2.2.2.1.symm, m3.2.2.2.2.trans hg.2.2.2.2.symm⟩ (by decide) (by decide) (by decide) (by decide) (Nat.le_of_ble_eq_true rfl) ⟨Nat.le_trans (Nat.le_of_eq g1.2.2.2.1) hN, Nat.le_trans (Nat.le_of_eq g1.2.2.2.2) hU⟩ (fun ag1 => ?_)
    show XB l Ls xs 14 538 false 288 N U F 650 [xf 50 1, xf 12 2, xf 13 104, xf 40001 152, xi i, x5, x6] [xi v1] h1
    have ev1 : v1 = v3 := ag1.v
    refine XB_path (sc := some (Ls, xs)) (inl := []) (n := 80) (sp := [664]) (o := []) (xin_ok rfl) (Or.inr rfl) rfl rfl (Nat.le_trans (Nat.le_of_eq g1.2.2.2.1) hN) (Nat.le_trans (Nat.le_of_eq g1.2.2.2.2) hU) ⟨⟨trivial, (vp_of (i := (i + (Int32.ofInt (1)))) (n := Ls) (by omega) (by omega))⟩, (vp_of (i := (i + (Int32.ofInt (2)))) (n := Ls) (by omega) (by omega))⟩ ?_
    show XB l Ls xs 14 538 false 288 N U F 664 [xf 50 1, xf 12 2, xf 13 104, xf 40001 152, xi i, x5, x6] [xi (xs ((i + (Int32.ofInt (2)))).toNatClampNeg), xi (xs ((i + (Int32.ofInt (1)))).toNatClampNeg), xf 13 104] h1
    obtain ⟨v2, h2, cc2, g2, f2, -⟩ := vl_242 l ((xs ((i + (Int32.ofInt (1)))).toNatClampNeg)) ((xs ((i + (Int32.ofInt (2)))).toNatClampNeg)) h1 g1 (i32r_of _) (i32r_of _)
    obtain ⟨j1, j2, j3, j4⟩ := Mo.f7 hg.1 A.1 ((vKeep.of f1 (by decide +kernel)) : vKeep (vL6j ++ vLh ++ vLq) _ _)
    rw [← un] at j2
    have VU : zVd Z (UU n) := by rw [un]; exact V
    obtain ⟨v4, h4, cc4, s2⟩ := jk_decree l Z UU n ((xs ((i + (Int32.ofInt (1)))).toNatClampNeg)) ((xs ((i + (Int32.ofInt (2)))).toNatClampNeg)) h1 (mI.of g1) A j1 n20 j2 VU j4
    have m4 : mI h4 := by
      rcases s2 with ⟨-, -, G⟩ | ⟨-, -, G, -⟩
      · exact G.1
      · exact G.1
    refine XB_two (i := .invokevirtual 242) (aux := 3) (nx := 667) (K := 242) (vs := [xf 13 104, xi (xs ((i + (Int32.ofInt (1)))).toNatClampNeg), xi (xs ((i + (Int32.ofInt (2)))).toNatClampNeg)]) (rs := [xi v2]) (rs2 := [xi v4]) (rest := []) rfl rfl rfl rfl rfl rfl cc2 cc4 ⟨g2.2.2.2.1.trans g1.2.2.2.1.symm, g2.2.2.2.2.trans g1.2.2.2.2.symm⟩ ⟨m4.2.2.2.1.trans g1.2.2.2.1.symm, m4.2.2.2.2.trans g1.2.2.2.2.symm⟩ (by decide) (by decide) (by decide) (by decide) (Nat.le_of_ble_eq_true rfl) ⟨Nat.le_trans (Nat.le_of_eq g2.2.2.2.1) hN, Nat.le_trans (Nat.le_of_eq g2.2.2.2.2) hU⟩ (fun ag2 => ?_)
    show XB l Ls xs 14 538 false 288 N U F 667 [xf 50 1, xf 12 2, xf 13 104, xf 40001 152, xi i, x5, x6] [xi v2] h2
    have ev2 : v2 = v4 := ag2.v
    rw [un] at s2 j2
    have both : v1 = v2 ∧ vR7 h2 := by
      rw [ev1, ev2]
      have kT2 : kTx 24 Z h2 := Cl.1.f7 cc0 ((((vKeep.of f1 (by decide +kernel)) : vKeep vL6c _ _)).tr ((vKeep.of f2 (by decide +kernel)) : vKeep vL6c _ _))
      have kJ2 : jK Z h2 := (Mo.1.f7 hg.1 ((((vKeep.of f1 (by decide +kernel)) : vKeep vL6j _ _)).tr ((vKeep.of f2 (by decide +kernel)) : vKeep vL6j _ _)))
      have r48 : xR h1 48 0 = 24 := (f1.2 48 0 rfl).trans Cl.2.1.1.2.2.2.2.2
      have i2 : vImg 24 Z h2 := Im.f7 A.1 ((((vKeep.of f1 (by decide +kernel)) : vKeep (vLw70 ++ vLim) _ _)).tr ((vKeep.of f2 (by decide +kernel)) : vKeep (vLw70 ++ vLim) _ _)) ((f2.2 70 0 rfl).trans (f1.2 70 0 rfl))
      have t2 : vTold 24 h2 := t1.fr ((f2.2 2 1 rfl).trans (f1.2 2 1 rfl)) ((f2.2 2 2 rfl).trans (f1.2 2 2 rfl))
      have y2_ : ∀ c k, c = 134 ∨ c = 137 → xI h2 c k = xI h1 c k := fun c k hc => by
        rcases hc with rfl | rfl
        · exact f2.1 134 k rfl
        · exact f2.1 137 k rfl
      have w2_ : ∀ (X : Nat → Int32), vWo48 24 Z X h3 → vWo48 24 Z X h2 := fun X w => (vWo48.ag ag1 g1.1 m3.1 A.1 w r48).fr ((vKeep.of f2 (by decide +kernel)) : vKeep vLw48 _ _) (f2.2 48 0 rfl)
      have p2_ : ∀ (N : Nat) (E : Nat → Int32 × Int32 × Int32), N ≤ 20 → kPa N E h3 → kPa N E h2 := fun N E hN w => (kPa.ag ag1 g1.1 m3.1 hN w).fr ((vKeep.of f2 (by decide +kernel)) : vKeep vLp _ _)
      rcases s1 with ⟨y1, y2, y3⟩ | ⟨y1, y2, G3, kw3, kd3, ke3, kp3⟩
      · rcases s2 with ⟨w1, w2, w3⟩ | ⟨w1, w2, -⟩
        · rw [y3] at w2_ p2_
          exact ⟨y2.trans w2.symm, 24, Z, Y, n, UU, En, t2, P, ⟨kT2, w2_ Y Cl.2.1, p2_ n En n20 Cl.2.2⟩, ⟨kJ2, jHf.ag ag2 g2.1 m4.1 A.1 (j2.o (fun c k c1 c2 => (w3.k (fun z => by have z : (c = 104 ∧ k = 2) := z; omega)))), ⟨fun r hr => (y2_ 134 _ (Or.inl rfl)).trans (j3.1 r hr), fun p hp => (y2_ 137 _ (Or.inr rfl)).trans (j3.2 p hp)⟩, jPa.ag ag2 g2.1 m4.1 A.1 n20 (j4.o A.1 (fun k => (w3.k (fun z => by have z : (149 = 104 ∧ k = 2) := z; omega))) (w3.k (fun z => by have z : (104 = 104 ∧ 76 = 2) := z; omega)))⟩, i2⟩
        · exact absurd w1 y1
      · rcases s2 with ⟨w1, w2, -⟩ | ⟨w1, w2, G4, jw4, jp4⟩
        · exact absurd y1 w1
        · obtain ⟨b1, b2, b3⟩ := id y1
          have ky3 : kY 48 Z (zup Y ((xs ((i + (Int32.ofInt (1)))).toNatClampNeg)).toInt.toNat ((xs ((i + (Int32.ofInt (2)))).toNatClampNeg))) h3 := (Cl.2.1.2.2.2.q G3 (by decide)).up A.1 (by omega)
          have P2 : vPst Z (zup Y ((xs ((i + (Int32.ofInt (1)))).toNatClampNeg)).toInt.toNat ((xs ((i + (Int32.ofInt (2)))).toNatClampNeg))) (zpn n) (zpu n UU (zup Y ((xs ((i + (Int32.ofInt (1)))).toNatClampNeg)).toInt.toNat ((xs ((i + (Int32.ofInt (2)))).toNatClampNeg)))) (zpe n En ((Int32.ofInt (2)), ((xs ((i + (Int32.ofInt (1)))).toNatClampNeg)), Y ((xs ((i + (Int32.ofInt (1)))).toNatClampNeg)).toInt.toNat)) := P.push (zVd_dc A.1 V (by omega) b2) (zup_o (by omega)) (Or.inr (Or.inr ⟨rfl, b1, (V.1 ((xs ((i + (Int32.ofInt (1)))).toNatClampNeg)).toInt.toNat (by omega)).1, (V.1 ((xs ((i + (Int32.ofInt (1)))).toNatClampNeg)).toInt.toNat (by omega)).2⟩)) zup_b.symm
          exact ⟨y2.trans w2.symm, 24, Z, (zup Y ((xs ((i + (Int32.ofInt (1)))).toNatClampNeg)).toInt.toNat ((xs ((i + (Int32.ofInt (2)))).toNatClampNeg))), zpn n, zpu n UU (zup Y ((xs ((i + (Int32.ofInt (1)))).toNatClampNeg)).toInt.toNat ((xs ((i + (Int32.ofInt (2)))).toNatClampNeg))), zpe n En ((Int32.ofInt (2)), ((xs ((i + (Int32.ofInt (1)))).toNatClampNeg)), Y ((xs ((i + (Int32.ofInt (1)))).toNatClampNeg)).toInt.toNat), t2, P2, ⟨kT2, w2_ _ ⟨kw3, kd3, ke3, ky3⟩, p2_ _ _ zpn_le kp3⟩, ⟨kJ2, jHf.ag ag2 g2.1 m4.1 A.1 jw4, j3.up A.1 (by omega) y2_, jPa.ag ag2 g2.1 m4.1 A.1 zpn_le jp4⟩, i2⟩
    have RT : vRl h2 := ⟨R0.1.fr ((((vKeep.of f1 (by decide +kernel)) : vKeep vL1 _ _)).tr ((vKeep.of f2 (by decide +kernel)) : vKeep vL1 _ _)), both.2⟩
    refine XB_path (sc := some (Ls, xs)) (inl := []) (n := 80) (sp := [23]) (o := []) (xin_ok rfl) (Or.inr rfl) rfl rfl (Nat.le_trans (Nat.le_of_eq g2.2.2.2.1) hN) (Nat.le_trans (Nat.le_of_eq g2.2.2.2.2) hU) trivial ?_
    show XB l Ls xs 14 538 false 288 N U F 23 [xf 50 1, xf 12 2, xf 13 104, xf 40001 152, xi (i + Int32.ofInt (6)), x5, x6] [] h2
    exact k h2 (x5) (x6) ⟨g2, RT⟩
set_option maxRecDepth 100000 in
set_option maxHeartbeats 4000000 in
theorem lw_c12 (l : Launch) (Ls : Nat) (xs : Nat → Int32) (N U : Nat) (F : List XV → XH → Prop) (i : Int32) (x5 x6 : XV) (h : XH) (H : vLw h) (i0 : 0 ≤ i.toInt) (i1 : i.toInt + 6 ≤ Ls) (hL : Ls ≤ 3072) (eL : (Int32.ofNat Ls - (Int32.ofInt (6))).toInt = Ls - 6) (hN : 153 ≤ N) (hU : 6051 ≤ U) (hc : (xs (i).toNatClampNeg &&& (Int32.ofInt (63))).toInt = 12) (k : ∀ h' x5' x6', vLw h' → XB l Ls xs 14 538 false 288 N U F 23 [xf 50 1, xf 12 2, xf 13 104, xf 40001 152, xi (i + (Int32.ofInt (6))), x5', x6'] [] h') : XB l Ls xs 14 538 false 288 N U F 23 [xf 50 1, xf 12 2, xf 13 104, xf 40001 152, xi i, x5, x6] [] h := by
  have e1 : (i + (Int32.ofInt (1))).toInt = i.toInt + 1 := by rw [Int32.toInt_add, show (Int32.ofInt (1)).toInt = 1 from rfl]; exact Int.bmod_eq_of_le (by omega) (by omega)
  have e2 : (i + (Int32.ofInt (2))).toInt = i.toInt + 2 := by rw [Int32.toInt_add, show (Int32.ofInt (2)).toInt = 2 from rfl]; exact Int.bmod_eq_of_le (by omega) (by omega)
  have e3 : (i + (Int32.ofInt (3))).toInt = i.toInt + 3 := by rw [Int32.toInt_add, show (Int32.ofInt (3)).toInt = 3 from rfl]; exact Int.bmod_eq_of_le (by omega) (by omega)
  have e4 : (i + (Int32.ofInt (4))).toInt = i.toInt + 4 := by rw [Int32.toInt_add, show (Int32.ofInt (4)).toInt = 4 from rfl]; exact Int.bmod_eq_of_le (by omega) (by omega)
  have e5 : (i + (Int32.ofInt (5))).toInt = i.toInt + 5 := by rw [Int32.toInt_add, show (Int32.ofInt (5)).toInt = 5 from rfl]; exact Int.bmod_eq_of_le (by omega) (by omega)
  have hg := H.1
  have R0 := H.2
  refine XB_path (sc := some (Ls, xs)) (inl := []) (n := 80) (sp := [678]) (o := [0, 13]) (xin_ok rfl) (Or.inr rfl) rfl rfl (Nat.le_trans (Nat.le_of_eq hg.2.2.2.1) hN) (Nat.le_trans (Nat.le_of_eq hg.2.2.2.2) hU) ⟨⟨⟨⟨trivial, (fun z => absurd (Int32.lt_iff_toInt_lt.mp z) (by omega))⟩, (vp_of (i := i) (n := Ls) (by omega) (by omega))⟩, ⟨hc, by decide⟩⟩, (vp_of (i := (i + (Int32.ofInt (1)))) (n := Ls) (by omega) (by omega))⟩ ?_
  show XB l Ls xs 14 538 false 288 N U F 678 [xf 50 1, xf 12 2, xf 13 104, xf 40001 152, xi i, x5, x6] [xi (xs ((i + (Int32.ofInt (1)))).toNatClampNeg), xf 12 2] h
  obtain ⟨c0, Z, Y, n, UU, En, t0, P, Cl, Mo, Im⟩ := id R0.2
  obtain ⟨A, V, md, n20, un, pk⟩ := id P
  obtain ⟨B, -, -, zv, -⟩ := id A
  have B0 := B.1.2
  have B2 := B.2.2.1.2
  rcases t0 with ⟨rfl, rr1, rr2⟩ | ⟨rfl, rr1, rr2⟩
  · have t1 : vTold 3 h := Or.inl ⟨rfl, rr1, rr2⟩
    have cc0 := t1.c
    obtain ⟨v1, h1, cc1, g1, f1, -⟩ := vl_97 l ((xs ((i + (Int32.ofInt (1)))).toNatClampNeg)) h hg (i32r_of _)
    obtain ⟨v3, h3, cc3, s1⟩ := ck_seasonsW3 l Z Y ((xs ((i + (Int32.ofInt (1)))).toNatClampNeg)) h (mI.of hg) A Cl.1 Cl.2.1.1 V Cl.2.1.2.1 Cl.2.1.2.2.1 Cl.2.1.2.2.2
    have m3 : mI h3 := by
      rcases s1 with ⟨-, e⟩ | ⟨-, G, -⟩
      · rw [e]; exact mI.of hg
      · exact G.1
    refine XB_two (i := .invokevirtual 97) (aux := 2) (nx := 681) (K := 97) (vs := [xf 12 2, xi (xs ((i + (Int32.ofInt (1)))).toNatClampNeg)]) (rs := [xi v1]) (rs2 := [xi v3]) (rest := []) rfl rfl rfl rfl rfl rfl cc1 cc3 ⟨g1.2.2.2.1.trans hg.2.2.2.1.symm, g1.2.2.2.2.trans hg.2.2.2.2.symm⟩ ⟨m3.2.2.2.1.trans hg.2.2.2.1.symm, m3.2.2.2.2.trans hg.2.2.2.2.symm⟩ (by decide) (by decide) (by decide) (by decide) (Nat.le_of_ble_eq_true rfl) ⟨Nat.le_trans (Nat.le_of_eq g1.2.2.2.1) hN, Nat.le_trans (Nat.le_of_eq g1.2.2.2.2) hU⟩ (fun ag1 => ?_)
    show XB l Ls xs 14 538 false 288 N U F 681 [xf 50 1, xf 12 2, xf 13 104, xf 40001 152, xi i, x5, x6] [xi v1] h1
    refine XB_path (sc := some (Ls, xs)) (inl := []) (n := 80) (sp := [689]) (o := []) (xin_ok rfl) (Or.inr rfl) rfl rfl (Nat.le_trans (Nat.le_of_eq g1.2.2.2.1) hN) (Nat.le_trans (Nat.le_of_eq g1.2.2.2.2) hU) ⟨trivial, (vp_of (i := (i + (Int32.ofInt (1)))) (n := Ls) (by omega) (by omega))⟩ ?_
    show XB l Ls xs 14 538 false 288 N U F 689 [xf 50 1, xf 12 2, xf 13 104, xf 40001 152, xi i, x5, x6] [xi (xs ((i + (Int32.ofInt (1)))).toNatClampNeg), xf 13 104] h1
    obtain ⟨v2, h2, cc2, g2, f2, -⟩ := vl_243 l ((xs ((i + (Int32.ofInt (1)))).toNatClampNeg)) h1 g1 (i32r_of _)
    obtain ⟨j1, j2, j3, j4⟩ := Mo.f7 hg.1 A.1 ((vKeep.of f1 (by decide +kernel)) : vKeep (vL6j ++ vLh ++ vLq) _ _)
    obtain ⟨v4, h4, cc4, s2⟩ := jk_seasonsW l Z Y ((xs ((i + (Int32.ofInt (1)))).toNatClampNeg)) h1 (mI.of g1) A j1 j2 V md j3
    have m4 : mI h4 := by
      rcases s2 with ⟨-, G⟩ | ⟨-, G, -⟩
      · exact G.1
      · exact G.1
    refine XB_two (i := .invokevirtual 243) (aux := 2) (nx := 692) (K := 243) (vs := [xf 13 104, xi (xs ((i + (Int32.ofInt (1)))).toNatClampNeg)]) (rs := [xi v2]) (rs2 := [xi v4]) (rest := []) rfl rfl rfl rfl rfl rfl cc2 cc4 ⟨g2.2.2.2.1.trans g1.2.2.2.1.symm, g2.2.2.2.2.trans g1.2.2.2.2.symm⟩ ⟨m4.2.2.2.1.trans g1.2.2.2.1.symm, m4.2.2.2.2.trans g1.2.2.2.2.symm⟩ (by decide) (by decide) (by decide) (by decide) (Nat.le_of_ble_eq_true rfl) ⟨Nat.le_trans (Nat.le_of_eq g2.2.2.2.1) hN, Nat.le_trans (Nat.le_of_eq g2.2.2.2.2) hU⟩ (fun ag2 => ?_)
    show XB l Ls xs 14 538 false 288 N U F 692 [xf 50 1, xf 12 2, xf 13 104, xf 40001 152, xi i, x5, x6] [xi v2] h2
    have both : vR7 h2 := by
      have kT2 : kTx 3 Z h2 := Cl.1.f7 cc0 ((((vKeep.of f1 (by decide +kernel)) : vKeep vL6c _ _)).tr ((vKeep.of f2 (by decide +kernel)) : vKeep vL6c _ _))
      have kJ2 : jK Z h2 := (Mo.1.f7 hg.1 ((((vKeep.of f1 (by decide +kernel)) : vKeep vL6j _ _)).tr ((vKeep.of f2 (by decide +kernel)) : vKeep vL6j _ _)))
      have r48 : xR h1 48 0 = 3 := (f1.2 48 0 rfl).trans Cl.2.1.1.2.2.2.2.2
      have i2 : vImg 3 Z h2 := Im.f7 A.1 ((((vKeep.of f1 (by decide +kernel)) : vKeep (vLw70 ++ vLim) _ _)).tr ((vKeep.of f2 (by decide +kernel)) : vKeep (vLw70 ++ vLim) _ _)) ((f2.2 70 0 rfl).trans (f1.2 70 0 rfl))
      have t2 : vTold 3 h2 := t1.fr ((f2.2 2 1 rfl).trans (f1.2 2 1 rfl)) ((f2.2 2 2 rfl).trans (f1.2 2 2 rfl))
      have w2_ : ∀ (X : Nat → Int32), vWo48 3 Z X h3 → vWo48 3 Z X h2 := fun X w => (vWo48.ag ag1 g1.1 m3.1 A.1 w r48).fr ((vKeep.of f2 (by decide +kernel)) : vKeep vLw48 _ _) (f2.2 48 0 rfl)
      have p2_ : ∀ (N : Nat) (E : Nat → Int32 × Int32 × Int32), N ≤ 20 → kPa N E h3 → kPa N E h2 := fun N E hN w => (kPa.ag ag1 g1.1 m3.1 hN w).fr ((vKeep.of f2 (by decide +kernel)) : vKeep vLp _ _)
      rcases s1 with ⟨y1, y3⟩ | ⟨y1, G3, kw3, V3, kd3, ke3, ky3, u1, u0⟩
      · rcases s2 with ⟨w1, w3⟩ | ⟨w1, -⟩
        · rw [y3] at w2_ p2_
          exact ⟨3, Z, Y, n, UU, En, t2, P, ⟨kT2, w2_ Y Cl.2.1, p2_ n En n20 Cl.2.2⟩, ⟨kJ2, jHf.ag ag2 g2.1 m4.1 A.1 (j2.o (fun c k c1 c2 => (w3.k (fun z => by have z : (c = 104 ∧ k = 2) := z; omega)))), jY.ag ag2 g2.1 m4.1 A.1 ⟨fun r hr => ((w3.k (fun z => by have z : (134 = 104 ∧ _ = 2) := z; omega))).trans (j3.1 r hr), fun p hp => ((w3.k (fun z => by have z : (137 = 104 ∧ _ = 2) := z; omega))).trans (j3.2 p hp)⟩, jPa.ag ag2 g2.1 m4.1 A.1 n20 (j4.o A.1 (fun k => (w3.k (fun z => by have z : (149 = 104 ∧ k = 2) := z; omega))) (w3.k (fun z => by have z : (104 = 104 ∧ 76 = 2) := z; omega)))⟩, i2⟩
        · exact absurd w1 y1
      · rcases s2 with ⟨w1, -⟩ | ⟨w1, G4, jw4, jy4, o1, o0⟩
        · exact absurd y1 w1
        · by_cases hz : ((xs ((i + (Int32.ofInt (1)))).toNatClampNeg)).toInt = 0
          · have e0 : ((xs ((i + (Int32.ofInt (1)))).toNatClampNeg)).toInt.toNat = 0 := by rw [hz]; rfl
            rw [e0] at kw3 V3 kd3 ke3 ky3 jw4 jy4
            have kp3 : kPa n En h3 := ⟨by rw [u0 hz]; exact Cl.2.2.1, fun k hk => by rw [G3.2.1 82 k (by decide), G3.2.1 83 k (by decide), G3.2.1 84 k (by decide)]; exact Cl.2.2.2 k hk⟩
            have jp4 : jPa n UU Z h4 := j4.o A.1 (fun k => jk_sea149 G4) (o0 hz)
            exact ⟨3, Z, Y, n, UU, En, t2, P, ⟨kT2, w2_ Y ⟨kw3, kd3, ke3, ky3⟩, p2_ n En n20 kp3⟩, ⟨kJ2, jHf.ag ag2 g2.1 m4.1 A.1 jw4, jY.ag ag2 g2.1 m4.1 A.1 jy4, jPa.ag ag2 g2.1 m4.1 A.1 n20 jp4⟩, i2⟩
          · have hp : 0 < ((xs ((i + (Int32.ofInt (1)))).toNatClampNeg)).toInt := by have := y1.1; omega
            have kp3 : kPa 0 En h3 := ⟨by rw [u1 hp]; rfl, fun k hk => absurd hk (Nat.not_lt_zero k)⟩
            have jp4 : jPa 0 (fun _ => (zIt Z ((xs ((i + (Int32.ofInt (1)))).toNatClampNeg)).toInt.toNat Y)) Z h4 := ⟨by rw [o1 hp]; rfl, fun k hk => absurd hk (Nat.not_lt_zero k)⟩
            exact ⟨3, Z, (zIt Z ((xs ((i + (Int32.ofInt (1)))).toNatClampNeg)).toInt.toNat Y), 0, fun _ => (zIt Z ((xs ((i + (Int32.ofInt (1)))).toNatClampNeg)).toInt.toNat Y), En, t2, vPst.nil A V3 ((zIt_51 A.1 _ _).trans md) En, ⟨kT2, w2_ _ ⟨kw3, kd3, ke3, ky3⟩, p2_ 0 En (by decide) kp3⟩, ⟨kJ2, jHf.ag ag2 g2.1 m4.1 A.1 jw4, jY.ag ag2 g2.1 m4.1 A.1 jy4, jPa.ag ag2 g2.1 m4.1 A.1 (by decide) jp4⟩, i2⟩
    have RT : vRl h2 := ⟨R0.1.fr ((((vKeep.of f1 (by decide +kernel)) : vKeep vL1 _ _)).tr ((vKeep.of f2 (by decide +kernel)) : vKeep vL1 _ _)), both⟩
    refine XB_path (sc := some (Ls, xs)) (inl := []) (n := 80) (sp := [23]) (o := []) (xin_ok rfl) (Or.inr rfl) rfl rfl (Nat.le_trans (Nat.le_of_eq g2.2.2.2.1) hN) (Nat.le_trans (Nat.le_of_eq g2.2.2.2.2) hU) trivial ?_
    show XB l Ls xs 14 538 false 288 N U F 23 [xf 50 1, xf 12 2, xf 13 104, xf 40001 152, xi (i + Int32.ofInt (6)), x5, x6] [] h2
    exact k h2 (x5) (x6) ⟨g2, RT⟩
  · have t1 : vTold 24 h := Or.inr ⟨rfl, rr1, rr2⟩
    have cc0 := t1.c
    obtain ⟨v1, h1, cc1, g1, f1, -⟩ := vl_97 l ((xs ((i + (Int32.ofInt (1)))).toNatClampNeg)) h hg (i32r_of _)
    obtain ⟨v3, h3, cc3, s1⟩ := ck_seasonsW24 l Z Y ((xs ((i + (Int32.ofInt (1)))).toNatClampNeg)) h (mI.of hg) A Cl.1 Cl.2.1.1 V Cl.2.1.2.1 Cl.2.1.2.2.1 Cl.2.1.2.2.2
    have m3 : mI h3 := by
      rcases s1 with ⟨-, e⟩ | ⟨-, G, -⟩
      · rw [e]; exact mI.of hg
      · exact G.1
    refine XB_two (i := .invokevirtual 97) (aux := 2) (nx := 681) (K := 97) (vs := [xf 12 2, xi (xs ((i + (Int32.ofInt (1)))).toNatClampNeg)]) (rs := [xi v1]) (rs2 := [xi v3]) (rest := []) rfl rfl rfl rfl rfl rfl cc1 cc3 ⟨g1.2.2.2.1.trans hg.2.2.2.1.symm, g1.2.2.2.2.trans hg.2.2.2.2.symm⟩ ⟨m3.2.2.2.1.trans hg.2.2.2.1.symm, m3.2.2.2.2.trans hg.2.2.2.2.symm⟩ (by decide) (by decide) (by decide) (by decide) (Nat.le_of_ble_eq_true rfl) ⟨Nat.le_trans (Nat.le_of_eq g1.2.2.2.1) hN, Nat.le_trans (Nat.le_of_eq g1.2.2.2.2) hU⟩ (fun ag1 => ?_)
    show XB l Ls xs 14 538 false 288 N U F 681 [xf 50 1, xf 12 2, xf 13 104, xf 40001 152, xi i, x5, x6] [xi v1] h1
    refine XB_path (sc := some (Ls, xs)) (inl := []) (n := 80) (sp := [689]) (o := []) (xin_ok rfl) (Or.inr rfl) rfl rfl (Nat.le_trans (Nat.le_of_eq g1.2.2.2.1) hN) (Nat.le_trans (Nat.le_of_eq g1.2.2.2.2) hU) ⟨trivial, (vp_of (i := (i + (Int32.ofInt (1)))) (n := Ls) (by omega) (by omega))⟩ ?_
    show XB l Ls xs 14 538 false 288 N U F 689 [xf 50 1, xf 12 2, xf 13 104, xf 40001 152, xi i, x5, x6] [xi (xs ((i + (Int32.ofInt (1)))).toNatClampNeg), xf 13 104] h1
    obtain ⟨v2, h2, cc2, g2, f2, -⟩ := vl_243 l ((xs ((i + (Int32.ofInt (1)))).toNatClampNeg)) h1 g1 (i32r_of _)
    obtain ⟨j1, j2, j3, j4⟩ := Mo.f7 hg.1 A.1 ((vKeep.of f1 (by decide +kernel)) : vKeep (vL6j ++ vLh ++ vLq) _ _)
    obtain ⟨v4, h4, cc4, s2⟩ := jk_seasonsW l Z Y ((xs ((i + (Int32.ofInt (1)))).toNatClampNeg)) h1 (mI.of g1) A j1 j2 V md j3
    have m4 : mI h4 := by
      rcases s2 with ⟨-, G⟩ | ⟨-, G, -⟩
      · exact G.1
      · exact G.1
    refine XB_two (i := .invokevirtual 243) (aux := 2) (nx := 692) (K := 243) (vs := [xf 13 104, xi (xs ((i + (Int32.ofInt (1)))).toNatClampNeg)]) (rs := [xi v2]) (rs2 := [xi v4]) (rest := []) rfl rfl rfl rfl rfl rfl cc2 cc4 ⟨g2.2.2.2.1.trans g1.2.2.2.1.symm, g2.2.2.2.2.trans g1.2.2.2.2.symm⟩ ⟨m4.2.2.2.1.trans g1.2.2.2.1.symm, m4.2.2.2.2.trans g1.2.2.2.2.symm⟩ (by decide) (by decide) (by decide) (by decide) (Nat.le_of_ble_eq_true rfl) ⟨Nat.le_trans (Nat.le_of_eq g2.2.2.2.1) hN, Nat.le_trans (Nat.le_of_eq g2.2.2.2.2) hU⟩ (fun ag2 => ?_)
    show XB l Ls xs 14 538 false 288 N U F 692 [xf 50 1, xf 12 2, xf 13 104, xf 40001 152, xi i, x5, x6] [xi v2] h2
    have both : vR7 h2 := by
      have kT2 : kTx 24 Z h2 := Cl.1.f7 cc0 ((((vKeep.of f1 (by decide +kernel)) : vKeep vL6c _ _)).tr ((vKeep.of f2 (by decide +kernel)) : vKeep vL6c _ _))
      have kJ2 : jK Z h2 := (Mo.1.f7 hg.1 ((((vKeep.of f1 (by decide +kernel)) : vKeep vL6j _ _)).tr ((vKeep.of f2 (by decide +kernel)) : vKeep vL6j _ _)))
      have r48 : xR h1 48 0 = 24 := (f1.2 48 0 rfl).trans Cl.2.1.1.2.2.2.2.2
      have i2 : vImg 24 Z h2 := Im.f7 A.1 ((((vKeep.of f1 (by decide +kernel)) : vKeep (vLw70 ++ vLim) _ _)).tr ((vKeep.of f2 (by decide +kernel)) : vKeep (vLw70 ++ vLim) _ _)) ((f2.2 70 0 rfl).trans (f1.2 70 0 rfl))
      have t2 : vTold 24 h2 := t1.fr ((f2.2 2 1 rfl).trans (f1.2 2 1 rfl)) ((f2.2 2 2 rfl).trans (f1.2 2 2 rfl))
      have w2_ : ∀ (X : Nat → Int32), vWo48 24 Z X h3 → vWo48 24 Z X h2 := fun X w => (vWo48.ag ag1 g1.1 m3.1 A.1 w r48).fr ((vKeep.of f2 (by decide +kernel)) : vKeep vLw48 _ _) (f2.2 48 0 rfl)
      have p2_ : ∀ (N : Nat) (E : Nat → Int32 × Int32 × Int32), N ≤ 20 → kPa N E h3 → kPa N E h2 := fun N E hN w => (kPa.ag ag1 g1.1 m3.1 hN w).fr ((vKeep.of f2 (by decide +kernel)) : vKeep vLp _ _)
      rcases s1 with ⟨y1, y3⟩ | ⟨y1, G3, kw3, V3, kd3, ke3, ky3, u1, u0⟩
      · rcases s2 with ⟨w1, w3⟩ | ⟨w1, -⟩
        · rw [y3] at w2_ p2_
          exact ⟨24, Z, Y, n, UU, En, t2, P, ⟨kT2, w2_ Y Cl.2.1, p2_ n En n20 Cl.2.2⟩, ⟨kJ2, jHf.ag ag2 g2.1 m4.1 A.1 (j2.o (fun c k c1 c2 => (w3.k (fun z => by have z : (c = 104 ∧ k = 2) := z; omega)))), jY.ag ag2 g2.1 m4.1 A.1 ⟨fun r hr => ((w3.k (fun z => by have z : (134 = 104 ∧ _ = 2) := z; omega))).trans (j3.1 r hr), fun p hp => ((w3.k (fun z => by have z : (137 = 104 ∧ _ = 2) := z; omega))).trans (j3.2 p hp)⟩, jPa.ag ag2 g2.1 m4.1 A.1 n20 (j4.o A.1 (fun k => (w3.k (fun z => by have z : (149 = 104 ∧ k = 2) := z; omega))) (w3.k (fun z => by have z : (104 = 104 ∧ 76 = 2) := z; omega)))⟩, i2⟩
        · exact absurd w1 y1
      · rcases s2 with ⟨w1, -⟩ | ⟨w1, G4, jw4, jy4, o1, o0⟩
        · exact absurd y1 w1
        · by_cases hz : ((xs ((i + (Int32.ofInt (1)))).toNatClampNeg)).toInt = 0
          · have e0 : ((xs ((i + (Int32.ofInt (1)))).toNatClampNeg)).toInt.toNat = 0 := by rw [hz]; rfl
            rw [e0] at kw3 V3 kd3 ke3 ky3 jw4 jy4
            have kp3 : kPa n En h3 := ⟨by rw [u0 hz]; exact Cl.2.2.1, fun k hk => by rw [G3.2.1 82 k (by decide), G3.2.1 83 k (by decide), G3.2.1 84 k (by decide)]; exact Cl.2.2.2 k hk⟩
            have jp4 : jPa n UU Z h4 := j4.o A.1 (fun k => jk_sea149 G4) (o0 hz)
            exact ⟨24, Z, Y, n, UU, En, t2, P, ⟨kT2, w2_ Y ⟨kw3, kd3, ke3, ky3⟩, p2_ n En n20 kp3⟩, ⟨kJ2, jHf.ag ag2 g2.1 m4.1 A.1 jw4, jY.ag ag2 g2.1 m4.1 A.1 jy4, jPa.ag ag2 g2.1 m4.1 A.1 n20 jp4⟩, i2⟩
          · have hp : 0 < ((xs ((i + (Int32.ofInt (1)))).toNatClampNeg)).toInt := by have := y1.1; omega
            have kp3 : kPa 0 En h3 := ⟨by rw [u1 hp]; rfl, fun k hk => absurd hk (Nat.not_lt_zero k)⟩
            have jp4 : jPa 0 (fun _ => (zIt Z ((xs ((i + (Int32.ofInt (1)))).toNatClampNeg)).toInt.toNat Y)) Z h4 := ⟨by rw [o1 hp]; rfl, fun k hk => absurd hk (Nat.not_lt_zero k)⟩
            exact ⟨24, Z, (zIt Z ((xs ((i + (Int32.ofInt (1)))).toNatClampNeg)).toInt.toNat Y), 0, fun _ => (zIt Z ((xs ((i + (Int32.ofInt (1)))).toNatClampNeg)).toInt.toNat Y), En, t2, vPst.nil A V3 ((zIt_51 A.1 _ _).trans md) En, ⟨kT2, w2_ _ ⟨kw3, kd3, ke3, ky3⟩, p2_ 0 En (by decide) kp3⟩, ⟨kJ2, jHf.ag ag2 g2.1 m4.1 A.1 jw4, jY.ag ag2 g2.1 m4.1 A.1 jy4, jPa.ag ag2 g2.1 m4.1 A.1 (by decide) jp4⟩, i2⟩
    have RT : vRl h2 := ⟨R0.1.fr ((((vKeep.of f1 (by decide +kernel)) : vKeep vL1 _ _)).tr ((vKeep.of f2 (by decide +kernel)) : vKeep vL1 _ _)), both⟩
    refine XB_path (sc := some (Ls, xs)) (inl := []) (n := 80) (sp := [23]) (o := []) (xin_ok rfl) (Or.inr rfl) rfl rfl (Nat.le_trans (Nat.le_of_eq g2.2.2.2.1) hN) (Nat.le_trans (Nat.le_of_eq g2.2.2.2.2) hU) trivial ?_
    show XB l Ls xs 14 538 false 288 N U F 23 [xf 50 1, xf 12 2, xf 13 104, xf 40001 152, xi (i + Int32.ofInt (6)), x5, x6] [] h2
    exact k h2 (x5) (x6) ⟨g2, RT⟩
set_option maxRecDepth 100000 in
set_option maxHeartbeats 4000000 in
theorem lw_c13 (l : Launch) (Ls : Nat) (xs : Nat → Int32) (N U : Nat) (F : List XV → XH → Prop) (i : Int32) (x5 x6 : XV) (h : XH) (H : vLw h) (i0 : 0 ≤ i.toInt) (i1 : i.toInt + 6 ≤ Ls) (hL : Ls ≤ 3072) (eL : (Int32.ofNat Ls - (Int32.ofInt (6))).toInt = Ls - 6) (hN : 153 ≤ N) (hU : 6051 ≤ U) (hc : (xs (i).toNatClampNeg &&& (Int32.ofInt (63))).toInt = 13) (k : ∀ h' x5' x6', vLw h' → XB l Ls xs 14 538 false 288 N U F 23 [xf 50 1, xf 12 2, xf 13 104, xf 40001 152, xi (i + (Int32.ofInt (6))), x5', x6'] [] h') : XB l Ls xs 14 538 false 288 N U F 23 [xf 50 1, xf 12 2, xf 13 104, xf 40001 152, xi i, x5, x6] [] h := by
  have e1 : (i + (Int32.ofInt (1))).toInt = i.toInt + 1 := by rw [Int32.toInt_add, show (Int32.ofInt (1)).toInt = 1 from rfl]; exact Int.bmod_eq_of_le (by omega) (by omega)
  have e2 : (i + (Int32.ofInt (2))).toInt = i.toInt + 2 := by rw [Int32.toInt_add, show (Int32.ofInt (2)).toInt = 2 from rfl]; exact Int.bmod_eq_of_le (by omega) (by omega)
  have e3 : (i + (Int32.ofInt (3))).toInt = i.toInt + 3 := by rw [Int32.toInt_add, show (Int32.ofInt (3)).toInt = 3 from rfl]; exact Int.bmod_eq_of_le (by omega) (by omega)
  have e4 : (i + (Int32.ofInt (4))).toInt = i.toInt + 4 := by rw [Int32.toInt_add, show (Int32.ofInt (4)).toInt = 4 from rfl]; exact Int.bmod_eq_of_le (by omega) (by omega)
  have e5 : (i + (Int32.ofInt (5))).toInt = i.toInt + 5 := by rw [Int32.toInt_add, show (Int32.ofInt (5)).toInt = 5 from rfl]; exact Int.bmod_eq_of_le (by omega) (by omega)
  have hg := H.1
  have R0 := H.2
  refine XB_path (sc := some (Ls, xs)) (inl := []) (n := 80) (sp := [715]) (o := [0, 14]) (xin_ok rfl) (Or.inr rfl) rfl rfl (Nat.le_trans (Nat.le_of_eq hg.2.2.2.1) hN) (Nat.le_trans (Nat.le_of_eq hg.2.2.2.2) hU) ⟨⟨⟨⟨⟨⟨trivial, (fun z => absurd (Int32.lt_iff_toInt_lt.mp z) (by omega))⟩, (vp_of (i := i) (n := Ls) (by omega) (by omega))⟩, ⟨hc, by decide⟩⟩, (vp_of (i := (i + (Int32.ofInt (1)))) (n := Ls) (by omega) (by omega))⟩, (vp_of (i := (i + (Int32.ofInt (2)))) (n := Ls) (by omega) (by omega))⟩, (vp_of (i := (i + (Int32.ofInt (3)))) (n := Ls) (by omega) (by omega))⟩ ?_
  show XB l Ls xs 14 538 false 288 N U F 715 [xf 50 1, xf 12 2, xf 13 104, xf 40001 152, xi i, x5, x6] [xi (xs ((i + (Int32.ofInt (3)))).toNatClampNeg), xi (xs ((i + (Int32.ofInt (2)))).toNatClampNeg), xi (xs ((i + (Int32.ofInt (1)))).toNatClampNeg), xf 12 2] h
  obtain ⟨v1, h1, cc1, g1, f1, -⟩ := vl_103 l ((xs ((i + (Int32.ofInt (1)))).toNatClampNeg)) ((xs ((i + (Int32.ofInt (2)))).toNatClampNeg)) ((xs ((i + (Int32.ofInt (3)))).toNatClampNeg)) h hg (i32r_of _) (i32r_of _) (i32r_of _)
  refine XB_call (i := .invokevirtual 103) (aux := 4) (nx := 718) (K := 103) (vs := [xf 12 2, xi (xs ((i + (Int32.ofInt (1)))).toNatClampNeg), xi (xs ((i + (Int32.ofInt (2)))).toNatClampNeg), xi (xs ((i + (Int32.ofInt (3)))).toNatClampNeg)]) (rs := [xi v1]) (rest := []) rfl rfl rfl rfl rfl rfl cc1 (by decide) (by decide) (Nat.le_of_ble_eq_true rfl) ⟨Nat.le_trans (Nat.le_of_eq g1.2.2.2.1) hN, Nat.le_trans (Nat.le_of_eq g1.2.2.2.2) hU⟩ ?_
  show XB l Ls xs 14 538 false 288 N U F 718 [xf 50 1, xf 12 2, xf 13 104, xf 40001 152, xi i, x5, x6] [xi v1] h1
  have R1 := R0.fr hg.1 f1 (by decide +kernel) (by decide +kernel) rfl rfl rfl rfl
  refine XB_path (sc := some (Ls, xs)) (inl := []) (n := 80) (sp := [738]) (o := []) (xin_ok rfl) (Or.inr rfl) rfl rfl (Nat.le_trans (Nat.le_of_eq g1.2.2.2.1) hN) (Nat.le_trans (Nat.le_of_eq g1.2.2.2.2) hU) ⟨⟨⟨trivial, (vp_of (i := (i + (Int32.ofInt (1)))) (n := Ls) (by omega) (by omega))⟩, (vp_of (i := (i + (Int32.ofInt (2)))) (n := Ls) (by omega) (by omega))⟩, (vp_of (i := (i + (Int32.ofInt (3)))) (n := Ls) (by omega) (by omega))⟩ ?_
  show XB l Ls xs 14 538 false 288 N U F 738 [xf 50 1, xf 12 2, xf 13 104, xf 40001 152, xi i, x5, x6] [xi (xs ((i + (Int32.ofInt (3)))).toNatClampNeg), xi (xs ((i + (Int32.ofInt (2)))).toNatClampNeg), xi (xs ((i + (Int32.ofInt (1)))).toNatClampNeg), xf 13 104] h1
  obtain ⟨v2, h2, cc2, g2, f2, -⟩ := vl_246 l ((xs ((i + (Int32.ofInt (1)))).toNatClampNeg)) ((xs ((i + (Int32.ofInt (2)))).toNatClampNeg)) ((xs ((i + (Int32.ofInt (3)))).toNatClampNeg)) h1 g1 (i32r_of _) (i32r_of _) (i32r_of _)
  refine XB_call (i := .invokevirtual 246) (aux := 4) (nx := 741) (K := 246) (vs := [xf 13 104, xi (xs ((i + (Int32.ofInt (1)))).toNatClampNeg), xi (xs ((i + (Int32.ofInt (2)))).toNatClampNeg), xi (xs ((i + (Int32.ofInt (3)))).toNatClampNeg)]) (rs := [xi v2]) (rest := []) rfl rfl rfl rfl rfl rfl cc2 (by decide) (by decide) (Nat.le_of_ble_eq_true rfl) ⟨Nat.le_trans (Nat.le_of_eq g2.2.2.2.1) hN, Nat.le_trans (Nat.le_of_eq g2.2.2.2.2) hU⟩ ?_
  show XB l Ls xs 14 538 false 288 N U F 741 [xf 50 1, xf 12 2, xf 13 104, xf 40001 152, xi i, x5, x6] [xi v2] h2
  have R2 := R1.fr g1.1 f2 (by decide +kernel) (by decide +kernel) rfl rfl rfl rfl
  refine XB_path (sc := some (Ls, xs)) (inl := []) (n := 80) (sp := [23]) (o := []) (xin_ok rfl) (Or.inr rfl) rfl rfl (Nat.le_trans (Nat.le_of_eq g2.2.2.2.1) hN) (Nat.le_trans (Nat.le_of_eq g2.2.2.2.2) hU) trivial ?_
  show XB l Ls xs 14 538 false 288 N U F 23 [xf 50 1, xf 12 2, xf 13 104, xf 40001 152, xi (i + Int32.ofInt (6)), x5, x6] [] h2
  exact k h2 (x5) (x6) ⟨g2, R2⟩
set_option maxRecDepth 100000 in
set_option maxHeartbeats 4000000 in
theorem lw_c14 (l : Launch) (Ls : Nat) (xs : Nat → Int32) (N U : Nat) (F : List XV → XH → Prop) (i : Int32) (x5 x6 : XV) (h : XH) (H : vLw h) (i0 : 0 ≤ i.toInt) (i1 : i.toInt + 6 ≤ Ls) (hL : Ls ≤ 3072) (eL : (Int32.ofNat Ls - (Int32.ofInt (6))).toInt = Ls - 6) (hN : 153 ≤ N) (hU : 6051 ≤ U) (hc : (xs (i).toNatClampNeg &&& (Int32.ofInt (63))).toInt = 14) (k : ∀ h' x5' x6', vLw h' → XB l Ls xs 14 538 false 288 N U F 23 [xf 50 1, xf 12 2, xf 13 104, xf 40001 152, xi (i + (Int32.ofInt (6))), x5', x6'] [] h') : XB l Ls xs 14 538 false 288 N U F 23 [xf 50 1, xf 12 2, xf 13 104, xf 40001 152, xi i, x5, x6] [] h := by
  have e1 : (i + (Int32.ofInt (1))).toInt = i.toInt + 1 := by rw [Int32.toInt_add, show (Int32.ofInt (1)).toInt = 1 from rfl]; exact Int.bmod_eq_of_le (by omega) (by omega)
  have e2 : (i + (Int32.ofInt (2))).toInt = i.toInt + 2 := by rw [Int32.toInt_add, show (Int32.ofInt (2)).toInt = 2 from rfl]; exact Int.bmod_eq_of_le (by omega) (by omega)
  have e3 : (i + (Int32.ofInt (3))).toInt = i.toInt + 3 := by rw [Int32.toInt_add, show (Int32.ofInt (3)).toInt = 3 from rfl]; exact Int.bmod_eq_of_le (by omega) (by omega)
  have e4 : (i + (Int32.ofInt (4))).toInt = i.toInt + 4 := by rw [Int32.toInt_add, show (Int32.ofInt (4)).toInt = 4 from rfl]; exact Int.bmod_eq_of_le (by omega) (by omega)
  have e5 : (i + (Int32.ofInt (5))).toInt = i.toInt + 5 := by rw [Int32.toInt_add, show (Int32.ofInt (5)).toInt = 5 from rfl]; exact Int.bmod_eq_of_le (by omega) (by omega)
  have hg := H.1
  have R0 := H.2
  refine XB_path (sc := some (Ls, xs)) (inl := []) (n := 80) (sp := [752]) (o := [0, 15]) (xin_ok rfl) (Or.inr rfl) rfl rfl (Nat.le_trans (Nat.le_of_eq hg.2.2.2.1) hN) (Nat.le_trans (Nat.le_of_eq hg.2.2.2.2) hU) ⟨⟨⟨⟨trivial, (fun z => absurd (Int32.lt_iff_toInt_lt.mp z) (by omega))⟩, (vp_of (i := i) (n := Ls) (by omega) (by omega))⟩, ⟨hc, by decide⟩⟩, (vp_of (i := (i + (Int32.ofInt (1)))) (n := Ls) (by omega) (by omega))⟩ ?_
  show XB l Ls xs 14 538 false 288 N U F 752 [xf 50 1, xf 12 2, xf 13 104, xf 40001 152, xi i, x5, x6] [xi (xs ((i + (Int32.ofInt (1)))).toNatClampNeg), xf 12 2] h
  obtain ⟨v1, h1, cc1, g1, f1, -⟩ := vl_106 l ((xs ((i + (Int32.ofInt (1)))).toNatClampNeg)) h hg (i32r_of _)
  refine XB_call (i := .invokevirtual 106) (aux := 2) (nx := 755) (K := 106) (vs := [xf 12 2, xi (xs ((i + (Int32.ofInt (1)))).toNatClampNeg)]) (rs := [xi v1]) (rest := []) rfl rfl rfl rfl rfl rfl cc1 (by decide) (by decide) (Nat.le_of_ble_eq_true rfl) ⟨Nat.le_trans (Nat.le_of_eq g1.2.2.2.1) hN, Nat.le_trans (Nat.le_of_eq g1.2.2.2.2) hU⟩ ?_
  show XB l Ls xs 14 538 false 288 N U F 755 [xf 50 1, xf 12 2, xf 13 104, xf 40001 152, xi i, x5, x6] [xi v1] h1
  have R1 := R0.fr hg.1 f1 (by decide +kernel) (by decide +kernel) rfl rfl rfl rfl
  refine XB_path (sc := some (Ls, xs)) (inl := []) (n := 80) (sp := [763]) (o := []) (xin_ok rfl) (Or.inr rfl) rfl rfl (Nat.le_trans (Nat.le_of_eq g1.2.2.2.1) hN) (Nat.le_trans (Nat.le_of_eq g1.2.2.2.2) hU) ⟨trivial, (vp_of (i := (i + (Int32.ofInt (1)))) (n := Ls) (by omega) (by omega))⟩ ?_
  show XB l Ls xs 14 538 false 288 N U F 763 [xf 50 1, xf 12 2, xf 13 104, xf 40001 152, xi i, x5, x6] [xi (xs ((i + (Int32.ofInt (1)))).toNatClampNeg), xf 13 104] h1
  obtain ⟨v2, h2, cc2, g2, f2, -⟩ := vl_249 l ((xs ((i + (Int32.ofInt (1)))).toNatClampNeg)) h1 g1 (i32r_of _)
  refine XB_call (i := .invokevirtual 249) (aux := 2) (nx := 766) (K := 249) (vs := [xf 13 104, xi (xs ((i + (Int32.ofInt (1)))).toNatClampNeg)]) (rs := [xi v2]) (rest := []) rfl rfl rfl rfl rfl rfl cc2 (by decide) (by decide) (Nat.le_of_ble_eq_true rfl) ⟨Nat.le_trans (Nat.le_of_eq g2.2.2.2.1) hN, Nat.le_trans (Nat.le_of_eq g2.2.2.2.2) hU⟩ ?_
  show XB l Ls xs 14 538 false 288 N U F 766 [xf 50 1, xf 12 2, xf 13 104, xf 40001 152, xi i, x5, x6] [xi v2] h2
  have R2 := R1.fr g1.1 f2 (by decide +kernel) (by decide +kernel) rfl rfl rfl rfl
  refine XB_path (sc := some (Ls, xs)) (inl := []) (n := 80) (sp := [23]) (o := []) (xin_ok rfl) (Or.inr rfl) rfl rfl (Nat.le_trans (Nat.le_of_eq g2.2.2.2.1) hN) (Nat.le_trans (Nat.le_of_eq g2.2.2.2.2) hU) trivial ?_
  show XB l Ls xs 14 538 false 288 N U F 23 [xf 50 1, xf 12 2, xf 13 104, xf 40001 152, xi (i + Int32.ofInt (6)), x5, x6] [] h2
  exact k h2 (x5) (x6) ⟨g2, R2⟩
set_option maxRecDepth 100000 in
set_option maxHeartbeats 4000000 in
theorem lw_c15 (l : Launch) (Ls : Nat) (xs : Nat → Int32) (N U : Nat) (F : List XV → XH → Prop) (i : Int32) (x5 x6 : XV) (h : XH) (H : vLw h) (i0 : 0 ≤ i.toInt) (i1 : i.toInt + 6 ≤ Ls) (hL : Ls ≤ 3072) (eL : (Int32.ofNat Ls - (Int32.ofInt (6))).toInt = Ls - 6) (hN : 153 ≤ N) (hU : 6051 ≤ U) (hc : (xs (i).toNatClampNeg &&& (Int32.ofInt (63))).toInt = 15) (k : ∀ h' x5' x6', vLw h' → XB l Ls xs 14 538 false 288 N U F 23 [xf 50 1, xf 12 2, xf 13 104, xf 40001 152, xi (i + (Int32.ofInt (6))), x5', x6'] [] h') : XB l Ls xs 14 538 false 288 N U F 23 [xf 50 1, xf 12 2, xf 13 104, xf 40001 152, xi i, x5, x6] [] h := by
  have e1 : (i + (Int32.ofInt (1))).toInt = i.toInt + 1 := by rw [Int32.toInt_add, show (Int32.ofInt (1)).toInt = 1 from rfl]; exact Int.bmod_eq_of_le (by omega) (by omega)
  have e2 : (i + (Int32.ofInt (2))).toInt = i.toInt + 2 := by rw [Int32.toInt_add, show (Int32.ofInt (2)).toInt = 2 from rfl]; exact Int.bmod_eq_of_le (by omega) (by omega)
  have e3 : (i + (Int32.ofInt (3))).toInt = i.toInt + 3 := by rw [Int32.toInt_add, show (Int32.ofInt (3)).toInt = 3 from rfl]; exact Int.bmod_eq_of_le (by omega) (by omega)
  have e4 : (i + (Int32.ofInt (4))).toInt = i.toInt + 4 := by rw [Int32.toInt_add, show (Int32.ofInt (4)).toInt = 4 from rfl]; exact Int.bmod_eq_of_le (by omega) (by omega)
  have e5 : (i + (Int32.ofInt (5))).toInt = i.toInt + 5 := by rw [Int32.toInt_add, show (Int32.ofInt (5)).toInt = 5 from rfl]; exact Int.bmod_eq_of_le (by omega) (by omega)
  have hg := H.1
  have R0 := H.2
  refine XB_path (sc := some (Ls, xs)) (inl := []) (n := 80) (sp := [777]) (o := [0, 16]) (xin_ok rfl) (Or.inr rfl) rfl rfl (Nat.le_trans (Nat.le_of_eq hg.2.2.2.1) hN) (Nat.le_trans (Nat.le_of_eq hg.2.2.2.2) hU) ⟨⟨⟨⟨trivial, (fun z => absurd (Int32.lt_iff_toInt_lt.mp z) (by omega))⟩, (vp_of (i := i) (n := Ls) (by omega) (by omega))⟩, ⟨hc, by decide⟩⟩, (vp_of (i := (i + (Int32.ofInt (1)))) (n := Ls) (by omega) (by omega))⟩ ?_
  show XB l Ls xs 14 538 false 288 N U F 777 [xf 50 1, xf 12 2, xf 13 104, xf 40001 152, xi i, x5, x6] [xi (xs ((i + (Int32.ofInt (1)))).toNatClampNeg), xf 12 2] h
  obtain ⟨v1, h1, cc1, g1, f1, -⟩ := vl_107 l ((xs ((i + (Int32.ofInt (1)))).toNatClampNeg)) h hg (i32r_of _)
  refine XB_call (i := .invokevirtual 107) (aux := 2) (nx := 780) (K := 107) (vs := [xf 12 2, xi (xs ((i + (Int32.ofInt (1)))).toNatClampNeg)]) (rs := [xi v1]) (rest := []) rfl rfl rfl rfl rfl rfl cc1 (by decide) (by decide) (Nat.le_of_ble_eq_true rfl) ⟨Nat.le_trans (Nat.le_of_eq g1.2.2.2.1) hN, Nat.le_trans (Nat.le_of_eq g1.2.2.2.2) hU⟩ ?_
  show XB l Ls xs 14 538 false 288 N U F 780 [xf 50 1, xf 12 2, xf 13 104, xf 40001 152, xi i, x5, x6] [xi v1] h1
  have R1 := R0.fr hg.1 f1 (by decide +kernel) (by decide +kernel) rfl rfl rfl rfl
  refine XB_path (sc := some (Ls, xs)) (inl := []) (n := 80) (sp := [788]) (o := []) (xin_ok rfl) (Or.inr rfl) rfl rfl (Nat.le_trans (Nat.le_of_eq g1.2.2.2.1) hN) (Nat.le_trans (Nat.le_of_eq g1.2.2.2.2) hU) ⟨trivial, (vp_of (i := (i + (Int32.ofInt (1)))) (n := Ls) (by omega) (by omega))⟩ ?_
  show XB l Ls xs 14 538 false 288 N U F 788 [xf 50 1, xf 12 2, xf 13 104, xf 40001 152, xi i, x5, x6] [xi (xs ((i + (Int32.ofInt (1)))).toNatClampNeg), xf 13 104] h1
  obtain ⟨v2, h2, cc2, g2, f2, -⟩ := vl_250 l ((xs ((i + (Int32.ofInt (1)))).toNatClampNeg)) h1 g1 (i32r_of _)
  refine XB_call (i := .invokevirtual 250) (aux := 2) (nx := 791) (K := 250) (vs := [xf 13 104, xi (xs ((i + (Int32.ofInt (1)))).toNatClampNeg)]) (rs := [xi v2]) (rest := []) rfl rfl rfl rfl rfl rfl cc2 (by decide) (by decide) (Nat.le_of_ble_eq_true rfl) ⟨Nat.le_trans (Nat.le_of_eq g2.2.2.2.1) hN, Nat.le_trans (Nat.le_of_eq g2.2.2.2.2) hU⟩ ?_
  show XB l Ls xs 14 538 false 288 N U F 791 [xf 50 1, xf 12 2, xf 13 104, xf 40001 152, xi i, x5, x6] [xi v2] h2
  have R2 := R1.fr g1.1 f2 (by decide +kernel) (by decide +kernel) rfl rfl rfl rfl
  refine XB_path (sc := some (Ls, xs)) (inl := []) (n := 80) (sp := [23]) (o := []) (xin_ok rfl) (Or.inr rfl) rfl rfl (Nat.le_trans (Nat.le_of_eq g2.2.2.2.1) hN) (Nat.le_trans (Nat.le_of_eq g2.2.2.2.2) hU) trivial ?_
  show XB l Ls xs 14 538 false 288 N U F 23 [xf 50 1, xf 12 2, xf 13 104, xf 40001 152, xi (i + Int32.ofInt (6)), x5, x6] [] h2
  exact k h2 (x5) (x6) ⟨g2, R2⟩
set_option maxRecDepth 100000 in
set_option maxHeartbeats 4000000 in
theorem lw_c16 (l : Launch) (Ls : Nat) (xs : Nat → Int32) (N U : Nat) (F : List XV → XH → Prop) (i : Int32) (x5 x6 : XV) (h : XH) (H : vLw h) (i0 : 0 ≤ i.toInt) (i1 : i.toInt + 6 ≤ Ls) (hL : Ls ≤ 3072) (eL : (Int32.ofNat Ls - (Int32.ofInt (6))).toInt = Ls - 6) (hN : 153 ≤ N) (hU : 6051 ≤ U) (hc : (xs (i).toNatClampNeg &&& (Int32.ofInt (63))).toInt = 16) (k : ∀ h' x5' x6', vLw h' → XB l Ls xs 14 538 false 288 N U F 23 [xf 50 1, xf 12 2, xf 13 104, xf 40001 152, xi (i + (Int32.ofInt (6))), x5', x6'] [] h') : XB l Ls xs 14 538 false 288 N U F 23 [xf 50 1, xf 12 2, xf 13 104, xf 40001 152, xi i, x5, x6] [] h := by
  have e1 : (i + (Int32.ofInt (1))).toInt = i.toInt + 1 := by rw [Int32.toInt_add, show (Int32.ofInt (1)).toInt = 1 from rfl]; exact Int.bmod_eq_of_le (by omega) (by omega)
  have e2 : (i + (Int32.ofInt (2))).toInt = i.toInt + 2 := by rw [Int32.toInt_add, show (Int32.ofInt (2)).toInt = 2 from rfl]; exact Int.bmod_eq_of_le (by omega) (by omega)
  have e3 : (i + (Int32.ofInt (3))).toInt = i.toInt + 3 := by rw [Int32.toInt_add, show (Int32.ofInt (3)).toInt = 3 from rfl]; exact Int.bmod_eq_of_le (by omega) (by omega)
  have e4 : (i + (Int32.ofInt (4))).toInt = i.toInt + 4 := by rw [Int32.toInt_add, show (Int32.ofInt (4)).toInt = 4 from rfl]; exact Int.bmod_eq_of_le (by omega) (by omega)
  have e5 : (i + (Int32.ofInt (5))).toInt = i.toInt + 5 := by rw [Int32.toInt_add, show (Int32.ofInt (5)).toInt = 5 from rfl]; exact Int.bmod_eq_of_le (by omega) (by omega)
  have hg := H.1
  have R0 := H.2
  by_cases c1 : (xs ((i + (Int32.ofInt (2)))).toNatClampNeg) = 0
  · refine XB_path (sc := some (Ls, xs)) (inl := []) (n := 80) (sp := [816]) (o := [0, 17, 1]) (xin_ok rfl) (Or.inr rfl) rfl rfl (Nat.le_trans (Nat.le_of_eq hg.2.2.2.1) hN) (Nat.le_trans (Nat.le_of_eq hg.2.2.2.2) hU) ⟨⟨⟨⟨⟨⟨trivial, (fun z => absurd (Int32.lt_iff_toInt_lt.mp z) (by omega))⟩, (vp_of (i := i) (n := Ls) (by omega) (by omega))⟩, ⟨hc, by decide⟩⟩, (vp_of (i := (i + (Int32.ofInt (1)))) (n := Ls) (by omega) (by omega))⟩, (vp_of (i := (i + (Int32.ofInt (2)))) (n := Ls) (by omega) (by omega))⟩, c1⟩ ?_
    show XB l Ls xs 14 538 false 288 N U F 816 [xf 50 1, xf 12 2, xf 13 104, xf 40001 152, xi i, x5, x6] [xi (Int32.ofInt (0)), xi (xs ((i + (Int32.ofInt (1)))).toNatClampNeg), xf 12 2] h
    obtain ⟨v1, h1, cc1, g1, f1, -⟩ := vl_111 l ((xs ((i + (Int32.ofInt (1)))).toNatClampNeg)) ((Int32.ofInt (0))) h hg (i32r_of _) ⟨by decide, by decide⟩
    refine XB_call (i := .invokevirtual 111) (aux := 3) (nx := 819) (K := 111) (vs := [xf 12 2, xi (xs ((i + (Int32.ofInt (1)))).toNatClampNeg), xi (Int32.ofInt (0))]) (rs := [xi v1]) (rest := []) rfl rfl rfl rfl rfl rfl cc1 (by decide) (by decide) (Nat.le_of_ble_eq_true rfl) ⟨Nat.le_trans (Nat.le_of_eq g1.2.2.2.1) hN, Nat.le_trans (Nat.le_of_eq g1.2.2.2.2) hU⟩ ?_
    show XB l Ls xs 14 538 false 288 N U F 819 [xf 50 1, xf 12 2, xf 13 104, xf 40001 152, xi i, x5, x6] [xi v1] h1
    have R1 := R0.fr hg.1 f1 (by decide +kernel) (by decide +kernel) rfl rfl rfl rfl
    refine XB_path (sc := some (Ls, xs)) (inl := []) (n := 80) (sp := [841]) (o := [1]) (xin_ok rfl) (Or.inr rfl) rfl rfl (Nat.le_trans (Nat.le_of_eq g1.2.2.2.1) hN) (Nat.le_trans (Nat.le_of_eq g1.2.2.2.2) hU) ⟨⟨⟨trivial, (vp_of (i := (i + (Int32.ofInt (1)))) (n := Ls) (by omega) (by omega))⟩, (vp_of (i := (i + (Int32.ofInt (2)))) (n := Ls) (by omega) (by omega))⟩, c1⟩ ?_
    show XB l Ls xs 14 538 false 288 N U F 841 [xf 50 1, xf 12 2, xf 13 104, xf 40001 152, xi i, x5, x6] [xi (Int32.ofInt (0)), xi (xs ((i + (Int32.ofInt (1)))).toNatClampNeg), xf 13 104] h1
    obtain ⟨v2, h2, cc2, g2, f2, -⟩ := vl_253 l ((xs ((i + (Int32.ofInt (1)))).toNatClampNeg)) ((Int32.ofInt (0))) h1 g1 (i32r_of _) ⟨by decide, by decide⟩
    refine XB_call (i := .invokevirtual 253) (aux := 3) (nx := 844) (K := 253) (vs := [xf 13 104, xi (xs ((i + (Int32.ofInt (1)))).toNatClampNeg), xi (Int32.ofInt (0))]) (rs := [xi v2]) (rest := []) rfl rfl rfl rfl rfl rfl cc2 (by decide) (by decide) (Nat.le_of_ble_eq_true rfl) ⟨Nat.le_trans (Nat.le_of_eq g2.2.2.2.1) hN, Nat.le_trans (Nat.le_of_eq g2.2.2.2.2) hU⟩ ?_
    show XB l Ls xs 14 538 false 288 N U F 844 [xf 50 1, xf 12 2, xf 13 104, xf 40001 152, xi i, x5, x6] [xi v2] h2
    have R2 := R1.fr g1.1 f2 (by decide +kernel) (by decide +kernel) rfl rfl rfl rfl
    refine XB_path (sc := some (Ls, xs)) (inl := []) (n := 80) (sp := [23]) (o := []) (xin_ok rfl) (Or.inr rfl) rfl rfl (Nat.le_trans (Nat.le_of_eq g2.2.2.2.1) hN) (Nat.le_trans (Nat.le_of_eq g2.2.2.2.2) hU) trivial ?_
    show XB l Ls xs 14 538 false 288 N U F 23 [xf 50 1, xf 12 2, xf 13 104, xf 40001 152, xi (i + Int32.ofInt (6)), x5, x6] [] h2
    exact k h2 (x5) (x6) ⟨g2, R2⟩
  · refine XB_path (sc := some (Ls, xs)) (inl := []) (n := 80) (sp := [816]) (o := [0, 17, 0]) (xin_ok rfl) (Or.inr rfl) rfl rfl (Nat.le_trans (Nat.le_of_eq hg.2.2.2.1) hN) (Nat.le_trans (Nat.le_of_eq hg.2.2.2.2) hU) ⟨⟨⟨⟨⟨⟨trivial, (fun z => absurd (Int32.lt_iff_toInt_lt.mp z) (by omega))⟩, (vp_of (i := i) (n := Ls) (by omega) (by omega))⟩, ⟨hc, by decide⟩⟩, (vp_of (i := (i + (Int32.ofInt (1)))) (n := Ls) (by omega) (by omega))⟩, (vp_of (i := (i + (Int32.ofInt (2)))) (n := Ls) (by omega) (by omega))⟩, c1⟩ ?_
    show XB l Ls xs 14 538 false 288 N U F 816 [xf 50 1, xf 12 2, xf 13 104, xf 40001 152, xi i, x5, x6] [xi (Int32.ofInt (1)), xi (xs ((i + (Int32.ofInt (1)))).toNatClampNeg), xf 12 2] h
    obtain ⟨v3, h3, cc3, g3, f3, -⟩ := vl_111 l ((xs ((i + (Int32.ofInt (1)))).toNatClampNeg)) ((Int32.ofInt (1))) h hg (i32r_of _) ⟨by decide, by decide⟩
    refine XB_call (i := .invokevirtual 111) (aux := 3) (nx := 819) (K := 111) (vs := [xf 12 2, xi (xs ((i + (Int32.ofInt (1)))).toNatClampNeg), xi (Int32.ofInt (1))]) (rs := [xi v3]) (rest := []) rfl rfl rfl rfl rfl rfl cc3 (by decide) (by decide) (Nat.le_of_ble_eq_true rfl) ⟨Nat.le_trans (Nat.le_of_eq g3.2.2.2.1) hN, Nat.le_trans (Nat.le_of_eq g3.2.2.2.2) hU⟩ ?_
    show XB l Ls xs 14 538 false 288 N U F 819 [xf 50 1, xf 12 2, xf 13 104, xf 40001 152, xi i, x5, x6] [xi v3] h3
    have R3 := R0.fr hg.1 f3 (by decide +kernel) (by decide +kernel) rfl rfl rfl rfl
    refine XB_path (sc := some (Ls, xs)) (inl := []) (n := 80) (sp := [841]) (o := [0]) (xin_ok rfl) (Or.inr rfl) rfl rfl (Nat.le_trans (Nat.le_of_eq g3.2.2.2.1) hN) (Nat.le_trans (Nat.le_of_eq g3.2.2.2.2) hU) ⟨⟨⟨trivial, (vp_of (i := (i + (Int32.ofInt (1)))) (n := Ls) (by omega) (by omega))⟩, (vp_of (i := (i + (Int32.ofInt (2)))) (n := Ls) (by omega) (by omega))⟩, c1⟩ ?_
    show XB l Ls xs 14 538 false 288 N U F 841 [xf 50 1, xf 12 2, xf 13 104, xf 40001 152, xi i, x5, x6] [xi (Int32.ofInt (1)), xi (xs ((i + (Int32.ofInt (1)))).toNatClampNeg), xf 13 104] h3
    obtain ⟨v4, h4, cc4, g4, f4, -⟩ := vl_253 l ((xs ((i + (Int32.ofInt (1)))).toNatClampNeg)) ((Int32.ofInt (1))) h3 g3 (i32r_of _) ⟨by decide, by decide⟩
    refine XB_call (i := .invokevirtual 253) (aux := 3) (nx := 844) (K := 253) (vs := [xf 13 104, xi (xs ((i + (Int32.ofInt (1)))).toNatClampNeg), xi (Int32.ofInt (1))]) (rs := [xi v4]) (rest := []) rfl rfl rfl rfl rfl rfl cc4 (by decide) (by decide) (Nat.le_of_ble_eq_true rfl) ⟨Nat.le_trans (Nat.le_of_eq g4.2.2.2.1) hN, Nat.le_trans (Nat.le_of_eq g4.2.2.2.2) hU⟩ ?_
    show XB l Ls xs 14 538 false 288 N U F 844 [xf 50 1, xf 12 2, xf 13 104, xf 40001 152, xi i, x5, x6] [xi v4] h4
    have R4 := R3.fr g3.1 f4 (by decide +kernel) (by decide +kernel) rfl rfl rfl rfl
    refine XB_path (sc := some (Ls, xs)) (inl := []) (n := 80) (sp := [23]) (o := []) (xin_ok rfl) (Or.inr rfl) rfl rfl (Nat.le_trans (Nat.le_of_eq g4.2.2.2.1) hN) (Nat.le_trans (Nat.le_of_eq g4.2.2.2.2) hU) trivial ?_
    show XB l Ls xs 14 538 false 288 N U F 23 [xf 50 1, xf 12 2, xf 13 104, xf 40001 152, xi (i + Int32.ofInt (6)), x5, x6] [] h4
    exact k h4 (x5) (x6) ⟨g4, R4⟩
set_option maxRecDepth 100000 in
set_option maxHeartbeats 4000000 in
theorem lw_c17 (l : Launch) (Ls : Nat) (xs : Nat → Int32) (N U : Nat) (F : List XV → XH → Prop) (i : Int32) (x5 x6 : XV) (h : XH) (H : vLw h) (i0 : 0 ≤ i.toInt) (i1 : i.toInt + 6 ≤ Ls) (hL : Ls ≤ 3072) (eL : (Int32.ofNat Ls - (Int32.ofInt (6))).toInt = Ls - 6) (hN : 153 ≤ N) (hU : 6051 ≤ U) (hc : (xs (i).toNatClampNeg &&& (Int32.ofInt (63))).toInt = 17) (k : ∀ h' x5' x6', vLw h' → XB l Ls xs 14 538 false 288 N U F 23 [xf 50 1, xf 12 2, xf 13 104, xf 40001 152, xi (i + (Int32.ofInt (6))), x5', x6'] [] h') : XB l Ls xs 14 538 false 288 N U F 23 [xf 50 1, xf 12 2, xf 13 104, xf 40001 152, xi i, x5, x6] [] h := by
  have e1 : (i + (Int32.ofInt (1))).toInt = i.toInt + 1 := by rw [Int32.toInt_add, show (Int32.ofInt (1)).toInt = 1 from rfl]; exact Int.bmod_eq_of_le (by omega) (by omega)
  have e2 : (i + (Int32.ofInt (2))).toInt = i.toInt + 2 := by rw [Int32.toInt_add, show (Int32.ofInt (2)).toInt = 2 from rfl]; exact Int.bmod_eq_of_le (by omega) (by omega)
  have e3 : (i + (Int32.ofInt (3))).toInt = i.toInt + 3 := by rw [Int32.toInt_add, show (Int32.ofInt (3)).toInt = 3 from rfl]; exact Int.bmod_eq_of_le (by omega) (by omega)
  have e4 : (i + (Int32.ofInt (4))).toInt = i.toInt + 4 := by rw [Int32.toInt_add, show (Int32.ofInt (4)).toInt = 4 from rfl]; exact Int.bmod_eq_of_le (by omega) (by omega)
  have e5 : (i + (Int32.ofInt (5))).toInt = i.toInt + 5 := by rw [Int32.toInt_add, show (Int32.ofInt (5)).toInt = 5 from rfl]; exact Int.bmod_eq_of_le (by omega) (by omega)
  have hg := H.1
  have R0 := H.2
  refine XB_path (sc := some (Ls, xs)) (inl := []) (n := 80) (sp := [855]) (o := [0, 18]) (xin_ok rfl) (Or.inr rfl) rfl rfl (Nat.le_trans (Nat.le_of_eq hg.2.2.2.1) hN) (Nat.le_trans (Nat.le_of_eq hg.2.2.2.2) hU) ⟨⟨⟨⟨trivial, (fun z => absurd (Int32.lt_iff_toInt_lt.mp z) (by omega))⟩, (vp_of (i := i) (n := Ls) (by omega) (by omega))⟩, ⟨hc, by decide⟩⟩, (vp_of (i := (i + (Int32.ofInt (1)))) (n := Ls) (by omega) (by omega))⟩ ?_
  show XB l Ls xs 14 538 false 288 N U F 855 [xf 50 1, xf 12 2, xf 13 104, xf 40001 152, xi i, x5, x6] [xi (xs ((i + (Int32.ofInt (1)))).toNatClampNeg), xf 12 2] h
  obtain ⟨v1, h1, cc1, g1, f1, -⟩ := vl_115 l ((xs ((i + (Int32.ofInt (1)))).toNatClampNeg)) h hg (i32r_of _)
  refine XB_call (i := .invokevirtual 115) (aux := 2) (nx := 858) (K := 115) (vs := [xf 12 2, xi (xs ((i + (Int32.ofInt (1)))).toNatClampNeg)]) (rs := [xi v1]) (rest := []) rfl rfl rfl rfl rfl rfl cc1 (by decide) (by decide) (Nat.le_of_ble_eq_true rfl) ⟨Nat.le_trans (Nat.le_of_eq g1.2.2.2.1) hN, Nat.le_trans (Nat.le_of_eq g1.2.2.2.2) hU⟩ ?_
  show XB l Ls xs 14 538 false 288 N U F 858 [xf 50 1, xf 12 2, xf 13 104, xf 40001 152, xi i, x5, x6] [xi v1] h1
  have R1 := R0.fr hg.1 f1 (by decide +kernel) (by decide +kernel) rfl rfl rfl rfl
  refine XB_path (sc := some (Ls, xs)) (inl := []) (n := 80) (sp := [866]) (o := []) (xin_ok rfl) (Or.inr rfl) rfl rfl (Nat.le_trans (Nat.le_of_eq g1.2.2.2.1) hN) (Nat.le_trans (Nat.le_of_eq g1.2.2.2.2) hU) ⟨trivial, (vp_of (i := (i + (Int32.ofInt (1)))) (n := Ls) (by omega) (by omega))⟩ ?_
  show XB l Ls xs 14 538 false 288 N U F 866 [xf 50 1, xf 12 2, xf 13 104, xf 40001 152, xi i, x5, x6] [xi (xs ((i + (Int32.ofInt (1)))).toNatClampNeg), xf 13 104] h1
  obtain ⟨v2, h2, cc2, g2, f2, -⟩ := vl_255 l ((xs ((i + (Int32.ofInt (1)))).toNatClampNeg)) h1 g1 (i32r_of _)
  refine XB_call (i := .invokevirtual 255) (aux := 2) (nx := 869) (K := 255) (vs := [xf 13 104, xi (xs ((i + (Int32.ofInt (1)))).toNatClampNeg)]) (rs := [xi v2]) (rest := []) rfl rfl rfl rfl rfl rfl cc2 (by decide) (by decide) (Nat.le_of_ble_eq_true rfl) ⟨Nat.le_trans (Nat.le_of_eq g2.2.2.2.1) hN, Nat.le_trans (Nat.le_of_eq g2.2.2.2.2) hU⟩ ?_
  show XB l Ls xs 14 538 false 288 N U F 869 [xf 50 1, xf 12 2, xf 13 104, xf 40001 152, xi i, x5, x6] [xi v2] h2
  have R2 := R1.fr g1.1 f2 (by decide +kernel) (by decide +kernel) rfl rfl rfl rfl
  refine XB_path (sc := some (Ls, xs)) (inl := []) (n := 80) (sp := [23]) (o := []) (xin_ok rfl) (Or.inr rfl) rfl rfl (Nat.le_trans (Nat.le_of_eq g2.2.2.2.1) hN) (Nat.le_trans (Nat.le_of_eq g2.2.2.2.2) hU) trivial ?_
  show XB l Ls xs 14 538 false 288 N U F 23 [xf 50 1, xf 12 2, xf 13 104, xf 40001 152, xi (i + Int32.ofInt (6)), x5, x6] [] h2
  exact k h2 (x5) (x6) ⟨g2, R2⟩
