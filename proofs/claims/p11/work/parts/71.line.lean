/-! A LINE READ BY THE MODEL. -/
theorem vq_399 (l : Launch)  (h : XH) (hg : sgood vT vR vE 153 6051 h) (w0 : 0 ≤ (xI h 104 7).toInt ∧ (xI h 104 7).toInt ≤ 700) : ∃ (v : Int32) (h' : XH), CX l 3 70 false 188 [xf 13 104] h [xi v] h' ∧ sgood vT vR vE 153 6051 h' ∧ sframe ([(104, 4, false), (104, 5, false), (104, 7, false), (104, 8, false), (104, 9, false), (104, 10, false), (104, 11, false), (104, 17, false), (109, 0, true), (110, 6, false), (110, 7, false), (110, 8, false), (110, 9, false), (110, 10, false), (110, 11, false), (111, 6, false), (111, 7, false), (111, 8, false), (111, 9, false), (111, 10, false), (111, 11, false), (112, 6, false), (112, 7, false), (112, 8, false), (112, 9, false), (112, 10, false), (112, 11, false)], []) h h' ∧ (((0 ≤ v.toInt ∧ v.toInt ≤ 0) ∧ (0 ≤ (xI h' 104 7).toInt ∧ (xI h' 104 7).toInt ≤ 700) ∧ (0 ≤ (xI h' 104 8).toInt ∧ (xI h' 104 8).toInt ≤ 6) ∧ ((xI h 104 7).toInt + 0 ≤ (xI h' 104 7).toInt)) ∨ ((0 ≤ v.toInt ∧ v.toInt ≤ 0) ∧ (0 ≤ (xI h' 104 7).toInt ∧ (xI h' 104 7).toInt ≤ 700) ∧ (2 ≤ (xI h' 104 8).toInt ∧ (xI h' 104 8).toInt ≤ 3) ∧ ((xI h 104 7).toInt + 0 ≤ (xI h' 104 7).toInt)) ∨ ((0 ≤ (xI h 104 7).toInt ∧ (xI h 104 7).toInt ≤ 699) ∧ (0 ≤ v.toInt ∧ v.toInt ≤ 0) ∧ (0 ≤ (xI h' 104 7).toInt ∧ (xI h' 104 7).toInt ≤ 700) ∧ (2 ≤ (xI h' 104 8).toInt ∧ (xI h' 104 8).toInt ≤ 2) ∧ ((xI h 104 7).toInt + 1 ≤ (xI h' 104 7).toInt)) ∨ ((0 ≤ (xI h 104 7).toInt ∧ (xI h 104 7).toInt ≤ 699) ∧ (0 ≤ v.toInt ∧ v.toInt ≤ 0) ∧ (0 ≤ (xI h' 104 7).toInt ∧ (xI h' 104 7).toInt ≤ 700) ∧ (0 ≤ (xI h' 104 8).toInt ∧ (xI h' 104 8).toInt ≤ 6) ∧ ((xI h 104 7).toInt + 1 ≤ (xI h' 104 7).toInt)) ∨ ((1 ≤ v.toInt ∧ v.toInt ≤ 1) ∧ (1 ≤ (xI h' 104 7).toInt ∧ (xI h' 104 7).toInt ≤ 700) ∧ (0 ≤ (xI h' 104 8).toInt ∧ (xI h' 104 8).toInt ≤ 0) ∧ ((xI h 104 7).toInt + 1 ≤ (xI h' 104 7).toInt)) ∨ ((1 ≤ v.toInt ∧ v.toInt ≤ 1) ∧ (0 ≤ (xI h' 104 7).toInt ∧ (xI h' 104 7).toInt ≤ 700) ∧ (6 ≤ (xI h' 104 8).toInt ∧ (xI h' 104 8).toInt ≤ 6) ∧ ((xI h 104 7).toInt + 0 ≤ (xI h' 104 7).toInt)) ∨ ((1 ≤ v.toInt ∧ v.toInt ≤ 1) ∧ (1 ≤ (xI h' 104 7).toInt ∧ (xI h' 104 7).toInt ≤ 700) ∧ (4 ≤ (xI h' 104 8).toInt ∧ (xI h' 104 8).toInt ≤ 5) ∧ ((xI h 104 7).toInt + 1 ≤ (xI h' 104 7).toInt)) ∨ ((1 ≤ v.toInt ∧ v.toInt ≤ 1) ∧ (0 ≤ (xI h' 104 7).toInt ∧ (xI h' 104 7).toInt ≤ 700) ∧ (0 ≤ (xI h' 104 8).toInt ∧ (xI h' 104 8).toInt ≤ 3) ∧ ((xI h 104 7).toInt + 0 ≤ (xI h' 104 7).toInt))) := by
  have ha : sargs (cap vC_399) [xf 13 104] := ⟨rfl, trivial⟩
  obtain ⟨ρ, rs, h', ⟨hv, hw⟩, c, g, f, cs, hcs, k1, k2, k3, k4, k5, k6⟩ := vc_399 l [xf 13 104] h ha hg (fun q hq => absurd hq List.not_mem_nil) (fun q hq => by
    rcases List.mem_cons.mp hq with rfl | hq
    · exact w0
    exact absurd hq List.not_mem_nil) (fun ρ hρ g hg' => absurd hg' List.not_mem_nil)
  have f0 : ρ 0 = (xI h 104 7).toInt := hw 0 _ rfl
  rcases List.mem_cons.mp hcs with rfl | hcs
  · obtain ⟨v, rfl, kv⟩ := sres_i k3
    exact ⟨v, h', c, g, f, Or.inl ⟨kv, (k4 _ List.mem_cons_self), (k4 _ (List.mem_cons_of_mem _ List.mem_cons_self)), (by have z := k5 _ List.mem_cons_self _ rfl; rw [show sarn (cap vC_399) + 0 = 0 from rfl, f0] at z; exact z)⟩⟩
  rcases List.mem_cons.mp hcs with rfl | hcs
  · obtain ⟨v, rfl, kv⟩ := sres_i k3
    exact ⟨v, h', c, g, f, Or.inr (Or.inl ⟨kv, (k4 _ List.mem_cons_self), (k4 _ (List.mem_cons_of_mem _ List.mem_cons_self)), (by have z := k5 _ List.mem_cons_self _ rfl; rw [show sarn (cap vC_399) + 0 = 0 from rfl, f0] at z; exact z)⟩)⟩
  rcases List.mem_cons.mp hcs with rfl | hcs
  · obtain ⟨v, rfl, kv⟩ := sres_i k3
    exact ⟨v, h', c, g, f, Or.inr (Or.inr (Or.inl ⟨(by have z := k2 0 _ rfl; rw [show sarn (cap vC_399) + 0 = 0 from rfl, f0] at z; exact z), kv, (k4 _ List.mem_cons_self), (k4 _ (List.mem_cons_of_mem _ List.mem_cons_self)), (by have z := k5 _ List.mem_cons_self _ rfl; rw [show sarn (cap vC_399) + 0 = 0 from rfl, f0] at z; exact z)⟩))⟩
  rcases List.mem_cons.mp hcs with rfl | hcs
  · obtain ⟨v, rfl, kv⟩ := sres_i k3
    exact ⟨v, h', c, g, f, Or.inr (Or.inr (Or.inr (Or.inl ⟨(by have z := k2 0 _ rfl; rw [show sarn (cap vC_399) + 0 = 0 from rfl, f0] at z; exact z), kv, (k4 _ List.mem_cons_self), (k4 _ (List.mem_cons_of_mem _ List.mem_cons_self)), (by have z := k5 _ List.mem_cons_self _ rfl; rw [show sarn (cap vC_399) + 0 = 0 from rfl, f0] at z; exact z)⟩)))⟩
  rcases List.mem_cons.mp hcs with rfl | hcs
  · obtain ⟨v, rfl, kv⟩ := sres_i k3
    exact ⟨v, h', c, g, f, Or.inr (Or.inr (Or.inr (Or.inr (Or.inl ⟨kv, (k4 _ List.mem_cons_self), (k4 _ (List.mem_cons_of_mem _ List.mem_cons_self)), (by have z := k5 _ List.mem_cons_self _ rfl; rw [show sarn (cap vC_399) + 0 = 0 from rfl, f0] at z; exact z)⟩))))⟩
  rcases List.mem_cons.mp hcs with rfl | hcs
  · obtain ⟨v, rfl, kv⟩ := sres_i k3
    exact ⟨v, h', c, g, f, Or.inr (Or.inr (Or.inr (Or.inr (Or.inr (Or.inl ⟨kv, (k4 _ List.mem_cons_self), (k4 _ (List.mem_cons_of_mem _ List.mem_cons_self)), (by have z := k5 _ List.mem_cons_self _ rfl; rw [show sarn (cap vC_399) + 0 = 0 from rfl, f0] at z; exact z)⟩)))))⟩
  rcases List.mem_cons.mp hcs with rfl | hcs
  · obtain ⟨v, rfl, kv⟩ := sres_i k3
    exact ⟨v, h', c, g, f, Or.inr (Or.inr (Or.inr (Or.inr (Or.inr (Or.inr (Or.inl ⟨kv, (k4 _ List.mem_cons_self), (k4 _ (List.mem_cons_of_mem _ List.mem_cons_self)), (by have z := k5 _ List.mem_cons_self _ rfl; rw [show sarn (cap vC_399) + 0 = 0 from rfl, f0] at z; exact z)⟩))))))⟩
  rcases List.mem_cons.mp hcs with rfl | hcs
  · obtain ⟨v, rfl, kv⟩ := sres_i k3
    exact ⟨v, h', c, g, f, Or.inr (Or.inr (Or.inr (Or.inr (Or.inr (Or.inr (Or.inr (⟨kv, (k4 _ List.mem_cons_self), (k4 _ (List.mem_cons_of_mem _ List.mem_cons_self)), (by have z := k5 _ List.mem_cons_self _ rfl; rw [show sarn (cap vC_399) + 0 = 0 from rfl, f0] at z; exact z)⟩)))))))⟩
  exact absurd hcs List.not_mem_nil
theorem vq_405 (l : Launch)  (h : XH) (hg : sgood vT vR vE 153 6051 h) (w0 : 0 ≤ (xI h 104 7).toInt ∧ (xI h 104 7).toInt ≤ 700) : ∃ (v : Int32) (h' : XH), CX l 3 71 false 193 [xf 13 104] h [xi v] h' ∧ sgood vT vR vE 153 6051 h' ∧ sframe ([(104, 4, false), (104, 5, false), (104, 7, false), (104, 8, false), (104, 9, false), (104, 10, false), (104, 11, false), (104, 18, false), (113, 0, true), (114, 0, true), (115, 0, true)], []) h h' ∧ (((0 ≤ v.toInt ∧ v.toInt ≤ 0) ∧ (0 ≤ (xI h' 104 7).toInt ∧ (xI h' 104 7).toInt ≤ 700) ∧ (0 ≤ (xI h' 104 8).toInt ∧ (xI h' 104 8).toInt ≤ 6) ∧ ((xI h 104 7).toInt + 0 ≤ (xI h' 104 7).toInt)) ∨ ((0 ≤ v.toInt ∧ v.toInt ≤ 0) ∧ (0 ≤ (xI h' 104 7).toInt ∧ (xI h' 104 7).toInt ≤ 700) ∧ (2 ≤ (xI h' 104 8).toInt ∧ (xI h' 104 8).toInt ≤ 3) ∧ ((xI h 104 7).toInt + 0 ≤ (xI h' 104 7).toInt)) ∨ ((0 ≤ (xI h 104 7).toInt ∧ (xI h 104 7).toInt ≤ 699) ∧ (0 ≤ v.toInt ∧ v.toInt ≤ 0) ∧ (0 ≤ (xI h' 104 7).toInt ∧ (xI h' 104 7).toInt ≤ 700) ∧ (2 ≤ (xI h' 104 8).toInt ∧ (xI h' 104 8).toInt ≤ 2) ∧ ((xI h 104 7).toInt + 1 ≤ (xI h' 104 7).toInt)) ∨ ((0 ≤ (xI h 104 7).toInt ∧ (xI h 104 7).toInt ≤ 699) ∧ (0 ≤ v.toInt ∧ v.toInt ≤ 0) ∧ (0 ≤ (xI h' 104 7).toInt ∧ (xI h' 104 7).toInt ≤ 700) ∧ (0 ≤ (xI h' 104 8).toInt ∧ (xI h' 104 8).toInt ≤ 6) ∧ ((xI h 104 7).toInt + 1 ≤ (xI h' 104 7).toInt)) ∨ ((1 ≤ v.toInt ∧ v.toInt ≤ 1) ∧ (1 ≤ (xI h' 104 7).toInt ∧ (xI h' 104 7).toInt ≤ 700) ∧ (0 ≤ (xI h' 104 8).toInt ∧ (xI h' 104 8).toInt ≤ 0) ∧ ((xI h 104 7).toInt + 1 ≤ (xI h' 104 7).toInt)) ∨ ((1 ≤ v.toInt ∧ v.toInt ≤ 1) ∧ (0 ≤ (xI h' 104 7).toInt ∧ (xI h' 104 7).toInt ≤ 700) ∧ (6 ≤ (xI h' 104 8).toInt ∧ (xI h' 104 8).toInt ≤ 6) ∧ ((xI h 104 7).toInt + 0 ≤ (xI h' 104 7).toInt)) ∨ ((1 ≤ v.toInt ∧ v.toInt ≤ 1) ∧ (1 ≤ (xI h' 104 7).toInt ∧ (xI h' 104 7).toInt ≤ 700) ∧ (4 ≤ (xI h' 104 8).toInt ∧ (xI h' 104 8).toInt ≤ 5) ∧ ((xI h 104 7).toInt + 1 ≤ (xI h' 104 7).toInt)) ∨ ((1 ≤ v.toInt ∧ v.toInt ≤ 1) ∧ (0 ≤ (xI h' 104 7).toInt ∧ (xI h' 104 7).toInt ≤ 700) ∧ (0 ≤ (xI h' 104 8).toInt ∧ (xI h' 104 8).toInt ≤ 3) ∧ ((xI h 104 7).toInt + 0 ≤ (xI h' 104 7).toInt))) := by
  have ha : sargs (cap vC_405) [xf 13 104] := ⟨rfl, trivial⟩
  obtain ⟨ρ, rs, h', ⟨hv, hw⟩, c, g, f, cs, hcs, k1, k2, k3, k4, k5, k6⟩ := vc_405 l [xf 13 104] h ha hg (fun q hq => absurd hq List.not_mem_nil) (fun q hq => by
    rcases List.mem_cons.mp hq with rfl | hq
    · exact w0
    exact absurd hq List.not_mem_nil) (fun ρ hρ g hg' => absurd hg' List.not_mem_nil)
  have f0 : ρ 0 = (xI h 104 7).toInt := hw 0 _ rfl
  rcases List.mem_cons.mp hcs with rfl | hcs
  · obtain ⟨v, rfl, kv⟩ := sres_i k3
    exact ⟨v, h', c, g, f, Or.inl ⟨kv, (k4 _ List.mem_cons_self), (k4 _ (List.mem_cons_of_mem _ List.mem_cons_self)), (by have z := k5 _ List.mem_cons_self _ rfl; rw [show sarn (cap vC_405) + 0 = 0 from rfl, f0] at z; exact z)⟩⟩
  rcases List.mem_cons.mp hcs with rfl | hcs
  · obtain ⟨v, rfl, kv⟩ := sres_i k3
    exact ⟨v, h', c, g, f, Or.inr (Or.inl ⟨kv, (k4 _ List.mem_cons_self), (k4 _ (List.mem_cons_of_mem _ List.mem_cons_self)), (by have z := k5 _ List.mem_cons_self _ rfl; rw [show sarn (cap vC_405) + 0 = 0 from rfl, f0] at z; exact z)⟩)⟩
  rcases List.mem_cons.mp hcs with rfl | hcs
  · obtain ⟨v, rfl, kv⟩ := sres_i k3
    exact ⟨v, h', c, g, f, Or.inr (Or.inr (Or.inl ⟨(by have z := k2 0 _ rfl; rw [show sarn (cap vC_405) + 0 = 0 from rfl, f0] at z; exact z), kv, (k4 _ List.mem_cons_self), (k4 _ (List.mem_cons_of_mem _ List.mem_cons_self)), (by have z := k5 _ List.mem_cons_self _ rfl; rw [show sarn (cap vC_405) + 0 = 0 from rfl, f0] at z; exact z)⟩))⟩
  rcases List.mem_cons.mp hcs with rfl | hcs
  · obtain ⟨v, rfl, kv⟩ := sres_i k3
    exact ⟨v, h', c, g, f, Or.inr (Or.inr (Or.inr (Or.inl ⟨(by have z := k2 0 _ rfl; rw [show sarn (cap vC_405) + 0 = 0 from rfl, f0] at z; exact z), kv, (k4 _ List.mem_cons_self), (k4 _ (List.mem_cons_of_mem _ List.mem_cons_self)), (by have z := k5 _ List.mem_cons_self _ rfl; rw [show sarn (cap vC_405) + 0 = 0 from rfl, f0] at z; exact z)⟩)))⟩
  rcases List.mem_cons.mp hcs with rfl | hcs
  · obtain ⟨v, rfl, kv⟩ := sres_i k3
    exact ⟨v, h', c, g, f, Or.inr (Or.inr (Or.inr (Or.inr (Or.inl ⟨kv, (k4 _ List.mem_cons_self), (k4 _ (List.mem_cons_of_mem _ List.mem_cons_self)), (by have z := k5 _ List.mem_cons_self _ rfl; rw [show sarn (cap vC_405) + 0 = 0 from rfl, f0] at z; exact z)⟩))))⟩
  rcases List.mem_cons.mp hcs with rfl | hcs
  · obtain ⟨v, rfl, kv⟩ := sres_i k3
    exact ⟨v, h', c, g, f, Or.inr (Or.inr (Or.inr (Or.inr (Or.inr (Or.inl ⟨kv, (k4 _ List.mem_cons_self), (k4 _ (List.mem_cons_of_mem _ List.mem_cons_self)), (by have z := k5 _ List.mem_cons_self _ rfl; rw [show sarn (cap vC_405) + 0 = 0 from rfl, f0] at z; exact z)⟩)))))⟩
  rcases List.mem_cons.mp hcs with rfl | hcs
  · obtain ⟨v, rfl, kv⟩ := sres_i k3
    exact ⟨v, h', c, g, f, Or.inr (Or.inr (Or.inr (Or.inr (Or.inr (Or.inr (Or.inl ⟨kv, (k4 _ List.mem_cons_self), (k4 _ (List.mem_cons_of_mem _ List.mem_cons_self)), (by have z := k5 _ List.mem_cons_self _ rfl; rw [show sarn (cap vC_405) + 0 = 0 from rfl, f0] at z; exact z)⟩))))))⟩
  rcases List.mem_cons.mp hcs with rfl | hcs
  · obtain ⟨v, rfl, kv⟩ := sres_i k3
    exact ⟨v, h', c, g, f, Or.inr (Or.inr (Or.inr (Or.inr (Or.inr (Or.inr (Or.inr (⟨kv, (k4 _ List.mem_cons_self), (k4 _ (List.mem_cons_of_mem _ List.mem_cons_self)), (by have z := k5 _ List.mem_cons_self _ rfl; rw [show sarn (cap vC_405) + 0 = 0 from rfl, f0] at z; exact z)⟩)))))))⟩
  exact absurd hcs List.not_mem_nil
theorem vq_424 (l : Launch)  (h : XH) (hg : sgood vT vR vE 153 6051 h) (w0 : 0 ≤ (xI h 104 7).toInt ∧ (xI h 104 7).toInt ≤ 700) : ∃ (v : Int32) (h' : XH), CX l 3 71 false 196 [xf 13 104] h [xi v] h' ∧ sgood vT vR vE 153 6051 h' ∧ sframe ([(104, 4, false), (104, 5, false), (104, 7, false), (104, 8, false), (104, 9, false), (104, 10, false), (104, 11, false), (104, 19, false), (116, 0, true), (117, 8, false), (117, 9, false), (117, 10, false), (117, 11, false), (117, 12, false), (117, 13, false), (117, 14, false), (117, 15, false), (118, 0, true), (119, 0, true)], []) h h' ∧ (((0 ≤ v.toInt ∧ v.toInt ≤ 0) ∧ (0 ≤ (xI h' 104 7).toInt ∧ (xI h' 104 7).toInt ≤ 700) ∧ (0 ≤ (xI h' 104 8).toInt ∧ (xI h' 104 8).toInt ≤ 6) ∧ ((xI h 104 7).toInt + 0 ≤ (xI h' 104 7).toInt)) ∨ ((0 ≤ v.toInt ∧ v.toInt ≤ 0) ∧ (0 ≤ (xI h' 104 7).toInt ∧ (xI h' 104 7).toInt ≤ 700) ∧ (2 ≤ (xI h' 104 8).toInt ∧ (xI h' 104 8).toInt ≤ 3) ∧ ((xI h 104 7).toInt + 0 ≤ (xI h' 104 7).toInt)) ∨ ((0 ≤ (xI h 104 7).toInt ∧ (xI h 104 7).toInt ≤ 699) ∧ (0 ≤ v.toInt ∧ v.toInt ≤ 0) ∧ (0 ≤ (xI h' 104 7).toInt ∧ (xI h' 104 7).toInt ≤ 700) ∧ (2 ≤ (xI h' 104 8).toInt ∧ (xI h' 104 8).toInt ≤ 2) ∧ ((xI h 104 7).toInt + 1 ≤ (xI h' 104 7).toInt)) ∨ ((0 ≤ (xI h 104 7).toInt ∧ (xI h 104 7).toInt ≤ 699) ∧ (0 ≤ v.toInt ∧ v.toInt ≤ 0) ∧ (0 ≤ (xI h' 104 7).toInt ∧ (xI h' 104 7).toInt ≤ 700) ∧ (0 ≤ (xI h' 104 8).toInt ∧ (xI h' 104 8).toInt ≤ 6) ∧ ((xI h 104 7).toInt + 1 ≤ (xI h' 104 7).toInt)) ∨ ((1 ≤ v.toInt ∧ v.toInt ≤ 1) ∧ (1 ≤ (xI h' 104 7).toInt ∧ (xI h' 104 7).toInt ≤ 700) ∧ (0 ≤ (xI h' 104 8).toInt ∧ (xI h' 104 8).toInt ≤ 0) ∧ ((xI h 104 7).toInt + 1 ≤ (xI h' 104 7).toInt)) ∨ ((1 ≤ v.toInt ∧ v.toInt ≤ 1) ∧ (0 ≤ (xI h' 104 7).toInt ∧ (xI h' 104 7).toInt ≤ 700) ∧ (6 ≤ (xI h' 104 8).toInt ∧ (xI h' 104 8).toInt ≤ 6) ∧ ((xI h 104 7).toInt + 0 ≤ (xI h' 104 7).toInt)) ∨ ((1 ≤ v.toInt ∧ v.toInt ≤ 1) ∧ (1 ≤ (xI h' 104 7).toInt ∧ (xI h' 104 7).toInt ≤ 700) ∧ (4 ≤ (xI h' 104 8).toInt ∧ (xI h' 104 8).toInt ≤ 5) ∧ ((xI h 104 7).toInt + 1 ≤ (xI h' 104 7).toInt)) ∨ ((1 ≤ v.toInt ∧ v.toInt ≤ 1) ∧ (0 ≤ (xI h' 104 7).toInt ∧ (xI h' 104 7).toInt ≤ 700) ∧ (0 ≤ (xI h' 104 8).toInt ∧ (xI h' 104 8).toInt ≤ 3) ∧ ((xI h 104 7).toInt + 0 ≤ (xI h' 104 7).toInt))) := by
  have ha : sargs (cap vC_424) [xf 13 104] := ⟨rfl, trivial⟩
  obtain ⟨ρ, rs, h', ⟨hv, hw⟩, c, g, f, cs, hcs, k1, k2, k3, k4, k5, k6⟩ := vc_424 l [xf 13 104] h ha hg (fun q hq => absurd hq List.not_mem_nil) (fun q hq => by
    rcases List.mem_cons.mp hq with rfl | hq
    · exact w0
    exact absurd hq List.not_mem_nil) (fun ρ hρ g hg' => absurd hg' List.not_mem_nil)
  have f0 : ρ 0 = (xI h 104 7).toInt := hw 0 _ rfl
  rcases List.mem_cons.mp hcs with rfl | hcs
  · obtain ⟨v, rfl, kv⟩ := sres_i k3
    exact ⟨v, h', c, g, f, Or.inl ⟨kv, (k4 _ List.mem_cons_self), (k4 _ (List.mem_cons_of_mem _ List.mem_cons_self)), (by have z := k5 _ List.mem_cons_self _ rfl; rw [show sarn (cap vC_424) + 0 = 0 from rfl, f0] at z; exact z)⟩⟩
  rcases List.mem_cons.mp hcs with rfl | hcs
  · obtain ⟨v, rfl, kv⟩ := sres_i k3
    exact ⟨v, h', c, g, f, Or.inr (Or.inl ⟨kv, (k4 _ List.mem_cons_self), (k4 _ (List.mem_cons_of_mem _ List.mem_cons_self)), (by have z := k5 _ List.mem_cons_self _ rfl; rw [show sarn (cap vC_424) + 0 = 0 from rfl, f0] at z; exact z)⟩)⟩
  rcases List.mem_cons.mp hcs with rfl | hcs
  · obtain ⟨v, rfl, kv⟩ := sres_i k3
    exact ⟨v, h', c, g, f, Or.inr (Or.inr (Or.inl ⟨(by have z := k2 0 _ rfl; rw [show sarn (cap vC_424) + 0 = 0 from rfl, f0] at z; exact z), kv, (k4 _ List.mem_cons_self), (k4 _ (List.mem_cons_of_mem _ List.mem_cons_self)), (by have z := k5 _ List.mem_cons_self _ rfl; rw [show sarn (cap vC_424) + 0 = 0 from rfl, f0] at z; exact z)⟩))⟩
  rcases List.mem_cons.mp hcs with rfl | hcs
  · obtain ⟨v, rfl, kv⟩ := sres_i k3
    exact ⟨v, h', c, g, f, Or.inr (Or.inr (Or.inr (Or.inl ⟨(by have z := k2 0 _ rfl; rw [show sarn (cap vC_424) + 0 = 0 from rfl, f0] at z; exact z), kv, (k4 _ List.mem_cons_self), (k4 _ (List.mem_cons_of_mem _ List.mem_cons_self)), (by have z := k5 _ List.mem_cons_self _ rfl; rw [show sarn (cap vC_424) + 0 = 0 from rfl, f0] at z; exact z)⟩)))⟩
  rcases List.mem_cons.mp hcs with rfl | hcs
  · obtain ⟨v, rfl, kv⟩ := sres_i k3
    exact ⟨v, h', c, g, f, Or.inr (Or.inr (Or.inr (Or.inr (Or.inl ⟨kv, (k4 _ List.mem_cons_self), (k4 _ (List.mem_cons_of_mem _ List.mem_cons_self)), (by have z := k5 _ List.mem_cons_self _ rfl; rw [show sarn (cap vC_424) + 0 = 0 from rfl, f0] at z; exact z)⟩))))⟩
  rcases List.mem_cons.mp hcs with rfl | hcs
  · obtain ⟨v, rfl, kv⟩ := sres_i k3
    exact ⟨v, h', c, g, f, Or.inr (Or.inr (Or.inr (Or.inr (Or.inr (Or.inl ⟨kv, (k4 _ List.mem_cons_self), (k4 _ (List.mem_cons_of_mem _ List.mem_cons_self)), (by have z := k5 _ List.mem_cons_self _ rfl; rw [show sarn (cap vC_424) + 0 = 0 from rfl, f0] at z; exact z)⟩)))))⟩
  rcases List.mem_cons.mp hcs with rfl | hcs
  · obtain ⟨v, rfl, kv⟩ := sres_i k3
    exact ⟨v, h', c, g, f, Or.inr (Or.inr (Or.inr (Or.inr (Or.inr (Or.inr (Or.inl ⟨kv, (k4 _ List.mem_cons_self), (k4 _ (List.mem_cons_of_mem _ List.mem_cons_self)), (by have z := k5 _ List.mem_cons_self _ rfl; rw [show sarn (cap vC_424) + 0 = 0 from rfl, f0] at z; exact z)⟩))))))⟩
  rcases List.mem_cons.mp hcs with rfl | hcs
  · obtain ⟨v, rfl, kv⟩ := sres_i k3
    exact ⟨v, h', c, g, f, Or.inr (Or.inr (Or.inr (Or.inr (Or.inr (Or.inr (Or.inr (⟨kv, (k4 _ List.mem_cons_self), (k4 _ (List.mem_cons_of_mem _ List.mem_cons_self)), (by have z := k5 _ List.mem_cons_self _ rfl; rw [show sarn (cap vC_424) + 0 = 0 from rfl, f0] at z; exact z)⟩)))))))⟩
  exact absurd hcs List.not_mem_nil
theorem vq_429 (l : Launch)  (h : XH) (hg : sgood vT vR vE 153 6051 h) (w0 : 0 ≤ (xI h 104 7).toInt ∧ (xI h 104 7).toInt ≤ 700) : ∃ (v : Int32) (h' : XH), CX l 3 71 false 197 [xf 13 104] h [xi v] h' ∧ sgood vT vR vE 153 6051 h' ∧ sframe ([(104, 4, false), (104, 5, false), (104, 7, false), (104, 8, false), (104, 9, false), (104, 10, false), (104, 11, false), (104, 20, false), (120, 0, true), (121, 0, true), (122, 0, true)], []) h h' ∧ (((0 ≤ v.toInt ∧ v.toInt ≤ 0) ∧ (0 ≤ (xI h' 104 7).toInt ∧ (xI h' 104 7).toInt ≤ 700) ∧ (0 ≤ (xI h' 104 8).toInt ∧ (xI h' 104 8).toInt ≤ 6) ∧ ((xI h 104 7).toInt + 0 ≤ (xI h' 104 7).toInt)) ∨ ((0 ≤ v.toInt ∧ v.toInt ≤ 0) ∧ (0 ≤ (xI h' 104 7).toInt ∧ (xI h' 104 7).toInt ≤ 700) ∧ (2 ≤ (xI h' 104 8).toInt ∧ (xI h' 104 8).toInt ≤ 3) ∧ ((xI h 104 7).toInt + 0 ≤ (xI h' 104 7).toInt)) ∨ ((0 ≤ (xI h 104 7).toInt ∧ (xI h 104 7).toInt ≤ 699) ∧ (0 ≤ v.toInt ∧ v.toInt ≤ 0) ∧ (0 ≤ (xI h' 104 7).toInt ∧ (xI h' 104 7).toInt ≤ 700) ∧ (2 ≤ (xI h' 104 8).toInt ∧ (xI h' 104 8).toInt ≤ 2) ∧ ((xI h 104 7).toInt + 1 ≤ (xI h' 104 7).toInt)) ∨ ((0 ≤ (xI h 104 7).toInt ∧ (xI h 104 7).toInt ≤ 699) ∧ (0 ≤ v.toInt ∧ v.toInt ≤ 0) ∧ (0 ≤ (xI h' 104 7).toInt ∧ (xI h' 104 7).toInt ≤ 700) ∧ (0 ≤ (xI h' 104 8).toInt ∧ (xI h' 104 8).toInt ≤ 6) ∧ ((xI h 104 7).toInt + 1 ≤ (xI h' 104 7).toInt)) ∨ ((1 ≤ v.toInt ∧ v.toInt ≤ 1) ∧ (0 ≤ (xI h' 104 7).toInt ∧ (xI h' 104 7).toInt ≤ 700) ∧ (0 ≤ (xI h' 104 8).toInt ∧ (xI h' 104 8).toInt ≤ 3) ∧ ((xI h 104 7).toInt + 1 ≤ (xI h' 104 7).toInt)) ∨ ((1 ≤ v.toInt ∧ v.toInt ≤ 1) ∧ (0 ≤ (xI h' 104 7).toInt ∧ (xI h' 104 7).toInt ≤ 700) ∧ (6 ≤ (xI h' 104 8).toInt ∧ (xI h' 104 8).toInt ≤ 6) ∧ ((xI h 104 7).toInt + 1 ≤ (xI h' 104 7).toInt)) ∨ ((1 ≤ v.toInt ∧ v.toInt ≤ 1) ∧ (1 ≤ (xI h' 104 7).toInt ∧ (xI h' 104 7).toInt ≤ 700) ∧ (4 ≤ (xI h' 104 8).toInt ∧ (xI h' 104 8).toInt ≤ 5) ∧ ((xI h 104 7).toInt + 1 ≤ (xI h' 104 7).toInt)) ∨ ((1 ≤ v.toInt ∧ v.toInt ≤ 1) ∧ (0 ≤ (xI h' 104 7).toInt ∧ (xI h' 104 7).toInt ≤ 700) ∧ (6 ≤ (xI h' 104 8).toInt ∧ (xI h' 104 8).toInt ≤ 6) ∧ ((xI h 104 7).toInt + 0 ≤ (xI h' 104 7).toInt)) ∨ ((1 ≤ v.toInt ∧ v.toInt ≤ 1) ∧ (0 ≤ (xI h' 104 7).toInt ∧ (xI h' 104 7).toInt ≤ 700) ∧ (0 ≤ (xI h' 104 8).toInt ∧ (xI h' 104 8).toInt ≤ 3) ∧ ((xI h 104 7).toInt + 0 ≤ (xI h' 104 7).toInt))) := by
  have ha : sargs (cap vC_429) [xf 13 104] := ⟨rfl, trivial⟩
  obtain ⟨ρ, rs, h', ⟨hv, hw⟩, c, g, f, cs, hcs, k1, k2, k3, k4, k5, k6⟩ := vc_429 l [xf 13 104] h ha hg (fun q hq => absurd hq List.not_mem_nil) (fun q hq => by
    rcases List.mem_cons.mp hq with rfl | hq
    · exact w0
    exact absurd hq List.not_mem_nil) (fun ρ hρ g hg' => absurd hg' List.not_mem_nil)
  have f0 : ρ 0 = (xI h 104 7).toInt := hw 0 _ rfl
  rcases List.mem_cons.mp hcs with rfl | hcs
  · obtain ⟨v, rfl, kv⟩ := sres_i k3
    exact ⟨v, h', c, g, f, Or.inl ⟨kv, (k4 _ List.mem_cons_self), (k4 _ (List.mem_cons_of_mem _ List.mem_cons_self)), (by have z := k5 _ List.mem_cons_self _ rfl; rw [show sarn (cap vC_429) + 0 = 0 from rfl, f0] at z; exact z)⟩⟩
  rcases List.mem_cons.mp hcs with rfl | hcs
  · obtain ⟨v, rfl, kv⟩ := sres_i k3
    exact ⟨v, h', c, g, f, Or.inr (Or.inl ⟨kv, (k4 _ List.mem_cons_self), (k4 _ (List.mem_cons_of_mem _ List.mem_cons_self)), (by have z := k5 _ List.mem_cons_self _ rfl; rw [show sarn (cap vC_429) + 0 = 0 from rfl, f0] at z; exact z)⟩)⟩
  rcases List.mem_cons.mp hcs with rfl | hcs
  · obtain ⟨v, rfl, kv⟩ := sres_i k3
    exact ⟨v, h', c, g, f, Or.inr (Or.inr (Or.inl ⟨(by have z := k2 0 _ rfl; rw [show sarn (cap vC_429) + 0 = 0 from rfl, f0] at z; exact z), kv, (k4 _ List.mem_cons_self), (k4 _ (List.mem_cons_of_mem _ List.mem_cons_self)), (by have z := k5 _ List.mem_cons_self _ rfl; rw [show sarn (cap vC_429) + 0 = 0 from rfl, f0] at z; exact z)⟩))⟩
  rcases List.mem_cons.mp hcs with rfl | hcs
  · obtain ⟨v, rfl, kv⟩ := sres_i k3
    exact ⟨v, h', c, g, f, Or.inr (Or.inr (Or.inr (Or.inl ⟨(by have z := k2 0 _ rfl; rw [show sarn (cap vC_429) + 0 = 0 from rfl, f0] at z; exact z), kv, (k4 _ List.mem_cons_self), (k4 _ (List.mem_cons_of_mem _ List.mem_cons_self)), (by have z := k5 _ List.mem_cons_self _ rfl; rw [show sarn (cap vC_429) + 0 = 0 from rfl, f0] at z; exact z)⟩)))⟩
  rcases List.mem_cons.mp hcs with rfl | hcs
  · obtain ⟨v, rfl, kv⟩ := sres_i k3
    exact ⟨v, h', c, g, f, Or.inr (Or.inr (Or.inr (Or.inr (Or.inl ⟨kv, (k4 _ List.mem_cons_self), (k4 _ (List.mem_cons_of_mem _ List.mem_cons_self)), (by have z := k5 _ List.mem_cons_self _ rfl; rw [show sarn (cap vC_429) + 0 = 0 from rfl, f0] at z; exact z)⟩))))⟩
  rcases List.mem_cons.mp hcs with rfl | hcs
  · obtain ⟨v, rfl, kv⟩ := sres_i k3
    exact ⟨v, h', c, g, f, Or.inr (Or.inr (Or.inr (Or.inr (Or.inr (Or.inl ⟨kv, (k4 _ List.mem_cons_self), (k4 _ (List.mem_cons_of_mem _ List.mem_cons_self)), (by have z := k5 _ List.mem_cons_self _ rfl; rw [show sarn (cap vC_429) + 0 = 0 from rfl, f0] at z; exact z)⟩)))))⟩
  rcases List.mem_cons.mp hcs with rfl | hcs
  · obtain ⟨v, rfl, kv⟩ := sres_i k3
    exact ⟨v, h', c, g, f, Or.inr (Or.inr (Or.inr (Or.inr (Or.inr (Or.inr (Or.inl ⟨kv, (k4 _ List.mem_cons_self), (k4 _ (List.mem_cons_of_mem _ List.mem_cons_self)), (by have z := k5 _ List.mem_cons_self _ rfl; rw [show sarn (cap vC_429) + 0 = 0 from rfl, f0] at z; exact z)⟩))))))⟩
  rcases List.mem_cons.mp hcs with rfl | hcs
  · obtain ⟨v, rfl, kv⟩ := sres_i k3
    exact ⟨v, h', c, g, f, Or.inr (Or.inr (Or.inr (Or.inr (Or.inr (Or.inr (Or.inr (Or.inl ⟨kv, (k4 _ List.mem_cons_self), (k4 _ (List.mem_cons_of_mem _ List.mem_cons_self)), (by have z := k5 _ List.mem_cons_self _ rfl; rw [show sarn (cap vC_429) + 0 = 0 from rfl, f0] at z; exact z)⟩)))))))⟩
  rcases List.mem_cons.mp hcs with rfl | hcs
  · obtain ⟨v, rfl, kv⟩ := sres_i k3
    exact ⟨v, h', c, g, f, Or.inr (Or.inr (Or.inr (Or.inr (Or.inr (Or.inr (Or.inr (Or.inr (⟨kv, (k4 _ List.mem_cons_self), (k4 _ (List.mem_cons_of_mem _ List.mem_cons_self)), (by have z := k5 _ List.mem_cons_self _ rfl; rw [show sarn (cap vC_429) + 0 = 0 from rfl, f0] at z; exact z)⟩))))))))⟩
  exact absurd hcs List.not_mem_nil
theorem vq_432 (l : Launch)  (h : XH) (hg : sgood vT vR vE 153 6051 h) (w0 : 0 ≤ (xI h 104 7).toInt ∧ (xI h 104 7).toInt ≤ 700) : ∃ (v : Int32) (h' : XH), CX l 3 69 false 199 [xf 13 104] h [xi v] h' ∧ sgood vT vR vE 153 6051 h' ∧ sframe ([(104, 4, false), (104, 5, false), (104, 7, false), (104, 8, false), (104, 9, false), (104, 10, false), (104, 11, false), (107, 0, false), (108, 1, false)], []) h h' ∧ (((0 ≤ v.toInt ∧ v.toInt ≤ 0) ∧ (0 ≤ (xI h' 104 7).toInt ∧ (xI h' 104 7).toInt ≤ 700) ∧ (0 ≤ (xI h' 104 8).toInt ∧ (xI h' 104 8).toInt ≤ 6) ∧ ((xI h 104 7).toInt + 0 ≤ (xI h' 104 7).toInt)) ∨ ((1 ≤ v.toInt ∧ v.toInt ≤ 1) ∧ (0 ≤ (xI h' 104 7).toInt ∧ (xI h' 104 7).toInt ≤ 700) ∧ (0 ≤ (xI h' 104 8).toInt ∧ (xI h' 104 8).toInt ≤ 3) ∧ ((xI h 104 7).toInt + 1 ≤ (xI h' 104 7).toInt)) ∨ ((1 ≤ v.toInt ∧ v.toInt ≤ 1) ∧ (0 ≤ (xI h' 104 7).toInt ∧ (xI h' 104 7).toInt ≤ 700) ∧ (6 ≤ (xI h' 104 8).toInt ∧ (xI h' 104 8).toInt ≤ 6) ∧ ((xI h 104 7).toInt + 1 ≤ (xI h' 104 7).toInt)) ∨ ((1 ≤ v.toInt ∧ v.toInt ≤ 1) ∧ (1 ≤ (xI h' 104 7).toInt ∧ (xI h' 104 7).toInt ≤ 700) ∧ (4 ≤ (xI h' 104 8).toInt ∧ (xI h' 104 8).toInt ≤ 5) ∧ ((xI h 104 7).toInt + 1 ≤ (xI h' 104 7).toInt)) ∨ ((1 ≤ v.toInt ∧ v.toInt ≤ 1) ∧ (0 ≤ (xI h' 104 7).toInt ∧ (xI h' 104 7).toInt ≤ 700) ∧ (0 ≤ (xI h' 104 8).toInt ∧ (xI h' 104 8).toInt ≤ 3) ∧ ((xI h 104 7).toInt + 0 ≤ (xI h' 104 7).toInt)) ∨ ((1 ≤ v.toInt ∧ v.toInt ≤ 1) ∧ (0 ≤ (xI h' 104 7).toInt ∧ (xI h' 104 7).toInt ≤ 700) ∧ (6 ≤ (xI h' 104 8).toInt ∧ (xI h' 104 8).toInt ≤ 6) ∧ ((xI h 104 7).toInt + 0 ≤ (xI h' 104 7).toInt)) ∨ ((0 ≤ v.toInt ∧ v.toInt ≤ 0) ∧ (0 ≤ (xI h' 104 7).toInt ∧ (xI h' 104 7).toInt ≤ 700) ∧ (3 ≤ (xI h' 104 8).toInt ∧ (xI h' 104 8).toInt ≤ 3) ∧ ((xI h 104 7).toInt + 0 ≤ (xI h' 104 7).toInt)) ∨ ((0 ≤ (xI h 104 7).toInt ∧ (xI h 104 7).toInt ≤ 699) ∧ (0 ≤ v.toInt ∧ v.toInt ≤ 0) ∧ (0 ≤ (xI h' 104 7).toInt ∧ (xI h' 104 7).toInt ≤ 700) ∧ (3 ≤ (xI h' 104 8).toInt ∧ (xI h' 104 8).toInt ≤ 3) ∧ ((xI h 104 7).toInt + 1 ≤ (xI h' 104 7).toInt)) ∨ ((0 ≤ (xI h 104 7).toInt ∧ (xI h 104 7).toInt ≤ 699) ∧ (0 ≤ v.toInt ∧ v.toInt ≤ 0) ∧ (0 ≤ (xI h' 104 7).toInt ∧ (xI h' 104 7).toInt ≤ 700) ∧ (0 ≤ (xI h' 104 8).toInt ∧ (xI h' 104 8).toInt ≤ 6) ∧ ((xI h 104 7).toInt + 1 ≤ (xI h' 104 7).toInt))) := by
  have ha : sargs (cap vC_432) [xf 13 104] := ⟨rfl, trivial⟩
  obtain ⟨ρ, rs, h', ⟨hv, hw⟩, c, g, f, cs, hcs, k1, k2, k3, k4, k5, k6⟩ := vc_432 l [xf 13 104] h ha hg (fun q hq => absurd hq List.not_mem_nil) (fun q hq => by
    rcases List.mem_cons.mp hq with rfl | hq
    · exact w0
    exact absurd hq List.not_mem_nil) (fun ρ hρ g hg' => absurd hg' List.not_mem_nil)
  have f0 : ρ 0 = (xI h 104 7).toInt := hw 0 _ rfl
  rcases List.mem_cons.mp hcs with rfl | hcs
  · obtain ⟨v, rfl, kv⟩ := sres_i k3
    exact ⟨v, h', c, g, f, Or.inl ⟨kv, (k4 _ List.mem_cons_self), (k4 _ (List.mem_cons_of_mem _ List.mem_cons_self)), (by have z := k5 _ List.mem_cons_self _ rfl; rw [show sarn (cap vC_432) + 0 = 0 from rfl, f0] at z; exact z)⟩⟩
  rcases List.mem_cons.mp hcs with rfl | hcs
  · obtain ⟨v, rfl, kv⟩ := sres_i k3
    exact ⟨v, h', c, g, f, Or.inr (Or.inl ⟨kv, (k4 _ List.mem_cons_self), (k4 _ (List.mem_cons_of_mem _ List.mem_cons_self)), (by have z := k5 _ List.mem_cons_self _ rfl; rw [show sarn (cap vC_432) + 0 = 0 from rfl, f0] at z; exact z)⟩)⟩
  rcases List.mem_cons.mp hcs with rfl | hcs
  · obtain ⟨v, rfl, kv⟩ := sres_i k3
    exact ⟨v, h', c, g, f, Or.inr (Or.inr (Or.inl ⟨kv, (k4 _ List.mem_cons_self), (k4 _ (List.mem_cons_of_mem _ List.mem_cons_self)), (by have z := k5 _ List.mem_cons_self _ rfl; rw [show sarn (cap vC_432) + 0 = 0 from rfl, f0] at z; exact z)⟩))⟩
  rcases List.mem_cons.mp hcs with rfl | hcs
  · obtain ⟨v, rfl, kv⟩ := sres_i k3
    exact ⟨v, h', c, g, f, Or.inr (Or.inr (Or.inr (Or.inl ⟨kv, (k4 _ List.mem_cons_self), (k4 _ (List.mem_cons_of_mem _ List.mem_cons_self)), (by have z := k5 _ List.mem_cons_self _ rfl; rw [show sarn (cap vC_432) + 0 = 0 from rfl, f0] at z; exact z)⟩)))⟩
  rcases List.mem_cons.mp hcs with rfl | hcs
  · obtain ⟨v, rfl, kv⟩ := sres_i k3
    exact ⟨v, h', c, g, f, Or.inr (Or.inr (Or.inr (Or.inr (Or.inl ⟨kv, (k4 _ List.mem_cons_self), (k4 _ (List.mem_cons_of_mem _ List.mem_cons_self)), (by have z := k5 _ List.mem_cons_self _ rfl; rw [show sarn (cap vC_432) + 0 = 0 from rfl, f0] at z; exact z)⟩))))⟩
  rcases List.mem_cons.mp hcs with rfl | hcs
  · obtain ⟨v, rfl, kv⟩ := sres_i k3
    exact ⟨v, h', c, g, f, Or.inr (Or.inr (Or.inr (Or.inr (Or.inr (Or.inl ⟨kv, (k4 _ List.mem_cons_self), (k4 _ (List.mem_cons_of_mem _ List.mem_cons_self)), (by have z := k5 _ List.mem_cons_self _ rfl; rw [show sarn (cap vC_432) + 0 = 0 from rfl, f0] at z; exact z)⟩)))))⟩
  rcases List.mem_cons.mp hcs with rfl | hcs
  · obtain ⟨v, rfl, kv⟩ := sres_i k3
    exact ⟨v, h', c, g, f, Or.inr (Or.inr (Or.inr (Or.inr (Or.inr (Or.inr (Or.inl ⟨kv, (k4 _ List.mem_cons_self), (k4 _ (List.mem_cons_of_mem _ List.mem_cons_self)), (by have z := k5 _ List.mem_cons_self _ rfl; rw [show sarn (cap vC_432) + 0 = 0 from rfl, f0] at z; exact z)⟩))))))⟩
  rcases List.mem_cons.mp hcs with rfl | hcs
  · obtain ⟨v, rfl, kv⟩ := sres_i k3
    exact ⟨v, h', c, g, f, Or.inr (Or.inr (Or.inr (Or.inr (Or.inr (Or.inr (Or.inr (Or.inl ⟨(by have z := k2 0 _ rfl; rw [show sarn (cap vC_432) + 0 = 0 from rfl, f0] at z; exact z), kv, (k4 _ List.mem_cons_self), (k4 _ (List.mem_cons_of_mem _ List.mem_cons_self)), (by have z := k5 _ List.mem_cons_self _ rfl; rw [show sarn (cap vC_432) + 0 = 0 from rfl, f0] at z; exact z)⟩)))))))⟩
  rcases List.mem_cons.mp hcs with rfl | hcs
  · obtain ⟨v, rfl, kv⟩ := sres_i k3
    exact ⟨v, h', c, g, f, Or.inr (Or.inr (Or.inr (Or.inr (Or.inr (Or.inr (Or.inr (Or.inr (⟨(by have z := k2 0 _ rfl; rw [show sarn (cap vC_432) + 0 = 0 from rfl, f0] at z; exact z), kv, (k4 _ List.mem_cons_self), (k4 _ (List.mem_cons_of_mem _ List.mem_cons_self)), (by have z := k5 _ List.mem_cons_self _ rfl; rw [show sarn (cap vC_432) + 0 = 0 from rfl, f0] at z; exact z)⟩))))))))⟩
  exact absurd hcs List.not_mem_nil
theorem vnar {v : Int32} (h : 0 ≤ v.toInt ∧ v.toInt ≤ 1) : vp_nar .boolean v = v := by
  have e : v = Int32.ofInt v.toInt := (i32_of v).symm
  rcases (by omega : v.toInt = 0 ∨ v.toInt = 1) with z | z
  · rw [z] at e
    rw [e]
    rfl
  · rw [z] at e
    rw [e]
    rfl
/-- laws as they have been read -/
def vLr (h : XH) : Prop := ∀ w : Nat, 3 ≤ w → w < 6 → (xI h 123 w).toInt = 1 → vks h 64 (xI h 124 w).toInt (xI h 125 w).toInt ∧ (xI h 125 w).toInt ≤ (xI h 104 21).toInt
def vLn (h : XH) : Prop := vLr h ∧ (xI h 104 21).toInt ≤ (xI h 104 49).toInt
theorem vLn_fr {h h' : XH} (H : vLn h) (e1 : xI h' 104 21 = xI h 104 21) (e2 : xI h' 104 49 = xI h 104 49) (r : ∀ c, 123 ≤ c → c ≤ 128 → ∀ k, xI h' c k = xI h c k) : vLn h' := by
  refine ⟨fun w w1 w2 => ?_, by rw [e1, e2]; exact H.2⟩
  rw [r 123 (by decide) (by decide), r 124 (by decide) (by decide), r 125 (by decide) (by decide), e1]
  intro e
  obtain ⟨⟨a1, a2, a3⟩, a4⟩ := H.1 w w1 w2 e
  exact ⟨⟨a1, a2, vkk_fr a3 (fun c c1 c2 k _ _ => r c (by omega) c2 _)⟩, a4⟩
/-- what a line leaves -/
def vLi (h : XH) (v : Int32) (h' : XH) : Prop := vG ([(104, 4, false), (104, 5, false), (104, 7, false), (104, 8, false), (104, 9, false), (104, 10, false), (104, 11, false), (104, 17, false), (104, 18, false), (104, 19, false), (104, 20, false), (104, 21, false), (104, 46, false), (104, 47, false), (104, 48, false), (104, 49, false), (104, 50, false), (104, 51, false), (107, 0, false), (108, 1, false), (109, 0, true), (110, 6, false), (110, 7, false), (110, 8, false), (110, 9, false), (110, 10, false), (110, 11, false), (111, 6, false), (111, 7, false), (111, 8, false), (111, 9, false), (111, 10, false), (111, 11, false), (112, 6, false), (112, 7, false), (112, 8, false), (112, 9, false), (112, 10, false), (112, 11, false), (113, 0, true), (114, 0, true), (115, 0, true), (116, 0, true), (117, 8, false), (117, 9, false), (117, 10, false), (117, 11, false), (117, 12, false), (117, 13, false), (117, 14, false), (117, 15, false), (118, 0, true), (119, 0, true), (120, 0, true), (121, 0, true), (122, 0, true), (123, 0, true), (124, 0, true), (125, 0, true), (126, 0, true), (127, 0, true), (128, 0, true), (129, 0, true), (130, 0, true)], []) h h' ∧ (v = 0 ∨ v = 1) ∧ (¬ v = 0 → vLn h' ∧ (xI h 104 7).toInt + 1 ≤ (xI h' 104 7).toInt)
set_option maxRecDepth 100000 in
set_option maxHeartbeats 2000000 in
theorem vh_lineT (l : Launch) (b : Int32) (x2 : XV) (h : XH) (hg : sgood vT vR vE 153 6051 h) : ∃ v pc L' h', XT l 5 190 false 186 153 6051 203 [xf 13 104, xi b, x2] [] h pc L' [xi v] h' ∧ XE 186 pc [xi v] ∧ L'.length = 3 ∧ vG ([(104, 4, false), (104, 5, false), (104, 7, false), (104, 8, false), (104, 9, false), (104, 10, false), (104, 11, false), (104, 17, false), (104, 18, false), (104, 19, false), (104, 20, false), (104, 21, false), (104, 46, false), (104, 47, false), (104, 48, false), (104, 49, false), (104, 50, false), (104, 51, false), (107, 0, false), (108, 1, false), (109, 0, true), (110, 6, false), (110, 7, false), (110, 8, false), (110, 9, false), (110, 10, false), (110, 11, false), (111, 6, false), (111, 7, false), (111, 8, false), (111, 9, false), (111, 10, false), (111, 11, false), (112, 6, false), (112, 7, false), (112, 8, false), (112, 9, false), (112, 10, false), (112, 11, false), (113, 0, true), (114, 0, true), (115, 0, true), (116, 0, true), (117, 8, false), (117, 9, false), (117, 10, false), (117, 11, false), (117, 12, false), (117, 13, false), (117, 14, false), (117, 15, false), (118, 0, true), (119, 0, true), (120, 0, true), (121, 0, true), (122, 0, true), (123, 0, true), (124, 0, true), (125, 0, true), (126, 0, true), (127, 0, true), (128, 0, true), (129, 0, true), (130, 0, true)], []) h h' ∧ (v = 0 ∨ v = 1) ∧ (¬ v = 0 → (xI h 104 8).toInt = 4 ∧ (xI h 104 7).toInt ≤ (xI h' 104 7).toInt ∧ sframe ([(104, 7, false), (104, 8, false), (104, 9, false), (104, 10, false)], []) h h') := by
  by_cases c1 : (xI h 104 8) = (Int32.ofInt (4))
  · by_cases c2 : (xI h 104 9) = (Int32.ofInt (59))
    · have t3 : XT l 5 190 false 186 153 6051 203 [xf 13 104, xi b, x2] [] h 219 [xf 13 104, xi b, x2] [xf 13 104] h := XT_path (l := l) (fr := 5) (lo := 190) (full := false) (M := 186) (n := 153) (u := 6051) (pc := 203) (L := [xf 13 104, xi b, x2]) (st := []) (h := h) (inl := [201, 187]) (n' := 120) (sp := [219]) (o := [0, 0, 1]) rfl rfl ⟨rfl, rfl, rfl⟩ rfl ⟨Nat.le_of_eq hg.2.2.2.1, Nat.le_of_eq hg.2.2.2.2⟩ ⟨⟨⟨⟨trivial, c1⟩, c2⟩, (Or.inr rfl)⟩, (by decide)⟩
      obtain ⟨h5, c5, g5, f5, w1, w2⟩ := vh_token l h hg
      have t4 : XT l 5 190 false 186 153 6051 219 [xf 13 104, xi b, x2] [xf 13 104] h 222 [xf 13 104, xi b, x2] [] h5 := XT_call (l := l) (fr := 5) (lo := 190) (full := false) (M := 186) (n := 153) (u := 6051) (pc := 219) (L := [xf 13 104, xi b, x2]) (st := [xf 13 104]) (h := h) (i := .invokevirtual 180) (aux := 1) (nx := 222) (K := 180) (vs := [xf 13 104]) (rs := []) (rest := []) rfl rfl rfl rfl rfl rfl c5 (by decide) (by decide) (Nat.le_of_ble_eq_true rfl) ⟨Nat.le_of_eq g5.2.2.2.1, Nat.le_of_eq g5.2.2.2.2⟩
      have t5 := t3.tr t4
      have t6 : XT l 5 190 false 186 153 6051 222 [xf 13 104, xi b, x2] [] h5 223 [xf 13 104, xi b, x2] [xi (Int32.ofInt (1))] h5 := XT_path (l := l) (fr := 5) (lo := 190) (full := false) (M := 186) (n := 153) (u := 6051) (pc := 222) (L := [xf 13 104, xi b, x2]) (st := []) (h := h5) (inl := [201, 187]) (n' := 120) (sp := [223]) (o := []) rfl rfl ⟨rfl, rfl, rfl⟩ rfl ⟨Nat.le_of_eq g5.2.2.2.1, Nat.le_of_eq g5.2.2.2.2⟩ trivial
      have t7 := t5.tr t6
      exact ⟨_, _, _, _, t7, ⟨_, _, _, rfl, rfl, rfl⟩, rfl, ⟨g5, f5.mono rfl rfl⟩, Or.inr rfl, fun _ => ⟨veq ⟨by decide, by decide⟩ c1, w1, f5⟩⟩
    · have t8 : XT l 5 190 false 186 153 6051 203 [xf 13 104, xi b, x2] [] h 217 [xf 13 104, xi b, x2] [xi (Int32.ofInt (0))] (xsetI (xsetI h 104 4 (Int32.ofInt (1))) 104 5 (xI h 104 10)) := XT_path (l := l) (fr := 5) (lo := 190) (full := false) (M := 186) (n := 153) (u := 6051) (pc := 203) (L := [xf 13 104, xi b, x2]) (st := []) (h := h) (inl := [201, 187]) (n' := 120) (sp := [217]) (o := [0, 1, 0]) rfl rfl ⟨rfl, rfl, rfl⟩ rfl ⟨Nat.le_of_eq hg.2.2.2.1, Nat.le_of_eq hg.2.2.2.2⟩ ⟨⟨⟨⟨⟨trivial, c1⟩, c2⟩, (Or.inl rfl)⟩, rfl⟩, (Or.inl rfl)⟩
      exact ⟨_, _, _, _, t8, ⟨_, _, _, rfl, rfl, rfl⟩, rfl, vGw (vG.rf hg) (by decide) rfl rfl, Or.inl rfl, fun z => absurd rfl z⟩
  · have t9 : XT l 5 190 false 186 153 6051 203 [xf 13 104, xi b, x2] [] h 217 [xf 13 104, xi b, x2] [xi (Int32.ofInt (0))] (xsetI (xsetI h 104 4 (Int32.ofInt (1))) 104 5 (xI h 104 10)) := XT_path (l := l) (fr := 5) (lo := 190) (full := false) (M := 186) (n := 153) (u := 6051) (pc := 203) (L := [xf 13 104, xi b, x2]) (st := []) (h := h) (inl := [201, 187]) (n' := 120) (sp := [217]) (o := [1, 0]) rfl rfl ⟨rfl, rfl, rfl⟩ rfl ⟨Nat.le_of_eq hg.2.2.2.1, Nat.le_of_eq hg.2.2.2.2⟩ ⟨⟨⟨⟨trivial, c1⟩, (Or.inl rfl)⟩, rfl⟩, (Or.inl rfl)⟩
    exact ⟨_, _, _, _, t9, ⟨_, _, _, rfl, rfl, rfl⟩, rfl, vGw (vG.rf hg) (by decide) rfl rfl, Or.inl rfl, fun z => absurd rfl z⟩
set_option maxRecDepth 100000 in
set_option maxHeartbeats 2000000 in
theorem vh_line (l : Launch) (h : XH) (hg : sgood vT vR vE 153 6051 h) (H : vLn h) : ∃ v h', CX l 5 190 false 186 [xf 13 104] h [xi v] h' ∧ vLi h v h' := by
  have b21 : 0 ≤ (xI h 104 21).toInt ∧ (xI h 104 21).toInt ≤ 64 := vbnd hg.1 104 21
  have b49 : 0 ≤ (xI h 104 49).toInt ∧ (xI h 104 49).toInt ≤ 64 := vbnd hg.1 104 49
  have b7 : 0 ≤ (xI h 104 7).toInt ∧ (xI h 104 7).toInt ≤ 700 := vbnd hg.1 104 7
  have e0 : (0 : Int32).toInt = 0 := rfl
  have e5 : (Int32.ofInt (5)).toInt = 5 := rfl
  have e7 : (Int32.ofInt (7)).toInt = 7 := rfl
  have e9 : (Int32.ofInt (9)).toInt = 9 := rfl
  by_cases c10 : (xI h 104 8) = (Int32.ofInt (1))
  · by_cases c11 : (xI h 104 9) ≤ (Int32.ofInt (5))
    · have d9 := vrel1 hg (veq ⟨by decide, by decide⟩ c10)
      have d5 := Int32.le_iff_toInt_le.mp c11
      have t12 : XT l 5 190 false 186 153 6051 0 [xf 13 104, xun, xun] [] h 26 [xf 13 104, xun, xun] [xi (xI h 104 9)] h := XT_path (l := l) (fr := 5) (lo := 190) (full := false) (M := 186) (n := 153) (u := 6051) (pc := 0) (L := [xf 13 104, xun, xun]) (st := []) (h := h) (inl := [201, 187]) (n' := 120) (sp := [26]) (o := [0, 1]) rfl rfl ⟨rfl, rfl, rfl⟩ rfl ⟨Nat.le_of_eq hg.2.2.2.1, Nat.le_of_eq hg.2.2.2.2⟩ ⟨⟨trivial, c10⟩, c11⟩
      have dk : (xI h 104 9).toInt = 0 ∨ (xI h 104 9).toInt = 1 ∨ (xI h 104 9).toInt = 2 ∨ (xI h 104 9).toInt = 3 ∨ (xI h 104 9).toInt = 4 ∨ (xI h 104 9).toInt = 5 := by omega
      rcases dk with dk | dk | dk | dk | dk | dk
      · have t13 : XT l 5 190 false 186 153 6051 26 [xf 13 104, xun, xun] [xi (xI h 104 9)] h 61 [xf 13 104, xun, xun] [xf 13 104] h := XT_path (l := l) (fr := 5) (lo := 190) (full := false) (M := 186) (n := 153) (u := 6051) (pc := 26) (L := [xf 13 104, xun, xun]) (st := [xi (xI h 104 9)]) (h := h) (inl := [201, 187]) (n' := 120) (sp := [61]) (o := [1]) rfl rfl ⟨rfl, rfl, rfl⟩ rfl ⟨Nat.le_of_eq hg.2.2.2.1, Nat.le_of_eq hg.2.2.2.2⟩ ⟨trivial, ⟨dk.trans (by decide), by decide⟩⟩
        have t14 := t12.tr t13
        obtain ⟨v, h1, c1, g1, f1, o1⟩ := vq_399 l h hg (vbnd hg.1 104 7)
        have GL : vG ([(104, 4, false), (104, 5, false), (104, 7, false), (104, 8, false), (104, 9, false), (104, 10, false), (104, 11, false), (104, 17, false), (104, 18, false), (104, 19, false), (104, 20, false), (104, 21, false), (104, 46, false), (104, 47, false), (104, 48, false), (104, 49, false), (104, 50, false), (104, 51, false), (107, 0, false), (108, 1, false), (109, 0, true), (110, 6, false), (110, 7, false), (110, 8, false), (110, 9, false), (110, 10, false), (110, 11, false), (111, 6, false), (111, 7, false), (111, 8, false), (111, 9, false), (111, 10, false), (111, 11, false), (112, 6, false), (112, 7, false), (112, 8, false), (112, 9, false), (112, 10, false), (112, 11, false), (113, 0, true), (114, 0, true), (115, 0, true), (116, 0, true), (117, 8, false), (117, 9, false), (117, 10, false), (117, 11, false), (117, 12, false), (117, 13, false), (117, 14, false), (117, 15, false), (118, 0, true), (119, 0, true), (120, 0, true), (121, 0, true), (122, 0, true), (123, 0, true), (124, 0, true), (125, 0, true), (126, 0, true), (127, 0, true), (128, 0, true), (129, 0, true), (130, 0, true)], []) h h1 := ⟨g1, f1.mono rfl rfl⟩
        have HL : vLn h1 := vLn_fr H (f1.1 _ _ rfl) (f1.1 _ _ rfl) (fun c c1 c2 k => f1.1 c k (by rcases (by omega : c = 123 ∨ c = 124 ∨ c = 125 ∨ c = 126 ∨ c = 127 ∨ c = 128) with rfl | rfl | rfl | rfl | rfl | rfl <;> rfl))
        have t15 : XT l 5 190 false 186 153 6051 61 [xf 13 104, xun, xun] [xf 13 104] h 64 [xf 13 104, xun, xun] [xi v] h1 := XT_call (l := l) (fr := 5) (lo := 190) (full := false) (M := 186) (n := 153) (u := 6051) (pc := 61) (L := [xf 13 104, xun, xun]) (st := [xf 13 104]) (h := h) (i := .invokevirtual 188) (aux := 1) (nx := 64) (K := 188) (vs := [xf 13 104]) (rs := [xi v]) (rest := []) rfl rfl rfl rfl rfl rfl c1 (by decide) (by decide) (Nat.le_of_ble_eq_true rfl) ⟨Nat.le_of_eq g1.2.2.2.1, Nat.le_of_eq g1.2.2.2.2⟩
        have t16 := t14.tr t15
        by_cases c17 : v = 0
        · have t18 : XT l 5 190 false 186 153 6051 64 [xf 13 104, xun, xun] [xi v] h1 202 [xf 13 104, xi v, xun] [xi (Int32.ofInt (0))] h1 := XT_path (l := l) (fr := 5) (lo := 190) (full := false) (M := 186) (n := 153) (u := 6051) (pc := 64) (L := [xf 13 104, xun, xun]) (st := [xi v]) (h := h1) (inl := [201, 187]) (n' := 120) (sp := [202]) (o := [0]) rfl rfl ⟨rfl, rfl, rfl⟩ rfl ⟨Nat.le_of_eq g1.2.2.2.1, Nat.le_of_eq g1.2.2.2.2⟩ ⟨trivial, c17⟩
          have t19 := t16.tr t18
          exact ⟨_, _, CX_ofT (h' := h1) (by decide) rfl rfl ⟨trivial, Or.inl rfl⟩ ⟨_, _, _, rfl, rfl, rfl⟩ rfl ⟨Nat.le_of_eq g1.2.2.2.1.symm, Nat.le_of_eq g1.2.2.2.2.symm⟩ t19, GL, Or.inl rfl, fun z => absurd rfl z⟩
        · have nv : v.toInt ≠ 0 := vne0 c17
          have NL : (xI h1 104 8).toInt = 4 → (xI h 104 7).toInt + 1 ≤ (xI h1 104 7).toInt := fun z => by omega
          have t20 : XT l 5 190 false 186 153 6051 64 [xf 13 104, xun, xun] [xi v] h1 203 [xf 13 104, xi v, xun] [] h1 := XT_path (l := l) (fr := 5) (lo := 190) (full := false) (M := 186) (n := 153) (u := 6051) (pc := 64) (L := [xf 13 104, xun, xun]) (st := [xi v]) (h := h1) (inl := [201, 187]) (n' := 120) (sp := [203]) (o := [1]) rfl rfl ⟨rfl, rfl, rfl⟩ rfl ⟨Nat.le_of_eq g1.2.2.2.1, Nat.le_of_eq g1.2.2.2.2⟩ ⟨trivial, c17⟩
          have t21 := t16.tr t20
          obtain ⟨v', pc, L', h9, z1, z2, z3, z4, z5, z6⟩ := vh_lineT l v (xun) h1 g1
          refine ⟨v', h9, CX_ofT (by decide) rfl rfl ⟨trivial, z5⟩ z2 z3 ⟨Nat.le_of_eq z4.1.2.2.2.1.symm, Nat.le_of_eq z4.1.2.2.2.2.symm⟩ (t21.tr z1), GL.tr z4, z5, fun z => ?_⟩
          obtain ⟨y1, y2, y3⟩ := z6 z
          refine ⟨vLn_fr HL (y3.1 _ _ rfl) (y3.1 _ _ rfl) (fun c c1 c2 k => y3.1 c k ?_), ?_⟩
          · rcases (by omega : c = 123 ∨ c = 124 ∨ c = 125 ∨ c = 126 ∨ c = 127 ∨ c = 128) with rfl | rfl | rfl | rfl | rfl | rfl <;> rfl
          · have := NL y1
            omega
      · have t22 : XT l 5 190 false 186 153 6051 26 [xf 13 104, xun, xun] [xi (xI h 104 9)] h 69 [xf 13 104, xun, xun] [xf 13 104] h := XT_path (l := l) (fr := 5) (lo := 190) (full := false) (M := 186) (n := 153) (u := 6051) (pc := 26) (L := [xf 13 104, xun, xun]) (st := [xi (xI h 104 9)]) (h := h) (inl := [201, 187]) (n' := 120) (sp := [69]) (o := [2]) rfl rfl ⟨rfl, rfl, rfl⟩ rfl ⟨Nat.le_of_eq hg.2.2.2.1, Nat.le_of_eq hg.2.2.2.2⟩ ⟨trivial, ⟨dk.trans (by decide), by decide⟩⟩
        have t23 := t12.tr t22
        obtain ⟨v, h1, c1, g1, f1, o1⟩ := vq_405 l h hg (vbnd hg.1 104 7)
        have GL : vG ([(104, 4, false), (104, 5, false), (104, 7, false), (104, 8, false), (104, 9, false), (104, 10, false), (104, 11, false), (104, 17, false), (104, 18, false), (104, 19, false), (104, 20, false), (104, 21, false), (104, 46, false), (104, 47, false), (104, 48, false), (104, 49, false), (104, 50, false), (104, 51, false), (107, 0, false), (108, 1, false), (109, 0, true), (110, 6, false), (110, 7, false), (110, 8, false), (110, 9, false), (110, 10, false), (110, 11, false), (111, 6, false), (111, 7, false), (111, 8, false), (111, 9, false), (111, 10, false), (111, 11, false), (112, 6, false), (112, 7, false), (112, 8, false), (112, 9, false), (112, 10, false), (112, 11, false), (113, 0, true), (114, 0, true), (115, 0, true), (116, 0, true), (117, 8, false), (117, 9, false), (117, 10, false), (117, 11, false), (117, 12, false), (117, 13, false), (117, 14, false), (117, 15, false), (118, 0, true), (119, 0, true), (120, 0, true), (121, 0, true), (122, 0, true), (123, 0, true), (124, 0, true), (125, 0, true), (126, 0, true), (127, 0, true), (128, 0, true), (129, 0, true), (130, 0, true)], []) h h1 := ⟨g1, f1.mono rfl rfl⟩
        have HL : vLn h1 := vLn_fr H (f1.1 _ _ rfl) (f1.1 _ _ rfl) (fun c c1 c2 k => f1.1 c k (by rcases (by omega : c = 123 ∨ c = 124 ∨ c = 125 ∨ c = 126 ∨ c = 127 ∨ c = 128) with rfl | rfl | rfl | rfl | rfl | rfl <;> rfl))
        have t24 : XT l 5 190 false 186 153 6051 69 [xf 13 104, xun, xun] [xf 13 104] h 72 [xf 13 104, xun, xun] [xi v] h1 := XT_call (l := l) (fr := 5) (lo := 190) (full := false) (M := 186) (n := 153) (u := 6051) (pc := 69) (L := [xf 13 104, xun, xun]) (st := [xf 13 104]) (h := h) (i := .invokevirtual 193) (aux := 1) (nx := 72) (K := 193) (vs := [xf 13 104]) (rs := [xi v]) (rest := []) rfl rfl rfl rfl rfl rfl c1 (by decide) (by decide) (Nat.le_of_ble_eq_true rfl) ⟨Nat.le_of_eq g1.2.2.2.1, Nat.le_of_eq g1.2.2.2.2⟩
        have t25 := t23.tr t24
        by_cases c26 : v = 0
        · have t27 : XT l 5 190 false 186 153 6051 72 [xf 13 104, xun, xun] [xi v] h1 202 [xf 13 104, xi v, xun] [xi (Int32.ofInt (0))] h1 := XT_path (l := l) (fr := 5) (lo := 190) (full := false) (M := 186) (n := 153) (u := 6051) (pc := 72) (L := [xf 13 104, xun, xun]) (st := [xi v]) (h := h1) (inl := [201, 187]) (n' := 120) (sp := [202]) (o := [0]) rfl rfl ⟨rfl, rfl, rfl⟩ rfl ⟨Nat.le_of_eq g1.2.2.2.1, Nat.le_of_eq g1.2.2.2.2⟩ ⟨trivial, c26⟩
          have t28 := t25.tr t27
          exact ⟨_, _, CX_ofT (h' := h1) (by decide) rfl rfl ⟨trivial, Or.inl rfl⟩ ⟨_, _, _, rfl, rfl, rfl⟩ rfl ⟨Nat.le_of_eq g1.2.2.2.1.symm, Nat.le_of_eq g1.2.2.2.2.symm⟩ t28, GL, Or.inl rfl, fun z => absurd rfl z⟩
        · have nv : v.toInt ≠ 0 := vne0 c26
          have NL : (xI h1 104 8).toInt = 4 → (xI h 104 7).toInt + 1 ≤ (xI h1 104 7).toInt := fun z => by omega
          have t29 : XT l 5 190 false 186 153 6051 72 [xf 13 104, xun, xun] [xi v] h1 203 [xf 13 104, xi v, xun] [] h1 := XT_path (l := l) (fr := 5) (lo := 190) (full := false) (M := 186) (n := 153) (u := 6051) (pc := 72) (L := [xf 13 104, xun, xun]) (st := [xi v]) (h := h1) (inl := [201, 187]) (n' := 120) (sp := [203]) (o := [1]) rfl rfl ⟨rfl, rfl, rfl⟩ rfl ⟨Nat.le_of_eq g1.2.2.2.1, Nat.le_of_eq g1.2.2.2.2⟩ ⟨trivial, c26⟩
          have t30 := t25.tr t29
          obtain ⟨v', pc, L', h9, z1, z2, z3, z4, z5, z6⟩ := vh_lineT l v (xun) h1 g1
          refine ⟨v', h9, CX_ofT (by decide) rfl rfl ⟨trivial, z5⟩ z2 z3 ⟨Nat.le_of_eq z4.1.2.2.2.1.symm, Nat.le_of_eq z4.1.2.2.2.2.symm⟩ (t30.tr z1), GL.tr z4, z5, fun z => ?_⟩
          obtain ⟨y1, y2, y3⟩ := z6 z
          refine ⟨vLn_fr HL (y3.1 _ _ rfl) (y3.1 _ _ rfl) (fun c c1 c2 k => y3.1 c k ?_), ?_⟩
          · rcases (by omega : c = 123 ∨ c = 124 ∨ c = 125 ∨ c = 126 ∨ c = 127 ∨ c = 128) with rfl | rfl | rfl | rfl | rfl | rfl <;> rfl
          · have := NL y1
            omega
      · have t31 : XT l 5 190 false 186 153 6051 26 [xf 13 104, xun, xun] [xi (xI h 104 9)] h 77 [xf 13 104, xun, xun] [xf 13 104] h := XT_path (l := l) (fr := 5) (lo := 190) (full := false) (M := 186) (n := 153) (u := 6051) (pc := 26) (L := [xf 13 104, xun, xun]) (st := [xi (xI h 104 9)]) (h := h) (inl := [201, 187]) (n' := 120) (sp := [77]) (o := [3]) rfl rfl ⟨rfl, rfl, rfl⟩ rfl ⟨Nat.le_of_eq hg.2.2.2.1, Nat.le_of_eq hg.2.2.2.2⟩ ⟨trivial, ⟨dk.trans (by decide), by decide⟩⟩
        have t32 := t12.tr t31
        obtain ⟨v, h1, c1, g1, f1, o1⟩ := vq_424 l h hg (vbnd hg.1 104 7)
        have GL : vG ([(104, 4, false), (104, 5, false), (104, 7, false), (104, 8, false), (104, 9, false), (104, 10, false), (104, 11, false), (104, 17, false), (104, 18, false), (104, 19, false), (104, 20, false), (104, 21, false), (104, 46, false), (104, 47, false), (104, 48, false), (104, 49, false), (104, 50, false), (104, 51, false), (107, 0, false), (108, 1, false), (109, 0, true), (110, 6, false), (110, 7, false), (110, 8, false), (110, 9, false), (110, 10, false), (110, 11, false), (111, 6, false), (111, 7, false), (111, 8, false), (111, 9, false), (111, 10, false), (111, 11, false), (112, 6, false), (112, 7, false), (112, 8, false), (112, 9, false), (112, 10, false), (112, 11, false), (113, 0, true), (114, 0, true), (115, 0, true), (116, 0, true), (117, 8, false), (117, 9, false), (117, 10, false), (117, 11, false), (117, 12, false), (117, 13, false), (117, 14, false), (117, 15, false), (118, 0, true), (119, 0, true), (120, 0, true), (121, 0, true), (122, 0, true), (123, 0, true), (124, 0, true), (125, 0, true), (126, 0, true), (127, 0, true), (128, 0, true), (129, 0, true), (130, 0, true)], []) h h1 := ⟨g1, f1.mono rfl rfl⟩
        have HL : vLn h1 := vLn_fr H (f1.1 _ _ rfl) (f1.1 _ _ rfl) (fun c c1 c2 k => f1.1 c k (by rcases (by omega : c = 123 ∨ c = 124 ∨ c = 125 ∨ c = 126 ∨ c = 127 ∨ c = 128) with rfl | rfl | rfl | rfl | rfl | rfl <;> rfl))
        have t33 : XT l 5 190 false 186 153 6051 77 [xf 13 104, xun, xun] [xf 13 104] h 80 [xf 13 104, xun, xun] [xi v] h1 := XT_call (l := l) (fr := 5) (lo := 190) (full := false) (M := 186) (n := 153) (u := 6051) (pc := 77) (L := [xf 13 104, xun, xun]) (st := [xf 13 104]) (h := h) (i := .invokevirtual 196) (aux := 1) (nx := 80) (K := 196) (vs := [xf 13 104]) (rs := [xi v]) (rest := []) rfl rfl rfl rfl rfl rfl c1 (by decide) (by decide) (Nat.le_of_ble_eq_true rfl) ⟨Nat.le_of_eq g1.2.2.2.1, Nat.le_of_eq g1.2.2.2.2⟩
        have t34 := t32.tr t33
        by_cases c35 : v = 0
        · have t36 : XT l 5 190 false 186 153 6051 80 [xf 13 104, xun, xun] [xi v] h1 202 [xf 13 104, xi v, xun] [xi (Int32.ofInt (0))] h1 := XT_path (l := l) (fr := 5) (lo := 190) (full := false) (M := 186) (n := 153) (u := 6051) (pc := 80) (L := [xf 13 104, xun, xun]) (st := [xi v]) (h := h1) (inl := [201, 187]) (n' := 120) (sp := [202]) (o := [0]) rfl rfl ⟨rfl, rfl, rfl⟩ rfl ⟨Nat.le_of_eq g1.2.2.2.1, Nat.le_of_eq g1.2.2.2.2⟩ ⟨trivial, c35⟩
          have t37 := t34.tr t36
          exact ⟨_, _, CX_ofT (h' := h1) (by decide) rfl rfl ⟨trivial, Or.inl rfl⟩ ⟨_, _, _, rfl, rfl, rfl⟩ rfl ⟨Nat.le_of_eq g1.2.2.2.1.symm, Nat.le_of_eq g1.2.2.2.2.symm⟩ t37, GL, Or.inl rfl, fun z => absurd rfl z⟩
        · have nv : v.toInt ≠ 0 := vne0 c35
          have NL : (xI h1 104 8).toInt = 4 → (xI h 104 7).toInt + 1 ≤ (xI h1 104 7).toInt := fun z => by omega
          have t38 : XT l 5 190 false 186 153 6051 80 [xf 13 104, xun, xun] [xi v] h1 203 [xf 13 104, xi v, xun] [] h1 := XT_path (l := l) (fr := 5) (lo := 190) (full := false) (M := 186) (n := 153) (u := 6051) (pc := 80) (L := [xf 13 104, xun, xun]) (st := [xi v]) (h := h1) (inl := [201, 187]) (n' := 120) (sp := [203]) (o := [1]) rfl rfl ⟨rfl, rfl, rfl⟩ rfl ⟨Nat.le_of_eq g1.2.2.2.1, Nat.le_of_eq g1.2.2.2.2⟩ ⟨trivial, c35⟩
          have t39 := t34.tr t38
          obtain ⟨v', pc, L', h9, z1, z2, z3, z4, z5, z6⟩ := vh_lineT l v (xun) h1 g1
          refine ⟨v', h9, CX_ofT (by decide) rfl rfl ⟨trivial, z5⟩ z2 z3 ⟨Nat.le_of_eq z4.1.2.2.2.1.symm, Nat.le_of_eq z4.1.2.2.2.2.symm⟩ (t39.tr z1), GL.tr z4, z5, fun z => ?_⟩
          obtain ⟨y1, y2, y3⟩ := z6 z
          refine ⟨vLn_fr HL (y3.1 _ _ rfl) (y3.1 _ _ rfl) (fun c c1 c2 k => y3.1 c k ?_), ?_⟩
          · rcases (by omega : c = 123 ∨ c = 124 ∨ c = 125 ∨ c = 126 ∨ c = 127 ∨ c = 128) with rfl | rfl | rfl | rfl | rfl | rfl <;> rfl
          · have := NL y1
            omega
      · have t40 : XT l 5 190 false 186 153 6051 26 [xf 13 104, xun, xun] [xi (xI h 104 9)] h 85 [xf 13 104, xun, xun] [xf 13 104] h := XT_path (l := l) (fr := 5) (lo := 190) (full := false) (M := 186) (n := 153) (u := 6051) (pc := 26) (L := [xf 13 104, xun, xun]) (st := [xi (xI h 104 9)]) (h := h) (inl := [201, 187]) (n' := 120) (sp := [85]) (o := [4]) rfl rfl ⟨rfl, rfl, rfl⟩ rfl ⟨Nat.le_of_eq hg.2.2.2.1, Nat.le_of_eq hg.2.2.2.2⟩ ⟨trivial, ⟨dk.trans (by decide), by decide⟩⟩
        have t41 := t12.tr t40
        obtain ⟨v, h1, c1, g1, f1, o1⟩ := vq_429 l h hg (vbnd hg.1 104 7)
        have GL : vG ([(104, 4, false), (104, 5, false), (104, 7, false), (104, 8, false), (104, 9, false), (104, 10, false), (104, 11, false), (104, 17, false), (104, 18, false), (104, 19, false), (104, 20, false), (104, 21, false), (104, 46, false), (104, 47, false), (104, 48, false), (104, 49, false), (104, 50, false), (104, 51, false), (107, 0, false), (108, 1, false), (109, 0, true), (110, 6, false), (110, 7, false), (110, 8, false), (110, 9, false), (110, 10, false), (110, 11, false), (111, 6, false), (111, 7, false), (111, 8, false), (111, 9, false), (111, 10, false), (111, 11, false), (112, 6, false), (112, 7, false), (112, 8, false), (112, 9, false), (112, 10, false), (112, 11, false), (113, 0, true), (114, 0, true), (115, 0, true), (116, 0, true), (117, 8, false), (117, 9, false), (117, 10, false), (117, 11, false), (117, 12, false), (117, 13, false), (117, 14, false), (117, 15, false), (118, 0, true), (119, 0, true), (120, 0, true), (121, 0, true), (122, 0, true), (123, 0, true), (124, 0, true), (125, 0, true), (126, 0, true), (127, 0, true), (128, 0, true), (129, 0, true), (130, 0, true)], []) h h1 := ⟨g1, f1.mono rfl rfl⟩
        have HL : vLn h1 := vLn_fr H (f1.1 _ _ rfl) (f1.1 _ _ rfl) (fun c c1 c2 k => f1.1 c k (by rcases (by omega : c = 123 ∨ c = 124 ∨ c = 125 ∨ c = 126 ∨ c = 127 ∨ c = 128) with rfl | rfl | rfl | rfl | rfl | rfl <;> rfl))
        have t42 : XT l 5 190 false 186 153 6051 85 [xf 13 104, xun, xun] [xf 13 104] h 88 [xf 13 104, xun, xun] [xi v] h1 := XT_call (l := l) (fr := 5) (lo := 190) (full := false) (M := 186) (n := 153) (u := 6051) (pc := 85) (L := [xf 13 104, xun, xun]) (st := [xf 13 104]) (h := h) (i := .invokevirtual 197) (aux := 1) (nx := 88) (K := 197) (vs := [xf 13 104]) (rs := [xi v]) (rest := []) rfl rfl rfl rfl rfl rfl c1 (by decide) (by decide) (Nat.le_of_ble_eq_true rfl) ⟨Nat.le_of_eq g1.2.2.2.1, Nat.le_of_eq g1.2.2.2.2⟩
        have t43 := t41.tr t42
        by_cases c44 : v = 0
        · have t45 : XT l 5 190 false 186 153 6051 88 [xf 13 104, xun, xun] [xi v] h1 202 [xf 13 104, xi v, xun] [xi (Int32.ofInt (0))] h1 := XT_path (l := l) (fr := 5) (lo := 190) (full := false) (M := 186) (n := 153) (u := 6051) (pc := 88) (L := [xf 13 104, xun, xun]) (st := [xi v]) (h := h1) (inl := [201, 187]) (n' := 120) (sp := [202]) (o := [0]) rfl rfl ⟨rfl, rfl, rfl⟩ rfl ⟨Nat.le_of_eq g1.2.2.2.1, Nat.le_of_eq g1.2.2.2.2⟩ ⟨trivial, c44⟩
          have t46 := t43.tr t45
          exact ⟨_, _, CX_ofT (h' := h1) (by decide) rfl rfl ⟨trivial, Or.inl rfl⟩ ⟨_, _, _, rfl, rfl, rfl⟩ rfl ⟨Nat.le_of_eq g1.2.2.2.1.symm, Nat.le_of_eq g1.2.2.2.2.symm⟩ t46, GL, Or.inl rfl, fun z => absurd rfl z⟩
        · have nv : v.toInt ≠ 0 := vne0 c44
          have NL : (xI h1 104 8).toInt = 4 → (xI h 104 7).toInt + 1 ≤ (xI h1 104 7).toInt := fun z => by omega
          have t47 : XT l 5 190 false 186 153 6051 88 [xf 13 104, xun, xun] [xi v] h1 203 [xf 13 104, xi v, xun] [] h1 := XT_path (l := l) (fr := 5) (lo := 190) (full := false) (M := 186) (n := 153) (u := 6051) (pc := 88) (L := [xf 13 104, xun, xun]) (st := [xi v]) (h := h1) (inl := [201, 187]) (n' := 120) (sp := [203]) (o := [1]) rfl rfl ⟨rfl, rfl, rfl⟩ rfl ⟨Nat.le_of_eq g1.2.2.2.1, Nat.le_of_eq g1.2.2.2.2⟩ ⟨trivial, c44⟩
          have t48 := t43.tr t47
          obtain ⟨v', pc, L', h9, z1, z2, z3, z4, z5, z6⟩ := vh_lineT l v (xun) h1 g1
          refine ⟨v', h9, CX_ofT (by decide) rfl rfl ⟨trivial, z5⟩ z2 z3 ⟨Nat.le_of_eq z4.1.2.2.2.1.symm, Nat.le_of_eq z4.1.2.2.2.2.symm⟩ (t48.tr z1), GL.tr z4, z5, fun z => ?_⟩
          obtain ⟨y1, y2, y3⟩ := z6 z
          refine ⟨vLn_fr HL (y3.1 _ _ rfl) (y3.1 _ _ rfl) (fun c c1 c2 k => y3.1 c k ?_), ?_⟩
          · rcases (by omega : c = 123 ∨ c = 124 ∨ c = 125 ∨ c = 126 ∨ c = 127 ∨ c = 128) with rfl | rfl | rfl | rfl | rfl | rfl <;> rfl
          · have := NL y1
            omega
      · have t49 : XT l 5 190 false 186 153 6051 26 [xf 13 104, xun, xun] [xi (xI h 104 9)] h 93 [xf 13 104, xun, xun] [xf 13 104] h := XT_path (l := l) (fr := 5) (lo := 190) (full := false) (M := 186) (n := 153) (u := 6051) (pc := 26) (L := [xf 13 104, xun, xun]) (st := [xi (xI h 104 9)]) (h := h) (inl := [201, 187]) (n' := 120) (sp := [93]) (o := [5]) rfl rfl ⟨rfl, rfl, rfl⟩ rfl ⟨Nat.le_of_eq hg.2.2.2.1, Nat.le_of_eq hg.2.2.2.2⟩ ⟨trivial, ⟨dk.trans (by decide), by decide⟩⟩
        have t50 := t12.tr t49
        obtain ⟨v, h1, c1, g1, f1, o1⟩ := vq_432 l h hg (vbnd hg.1 104 7)
        have GL : vG ([(104, 4, false), (104, 5, false), (104, 7, false), (104, 8, false), (104, 9, false), (104, 10, false), (104, 11, false), (104, 17, false), (104, 18, false), (104, 19, false), (104, 20, false), (104, 21, false), (104, 46, false), (104, 47, false), (104, 48, false), (104, 49, false), (104, 50, false), (104, 51, false), (107, 0, false), (108, 1, false), (109, 0, true), (110, 6, false), (110, 7, false), (110, 8, false), (110, 9, false), (110, 10, false), (110, 11, false), (111, 6, false), (111, 7, false), (111, 8, false), (111, 9, false), (111, 10, false), (111, 11, false), (112, 6, false), (112, 7, false), (112, 8, false), (112, 9, false), (112, 10, false), (112, 11, false), (113, 0, true), (114, 0, true), (115, 0, true), (116, 0, true), (117, 8, false), (117, 9, false), (117, 10, false), (117, 11, false), (117, 12, false), (117, 13, false), (117, 14, false), (117, 15, false), (118, 0, true), (119, 0, true), (120, 0, true), (121, 0, true), (122, 0, true), (123, 0, true), (124, 0, true), (125, 0, true), (126, 0, true), (127, 0, true), (128, 0, true), (129, 0, true), (130, 0, true)], []) h h1 := ⟨g1, f1.mono rfl rfl⟩
        have HL : vLn h1 := vLn_fr H (f1.1 _ _ rfl) (f1.1 _ _ rfl) (fun c c1 c2 k => f1.1 c k (by rcases (by omega : c = 123 ∨ c = 124 ∨ c = 125 ∨ c = 126 ∨ c = 127 ∨ c = 128) with rfl | rfl | rfl | rfl | rfl | rfl <;> rfl))
        have t51 : XT l 5 190 false 186 153 6051 93 [xf 13 104, xun, xun] [xf 13 104] h 96 [xf 13 104, xun, xun] [xi v] h1 := XT_call (l := l) (fr := 5) (lo := 190) (full := false) (M := 186) (n := 153) (u := 6051) (pc := 93) (L := [xf 13 104, xun, xun]) (st := [xf 13 104]) (h := h) (i := .invokevirtual 199) (aux := 1) (nx := 96) (K := 199) (vs := [xf 13 104]) (rs := [xi v]) (rest := []) rfl rfl rfl rfl rfl rfl c1 (by decide) (by decide) (Nat.le_of_ble_eq_true rfl) ⟨Nat.le_of_eq g1.2.2.2.1, Nat.le_of_eq g1.2.2.2.2⟩
        have t52 := t50.tr t51
        by_cases c53 : v = 0
        · have t54 : XT l 5 190 false 186 153 6051 96 [xf 13 104, xun, xun] [xi v] h1 202 [xf 13 104, xi v, xun] [xi (Int32.ofInt (0))] h1 := XT_path (l := l) (fr := 5) (lo := 190) (full := false) (M := 186) (n := 153) (u := 6051) (pc := 96) (L := [xf 13 104, xun, xun]) (st := [xi v]) (h := h1) (inl := [201, 187]) (n' := 120) (sp := [202]) (o := [0]) rfl rfl ⟨rfl, rfl, rfl⟩ rfl ⟨Nat.le_of_eq g1.2.2.2.1, Nat.le_of_eq g1.2.2.2.2⟩ ⟨trivial, c53⟩
          have t55 := t52.tr t54
          exact ⟨_, _, CX_ofT (h' := h1) (by decide) rfl rfl ⟨trivial, Or.inl rfl⟩ ⟨_, _, _, rfl, rfl, rfl⟩ rfl ⟨Nat.le_of_eq g1.2.2.2.1.symm, Nat.le_of_eq g1.2.2.2.2.symm⟩ t55, GL, Or.inl rfl, fun z => absurd rfl z⟩
        · have nv : v.toInt ≠ 0 := vne0 c53
          have NL : (xI h1 104 8).toInt = 4 → (xI h 104 7).toInt + 1 ≤ (xI h1 104 7).toInt := fun z => by omega
          have t56 : XT l 5 190 false 186 153 6051 96 [xf 13 104, xun, xun] [xi v] h1 203 [xf 13 104, xi v, xun] [] h1 := XT_path (l := l) (fr := 5) (lo := 190) (full := false) (M := 186) (n := 153) (u := 6051) (pc := 96) (L := [xf 13 104, xun, xun]) (st := [xi v]) (h := h1) (inl := [201, 187]) (n' := 120) (sp := [203]) (o := [1]) rfl rfl ⟨rfl, rfl, rfl⟩ rfl ⟨Nat.le_of_eq g1.2.2.2.1, Nat.le_of_eq g1.2.2.2.2⟩ ⟨trivial, c53⟩
          have t57 := t52.tr t56
          obtain ⟨v', pc, L', h9, z1, z2, z3, z4, z5, z6⟩ := vh_lineT l v (xun) h1 g1
          refine ⟨v', h9, CX_ofT (by decide) rfl rfl ⟨trivial, z5⟩ z2 z3 ⟨Nat.le_of_eq z4.1.2.2.2.1.symm, Nat.le_of_eq z4.1.2.2.2.2.symm⟩ (t57.tr z1), GL.tr z4, z5, fun z => ?_⟩
          obtain ⟨y1, y2, y3⟩ := z6 z
          refine ⟨vLn_fr HL (y3.1 _ _ rfl) (y3.1 _ _ rfl) (fun c c1 c2 k => y3.1 c k ?_), ?_⟩
          · rcases (by omega : c = 123 ∨ c = 124 ∨ c = 125 ∨ c = 126 ∨ c = 127 ∨ c = 128) with rfl | rfl | rfl | rfl | rfl | rfl <;> rfl
          · have := NL y1
            omega
      · have t58 : XT l 5 190 false 186 153 6051 26 [xf 13 104, xun, xun] [xi (xI h 104 9)] h 101 [xf 13 104, xun, xun] [xf 13 104] h := XT_path (l := l) (fr := 5) (lo := 190) (full := false) (M := 186) (n := 153) (u := 6051) (pc := 26) (L := [xf 13 104, xun, xun]) (st := [xi (xI h 104 9)]) (h := h) (inl := [201, 187]) (n' := 120) (sp := [101]) (o := [0]) rfl rfl ⟨rfl, rfl, rfl⟩ rfl ⟨Nat.le_of_eq hg.2.2.2.1, Nat.le_of_eq hg.2.2.2.2⟩ ⟨trivial, (Or.inr (by omega))⟩
        have t59 := t12.tr t58
        obtain ⟨h1, c1, g1, f1, w1, w2⟩ := vh_token l h hg
        have G1 : vG ([(104, 4, false), (104, 5, false), (104, 7, false), (104, 8, false), (104, 9, false), (104, 10, false), (104, 11, false), (104, 17, false), (104, 18, false), (104, 19, false), (104, 20, false), (104, 21, false), (104, 46, false), (104, 47, false), (104, 48, false), (104, 49, false), (104, 50, false), (104, 51, false), (107, 0, false), (108, 1, false), (109, 0, true), (110, 6, false), (110, 7, false), (110, 8, false), (110, 9, false), (110, 10, false), (110, 11, false), (111, 6, false), (111, 7, false), (111, 8, false), (111, 9, false), (111, 10, false), (111, 11, false), (112, 6, false), (112, 7, false), (112, 8, false), (112, 9, false), (112, 10, false), (112, 11, false), (113, 0, true), (114, 0, true), (115, 0, true), (116, 0, true), (117, 8, false), (117, 9, false), (117, 10, false), (117, 11, false), (117, 12, false), (117, 13, false), (117, 14, false), (117, 15, false), (118, 0, true), (119, 0, true), (120, 0, true), (121, 0, true), (122, 0, true), (123, 0, true), (124, 0, true), (125, 0, true), (126, 0, true), (127, 0, true), (128, 0, true), (129, 0, true), (130, 0, true)], []) h h1 := ⟨g1, f1.mono rfl rfl⟩
        have t60 : XT l 5 190 false 186 153 6051 101 [xf 13 104, xun, xun] [xf 13 104] h 104 [xf 13 104, xun, xun] [] h1 := XT_call (l := l) (fr := 5) (lo := 190) (full := false) (M := 186) (n := 153) (u := 6051) (pc := 101) (L := [xf 13 104, xun, xun]) (st := [xf 13 104]) (h := h) (i := .invokevirtual 180) (aux := 1) (nx := 104) (K := 180) (vs := [xf 13 104]) (rs := []) (rest := []) rfl rfl rfl rfl rfl rfl c1 (by decide) (by decide) (Nat.le_of_ble_eq_true rfl) ⟨Nat.le_of_eq g1.2.2.2.1, Nat.le_of_eq g1.2.2.2.2⟩
        have t61 := t59.tr t60
        by_cases c62 : (xI h1 104 8) = (Int32.ofInt (1))
        · by_cases c63 : (xI h1 104 9) < (Int32.ofInt (7))
          · have t64 : XT l 5 190 false 186 153 6051 104 [xf 13 104, xun, xun] [] h1 135 [xf 13 104, xun, xun] [xi (Int32.ofInt (0))] (xsetI (xsetI h1 104 4 (Int32.ofInt (1))) 104 5 (xI h1 104 10)) := XT_path (l := l) (fr := 5) (lo := 190) (full := false) (M := 186) (n := 153) (u := 6051) (pc := 104) (L := [xf 13 104, xun, xun]) (st := []) (h := h1) (inl := [201, 187]) (n' := 120) (sp := [135]) (o := [0, 1]) rfl rfl ⟨rfl, rfl, rfl⟩ rfl ⟨Nat.le_of_eq g1.2.2.2.1, Nat.le_of_eq g1.2.2.2.2⟩ ⟨⟨⟨trivial, c62⟩, c63⟩, (Or.inl rfl)⟩
            have t65 := t61.tr t64
            exact ⟨_, _, CX_ofT (h' := (xsetI (xsetI h1 104 4 (Int32.ofInt (1))) 104 5 (xI h1 104 10))) (by decide) rfl rfl ⟨trivial, Or.inl rfl⟩ ⟨_, _, _, rfl, rfl, rfl⟩ rfl ⟨Nat.le_of_eq g1.2.2.2.1.symm, Nat.le_of_eq g1.2.2.2.2.symm⟩ t65, (vGw G1 (by decide) rfl rfl), Or.inl rfl, fun z => absurd rfl z⟩
          · by_cases c66 : (xI h1 104 9) ≤ (Int32.ofInt (9))
            · have d7 : ¬ (xI h1 104 9).toInt < (Int32.ofInt (7)).toInt := fun z => c63 (Int32.lt_iff_toInt_lt.mpr z)
              have d10 := Int32.le_iff_toInt_le.mp c66
              have dK1 : ((Int32.ofInt (3)) + (xI h1 104 9)).toInt = 3 + (xI h1 104 9).toInt := by
                rw [Int32.toInt_add, show (Int32.ofInt (3)).toInt = 3 from rfl]
                exact Int.bmod_eq_of_le (by omega) (by omega)
              have dK : (((Int32.ofInt (3)) + (xI h1 104 9)) - (Int32.ofInt (7))).toInt = (xI h1 104 9).toInt - 4 := by
                rw [Int32.toInt_sub, dK1, e7, Int.bmod_eq_of_le (by omega) (by omega)]
                omega
              have t67 : XT l 5 190 false 186 153 6051 104 [xf 13 104, xun, xun] [] h1 146 [xf 13 104, xun, xi (((Int32.ofInt (3)) + (xI h1 104 9)) - (Int32.ofInt (7)))] [] h1 := XT_path (l := l) (fr := 5) (lo := 190) (full := false) (M := 186) (n := 153) (u := 6051) (pc := 104) (L := [xf 13 104, xun, xun]) (st := []) (h := h1) (inl := [201, 187]) (n' := 120) (sp := [146]) (o := [0, 0, 1]) rfl rfl ⟨rfl, rfl, rfl⟩ rfl ⟨Nat.le_of_eq g1.2.2.2.1, Nat.le_of_eq g1.2.2.2.2⟩ ⟨⟨⟨trivial, c62⟩, c63⟩, c66⟩
              have t68 := t61.tr t67
              obtain ⟨k, ek⟩ : ∃ k, k = (((Int32.ofInt (3)) + (xI h1 104 9)) - (Int32.ofInt (7))) := ⟨_, rfl⟩
              rw [← ek] at t68 dK
              by_cases c69 : (xI h1 (xR h1 104 38) (k).toNatClampNeg) = 0
              · have t70 : XT l 5 190 false 186 153 6051 146 [xf 13 104, xun, xi k] [] h1 168 [xf 13 104, xun, xi k] [] (xsetI h1 (xR h1 104 38) (k).toNatClampNeg (vp_nar .boolean (Int32.ofInt (1)))) := XT_path (l := l) (fr := 5) (lo := 190) (full := false) (M := 186) (n := 153) (u := 6051) (pc := 146) (L := [xf 13 104, xun, xi k]) (st := []) (h := h1) (inl := [201, 187]) (n' := 120) (sp := [168]) (o := [1]) rfl rfl ⟨rfl, rfl, rfl⟩ rfl ⟨Nat.le_of_eq g1.2.2.2.1, Nat.le_of_eq g1.2.2.2.2⟩ ⟨⟨⟨⟨⟨trivial, (vnn g1.1 (rfl : vRf 104 38 = [123]) (by decide))⟩, (vp_of (i := k) (n := 6) (by omega) (by omega))⟩, c69⟩, (vnn g1.1 (rfl : vRf 104 38 = [123]) (by decide))⟩, (vp_of (i := k) (n := 6) (by omega) (by omega))⟩
                rw [vref g1.1 (rfl : vRf 104 38 = [123])] at t70
                have t71 := t68.tr t70
                have nK : k.toNatClampNeg = k.toInt.toNat := rfl
                have G2 : vG ([(104, 4, false), (104, 5, false), (104, 7, false), (104, 8, false), (104, 9, false), (104, 10, false), (104, 11, false), (104, 17, false), (104, 18, false), (104, 19, false), (104, 20, false), (104, 21, false), (104, 46, false), (104, 47, false), (104, 48, false), (104, 49, false), (104, 50, false), (104, 51, false), (107, 0, false), (108, 1, false), (109, 0, true), (110, 6, false), (110, 7, false), (110, 8, false), (110, 9, false), (110, 10, false), (110, 11, false), (111, 6, false), (111, 7, false), (111, 8, false), (111, 9, false), (111, 10, false), (111, 11, false), (112, 6, false), (112, 7, false), (112, 8, false), (112, 9, false), (112, 10, false), (112, 11, false), (113, 0, true), (114, 0, true), (115, 0, true), (116, 0, true), (117, 8, false), (117, 9, false), (117, 10, false), (117, 11, false), (117, 12, false), (117, 13, false), (117, 14, false), (117, 15, false), (118, 0, true), (119, 0, true), (120, 0, true), (121, 0, true), (122, 0, true), (123, 0, true), (124, 0, true), (125, 0, true), (126, 0, true), (127, 0, true), (128, 0, true), (129, 0, true), (130, 0, true)], []) h (xsetI h1 123 (k).toNatClampNeg (vp_nar .boolean (Int32.ofInt (1)))) := vsK G1 (Or.inr ⟨by decide, by decide, by omega⟩) (by rw [vI_u rfl (rfl : vRow 123 = (0, 1))]; decide) (stou_no (by decide +kernel)) rfl
                obtain ⟨h2, e2⟩ : ∃ x, x = (xsetI h1 123 (k).toNatClampNeg (vp_nar .boolean (Int32.ofInt (1)))) := ⟨_, rfl⟩
                rw [← e2] at t71 G2
                have o2 : ∀ c j, ¬ (c = 123 ∧ j = k.toNatClampNeg) → xI h2 c j = xI h1 c j := fun c j z => by rw [e2]; exact yI_ne (eq_false z)
                have t72 : XT l 5 190 false 186 153 6051 168 [xf 13 104, xun, xi k] [] h2 169 [xf 13 104, xun, xi k] [xf 13 104] h2 := XT_path (l := l) (fr := 5) (lo := 190) (full := false) (M := 186) (n := 153) (u := 6051) (pc := 168) (L := [xf 13 104, xun, xi k]) (st := []) (h := h2) (inl := [201, 187]) (n' := 120) (sp := [169]) (o := []) rfl rfl ⟨rfl, rfl, rfl⟩ rfl ⟨Nat.le_of_eq G2.1.2.2.2.1, Nat.le_of_eq G2.1.2.2.2.2⟩ trivial
                have t73 := t71.tr t72
                obtain ⟨h3, c3, g3, f3, w3, w4⟩ := vh_token l h2 G2.1
                have t74 : XT l 5 190 false 186 153 6051 169 [xf 13 104, xun, xi k] [xf 13 104] h2 172 [xf 13 104, xun, xi k] [] h3 := XT_call (l := l) (fr := 5) (lo := 190) (full := false) (M := 186) (n := 153) (u := 6051) (pc := 169) (L := [xf 13 104, xun, xi k]) (st := [xf 13 104]) (h := h2) (i := .invokevirtual 180) (aux := 1) (nx := 172) (K := 180) (vs := [xf 13 104]) (rs := []) (rest := []) rfl rfl rfl rfl rfl rfl c3 (by decide) (by decide) (Nat.le_of_ble_eq_true rfl) ⟨Nat.le_of_eq g3.2.2.2.1, Nat.le_of_eq g3.2.2.2.2⟩
                have t75 := t73.tr t74
                have t76 : XT l 5 190 false 186 153 6051 172 [xf 13 104, xun, xi k] [] h3 182 [xf 13 104, xun, xi k] [] (xsetI h3 (xR h3 104 39) (k).toNatClampNeg (xI h3 104 21)) := XT_path (l := l) (fr := 5) (lo := 190) (full := false) (M := 186) (n := 153) (u := 6051) (pc := 172) (L := [xf 13 104, xun, xi k]) (st := []) (h := h3) (inl := [201, 187]) (n' := 120) (sp := [182]) (o := []) rfl rfl ⟨rfl, rfl, rfl⟩ rfl ⟨Nat.le_of_eq g3.2.2.2.1, Nat.le_of_eq g3.2.2.2.2⟩ ⟨⟨trivial, (vnn g3.1 (rfl : vRf 104 39 = [124]) (by decide))⟩, (vp_of (i := k) (n := 6) (by omega) (by omega))⟩
                rw [vref g3.1 (rfl : vRf 104 39 = [124])] at t76
                have t77 := t75.tr t76
                have b321 : 0 ≤ (xI h3 104 21).toInt ∧ (xI h3 104 21).toInt ≤ 64 := vbnd g3.1 104 21
                have G4 : vG ([(104, 4, false), (104, 5, false), (104, 7, false), (104, 8, false), (104, 9, false), (104, 10, false), (104, 11, false), (104, 17, false), (104, 18, false), (104, 19, false), (104, 20, false), (104, 21, false), (104, 46, false), (104, 47, false), (104, 48, false), (104, 49, false), (104, 50, false), (104, 51, false), (107, 0, false), (108, 1, false), (109, 0, true), (110, 6, false), (110, 7, false), (110, 8, false), (110, 9, false), (110, 10, false), (110, 11, false), (111, 6, false), (111, 7, false), (111, 8, false), (111, 9, false), (111, 10, false), (111, 11, false), (112, 6, false), (112, 7, false), (112, 8, false), (112, 9, false), (112, 10, false), (112, 11, false), (113, 0, true), (114, 0, true), (115, 0, true), (116, 0, true), (117, 8, false), (117, 9, false), (117, 10, false), (117, 11, false), (117, 12, false), (117, 13, false), (117, 14, false), (117, 15, false), (118, 0, true), (119, 0, true), (120, 0, true), (121, 0, true), (122, 0, true), (123, 0, true), (124, 0, true), (125, 0, true), (126, 0, true), (127, 0, true), (128, 0, true), (129, 0, true), (130, 0, true)], []) h (xsetI h3 124 (k).toNatClampNeg (xI h3 104 21)) := vsK ⟨g3, G2.2.tr (f3.mono rfl rfl)⟩ (Or.inr ⟨by decide, by decide, by omega⟩) (by rw [vI_u rfl (rfl : vRow 124 = (0, 64))]; exact b321) (stou_no (by decide +kernel)) rfl
                obtain ⟨h4, e4⟩ : ∃ x, x = (xsetI h3 124 (k).toNatClampNeg (xI h3 104 21)) := ⟨_, rfl⟩
                rw [← e4] at t77 G4
                have o4 : ∀ c j, ¬ (c = 124 ∧ j = k.toNatClampNeg) → xI h4 c j = xI h3 c j := fun c j z => by rw [e4]; exact yI_ne (eq_false z)
                have k4 : xI h4 124 k.toNatClampNeg = xI h3 104 21 := by rw [e4]; exact yI_same
                have t78 : XT l 5 190 false 186 153 6051 182 [xf 13 104, xun, xi k] [] h4 183 [xf 13 104, xun, xi k] [xf 13 104] h4 := XT_path (l := l) (fr := 5) (lo := 190) (full := false) (M := 186) (n := 153) (u := 6051) (pc := 182) (L := [xf 13 104, xun, xi k]) (st := []) (h := h4) (inl := [201, 187]) (n' := 120) (sp := [183]) (o := []) rfl rfl ⟨rfl, rfl, rfl⟩ rfl ⟨Nat.le_of_eq G4.1.2.2.2.1, Nat.le_of_eq G4.1.2.2.2.2⟩ trivial
                have t79 := t77.tr t78
                have u21 : xI h3 104 21 = xI h 104 21 := (f3.1 104 21 rfl).trans ((o2 _ _ (by omega)).trans (f1.1 104 21 rfl))
                have u49 : xI h3 104 49 = xI h 104 49 := (f3.1 104 49 rfl).trans ((o2 _ _ (by omega)).trans (f1.1 104 49 rfl))
                have v21 : xI h4 104 21 = xI h 104 21 := (o4 _ _ (by omega)).trans u21
                have v49 : xI h4 104 49 = xI h 104 49 := (o4 _ _ (by omega)).trans u49
                have v7 : (xI h 104 7).toInt ≤ (xI h4 104 7).toInt := by
                  rw [o4 104 7 (by omega)]
                  rw [o2 104 7 (by omega)] at w3
                  omega
                obtain ⟨v, h5, c5, S5⟩ := vh_sum l h4 G4.1 (by rw [v21, v49]; exact H.2)
                have t80 : XT l 5 190 false 186 153 6051 183 [xf 13 104, xun, xi k] [xf 13 104] h4 186 [xf 13 104, xun, xi k] [xi v] h5 := XT_call (l := l) (fr := 5) (lo := 190) (full := false) (M := 186) (n := 153) (u := 6051) (pc := 183) (L := [xf 13 104, xun, xi k]) (st := [xf 13 104]) (h := h4) (i := .invokevirtual 200) (aux := 1) (nx := 186) (K := 200) (vs := [xf 13 104]) (rs := [xi v]) (rest := []) rfl rfl rfl rfl rfl rfl c5 (by decide) (by decide) (Nat.le_of_ble_eq_true rfl) ⟨Nat.le_of_eq S5.1.1.1.2.2.2.1, Nat.le_of_eq S5.1.1.1.2.2.2.2⟩
                have t81 := t79.tr t80
                have t82 : XT l 5 190 false 186 153 6051 186 [xf 13 104, xun, xi k] [xi v] h5 197 [xf 13 104, xi v, xi k] [] (xsetI h5 (xR h5 104 40) (k).toNatClampNeg (xI h5 104 21)) := XT_path (l := l) (fr := 5) (lo := 190) (full := false) (M := 186) (n := 153) (u := 6051) (pc := 186) (L := [xf 13 104, xun, xi k]) (st := [xi v]) (h := h5) (inl := [201, 187]) (n' := 120) (sp := [197]) (o := []) rfl rfl ⟨rfl, rfl, rfl⟩ rfl ⟨Nat.le_of_eq S5.1.1.1.2.2.2.1, Nat.le_of_eq S5.1.1.1.2.2.2.2⟩ ⟨⟨trivial, (vnn S5.1.1.1.1 (rfl : vRf 104 40 = [125]) (by decide))⟩, (vp_of (i := k) (n := 6) (by omega) (by omega))⟩
                rw [vref S5.1.1.1.1 (rfl : vRf 104 40 = [125])] at t82
                have t83 := t81.tr t82
                have b521 : 0 ≤ (xI h5 104 21).toInt ∧ (xI h5 104 21).toInt ≤ 64 := vbnd S5.1.1.1.1 104 21
                have G6 : vG ([(104, 4, false), (104, 5, false), (104, 7, false), (104, 8, false), (104, 9, false), (104, 10, false), (104, 11, false), (104, 17, false), (104, 18, false), (104, 19, false), (104, 20, false), (104, 21, false), (104, 46, false), (104, 47, false), (104, 48, false), (104, 49, false), (104, 50, false), (104, 51, false), (107, 0, false), (108, 1, false), (109, 0, true), (110, 6, false), (110, 7, false), (110, 8, false), (110, 9, false), (110, 10, false), (110, 11, false), (111, 6, false), (111, 7, false), (111, 8, false), (111, 9, false), (111, 10, false), (111, 11, false), (112, 6, false), (112, 7, false), (112, 8, false), (112, 9, false), (112, 10, false), (112, 11, false), (113, 0, true), (114, 0, true), (115, 0, true), (116, 0, true), (117, 8, false), (117, 9, false), (117, 10, false), (117, 11, false), (117, 12, false), (117, 13, false), (117, 14, false), (117, 15, false), (118, 0, true), (119, 0, true), (120, 0, true), (121, 0, true), (122, 0, true), (123, 0, true), (124, 0, true), (125, 0, true), (126, 0, true), (127, 0, true), (128, 0, true), (129, 0, true), (130, 0, true)], []) h (xsetI h5 125 (k).toNatClampNeg (xI h5 104 21)) := vsK ⟨S5.1.1.1, G4.2.tr (S5.1.1.2.mono rfl rfl)⟩ (Or.inr ⟨by decide, by decide, by omega⟩) (by rw [vI_u rfl (rfl : vRow 125 = (0, 64))]; exact b521) (stou_no (by decide +kernel)) rfl
                obtain ⟨h6, e6⟩ : ∃ x, x = (xsetI h5 125 (k).toNatClampNeg (xI h5 104 21)) := ⟨_, rfl⟩
                rw [← e6] at t83 G6
                have o6 : ∀ c j, ¬ (c = 125 ∧ j = k.toNatClampNeg) → xI h6 c j = xI h5 c j := fun c j z => by rw [e6]; exact yI_ne (eq_false z)
                have k6 : xI h6 125 k.toNatClampNeg = xI h5 104 21 := by rw [e6]; exact yI_same
                by_cases c84 : v = 0
                · have t85 : XT l 5 190 false 186 153 6051 197 [xf 13 104, xi v, xi k] [] h6 202 [xf 13 104, xi v, xi k] [xi (Int32.ofInt (0))] h6 := XT_path (l := l) (fr := 5) (lo := 190) (full := false) (M := 186) (n := 153) (u := 6051) (pc := 197) (L := [xf 13 104, xi v, xi k]) (st := []) (h := h6) (inl := [201, 187]) (n' := 120) (sp := [202]) (o := [0]) rfl rfl ⟨rfl, rfl, rfl⟩ rfl ⟨Nat.le_of_eq G6.1.2.2.2.1, Nat.le_of_eq G6.1.2.2.2.2⟩ ⟨trivial, c84⟩
                  have t86 := t83.tr t85
                  exact ⟨_, _, CX_ofT (h' := h6) (by decide) rfl rfl ⟨trivial, Or.inl rfl⟩ ⟨_, _, _, rfl, rfl, rfl⟩ rfl ⟨Nat.le_of_eq G6.1.2.2.2.1.symm, Nat.le_of_eq G6.1.2.2.2.2.symm⟩ t86, G6, Or.inl rfl, fun z => absurd rfl z⟩
                · obtain ⟨s1, s2, s3, s4⟩ := S5.2.2 c84
                  have GL : vG ([(104, 4, false), (104, 5, false), (104, 7, false), (104, 8, false), (104, 9, false), (104, 10, false), (104, 11, false), (104, 17, false), (104, 18, false), (104, 19, false), (104, 20, false), (104, 21, false), (104, 46, false), (104, 47, false), (104, 48, false), (104, 49, false), (104, 50, false), (104, 51, false), (107, 0, false), (108, 1, false), (109, 0, true), (110, 6, false), (110, 7, false), (110, 8, false), (110, 9, false), (110, 10, false), (110, 11, false), (111, 6, false), (111, 7, false), (111, 8, false), (111, 9, false), (111, 10, false), (111, 11, false), (112, 6, false), (112, 7, false), (112, 8, false), (112, 9, false), (112, 10, false), (112, 11, false), (113, 0, true), (114, 0, true), (115, 0, true), (116, 0, true), (117, 8, false), (117, 9, false), (117, 10, false), (117, 11, false), (117, 12, false), (117, 13, false), (117, 14, false), (117, 15, false), (118, 0, true), (119, 0, true), (120, 0, true), (121, 0, true), (122, 0, true), (123, 0, true), (124, 0, true), (125, 0, true), (126, 0, true), (127, 0, true), (128, 0, true), (129, 0, true), (130, 0, true)], []) h h6 := G6
                  have NL : (xI h6 104 8).toInt = 4 → (xI h 104 7).toInt + 1 ≤ (xI h6 104 7).toInt := fun _ => by rw [o6 104 7 (by omega)]; omega
                  rw [v21] at s1 s3
                  have lowk : ∀ c, 126 ≤ c → c ≤ 128 → ∀ j : Nat, (j : Int) < 64 + (xI h 104 21).toInt → xI h6 c j = xI h c j := fun c c1 c2 j hj => by
                    rw [o6 c j (by omega), S5.1.2 c c1 c2 j (by rw [v21]; exact hj), o4 c j (by omega)]
                    rcases (by omega : c = 126 ∨ c = 127 ∨ c = 128) with rfl | rfl | rfl
                    · exact (f3.1 _ _ rfl).trans ((o2 _ _ (by omega)).trans (f1.1 _ _ rfl))
                    · exact (f3.1 _ _ rfl).trans ((o2 _ _ (by omega)).trans (f1.1 _ _ rfl))
                    · exact (f3.1 _ _ rfl).trans ((o2 _ _ (by omega)).trans (f1.1 _ _ rfl))
                  have HL : vLn h6 := by
                    refine ⟨fun w a1 a2 => ?_, by rw [o6 104 21 (by omega), o6 104 49 (by omega)]; exact s2⟩
                    by_cases e : w = k.toNatClampNeg
                    · subst e
                      intro _
                      rw [k6, o6 104 21 (by omega), o6 124 _ (by omega), S5.1.1.2.1 124 _ rfl, k4, u21]
                      exact ⟨⟨s1, b521.2, vkk_fr s3 (fun c c1 c2 j _ _ => o6 _ _ (by omega))⟩, Int.le_refl _⟩
                    · rw [o6 123 w (by omega), S5.1.1.2.1 123 w rfl, o4 123 w (by omega), f3.1 123 w rfl, o2 123 w (fun z => e z.2), f1.1 123 w rfl, o6 124 w (by omega), S5.1.1.2.1 124 w rfl, o4 124 w (fun z => e z.2), f3.1 124 w rfl, o2 124 w (by omega), f1.1 124 w rfl, o6 125 w (fun z => e z.2), S5.1.1.2.1 125 w rfl, o4 125 w (by omega), f3.1 125 w rfl, o2 125 w (by omega), f1.1 125 w rfl, o6 104 21 (by omega)]
                      intro e1
                      obtain ⟨⟨a3, a4, a5⟩, a6⟩ := H.1 w a1 a2 e1
                      exact ⟨⟨a3, a4, vkk_fr a5 (fun c c1 c2 j _ j2 => lowk c c1 c2 (64 + j) (by omega))⟩, by omega⟩
                  have t87 : XT l 5 190 false 186 153 6051 197 [xf 13 104, xi v, xi k] [] h6 203 [xf 13 104, xi v, xi k] [] h6 := XT_path (l := l) (fr := 5) (lo := 190) (full := false) (M := 186) (n := 153) (u := 6051) (pc := 197) (L := [xf 13 104, xi v, xi k]) (st := []) (h := h6) (inl := [201, 187]) (n' := 120) (sp := [203]) (o := [1]) rfl rfl ⟨rfl, rfl, rfl⟩ rfl ⟨Nat.le_of_eq G6.1.2.2.2.1, Nat.le_of_eq G6.1.2.2.2.2⟩ ⟨trivial, c84⟩
                  have t88 := t83.tr t87
                  obtain ⟨v', pc, L', h9, z1, z2, z3, z4, z5, z6⟩ := vh_lineT l v (xi k) h6 G6.1
                  refine ⟨v', h9, CX_ofT (by decide) rfl rfl ⟨trivial, z5⟩ z2 z3 ⟨Nat.le_of_eq z4.1.2.2.2.1.symm, Nat.le_of_eq z4.1.2.2.2.2.symm⟩ (t88.tr z1), GL.tr z4, z5, fun z => ?_⟩
                  obtain ⟨y1, y2, y3⟩ := z6 z
                  refine ⟨vLn_fr HL (y3.1 _ _ rfl) (y3.1 _ _ rfl) (fun c c1 c2 k => y3.1 c k ?_), ?_⟩
                  · rcases (by omega : c = 123 ∨ c = 124 ∨ c = 125 ∨ c = 126 ∨ c = 127 ∨ c = 128) with rfl | rfl | rfl | rfl | rfl | rfl <;> rfl
                  · have := NL y1
                    omega
              · have t89 : XT l 5 190 false 186 153 6051 146 [xf 13 104, xun, xi k] [] h1 160 [xf 13 104, xun, xi k] [xi (Int32.ofInt (0))] (xsetI (xsetI h1 104 4 (Int32.ofInt (3))) 104 5 (xI h1 104 10)) := XT_path (l := l) (fr := 5) (lo := 190) (full := false) (M := 186) (n := 153) (u := 6051) (pc := 146) (L := [xf 13 104, xun, xi k]) (st := []) (h := h1) (inl := [201, 187]) (n' := 120) (sp := [160]) (o := [0]) rfl rfl ⟨rfl, rfl, rfl⟩ rfl ⟨Nat.le_of_eq g1.2.2.2.1, Nat.le_of_eq g1.2.2.2.2⟩ ⟨⟨⟨⟨trivial, (vnn g1.1 (rfl : vRf 104 38 = [123]) (by decide))⟩, (vp_of (i := k) (n := 6) (by omega) (by omega))⟩, c69⟩, (Or.inl rfl)⟩
                have t90 := t68.tr t89
                exact ⟨_, _, CX_ofT (h' := (xsetI (xsetI h1 104 4 (Int32.ofInt (3))) 104 5 (xI h1 104 10))) (by decide) rfl rfl ⟨trivial, Or.inl rfl⟩ ⟨_, _, _, rfl, rfl, rfl⟩ rfl ⟨Nat.le_of_eq g1.2.2.2.1.symm, Nat.le_of_eq g1.2.2.2.2.symm⟩ t90, (vGw G1 (by decide) rfl rfl), Or.inl rfl, fun z => absurd rfl z⟩
            · have t91 : XT l 5 190 false 186 153 6051 104 [xf 13 104, xun, xun] [] h1 135 [xf 13 104, xun, xun] [xi (Int32.ofInt (0))] (xsetI (xsetI h1 104 4 (Int32.ofInt (1))) 104 5 (xI h1 104 10)) := XT_path (l := l) (fr := 5) (lo := 190) (full := false) (M := 186) (n := 153) (u := 6051) (pc := 104) (L := [xf 13 104, xun, xun]) (st := []) (h := h1) (inl := [201, 187]) (n' := 120) (sp := [135]) (o := [0, 0, 0]) rfl rfl ⟨rfl, rfl, rfl⟩ rfl ⟨Nat.le_of_eq g1.2.2.2.1, Nat.le_of_eq g1.2.2.2.2⟩ ⟨⟨⟨⟨trivial, c62⟩, c63⟩, c66⟩, (Or.inl rfl)⟩
              have t92 := t61.tr t91
              exact ⟨_, _, CX_ofT (h' := (xsetI (xsetI h1 104 4 (Int32.ofInt (1))) 104 5 (xI h1 104 10))) (by decide) rfl rfl ⟨trivial, Or.inl rfl⟩ ⟨_, _, _, rfl, rfl, rfl⟩ rfl ⟨Nat.le_of_eq g1.2.2.2.1.symm, Nat.le_of_eq g1.2.2.2.2.symm⟩ t92, (vGw G1 (by decide) rfl rfl), Or.inl rfl, fun z => absurd rfl z⟩
        · have t93 : XT l 5 190 false 186 153 6051 104 [xf 13 104, xun, xun] [] h1 135 [xf 13 104, xun, xun] [xi (Int32.ofInt (0))] (xsetI (xsetI h1 104 4 (Int32.ofInt (1))) 104 5 (xI h1 104 10)) := XT_path (l := l) (fr := 5) (lo := 190) (full := false) (M := 186) (n := 153) (u := 6051) (pc := 104) (L := [xf 13 104, xun, xun]) (st := []) (h := h1) (inl := [201, 187]) (n' := 120) (sp := [135]) (o := [1]) rfl rfl ⟨rfl, rfl, rfl⟩ rfl ⟨Nat.le_of_eq g1.2.2.2.1, Nat.le_of_eq g1.2.2.2.2⟩ ⟨⟨trivial, c62⟩, (Or.inl rfl)⟩
          have t94 := t61.tr t93
          exact ⟨_, _, CX_ofT (h' := (xsetI (xsetI h1 104 4 (Int32.ofInt (1))) 104 5 (xI h1 104 10))) (by decide) rfl rfl ⟨trivial, Or.inl rfl⟩ ⟨_, _, _, rfl, rfl, rfl⟩ rfl ⟨Nat.le_of_eq g1.2.2.2.1.symm, Nat.le_of_eq g1.2.2.2.2.symm⟩ t94, (vGw G1 (by decide) rfl rfl), Or.inl rfl, fun z => absurd rfl z⟩
    · have t95 : XT l 5 190 false 186 153 6051 0 [xf 13 104, xun, xun] [] h 21 [xf 13 104, xun, xun] [xi (Int32.ofInt (0))] (xsetI (xsetI h 104 4 (Int32.ofInt (1))) 104 5 (xI h 104 10)) := XT_path (l := l) (fr := 5) (lo := 190) (full := false) (M := 186) (n := 153) (u := 6051) (pc := 0) (L := [xf 13 104, xun, xun]) (st := []) (h := h) (inl := [201, 187]) (n' := 120) (sp := [21]) (o := [0, 0]) rfl rfl ⟨rfl, rfl, rfl⟩ rfl ⟨Nat.le_of_eq hg.2.2.2.1, Nat.le_of_eq hg.2.2.2.2⟩ ⟨⟨⟨trivial, c10⟩, c11⟩, (Or.inl rfl)⟩
      exact ⟨_, _, CX_ofT (h' := (xsetI (xsetI h 104 4 (Int32.ofInt (1))) 104 5 (xI h 104 10))) (by decide) rfl rfl ⟨trivial, Or.inl rfl⟩ ⟨_, _, _, rfl, rfl, rfl⟩ rfl ⟨Nat.le_of_eq hg.2.2.2.1.symm, Nat.le_of_eq hg.2.2.2.2.symm⟩ t95, (vGw (vG.rf hg) (by decide) rfl rfl), Or.inl rfl, fun z => absurd rfl z⟩
  · have t96 : XT l 5 190 false 186 153 6051 0 [xf 13 104, xun, xun] [] h 21 [xf 13 104, xun, xun] [xi (Int32.ofInt (0))] (xsetI (xsetI h 104 4 (Int32.ofInt (1))) 104 5 (xI h 104 10)) := XT_path (l := l) (fr := 5) (lo := 190) (full := false) (M := 186) (n := 153) (u := 6051) (pc := 0) (L := [xf 13 104, xun, xun]) (st := []) (h := h) (inl := [201, 187]) (n' := 120) (sp := [21]) (o := [1]) rfl rfl ⟨rfl, rfl, rfl⟩ rfl ⟨Nat.le_of_eq hg.2.2.2.1, Nat.le_of_eq hg.2.2.2.2⟩ ⟨⟨trivial, c10⟩, (Or.inl rfl)⟩
    exact ⟨_, _, CX_ofT (h' := (xsetI (xsetI h 104 4 (Int32.ofInt (1))) 104 5 (xI h 104 10))) (by decide) rfl rfl ⟨trivial, Or.inl rfl⟩ ⟨_, _, _, rfl, rfl, rfl⟩ rfl ⟨Nat.le_of_eq hg.2.2.2.1.symm, Nat.le_of_eq hg.2.2.2.2.symm⟩ t96, (vGw (vG.rf hg) (by decide) rfl rfl), Or.inl rfl, fun z => absurd rfl z⟩
