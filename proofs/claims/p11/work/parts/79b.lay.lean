/-! PAIRS BY HAND: what is tried begins alike. -/
/-- what may differ ahead of a trial -/
def vDo : SWl := [(139, 0, true), (140, 0, true), (104, 54, false), (104, 63, false), (104, 64, false), (133, 6, false), (133, 7, false), (133, 8, false), (133, 9, false), (133, 10, false), (133, 11, false), (134, 6, false), (134, 7, false), (134, 8, false), (134, 9, false), (134, 10, false), (134, 11, false), (135, 8, false), (135, 9, false), (135, 10, false), (135, 11, false), (135, 12, false), (135, 13, false), (135, 14, false), (135, 15, false), (136, 8, false), (136, 9, false), (136, 10, false), (136, 11, false), (136, 12, false), (136, 13, false), (136, 14, false), (136, 15, false), (137, 8, false), (137, 9, false), (137, 10, false), (137, 11, false), (137, 12, false), (137, 13, false), (137, 14, false), (137, 15, false), (138, 1, false)]
def vWY : SW := ([(104, 63, false), (104, 64, false), (133, 6, false), (133, 7, false), (133, 8, false), (133, 9, false), (133, 10, false), (133, 11, false), (134, 6, false), (134, 7, false), (134, 8, false), (134, 9, false), (134, 10, false), (134, 11, false), (135, 8, false), (135, 9, false), (135, 10, false), (135, 11, false), (135, 12, false), (135, 13, false), (135, 14, false), (135, 15, false), (136, 8, false), (136, 9, false), (136, 10, false), (136, 11, false), (136, 12, false), (136, 13, false), (136, 14, false), (136, 15, false), (137, 8, false), (137, 9, false), (137, 10, false), (137, 11, false), (137, 12, false), (137, 13, false), (137, 14, false), (137, 15, false), (138, 1, false)], [])
theorem sAg_setD {D : SWl} {P : XLP} {h h2 : XH} {c k : Nat} {v : Int32} (ha : sAg D P h h2) : sAg D P (xsetI h c k v) (xsetI h2 c k v) := by
  refine ⟨fun c' k' hck hl => ?_, ha.2.1, ha.2.2⟩
  by_cases e : c' = c ∧ k' = k
  · obtain ⟨rfl, rfl⟩ := e
    rw [yI_same, yI_same]
  · rw [yI_ne (eq_false e), yI_ne (eq_false e)]
    exact ha.1 c' k' hck hl
def vLy (hs hO hO2 h h2 : XH) : Prop := sgood vT vR (vEs hs) 153 6051 h ∧ sgood vT vR (vEs hs) 153 6051 h2 ∧ sframe vWY hO h ∧ sframe vWY hO2 h2 ∧ sAg vDo (fun _ _ => True) h h2
theorem vLy.set {hs hO hO2 h h2 : XH} (H : vLy hs hO hO2 h h2) {c k : Nat} {v : Int32} (hv : (vI c k).1 ≤ v.toInt ∧ v.toInt ≤ (vI c k).2) (h1 : stou vRC (c, k, false) = false) (h2' : swin vECs c k = false) (hw : swin vWY.1 c k = true) : vLy hs hO hO2 (xsetI h c k v) (xsetI h2 c k v) :=
  ⟨sgS_set H.1 hv h1 h2', sgS_set H.2.1 hv h1 h2', H.2.2.1.tr (sframe_set hw), H.2.2.2.1.tr (sframe_set hw), sAg_setD H.2.2.2.2⟩
theorem vWY1 : ∀ k, k < 12 → 6 ≤ k → swin vWY.1 133 k = true ∧ swin vWY.1 134 k = true ∧ stou vRC (134, k, false) = false := by decide +kernel
theorem vWY2 : ∀ k, k < 16 → 8 ≤ k → (swin vWY.1 135 k = true ∧ swin vWY.1 136 k = true ∧ swin vWY.1 137 k = true) ∧ stou vRC (135, k, false) = false ∧ swin vECs 135 k = false := by decide +kernel
theorem vDo1 : ∀ k, k < 6 → swin vDo 133 k = false ∧ swin vDo 134 k = false := by decide +kernel
theorem vDo2 : ∀ k, k < 8 → swin vDo 135 k = false ∧ swin vDo 136 k = false ∧ swin vDo 137 k = false := by decide +kernel
set_option maxRecDepth 100000 in
set_option maxHeartbeats 2000000 in
theorem vp_lay1 (l : Launch) (hs hO hO2 : XH) : ∀ (m : Nat) (i : Int32) (h h2 : XH), vLy hs hO hO2 h h2 → 0 ≤ i.toInt → i.toInt + m = 6 → (∀ j : Nat, (j : Int) < i.toInt → xI h 133 (6 + j) = xI h2 133 (6 + j) ∧ xI h 134 (6 + j) = xI h2 134 (6 + j)) → ∃ i' g g2, XT l 1 20 false 247 153 6051 2 [xf 13 104, xi i] [] h 44 [xf 13 104, xi i'] [] g ∧ XT l 1 20 false 247 153 6051 2 [xf 13 104, xi i] [] h2 44 [xf 13 104, xi i'] [] g2 ∧ vLy hs hO hO2 g g2 ∧ (∀ j : Nat, (j : Int) < 6 → xI g 133 (6 + j) = xI g2 133 (6 + j) ∧ xI g 134 (6 + j) = xI g2 134 (6 + j)) ∧ (∀ c k, c ≠ 133 → c ≠ 134 → xI g c k = xI h c k ∧ xI g2 c k = xI h2 c k)
  | 0, i, h, h2, H, a1, a2, hv => by
    have hg := H.1
    have hg2 := H.2.1
    have ha := H.2.2.2.2
    have en : (Int32.ofInt (6)).toInt = 6 := rfl
    have t1 : XT l 1 20 false 247 153 6051 2 [xf 13 104, xi i] [] h 44 [xf 13 104, xi i] [] h := XT_path (l := l) (fr := 1) (lo := 20) (full := false) (M := 247) (n := 153) (u := 6051) (pc := 2) (L := [xf 13 104, xi i]) (st := []) (h := h) (inl := []) (n' := 80) (sp := [44]) (o := [1]) rfl rfl ⟨rfl, rfl, rfl⟩ rfl ⟨Nat.le_of_eq hg.2.2.2.1, Nat.le_of_eq hg.2.2.2.2⟩ ⟨trivial, (Int32.le_iff_toInt_le.mpr (by omega))⟩
    have t1' : XT l 1 20 false 247 153 6051 2 [xf 13 104, xi i] [] h2 44 [xf 13 104, xi i] [] h2 := XT_path (l := l) (fr := 1) (lo := 20) (full := false) (M := 247) (n := 153) (u := 6051) (pc := 2) (L := [xf 13 104, xi i]) (st := []) (h := h2) (inl := []) (n' := 80) (sp := [44]) (o := [1]) rfl rfl ⟨rfl, rfl, rfl⟩ rfl ⟨Nat.le_of_eq hg2.2.2.2.1, Nat.le_of_eq hg2.2.2.2.2⟩ ⟨trivial, (Int32.le_iff_toInt_le.mpr (by omega))⟩
    exact ⟨i, h, h2, t1, t1', H, fun j hj => hv j (by omega), fun _ _ _ _ => ⟨rfl, rfl⟩⟩
  | m + 1, i, h, h2, H, a1, a2, hv => by
    have hg := H.1
    have hg2 := H.2.1
    have ha := H.2.2.2.2
    have en : (Int32.ofInt (6)).toInt = 6 := rfl
    have ex : ((Int32.ofInt (6)) + i).toInt = 6 + i.toInt := by
      rw [Int32.toInt_add, en]
      exact Int.bmod_eq_of_le (by omega) (by omega)
    have nx : ((Int32.ofInt (6)) + i).toNatClampNeg = 6 + i.toNatClampNeg := by
      show ((Int32.ofInt (6)) + i).toInt.toNat = 6 + i.toInt.toNat
      omega
    have ni : i.toNatClampNeg = i.toInt.toNat := rfl
    have ei := y_suc1 a1 (by omega)
    have u133 : xI h2 133 i.toNatClampNeg = xI h 133 i.toNatClampNeg := (ha.1 _ _ (vDo1 i.toNatClampNeg (by omega)).1 (by show i.toInt.toNat < 12; omega)).symm
    have u134 : xI h2 134 i.toNatClampNeg = xI h 134 i.toNatClampNeg := (ha.1 _ _ (vDo1 i.toNatClampNeg (by omega)).2 (by show i.toInt.toNat < 12; omega)).symm
    have t2 : XT l 1 20 false 247 153 6051 2 [xf 13 104, xi i] [] h 23 [xf 13 104, xi i] [] (xsetI h (xR h 104 55) (((Int32.ofInt (6)) + i)).toNatClampNeg (xI h (xR h 104 55) (i).toNatClampNeg)) := XT_path (l := l) (fr := 1) (lo := 20) (full := false) (M := 247) (n := 153) (u := 6051) (pc := 2) (L := [xf 13 104, xi i]) (st := []) (h := h) (inl := []) (n' := 80) (sp := [23]) (o := [0]) rfl rfl ⟨rfl, rfl, rfl⟩ rfl ⟨Nat.le_of_eq hg.2.2.2.1, Nat.le_of_eq hg.2.2.2.2⟩ ⟨⟨⟨⟨⟨trivial, (fun z => absurd (Int32.le_iff_toInt_le.mp z) (by omega))⟩, (vnn hg.1 (rfl : vRf 104 55 = [133]) (by decide))⟩, (vnn hg.1 (rfl : vRf 104 55 = [133]) (by decide))⟩, (vp_of (i := i) (n := 12) (by omega) (by omega))⟩, (vp_of (i := ((Int32.ofInt (6)) + i)) (n := 12) (by omega) (by omega))⟩
    rw [vref hg.1 (rfl : vRf 104 55 = [133])] at t2
    have t2' : XT l 1 20 false 247 153 6051 2 [xf 13 104, xi i] [] h2 23 [xf 13 104, xi i] [] (xsetI h2 (xR h2 104 55) (((Int32.ofInt (6)) + i)).toNatClampNeg (xI h2 (xR h2 104 55) (i).toNatClampNeg)) := XT_path (l := l) (fr := 1) (lo := 20) (full := false) (M := 247) (n := 153) (u := 6051) (pc := 2) (L := [xf 13 104, xi i]) (st := []) (h := h2) (inl := []) (n' := 80) (sp := [23]) (o := [0]) rfl rfl ⟨rfl, rfl, rfl⟩ rfl ⟨Nat.le_of_eq hg2.2.2.2.1, Nat.le_of_eq hg2.2.2.2.2⟩ ⟨⟨⟨⟨⟨trivial, (fun z => absurd (Int32.le_iff_toInt_le.mp z) (by omega))⟩, (vnn hg2.1 (rfl : vRf 104 55 = [133]) (by decide))⟩, (vnn hg2.1 (rfl : vRf 104 55 = [133]) (by decide))⟩, (vp_of (i := i) (n := 12) (by omega) (by omega))⟩, (vp_of (i := ((Int32.ofInt (6)) + i)) (n := 12) (by omega) (by omega))⟩
    rw [vref hg2.1 (rfl : vRf 104 55 = [133])] at t2'
    rw [u133] at t2'
    have t3 : XT l 1 20 false 247 153 6051 23 [xf 13 104, xi i] [] (xsetI h 133 (((Int32.ofInt (6)) + i)).toNatClampNeg (xI h 133 (i).toNatClampNeg)) 38 [xf 13 104, xi i] [] (xsetI (xsetI h 133 (((Int32.ofInt (6)) + i)).toNatClampNeg (xI h 133 (i).toNatClampNeg)) (xR h 104 56) (((Int32.ofInt (6)) + i)).toNatClampNeg (xI (xsetI h 133 (((Int32.ofInt (6)) + i)).toNatClampNeg (xI h 133 (i).toNatClampNeg)) (xR h 104 56) (i).toNatClampNeg)) := XT_path (l := l) (fr := 1) (lo := 20) (full := false) (M := 247) (n := 153) (u := 6051) (pc := 23) (L := [xf 13 104, xi i]) (st := []) (h := (xsetI h 133 (((Int32.ofInt (6)) + i)).toNatClampNeg (xI h 133 (i).toNatClampNeg))) (inl := []) (n' := 80) (sp := [38]) (o := []) rfl rfl ⟨rfl, rfl, rfl⟩ rfl ⟨Nat.le_of_eq hg.2.2.2.1, Nat.le_of_eq hg.2.2.2.2⟩ ⟨⟨⟨⟨trivial, (vnn hg.1 (rfl : vRf 104 56 = [134]) (by decide))⟩, (vnn hg.1 (rfl : vRf 104 56 = [134]) (by decide))⟩, (vp_of (i := i) (n := 12) (by omega) (by omega))⟩, (vp_of (i := ((Int32.ofInt (6)) + i)) (n := 12) (by omega) (by omega))⟩
    rw [vref hg.1 (rfl : vRf 104 56 = [134])] at t3
    have t4 : XT l 1 20 false 247 153 6051 23 [xf 13 104, xi i] [] (xsetI h 133 (((Int32.ofInt (6)) + i)).toNatClampNeg (xI h 133 (i).toNatClampNeg)) 38 [xf 13 104, xi i] [] (xsetI (xsetI h 133 (((Int32.ofInt (6)) + i)).toNatClampNeg (xI h 133 (i).toNatClampNeg)) 134 (((Int32.ofInt (6)) + i)).toNatClampNeg (xI h 134 (i).toNatClampNeg)) := t3
    have t5 := t2.tr t4
    have t3' : XT l 1 20 false 247 153 6051 23 [xf 13 104, xi i] [] (xsetI h2 133 (((Int32.ofInt (6)) + i)).toNatClampNeg (xI h 133 (i).toNatClampNeg)) 38 [xf 13 104, xi i] [] (xsetI (xsetI h2 133 (((Int32.ofInt (6)) + i)).toNatClampNeg (xI h 133 (i).toNatClampNeg)) (xR h2 104 56) (((Int32.ofInt (6)) + i)).toNatClampNeg (xI (xsetI h2 133 (((Int32.ofInt (6)) + i)).toNatClampNeg (xI h 133 (i).toNatClampNeg)) (xR h2 104 56) (i).toNatClampNeg)) := XT_path (l := l) (fr := 1) (lo := 20) (full := false) (M := 247) (n := 153) (u := 6051) (pc := 23) (L := [xf 13 104, xi i]) (st := []) (h := (xsetI h2 133 (((Int32.ofInt (6)) + i)).toNatClampNeg (xI h 133 (i).toNatClampNeg))) (inl := []) (n' := 80) (sp := [38]) (o := []) rfl rfl ⟨rfl, rfl, rfl⟩ rfl ⟨Nat.le_of_eq hg2.2.2.2.1, Nat.le_of_eq hg2.2.2.2.2⟩ ⟨⟨⟨⟨trivial, (vnn hg2.1 (rfl : vRf 104 56 = [134]) (by decide))⟩, (vnn hg2.1 (rfl : vRf 104 56 = [134]) (by decide))⟩, (vp_of (i := i) (n := 12) (by omega) (by omega))⟩, (vp_of (i := ((Int32.ofInt (6)) + i)) (n := 12) (by omega) (by omega))⟩
    rw [vref hg2.1 (rfl : vRf 104 56 = [134])] at t3'
    have t4' : XT l 1 20 false 247 153 6051 23 [xf 13 104, xi i] [] (xsetI h2 133 (((Int32.ofInt (6)) + i)).toNatClampNeg (xI h 133 (i).toNatClampNeg)) 38 [xf 13 104, xi i] [] (xsetI (xsetI h2 133 (((Int32.ofInt (6)) + i)).toNatClampNeg (xI h 133 (i).toNatClampNeg)) 134 (((Int32.ofInt (6)) + i)).toNatClampNeg (xI h2 134 (i).toNatClampNeg)) := t3'
    have t5' := t2'.tr t4'
    rw [u134] at t5'
    have t6 : XT l 1 20 false 247 153 6051 38 [xf 13 104, xi i] [] (xsetI (xsetI h 133 (((Int32.ofInt (6)) + i)).toNatClampNeg (xI h 133 (i).toNatClampNeg)) 134 (((Int32.ofInt (6)) + i)).toNatClampNeg (xI h 134 (i).toNatClampNeg)) 2 [xf 13 104, xi (i + Int32.ofInt (1))] [] (xsetI (xsetI h 133 (((Int32.ofInt (6)) + i)).toNatClampNeg (xI h 133 (i).toNatClampNeg)) 134 (((Int32.ofInt (6)) + i)).toNatClampNeg (xI h 134 (i).toNatClampNeg)) := XT_path (l := l) (fr := 1) (lo := 20) (full := false) (M := 247) (n := 153) (u := 6051) (pc := 38) (L := [xf 13 104, xi i]) (st := []) (h := (xsetI (xsetI h 133 (((Int32.ofInt (6)) + i)).toNatClampNeg (xI h 133 (i).toNatClampNeg)) 134 (((Int32.ofInt (6)) + i)).toNatClampNeg (xI h 134 (i).toNatClampNeg))) (inl := []) (n' := 80) (sp := [2]) (o := []) rfl rfl ⟨rfl, rfl, rfl⟩ rfl ⟨Nat.le_of_eq hg.2.2.2.1, Nat.le_of_eq hg.2.2.2.2⟩ trivial
    have t7 := t5.tr t6
    have t6' : XT l 1 20 false 247 153 6051 38 [xf 13 104, xi i] [] (xsetI (xsetI h2 133 (((Int32.ofInt (6)) + i)).toNatClampNeg (xI h 133 (i).toNatClampNeg)) 134 (((Int32.ofInt (6)) + i)).toNatClampNeg (xI h 134 (i).toNatClampNeg)) 2 [xf 13 104, xi (i + Int32.ofInt (1))] [] (xsetI (xsetI h2 133 (((Int32.ofInt (6)) + i)).toNatClampNeg (xI h 133 (i).toNatClampNeg)) 134 (((Int32.ofInt (6)) + i)).toNatClampNeg (xI h 134 (i).toNatClampNeg)) := XT_path (l := l) (fr := 1) (lo := 20) (full := false) (M := 247) (n := 153) (u := 6051) (pc := 38) (L := [xf 13 104, xi i]) (st := []) (h := (xsetI (xsetI h2 133 (((Int32.ofInt (6)) + i)).toNatClampNeg (xI h 133 (i).toNatClampNeg)) 134 (((Int32.ofInt (6)) + i)).toNatClampNeg (xI h 134 (i).toNatClampNeg))) (inl := []) (n' := 80) (sp := [2]) (o := []) rfl rfl ⟨rfl, rfl, rfl⟩ rfl ⟨Nat.le_of_eq hg2.2.2.2.1, Nat.le_of_eq hg2.2.2.2.2⟩ trivial
    have t7' := t5'.tr t6'
    obtain ⟨w1, w2, w3, -⟩ := v133b ((Int32.ofInt (6)) + i).toNatClampNeg (by omega) (by omega)
    obtain ⟨w5, w6, w7⟩ := vWY1 ((Int32.ofInt (6)) + i).toNatClampNeg (by omega) (by omega)
    have bs := vbnd hg.1 133 i.toNatClampNeg
    rw [v133 _ (by omega)] at bs
    have bs : 0 ≤ (xI h 133 i.toNatClampNeg).toInt ∧ (xI h 133 i.toNatClampNeg).toInt ≤ 9 := bs
    have HS := (H.set (c := 133) (k := ((Int32.ofInt (6)) + i).toNatClampNeg) (v := xI h 133 i.toNatClampNeg) (by rw [w1]; show (-1 : Int) ≤ _ ∧ _ ≤ (10 : Int); omega) w2 w3 w5).set (c := 134) (k := ((Int32.ofInt (6)) + i).toNatClampNeg) (v := xI h 134 i.toNatClampNeg) (by rw [vI_u rfl (rfl : vRow 134 = sfull)]; exact vb_all (by decide)) w7 (v134b _ (by omega) (by omega)) w6
    have hv' : (∀ j : Nat, (j : Int) < (i + Int32.ofInt (1)).toInt → xI (xsetI (xsetI h 133 (((Int32.ofInt (6)) + i)).toNatClampNeg (xI h 133 (i).toNatClampNeg)) 134 (((Int32.ofInt (6)) + i)).toNatClampNeg (xI h 134 (i).toNatClampNeg)) 133 (6 + j) = xI (xsetI (xsetI h2 133 (((Int32.ofInt (6)) + i)).toNatClampNeg (xI h 133 (i).toNatClampNeg)) 134 (((Int32.ofInt (6)) + i)).toNatClampNeg (xI h 134 (i).toNatClampNeg)) 133 (6 + j) ∧ xI (xsetI (xsetI h 133 (((Int32.ofInt (6)) + i)).toNatClampNeg (xI h 133 (i).toNatClampNeg)) 134 (((Int32.ofInt (6)) + i)).toNatClampNeg (xI h 134 (i).toNatClampNeg)) 134 (6 + j) = xI (xsetI (xsetI h2 133 (((Int32.ofInt (6)) + i)).toNatClampNeg (xI h 133 (i).toNatClampNeg)) 134 (((Int32.ofInt (6)) + i)).toNatClampNeg (xI h 134 (i).toNatClampNeg)) 134 (6 + j)) := fun j hj => by
      by_cases e : 6 + j = ((Int32.ofInt (6)) + i).toNatClampNeg
      · rw [e]
        exact ⟨by rw [yI_c (by decide), yI_same, yI_c (by decide), yI_same], by rw [yI_same, yI_same]⟩
      · have z := hv j (by omega)
        exact ⟨by rw [yI_c (by decide), yI_ne (eq_false (fun z => e z.2)), yI_c (by decide), yI_ne (eq_false (fun z => e z.2))]; exact z.1, by rw [yI_ne (eq_false (fun z => e z.2)), yI_c (by decide), yI_ne (eq_false (fun z => e z.2)), yI_c (by decide)]; exact z.2⟩
    obtain ⟨i', g, g2, y1, y2, y3, y4, y5⟩ := vp_lay1 l hs hO hO2 m (i + Int32.ofInt (1)) (xsetI (xsetI h 133 (((Int32.ofInt (6)) + i)).toNatClampNeg (xI h 133 (i).toNatClampNeg)) 134 (((Int32.ofInt (6)) + i)).toNatClampNeg (xI h 134 (i).toNatClampNeg)) (xsetI (xsetI h2 133 (((Int32.ofInt (6)) + i)).toNatClampNeg (xI h 133 (i).toNatClampNeg)) 134 (((Int32.ofInt (6)) + i)).toNatClampNeg (xI h 134 (i).toNatClampNeg)) HS (by omega) (by omega) hv'
    refine ⟨i', g, g2, t7.tr y1, t7'.tr y2, y3, y4, fun c k d133 d134 => ?_⟩
    obtain ⟨z1, z2⟩ := y5 c k d133 d134
    rw [z1, z2]
    exact ⟨by rw [yI_c (eq_false d134), yI_c (eq_false d133)], by rw [yI_c (eq_false d134), yI_c (eq_false d133)]⟩
set_option maxRecDepth 100000 in
set_option maxHeartbeats 2000000 in
theorem vp_lay2 (l : Launch) (hs hO hO2 : XH) : ∀ (m : Nat) (i : Int32) (h h2 : XH), vLy hs hO hO2 h h2 → 0 ≤ i.toInt → i.toInt + m = 8 → (∀ j : Nat, (j : Int) < i.toInt → xI h 135 (8 + j) = xI h2 135 (8 + j) ∧ xI h 136 (8 + j) = xI h2 136 (8 + j) ∧ xI h 137 (8 + j) = xI h2 137 (8 + j)) → ∃ i' g g2, XT l 1 20 false 247 153 6051 46 [xf 13 104, xi i] [] h 103 [xf 13 104, xi i'] [] g ∧ XT l 1 20 false 247 153 6051 46 [xf 13 104, xi i] [] h2 103 [xf 13 104, xi i'] [] g2 ∧ vLy hs hO hO2 g g2 ∧ (∀ j : Nat, (j : Int) < 8 → xI g 135 (8 + j) = xI g2 135 (8 + j) ∧ xI g 136 (8 + j) = xI g2 136 (8 + j) ∧ xI g 137 (8 + j) = xI g2 137 (8 + j)) ∧ (∀ c k, c ≠ 135 → c ≠ 136 → c ≠ 137 → xI g c k = xI h c k ∧ xI g2 c k = xI h2 c k)
  | 0, i, h, h2, H, a1, a2, hv => by
    have hg := H.1
    have hg2 := H.2.1
    have ha := H.2.2.2.2
    have en : (Int32.ofInt (8)).toInt = 8 := rfl
    have t1 : XT l 1 20 false 247 153 6051 46 [xf 13 104, xi i] [] h 103 [xf 13 104, xi i] [] h := XT_path (l := l) (fr := 1) (lo := 20) (full := false) (M := 247) (n := 153) (u := 6051) (pc := 46) (L := [xf 13 104, xi i]) (st := []) (h := h) (inl := []) (n' := 80) (sp := [103]) (o := [1]) rfl rfl ⟨rfl, rfl, rfl⟩ rfl ⟨Nat.le_of_eq hg.2.2.2.1, Nat.le_of_eq hg.2.2.2.2⟩ ⟨trivial, (Int32.le_iff_toInt_le.mpr (by omega))⟩
    have t1' : XT l 1 20 false 247 153 6051 46 [xf 13 104, xi i] [] h2 103 [xf 13 104, xi i] [] h2 := XT_path (l := l) (fr := 1) (lo := 20) (full := false) (M := 247) (n := 153) (u := 6051) (pc := 46) (L := [xf 13 104, xi i]) (st := []) (h := h2) (inl := []) (n' := 80) (sp := [103]) (o := [1]) rfl rfl ⟨rfl, rfl, rfl⟩ rfl ⟨Nat.le_of_eq hg2.2.2.2.1, Nat.le_of_eq hg2.2.2.2.2⟩ ⟨trivial, (Int32.le_iff_toInt_le.mpr (by omega))⟩
    exact ⟨i, h, h2, t1, t1', H, fun j hj => hv j (by omega), fun _ _ _ _ _ => ⟨rfl, rfl⟩⟩
  | m + 1, i, h, h2, H, a1, a2, hv => by
    have hg := H.1
    have hg2 := H.2.1
    have ha := H.2.2.2.2
    have en : (Int32.ofInt (8)).toInt = 8 := rfl
    have ex : ((Int32.ofInt (8)) + i).toInt = 8 + i.toInt := by
      rw [Int32.toInt_add, en]
      exact Int.bmod_eq_of_le (by omega) (by omega)
    have nx : ((Int32.ofInt (8)) + i).toNatClampNeg = 8 + i.toNatClampNeg := by
      show ((Int32.ofInt (8)) + i).toInt.toNat = 8 + i.toInt.toNat
      omega
    have ni : i.toNatClampNeg = i.toInt.toNat := rfl
    have ei := y_suc1 a1 (by omega)
    have u135 : xI h2 135 i.toNatClampNeg = xI h 135 i.toNatClampNeg := (ha.1 _ _ (vDo2 i.toNatClampNeg (by omega)).1 (by show i.toInt.toNat < 16; omega)).symm
    have u136 : xI h2 136 i.toNatClampNeg = xI h 136 i.toNatClampNeg := (ha.1 _ _ (vDo2 i.toNatClampNeg (by omega)).2.1 (by show i.toInt.toNat < 16; omega)).symm
    have u137 : xI h2 137 i.toNatClampNeg = xI h 137 i.toNatClampNeg := (ha.1 _ _ (vDo2 i.toNatClampNeg (by omega)).2.2 (by show i.toInt.toNat < 16; omega)).symm
    have t2 : XT l 1 20 false 247 153 6051 46 [xf 13 104, xi i] [] h 67 [xf 13 104, xi i] [] (xsetI h (xR h 104 57) (((Int32.ofInt (8)) + i)).toNatClampNeg (xI h (xR h 104 57) (i).toNatClampNeg)) := XT_path (l := l) (fr := 1) (lo := 20) (full := false) (M := 247) (n := 153) (u := 6051) (pc := 46) (L := [xf 13 104, xi i]) (st := []) (h := h) (inl := []) (n' := 80) (sp := [67]) (o := [0]) rfl rfl ⟨rfl, rfl, rfl⟩ rfl ⟨Nat.le_of_eq hg.2.2.2.1, Nat.le_of_eq hg.2.2.2.2⟩ ⟨⟨⟨⟨⟨trivial, (fun z => absurd (Int32.le_iff_toInt_le.mp z) (by omega))⟩, (vnn hg.1 (rfl : vRf 104 57 = [135]) (by decide))⟩, (vnn hg.1 (rfl : vRf 104 57 = [135]) (by decide))⟩, (vp_of (i := i) (n := 16) (by omega) (by omega))⟩, (vp_of (i := ((Int32.ofInt (8)) + i)) (n := 16) (by omega) (by omega))⟩
    rw [vref hg.1 (rfl : vRf 104 57 = [135])] at t2
    have t2' : XT l 1 20 false 247 153 6051 46 [xf 13 104, xi i] [] h2 67 [xf 13 104, xi i] [] (xsetI h2 (xR h2 104 57) (((Int32.ofInt (8)) + i)).toNatClampNeg (xI h2 (xR h2 104 57) (i).toNatClampNeg)) := XT_path (l := l) (fr := 1) (lo := 20) (full := false) (M := 247) (n := 153) (u := 6051) (pc := 46) (L := [xf 13 104, xi i]) (st := []) (h := h2) (inl := []) (n' := 80) (sp := [67]) (o := [0]) rfl rfl ⟨rfl, rfl, rfl⟩ rfl ⟨Nat.le_of_eq hg2.2.2.2.1, Nat.le_of_eq hg2.2.2.2.2⟩ ⟨⟨⟨⟨⟨trivial, (fun z => absurd (Int32.le_iff_toInt_le.mp z) (by omega))⟩, (vnn hg2.1 (rfl : vRf 104 57 = [135]) (by decide))⟩, (vnn hg2.1 (rfl : vRf 104 57 = [135]) (by decide))⟩, (vp_of (i := i) (n := 16) (by omega) (by omega))⟩, (vp_of (i := ((Int32.ofInt (8)) + i)) (n := 16) (by omega) (by omega))⟩
    rw [vref hg2.1 (rfl : vRf 104 57 = [135])] at t2'
    rw [u135] at t2'
    have t3 : XT l 1 20 false 247 153 6051 67 [xf 13 104, xi i] [] (xsetI h 135 (((Int32.ofInt (8)) + i)).toNatClampNeg (xI h 135 (i).toNatClampNeg)) 82 [xf 13 104, xi i] [] (xsetI (xsetI h 135 (((Int32.ofInt (8)) + i)).toNatClampNeg (xI h 135 (i).toNatClampNeg)) (xR h 104 58) (((Int32.ofInt (8)) + i)).toNatClampNeg (xI (xsetI h 135 (((Int32.ofInt (8)) + i)).toNatClampNeg (xI h 135 (i).toNatClampNeg)) (xR h 104 58) (i).toNatClampNeg)) := XT_path (l := l) (fr := 1) (lo := 20) (full := false) (M := 247) (n := 153) (u := 6051) (pc := 67) (L := [xf 13 104, xi i]) (st := []) (h := (xsetI h 135 (((Int32.ofInt (8)) + i)).toNatClampNeg (xI h 135 (i).toNatClampNeg))) (inl := []) (n' := 80) (sp := [82]) (o := []) rfl rfl ⟨rfl, rfl, rfl⟩ rfl ⟨Nat.le_of_eq hg.2.2.2.1, Nat.le_of_eq hg.2.2.2.2⟩ ⟨⟨⟨⟨trivial, (vnn hg.1 (rfl : vRf 104 58 = [136]) (by decide))⟩, (vnn hg.1 (rfl : vRf 104 58 = [136]) (by decide))⟩, (vp_of (i := i) (n := 16) (by omega) (by omega))⟩, (vp_of (i := ((Int32.ofInt (8)) + i)) (n := 16) (by omega) (by omega))⟩
    rw [vref hg.1 (rfl : vRf 104 58 = [136])] at t3
    have t4 : XT l 1 20 false 247 153 6051 67 [xf 13 104, xi i] [] (xsetI h 135 (((Int32.ofInt (8)) + i)).toNatClampNeg (xI h 135 (i).toNatClampNeg)) 82 [xf 13 104, xi i] [] (xsetI (xsetI h 135 (((Int32.ofInt (8)) + i)).toNatClampNeg (xI h 135 (i).toNatClampNeg)) 136 (((Int32.ofInt (8)) + i)).toNatClampNeg (xI h 136 (i).toNatClampNeg)) := t3
    have t5 := t2.tr t4
    have t3' : XT l 1 20 false 247 153 6051 67 [xf 13 104, xi i] [] (xsetI h2 135 (((Int32.ofInt (8)) + i)).toNatClampNeg (xI h 135 (i).toNatClampNeg)) 82 [xf 13 104, xi i] [] (xsetI (xsetI h2 135 (((Int32.ofInt (8)) + i)).toNatClampNeg (xI h 135 (i).toNatClampNeg)) (xR h2 104 58) (((Int32.ofInt (8)) + i)).toNatClampNeg (xI (xsetI h2 135 (((Int32.ofInt (8)) + i)).toNatClampNeg (xI h 135 (i).toNatClampNeg)) (xR h2 104 58) (i).toNatClampNeg)) := XT_path (l := l) (fr := 1) (lo := 20) (full := false) (M := 247) (n := 153) (u := 6051) (pc := 67) (L := [xf 13 104, xi i]) (st := []) (h := (xsetI h2 135 (((Int32.ofInt (8)) + i)).toNatClampNeg (xI h 135 (i).toNatClampNeg))) (inl := []) (n' := 80) (sp := [82]) (o := []) rfl rfl ⟨rfl, rfl, rfl⟩ rfl ⟨Nat.le_of_eq hg2.2.2.2.1, Nat.le_of_eq hg2.2.2.2.2⟩ ⟨⟨⟨⟨trivial, (vnn hg2.1 (rfl : vRf 104 58 = [136]) (by decide))⟩, (vnn hg2.1 (rfl : vRf 104 58 = [136]) (by decide))⟩, (vp_of (i := i) (n := 16) (by omega) (by omega))⟩, (vp_of (i := ((Int32.ofInt (8)) + i)) (n := 16) (by omega) (by omega))⟩
    rw [vref hg2.1 (rfl : vRf 104 58 = [136])] at t3'
    have t4' : XT l 1 20 false 247 153 6051 67 [xf 13 104, xi i] [] (xsetI h2 135 (((Int32.ofInt (8)) + i)).toNatClampNeg (xI h 135 (i).toNatClampNeg)) 82 [xf 13 104, xi i] [] (xsetI (xsetI h2 135 (((Int32.ofInt (8)) + i)).toNatClampNeg (xI h 135 (i).toNatClampNeg)) 136 (((Int32.ofInt (8)) + i)).toNatClampNeg (xI h2 136 (i).toNatClampNeg)) := t3'
    have t5' := t2'.tr t4'
    rw [u136] at t5'
    have t6 : XT l 1 20 false 247 153 6051 82 [xf 13 104, xi i] [] (xsetI (xsetI h 135 (((Int32.ofInt (8)) + i)).toNatClampNeg (xI h 135 (i).toNatClampNeg)) 136 (((Int32.ofInt (8)) + i)).toNatClampNeg (xI h 136 (i).toNatClampNeg)) 97 [xf 13 104, xi i] [] (xsetI (xsetI (xsetI h 135 (((Int32.ofInt (8)) + i)).toNatClampNeg (xI h 135 (i).toNatClampNeg)) 136 (((Int32.ofInt (8)) + i)).toNatClampNeg (xI h 136 (i).toNatClampNeg)) (xR h 104 59) (((Int32.ofInt (8)) + i)).toNatClampNeg (xI (xsetI (xsetI h 135 (((Int32.ofInt (8)) + i)).toNatClampNeg (xI h 135 (i).toNatClampNeg)) 136 (((Int32.ofInt (8)) + i)).toNatClampNeg (xI h 136 (i).toNatClampNeg)) (xR h 104 59) (i).toNatClampNeg)) := XT_path (l := l) (fr := 1) (lo := 20) (full := false) (M := 247) (n := 153) (u := 6051) (pc := 82) (L := [xf 13 104, xi i]) (st := []) (h := (xsetI (xsetI h 135 (((Int32.ofInt (8)) + i)).toNatClampNeg (xI h 135 (i).toNatClampNeg)) 136 (((Int32.ofInt (8)) + i)).toNatClampNeg (xI h 136 (i).toNatClampNeg))) (inl := []) (n' := 80) (sp := [97]) (o := []) rfl rfl ⟨rfl, rfl, rfl⟩ rfl ⟨Nat.le_of_eq hg.2.2.2.1, Nat.le_of_eq hg.2.2.2.2⟩ ⟨⟨⟨⟨trivial, (vnn hg.1 (rfl : vRf 104 59 = [137]) (by decide))⟩, (vnn hg.1 (rfl : vRf 104 59 = [137]) (by decide))⟩, (vp_of (i := i) (n := 16) (by omega) (by omega))⟩, (vp_of (i := ((Int32.ofInt (8)) + i)) (n := 16) (by omega) (by omega))⟩
    rw [vref hg.1 (rfl : vRf 104 59 = [137])] at t6
    have t7 : XT l 1 20 false 247 153 6051 82 [xf 13 104, xi i] [] (xsetI (xsetI h 135 (((Int32.ofInt (8)) + i)).toNatClampNeg (xI h 135 (i).toNatClampNeg)) 136 (((Int32.ofInt (8)) + i)).toNatClampNeg (xI h 136 (i).toNatClampNeg)) 97 [xf 13 104, xi i] [] (xsetI (xsetI (xsetI h 135 (((Int32.ofInt (8)) + i)).toNatClampNeg (xI h 135 (i).toNatClampNeg)) 136 (((Int32.ofInt (8)) + i)).toNatClampNeg (xI h 136 (i).toNatClampNeg)) 137 (((Int32.ofInt (8)) + i)).toNatClampNeg (xI h 137 (i).toNatClampNeg)) := t6
    have t8 := t5.tr t7
    have t6' : XT l 1 20 false 247 153 6051 82 [xf 13 104, xi i] [] (xsetI (xsetI h2 135 (((Int32.ofInt (8)) + i)).toNatClampNeg (xI h 135 (i).toNatClampNeg)) 136 (((Int32.ofInt (8)) + i)).toNatClampNeg (xI h 136 (i).toNatClampNeg)) 97 [xf 13 104, xi i] [] (xsetI (xsetI (xsetI h2 135 (((Int32.ofInt (8)) + i)).toNatClampNeg (xI h 135 (i).toNatClampNeg)) 136 (((Int32.ofInt (8)) + i)).toNatClampNeg (xI h 136 (i).toNatClampNeg)) (xR h2 104 59) (((Int32.ofInt (8)) + i)).toNatClampNeg (xI (xsetI (xsetI h2 135 (((Int32.ofInt (8)) + i)).toNatClampNeg (xI h 135 (i).toNatClampNeg)) 136 (((Int32.ofInt (8)) + i)).toNatClampNeg (xI h 136 (i).toNatClampNeg)) (xR h2 104 59) (i).toNatClampNeg)) := XT_path (l := l) (fr := 1) (lo := 20) (full := false) (M := 247) (n := 153) (u := 6051) (pc := 82) (L := [xf 13 104, xi i]) (st := []) (h := (xsetI (xsetI h2 135 (((Int32.ofInt (8)) + i)).toNatClampNeg (xI h 135 (i).toNatClampNeg)) 136 (((Int32.ofInt (8)) + i)).toNatClampNeg (xI h 136 (i).toNatClampNeg))) (inl := []) (n' := 80) (sp := [97]) (o := []) rfl rfl ⟨rfl, rfl, rfl⟩ rfl ⟨Nat.le_of_eq hg2.2.2.2.1, Nat.le_of_eq hg2.2.2.2.2⟩ ⟨⟨⟨⟨trivial, (vnn hg2.1 (rfl : vRf 104 59 = [137]) (by decide))⟩, (vnn hg2.1 (rfl : vRf 104 59 = [137]) (by decide))⟩, (vp_of (i := i) (n := 16) (by omega) (by omega))⟩, (vp_of (i := ((Int32.ofInt (8)) + i)) (n := 16) (by omega) (by omega))⟩
    rw [vref hg2.1 (rfl : vRf 104 59 = [137])] at t6'
    have t7' : XT l 1 20 false 247 153 6051 82 [xf 13 104, xi i] [] (xsetI (xsetI h2 135 (((Int32.ofInt (8)) + i)).toNatClampNeg (xI h 135 (i).toNatClampNeg)) 136 (((Int32.ofInt (8)) + i)).toNatClampNeg (xI h 136 (i).toNatClampNeg)) 97 [xf 13 104, xi i] [] (xsetI (xsetI (xsetI h2 135 (((Int32.ofInt (8)) + i)).toNatClampNeg (xI h 135 (i).toNatClampNeg)) 136 (((Int32.ofInt (8)) + i)).toNatClampNeg (xI h 136 (i).toNatClampNeg)) 137 (((Int32.ofInt (8)) + i)).toNatClampNeg (xI h2 137 (i).toNatClampNeg)) := t6'
    have t8' := t5'.tr t7'
    rw [u137] at t8'
    have t9 : XT l 1 20 false 247 153 6051 97 [xf 13 104, xi i] [] (xsetI (xsetI (xsetI h 135 (((Int32.ofInt (8)) + i)).toNatClampNeg (xI h 135 (i).toNatClampNeg)) 136 (((Int32.ofInt (8)) + i)).toNatClampNeg (xI h 136 (i).toNatClampNeg)) 137 (((Int32.ofInt (8)) + i)).toNatClampNeg (xI h 137 (i).toNatClampNeg)) 46 [xf 13 104, xi (i + Int32.ofInt (1))] [] (xsetI (xsetI (xsetI h 135 (((Int32.ofInt (8)) + i)).toNatClampNeg (xI h 135 (i).toNatClampNeg)) 136 (((Int32.ofInt (8)) + i)).toNatClampNeg (xI h 136 (i).toNatClampNeg)) 137 (((Int32.ofInt (8)) + i)).toNatClampNeg (xI h 137 (i).toNatClampNeg)) := XT_path (l := l) (fr := 1) (lo := 20) (full := false) (M := 247) (n := 153) (u := 6051) (pc := 97) (L := [xf 13 104, xi i]) (st := []) (h := (xsetI (xsetI (xsetI h 135 (((Int32.ofInt (8)) + i)).toNatClampNeg (xI h 135 (i).toNatClampNeg)) 136 (((Int32.ofInt (8)) + i)).toNatClampNeg (xI h 136 (i).toNatClampNeg)) 137 (((Int32.ofInt (8)) + i)).toNatClampNeg (xI h 137 (i).toNatClampNeg))) (inl := []) (n' := 80) (sp := [46]) (o := []) rfl rfl ⟨rfl, rfl, rfl⟩ rfl ⟨Nat.le_of_eq hg.2.2.2.1, Nat.le_of_eq hg.2.2.2.2⟩ trivial
    have t10 := t8.tr t9
    have t9' : XT l 1 20 false 247 153 6051 97 [xf 13 104, xi i] [] (xsetI (xsetI (xsetI h2 135 (((Int32.ofInt (8)) + i)).toNatClampNeg (xI h 135 (i).toNatClampNeg)) 136 (((Int32.ofInt (8)) + i)).toNatClampNeg (xI h 136 (i).toNatClampNeg)) 137 (((Int32.ofInt (8)) + i)).toNatClampNeg (xI h 137 (i).toNatClampNeg)) 46 [xf 13 104, xi (i + Int32.ofInt (1))] [] (xsetI (xsetI (xsetI h2 135 (((Int32.ofInt (8)) + i)).toNatClampNeg (xI h 135 (i).toNatClampNeg)) 136 (((Int32.ofInt (8)) + i)).toNatClampNeg (xI h 136 (i).toNatClampNeg)) 137 (((Int32.ofInt (8)) + i)).toNatClampNeg (xI h 137 (i).toNatClampNeg)) := XT_path (l := l) (fr := 1) (lo := 20) (full := false) (M := 247) (n := 153) (u := 6051) (pc := 97) (L := [xf 13 104, xi i]) (st := []) (h := (xsetI (xsetI (xsetI h2 135 (((Int32.ofInt (8)) + i)).toNatClampNeg (xI h 135 (i).toNatClampNeg)) 136 (((Int32.ofInt (8)) + i)).toNatClampNeg (xI h 136 (i).toNatClampNeg)) 137 (((Int32.ofInt (8)) + i)).toNatClampNeg (xI h 137 (i).toNatClampNeg))) (inl := []) (n' := 80) (sp := [46]) (o := []) rfl rfl ⟨rfl, rfl, rfl⟩ rfl ⟨Nat.le_of_eq hg2.2.2.2.1, Nat.le_of_eq hg2.2.2.2.2⟩ trivial
    have t10' := t8'.tr t9'
    obtain ⟨⟨w1, w2, w3⟩, w4, w5⟩ := vWY2 ((Int32.ofInt (8)) + i).toNatClampNeg (by omega) (by omega)
    obtain ⟨w6, w7⟩ := v137b ((Int32.ofInt (8)) + i).toNatClampNeg (by omega) (by omega)
    have b135 := vbnd hg.1 135 i.toNatClampNeg
    rw [vI_u rfl (rfl : vRow 135 = (0, 5))] at b135
    have b136 := vbnd hg.1 136 i.toNatClampNeg
    rw [vI_u rfl (rfl : vRow 136 = (-2, 1))] at b136
    have HS := ((H.set (c := 135) (k := ((Int32.ofInt (8)) + i).toNatClampNeg) (v := xI h 135 i.toNatClampNeg) (by rw [vI_u rfl (rfl : vRow 135 = (0, 5))]; exact b135) w4 w5 w1).set (c := 136) (k := ((Int32.ofInt (8)) + i).toNatClampNeg) (v := xI h 136 i.toNatClampNeg) (by rw [vI_u rfl (rfl : vRow 136 = (-2, 1))]; exact b136) (stou_no (by decide +kernel)) w7 w2).set (c := 137) (k := ((Int32.ofInt (8)) + i).toNatClampNeg) (v := xI h 137 i.toNatClampNeg) (by rw [vI_u rfl (rfl : vRow 137 = sfull)]; exact vb_all (by decide)) (stou_no (by decide +kernel)) w6 w3
    have hv' : (∀ j : Nat, (j : Int) < (i + Int32.ofInt (1)).toInt → xI (xsetI (xsetI (xsetI h 135 (((Int32.ofInt (8)) + i)).toNatClampNeg (xI h 135 (i).toNatClampNeg)) 136 (((Int32.ofInt (8)) + i)).toNatClampNeg (xI h 136 (i).toNatClampNeg)) 137 (((Int32.ofInt (8)) + i)).toNatClampNeg (xI h 137 (i).toNatClampNeg)) 135 (8 + j) = xI (xsetI (xsetI (xsetI h2 135 (((Int32.ofInt (8)) + i)).toNatClampNeg (xI h 135 (i).toNatClampNeg)) 136 (((Int32.ofInt (8)) + i)).toNatClampNeg (xI h 136 (i).toNatClampNeg)) 137 (((Int32.ofInt (8)) + i)).toNatClampNeg (xI h 137 (i).toNatClampNeg)) 135 (8 + j) ∧ xI (xsetI (xsetI (xsetI h 135 (((Int32.ofInt (8)) + i)).toNatClampNeg (xI h 135 (i).toNatClampNeg)) 136 (((Int32.ofInt (8)) + i)).toNatClampNeg (xI h 136 (i).toNatClampNeg)) 137 (((Int32.ofInt (8)) + i)).toNatClampNeg (xI h 137 (i).toNatClampNeg)) 136 (8 + j) = xI (xsetI (xsetI (xsetI h2 135 (((Int32.ofInt (8)) + i)).toNatClampNeg (xI h 135 (i).toNatClampNeg)) 136 (((Int32.ofInt (8)) + i)).toNatClampNeg (xI h 136 (i).toNatClampNeg)) 137 (((Int32.ofInt (8)) + i)).toNatClampNeg (xI h 137 (i).toNatClampNeg)) 136 (8 + j) ∧ xI (xsetI (xsetI (xsetI h 135 (((Int32.ofInt (8)) + i)).toNatClampNeg (xI h 135 (i).toNatClampNeg)) 136 (((Int32.ofInt (8)) + i)).toNatClampNeg (xI h 136 (i).toNatClampNeg)) 137 (((Int32.ofInt (8)) + i)).toNatClampNeg (xI h 137 (i).toNatClampNeg)) 137 (8 + j) = xI (xsetI (xsetI (xsetI h2 135 (((Int32.ofInt (8)) + i)).toNatClampNeg (xI h 135 (i).toNatClampNeg)) 136 (((Int32.ofInt (8)) + i)).toNatClampNeg (xI h 136 (i).toNatClampNeg)) 137 (((Int32.ofInt (8)) + i)).toNatClampNeg (xI h 137 (i).toNatClampNeg)) 137 (8 + j)) := fun j hj => by
      by_cases e : 8 + j = ((Int32.ofInt (8)) + i).toNatClampNeg
      · rw [e]
        exact ⟨by rw [yI_c (by decide), yI_c (by decide), yI_same, yI_c (by decide), yI_c (by decide), yI_same], by rw [yI_c (by decide), yI_same, yI_c (by decide), yI_same], by rw [yI_same, yI_same]⟩
      · have z := hv j (by omega)
        exact ⟨by rw [yI_c (by decide), yI_c (by decide), yI_ne (eq_false (fun z => e z.2)), yI_c (by decide), yI_c (by decide), yI_ne (eq_false (fun z => e z.2))]; exact z.1, by rw [yI_c (by decide), yI_ne (eq_false (fun z => e z.2)), yI_c (by decide), yI_c (by decide), yI_ne (eq_false (fun z => e z.2)), yI_c (by decide)]; exact z.2.1, by rw [yI_ne (eq_false (fun z => e z.2)), yI_c (by decide), yI_c (by decide), yI_ne (eq_false (fun z => e z.2)), yI_c (by decide), yI_c (by decide)]; exact z.2.2⟩
    obtain ⟨i', g, g2, y1, y2, y3, y4, y5⟩ := vp_lay2 l hs hO hO2 m (i + Int32.ofInt (1)) (xsetI (xsetI (xsetI h 135 (((Int32.ofInt (8)) + i)).toNatClampNeg (xI h 135 (i).toNatClampNeg)) 136 (((Int32.ofInt (8)) + i)).toNatClampNeg (xI h 136 (i).toNatClampNeg)) 137 (((Int32.ofInt (8)) + i)).toNatClampNeg (xI h 137 (i).toNatClampNeg)) (xsetI (xsetI (xsetI h2 135 (((Int32.ofInt (8)) + i)).toNatClampNeg (xI h 135 (i).toNatClampNeg)) 136 (((Int32.ofInt (8)) + i)).toNatClampNeg (xI h 136 (i).toNatClampNeg)) 137 (((Int32.ofInt (8)) + i)).toNatClampNeg (xI h 137 (i).toNatClampNeg)) HS (by omega) (by omega) hv'
    refine ⟨i', g, g2, t10.tr y1, t10'.tr y2, y3, y4, fun c k d135 d136 d137 => ?_⟩
    obtain ⟨z1, z2⟩ := y5 c k d135 d136 d137
    rw [z1, z2]
    exact ⟨by rw [yI_c (eq_false d137), yI_c (eq_false d136), yI_c (eq_false d135)], by rw [yI_c (eq_false d137), yI_c (eq_false d136), yI_c (eq_false d135)]⟩
def vDi : SWl := [(139, 0, true), (140, 0, true), (104, 54, false)]
def vDk (c k : Nat) : Bool := (decide (c = 133) && (decide (6 ≤ k) && decide (k < 12))) || ((decide (c = 134) && (decide (6 ≤ k) && decide (k < 12))) || ((decide (c = 135 ∨ c = 136 ∨ c = 137) && (decide (8 ≤ k) && decide (k < 16))) || ((decide (c = 138) && decide (k = 1)) || (decide (c = 104) && decide (k = 63 ∨ k = 64)))))
theorem vDo_k : vDo.all (fun q => (q.2.2 && decide (q.1 = 139 ∨ q.1 = 140)) || (!q.2.2 && (decide (q.1 = 104 ∧ q.2.1 = 54) || vDk q.1 q.2.1))) = true := by decide +kernel
theorem vDo_c {c k : Nat} (h : swin vDo c k = true) (hi : swin vDi c k = false) : vDk c k = true := by
  unfold swin at h
  obtain ⟨q, hq, hz⟩ := List.any_eq_true.mp h
  have y := List.all_eq_true.mp vDo_k q hq
  obtain ⟨q1, q2, q3⟩ := q
  rw [Bool.and_eq_true] at hz
  obtain rfl := Nat.eq_of_beq_eq_true hz.1
  cases q3 with
  | true =>
    have y : decide (q1 = 139 ∨ q1 = 140) = true := by simpa using y
    rcases of_decide_eq_true y with rfl | rfl
    · cases hi
    · cases hi
  | false =>
    have e : q2 = k := Nat.eq_of_beq_eq_true (by simpa using hz.2)
    subst e
    have y : (decide (q1 = 104 ∧ q2 = 54) || vDk q1 q2) = true := by simpa using y
    rw [Bool.or_eq_true] at y
    rcases y with y | y
    · obtain ⟨rfl, rfl⟩ := of_decide_eq_true y
      cases hi
    · exact y
set_option maxRecDepth 100000 in
set_option maxHeartbeats 2000000 in
theorem vp_lay (l : Launch) (hs h h2 : XH) (hg : sgood vT vR (vEs hs) 153 6051 h) (hg2 : sgood vT vR (vEs hs) 153 6051 h2) (ha : sAg vDo (fun _ _ => True) h h2) : ∃ g g2, CX l 1 20 false 247 [xf 13 104] h [] g ∧ CX l 1 20 false 247 [xf 13 104] h2 [] g2 ∧ sgood vT vR (vEs hs) 153 6051 g ∧ sgood vT vR (vEs hs) 153 6051 g2 ∧ sframe vWY h g ∧ sframe vWY h2 g2 ∧ sAg vDi (fun _ _ => True) g g2 := by
  have H0 : vLy hs h h2 h h2 := ⟨hg, hg2, sframe.rf, sframe.rf, ha⟩
  have t1 : XT l 1 20 false 247 153 6051 0 [xf 13 104, xun] [] h 2 [xf 13 104, xi (Int32.ofInt (0))] [] h := XT_path (l := l) (fr := 1) (lo := 20) (full := false) (M := 247) (n := 153) (u := 6051) (pc := 0) (L := [xf 13 104, xun]) (st := []) (h := h) (inl := [177]) (n' := 80) (sp := [2]) (o := []) rfl rfl ⟨rfl, rfl, rfl⟩ rfl ⟨Nat.le_of_eq hg.2.2.2.1, Nat.le_of_eq hg.2.2.2.2⟩ trivial
  have t1' : XT l 1 20 false 247 153 6051 0 [xf 13 104, xun] [] h2 2 [xf 13 104, xi (Int32.ofInt (0))] [] h2 := XT_path (l := l) (fr := 1) (lo := 20) (full := false) (M := 247) (n := 153) (u := 6051) (pc := 0) (L := [xf 13 104, xun]) (st := []) (h := h2) (inl := [177]) (n' := 80) (sp := [2]) (o := []) rfl rfl ⟨rfl, rfl, rfl⟩ rfl ⟨Nat.le_of_eq hg2.2.2.2.1, Nat.le_of_eq hg2.2.2.2.2⟩ trivial
  obtain ⟨iA, gA, gA2, yA, yA2, HA, vA, oA⟩ := vp_lay1 l hs h h2 6 (Int32.ofInt (0)) h h2 H0 (by decide) (by decide) (fun j hj => absurd hj (by rw [show (Int32.ofInt (0)).toInt = 0 from rfl]; omega))
  have TA := t1.tr yA
  have TA' := t1'.tr yA2
  have t2 : XT l 1 20 false 247 153 6051 44 [xf 13 104, xi iA] [] gA 46 [xf 13 104, xi (Int32.ofInt (0))] [] gA := XT_path (l := l) (fr := 1) (lo := 20) (full := false) (M := 247) (n := 153) (u := 6051) (pc := 44) (L := [xf 13 104, xi iA]) (st := []) (h := gA) (inl := [177]) (n' := 80) (sp := [46]) (o := []) rfl rfl ⟨rfl, rfl, rfl⟩ rfl ⟨Nat.le_of_eq HA.1.2.2.2.1, Nat.le_of_eq HA.1.2.2.2.2⟩ trivial
  have t3 := TA.tr t2
  have t2' : XT l 1 20 false 247 153 6051 44 [xf 13 104, xi iA] [] gA2 46 [xf 13 104, xi (Int32.ofInt (0))] [] gA2 := XT_path (l := l) (fr := 1) (lo := 20) (full := false) (M := 247) (n := 153) (u := 6051) (pc := 44) (L := [xf 13 104, xi iA]) (st := []) (h := gA2) (inl := [177]) (n' := 80) (sp := [46]) (o := []) rfl rfl ⟨rfl, rfl, rfl⟩ rfl ⟨Nat.le_of_eq HA.2.1.2.2.2.1, Nat.le_of_eq HA.2.1.2.2.2.2⟩ trivial
  have t3' := TA'.tr t2'
  obtain ⟨iB, gB, gB2, yB, yB2, HB, vB, oB⟩ := vp_lay2 l hs h h2 8 (Int32.ofInt (0)) gA gA2 HA (by decide) (by decide) (fun j hj => absurd hj (by rw [show (Int32.ofInt (0)).toInt = 0 from rfl]; omega))
  have TB := t3.tr yB
  have TB' := t3'.tr yB2
  have t4 : XT l 1 20 false 247 153 6051 103 [xf 13 104, xi iB] [] gB 115 [xf 13 104, xi iB] [] (xsetI gB (xR gB 104 60) ((Int32.ofInt (1))).toNatClampNeg (xI gB (xR gB 104 60) ((Int32.ofInt (0))).toNatClampNeg)) := XT_path (l := l) (fr := 1) (lo := 20) (full := false) (M := 247) (n := 153) (u := 6051) (pc := 103) (L := [xf 13 104, xi iB]) (st := []) (h := gB) (inl := [177]) (n' := 80) (sp := [115]) (o := []) rfl rfl ⟨rfl, rfl, rfl⟩ rfl ⟨Nat.le_of_eq HB.1.2.2.2.1, Nat.le_of_eq HB.1.2.2.2.2⟩ ⟨⟨⟨⟨trivial, (vnn HB.1.1 (rfl : vRf 104 60 = [138]) (by decide))⟩, (vnn HB.1.1 (rfl : vRf 104 60 = [138]) (by decide))⟩, (vp_of (i := (Int32.ofInt (0))) (n := 2) (by decide) (by decide))⟩, (vp_of (i := (Int32.ofInt (1))) (n := 2) (by decide) (by decide))⟩
  rw [vref HB.1.1 (rfl : vRf 104 60 = [138])] at t4
  have t5 := TB.tr t4
  have t4' : XT l 1 20 false 247 153 6051 103 [xf 13 104, xi iB] [] gB2 115 [xf 13 104, xi iB] [] (xsetI gB2 (xR gB2 104 60) ((Int32.ofInt (1))).toNatClampNeg (xI gB2 (xR gB2 104 60) ((Int32.ofInt (0))).toNatClampNeg)) := XT_path (l := l) (fr := 1) (lo := 20) (full := false) (M := 247) (n := 153) (u := 6051) (pc := 103) (L := [xf 13 104, xi iB]) (st := []) (h := gB2) (inl := [177]) (n' := 80) (sp := [115]) (o := []) rfl rfl ⟨rfl, rfl, rfl⟩ rfl ⟨Nat.le_of_eq HB.2.1.2.2.2.1, Nat.le_of_eq HB.2.1.2.2.2.2⟩ ⟨⟨⟨⟨trivial, (vnn HB.2.1.1 (rfl : vRf 104 60 = [138]) (by decide))⟩, (vnn HB.2.1.1 (rfl : vRf 104 60 = [138]) (by decide))⟩, (vp_of (i := (Int32.ofInt (0))) (n := 2) (by decide) (by decide))⟩, (vp_of (i := (Int32.ofInt (1))) (n := 2) (by decide) (by decide))⟩
  rw [vref HB.2.1.1 (rfl : vRf 104 60 = [138])] at t4'
  have t5' := TB'.tr t4'
  have u8 : xI gB2 138 (Int32.ofInt (0)).toNatClampNeg = xI gB 138 (Int32.ofInt (0)).toNatClampNeg := (HB.2.2.2.2.1 138 0 (by decide +kernel) (by decide)).symm
  rw [u8] at t5'
  have HC := HB.set (c := 138) (k := (Int32.ofInt (1)).toNatClampNeg) (v := xI gB 138 (Int32.ofInt (0)).toNatClampNeg) (by rw [vI_u rfl (rfl : vRow 138 = sfull)]; exact vb_all (by decide)) (stou_no (by decide +kernel)) (by decide +kernel) (by decide +kernel)
  obtain ⟨gC, eC⟩ : ∃ x, x = xsetI gB 138 (Int32.ofInt (1)).toNatClampNeg (xI gB 138 (Int32.ofInt (0)).toNatClampNeg) := ⟨_, rfl⟩
  obtain ⟨gC2, eC2⟩ : ∃ x, x = xsetI gB2 138 (Int32.ofInt (1)).toNatClampNeg (xI gB 138 (Int32.ofInt (0)).toNatClampNeg) := ⟨_, rfl⟩
  rw [← eC, ← eC2] at HC
  have TC := t5
  have TC' := t5'
  rw [← eC] at TC
  rw [← eC2] at TC'
  have t6 : XT l 1 20 false 247 153 6051 115 [xf 13 104, xi iB] [] gC 119 [xf 13 104, xi iB] [] (xsetI (xsetI gC 104 63 (Int32.ofInt (-1))) 104 64 (Int32.ofInt (-1))) := XT_path (l := l) (fr := 1) (lo := 20) (full := false) (M := 247) (n := 153) (u := 6051) (pc := 115) (L := [xf 13 104, xi iB]) (st := []) (h := gC) (inl := [177]) (n' := 80) (sp := [119]) (o := []) rfl rfl ⟨rfl, rfl, rfl⟩ rfl ⟨Nat.le_of_eq HC.1.2.2.2.1, Nat.le_of_eq HC.1.2.2.2.2⟩ trivial
  have t7 := TC.tr t6
  have t6' : XT l 1 20 false 247 153 6051 115 [xf 13 104, xi iB] [] gC2 119 [xf 13 104, xi iB] [] (xsetI (xsetI gC2 104 63 (Int32.ofInt (-1))) 104 64 (Int32.ofInt (-1))) := XT_path (l := l) (fr := 1) (lo := 20) (full := false) (M := 247) (n := 153) (u := 6051) (pc := 115) (L := [xf 13 104, xi iB]) (st := []) (h := gC2) (inl := [177]) (n' := 80) (sp := [119]) (o := []) rfl rfl ⟨rfl, rfl, rfl⟩ rfl ⟨Nat.le_of_eq HC.2.1.2.2.2.1, Nat.le_of_eq HC.2.1.2.2.2.2⟩ trivial
  have t7' := TC'.tr t6'
  have HD := (HC.set (c := 104) (k := 63) (v := Int32.ofInt (-1)) (by decide) (by decide +kernel) (by decide +kernel) (by decide +kernel)).set (c := 104) (k := 64) (v := Int32.ofInt (-1)) (by decide) (by decide +kernel) (by decide +kernel) (by decide +kernel)
  refine ⟨_, _, CX_ofT (h' := (xsetI (xsetI gC 104 63 (Int32.ofInt (-1))) 104 64 (Int32.ofInt (-1)))) (by decide) rfl rfl trivial ⟨_, _, _, rfl, rfl, rfl⟩ rfl ⟨Nat.le_of_eq HD.1.2.2.2.1.symm, Nat.le_of_eq HD.1.2.2.2.2.symm⟩ t7, CX_ofT (h' := (xsetI (xsetI gC2 104 63 (Int32.ofInt (-1))) 104 64 (Int32.ofInt (-1)))) (by decide) rfl rfl trivial ⟨_, _, _, rfl, rfl, rfl⟩ rfl ⟨Nat.le_of_eq HD.2.1.2.2.2.1.symm, Nat.le_of_eq HD.2.1.2.2.2.2.symm⟩ t7', HD.1, HD.2.1, HD.2.2.1, HD.2.2.2.1, fun c k hck hl => ?_, HD.2.2.2.2.2⟩
  cases hd : swin vDo c k with
  | false => exact HD.2.2.2.2.1 c k hd hl
  | true =>
    have z := vDo_c hd hck
    unfold vDk at z
    simp only [Bool.or_eq_true, Bool.and_eq_true, decide_eq_true_eq] at z
    rcases z with ⟨rfl, z1, z2⟩ | ⟨rfl, z1, z2⟩ | ⟨z0, z1, z2⟩ | ⟨rfl, rfl⟩ | ⟨rfl, z0⟩
    · have y := (vA (k - 6) (by omega)).1
      rw [show 6 + (k - 6) = k by omega] at y
      rw [yI_c (by decide), yI_c (by decide), yI_c (by decide), yI_c (by decide), eC, eC2, yI_c (by decide), yI_c (by decide), (oB 133 k (by decide) (by decide) (by decide)).1, (oB 133 k (by decide) (by decide) (by decide)).2]
      exact y
    · have y := (vA (k - 6) (by omega)).2
      rw [show 6 + (k - 6) = k by omega] at y
      rw [yI_c (by decide), yI_c (by decide), yI_c (by decide), yI_c (by decide), eC, eC2, yI_c (by decide), yI_c (by decide), (oB 134 k (by decide) (by decide) (by decide)).1, (oB 134 k (by decide) (by decide) (by decide)).2]
      exact y
    · have y := vB (k - 8) (by omega)
      rw [show 8 + (k - 8) = k by omega] at y
      rw [yI_c (eq_false (by omega)), yI_c (eq_false (by omega)), yI_c (eq_false (by omega)), yI_c (eq_false (by omega)), eC, eC2, yI_c (eq_false (by omega)), yI_c (eq_false (by omega))]
      rcases z0 with rfl | rfl | rfl
      · exact y.1
      · exact y.2.1
      · exact y.2.2
    · rw [yI_c (by decide), yI_c (by decide), yI_c (by decide), yI_c (by decide), eC, eC2]
      exact yI_same.trans yI_same.symm
    · rcases z0 with rfl | rfl
      · rw [yI_ne (by decide), yI_same, yI_ne (by decide), yI_same]
      · rw [yI_same, yI_same]
