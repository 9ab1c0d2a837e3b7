/-! FEEDS, for every tape. -/
set_option maxRecDepth 100000 in
set_option maxHeartbeats 2000000 in
theorem vf_one (l : Launch) (a s : Int32) (h : XH) (hg : sgood vT vR vE 153 6051 h) (hv : (xI h 45 1).toInt ≤ 699) (hs : 0 ≤ s.toInt) : ∃ h', XT l 0 0 false 14 153 6051 3 [xf 7 45, xi a, xi s] [] h 3 [xf 7 45, xi a, xi (s + (Int32.ofInt (-8)))] [] h' ∧ vG ([(45, 1, false), (46, 0, true)], []) h h' ∧ (xI h' 45 1).toInt = (xI h 45 1).toInt + 1 := by
  have b1 : 0 ≤ (xI h 45 1).toInt ∧ (xI h 45 1).toInt ≤ 700 := vbnd hg.1 45 1
  have e0 : (0 : Int32).toInt = 0 := rfl
  have e7 : (Int32.ofInt (700)).toInt = 700 := rfl
  have t1 : XT l 0 0 false 14 153 6051 3 [xf 7 45, xi a, xi s] [] h 3 [xf 7 45, xi a, xi (s + Int32.ofInt (-8))] [] (xsetI (xsetI h (xR h 45 0) ((xI h 45 1)).toNatClampNeg (vp_nar .byte ((a >>> (s &&& 31))).toInt8.toInt32)) 45 1 ((xI (xsetI h (xR h 45 0) ((xI h 45 1)).toNatClampNeg (vp_nar .byte ((a >>> (s &&& 31))).toInt8.toInt32)) 45 1) + (Int32.ofInt (1)))) := XT_path (l := l) (fr := 0) (lo := 0) (full := false) (M := 14) (n := 153) (u := 6051) (pc := 3) (L := [xf 7 45, xi a, xi s]) (st := []) (h := h) (inl := []) (n' := 80) (sp := [3]) (o := [0, 0]) rfl rfl ⟨rfl, rfl, rfl⟩ rfl ⟨Nat.le_of_eq hg.2.2.2.1, Nat.le_of_eq hg.2.2.2.2⟩ ⟨⟨⟨⟨trivial, (fun z => absurd (Int32.lt_iff_toInt_lt.mp z) (by omega))⟩, (fun z => absurd (Int32.le_iff_toInt_le.mp z) (by omega))⟩, (vnn hg.1 (rfl : vRf 45 0 = [46]) (by decide))⟩, (vp_of (i := (xI h 45 1)) (n := 700) (by omega) (by omega))⟩
  rw [vref hg.1 (rfl : vRf 45 0 = [46])] at t1
  have t2 : XT l 0 0 false 14 153 6051 3 [xf 7 45, xi a, xi s] [] h 3 [xf 7 45, xi a, xi (s + Int32.ofInt (-8))] [] (xsetI (xsetI h 46 ((xI h 45 1)).toNatClampNeg (vp_nar .byte ((a >>> (s &&& 31))).toInt8.toInt32)) 45 1 ((xI h 45 1) + (Int32.ofInt (1)))) := t1
  have c1 : vG ([(45, 1, false), (46, 0, true)], []) h (xsetI h 46 (xI h 45 1).toNatClampNeg (vp_nar .byte ((a >>> (s &&& 31)).toInt8.toInt32))) := (vG.rf hg).set (by rw [vI_u (c := 46) (q := (-128, 127)) (by decide +kernel) (by decide +kernel), vp_nar_byte]; exact i8_bound _) rfl (by decide +kernel) rfl
  have ev : (xI h 45 1 + (Int32.ofInt (1))).toInt = (xI h 45 1).toInt + 1 := y_suc1 b1.1 (by omega)
  have c2 := c1.set (c := 45) (k := 1) (v := xI h 45 1 + (Int32.ofInt (1))) (show (0 : Int) ≤ _ ∧ _ ≤ 700 from ⟨by omega, by omega⟩) (by decide +kernel) (by decide +kernel) rfl
  exact ⟨_, t2, c2, by rw [yI_same]; exact ev⟩
set_option maxRecDepth 100000 in
set_option maxHeartbeats 2000000 in
theorem vf_app (l : Launch) (a : Int32) (h : XH) (hg : sgood vT vR vE 153 6051 h) (hv : (xI h 45 1).toInt ≤ 696) : ∃ h', CX l 0 0 false 14 [xf 7 45, xi a] h [] h' ∧ vG ([(45, 1, false), (46, 0, true)], []) h h' ∧ (xI h' 45 1).toInt = (xI h 45 1).toInt + 4 := by
  have t1 : XT l 0 0 false 14 153 6051 0 [xf 7 45, xi a, xun] [] h 3 [xf 7 45, xi a, xi (Int32.ofInt (24))] [] h := XT_path (l := l) (fr := 0) (lo := 0) (full := false) (M := 14) (n := 153) (u := 6051) (pc := 0) (L := [xf 7 45, xi a, xun]) (st := []) (h := h) (inl := []) (n' := 80) (sp := [3]) (o := []) rfl rfl ⟨rfl, rfl, rfl⟩ rfl ⟨Nat.le_of_eq hg.2.2.2.1, Nat.le_of_eq hg.2.2.2.2⟩ trivial
  obtain ⟨h1, s1, g1, v1⟩ := vf_one l a (Int32.ofInt (24)) h hg (by omega) (by decide)
  have t2 := t1.tr s1
  obtain ⟨h2, s2, g2, v2⟩ := vf_one l a ((Int32.ofInt (24)) + (Int32.ofInt (-8))) h1 g1.1 (by omega) (by decide)
  have t3 := t2.tr s2
  obtain ⟨h3, s3, g3, v3⟩ := vf_one l a (((Int32.ofInt (24)) + (Int32.ofInt (-8))) + (Int32.ofInt (-8))) h2 g2.1 (by omega) (by decide)
  have t4 := t3.tr s3
  obtain ⟨h4, s4, g4, v4⟩ := vf_one l a ((((Int32.ofInt (24)) + (Int32.ofInt (-8))) + (Int32.ofInt (-8))) + (Int32.ofInt (-8))) h3 g3.1 (by omega) (by decide)
  have t5 := t4.tr s4
  have t6 : XT l 0 0 false 14 153 6051 3 [xf 7 45, xi a, xi (((((Int32.ofInt (24)) + (Int32.ofInt (-8))) + (Int32.ofInt (-8))) + (Int32.ofInt (-8))) + (Int32.ofInt (-8)))] [] h4 46 [xf 7 45, xi a, xi (((((Int32.ofInt (24)) + (Int32.ofInt (-8))) + (Int32.ofInt (-8))) + (Int32.ofInt (-8))) + (Int32.ofInt (-8)))] [] h4 := XT_path (l := l) (fr := 0) (lo := 0) (full := false) (M := 14) (n := 153) (u := 6051) (pc := 3) (L := [xf 7 45, xi a, xi (((((Int32.ofInt (24)) + (Int32.ofInt (-8))) + (Int32.ofInt (-8))) + (Int32.ofInt (-8))) + (Int32.ofInt (-8)))]) (st := []) (h := h4) (inl := []) (n' := 80) (sp := [46]) (o := [1]) rfl rfl ⟨rfl, rfl, rfl⟩ rfl ⟨Nat.le_of_eq g4.1.2.2.2.1, Nat.le_of_eq g4.1.2.2.2.2⟩ ⟨trivial, (by decide)⟩
  have t7 := t5.tr t6
  exact ⟨h4, CX_ofT (by decide) rfl rfl trivial ⟨_, _, _, rfl, rfl, rfl⟩ rfl ⟨Nat.le_of_eq g4.1.2.2.2.1.symm, Nat.le_of_eq g4.1.2.2.2.2.symm⟩ t7, ((g1.tr g2).tr g3).tr g4, by omega⟩
set_option maxRecDepth 100000 in
set_option maxHeartbeats 2000000 in
theorem vh_cfeed (l : Launch) (a b c d e : Int32) (h : XH) (hg : sgood vT vR vE 153 6051 h) : ∃ v h', CX l 1 22 false 13 [xf 12 2, xi a, xi b, xi c, xi d, xi e] h [xi v] h' ∧ vG ([(45, 1, false), (46, 0, true)], []) h h' ∧ ((680 < (xI h 45 1).toInt ∧ v = (Int32.ofInt (-1)) ∧ xI h' 45 1 = xI h 45 1) ∨ ((xI h 45 1).toInt ≤ 680 ∧ (xI h' 45 1).toInt = (xI h 45 1).toInt + 20 ∧ v = xI h' 45 1)) := by
  have b1 : 0 ≤ (xI h 45 1).toInt ∧ (xI h 45 1).toInt ≤ 700 := vbnd hg.1 45 1
  have e7 : (Int32.ofInt (700)).toInt = 700 := rfl
  have es : (xI h 45 1 + (Int32.ofInt (20))).toInt = (xI h 45 1).toInt + 20 := by
    rw [Int32.toInt_add, show (Int32.ofInt (20)).toInt = 20 from rfl]
    exact Int.bmod_eq_of_le (by omega) (by omega)
  have r20 : xR h 2 0 = 45 := vref hg.1 rfl
  by_cases c1 : ((xI h (xR h 2 0) 1) + (Int32.ofInt (20))) ≤ (Int32.ofInt (700))
  · have c1' := c1
    rw [r20] at c1'
    have d1 : (xI h 45 1).toInt ≤ 680 := by have := Int32.le_iff_toInt_le.mp c1'; omega
    have t2 : XT l 1 22 false 13 153 6051 0 [xf 12 2, xi a, xi b, xi c, xi d, xi e] [] h 23 [xf 12 2, xi a, xi b, xi c, xi d, xi e] [xi a, xf 7 (xR h 2 0)] h := XT_path (l := l) (fr := 1) (lo := 22) (full := false) (M := 13) (n := 153) (u := 6051) (pc := 0) (L := [xf 12 2, xi a, xi b, xi c, xi d, xi e]) (st := []) (h := h) (inl := []) (n' := 80) (sp := [23]) (o := [1]) rfl rfl ⟨rfl, rfl, rfl⟩ rfl ⟨Nat.le_of_eq hg.2.2.2.1, Nat.le_of_eq hg.2.2.2.2⟩ ⟨⟨⟨trivial, (vnn hg.1 (rfl : vRf 2 0 = [45]) (by decide))⟩, c1⟩, (vnn hg.1 (rfl : vRf 2 0 = [45]) (by decide))⟩
    rw [vref hg.1 (rfl : vRf 2 0 = [45])] at t2
    obtain ⟨h1, c1_, g1, v1⟩ := vf_app l a h hg (by omega)
    have t3 : XT l 1 22 false 13 153 6051 23 [xf 12 2, xi a, xi b, xi c, xi d, xi e] [xi a, xf 7 45] h 26 [xf 12 2, xi a, xi b, xi c, xi d, xi e] [] h1 := XT_call (l := l) (fr := 1) (lo := 22) (full := false) (M := 13) (n := 153) (u := 6051) (pc := 23) (L := [xf 12 2, xi a, xi b, xi c, xi d, xi e]) (st := [xi a, xf 7 45]) (h := h) (i := .invokevirtual 14) (aux := 2) (nx := 26) (K := 14) (vs := [xf 7 45, xi a]) (rs := []) (rest := []) rfl rfl rfl rfl rfl rfl c1_ (by decide) (by decide) (Nat.le_of_ble_eq_true rfl) ⟨Nat.le_of_eq g1.1.2.2.2.1, Nat.le_of_eq g1.1.2.2.2.2⟩
    have t4 := t2.tr t3
    have t5 : XT l 1 22 false 13 153 6051 26 [xf 12 2, xi a, xi b, xi c, xi d, xi e] [] h1 31 [xf 12 2, xi a, xi b, xi c, xi d, xi e] [xi b, xf 7 (xR h1 2 0)] h1 := XT_path (l := l) (fr := 1) (lo := 22) (full := false) (M := 13) (n := 153) (u := 6051) (pc := 26) (L := [xf 12 2, xi a, xi b, xi c, xi d, xi e]) (st := []) (h := h1) (inl := []) (n' := 80) (sp := [31]) (o := []) rfl rfl ⟨rfl, rfl, rfl⟩ rfl ⟨Nat.le_of_eq g1.1.2.2.2.1, Nat.le_of_eq g1.1.2.2.2.2⟩ ⟨trivial, (vnn g1.1.1 (rfl : vRf 2 0 = [45]) (by decide))⟩
    rw [vref g1.1.1 (rfl : vRf 2 0 = [45])] at t5
    have t6 := t4.tr t5
    obtain ⟨h2, c2_, g2, v2⟩ := vf_app l b h1 g1.1 (by omega)
    have t7 : XT l 1 22 false 13 153 6051 31 [xf 12 2, xi a, xi b, xi c, xi d, xi e] [xi b, xf 7 45] h1 34 [xf 12 2, xi a, xi b, xi c, xi d, xi e] [] h2 := XT_call (l := l) (fr := 1) (lo := 22) (full := false) (M := 13) (n := 153) (u := 6051) (pc := 31) (L := [xf 12 2, xi a, xi b, xi c, xi d, xi e]) (st := [xi b, xf 7 45]) (h := h1) (i := .invokevirtual 14) (aux := 2) (nx := 34) (K := 14) (vs := [xf 7 45, xi b]) (rs := []) (rest := []) rfl rfl rfl rfl rfl rfl c2_ (by decide) (by decide) (Nat.le_of_ble_eq_true rfl) ⟨Nat.le_of_eq g2.1.2.2.2.1, Nat.le_of_eq g2.1.2.2.2.2⟩
    have t8 := t6.tr t7
    have t9 : XT l 1 22 false 13 153 6051 34 [xf 12 2, xi a, xi b, xi c, xi d, xi e] [] h2 39 [xf 12 2, xi a, xi b, xi c, xi d, xi e] [xi c, xf 7 (xR h2 2 0)] h2 := XT_path (l := l) (fr := 1) (lo := 22) (full := false) (M := 13) (n := 153) (u := 6051) (pc := 34) (L := [xf 12 2, xi a, xi b, xi c, xi d, xi e]) (st := []) (h := h2) (inl := []) (n' := 80) (sp := [39]) (o := []) rfl rfl ⟨rfl, rfl, rfl⟩ rfl ⟨Nat.le_of_eq g2.1.2.2.2.1, Nat.le_of_eq g2.1.2.2.2.2⟩ ⟨trivial, (vnn g2.1.1 (rfl : vRf 2 0 = [45]) (by decide))⟩
    rw [vref g2.1.1 (rfl : vRf 2 0 = [45])] at t9
    have t10 := t8.tr t9
    obtain ⟨h3, c3_, g3, v3⟩ := vf_app l c h2 g2.1 (by omega)
    have t11 : XT l 1 22 false 13 153 6051 39 [xf 12 2, xi a, xi b, xi c, xi d, xi e] [xi c, xf 7 45] h2 42 [xf 12 2, xi a, xi b, xi c, xi d, xi e] [] h3 := XT_call (l := l) (fr := 1) (lo := 22) (full := false) (M := 13) (n := 153) (u := 6051) (pc := 39) (L := [xf 12 2, xi a, xi b, xi c, xi d, xi e]) (st := [xi c, xf 7 45]) (h := h2) (i := .invokevirtual 14) (aux := 2) (nx := 42) (K := 14) (vs := [xf 7 45, xi c]) (rs := []) (rest := []) rfl rfl rfl rfl rfl rfl c3_ (by decide) (by decide) (Nat.le_of_ble_eq_true rfl) ⟨Nat.le_of_eq g3.1.2.2.2.1, Nat.le_of_eq g3.1.2.2.2.2⟩
    have t12 := t10.tr t11
    have t13 : XT l 1 22 false 13 153 6051 42 [xf 12 2, xi a, xi b, xi c, xi d, xi e] [] h3 48 [xf 12 2, xi a, xi b, xi c, xi d, xi e] [xi d, xf 7 (xR h3 2 0)] h3 := XT_path (l := l) (fr := 1) (lo := 22) (full := false) (M := 13) (n := 153) (u := 6051) (pc := 42) (L := [xf 12 2, xi a, xi b, xi c, xi d, xi e]) (st := []) (h := h3) (inl := []) (n' := 80) (sp := [48]) (o := []) rfl rfl ⟨rfl, rfl, rfl⟩ rfl ⟨Nat.le_of_eq g3.1.2.2.2.1, Nat.le_of_eq g3.1.2.2.2.2⟩ ⟨trivial, (vnn g3.1.1 (rfl : vRf 2 0 = [45]) (by decide))⟩
    rw [vref g3.1.1 (rfl : vRf 2 0 = [45])] at t13
    have t14 := t12.tr t13
    obtain ⟨h4, c4_, g4, v4⟩ := vf_app l d h3 g3.1 (by omega)
    have t15 : XT l 1 22 false 13 153 6051 48 [xf 12 2, xi a, xi b, xi c, xi d, xi e] [xi d, xf 7 45] h3 51 [xf 12 2, xi a, xi b, xi c, xi d, xi e] [] h4 := XT_call (l := l) (fr := 1) (lo := 22) (full := false) (M := 13) (n := 153) (u := 6051) (pc := 48) (L := [xf 12 2, xi a, xi b, xi c, xi d, xi e]) (st := [xi d, xf 7 45]) (h := h3) (i := .invokevirtual 14) (aux := 2) (nx := 51) (K := 14) (vs := [xf 7 45, xi d]) (rs := []) (rest := []) rfl rfl rfl rfl rfl rfl c4_ (by decide) (by decide) (Nat.le_of_ble_eq_true rfl) ⟨Nat.le_of_eq g4.1.2.2.2.1, Nat.le_of_eq g4.1.2.2.2.2⟩
    have t16 := t14.tr t15
    have t17 : XT l 1 22 false 13 153 6051 51 [xf 12 2, xi a, xi b, xi c, xi d, xi e] [] h4 57 [xf 12 2, xi a, xi b, xi c, xi d, xi e] [xi e, xf 7 (xR h4 2 0)] h4 := XT_path (l := l) (fr := 1) (lo := 22) (full := false) (M := 13) (n := 153) (u := 6051) (pc := 51) (L := [xf 12 2, xi a, xi b, xi c, xi d, xi e]) (st := []) (h := h4) (inl := []) (n' := 80) (sp := [57]) (o := []) rfl rfl ⟨rfl, rfl, rfl⟩ rfl ⟨Nat.le_of_eq g4.1.2.2.2.1, Nat.le_of_eq g4.1.2.2.2.2⟩ ⟨trivial, (vnn g4.1.1 (rfl : vRf 2 0 = [45]) (by decide))⟩
    rw [vref g4.1.1 (rfl : vRf 2 0 = [45])] at t17
    have t18 := t16.tr t17
    obtain ⟨h5, c5_, g5, v5⟩ := vf_app l e h4 g4.1 (by omega)
    have t19 : XT l 1 22 false 13 153 6051 57 [xf 12 2, xi a, xi b, xi c, xi d, xi e] [xi e, xf 7 45] h4 60 [xf 12 2, xi a, xi b, xi c, xi d, xi e] [] h5 := XT_call (l := l) (fr := 1) (lo := 22) (full := false) (M := 13) (n := 153) (u := 6051) (pc := 57) (L := [xf 12 2, xi a, xi b, xi c, xi d, xi e]) (st := [xi e, xf 7 45]) (h := h4) (i := .invokevirtual 14) (aux := 2) (nx := 60) (K := 14) (vs := [xf 7 45, xi e]) (rs := []) (rest := []) rfl rfl rfl rfl rfl rfl c5_ (by decide) (by decide) (Nat.le_of_ble_eq_true rfl) ⟨Nat.le_of_eq g5.1.2.2.2.1, Nat.le_of_eq g5.1.2.2.2.2⟩
    have t20 := t18.tr t19
    have t21 : XT l 1 22 false 13 153 6051 60 [xf 12 2, xi a, xi b, xi c, xi d, xi e] [] h5 67 [xf 12 2, xi a, xi b, xi c, xi d, xi e] [xi (xI h5 (xR h5 2 0) 1)] h5 := XT_path (l := l) (fr := 1) (lo := 22) (full := false) (M := 13) (n := 153) (u := 6051) (pc := 60) (L := [xf 12 2, xi a, xi b, xi c, xi d, xi e]) (st := []) (h := h5) (inl := []) (n' := 80) (sp := [67]) (o := []) rfl rfl ⟨rfl, rfl, rfl⟩ rfl ⟨Nat.le_of_eq g5.1.2.2.2.1, Nat.le_of_eq g5.1.2.2.2.2⟩ ⟨trivial, (vnn g5.1.1 (rfl : vRf 2 0 = [45]) (by decide))⟩
    rw [vref g5.1.1 (rfl : vRf 2 0 = [45])] at t21
    have t22 := t20.tr t21
    exact ⟨_, _, CX_ofT (h' := h5) (by decide) rfl rfl trivial ⟨_, _, _, rfl, rfl, rfl⟩ rfl ⟨Nat.le_of_eq g5.1.2.2.2.1.symm, Nat.le_of_eq g5.1.2.2.2.2.symm⟩ t22, (((g1.tr g2).tr g3).tr g4).tr g5, Or.inr ⟨d1, by omega, rfl⟩⟩
  · have c1' := c1
    rw [r20] at c1'
    have d1 : 680 < (xI h 45 1).toInt := Int.not_le.mp (fun z => c1' (Int32.le_iff_toInt_le.mpr (by omega)))
    have t23 : XT l 1 22 false 13 153 6051 0 [xf 12 2, xi a, xi b, xi c, xi d, xi e] [] h 17 [xf 12 2, xi a, xi b, xi c, xi d, xi e] [xi (Int32.ofInt (-1))] h := XT_path (l := l) (fr := 1) (lo := 22) (full := false) (M := 13) (n := 153) (u := 6051) (pc := 0) (L := [xf 12 2, xi a, xi b, xi c, xi d, xi e]) (st := []) (h := h) (inl := []) (n' := 80) (sp := [17]) (o := [0]) rfl rfl ⟨rfl, rfl, rfl⟩ rfl ⟨Nat.le_of_eq hg.2.2.2.1, Nat.le_of_eq hg.2.2.2.2⟩ ⟨⟨trivial, (vnn hg.1 (rfl : vRf 2 0 = [45]) (by decide))⟩, c1⟩
    exact ⟨_, _, CX_ofT (h' := h) (by decide) rfl rfl trivial ⟨_, _, _, rfl, rfl, rfl⟩ rfl ⟨Nat.le_of_eq hg.2.2.2.1.symm, Nat.le_of_eq hg.2.2.2.2.symm⟩ t23, vG.rf hg, Or.inl ⟨d1, rfl, rfl⟩⟩
set_option maxRecDepth 100000 in
set_option maxHeartbeats 2000000 in
theorem vf_mL (l : Launch) (a b c d e : Int32) : ∀ (m : Nat) (i : Int32) (x7 : XV) (h : XH), 0 ≤ i.toInt → i.toInt + m = 20 → sgood vT vR vE 153 6051 h → (xI h 104 1).toInt ≤ 680 → ∃ i' x7' h', XT l 0 0 false 178 153 6051 23 [xf 13 104, xi a, xi b, xi c, xi d, xi e, xi i, x7] [] h 113 [xf 13 104, xi a, xi b, xi c, xi d, xi e, xi i', x7'] [] h' ∧ vG ([(105, 0, true)], []) h h'
  | 0, i, x7, h, a1, a2, hg, hv => by
    have e20 : (Int32.ofInt (20)).toInt = 20 := rfl
    have e4 : (Int32.ofInt (4)).toInt = 4 := rfl
    have e8 : (Int32.ofInt (8)).toInt = 8 := rfl
    have e12 : (Int32.ofInt (12)).toInt = 12 := rfl
    have e16 : (Int32.ofInt (16)).toInt = 16 := rfl
    have b1 : 0 ≤ (xI h 104 1).toInt ∧ (xI h 104 1).toInt ≤ 700 := vbnd hg.1 104 1
    have ea : (xI h 104 1 + i).toInt = (xI h 104 1).toInt + i.toInt := by
      rw [Int32.toInt_add]
      exact Int.bmod_eq_of_le (by omega) (by omega)
    have t1 : XT l 0 0 false 178 153 6051 23 [xf 13 104, xi a, xi b, xi c, xi d, xi e, xi i, x7] [] h 113 [xf 13 104, xi a, xi b, xi c, xi d, xi e, xi i, x7] [] h := XT_path (l := l) (fr := 0) (lo := 0) (full := false) (M := 178) (n := 153) (u := 6051) (pc := 23) (L := [xf 13 104, xi a, xi b, xi c, xi d, xi e, xi i, x7]) (st := []) (h := h) (inl := []) (n' := 60) (sp := [113]) (o := [1]) rfl rfl ⟨rfl, rfl, rfl⟩ rfl ⟨Nat.le_of_eq hg.2.2.2.1, Nat.le_of_eq hg.2.2.2.2⟩ ⟨trivial, (Int32.le_iff_toInt_le.mpr (by omega))⟩
    exact ⟨_, _, _, t1, vG.rf hg⟩
  | m + 1, i, x7, h, a1, a2, hg, hv => by
    have e20 : (Int32.ofInt (20)).toInt = 20 := rfl
    have e4 : (Int32.ofInt (4)).toInt = 4 := rfl
    have e8 : (Int32.ofInt (8)).toInt = 8 := rfl
    have e12 : (Int32.ofInt (12)).toInt = 12 := rfl
    have e16 : (Int32.ofInt (16)).toInt = 16 := rfl
    have b1 : 0 ≤ (xI h 104 1).toInt ∧ (xI h 104 1).toInt ≤ 700 := vbnd hg.1 104 1
    have ea : (xI h 104 1 + i).toInt = (xI h 104 1).toInt + i.toInt := by
      rw [Int32.toInt_add]
      exact Int.bmod_eq_of_le (by omega) (by omega)
    by_cases c1 : (Int32.ofInt (4)) ≤ i
    · by_cases c2 : (Int32.ofInt (8)) ≤ i
      · by_cases c3 : (Int32.ofInt (12)) ≤ i
        · by_cases c4 : (Int32.ofInt (16)) ≤ i
          · have t5 : XT l 0 0 false 178 153 6051 23 [xf 13 104, xi a, xi b, xi c, xi d, xi e, xi i, x7] [] h 23 [xf 13 104, xi a, xi b, xi c, xi d, xi e, xi (i + Int32.ofInt (1)), xi e] [] (xsetI h (xR h 104 0) (((xI h 104 1) + i)).toNatClampNeg ((e >>> (((Int32.ofInt (24)) - ((Int32.ofInt (8)) * (i - i / (Int32.ofInt (4)) * (Int32.ofInt (4))))) &&& 31)) &&& (Int32.ofInt (255)))) := XT_path (l := l) (fr := 0) (lo := 0) (full := false) (M := 178) (n := 153) (u := 6051) (pc := 23) (L := [xf 13 104, xi a, xi b, xi c, xi d, xi e, xi i, x7]) (st := []) (h := h) (inl := []) (n' := 60) (sp := [23]) (o := [0, 1, 1, 1, 1]) rfl rfl ⟨rfl, rfl, rfl⟩ rfl ⟨Nat.le_of_eq hg.2.2.2.1, Nat.le_of_eq hg.2.2.2.2⟩ ⟨⟨⟨⟨⟨⟨⟨⟨trivial, (fun z => absurd (Int32.le_iff_toInt_le.mp z) (by omega))⟩, c1⟩, c2⟩, c3⟩, c4⟩, (vnn hg.1 (rfl : vRf 104 0 = [105]) (by decide))⟩, (by decide)⟩, (vp_of (i := ((xI h 104 1) + i)) (n := 700) (by omega) (by omega))⟩
            rw [vref hg.1 (rfl : vRf 104 0 = [105])] at t5
            have g1 : vG ([(105, 0, true)], []) h (xsetI h 105 (((xI h 104 1) + i)).toNatClampNeg ((e >>> (((Int32.ofInt (24)) - ((Int32.ofInt (8)) * (i - i / (Int32.ofInt (4)) * (Int32.ofInt (4))))) &&& 31)) &&& (Int32.ofInt (255)))) := (vG.rf hg).set (by rw [vI_u (c := 105) (q := (0, 255)) (by decide +kernel) (by decide +kernel)]; exact i32_and_r (b := (Int32.ofInt (255))) (by decide)) rfl (by decide +kernel) rfl
            have ei := y_suc1 a1 (by omega)
            obtain ⟨i', y7, h2, tL, g2⟩ := vf_mL l a b c d e m (i + (Int32.ofInt (1))) (xi e) _ (by omega) (by omega) g1.1 (by rw [yI_c (by decide)]; exact hv)
            exact ⟨i', y7, h2, t5.tr tL, g1.tr g2⟩
          · have t6 : XT l 0 0 false 178 153 6051 23 [xf 13 104, xi a, xi b, xi c, xi d, xi e, xi i, x7] [] h 23 [xf 13 104, xi a, xi b, xi c, xi d, xi e, xi (i + Int32.ofInt (1)), xi d] [] (xsetI h (xR h 104 0) (((xI h 104 1) + i)).toNatClampNeg ((d >>> (((Int32.ofInt (24)) - ((Int32.ofInt (8)) * (i - i / (Int32.ofInt (4)) * (Int32.ofInt (4))))) &&& 31)) &&& (Int32.ofInt (255)))) := XT_path (l := l) (fr := 0) (lo := 0) (full := false) (M := 178) (n := 153) (u := 6051) (pc := 23) (L := [xf 13 104, xi a, xi b, xi c, xi d, xi e, xi i, x7]) (st := []) (h := h) (inl := []) (n' := 60) (sp := [23]) (o := [0, 1, 1, 1, 0]) rfl rfl ⟨rfl, rfl, rfl⟩ rfl ⟨Nat.le_of_eq hg.2.2.2.1, Nat.le_of_eq hg.2.2.2.2⟩ ⟨⟨⟨⟨⟨⟨⟨⟨trivial, (fun z => absurd (Int32.le_iff_toInt_le.mp z) (by omega))⟩, c1⟩, c2⟩, c3⟩, c4⟩, (vnn hg.1 (rfl : vRf 104 0 = [105]) (by decide))⟩, (by decide)⟩, (vp_of (i := ((xI h 104 1) + i)) (n := 700) (by omega) (by omega))⟩
            rw [vref hg.1 (rfl : vRf 104 0 = [105])] at t6
            have g1 : vG ([(105, 0, true)], []) h (xsetI h 105 (((xI h 104 1) + i)).toNatClampNeg ((d >>> (((Int32.ofInt (24)) - ((Int32.ofInt (8)) * (i - i / (Int32.ofInt (4)) * (Int32.ofInt (4))))) &&& 31)) &&& (Int32.ofInt (255)))) := (vG.rf hg).set (by rw [vI_u (c := 105) (q := (0, 255)) (by decide +kernel) (by decide +kernel)]; exact i32_and_r (b := (Int32.ofInt (255))) (by decide)) rfl (by decide +kernel) rfl
            have ei := y_suc1 a1 (by omega)
            obtain ⟨i', y7, h2, tL, g2⟩ := vf_mL l a b c d e m (i + (Int32.ofInt (1))) (xi d) _ (by omega) (by omega) g1.1 (by rw [yI_c (by decide)]; exact hv)
            exact ⟨i', y7, h2, t6.tr tL, g1.tr g2⟩
        · have t7 : XT l 0 0 false 178 153 6051 23 [xf 13 104, xi a, xi b, xi c, xi d, xi e, xi i, x7] [] h 23 [xf 13 104, xi a, xi b, xi c, xi d, xi e, xi (i + Int32.ofInt (1)), xi c] [] (xsetI h (xR h 104 0) (((xI h 104 1) + i)).toNatClampNeg ((c >>> (((Int32.ofInt (24)) - ((Int32.ofInt (8)) * (i - i / (Int32.ofInt (4)) * (Int32.ofInt (4))))) &&& 31)) &&& (Int32.ofInt (255)))) := XT_path (l := l) (fr := 0) (lo := 0) (full := false) (M := 178) (n := 153) (u := 6051) (pc := 23) (L := [xf 13 104, xi a, xi b, xi c, xi d, xi e, xi i, x7]) (st := []) (h := h) (inl := []) (n' := 60) (sp := [23]) (o := [0, 1, 1, 0]) rfl rfl ⟨rfl, rfl, rfl⟩ rfl ⟨Nat.le_of_eq hg.2.2.2.1, Nat.le_of_eq hg.2.2.2.2⟩ ⟨⟨⟨⟨⟨⟨⟨trivial, (fun z => absurd (Int32.le_iff_toInt_le.mp z) (by omega))⟩, c1⟩, c2⟩, c3⟩, (vnn hg.1 (rfl : vRf 104 0 = [105]) (by decide))⟩, (by decide)⟩, (vp_of (i := ((xI h 104 1) + i)) (n := 700) (by omega) (by omega))⟩
          rw [vref hg.1 (rfl : vRf 104 0 = [105])] at t7
          have g1 : vG ([(105, 0, true)], []) h (xsetI h 105 (((xI h 104 1) + i)).toNatClampNeg ((c >>> (((Int32.ofInt (24)) - ((Int32.ofInt (8)) * (i - i / (Int32.ofInt (4)) * (Int32.ofInt (4))))) &&& 31)) &&& (Int32.ofInt (255)))) := (vG.rf hg).set (by rw [vI_u (c := 105) (q := (0, 255)) (by decide +kernel) (by decide +kernel)]; exact i32_and_r (b := (Int32.ofInt (255))) (by decide)) rfl (by decide +kernel) rfl
          have ei := y_suc1 a1 (by omega)
          obtain ⟨i', y7, h2, tL, g2⟩ := vf_mL l a b c d e m (i + (Int32.ofInt (1))) (xi c) _ (by omega) (by omega) g1.1 (by rw [yI_c (by decide)]; exact hv)
          exact ⟨i', y7, h2, t7.tr tL, g1.tr g2⟩
      · have t8 : XT l 0 0 false 178 153 6051 23 [xf 13 104, xi a, xi b, xi c, xi d, xi e, xi i, x7] [] h 23 [xf 13 104, xi a, xi b, xi c, xi d, xi e, xi (i + Int32.ofInt (1)), xi b] [] (xsetI h (xR h 104 0) (((xI h 104 1) + i)).toNatClampNeg ((b >>> (((Int32.ofInt (24)) - ((Int32.ofInt (8)) * (i - i / (Int32.ofInt (4)) * (Int32.ofInt (4))))) &&& 31)) &&& (Int32.ofInt (255)))) := XT_path (l := l) (fr := 0) (lo := 0) (full := false) (M := 178) (n := 153) (u := 6051) (pc := 23) (L := [xf 13 104, xi a, xi b, xi c, xi d, xi e, xi i, x7]) (st := []) (h := h) (inl := []) (n' := 60) (sp := [23]) (o := [0, 1, 0]) rfl rfl ⟨rfl, rfl, rfl⟩ rfl ⟨Nat.le_of_eq hg.2.2.2.1, Nat.le_of_eq hg.2.2.2.2⟩ ⟨⟨⟨⟨⟨⟨trivial, (fun z => absurd (Int32.le_iff_toInt_le.mp z) (by omega))⟩, c1⟩, c2⟩, (vnn hg.1 (rfl : vRf 104 0 = [105]) (by decide))⟩, (by decide)⟩, (vp_of (i := ((xI h 104 1) + i)) (n := 700) (by omega) (by omega))⟩
        rw [vref hg.1 (rfl : vRf 104 0 = [105])] at t8
        have g1 : vG ([(105, 0, true)], []) h (xsetI h 105 (((xI h 104 1) + i)).toNatClampNeg ((b >>> (((Int32.ofInt (24)) - ((Int32.ofInt (8)) * (i - i / (Int32.ofInt (4)) * (Int32.ofInt (4))))) &&& 31)) &&& (Int32.ofInt (255)))) := (vG.rf hg).set (by rw [vI_u (c := 105) (q := (0, 255)) (by decide +kernel) (by decide +kernel)]; exact i32_and_r (b := (Int32.ofInt (255))) (by decide)) rfl (by decide +kernel) rfl
        have ei := y_suc1 a1 (by omega)
        obtain ⟨i', y7, h2, tL, g2⟩ := vf_mL l a b c d e m (i + (Int32.ofInt (1))) (xi b) _ (by omega) (by omega) g1.1 (by rw [yI_c (by decide)]; exact hv)
        exact ⟨i', y7, h2, t8.tr tL, g1.tr g2⟩
    · have t9 : XT l 0 0 false 178 153 6051 23 [xf 13 104, xi a, xi b, xi c, xi d, xi e, xi i, x7] [] h 23 [xf 13 104, xi a, xi b, xi c, xi d, xi e, xi (i + Int32.ofInt (1)), xi a] [] (xsetI h (xR h 104 0) (((xI h 104 1) + i)).toNatClampNeg ((a >>> (((Int32.ofInt (24)) - ((Int32.ofInt (8)) * (i - i / (Int32.ofInt (4)) * (Int32.ofInt (4))))) &&& 31)) &&& (Int32.ofInt (255)))) := XT_path (l := l) (fr := 0) (lo := 0) (full := false) (M := 178) (n := 153) (u := 6051) (pc := 23) (L := [xf 13 104, xi a, xi b, xi c, xi d, xi e, xi i, x7]) (st := []) (h := h) (inl := []) (n' := 60) (sp := [23]) (o := [0, 0]) rfl rfl ⟨rfl, rfl, rfl⟩ rfl ⟨Nat.le_of_eq hg.2.2.2.1, Nat.le_of_eq hg.2.2.2.2⟩ ⟨⟨⟨⟨⟨trivial, (fun z => absurd (Int32.le_iff_toInt_le.mp z) (by omega))⟩, c1⟩, (vnn hg.1 (rfl : vRf 104 0 = [105]) (by decide))⟩, (by decide)⟩, (vp_of (i := ((xI h 104 1) + i)) (n := 700) (by omega) (by omega))⟩
      rw [vref hg.1 (rfl : vRf 104 0 = [105])] at t9
      have g1 : vG ([(105, 0, true)], []) h (xsetI h 105 (((xI h 104 1) + i)).toNatClampNeg ((a >>> (((Int32.ofInt (24)) - ((Int32.ofInt (8)) * (i - i / (Int32.ofInt (4)) * (Int32.ofInt (4))))) &&& 31)) &&& (Int32.ofInt (255)))) := (vG.rf hg).set (by rw [vI_u (c := 105) (q := (0, 255)) (by decide +kernel) (by decide +kernel)]; exact i32_and_r (b := (Int32.ofInt (255))) (by decide)) rfl (by decide +kernel) rfl
      have ei := y_suc1 a1 (by omega)
      obtain ⟨i', y7, h2, tL, g2⟩ := vf_mL l a b c d e m (i + (Int32.ofInt (1))) (xi a) _ (by omega) (by omega) g1.1 (by rw [yI_c (by decide)]; exact hv)
      exact ⟨i', y7, h2, t9.tr tL, g1.tr g2⟩
set_option maxRecDepth 100000 in
set_option maxHeartbeats 2000000 in
theorem vh_mfeed (l : Launch) (a b c d e : Int32) (h : XH) (hg : sgood vT vR vE 153 6051 h) : ∃ v h', CX l 0 0 false 178 [xf 13 104, xi a, xi b, xi c, xi d, xi e] h [xi v] h' ∧ vG ([(104, 1, false), (104, 2, false), (105, 0, true)], []) h h' ∧ ((680 < (xI h 104 1).toInt ∧ v = (Int32.ofInt (-1)) ∧ xI h' 104 1 = xI h 104 1) ∨ ((xI h 104 1).toInt ≤ 680 ∧ (xI h' 104 1).toInt = (xI h 104 1).toInt + 20 ∧ v = xI h' 104 1)) := by
  have b1 : 0 ≤ (xI h 104 1).toInt ∧ (xI h 104 1).toInt ≤ 700 := vbnd hg.1 104 1
  have e7 : (Int32.ofInt (700)).toInt = 700 := rfl
  have es : (xI h 104 1 + (Int32.ofInt (20))).toInt = (xI h 104 1).toInt + 20 := by
    rw [Int32.toInt_add, show (Int32.ofInt (20)).toInt = 20 from rfl]
    exact Int.bmod_eq_of_le (by omega) (by omega)
  have g0 : vG ([(104, 1, false), (104, 2, false), (105, 0, true)], []) h (xsetI h 104 2 (Int32.ofInt (0))) := (vG.rf hg).set (show (0 : Int) ≤ _ ∧ _ ≤ 2 from by decide) (by decide +kernel) (by decide +kernel) rfl
  by_cases c1 : ((xI h 104 1) + (Int32.ofInt (20))) ≤ (Int32.ofInt (700))
  · have d1 : (xI h 104 1).toInt ≤ 680 := by have := Int32.le_iff_toInt_le.mp c1; omega
    have t2 : XT l 0 0 false 178 153 6051 0 [xf 13 104, xi a, xi b, xi c, xi d, xi e, xun, xun] [] h 23 [xf 13 104, xi a, xi b, xi c, xi d, xi e, xi (Int32.ofInt (0)), xun] [] (xsetI h 104 2 (Int32.ofInt (0))) := XT_path (l := l) (fr := 0) (lo := 0) (full := false) (M := 178) (n := 153) (u := 6051) (pc := 0) (L := [xf 13 104, xi a, xi b, xi c, xi d, xi e, xun, xun]) (st := []) (h := h) (inl := []) (n' := 80) (sp := [23]) (o := [1]) rfl rfl ⟨rfl, rfl, rfl⟩ rfl ⟨Nat.le_of_eq hg.2.2.2.1, Nat.le_of_eq hg.2.2.2.2⟩ ⟨trivial, c1⟩
    obtain ⟨i', y7, h2, tL, g2⟩ := vf_mL l a b c d e 20 (Int32.ofInt (0)) xun _ (by decide) rfl g0.1 (by rw [yI_ne (by decide)]; exact d1)
    have t3 := t2.tr tL
    have w1 : xI h2 104 1 = xI h 104 1 := (g2.2.1 104 1 rfl).trans (yI_ne (by decide))
    have t4 : XT l 0 0 false 178 153 6051 113 [xf 13 104, xi a, xi b, xi c, xi d, xi e, xi i', y7] [] h2 128 [xf 13 104, xi a, xi b, xi c, xi d, xi e, xi i', y7] [xi ((xI h2 104 1) + (Int32.ofInt (20)))] (xsetI h2 104 1 ((xI h2 104 1) + (Int32.ofInt (20)))) := XT_path (l := l) (fr := 0) (lo := 0) (full := false) (M := 178) (n := 153) (u := 6051) (pc := 113) (L := [xf 13 104, xi a, xi b, xi c, xi d, xi e, xi i', y7]) (st := []) (h := h2) (inl := []) (n' := 80) (sp := [128]) (o := []) rfl rfl ⟨rfl, rfl, rfl⟩ rfl ⟨Nat.le_of_eq g2.1.2.2.2.1, Nat.le_of_eq g2.1.2.2.2.2⟩ trivial
    have t5 := t3.tr t4
    have es2 : (xI h2 104 1 + (Int32.ofInt (20))).toInt = (xI h 104 1).toInt + 20 := by rw [w1]; exact es
    have g3 : vG ([(104, 1, false), (104, 2, false), (105, 0, true)], []) h (xsetI h2 104 1 (xI h2 104 1 + (Int32.ofInt (20)))) := (g0.tr ⟨g2.1, g2.2.mono rfl rfl⟩).set (show (0 : Int) ≤ _ ∧ _ ≤ 700 from ⟨by omega, by omega⟩) (by decide +kernel) (by decide +kernel) rfl
    refine ⟨_, _, CX_ofT (h' := (xsetI h2 104 1 ((xI h2 104 1) + (Int32.ofInt (20))))) (by decide) rfl rfl trivial ⟨_, _, _, rfl, rfl, rfl⟩ rfl ⟨Nat.le_of_eq g2.1.2.2.2.1.symm, Nat.le_of_eq g2.1.2.2.2.2.symm⟩ t5, g3, Or.inr ⟨d1, ?_, ?_⟩⟩
    · rw [yI_same]; exact es2
    · rw [yI_same]
  · have d1 : 680 < (xI h 104 1).toInt := Int.not_le.mp (fun z => c1 (Int32.le_iff_toInt_le.mpr (by omega)))
    have t6 : XT l 0 0 false 178 153 6051 0 [xf 13 104, xi a, xi b, xi c, xi d, xi e, xun, xun] [] h 19 [xf 13 104, xi a, xi b, xi c, xi d, xi e, xun, xun] [xi (Int32.ofInt (-1))] (xsetI h 104 2 (Int32.ofInt (0))) := XT_path (l := l) (fr := 0) (lo := 0) (full := false) (M := 178) (n := 153) (u := 6051) (pc := 0) (L := [xf 13 104, xi a, xi b, xi c, xi d, xi e, xun, xun]) (st := []) (h := h) (inl := []) (n' := 80) (sp := [19]) (o := [0]) rfl rfl ⟨rfl, rfl, rfl⟩ rfl ⟨Nat.le_of_eq hg.2.2.2.1, Nat.le_of_eq hg.2.2.2.2⟩ ⟨trivial, c1⟩
    exact ⟨_, _, CX_ofT (h' := (xsetI h 104 2 (Int32.ofInt (0)))) (by decide) rfl rfl trivial ⟨_, _, _, rfl, rfl, rfl⟩ rfl ⟨Nat.le_of_eq hg.2.2.2.1.symm, Nat.le_of_eq hg.2.2.2.2.symm⟩ t6, g0, Or.inl ⟨d1, rfl, yI_ne (by decide)⟩⟩
set_option maxRecDepth 100000 in
set_option maxHeartbeats 2000000 in
theorem vh_ctext (l : Launch) (n : Int32) (h : XH) (hg : sgood vT vR vE 153 6051 h) : ∃ v h', CX l 10 307 false 15 [xf 12 2, xi n] h [xi v] h' ∧ vG (cww vC_66) h h' ∧ ((n.toInt < 0 ∨ (xI h 45 1).toInt < n.toInt) → xI h' 45 1 = xI h 45 1) ∧ (0 ≤ n.toInt → n.toInt ≤ (xI h 45 1).toInt → xI h' 45 1 = 0) := by
  have e0 : (0 : Int32).toInt = 0 := rfl
  have b1 : 0 ≤ (xI h 45 1).toInt ∧ (xI h 45 1).toInt ≤ 700 := vbnd hg.1 45 1
  have r20 : xR h 2 0 = 45 := vref hg.1 rfl
  by_cases hn : n.toInt < 0 ∨ (xI h 45 1).toInt < n.toInt
  · by_cases c1 : n < 0
    · have t2 : XT l 10 307 false 15 153 6051 0 [xf 12 2, xi n, xun, xun] [] h 17 [xf 12 2, xi n, xun, xun] [xi (Int32.ofInt (-2))] h := XT_path (l := l) (fr := 10) (lo := 307) (full := false) (M := 15) (n := 153) (u := 6051) (pc := 0) (L := [xf 12 2, xi n, xun, xun]) (st := []) (h := h) (inl := []) (n' := 80) (sp := [17]) (o := [1]) rfl rfl ⟨rfl, rfl, rfl⟩ rfl ⟨Nat.le_of_eq hg.2.2.2.1, Nat.le_of_eq hg.2.2.2.2⟩ ⟨trivial, c1⟩
      exact ⟨_, _, CX_ofT (h' := h) (by decide) rfl rfl trivial ⟨_, _, _, rfl, rfl, rfl⟩ rfl ⟨Nat.le_of_eq hg.2.2.2.1.symm, Nat.le_of_eq hg.2.2.2.2.symm⟩ t2, vG.rf hg, fun _ => rfl, fun z1 z2 => by omega⟩
    · by_cases c3 : n ≤ (xI h (xR h 2 0) 1)
      · exfalso
        rcases hn with hn | hn
        · exact c1 (Int32.lt_iff_toInt_lt.mpr (by omega))
        · have z3 := c3
          rw [r20] at z3
          have := Int32.le_iff_toInt_le.mp z3
          omega
      · have t4 : XT l 10 307 false 15 153 6051 0 [xf 12 2, xi n, xun, xun] [] h 17 [xf 12 2, xi n, xun, xun] [xi (Int32.ofInt (-2))] h := XT_path (l := l) (fr := 10) (lo := 307) (full := false) (M := 15) (n := 153) (u := 6051) (pc := 0) (L := [xf 12 2, xi n, xun, xun]) (st := []) (h := h) (inl := []) (n' := 80) (sp := [17]) (o := [0, 0]) rfl rfl ⟨rfl, rfl, rfl⟩ rfl ⟨Nat.le_of_eq hg.2.2.2.1, Nat.le_of_eq hg.2.2.2.2⟩ ⟨⟨⟨trivial, c1⟩, (vnn hg.1 (rfl : vRf 2 0 = [45]) (by decide))⟩, c3⟩
        exact ⟨_, _, CX_ofT (h' := h) (by decide) rfl rfl trivial ⟨_, _, _, rfl, rfl, rfl⟩ rfl ⟨Nat.le_of_eq hg.2.2.2.1.symm, Nat.le_of_eq hg.2.2.2.2.symm⟩ t4, vG.rf hg, fun _ => rfl, fun z1 z2 => by omega⟩
  · obtain ⟨ρ, rs, h', ⟨hv, hw⟩, c, g, f, cs, hcs, k1, k2, k3, k4, k5, k6⟩ := vc_66 l [xf 12 2, xi n] h ⟨rfl, i32r_of n, trivial⟩ hg (fun q hq => absurd hq List.not_mem_nil) (fun q hq => by
        rcases List.mem_cons.mp hq with rfl | hq
        · exact b1
        exact absurd hq List.not_mem_nil) (fun ρ hρ g hg' => absurd hg' List.not_mem_nil)
    have r0 : ρ 0 = n.toInt := hv.1
    have r1 : ρ 1 = (xI h 45 1).toInt := hw 0 _ rfl
    have fin : ∀ v : Int32, rs = [xi v] → xI h' 45 1 = 0 → ∃ v h', CX l 10 307 false 15 [xf 12 2, xi n] h [xi v] h' ∧ vG (cww vC_66) h h' ∧ ((n.toInt < 0 ∨ (xI h 45 1).toInt < n.toInt) → xI h' 45 1 = xI h 45 1) ∧ (0 ≤ n.toInt → n.toInt ≤ (xI h 45 1).toInt → xI h' 45 1 = 0) := fun v er ez => ⟨v, h', er ▸ c, ⟨g, f⟩, fun z => absurd z hn, fun _ _ => ez⟩
    have zz : ∀ q : (0 : Int) ≤ (xI h' 45 1).toInt ∧ (xI h' 45 1).toInt ≤ 0, xI h' 45 1 = 0 := fun q => Int32.toInt_inj.mp (by show _ = (0 : Int); omega)
    rcases List.mem_cons.mp hcs with rfl | hcs
    · have z : ρ 1 + 1 ≤ ρ 0 := k6 _ List.mem_cons_self
      rw [r0, r1] at z
      exact absurd (Or.inr (by omega)) hn
    rcases List.mem_cons.mp hcs with rfl | hcs
    · obtain ⟨v, rfl, kv⟩ := sres_i k3
      exact fin v rfl (zz (k4 _ List.mem_cons_self))
    rcases List.mem_cons.mp hcs with rfl | hcs
    · obtain ⟨v, rfl, kv⟩ := sres_i k3
      exact fin v rfl (zz (k4 _ List.mem_cons_self))
    rcases List.mem_cons.mp hcs with rfl | hcs
    · have z := k1 0 _ rfl
      rw [r0] at z
      have z2 : n.toInt ≤ -1 := z.2
      exact absurd (Or.inl (by omega)) hn
    exact absurd hcs List.not_mem_nil
