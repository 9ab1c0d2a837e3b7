/-! WHAT FEEDS BRING: byte by byte, as both see them. -/
/-- a byte of a word, as it is read -/
def zfb (w s : Int32) : Int := sby ((w >>> (s &&& 31)).toInt8.toInt32).toInt
def zfS : Nat → Int32
  | 0 => Int32.ofInt (24)
  | k + 1 => zfS k + Int32.ofInt (-8)
def zfw (a b c d e : Int32) (j : Nat) : Int32 := if j < 4 then a else if j < 8 then b else if j < 12 then c else if j < 16 then d else e
def zfd (a b c d e : Int32) (j : Nat) : Int := zfb (zfw a b c d e j) (zfS (j % 4))
theorem zf_and (y : Int32) : (y &&& Int32.ofInt (255)).toInt = ((y.toBitVec.toNat % 256 : Nat) : Int) := by
  have e : (y &&& Int32.ofInt (255)).toBitVec.toNat = y.toBitVec.toNat % 256 := by
    rw [Int32.toBitVec_and, BitVec.toNat_and, show (Int32.ofInt (255)).toBitVec.toNat = 2 ^ 8 - 1 from rfl, Nat.and_two_pow_sub_one_eq_mod]
  rw [i32_ofnat (by omega), e]
theorem zf_i8 (y : Int32) : (y.toInt8.toInt32).toInt = ((y.toBitVec.toNat % 256 : Nat) : Int) ∨ (128 ≤ y.toBitVec.toNat % 256 ∧ (y.toInt8.toInt32).toInt < 0) := by
  rw [Int8.toInt_toInt32, Int32.toInt_toInt8]
  have h1 : y.toBitVec.toInt = y.toInt := rfl
  rw [← h1, BitVec.toInt_eq_toNat_cond]
  have hl := y.toBitVec.isLt
  have key : ∀ z : Int, z % 256 = ((y.toBitVec.toNat % 256 : Nat) : Int) → z.bmod 256 = ((y.toBitVec.toNat % 256 : Nat) : Int) ∨ (128 ≤ y.toBitVec.toNat % 256 ∧ z.bmod 256 < 0) := fun z hz => by
    rw [Int.bmod_def]
    split <;> omega
  exact key _ (by split <;> omega)
theorem zf_b (y : Int32) : sby (y &&& Int32.ofInt (255)).toInt = sby (y.toInt8.toInt32).toInt := by
  rw [zf_and]
  rcases zf_i8 y with z | ⟨z1, z2⟩
  · rw [z]
  · unfold sby
    rw [if_neg (by omega), if_neg (by omega)]
theorem zf_sh : ∀ j : Nat, j < 20 → (Int32.ofInt (24) - Int32.ofInt (8) * (Int32.ofInt j - Int32.ofInt j / Int32.ofInt (4) * Int32.ofInt (4))) = zfS (j % 4) := by decide +kernel
theorem zf_ix {i : Int32} {j : Nat} (h : i.toInt = j) : i = Int32.ofInt j := by rw [← h, Int32.ofInt_toInt]
set_option maxRecDepth 100000 in
set_option maxHeartbeats 2000000 in
theorem ck_one (l : Launch) (a s : Int32) (f : Nat) (h : XH) (hg : sgood vT vR vE 153 6051 h) (hf : (xI h 45 1).toInt = f) (hv : f ≤ 699) (hs : 0 ≤ s.toInt) : ∃ h', XT l 0 0 false 14 153 6051 3 [xf 7 45, xi a, xi s] [] h 3 [xf 7 45, xi a, xi (s + (Int32.ofInt (-8)))] [] h' ∧ vG ([(45, 1, false), (46, 0, true)], []) h h' ∧ (xI h' 45 1).toInt = (f + 1 : Nat) ∧ (∀ k, k ≠ f → xI h' 46 k = xI h 46 k) ∧ sby (xI h' 46 f).toInt = zfb a s := by
  have b1 : 0 ≤ (xI h 45 1).toInt ∧ (xI h 45 1).toInt ≤ 700 := vbnd hg.1 45 1
  have e0 : (0 : Int32).toInt = 0 := rfl
  have e7 : (Int32.ofInt (700)).toInt = 700 := rfl
  have ef : (xI h 45 1).toNatClampNeg = f := by show (xI h 45 1).toInt.toNat = f; omega
  have t1 : XT l 0 0 false 14 153 6051 3 [xf 7 45, xi a, xi s] [] h 3 [xf 7 45, xi a, xi (s + Int32.ofInt (-8))] [] (xsetI (xsetI h (xR h 45 0) ((xI h 45 1)).toNatClampNeg (vp_nar .byte ((a >>> (s &&& 31))).toInt8.toInt32)) 45 1 ((xI (xsetI h (xR h 45 0) ((xI h 45 1)).toNatClampNeg (vp_nar .byte ((a >>> (s &&& 31))).toInt8.toInt32)) 45 1) + (Int32.ofInt (1)))) := XT_path (l := l) (fr := 0) (lo := 0) (full := false) (M := 14) (n := 153) (u := 6051) (pc := 3) (L := [xf 7 45, xi a, xi s]) (st := []) (h := h) (inl := []) (n' := 80) (sp := [3]) (o := [0, 0]) rfl rfl ⟨rfl, rfl, rfl⟩ rfl ⟨Nat.le_of_eq hg.2.2.2.1, Nat.le_of_eq hg.2.2.2.2⟩ ⟨⟨⟨⟨trivial, (fun z => absurd (Int32.lt_iff_toInt_lt.mp z) (by omega))⟩, (fun z => absurd (Int32.le_iff_toInt_le.mp z) (by omega))⟩, (vnn hg.1 (rfl : vRf 45 0 = [46]) (by decide))⟩, (vp_of (i := (xI h 45 1)) (n := 700) (by omega) (by omega))⟩
  rw [vref hg.1 (rfl : vRf 45 0 = [46])] at t1
  have t2 : XT l 0 0 false 14 153 6051 3 [xf 7 45, xi a, xi s] [] h 3 [xf 7 45, xi a, xi (s + Int32.ofInt (-8))] [] (xsetI (xsetI h 46 ((xI h 45 1)).toNatClampNeg (vp_nar .byte ((a >>> (s &&& 31))).toInt8.toInt32)) 45 1 ((xI h 45 1) + (Int32.ofInt (1)))) := t1
  have c1 : vG ([(45, 1, false), (46, 0, true)], []) h (xsetI h 46 (xI h 45 1).toNatClampNeg (vp_nar .byte ((a >>> (s &&& 31)).toInt8.toInt32))) := (vG.rf hg).set (by rw [vI_u (c := 46) (q := (-128, 127)) (by decide +kernel) (by decide +kernel), vp_nar_byte]; exact i8_bound _) rfl (by decide +kernel) rfl
  have ev : (xI h 45 1 + (Int32.ofInt (1))).toInt = (xI h 45 1).toInt + 1 := y_suc1 b1.1 (by omega)
  have c2 := c1.set (c := 45) (k := 1) (v := xI h 45 1 + (Int32.ofInt (1))) (show (0 : Int) ≤ _ ∧ _ ≤ 700 from ⟨by omega, by omega⟩) (by decide +kernel) (by decide +kernel) rfl
  have d1 : (xI (xsetI (xsetI h 46 ((xI h 45 1)).toNatClampNeg (vp_nar .byte ((a >>> (s &&& 31))).toInt8.toInt32)) 45 1 ((xI h 45 1) + (Int32.ofInt (1)))) 45 1).toInt = (f + 1 : Nat) := by rw [yI_same, ev]; omega
  have d2 : ∀ k, k ≠ f → xI (xsetI (xsetI h 46 ((xI h 45 1)).toNatClampNeg (vp_nar .byte ((a >>> (s &&& 31))).toInt8.toInt32)) 45 1 ((xI h 45 1) + (Int32.ofInt (1)))) 46 k = xI h 46 k := fun k hk => (yI_c (by decide)).trans (yI_ne (eq_false (fun z => hk (z.2.trans ef))))
  have d3 : sby (xI (xsetI (xsetI h 46 ((xI h 45 1)).toNatClampNeg (vp_nar .byte ((a >>> (s &&& 31))).toInt8.toInt32)) 45 1 ((xI h 45 1) + (Int32.ofInt (1)))) 46 f).toInt = zfb a s := by
    rw [yI_c (by decide), ← ef, yI_same, pk_vb]
    rfl
  exact ⟨_, t2, c2, d1, d2, d3⟩
set_option maxRecDepth 100000 in
set_option maxHeartbeats 2000000 in
theorem ck_app (l : Launch) (a : Int32) (f : Nat) (h : XH) (hg : sgood vT vR vE 153 6051 h) (hf : (xI h 45 1).toInt = f) (hv : f ≤ 696) : ∃ h', CX l 0 0 false 14 [xf 7 45, xi a] h [] h' ∧ vG ([(45, 1, false), (46, 0, true)], []) h h' ∧ (xI h' 45 1).toInt = (f + 4 : Nat) ∧ (∀ k, k < f → xI h' 46 k = xI h 46 k) ∧ (∀ j, j < 4 → sby (xI h' 46 (f + j)).toInt = zfb a (zfS j)) := by
  have t1 : XT l 0 0 false 14 153 6051 0 [xf 7 45, xi a, xun] [] h 3 [xf 7 45, xi a, xi (Int32.ofInt (24))] [] h := XT_path (l := l) (fr := 0) (lo := 0) (full := false) (M := 14) (n := 153) (u := 6051) (pc := 0) (L := [xf 7 45, xi a, xun]) (st := []) (h := h) (inl := []) (n' := 80) (sp := [3]) (o := []) rfl rfl ⟨rfl, rfl, rfl⟩ rfl ⟨Nat.le_of_eq hg.2.2.2.1, Nat.le_of_eq hg.2.2.2.2⟩ trivial
  obtain ⟨h1, s1, g1, v1, o1, y1⟩ := ck_one l a (Int32.ofInt (24)) f h hg hf (by omega) (by decide)
  have t2 := t1.tr s1
  obtain ⟨h2, s2, g2, v2, o2, y2⟩ := ck_one l a ((Int32.ofInt (24)) + (Int32.ofInt (-8))) (f + 1) h1 g1.1 v1 (by omega) (by decide)
  have t3 := t2.tr s2
  obtain ⟨h3, s3, g3, v3, o3, y3⟩ := ck_one l a (((Int32.ofInt (24)) + (Int32.ofInt (-8))) + (Int32.ofInt (-8))) (f + 2) h2 g2.1 v2 (by omega) (by decide)
  have t4 := t3.tr s3
  obtain ⟨h4, s4, g4, v4, o4, y4⟩ := ck_one l a ((((Int32.ofInt (24)) + (Int32.ofInt (-8))) + (Int32.ofInt (-8))) + (Int32.ofInt (-8))) (f + 3) h3 g3.1 v3 (by omega) (by decide)
  have t5 := t4.tr s4
  have t6 : XT l 0 0 false 14 153 6051 3 [xf 7 45, xi a, xi (((((Int32.ofInt (24)) + (Int32.ofInt (-8))) + (Int32.ofInt (-8))) + (Int32.ofInt (-8))) + (Int32.ofInt (-8)))] [] h4 46 [xf 7 45, xi a, xi (((((Int32.ofInt (24)) + (Int32.ofInt (-8))) + (Int32.ofInt (-8))) + (Int32.ofInt (-8))) + (Int32.ofInt (-8)))] [] h4 := XT_path (l := l) (fr := 0) (lo := 0) (full := false) (M := 14) (n := 153) (u := 6051) (pc := 3) (L := [xf 7 45, xi a, xi (((((Int32.ofInt (24)) + (Int32.ofInt (-8))) + (Int32.ofInt (-8))) + (Int32.ofInt (-8))) + (Int32.ofInt (-8)))]) (st := []) (h := h4) (inl := []) (n' := 80) (sp := [46]) (o := [1]) rfl rfl ⟨rfl, rfl, rfl⟩ rfl ⟨Nat.le_of_eq g4.1.2.2.2.1, Nat.le_of_eq g4.1.2.2.2.2⟩ ⟨trivial, (by decide)⟩
  have t7 := t5.tr t6
  have d2 : ∀ k, k < f → xI h4 46 k = xI h 46 k := fun k hk => (o4 k (by omega)).trans ((o3 k (by omega)).trans ((o2 k (by omega)).trans (o1 k (by omega))))
  have d3 : ∀ j, j < 4 → sby (xI h4 46 (f + j)).toInt = zfb a (zfS j) := by
    intro j hj
    rcases (by omega : j = 0 ∨ j = 1 ∨ j = 2 ∨ j = 3) with rfl | rfl | rfl | rfl
    · rw [Nat.add_zero, o4 f (by omega), o3 f (by omega), o2 f (by omega)]; exact y1
    · rw [o4 (f + 1) (by omega), o3 (f + 1) (by omega)]; exact y2
    · rw [o4 (f + 2) (by omega)]; exact y3
    · exact y4
  exact ⟨h4, CX_ofT (by decide) rfl rfl trivial ⟨_, _, _, rfl, rfl, rfl⟩ rfl ⟨Nat.le_of_eq g4.1.2.2.2.1.symm, Nat.le_of_eq g4.1.2.2.2.2.symm⟩ t7, ((g1.tr g2).tr g3).tr g4, v4, d2, d3⟩
set_option maxRecDepth 100000 in
set_option maxHeartbeats 2000000 in
theorem ck_feed (l : Launch) (a b c d e : Int32) (f : Nat) (h : XH) (hg : sgood vT vR vE 153 6051 h) (hf : (xI h 45 1).toInt = f) : ∃ v h', CX l 1 22 false 13 [xf 12 2, xi a, xi b, xi c, xi d, xi e] h [xi v] h' ∧ vG ([(45, 1, false), (46, 0, true)], []) h h' ∧ ((680 < f ∧ v = (Int32.ofInt (-1)) ∧ (xI h' 45 1).toInt = f ∧ (∀ k, xI h' 46 k = xI h 46 k)) ∨ (f ≤ 680 ∧ (xI h' 45 1).toInt = (f + 20 : Nat) ∧ v = xI h' 45 1 ∧ (∀ k, k < f → xI h' 46 k = xI h 46 k) ∧ ∀ j, j < 20 → sby (xI h' 46 (f + j)).toInt = zfd a b c d e j)) := by
  have b1 : 0 ≤ (xI h 45 1).toInt ∧ (xI h 45 1).toInt ≤ 700 := vbnd hg.1 45 1
  have e7 : (Int32.ofInt (700)).toInt = 700 := rfl
  have es : (xI h 45 1 + (Int32.ofInt (20))).toInt = (xI h 45 1).toInt + 20 := by
    rw [Int32.toInt_add, show (Int32.ofInt (20)).toInt = 20 from rfl]
    exact Int.bmod_eq_of_le (by omega) (by omega)
  have r20 : xR h 2 0 = 45 := vref hg.1 rfl
  by_cases c1 : ((xI h (xR h 2 0) 1) + (Int32.ofInt (20))) ≤ (Int32.ofInt (700))
  · have c1' := c1
    rw [r20] at c1'
    have d1 : f ≤ 680 := by have := Int32.le_iff_toInt_le.mp c1'; omega
    have t2 : XT l 1 22 false 13 153 6051 0 [xf 12 2, xi a, xi b, xi c, xi d, xi e] [] h 23 [xf 12 2, xi a, xi b, xi c, xi d, xi e] [xi a, xf 7 (xR h 2 0)] h := XT_path (l := l) (fr := 1) (lo := 22) (full := false) (M := 13) (n := 153) (u := 6051) (pc := 0) (L := [xf 12 2, xi a, xi b, xi c, xi d, xi e]) (st := []) (h := h) (inl := []) (n' := 80) (sp := [23]) (o := [1]) rfl rfl ⟨rfl, rfl, rfl⟩ rfl ⟨Nat.le_of_eq hg.2.2.2.1, Nat.le_of_eq hg.2.2.2.2⟩ ⟨⟨⟨trivial, (vnn hg.1 (rfl : vRf 2 0 = [45]) (by decide))⟩, c1⟩, (vnn hg.1 (rfl : vRf 2 0 = [45]) (by decide))⟩
    rw [vref hg.1 (rfl : vRf 2 0 = [45])] at t2
    obtain ⟨h1, c1_, g1, v1, o1, y1⟩ := ck_app l a f h hg hf (by omega)
    have t3 : XT l 1 22 false 13 153 6051 23 [xf 12 2, xi a, xi b, xi c, xi d, xi e] [xi a, xf 7 45] h 26 [xf 12 2, xi a, xi b, xi c, xi d, xi e] [] h1 := XT_call (l := l) (fr := 1) (lo := 22) (full := false) (M := 13) (n := 153) (u := 6051) (pc := 23) (L := [xf 12 2, xi a, xi b, xi c, xi d, xi e]) (st := [xi a, xf 7 45]) (h := h) (i := .invokevirtual 14) (aux := 2) (nx := 26) (K := 14) (vs := [xf 7 45, xi a]) (rs := []) (rest := []) rfl rfl rfl rfl rfl rfl c1_ (by decide) (by decide) (Nat.le_of_ble_eq_true rfl) ⟨Nat.le_of_eq g1.1.2.2.2.1, Nat.le_of_eq g1.1.2.2.2.2⟩
    have t4 := t2.tr t3
    have t5 : XT l 1 22 false 13 153 6051 26 [xf 12 2, xi a, xi b, xi c, xi d, xi e] [] h1 31 [xf 12 2, xi a, xi b, xi c, xi d, xi e] [xi b, xf 7 (xR h1 2 0)] h1 := XT_path (l := l) (fr := 1) (lo := 22) (full := false) (M := 13) (n := 153) (u := 6051) (pc := 26) (L := [xf 12 2, xi a, xi b, xi c, xi d, xi e]) (st := []) (h := h1) (inl := []) (n' := 80) (sp := [31]) (o := []) rfl rfl ⟨rfl, rfl, rfl⟩ rfl ⟨Nat.le_of_eq g1.1.2.2.2.1, Nat.le_of_eq g1.1.2.2.2.2⟩ ⟨trivial, (vnn g1.1.1 (rfl : vRf 2 0 = [45]) (by decide))⟩
    rw [vref g1.1.1 (rfl : vRf 2 0 = [45])] at t5
    have t6 := t4.tr t5
    obtain ⟨h2, c2_, g2, v2, o2, y2⟩ := ck_app l b (f + 4) h1 g1.1 v1 (by omega)
    have t7 : XT l 1 22 false 13 153 6051 31 [xf 12 2, xi a, xi b, xi c, xi d, xi e] [xi b, xf 7 45] h1 34 [xf 12 2, xi a, xi b, xi c, xi d, xi e] [] h2 := XT_call (l := l) (fr := 1) (lo := 22) (full := false) (M := 13) (n := 153) (u := 6051) (pc := 31) (L := [xf 12 2, xi a, xi b, xi c, xi d, xi e]) (st := [xi b, xf 7 45]) (h := h1) (i := .invokevirtual 14) (aux := 2) (nx := 34) (K := 14) (vs := [xf 7 45, xi b]) (rs := []) (rest := []) rfl rfl rfl rfl rfl rfl c2_ (by decide) (by decide) (Nat.le_of_ble_eq_true rfl) ⟨Nat.le_of_eq g2.1.2.2.2.1, Nat.le_of_eq g2.1.2.2.2.2⟩
    have t8 := t6.tr t7
    have t9 : XT l 1 22 false 13 153 6051 34 [xf 12 2, xi a, xi b, xi c, xi d, xi e] [] h2 39 [xf 12 2, xi a, xi b, xi c, xi d, xi e] [xi c, xf 7 (xR h2 2 0)] h2 := XT_path (l := l) (fr := 1) (lo := 22) (full := false) (M := 13) (n := 153) (u := 6051) (pc := 34) (L := [xf 12 2, xi a, xi b, xi c, xi d, xi e]) (st := []) (h := h2) (inl := []) (n' := 80) (sp := [39]) (o := []) rfl rfl ⟨rfl, rfl, rfl⟩ rfl ⟨Nat.le_of_eq g2.1.2.2.2.1, Nat.le_of_eq g2.1.2.2.2.2⟩ ⟨trivial, (vnn g2.1.1 (rfl : vRf 2 0 = [45]) (by decide))⟩
    rw [vref g2.1.1 (rfl : vRf 2 0 = [45])] at t9
    have t10 := t8.tr t9
    obtain ⟨h3, c3_, g3, v3, o3, y3⟩ := ck_app l c (f + 8) h2 g2.1 v2 (by omega)
    have t11 : XT l 1 22 false 13 153 6051 39 [xf 12 2, xi a, xi b, xi c, xi d, xi e] [xi c, xf 7 45] h2 42 [xf 12 2, xi a, xi b, xi c, xi d, xi e] [] h3 := XT_call (l := l) (fr := 1) (lo := 22) (full := false) (M := 13) (n := 153) (u := 6051) (pc := 39) (L := [xf 12 2, xi a, xi b, xi c, xi d, xi e]) (st := [xi c, xf 7 45]) (h := h2) (i := .invokevirtual 14) (aux := 2) (nx := 42) (K := 14) (vs := [xf 7 45, xi c]) (rs := []) (rest := []) rfl rfl rfl rfl rfl rfl c3_ (by decide) (by decide) (Nat.le_of_ble_eq_true rfl) ⟨Nat.le_of_eq g3.1.2.2.2.1, Nat.le_of_eq g3.1.2.2.2.2⟩
    have t12 := t10.tr t11
    have t13 : XT l 1 22 false 13 153 6051 42 [xf 12 2, xi a, xi b, xi c, xi d, xi e] [] h3 48 [xf 12 2, xi a, xi b, xi c, xi d, xi e] [xi d, xf 7 (xR h3 2 0)] h3 := XT_path (l := l) (fr := 1) (lo := 22) (full := false) (M := 13) (n := 153) (u := 6051) (pc := 42) (L := [xf 12 2, xi a, xi b, xi c, xi d, xi e]) (st := []) (h := h3) (inl := []) (n' := 80) (sp := [48]) (o := []) rfl rfl ⟨rfl, rfl, rfl⟩ rfl ⟨Nat.le_of_eq g3.1.2.2.2.1, Nat.le_of_eq g3.1.2.2.2.2⟩ ⟨trivial, (vnn g3.1.1 (rfl : vRf 2 0 = [45]) (by decide))⟩
    rw [vref g3.1.1 (rfl : vRf 2 0 = [45])] at t13
    have t14 := t12.tr t13
    obtain ⟨h4, c4_, g4, v4, o4, y4⟩ := ck_app l d (f + 12) h3 g3.1 v3 (by omega)
    have t15 : XT l 1 22 false 13 153 6051 48 [xf 12 2, xi a, xi b, xi c, xi d, xi e] [xi d, xf 7 45] h3 51 [xf 12 2, xi a, xi b, xi c, xi d, xi e] [] h4 := XT_call (l := l) (fr := 1) (lo := 22) (full := false) (M := 13) (n := 153) (u := 6051) (pc := 48) (L := [xf 12 2, xi a, xi b, xi c, xi d, xi e]) (st := [xi d, xf 7 45]) (h := h3) (i := .invokevirtual 14) (aux := 2) (nx := 51) (K := 14) (vs := [xf 7 45, xi d]) (rs := []) (rest := []) rfl rfl rfl rfl rfl rfl c4_ (by decide) (by decide) (Nat.le_of_ble_eq_true rfl) ⟨Nat.le_of_eq g4.1.2.2.2.1, Nat.le_of_eq g4.1.2.2.2.2⟩
    have t16 := t14.tr t15
    have t17 : XT l 1 22 false 13 153 6051 51 [xf 12 2, xi a, xi b, xi c, xi d, xi e] [] h4 57 [xf 12 2, xi a, xi b, xi c, xi d, xi e] [xi e, xf 7 (xR h4 2 0)] h4 := XT_path (l := l) (fr := 1) (lo := 22) (full := false) (M := 13) (n := 153) (u := 6051) (pc := 51) (L := [xf 12 2, xi a, xi b, xi c, xi d, xi e]) (st := []) (h := h4) (inl := []) (n' := 80) (sp := [57]) (o := []) rfl rfl ⟨rfl, rfl, rfl⟩ rfl ⟨Nat.le_of_eq g4.1.2.2.2.1, Nat.le_of_eq g4.1.2.2.2.2⟩ ⟨trivial, (vnn g4.1.1 (rfl : vRf 2 0 = [45]) (by decide))⟩
    rw [vref g4.1.1 (rfl : vRf 2 0 = [45])] at t17
    have t18 := t16.tr t17
    obtain ⟨h5, c5_, g5, v5, o5, y5⟩ := ck_app l e (f + 16) h4 g4.1 v4 (by omega)
    have t19 : XT l 1 22 false 13 153 6051 57 [xf 12 2, xi a, xi b, xi c, xi d, xi e] [xi e, xf 7 45] h4 60 [xf 12 2, xi a, xi b, xi c, xi d, xi e] [] h5 := XT_call (l := l) (fr := 1) (lo := 22) (full := false) (M := 13) (n := 153) (u := 6051) (pc := 57) (L := [xf 12 2, xi a, xi b, xi c, xi d, xi e]) (st := [xi e, xf 7 45]) (h := h4) (i := .invokevirtual 14) (aux := 2) (nx := 60) (K := 14) (vs := [xf 7 45, xi e]) (rs := []) (rest := []) rfl rfl rfl rfl rfl rfl c5_ (by decide) (by decide) (Nat.le_of_ble_eq_true rfl) ⟨Nat.le_of_eq g5.1.2.2.2.1, Nat.le_of_eq g5.1.2.2.2.2⟩
    have t20 := t18.tr t19
    have t21 : XT l 1 22 false 13 153 6051 60 [xf 12 2, xi a, xi b, xi c, xi d, xi e] [] h5 67 [xf 12 2, xi a, xi b, xi c, xi d, xi e] [xi (xI h5 (xR h5 2 0) 1)] h5 := XT_path (l := l) (fr := 1) (lo := 22) (full := false) (M := 13) (n := 153) (u := 6051) (pc := 60) (L := [xf 12 2, xi a, xi b, xi c, xi d, xi e]) (st := []) (h := h5) (inl := []) (n' := 80) (sp := [67]) (o := []) rfl rfl ⟨rfl, rfl, rfl⟩ rfl ⟨Nat.le_of_eq g5.1.2.2.2.1, Nat.le_of_eq g5.1.2.2.2.2⟩ ⟨trivial, (vnn g5.1.1 (rfl : vRf 2 0 = [45]) (by decide))⟩
    rw [vref g5.1.1 (rfl : vRf 2 0 = [45])] at t21
    have t22 := t20.tr t21
    have d2 : ∀ k, k < f → xI h5 46 k = xI h 46 k := fun k hk => (o5 k (by omega)).trans ((o4 k (by omega)).trans ((o3 k (by omega)).trans ((o2 k (by omega)).trans (o1 k (by omega)))))
    have d3 : ∀ j, j < 20 → sby (xI h5 46 (f + j)).toInt = zfd a b c d e j := by
      intro j hj
      unfold zfd zfw
      rcases (by omega : j < 4 ∨ (4 ≤ j ∧ j < 8) ∨ (8 ≤ j ∧ j < 12) ∨ (12 ≤ j ∧ j < 16) ∨ 16 ≤ j) with z | z | z | z | z
      · rw [if_pos (by omega)]
        rw [show f + j = f + j % 4 by omega]
        rw [o5 (f + j % 4) (by omega), o4 (f + j % 4) (by omega), o3 (f + j % 4) (by omega), o2 (f + j % 4) (by omega)]
        exact y1 (j % 4) (by omega)
      · rw [if_neg (by omega), if_pos (by omega)]
        rw [show f + j = (f + 4) + j % 4 by omega]
        rw [o5 ((f + 4) + j % 4) (by omega), o4 ((f + 4) + j % 4) (by omega), o3 ((f + 4) + j % 4) (by omega)]
        exact y2 (j % 4) (by omega)
      · rw [if_neg (by omega), if_neg (by omega), if_pos (by omega)]
        rw [show f + j = (f + 8) + j % 4 by omega]
        rw [o5 ((f + 8) + j % 4) (by omega), o4 ((f + 8) + j % 4) (by omega)]
        exact y3 (j % 4) (by omega)
      · rw [if_neg (by omega), if_neg (by omega), if_neg (by omega), if_pos (by omega)]
        rw [show f + j = (f + 12) + j % 4 by omega]
        rw [o5 ((f + 12) + j % 4) (by omega)]
        exact y4 (j % 4) (by omega)
      · rw [if_neg (by omega), if_neg (by omega), if_neg (by omega), if_neg (by omega)]
        rw [show f + j = (f + 16) + j % 4 by omega]
        exact y5 (j % 4) (by omega)
    exact ⟨_, _, CX_ofT (h' := h5) (by decide) rfl rfl trivial ⟨_, _, _, rfl, rfl, rfl⟩ rfl ⟨Nat.le_of_eq g5.1.2.2.2.1.symm, Nat.le_of_eq g5.1.2.2.2.2.symm⟩ t22, (((g1.tr g2).tr g3).tr g4).tr g5, Or.inr ⟨d1, v5, rfl, d2, d3⟩⟩
  · have c1' := c1
    rw [r20] at c1'
    have d1 : 680 < f := by have := Int.not_le.mp (fun z => c1' (Int32.le_iff_toInt_le.mpr z)); omega
    have t23 : XT l 1 22 false 13 153 6051 0 [xf 12 2, xi a, xi b, xi c, xi d, xi e] [] h 17 [xf 12 2, xi a, xi b, xi c, xi d, xi e] [xi (Int32.ofInt (-1))] h := XT_path (l := l) (fr := 1) (lo := 22) (full := false) (M := 13) (n := 153) (u := 6051) (pc := 0) (L := [xf 12 2, xi a, xi b, xi c, xi d, xi e]) (st := []) (h := h) (inl := []) (n' := 80) (sp := [17]) (o := [0]) rfl rfl ⟨rfl, rfl, rfl⟩ rfl ⟨Nat.le_of_eq hg.2.2.2.1, Nat.le_of_eq hg.2.2.2.2⟩ ⟨⟨trivial, (vnn hg.1 (rfl : vRf 2 0 = [45]) (by decide))⟩, c1⟩
    exact ⟨_, _, CX_ofT (h' := h) (by decide) rfl rfl trivial ⟨_, _, _, rfl, rfl, rfl⟩ rfl ⟨Nat.le_of_eq hg.2.2.2.1.symm, Nat.le_of_eq hg.2.2.2.2.symm⟩ t23, vG.rf hg, Or.inl ⟨d1, rfl, hf, fun _ => rfl⟩⟩
set_option maxRecDepth 100000 in
set_option maxHeartbeats 2000000 in
theorem jk_feedL (l : Launch) (a b c d e : Int32) (f : Nat) : ∀ (m : Nat) (i : Int32) (x7 : XV) (h : XH), 0 ≤ i.toInt → i.toInt + m = 20 → sgood vT vR vE 153 6051 h → (xI h 104 1).toInt = f → f ≤ 680 → ∃ i' x7' h', XT l 0 0 false 178 153 6051 23 [xf 13 104, xi a, xi b, xi c, xi d, xi e, xi i, x7] [] h 113 [xf 13 104, xi a, xi b, xi c, xi d, xi e, xi i', x7'] [] h' ∧ vG ([(105, 0, true)], []) h h' ∧ (∀ k : Nat, (k : Int) < f + i.toInt → xI h' 105 k = xI h 105 k) ∧ (∀ j : Nat, i.toInt ≤ j → j < 20 → sby (xI h' 105 (f + j)).toInt = zfd a b c d e j)
  | 0, i, x7, h, a1, a2, hg, hf, hv => by
    have e20 : (Int32.ofInt (20)).toInt = 20 := rfl
    have e4 : (Int32.ofInt (4)).toInt = 4 := rfl
    have e8 : (Int32.ofInt (8)).toInt = 8 := rfl
    have e12 : (Int32.ofInt (12)).toInt = 12 := rfl
    have e16 : (Int32.ofInt (16)).toInt = 16 := rfl
    have b1 : 0 ≤ (xI h 104 1).toInt ∧ (xI h 104 1).toInt ≤ 700 := vbnd hg.1 104 1
    have ea : (xI h 104 1 + i).toInt = (xI h 104 1).toInt + i.toInt := by
      rw [Int32.toInt_add]
      exact Int.bmod_eq_of_le (by omega) (by omega)
    have t1 : XT l 0 0 false 178 153 6051 23 [xf 13 104, xi a, xi b, xi c, xi d, xi e, xi i, x7] [] h 113 [xf 13 104, xi a, xi b, xi c, xi d, xi e, xi i, x7] [] h := XT_path (l := l) (fr := 0) (lo := 0) (full := false) (M := 178) (n := 153) (u := 6051) (pc := 23) (L := [xf 13 104, xi a, xi b, xi c, xi d, xi e, xi i, x7]) (st := []) (h := h) (inl := []) (n' := 60) (sp := [113]) (o := [1]) rfl rfl ⟨rfl, rfl, rfl⟩ rfl ⟨Nat.le_of_eq hg.2.2.2.1, Nat.le_of_eq hg.2.2.2.2⟩ ⟨trivial, (Int32.le_iff_toInt_le.mpr (by omega))⟩
    exact ⟨_, _, _, t1, vG.rf hg, fun _ _ => rfl, fun j h1 h2 => by omega⟩
  | m + 1, i, x7, h, a1, a2, hg, hf, hv => by
    have e20 : (Int32.ofInt (20)).toInt = 20 := rfl
    have e4 : (Int32.ofInt (4)).toInt = 4 := rfl
    have e8 : (Int32.ofInt (8)).toInt = 8 := rfl
    have e12 : (Int32.ofInt (12)).toInt = 12 := rfl
    have e16 : (Int32.ofInt (16)).toInt = 16 := rfl
    have b1 : 0 ≤ (xI h 104 1).toInt ∧ (xI h 104 1).toInt ≤ 700 := vbnd hg.1 104 1
    have ea : (xI h 104 1 + i).toInt = (xI h 104 1).toInt + i.toInt := by
      rw [Int32.toInt_add]
      exact Int.bmod_eq_of_le (by omega) (by omega)
    obtain ⟨j0, hj0⟩ : ∃ j0 : Nat, i.toInt = j0 := ⟨i.toInt.toNat, by omega⟩
    have ei0 := zf_ix hj0
    have en : (xI h 104 1 + i).toNatClampNeg = f + j0 := by show (xI h 104 1 + i).toInt.toNat = f + j0; omega
    by_cases c1 : (Int32.ofInt (4)) ≤ i
    · by_cases c2 : (Int32.ofInt (8)) ≤ i
      · by_cases c3 : (Int32.ofInt (12)) ≤ i
        · by_cases c4 : (Int32.ofInt (16)) ≤ i
          · have t5 : XT l 0 0 false 178 153 6051 23 [xf 13 104, xi a, xi b, xi c, xi d, xi e, xi i, x7] [] h 23 [xf 13 104, xi a, xi b, xi c, xi d, xi e, xi (i + Int32.ofInt (1)), xi e] [] (xsetI h (xR h 104 0) (((xI h 104 1) + i)).toNatClampNeg ((e >>> (((Int32.ofInt (24)) - ((Int32.ofInt (8)) * (i - i / (Int32.ofInt (4)) * (Int32.ofInt (4))))) &&& 31)) &&& (Int32.ofInt (255)))) := XT_path (l := l) (fr := 0) (lo := 0) (full := false) (M := 178) (n := 153) (u := 6051) (pc := 23) (L := [xf 13 104, xi a, xi b, xi c, xi d, xi e, xi i, x7]) (st := []) (h := h) (inl := []) (n' := 60) (sp := [23]) (o := [0, 1, 1, 1, 1]) rfl rfl ⟨rfl, rfl, rfl⟩ rfl ⟨Nat.le_of_eq hg.2.2.2.1, Nat.le_of_eq hg.2.2.2.2⟩ ⟨⟨⟨⟨⟨⟨⟨⟨trivial, (fun z => absurd (Int32.le_iff_toInt_le.mp z) (by omega))⟩, c1⟩, c2⟩, c3⟩, c4⟩, (vnn hg.1 (rfl : vRf 104 0 = [105]) (by decide))⟩, (by decide)⟩, (vp_of (i := ((xI h 104 1) + i)) (n := 700) (by omega) (by omega))⟩
            rw [vref hg.1 (rfl : vRf 104 0 = [105])] at t5
            have g1 : vG ([(105, 0, true)], []) h (xsetI h 105 (((xI h 104 1) + i)).toNatClampNeg ((e >>> (((Int32.ofInt (24)) - ((Int32.ofInt (8)) * (i - i / (Int32.ofInt (4)) * (Int32.ofInt (4))))) &&& 31)) &&& (Int32.ofInt (255)))) := (vG.rf hg).set (by rw [vI_u (c := 105) (q := (0, 255)) (by decide +kernel) (by decide +kernel)]; exact i32_and_r (b := (Int32.ofInt (255))) (by decide)) rfl (by decide +kernel) rfl
            have ei := y_suc1 a1 (by omega)
            have w0 : ∀ k, k ≠ f + j0 → xI (xsetI h 105 (((xI h 104 1) + i)).toNatClampNeg ((e >>> (((Int32.ofInt (24)) - ((Int32.ofInt (8)) * (i - i / (Int32.ofInt (4)) * (Int32.ofInt (4))))) &&& 31)) &&& (Int32.ofInt (255)))) 105 k = xI h 105 k := fun k hk => yI_ne (eq_false (fun z => hk (z.2.trans en)))
            have wv : zfw a b c d e j0 = e := by
              have c16 : ∀ n : Nat, n ≤ 20 → (((Int32.ofInt (0)) : Int32) = (Int32.ofInt (0))) := fun _ _ => rfl
              have z33 : 4 ≤ j0 := by have := Int32.le_iff_toInt_le.mp c1; omega
              have z44 : 8 ≤ j0 := by have := Int32.le_iff_toInt_le.mp c2; omega
              have z55 : 12 ≤ j0 := by have := Int32.le_iff_toInt_le.mp c3; omega
              have z66 : 16 ≤ j0 := by have := Int32.le_iff_toInt_le.mp c4; omega
              unfold zfw
              rw [if_neg (by omega), if_neg (by omega), if_neg (by omega), if_neg (by omega)]
            have w1 : sby (xI (xsetI h 105 (((xI h 104 1) + i)).toNatClampNeg ((e >>> (((Int32.ofInt (24)) - ((Int32.ofInt (8)) * (i - i / (Int32.ofInt (4)) * (Int32.ofInt (4))))) &&& 31)) &&& (Int32.ofInt (255)))) 105 (f + j0)).toInt = zfd a b c d e j0 := by
              rw [← en, yI_same, zf_b]
              unfold zfd zfb
              rw [wv, ← zf_sh j0 (by omega), ← ei0]
            obtain ⟨i', y7, h2, tL, g2, o2, y2⟩ := jk_feedL l a b c d e f m (i + (Int32.ofInt (1))) (xi e) _ (by omega) (by omega) g1.1 (by rw [yI_c (by decide)]; exact hf) hv
            refine ⟨i', y7, h2, t5.tr tL, g1.tr g2, fun k hk => (o2 k (by omega)).trans (w0 k (by omega)), fun j j1 j2 => ?_⟩
            by_cases ej : j = j0
            · rw [ej, o2 (f + j0) (by omega)]; exact w1
            · exact y2 j (by omega) j2
          · have t6 : XT l 0 0 false 178 153 6051 23 [xf 13 104, xi a, xi b, xi c, xi d, xi e, xi i, x7] [] h 23 [xf 13 104, xi a, xi b, xi c, xi d, xi e, xi (i + Int32.ofInt (1)), xi d] [] (xsetI h (xR h 104 0) (((xI h 104 1) + i)).toNatClampNeg ((d >>> (((Int32.ofInt (24)) - ((Int32.ofInt (8)) * (i - i / (Int32.ofInt (4)) * (Int32.ofInt (4))))) &&& 31)) &&& (Int32.ofInt (255)))) := XT_path (l := l) (fr := 0) (lo := 0) (full := false) (M := 178) (n := 153) (u := 6051) (pc := 23) (L := [xf 13 104, xi a, xi b, xi c, xi d, xi e, xi i, x7]) (st := []) (h := h) (inl := []) (n' := 60) (sp := [23]) (o := [0, 1, 1, 1, 0]) rfl rfl ⟨rfl, rfl, rfl⟩ rfl ⟨Nat.le_of_eq hg.2.2.2.1, Nat.le_of_eq hg.2.2.2.2⟩ ⟨⟨⟨⟨⟨⟨⟨⟨trivial, (fun z => absurd (Int32.le_iff_toInt_le.mp z) (by omega))⟩, c1⟩, c2⟩, c3⟩, c4⟩, (vnn hg.1 (rfl : vRf 104 0 = [105]) (by decide))⟩, (by decide)⟩, (vp_of (i := ((xI h 104 1) + i)) (n := 700) (by omega) (by omega))⟩
            rw [vref hg.1 (rfl : vRf 104 0 = [105])] at t6
            have g1 : vG ([(105, 0, true)], []) h (xsetI h 105 (((xI h 104 1) + i)).toNatClampNeg ((d >>> (((Int32.ofInt (24)) - ((Int32.ofInt (8)) * (i - i / (Int32.ofInt (4)) * (Int32.ofInt (4))))) &&& 31)) &&& (Int32.ofInt (255)))) := (vG.rf hg).set (by rw [vI_u (c := 105) (q := (0, 255)) (by decide +kernel) (by decide +kernel)]; exact i32_and_r (b := (Int32.ofInt (255))) (by decide)) rfl (by decide +kernel) rfl
            have ei := y_suc1 a1 (by omega)
            have w0 : ∀ k, k ≠ f + j0 → xI (xsetI h 105 (((xI h 104 1) + i)).toNatClampNeg ((d >>> (((Int32.ofInt (24)) - ((Int32.ofInt (8)) * (i - i / (Int32.ofInt (4)) * (Int32.ofInt (4))))) &&& 31)) &&& (Int32.ofInt (255)))) 105 k = xI h 105 k := fun k hk => yI_ne (eq_false (fun z => hk (z.2.trans en)))
            have wv : zfw a b c d e j0 = d := by
              have c16 : ∀ n : Nat, n ≤ 20 → (((Int32.ofInt (0)) : Int32) = (Int32.ofInt (0))) := fun _ _ => rfl
              have z33 : 4 ≤ j0 := by have := Int32.le_iff_toInt_le.mp c1; omega
              have z44 : 8 ≤ j0 := by have := Int32.le_iff_toInt_le.mp c2; omega
              have z55 : 12 ≤ j0 := by have := Int32.le_iff_toInt_le.mp c3; omega
              have z66 : j0 < 16 := by have := Int.not_le.mp (fun z => c4 (Int32.le_iff_toInt_le.mpr z)); omega
              unfold zfw
              rw [if_neg (by omega), if_neg (by omega), if_neg (by omega), if_pos (by omega)]
            have w1 : sby (xI (xsetI h 105 (((xI h 104 1) + i)).toNatClampNeg ((d >>> (((Int32.ofInt (24)) - ((Int32.ofInt (8)) * (i - i / (Int32.ofInt (4)) * (Int32.ofInt (4))))) &&& 31)) &&& (Int32.ofInt (255)))) 105 (f + j0)).toInt = zfd a b c d e j0 := by
              rw [← en, yI_same, zf_b]
              unfold zfd zfb
              rw [wv, ← zf_sh j0 (by omega), ← ei0]
            obtain ⟨i', y7, h2, tL, g2, o2, y2⟩ := jk_feedL l a b c d e f m (i + (Int32.ofInt (1))) (xi d) _ (by omega) (by omega) g1.1 (by rw [yI_c (by decide)]; exact hf) hv
            refine ⟨i', y7, h2, t6.tr tL, g1.tr g2, fun k hk => (o2 k (by omega)).trans (w0 k (by omega)), fun j j1 j2 => ?_⟩
            by_cases ej : j = j0
            · rw [ej, o2 (f + j0) (by omega)]; exact w1
            · exact y2 j (by omega) j2
        · have t7 : XT l 0 0 false 178 153 6051 23 [xf 13 104, xi a, xi b, xi c, xi d, xi e, xi i, x7] [] h 23 [xf 13 104, xi a, xi b, xi c, xi d, xi e, xi (i + Int32.ofInt (1)), xi c] [] (xsetI h (xR h 104 0) (((xI h 104 1) + i)).toNatClampNeg ((c >>> (((Int32.ofInt (24)) - ((Int32.ofInt (8)) * (i - i / (Int32.ofInt (4)) * (Int32.ofInt (4))))) &&& 31)) &&& (Int32.ofInt (255)))) := XT_path (l := l) (fr := 0) (lo := 0) (full := false) (M := 178) (n := 153) (u := 6051) (pc := 23) (L := [xf 13 104, xi a, xi b, xi c, xi d, xi e, xi i, x7]) (st := []) (h := h) (inl := []) (n' := 60) (sp := [23]) (o := [0, 1, 1, 0]) rfl rfl ⟨rfl, rfl, rfl⟩ rfl ⟨Nat.le_of_eq hg.2.2.2.1, Nat.le_of_eq hg.2.2.2.2⟩ ⟨⟨⟨⟨⟨⟨⟨trivial, (fun z => absurd (Int32.le_iff_toInt_le.mp z) (by omega))⟩, c1⟩, c2⟩, c3⟩, (vnn hg.1 (rfl : vRf 104 0 = [105]) (by decide))⟩, (by decide)⟩, (vp_of (i := ((xI h 104 1) + i)) (n := 700) (by omega) (by omega))⟩
          rw [vref hg.1 (rfl : vRf 104 0 = [105])] at t7
          have g1 : vG ([(105, 0, true)], []) h (xsetI h 105 (((xI h 104 1) + i)).toNatClampNeg ((c >>> (((Int32.ofInt (24)) - ((Int32.ofInt (8)) * (i - i / (Int32.ofInt (4)) * (Int32.ofInt (4))))) &&& 31)) &&& (Int32.ofInt (255)))) := (vG.rf hg).set (by rw [vI_u (c := 105) (q := (0, 255)) (by decide +kernel) (by decide +kernel)]; exact i32_and_r (b := (Int32.ofInt (255))) (by decide)) rfl (by decide +kernel) rfl
          have ei := y_suc1 a1 (by omega)
          have w0 : ∀ k, k ≠ f + j0 → xI (xsetI h 105 (((xI h 104 1) + i)).toNatClampNeg ((c >>> (((Int32.ofInt (24)) - ((Int32.ofInt (8)) * (i - i / (Int32.ofInt (4)) * (Int32.ofInt (4))))) &&& 31)) &&& (Int32.ofInt (255)))) 105 k = xI h 105 k := fun k hk => yI_ne (eq_false (fun z => hk (z.2.trans en)))
          have wv : zfw a b c d e j0 = c := by
            have c16 : ∀ n : Nat, n ≤ 20 → (((Int32.ofInt (0)) : Int32) = (Int32.ofInt (0))) := fun _ _ => rfl
            have z33 : 4 ≤ j0 := by have := Int32.le_iff_toInt_le.mp c1; omega
            have z44 : 8 ≤ j0 := by have := Int32.le_iff_toInt_le.mp c2; omega
            have z55 : j0 < 12 := by have := Int.not_le.mp (fun z => c3 (Int32.le_iff_toInt_le.mpr z)); omega
            unfold zfw
            rw [if_neg (by omega), if_neg (by omega), if_pos (by omega)]
          have w1 : sby (xI (xsetI h 105 (((xI h 104 1) + i)).toNatClampNeg ((c >>> (((Int32.ofInt (24)) - ((Int32.ofInt (8)) * (i - i / (Int32.ofInt (4)) * (Int32.ofInt (4))))) &&& 31)) &&& (Int32.ofInt (255)))) 105 (f + j0)).toInt = zfd a b c d e j0 := by
            rw [← en, yI_same, zf_b]
            unfold zfd zfb
            rw [wv, ← zf_sh j0 (by omega), ← ei0]
          obtain ⟨i', y7, h2, tL, g2, o2, y2⟩ := jk_feedL l a b c d e f m (i + (Int32.ofInt (1))) (xi c) _ (by omega) (by omega) g1.1 (by rw [yI_c (by decide)]; exact hf) hv
          refine ⟨i', y7, h2, t7.tr tL, g1.tr g2, fun k hk => (o2 k (by omega)).trans (w0 k (by omega)), fun j j1 j2 => ?_⟩
          by_cases ej : j = j0
          · rw [ej, o2 (f + j0) (by omega)]; exact w1
          · exact y2 j (by omega) j2
      · have t8 : XT l 0 0 false 178 153 6051 23 [xf 13 104, xi a, xi b, xi c, xi d, xi e, xi i, x7] [] h 23 [xf 13 104, xi a, xi b, xi c, xi d, xi e, xi (i + Int32.ofInt (1)), xi b] [] (xsetI h (xR h 104 0) (((xI h 104 1) + i)).toNatClampNeg ((b >>> (((Int32.ofInt (24)) - ((Int32.ofInt (8)) * (i - i / (Int32.ofInt (4)) * (Int32.ofInt (4))))) &&& 31)) &&& (Int32.ofInt (255)))) := XT_path (l := l) (fr := 0) (lo := 0) (full := false) (M := 178) (n := 153) (u := 6051) (pc := 23) (L := [xf 13 104, xi a, xi b, xi c, xi d, xi e, xi i, x7]) (st := []) (h := h) (inl := []) (n' := 60) (sp := [23]) (o := [0, 1, 0]) rfl rfl ⟨rfl, rfl, rfl⟩ rfl ⟨Nat.le_of_eq hg.2.2.2.1, Nat.le_of_eq hg.2.2.2.2⟩ ⟨⟨⟨⟨⟨⟨trivial, (fun z => absurd (Int32.le_iff_toInt_le.mp z) (by omega))⟩, c1⟩, c2⟩, (vnn hg.1 (rfl : vRf 104 0 = [105]) (by decide))⟩, (by decide)⟩, (vp_of (i := ((xI h 104 1) + i)) (n := 700) (by omega) (by omega))⟩
        rw [vref hg.1 (rfl : vRf 104 0 = [105])] at t8
        have g1 : vG ([(105, 0, true)], []) h (xsetI h 105 (((xI h 104 1) + i)).toNatClampNeg ((b >>> (((Int32.ofInt (24)) - ((Int32.ofInt (8)) * (i - i / (Int32.ofInt (4)) * (Int32.ofInt (4))))) &&& 31)) &&& (Int32.ofInt (255)))) := (vG.rf hg).set (by rw [vI_u (c := 105) (q := (0, 255)) (by decide +kernel) (by decide +kernel)]; exact i32_and_r (b := (Int32.ofInt (255))) (by decide)) rfl (by decide +kernel) rfl
        have ei := y_suc1 a1 (by omega)
        have w0 : ∀ k, k ≠ f + j0 → xI (xsetI h 105 (((xI h 104 1) + i)).toNatClampNeg ((b >>> (((Int32.ofInt (24)) - ((Int32.ofInt (8)) * (i - i / (Int32.ofInt (4)) * (Int32.ofInt (4))))) &&& 31)) &&& (Int32.ofInt (255)))) 105 k = xI h 105 k := fun k hk => yI_ne (eq_false (fun z => hk (z.2.trans en)))
        have wv : zfw a b c d e j0 = b := by
          have c16 : ∀ n : Nat, n ≤ 20 → (((Int32.ofInt (0)) : Int32) = (Int32.ofInt (0))) := fun _ _ => rfl
          have z33 : 4 ≤ j0 := by have := Int32.le_iff_toInt_le.mp c1; omega
          have z44 : j0 < 8 := by have := Int.not_le.mp (fun z => c2 (Int32.le_iff_toInt_le.mpr z)); omega
          unfold zfw
          rw [if_neg (by omega), if_pos (by omega)]
        have w1 : sby (xI (xsetI h 105 (((xI h 104 1) + i)).toNatClampNeg ((b >>> (((Int32.ofInt (24)) - ((Int32.ofInt (8)) * (i - i / (Int32.ofInt (4)) * (Int32.ofInt (4))))) &&& 31)) &&& (Int32.ofInt (255)))) 105 (f + j0)).toInt = zfd a b c d e j0 := by
          rw [← en, yI_same, zf_b]
          unfold zfd zfb
          rw [wv, ← zf_sh j0 (by omega), ← ei0]
        obtain ⟨i', y7, h2, tL, g2, o2, y2⟩ := jk_feedL l a b c d e f m (i + (Int32.ofInt (1))) (xi b) _ (by omega) (by omega) g1.1 (by rw [yI_c (by decide)]; exact hf) hv
        refine ⟨i', y7, h2, t8.tr tL, g1.tr g2, fun k hk => (o2 k (by omega)).trans (w0 k (by omega)), fun j j1 j2 => ?_⟩
        by_cases ej : j = j0
        · rw [ej, o2 (f + j0) (by omega)]; exact w1
        · exact y2 j (by omega) j2
    · have t9 : XT l 0 0 false 178 153 6051 23 [xf 13 104, xi a, xi b, xi c, xi d, xi e, xi i, x7] [] h 23 [xf 13 104, xi a, xi b, xi c, xi d, xi e, xi (i + Int32.ofInt (1)), xi a] [] (xsetI h (xR h 104 0) (((xI h 104 1) + i)).toNatClampNeg ((a >>> (((Int32.ofInt (24)) - ((Int32.ofInt (8)) * (i - i / (Int32.ofInt (4)) * (Int32.ofInt (4))))) &&& 31)) &&& (Int32.ofInt (255)))) := XT_path (l := l) (fr := 0) (lo := 0) (full := false) (M := 178) (n := 153) (u := 6051) (pc := 23) (L := [xf 13 104, xi a, xi b, xi c, xi d, xi e, xi i, x7]) (st := []) (h := h) (inl := []) (n' := 60) (sp := [23]) (o := [0, 0]) rfl rfl ⟨rfl, rfl, rfl⟩ rfl ⟨Nat.le_of_eq hg.2.2.2.1, Nat.le_of_eq hg.2.2.2.2⟩ ⟨⟨⟨⟨⟨trivial, (fun z => absurd (Int32.le_iff_toInt_le.mp z) (by omega))⟩, c1⟩, (vnn hg.1 (rfl : vRf 104 0 = [105]) (by decide))⟩, (by decide)⟩, (vp_of (i := ((xI h 104 1) + i)) (n := 700) (by omega) (by omega))⟩
      rw [vref hg.1 (rfl : vRf 104 0 = [105])] at t9
      have g1 : vG ([(105, 0, true)], []) h (xsetI h 105 (((xI h 104 1) + i)).toNatClampNeg ((a >>> (((Int32.ofInt (24)) - ((Int32.ofInt (8)) * (i - i / (Int32.ofInt (4)) * (Int32.ofInt (4))))) &&& 31)) &&& (Int32.ofInt (255)))) := (vG.rf hg).set (by rw [vI_u (c := 105) (q := (0, 255)) (by decide +kernel) (by decide +kernel)]; exact i32_and_r (b := (Int32.ofInt (255))) (by decide)) rfl (by decide +kernel) rfl
      have ei := y_suc1 a1 (by omega)
      have w0 : ∀ k, k ≠ f + j0 → xI (xsetI h 105 (((xI h 104 1) + i)).toNatClampNeg ((a >>> (((Int32.ofInt (24)) - ((Int32.ofInt (8)) * (i - i / (Int32.ofInt (4)) * (Int32.ofInt (4))))) &&& 31)) &&& (Int32.ofInt (255)))) 105 k = xI h 105 k := fun k hk => yI_ne (eq_false (fun z => hk (z.2.trans en)))
      have wv : zfw a b c d e j0 = a := by
        have c16 : ∀ n : Nat, n ≤ 20 → (((Int32.ofInt (0)) : Int32) = (Int32.ofInt (0))) := fun _ _ => rfl
        have z33 : j0 < 4 := by have := Int.not_le.mp (fun z => c1 (Int32.le_iff_toInt_le.mpr z)); omega
        unfold zfw
        rw [if_pos (by omega)]
      have w1 : sby (xI (xsetI h 105 (((xI h 104 1) + i)).toNatClampNeg ((a >>> (((Int32.ofInt (24)) - ((Int32.ofInt (8)) * (i - i / (Int32.ofInt (4)) * (Int32.ofInt (4))))) &&& 31)) &&& (Int32.ofInt (255)))) 105 (f + j0)).toInt = zfd a b c d e j0 := by
        rw [← en, yI_same, zf_b]
        unfold zfd zfb
        rw [wv, ← zf_sh j0 (by omega), ← ei0]
      obtain ⟨i', y7, h2, tL, g2, o2, y2⟩ := jk_feedL l a b c d e f m (i + (Int32.ofInt (1))) (xi a) _ (by omega) (by omega) g1.1 (by rw [yI_c (by decide)]; exact hf) hv
      refine ⟨i', y7, h2, t9.tr tL, g1.tr g2, fun k hk => (o2 k (by omega)).trans (w0 k (by omega)), fun j j1 j2 => ?_⟩
      by_cases ej : j = j0
      · rw [ej, o2 (f + j0) (by omega)]; exact w1
      · exact y2 j (by omega) j2
set_option maxRecDepth 100000 in
set_option maxHeartbeats 2000000 in
theorem jk_feed (l : Launch) (a b c d e : Int32) (f : Nat) (h : XH) (hg : sgood vT vR vE 153 6051 h) (hf : (xI h 104 1).toInt = f) : ∃ v h', CX l 0 0 false 178 [xf 13 104, xi a, xi b, xi c, xi d, xi e] h [xi v] h' ∧ vG ([(104, 1, false), (104, 2, false), (105, 0, true)], []) h h' ∧ ((680 < f ∧ v = (Int32.ofInt (-1)) ∧ (xI h' 104 1).toInt = f ∧ (∀ k, xI h' 105 k = xI h 105 k)) ∨ (f ≤ 680 ∧ (xI h' 104 1).toInt = (f + 20 : Nat) ∧ v = xI h' 104 1 ∧ (∀ k, k < f → xI h' 105 k = xI h 105 k) ∧ ∀ j, j < 20 → sby (xI h' 105 (f + j)).toInt = zfd a b c d e j)) := by
  have b1 : 0 ≤ (xI h 104 1).toInt ∧ (xI h 104 1).toInt ≤ 700 := vbnd hg.1 104 1
  have e7 : (Int32.ofInt (700)).toInt = 700 := rfl
  have es : (xI h 104 1 + (Int32.ofInt (20))).toInt = (xI h 104 1).toInt + 20 := by
    rw [Int32.toInt_add, show (Int32.ofInt (20)).toInt = 20 from rfl]
    exact Int.bmod_eq_of_le (by omega) (by omega)
  have g0 : vG ([(104, 1, false), (104, 2, false), (105, 0, true)], []) h (xsetI h 104 2 (Int32.ofInt (0))) := (vG.rf hg).set (show (0 : Int) ≤ _ ∧ _ ≤ 2 from by decide) (by decide +kernel) (by decide +kernel) rfl
  by_cases c1 : ((xI h 104 1) + (Int32.ofInt (20))) ≤ (Int32.ofInt (700))
  · have d1 : f ≤ 680 := by have := Int32.le_iff_toInt_le.mp c1; omega
    have t2 : XT l 0 0 false 178 153 6051 0 [xf 13 104, xi a, xi b, xi c, xi d, xi e, xun, xun] [] h 23 [xf 13 104, xi a, xi b, xi c, xi d, xi e, xi (Int32.ofInt (0)), xun] [] (xsetI h 104 2 (Int32.ofInt (0))) := XT_path (l := l) (fr := 0) (lo := 0) (full := false) (M := 178) (n := 153) (u := 6051) (pc := 0) (L := [xf 13 104, xi a, xi b, xi c, xi d, xi e, xun, xun]) (st := []) (h := h) (inl := []) (n' := 80) (sp := [23]) (o := [1]) rfl rfl ⟨rfl, rfl, rfl⟩ rfl ⟨Nat.le_of_eq hg.2.2.2.1, Nat.le_of_eq hg.2.2.2.2⟩ ⟨trivial, c1⟩
    obtain ⟨i', y7, h2, tL, g2, o2, y2⟩ := jk_feedL l a b c d e f 20 (Int32.ofInt (0)) xun _ (by decide) rfl g0.1 (by rw [yI_ne (by decide)]; exact hf) d1
    have t3 := t2.tr tL
    have w1 : xI h2 104 1 = xI h 104 1 := (g2.2.1 104 1 rfl).trans (yI_ne (by decide))
    have t4 : XT l 0 0 false 178 153 6051 113 [xf 13 104, xi a, xi b, xi c, xi d, xi e, xi i', y7] [] h2 128 [xf 13 104, xi a, xi b, xi c, xi d, xi e, xi i', y7] [xi ((xI h2 104 1) + (Int32.ofInt (20)))] (xsetI h2 104 1 ((xI h2 104 1) + (Int32.ofInt (20)))) := XT_path (l := l) (fr := 0) (lo := 0) (full := false) (M := 178) (n := 153) (u := 6051) (pc := 113) (L := [xf 13 104, xi a, xi b, xi c, xi d, xi e, xi i', y7]) (st := []) (h := h2) (inl := []) (n' := 80) (sp := [128]) (o := []) rfl rfl ⟨rfl, rfl, rfl⟩ rfl ⟨Nat.le_of_eq g2.1.2.2.2.1, Nat.le_of_eq g2.1.2.2.2.2⟩ trivial
    have t5 := t3.tr t4
    have es2 : (xI h2 104 1 + (Int32.ofInt (20))).toInt = (f + 20 : Nat) := by rw [w1, es]; omega
    have g3 : vG ([(104, 1, false), (104, 2, false), (105, 0, true)], []) h (xsetI h2 104 1 (xI h2 104 1 + (Int32.ofInt (20)))) := (g0.tr ⟨g2.1, g2.2.mono rfl rfl⟩).set (show (0 : Int) ≤ _ ∧ _ ≤ 700 from ⟨by omega, by omega⟩) (by decide +kernel) (by decide +kernel) rfl
    have z0 : (Int32.ofInt (0)).toInt = 0 := rfl
    refine ⟨_, _, CX_ofT (h' := (xsetI h2 104 1 ((xI h2 104 1) + (Int32.ofInt (20))))) (by decide) rfl rfl trivial ⟨_, _, _, rfl, rfl, rfl⟩ rfl ⟨Nat.le_of_eq g2.1.2.2.2.1.symm, Nat.le_of_eq g2.1.2.2.2.2.symm⟩ t5, g3, Or.inr ⟨d1, ?_, ?_, fun k hk => (yI_c (by decide)).trans ((o2 k (by omega)).trans (yI_c (by decide))), fun j hj => ?_⟩⟩
    · rw [yI_same]; exact es2
    · rw [yI_same]
    · rw [yI_c (by decide)]; exact y2 j (by omega) hj
  · have d1 : 680 < f := by have := Int.not_le.mp (fun z => c1 (Int32.le_iff_toInt_le.mpr z)); omega
    have t6 : XT l 0 0 false 178 153 6051 0 [xf 13 104, xi a, xi b, xi c, xi d, xi e, xun, xun] [] h 19 [xf 13 104, xi a, xi b, xi c, xi d, xi e, xun, xun] [xi (Int32.ofInt (-1))] (xsetI h 104 2 (Int32.ofInt (0))) := XT_path (l := l) (fr := 0) (lo := 0) (full := false) (M := 178) (n := 153) (u := 6051) (pc := 0) (L := [xf 13 104, xi a, xi b, xi c, xi d, xi e, xun, xun]) (st := []) (h := h) (inl := []) (n' := 80) (sp := [19]) (o := [0]) rfl rfl ⟨rfl, rfl, rfl⟩ rfl ⟨Nat.le_of_eq hg.2.2.2.1, Nat.le_of_eq hg.2.2.2.2⟩ ⟨trivial, c1⟩
    exact ⟨_, _, CX_ofT (h' := (xsetI h 104 2 (Int32.ofInt (0)))) (by decide) rfl rfl trivial ⟨_, _, _, rfl, rfl, rfl⟩ rfl ⟨Nat.le_of_eq hg.2.2.2.1.symm, Nat.le_of_eq hg.2.2.2.2.symm⟩ t6, g0, Or.inl ⟨d1, rfl, by rw [yI_ne (by decide)]; exact hf, fun k => yI_c (by decide)⟩⟩
