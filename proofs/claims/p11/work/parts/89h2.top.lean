set_option maxRecDepth 100000 in
set_option maxHeartbeats 4000000 in
theorem ck_top (l : Launch) (Z : Nat → Int) (h : XH) (hg : sgood vT vR vE 153 6051 h) (ks : kS Z h) : ∃ r, CX l 1 20 false 57 [xf 7 45] h [xi r] h ∧ r.toInt = ztl Z := by
  have e_0 : (0 : Int32).toInt = 0 := rfl
  have k12 := ks.1
  have b12 : 0 ≤ (xI h 45 12).toInt ∧ (xI h 45 12).toInt ≤ 72 := vbnd hg.1 45 12
  by_cases c1 : (xI h 45 12) ≤ 0
  · have e_0 : (0 : Int32).toInt = 0 := rfl
    have dc1 : (xI h 45 12).toInt ≤ (0 : Int32).toInt := Int32.le_iff_toInt_le.mp c1
    have t2 : XT l 1 20 false 57 153 6051 0 [xf 7 45] [] h 25 [xf 7 45] [xi (Int32.ofInt (0))] h := XT_path (l := l) (fr := 1) (lo := 20) (full := false) (M := 57) (n := 153) (u := 6051) (pc := 0) (L := [xf 7 45]) (st := []) (h := h) (inl := []) (n' := 80) (sp := [25]) (o := [1]) rfl rfl ⟨rfl, rfl, rfl⟩ rfl ⟨Nat.le_of_eq hg.2.2.2.1, Nat.le_of_eq hg.2.2.2.2⟩ ⟨trivial, c1⟩
    exact ⟨_, CX_ofT (h' := h) (by decide) rfl rfl trivial ⟨_, _, _, rfl, rfl, rfl⟩ rfl ⟨Nat.le_of_eq hg.2.2.2.1.symm, Nat.le_of_eq hg.2.2.2.2.symm⟩ t2, (if_neg (by omega)).symm⟩
  · have e_0 : (0 : Int32).toInt = 0 := rfl
    have dc1 : (0 : Int32).toInt < (xI h 45 12).toInt := Int32.lt_iff_toInt_lt.mp (Int32.not_le.mp c1)
    have yp := y_pred (k := xI h 45 12) (by omega) (by omega)
    have t3 : XT l 1 20 false 57 153 6051 0 [xf 7 45] [] h 18 [xf 7 45] [xi (xI h (xR h 45 11) (((xI h 45 12) - (Int32.ofInt (1)))).toNatClampNeg)] h := XT_path (l := l) (fr := 1) (lo := 20) (full := false) (M := 57) (n := 153) (u := 6051) (pc := 0) (L := [xf 7 45]) (st := []) (h := h) (inl := []) (n' := 80) (sp := [18]) (o := [0]) rfl rfl ⟨rfl, rfl, rfl⟩ rfl ⟨Nat.le_of_eq hg.2.2.2.1, Nat.le_of_eq hg.2.2.2.2⟩ ⟨⟨⟨trivial, c1⟩, (vnn hg.1 (rfl : vRf 45 11 = [47]) (by decide))⟩, (vp_of (i := ((xI h 45 12) - (Int32.ofInt (1)))) (n := 72) (by omega) (by omega))⟩
    rw [vref hg.1 (rfl : vRf 45 11 = [47])] at t3
    obtain ⟨r1, c1, e1⟩ := ck_lev l (xI h 47 (((xI h 45 12) - (Int32.ofInt (1)))).toNatClampNeg) h hg
    have t4 : XT l 1 20 false 57 153 6051 18 [xf 7 45] [xi (xI h 47 (((xI h 45 12) - (Int32.ofInt (1)))).toNatClampNeg)] h 21 [xf 7 45] [xi r1] h := XT_call (l := l) (fr := 1) (lo := 20) (full := false) (M := 57) (n := 153) (u := 6051) (pc := 18) (L := [xf 7 45]) (st := [xi (xI h 47 (((xI h 45 12) - (Int32.ofInt (1)))).toNatClampNeg)]) (h := h) (i := .invokestatic 58) (aux := 1) (nx := 21) (K := 58) (vs := [xi (xI h 47 (((xI h 45 12) - (Int32.ofInt (1)))).toNatClampNeg)]) (rs := [xi r1]) (rest := []) rfl rfl rfl rfl rfl rfl c1 (by decide) (by decide) (Nat.le_of_ble_eq_true rfl) ⟨Nat.le_of_eq hg.2.2.2.1, Nat.le_of_eq hg.2.2.2.2⟩
    have t5 := t3.tr t4
    have t6 : XT l 1 20 false 57 153 6051 21 [xf 7 45] [xi r1] h 25 [xf 7 45] [xi r1] h := XT_path (l := l) (fr := 1) (lo := 20) (full := false) (M := 57) (n := 153) (u := 6051) (pc := 21) (L := [xf 7 45]) (st := [xi r1]) (h := h) (inl := []) (n' := 80) (sp := [25]) (o := []) rfl rfl ⟨rfl, rfl, rfl⟩ rfl ⟨Nat.le_of_eq hg.2.2.2.1, Nat.le_of_eq hg.2.2.2.2⟩ trivial
    have t7 := t5.tr t6
    have nk : ((xI h 45 12) - (Int32.ofInt (1))).toNatClampNeg = (Z 11).toNat - 1 := by
      show ((xI h 45 12) - (Int32.ofInt (1))).toInt.toNat = _
      omega
    have eT : (xI h 47 ((xI h 45 12) - (Int32.ofInt (1))).toNatClampNeg).toInt = ztop Z := by rw [nk]; exact ks.2.2 _ (by omega)
    exact ⟨_, CX_ofT (h' := h) (by decide) rfl rfl trivial ⟨_, _, _, rfl, rfl, rfl⟩ rfl ⟨Nat.le_of_eq hg.2.2.2.1.symm, Nat.le_of_eq hg.2.2.2.2.symm⟩ t7, by rw [e1, eT]; exact (ztl_top (by omega)).symm⟩
set_option maxRecDepth 100000 in
set_option maxHeartbeats 4000000 in
theorem ck_may (l : Launch) (Z : Nat → Int) (h : XH) (hg : sgood vT vR vE 153 6051 h) (ks : kS Z h) : ∃ r, CX l 2 40 false 56 [xf 7 45] h [xi r] h ∧ ((r = (Int32.ofInt (1)) ∧ ztl Z ≤ 3) ∨ (r = (Int32.ofInt (0)) ∧ ¬ ztl Z ≤ 3)) := by
  have t1 : XT l 2 40 false 56 153 6051 0 [xf 7 45] [] h 1 [xf 7 45] [xf 7 45] h := XT_path (l := l) (fr := 2) (lo := 40) (full := false) (M := 56) (n := 153) (u := 6051) (pc := 0) (L := [xf 7 45]) (st := []) (h := h) (inl := []) (n' := 80) (sp := [1]) (o := []) rfl rfl ⟨rfl, rfl, rfl⟩ rfl ⟨Nat.le_of_eq hg.2.2.2.1, Nat.le_of_eq hg.2.2.2.2⟩ trivial
  obtain ⟨r1, c1, e1⟩ := ck_top l Z h hg ks
  have t2 : XT l 2 40 false 56 153 6051 1 [xf 7 45] [xf 7 45] h 4 [xf 7 45] [xi r1] h := XT_call (l := l) (fr := 2) (lo := 40) (full := false) (M := 56) (n := 153) (u := 6051) (pc := 1) (L := [xf 7 45]) (st := [xf 7 45]) (h := h) (i := .invokevirtual 57) (aux := 1) (nx := 4) (K := 57) (vs := [xf 7 45]) (rs := [xi r1]) (rest := []) rfl rfl rfl rfl rfl rfl c1 (by decide) (by decide) (Nat.le_of_ble_eq_true rfl) ⟨Nat.le_of_eq hg.2.2.2.1, Nat.le_of_eq hg.2.2.2.2⟩
  have t3 := t1.tr t2
  have t4 : XT l 2 40 false 56 153 6051 4 [xf 7 45] [xi r1] h 6 [xf 7 45] [xi (Int32.ofInt (32)), xi r1] h := XT_path (l := l) (fr := 2) (lo := 40) (full := false) (M := 56) (n := 153) (u := 6051) (pc := 4) (L := [xf 7 45]) (st := [xi r1]) (h := h) (inl := []) (n' := 80) (sp := [6]) (o := []) rfl rfl ⟨rfl, rfl, rfl⟩ rfl ⟨Nat.le_of_eq hg.2.2.2.1, Nat.le_of_eq hg.2.2.2.2⟩ trivial
  have t5 := t3.tr t4
  obtain ⟨r2, c2, e2⟩ := ck_lev l (Int32.ofInt (32)) h hg
  have e3 : r2.toInt = 3 := e2.trans rfl
  have t6 : XT l 2 40 false 56 153 6051 6 [xf 7 45] [xi (Int32.ofInt (32)), xi r1] h 9 [xf 7 45] [xi r2, xi r1] h := XT_call (l := l) (fr := 2) (lo := 40) (full := false) (M := 56) (n := 153) (u := 6051) (pc := 6) (L := [xf 7 45]) (st := [xi (Int32.ofInt (32)), xi r1]) (h := h) (i := .invokestatic 58) (aux := 1) (nx := 9) (K := 58) (vs := [xi (Int32.ofInt (32))]) (rs := [xi r2]) (rest := [xi r1]) rfl rfl rfl rfl rfl rfl c2 (by decide) (by decide) (Nat.le_of_ble_eq_true rfl) ⟨Nat.le_of_eq hg.2.2.2.1, Nat.le_of_eq hg.2.2.2.2⟩
  have t7 := t5.tr t6
  by_cases c8 : r2 < r1
  · have dc8 : (r2).toInt < (r1).toInt := Int32.lt_iff_toInt_lt.mp c8
    have t9 : XT l 2 40 false 56 153 6051 9 [xf 7 45] [xi r2, xi r1] h 17 [xf 7 45] [xi (Int32.ofInt (0))] h := XT_path (l := l) (fr := 2) (lo := 40) (full := false) (M := 56) (n := 153) (u := 6051) (pc := 9) (L := [xf 7 45]) (st := [xi r2, xi r1]) (h := h) (inl := []) (n' := 80) (sp := [17]) (o := [1]) rfl rfl ⟨rfl, rfl, rfl⟩ rfl ⟨Nat.le_of_eq hg.2.2.2.1, Nat.le_of_eq hg.2.2.2.2⟩ ⟨trivial, c8⟩
    have t10 := t7.tr t9
    exact ⟨_, CX_ofT (h' := h) (by decide) rfl rfl ⟨trivial, (Or.inl rfl)⟩ ⟨_, _, _, rfl, rfl, rfl⟩ rfl ⟨Nat.le_of_eq hg.2.2.2.1.symm, Nat.le_of_eq hg.2.2.2.2.symm⟩ t10, Or.inr ⟨rfl, by omega⟩⟩
  · have dc8 : (r1).toInt ≤ (r2).toInt := Int32.le_iff_toInt_le.mp (Int32.not_lt.mp c8)
    have t11 : XT l 2 40 false 56 153 6051 9 [xf 7 45] [xi r2, xi r1] h 17 [xf 7 45] [xi (Int32.ofInt (1))] h := XT_path (l := l) (fr := 2) (lo := 40) (full := false) (M := 56) (n := 153) (u := 6051) (pc := 9) (L := [xf 7 45]) (st := [xi r2, xi r1]) (h := h) (inl := []) (n' := 80) (sp := [17]) (o := [0]) rfl rfl ⟨rfl, rfl, rfl⟩ rfl ⟨Nat.le_of_eq hg.2.2.2.1, Nat.le_of_eq hg.2.2.2.2⟩ ⟨trivial, c8⟩
    have t12 := t7.tr t11
    exact ⟨_, CX_ofT (h' := h) (by decide) rfl rfl ⟨trivial, (Or.inr rfl)⟩ ⟨_, _, _, rfl, rfl, rfl⟩ rfl ⟨Nat.le_of_eq hg.2.2.2.1.symm, Nat.le_of_eq hg.2.2.2.2.symm⟩ t12, Or.inl ⟨rfl, by omega⟩⟩
