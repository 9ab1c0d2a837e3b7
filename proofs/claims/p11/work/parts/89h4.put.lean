set_option maxRecDepth 100000 in
set_option maxHeartbeats 4000000 in
theorem ck_putL3 (l : Launch) (f : Int) (lv : Int32) (h0 : 0 ≤ lv.toInt) : ∀ (m : Nat) (Z : Nat → Int) (k : Int32) (h : XH), sgood vT vR vE 153 6051 h → xR h 45 4 = 3 → kO 18 19 20 Z h → kS Z h → zInv f Z → Z 13 = 0 → Z 11 = m → k.toInt = m - 1 → ∃ k' h', XT l 1 22 false 62 153 6051 7 [xf 7 45, xi lv, xi k] [] h 52 [xf 7 45, xi lv, xi k'] [] h' ∧ vG ([(18, 5, false), (19, 0, true), (20, 0, true), (45, 12, false)], []) h h' ∧ kO 18 19 20 (zbind lv.toInt m Z) h' ∧ kS (zbind lv.toInt m Z) h'
  | 0, Z, k, h, hg, r4, ko, ks, I, h13, hm, hk => by
    have e_0 : (0 : Int32).toInt = 0 := rfl
    have e_64 : (Int32.ofInt (64)).toInt = 64 := rfl
    have t1 : XT l 1 22 false 62 153 6051 7 [xf 7 45, xi lv, xi k] [] h 52 [xf 7 45, xi lv, xi k] [] h := XT_path (l := l) (fr := 1) (lo := 22) (full := false) (M := 62) (n := 153) (u := 6051) (pc := 7) (L := [xf 7 45, xi lv, xi k]) (st := []) (h := h) (inl := []) (n' := 120) (sp := [52]) (o := [1]) rfl rfl ⟨rfl, rfl, rfl⟩ rfl ⟨Nat.le_of_eq hg.2.2.2.1, Nat.le_of_eq hg.2.2.2.2⟩ ⟨trivial, (Int32.lt_iff_toInt_lt.mpr (by omega))⟩
    exact ⟨k, h, t1, vG.rf hg, ko, ks⟩
  | m + 1, Z, k, h, hg, r4, ko, ks, I, h13, hm, hk => by
    have e_0 : (0 : Int32).toInt = 0 := rfl
    have e_64 : (Int32.ofInt (64)).toInt = 64 := rfl
    have ks1 := ks.1
    have ko1 := ko.1
    have B := I.b
    have nk : (k).toNatClampNeg = (Z 11).toNat - 1 := by
      show k.toInt.toNat = _
      omega
    have eT : (xI h 47 (k).toNatClampNeg).toInt = ztop Z := by rw [nk]; exact ks.2.2 _ (by omega)
    have et := ztl_top (Z := Z) (by omega)
    have t1 : XT l 1 22 false 62 153 6051 7 [xf 7 45, xi lv, xi k] [] h 17 [xf 7 45, xi lv, xi k] [xi (xI h (xR h 45 11) (k).toNatClampNeg)] h := XT_path (l := l) (fr := 1) (lo := 22) (full := false) (M := 62) (n := 153) (u := 6051) (pc := 7) (L := [xf 7 45, xi lv, xi k]) (st := []) (h := h) (inl := []) (n' := 120) (sp := [17]) (o := [0]) rfl rfl ⟨rfl, rfl, rfl⟩ rfl ⟨Nat.le_of_eq hg.2.2.2.1, Nat.le_of_eq hg.2.2.2.2⟩ ⟨⟨⟨trivial, (fun z => absurd (Int32.lt_iff_toInt_lt.mp z) (by omega))⟩, (vnn hg.1 (rfl : vRf 45 11 = [47]) (by decide))⟩, (vp_of (i := k) (n := 72) (by omega) (by omega))⟩
    rw [vref hg.1 (rfl : vRf 45 11 = [47])] at t1
    obtain ⟨r1, c1, e1⟩ := ck_lev l (xI h 47 (k).toNatClampNeg) h hg
    rw [eT] at e1
    have t2 : XT l 1 22 false 62 153 6051 17 [xf 7 45, xi lv, xi k] [xi (xI h 47 (k).toNatClampNeg)] h 20 [xf 7 45, xi lv, xi k] [xi r1] h := XT_call (l := l) (fr := 1) (lo := 22) (full := false) (M := 62) (n := 153) (u := 6051) (pc := 17) (L := [xf 7 45, xi lv, xi k]) (st := [xi (xI h 47 (k).toNatClampNeg)]) (h := h) (i := .invokestatic 58) (aux := 1) (nx := 20) (K := 58) (vs := [xi (xI h 47 (k).toNatClampNeg)]) (rs := [xi r1]) (rest := []) rfl rfl rfl rfl rfl rfl c1 (by decide) (by decide) (Nat.le_of_ble_eq_true rfl) ⟨Nat.le_of_eq hg.2.2.2.1, Nat.le_of_eq hg.2.2.2.2⟩
    have t3 := t1.tr t2
    by_cases c4 : r1 ≤ lv
    · have dc4 : (r1).toInt ≤ (lv).toInt := Int32.le_iff_toInt_le.mp c4
      have t5 : XT l 1 22 false 62 153 6051 20 [xf 7 45, xi lv, xi k] [xi r1] h 52 [xf 7 45, xi lv, xi k] [] h := XT_path (l := l) (fr := 1) (lo := 22) (full := false) (M := 62) (n := 153) (u := 6051) (pc := 20) (L := [xf 7 45, xi lv, xi k]) (st := [xi r1]) (h := h) (inl := []) (n' := 120) (sp := [52]) (o := [1]) rfl rfl ⟨rfl, rfl, rfl⟩ rfl ⟨Nat.le_of_eq hg.2.2.2.1, Nat.le_of_eq hg.2.2.2.2⟩ ⟨trivial, c4⟩
      have t6 := t3.tr t5
      have eq : zbind lv.toInt (m + 1) Z = Z := if_neg (by omega)
      rw [eq]
      exact ⟨k, h, t6, vG.rf hg, ko, ks⟩
    · have dc4 : (lv).toInt < (r1).toInt := Int32.lt_iff_toInt_lt.mp (Int32.not_le.mp c4)
      have ht : ztop Z ≠ 5 := fun z => by
        have l5 : lev 5 = 0 := by decide
        rw [z, l5] at e1
        omega
      have C := zb1_i I h13 (by omega) ht
      have t7 : XT l 1 22 false 62 153 6051 20 [xf 7 45, xi lv, xi k] [xi r1] h 38 [xf 7 45, xi lv, xi k] [xi (Int32.ofInt (0)), xi (xI h (xR h 45 11) (k).toNatClampNeg), xf 4 (xR h (xR h 45 4) 19)] h := XT_path (l := l) (fr := 1) (lo := 22) (full := false) (M := 62) (n := 153) (u := 6051) (pc := 20) (L := [xf 7 45, xi lv, xi k]) (st := [xi r1]) (h := h) (inl := []) (n' := 120) (sp := [38]) (o := [0]) rfl rfl ⟨rfl, rfl, rfl⟩ rfl ⟨Nat.le_of_eq hg.2.2.2.1, Nat.le_of_eq hg.2.2.2.2⟩ ⟨⟨⟨⟨⟨trivial, c4⟩, (show ¬ xR h 45 4 = 0 from by rw [r4]; decide)⟩, (show ¬ xR h (xR h 45 4) 19 = 0 from by rw [r4]; exact vnn hg.1 (rfl : vRf 3 19 = [18]) (by decide))⟩, (vnn hg.1 (rfl : vRf 45 11 = [47]) (by decide))⟩, (vp_of (i := k) (n := 72) (by omega) (by omega))⟩
      rw [vref hg.1 (rfl : vRf 45 11 = [47]), r4, vref hg.1 (rfl : vRf 3 19 = [18])] at t7
      have t8 := t3.tr t7
      have hsg : zsn (ztop Z) := I.2.2.1 ((Z 11).toNat - 1) (by omega)
      have hs39 : 0 ≤ ztop Z ∧ ztop Z ≤ 39 := by
        unfold zsn at hsg
        omega
      obtain ⟨h1, c2, g1, a5, ao, av, ar⟩ := ck_add3 l (xI h 47 (k).toNatClampNeg) (Int32.ofInt (0)) h hg (by omega) (by omega)
      rw [show (xI h 18 5).toInt.toNat = (Z 10).toNat from by rw [ko1]] at ao av ar
      have t9 : XT l 1 22 false 62 153 6051 38 [xf 7 45, xi lv, xi k] [xi (Int32.ofInt (0)), xi (xI h 47 (k).toNatClampNeg), xf 4 18] h 41 [xf 7 45, xi lv, xi k] [] h1 := XT_call (l := l) (fr := 1) (lo := 22) (full := false) (M := 62) (n := 153) (u := 6051) (pc := 38) (L := [xf 7 45, xi lv, xi k]) (st := [xi (Int32.ofInt (0)), xi (xI h 47 (k).toNatClampNeg), xf 4 18]) (h := h) (i := .invokevirtual 60) (aux := 3) (nx := 41) (K := 60) (vs := [xf 4 18, xi (xI h 47 (k).toNatClampNeg), xi (Int32.ofInt (0))]) (rs := []) (rest := []) rfl rfl rfl rfl rfl rfl c2 (by decide) (by decide) (Nat.le_of_ble_eq_true rfl) ⟨Nat.le_of_eq g1.1.2.2.2.1, Nat.le_of_eq g1.1.2.2.2.2⟩
      have t10 := t8.tr t9
      have t11 : XT l 1 22 false 62 153 6051 41 [xf 7 45, xi lv, xi k] [] h1 7 [xf 7 45, xi lv, xi (k + Int32.ofInt (-1))] [] (xsetI h1 45 12 k) := XT_path (l := l) (fr := 1) (lo := 22) (full := false) (M := 62) (n := 153) (u := 6051) (pc := 41) (L := [xf 7 45, xi lv, xi k]) (st := []) (h := h1) (inl := []) (n' := 120) (sp := [7]) (o := []) rfl rfl ⟨rfl, rfl, rfl⟩ rfl ⟨Nat.le_of_eq g1.1.2.2.2.1, Nat.le_of_eq g1.1.2.2.2.2⟩ trivial
      have t12 := t10.tr t11
      have eq : zbind lv.toInt (m + 1) Z = zbind lv.toInt m (zb1 Z) := if_pos (by omega)
      have g0 : vG ([(18, 5, false), (19, 0, true), (20, 0, true), (45, 12, false)], []) h h1 := ⟨g1.1, g1.2.mono rfl rfl⟩
      have G1 : vG ([(18, 5, false), (19, 0, true), (20, 0, true), (45, 12, false)], []) h (xsetI h1 45 12 k) := (g0 : vG ([(18, 5, false), (19, 0, true), (20, 0, true), (45, 12, false)], []) h h1).set (c := 45) (k := 12) (v := k) (show (0 : Int) ≤ _ ∧ _ ≤ 72 from ⟨by omega, by omega⟩) (by decide +kernel) (by decide +kernel) rfl
      have o1 : ∀ c k, swin ([(18, 5, false), (19, 0, true), (20, 0, true)], []).1 c k = false → xI h1 c k = xI h c k := g1.2.1
      have kO' : kO 18 19 20 (zb1 Z) (xsetI h1 45 12 k) := by
        refine ko.add (Y := zb1 Z) (by omega) ?_ ?_ ?_ ?_ (fun k hk => ?_) (fun k hk => ?_) zb1_10 (fun k hk => ⟨zb1_k (by omega) (by omega) (by omega) (by omega) (by omega) (by omega) (by omega), zb1_k (by omega) (by omega) (by omega) (by omega) (by omega) (by omega) (by omega)⟩)
        · rw [yI_c (by decide)]; omega
        · rw [yI_c (by decide), o1 18 6 rfl, zb1_o (by omega) (by omega)]; exact ko.2.1
        · rw [yI_c (by decide), ao, (zb1_3 (Z := Z) (by omega)).1]; exact eT
        · rw [yI_c (by decide), av, (zb1_3 (Z := Z) (by omega)).2.1]; rfl
        · rw [yI_c (by decide)]; exact (ar k hk).1
        · rw [yI_c (by decide)]; exact (ar k hk).2
      have kS' : kS (zb1 Z) (xsetI h1 45 12 k) := by
        refine ⟨?_, ?_, fun j hj => ?_⟩
        · rw [yI_same, zb1_11]; omega
        · rw [yI_ne (by decide), o1 45 13 rfl, zb1_o (by omega) (by omega)]; exact ks.2.1
        · rw [zb1_11] at hj
          rw [yI_c (by decide), o1 47 j rfl, zb1_o (by omega) (by omega)]; exact ks.2.2 j (by omega)
      obtain ⟨kn, hkn⟩ : ∃ z, z = (k + Int32.ofInt (-1)) := ⟨_, rfl⟩
      have ek : kn.toInt = k.toInt - 1 := by rw [hkn]; exact y_dec (by omega) (by omega)
      rw [← hkn] at t12
      clear hkn
      obtain ⟨k', h2, tL, g2, ko2, ks2⟩ := ck_putL3 l f lv h0 m (zb1 Z) kn (xsetI h1 45 12 k) G1.1 ((G1.2.2 45 4 rfl).trans r4) kO' kS' (zInv_b1 I h13 (by omega) ht) (by rw [zb1_o (by omega) (by omega)]; exact h13) (by rw [zb1_11]; omega) (by omega)
      rw [eq]
      exact ⟨k', h2, t12.tr tL, G1.tr g2, ko2, ks2⟩
set_option maxRecDepth 100000 in
set_option maxHeartbeats 4000000 in
theorem ck_put3 (l : Launch) (f : Int) (lv : Int32) (h0 : 0 ≤ lv.toInt) (Z : Nat → Int) (h : XH) (hg : sgood vT vR vE 153 6051 h) (r4 : xR h 45 4 = 3) (ko : kO 18 19 20 Z h) (ks : kS Z h) (I : zInv f Z) (h13 : Z 13 = 0) : ∃ h', CX l 1 22 false 62 [xf 7 45, xi lv] h [] h' ∧ vG ([(18, 5, false), (19, 0, true), (20, 0, true), (45, 12, false)], []) h h' ∧ kO 18 19 20 (zput lv.toInt Z) h' ∧ kS (zput lv.toInt Z) h' := by
  have B := I.b
  have ks1 := ks.1
  have t1 : XT l 1 22 false 62 153 6051 0 [xf 7 45, xi lv, xun] [] h 7 [xf 7 45, xi lv, xi ((xI h 45 12) - (Int32.ofInt (1)))] [] h := XT_path (l := l) (fr := 1) (lo := 22) (full := false) (M := 62) (n := 153) (u := 6051) (pc := 0) (L := [xf 7 45, xi lv, xun]) (st := []) (h := h) (inl := []) (n' := 80) (sp := [7]) (o := []) rfl rfl ⟨rfl, rfl, rfl⟩ rfl ⟨Nat.le_of_eq hg.2.2.2.1, Nat.le_of_eq hg.2.2.2.2⟩ trivial
  have ek : ((xI h 45 12) - (Int32.ofInt (1))).toInt = (xI h 45 12).toInt - 1 := y_pred (by omega) (by omega)
  obtain ⟨k', h2, tL, g2, ko2, ks2⟩ := ck_putL3 l f lv h0 (Z 11).toNat Z ((xI h 45 12) - (Int32.ofInt (1))) h hg r4 ko ks I h13 (by omega) (by omega)
  have tt := t1.tr tL
  exact ⟨h2, CX_ofT (h' := h2) (by decide) rfl rfl trivial ⟨_, _, _, rfl, rfl, rfl⟩ rfl ⟨Nat.le_of_eq g2.1.2.2.2.1.symm, Nat.le_of_eq g2.1.2.2.2.2.symm⟩ tt, g2, ko2, ks2⟩
set_option maxRecDepth 100000 in
set_option maxHeartbeats 4000000 in
theorem ck_putL24 (l : Launch) (f : Int) (lv : Int32) (h0 : 0 ≤ lv.toInt) : ∀ (m : Nat) (Z : Nat → Int) (k : Int32) (h : XH), sgood vT vR vE 153 6051 h → xR h 45 4 = 24 → kO 39 40 41 Z h → kS Z h → zInv f Z → Z 13 = 0 → Z 11 = m → k.toInt = m - 1 → ∃ k' h', XT l 1 22 false 62 153 6051 7 [xf 7 45, xi lv, xi k] [] h 52 [xf 7 45, xi lv, xi k'] [] h' ∧ vG ([(39, 5, false), (40, 0, true), (41, 0, true), (45, 12, false)], []) h h' ∧ kO 39 40 41 (zbind lv.toInt m Z) h' ∧ kS (zbind lv.toInt m Z) h'
  | 0, Z, k, h, hg, r4, ko, ks, I, h13, hm, hk => by
    have e_0 : (0 : Int32).toInt = 0 := rfl
    have e_64 : (Int32.ofInt (64)).toInt = 64 := rfl
    have t1 : XT l 1 22 false 62 153 6051 7 [xf 7 45, xi lv, xi k] [] h 52 [xf 7 45, xi lv, xi k] [] h := XT_path (l := l) (fr := 1) (lo := 22) (full := false) (M := 62) (n := 153) (u := 6051) (pc := 7) (L := [xf 7 45, xi lv, xi k]) (st := []) (h := h) (inl := []) (n' := 120) (sp := [52]) (o := [1]) rfl rfl ⟨rfl, rfl, rfl⟩ rfl ⟨Nat.le_of_eq hg.2.2.2.1, Nat.le_of_eq hg.2.2.2.2⟩ ⟨trivial, (Int32.lt_iff_toInt_lt.mpr (by omega))⟩
    exact ⟨k, h, t1, vG.rf hg, ko, ks⟩
  | m + 1, Z, k, h, hg, r4, ko, ks, I, h13, hm, hk => by
    have e_0 : (0 : Int32).toInt = 0 := rfl
    have e_64 : (Int32.ofInt (64)).toInt = 64 := rfl
    have ks1 := ks.1
    have ko1 := ko.1
    have B := I.b
    have nk : (k).toNatClampNeg = (Z 11).toNat - 1 := by
      show k.toInt.toNat = _
      omega
    have eT : (xI h 47 (k).toNatClampNeg).toInt = ztop Z := by rw [nk]; exact ks.2.2 _ (by omega)
    have et := ztl_top (Z := Z) (by omega)
    have t1 : XT l 1 22 false 62 153 6051 7 [xf 7 45, xi lv, xi k] [] h 17 [xf 7 45, xi lv, xi k] [xi (xI h (xR h 45 11) (k).toNatClampNeg)] h := XT_path (l := l) (fr := 1) (lo := 22) (full := false) (M := 62) (n := 153) (u := 6051) (pc := 7) (L := [xf 7 45, xi lv, xi k]) (st := []) (h := h) (inl := []) (n' := 120) (sp := [17]) (o := [0]) rfl rfl ⟨rfl, rfl, rfl⟩ rfl ⟨Nat.le_of_eq hg.2.2.2.1, Nat.le_of_eq hg.2.2.2.2⟩ ⟨⟨⟨trivial, (fun z => absurd (Int32.lt_iff_toInt_lt.mp z) (by omega))⟩, (vnn hg.1 (rfl : vRf 45 11 = [47]) (by decide))⟩, (vp_of (i := k) (n := 72) (by omega) (by omega))⟩
    rw [vref hg.1 (rfl : vRf 45 11 = [47])] at t1
    obtain ⟨r1, c1, e1⟩ := ck_lev l (xI h 47 (k).toNatClampNeg) h hg
    rw [eT] at e1
    have t2 : XT l 1 22 false 62 153 6051 17 [xf 7 45, xi lv, xi k] [xi (xI h 47 (k).toNatClampNeg)] h 20 [xf 7 45, xi lv, xi k] [xi r1] h := XT_call (l := l) (fr := 1) (lo := 22) (full := false) (M := 62) (n := 153) (u := 6051) (pc := 17) (L := [xf 7 45, xi lv, xi k]) (st := [xi (xI h 47 (k).toNatClampNeg)]) (h := h) (i := .invokestatic 58) (aux := 1) (nx := 20) (K := 58) (vs := [xi (xI h 47 (k).toNatClampNeg)]) (rs := [xi r1]) (rest := []) rfl rfl rfl rfl rfl rfl c1 (by decide) (by decide) (Nat.le_of_ble_eq_true rfl) ⟨Nat.le_of_eq hg.2.2.2.1, Nat.le_of_eq hg.2.2.2.2⟩
    have t3 := t1.tr t2
    by_cases c4 : r1 ≤ lv
    · have dc4 : (r1).toInt ≤ (lv).toInt := Int32.le_iff_toInt_le.mp c4
      have t5 : XT l 1 22 false 62 153 6051 20 [xf 7 45, xi lv, xi k] [xi r1] h 52 [xf 7 45, xi lv, xi k] [] h := XT_path (l := l) (fr := 1) (lo := 22) (full := false) (M := 62) (n := 153) (u := 6051) (pc := 20) (L := [xf 7 45, xi lv, xi k]) (st := [xi r1]) (h := h) (inl := []) (n' := 120) (sp := [52]) (o := [1]) rfl rfl ⟨rfl, rfl, rfl⟩ rfl ⟨Nat.le_of_eq hg.2.2.2.1, Nat.le_of_eq hg.2.2.2.2⟩ ⟨trivial, c4⟩
      have t6 := t3.tr t5
      have eq : zbind lv.toInt (m + 1) Z = Z := if_neg (by omega)
      rw [eq]
      exact ⟨k, h, t6, vG.rf hg, ko, ks⟩
    · have dc4 : (lv).toInt < (r1).toInt := Int32.lt_iff_toInt_lt.mp (Int32.not_le.mp c4)
      have ht : ztop Z ≠ 5 := fun z => by
        have l5 : lev 5 = 0 := by decide
        rw [z, l5] at e1
        omega
      have C := zb1_i I h13 (by omega) ht
      have t7 : XT l 1 22 false 62 153 6051 20 [xf 7 45, xi lv, xi k] [xi r1] h 38 [xf 7 45, xi lv, xi k] [xi (Int32.ofInt (0)), xi (xI h (xR h 45 11) (k).toNatClampNeg), xf 4 (xR h (xR h 45 4) 19)] h := XT_path (l := l) (fr := 1) (lo := 22) (full := false) (M := 62) (n := 153) (u := 6051) (pc := 20) (L := [xf 7 45, xi lv, xi k]) (st := [xi r1]) (h := h) (inl := []) (n' := 120) (sp := [38]) (o := [0]) rfl rfl ⟨rfl, rfl, rfl⟩ rfl ⟨Nat.le_of_eq hg.2.2.2.1, Nat.le_of_eq hg.2.2.2.2⟩ ⟨⟨⟨⟨⟨trivial, c4⟩, (show ¬ xR h 45 4 = 0 from by rw [r4]; decide)⟩, (show ¬ xR h (xR h 45 4) 19 = 0 from by rw [r4]; exact vnn hg.1 (rfl : vRf 24 19 = [39]) (by decide))⟩, (vnn hg.1 (rfl : vRf 45 11 = [47]) (by decide))⟩, (vp_of (i := k) (n := 72) (by omega) (by omega))⟩
      rw [vref hg.1 (rfl : vRf 45 11 = [47]), r4, vref hg.1 (rfl : vRf 24 19 = [39])] at t7
      have t8 := t3.tr t7
      have hsg : zsn (ztop Z) := I.2.2.1 ((Z 11).toNat - 1) (by omega)
      have hs39 : 0 ≤ ztop Z ∧ ztop Z ≤ 39 := by
        unfold zsn at hsg
        omega
      obtain ⟨h1, c2, g1, a5, ao, av, ar⟩ := ck_add24 l (xI h 47 (k).toNatClampNeg) (Int32.ofInt (0)) h hg (by omega) (by omega)
      rw [show (xI h 39 5).toInt.toNat = (Z 10).toNat from by rw [ko1]] at ao av ar
      have t9 : XT l 1 22 false 62 153 6051 38 [xf 7 45, xi lv, xi k] [xi (Int32.ofInt (0)), xi (xI h 47 (k).toNatClampNeg), xf 4 39] h 41 [xf 7 45, xi lv, xi k] [] h1 := XT_call (l := l) (fr := 1) (lo := 22) (full := false) (M := 62) (n := 153) (u := 6051) (pc := 38) (L := [xf 7 45, xi lv, xi k]) (st := [xi (Int32.ofInt (0)), xi (xI h 47 (k).toNatClampNeg), xf 4 39]) (h := h) (i := .invokevirtual 60) (aux := 3) (nx := 41) (K := 60) (vs := [xf 4 39, xi (xI h 47 (k).toNatClampNeg), xi (Int32.ofInt (0))]) (rs := []) (rest := []) rfl rfl rfl rfl rfl rfl c2 (by decide) (by decide) (Nat.le_of_ble_eq_true rfl) ⟨Nat.le_of_eq g1.1.2.2.2.1, Nat.le_of_eq g1.1.2.2.2.2⟩
      have t10 := t8.tr t9
      have t11 : XT l 1 22 false 62 153 6051 41 [xf 7 45, xi lv, xi k] [] h1 7 [xf 7 45, xi lv, xi (k + Int32.ofInt (-1))] [] (xsetI h1 45 12 k) := XT_path (l := l) (fr := 1) (lo := 22) (full := false) (M := 62) (n := 153) (u := 6051) (pc := 41) (L := [xf 7 45, xi lv, xi k]) (st := []) (h := h1) (inl := []) (n' := 120) (sp := [7]) (o := []) rfl rfl ⟨rfl, rfl, rfl⟩ rfl ⟨Nat.le_of_eq g1.1.2.2.2.1, Nat.le_of_eq g1.1.2.2.2.2⟩ trivial
      have t12 := t10.tr t11
      have eq : zbind lv.toInt (m + 1) Z = zbind lv.toInt m (zb1 Z) := if_pos (by omega)
      have g0 : vG ([(39, 5, false), (40, 0, true), (41, 0, true), (45, 12, false)], []) h h1 := ⟨g1.1, g1.2.mono rfl rfl⟩
      have G1 : vG ([(39, 5, false), (40, 0, true), (41, 0, true), (45, 12, false)], []) h (xsetI h1 45 12 k) := (g0 : vG ([(39, 5, false), (40, 0, true), (41, 0, true), (45, 12, false)], []) h h1).set (c := 45) (k := 12) (v := k) (show (0 : Int) ≤ _ ∧ _ ≤ 72 from ⟨by omega, by omega⟩) (by decide +kernel) (by decide +kernel) rfl
      have o1 : ∀ c k, swin ([(39, 5, false), (40, 0, true), (41, 0, true)], []).1 c k = false → xI h1 c k = xI h c k := g1.2.1
      have kO' : kO 39 40 41 (zb1 Z) (xsetI h1 45 12 k) := by
        refine ko.add (Y := zb1 Z) (by omega) ?_ ?_ ?_ ?_ (fun k hk => ?_) (fun k hk => ?_) zb1_10 (fun k hk => ⟨zb1_k (by omega) (by omega) (by omega) (by omega) (by omega) (by omega) (by omega), zb1_k (by omega) (by omega) (by omega) (by omega) (by omega) (by omega) (by omega)⟩)
        · rw [yI_c (by decide)]; omega
        · rw [yI_c (by decide), o1 39 6 rfl, zb1_o (by omega) (by omega)]; exact ko.2.1
        · rw [yI_c (by decide), ao, (zb1_3 (Z := Z) (by omega)).1]; exact eT
        · rw [yI_c (by decide), av, (zb1_3 (Z := Z) (by omega)).2.1]; rfl
        · rw [yI_c (by decide)]; exact (ar k hk).1
        · rw [yI_c (by decide)]; exact (ar k hk).2
      have kS' : kS (zb1 Z) (xsetI h1 45 12 k) := by
        refine ⟨?_, ?_, fun j hj => ?_⟩
        · rw [yI_same, zb1_11]; omega
        · rw [yI_ne (by decide), o1 45 13 rfl, zb1_o (by omega) (by omega)]; exact ks.2.1
        · rw [zb1_11] at hj
          rw [yI_c (by decide), o1 47 j rfl, zb1_o (by omega) (by omega)]; exact ks.2.2 j (by omega)
      obtain ⟨kn, hkn⟩ : ∃ z, z = (k + Int32.ofInt (-1)) := ⟨_, rfl⟩
      have ek : kn.toInt = k.toInt - 1 := by rw [hkn]; exact y_dec (by omega) (by omega)
      rw [← hkn] at t12
      clear hkn
      obtain ⟨k', h2, tL, g2, ko2, ks2⟩ := ck_putL24 l f lv h0 m (zb1 Z) kn (xsetI h1 45 12 k) G1.1 ((G1.2.2 45 4 rfl).trans r4) kO' kS' (zInv_b1 I h13 (by omega) ht) (by rw [zb1_o (by omega) (by omega)]; exact h13) (by rw [zb1_11]; omega) (by omega)
      rw [eq]
      exact ⟨k', h2, t12.tr tL, G1.tr g2, ko2, ks2⟩
set_option maxRecDepth 100000 in
set_option maxHeartbeats 4000000 in
theorem ck_put24 (l : Launch) (f : Int) (lv : Int32) (h0 : 0 ≤ lv.toInt) (Z : Nat → Int) (h : XH) (hg : sgood vT vR vE 153 6051 h) (r4 : xR h 45 4 = 24) (ko : kO 39 40 41 Z h) (ks : kS Z h) (I : zInv f Z) (h13 : Z 13 = 0) : ∃ h', CX l 1 22 false 62 [xf 7 45, xi lv] h [] h' ∧ vG ([(39, 5, false), (40, 0, true), (41, 0, true), (45, 12, false)], []) h h' ∧ kO 39 40 41 (zput lv.toInt Z) h' ∧ kS (zput lv.toInt Z) h' := by
  have B := I.b
  have ks1 := ks.1
  have t1 : XT l 1 22 false 62 153 6051 0 [xf 7 45, xi lv, xun] [] h 7 [xf 7 45, xi lv, xi ((xI h 45 12) - (Int32.ofInt (1)))] [] h := XT_path (l := l) (fr := 1) (lo := 22) (full := false) (M := 62) (n := 153) (u := 6051) (pc := 0) (L := [xf 7 45, xi lv, xun]) (st := []) (h := h) (inl := []) (n' := 80) (sp := [7]) (o := []) rfl rfl ⟨rfl, rfl, rfl⟩ rfl ⟨Nat.le_of_eq hg.2.2.2.1, Nat.le_of_eq hg.2.2.2.2⟩ trivial
  have ek : ((xI h 45 12) - (Int32.ofInt (1))).toInt = (xI h 45 12).toInt - 1 := y_pred (by omega) (by omega)
  obtain ⟨k', h2, tL, g2, ko2, ks2⟩ := ck_putL24 l f lv h0 (Z 11).toNat Z ((xI h 45 12) - (Int32.ofInt (1))) h hg r4 ko ks I h13 (by omega) (by omega)
  have tt := t1.tr tL
  exact ⟨h2, CX_ofT (h' := h2) (by decide) rfl rfl trivial ⟨_, _, _, rfl, rfl, rfl⟩ rfl ⟨Nat.le_of_eq g2.1.2.2.2.1.symm, Nat.le_of_eq g2.1.2.2.2.2.symm⟩ tt, g2, ko2, ks2⟩
