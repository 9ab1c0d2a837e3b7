/-! THE MODEL'S TOKEN. -/
set_option maxRecDepth 100000 in
set_option maxHeartbeats 2000000 in
theorem mk_skip (l : Launch) (b : Nat → Int) (n : Nat) : ∀ (m p : Nat) (h : XH), mI h → mR b n h → n ≤ 700 → (xI h 104 7).toInt = p → p + m = n → ∃ h', XT l 1 27 false 180 153 6051 0 [xf 13 104] [] h 52 [xf 13 104] [] h' ∧ mT ([(104, 7, false)], []) h h' ∧ (xI h' 104 7).toInt = sSk b (n - p) p
  | 0, p, h, hg, rr, hn7, hp, hm => by
    have r5 := rr.1
    have np : (xI h 104 7).toNatClampNeg = p := by
      show (xI h 104 7).toInt.toNat = p
      omega
    have t1 : XT l 1 27 false 180 153 6051 0 [xf 13 104] [] h 52 [xf 13 104] [] h := XT_path (l := l) (fr := 1) (lo := 27) (full := false) (M := 180) (n := 153) (u := 6051) (pc := 0) (L := [xf 13 104]) (st := []) (h := h) (inl := []) (n' := 80) (sp := [52]) (o := [1]) rfl rfl ⟨rfl, rfl, rfl⟩ rfl ⟨Nat.le_of_eq hg.2.2.2.1, Nat.le_of_eq hg.2.2.2.2⟩ ⟨trivial, (Int32.le_iff_toInt_le.mpr (by omega))⟩
    exact ⟨h, t1, mT.rf hg, by rw [sSk_e (by omega)]; exact hp⟩
  | m + 1, p, h, hg, rr, hn7, hp, hm => by
    have r5 := rr.1
    have np : (xI h 104 7).toNatClampNeg = p := by
      show (xI h 104 7).toInt.toNat = p
      omega
    have eb := rr.2 p (by omega)
    rw [← np] at eb
    have ei : ((xI h 104 7) + (Int32.ofInt (1))).toInt = (xI h 104 7).toInt + 1 := y_suc1 (by omega) (by omega)
    by_cases c1 : (xI h (xR h 104 0) ((xI h 104 7)).toNatClampNeg) = (Int32.ofInt (10))
    · have e_10 : (Int32.ofInt (10)).toInt = 10 := rfl
      have c1r := c1
      rw [vref hg.1 (rfl : vRf 104 0 = [105])] at c1r
      have dc1 : (xI h 105 ((xI h 104 7)).toNatClampNeg).toInt = (Int32.ofInt (10)).toInt := congrArg Int32.toInt c1r
      have t2 : XT l 1 27 false 180 153 6051 0 [xf 13 104] [] h 0 [xf 13 104] [] (xsetI h 104 7 ((xI h 104 7) + (Int32.ofInt (1)))) := XT_path (l := l) (fr := 1) (lo := 27) (full := false) (M := 180) (n := 153) (u := 6051) (pc := 0) (L := [xf 13 104]) (st := []) (h := h) (inl := []) (n' := 80) (sp := [0]) (o := [0, 1]) rfl rfl ⟨rfl, rfl, rfl⟩ rfl ⟨Nat.le_of_eq hg.2.2.2.1, Nat.le_of_eq hg.2.2.2.2⟩ ⟨⟨⟨⟨trivial, (fun z => absurd (Int32.le_iff_toInt_le.mp z) (by omega))⟩, (vnn hg.1 (rfl : vRf 104 0 = [105]) (by decide))⟩, (vp_of (i := (xI h 104 7)) (n := 700) (by omega) (by omega))⟩, c1⟩
      have k10 : b (xI h 104 7).toNatClampNeg = 10 := sby_yes eb (by decide) (by decide) dc1
      rw [np] at k10
      have g1 : mT ([(104, 7, false)], []) h (xsetI h 104 7 ((xI h 104 7) + (Int32.ofInt (1)))) := (mT.rf hg).set (c := 104) (k := 7) (v := ((xI h 104 7) + (Int32.ofInt (1)))) (show (0 : Int) ≤ _ ∧ _ ≤ 700 from ⟨by omega, by omega⟩) rfl
      have r' : mR b n (xsetI h 104 7 ((xI h 104 7) + (Int32.ofInt (1)))) := rr.fr (yI_ne (by decide)) (fun k => yI_c (by decide))
      obtain ⟨h2, tL, g2, e2⟩ := mk_skip l b n m (p + 1) _ g1.1 r' hn7 (by rw [yI_same]; omega) (by omega)
      exact ⟨h2, t2.tr tL, g1.tr g2, by rw [e2, sSk_y (by omega) (Or.inl k10)]⟩
    · have e_10 : (Int32.ofInt (10)).toInt = 10 := rfl
      have c1r := c1
      rw [vref hg.1 (rfl : vRf 104 0 = [105])] at c1r
      have dc1 : ¬ (xI h 105 ((xI h 104 7)).toNatClampNeg).toInt = (Int32.ofInt (10)).toInt := fun z_ => c1r (Int32.toInt_inj.mp z_)
      by_cases c3 : (xI h (xR h 104 0) ((xI h 104 7)).toNatClampNeg) = (Int32.ofInt (32))
      · have e_32 : (Int32.ofInt (32)).toInt = 32 := rfl
        have c3r := c3
        rw [vref hg.1 (rfl : vRf 104 0 = [105])] at c3r
        have dc3 : (xI h 105 ((xI h 104 7)).toNatClampNeg).toInt = (Int32.ofInt (32)).toInt := congrArg Int32.toInt c3r
        have t4 : XT l 1 27 false 180 153 6051 0 [xf 13 104] [] h 0 [xf 13 104] [] (xsetI h 104 7 ((xI h 104 7) + (Int32.ofInt (1)))) := XT_path (l := l) (fr := 1) (lo := 27) (full := false) (M := 180) (n := 153) (u := 6051) (pc := 0) (L := [xf 13 104]) (st := []) (h := h) (inl := []) (n' := 80) (sp := [0]) (o := [0, 0, 0]) rfl rfl ⟨rfl, rfl, rfl⟩ rfl ⟨Nat.le_of_eq hg.2.2.2.1, Nat.le_of_eq hg.2.2.2.2⟩ ⟨⟨⟨⟨⟨⟨⟨trivial, (fun z => absurd (Int32.le_iff_toInt_le.mp z) (by omega))⟩, (vnn hg.1 (rfl : vRf 104 0 = [105]) (by decide))⟩, (vp_of (i := (xI h 104 7)) (n := 700) (by omega) (by omega))⟩, c1⟩, (vnn hg.1 (rfl : vRf 104 0 = [105]) (by decide))⟩, (vp_of (i := (xI h 104 7)) (n := 700) (by omega) (by omega))⟩, c3⟩
        have k10 : ¬ b (xI h 104 7).toNatClampNeg = 10 := sby_ne eb (by decide) (by decide) dc1
        have k32 : b (xI h 104 7).toNatClampNeg = 32 := sby_yes eb (by decide) (by decide) dc3
        rw [np] at k10 k32
        have g1 : mT ([(104, 7, false)], []) h (xsetI h 104 7 ((xI h 104 7) + (Int32.ofInt (1)))) := (mT.rf hg).set (c := 104) (k := 7) (v := ((xI h 104 7) + (Int32.ofInt (1)))) (show (0 : Int) ≤ _ ∧ _ ≤ 700 from ⟨by omega, by omega⟩) rfl
        have r' : mR b n (xsetI h 104 7 ((xI h 104 7) + (Int32.ofInt (1)))) := rr.fr (yI_ne (by decide)) (fun k => yI_c (by decide))
        obtain ⟨h2, tL, g2, e2⟩ := mk_skip l b n m (p + 1) _ g1.1 r' hn7 (by rw [yI_same]; omega) (by omega)
        exact ⟨h2, t4.tr tL, g1.tr g2, by rw [e2, sSk_y (by omega) (Or.inr k32)]⟩
      · have e_32 : (Int32.ofInt (32)).toInt = 32 := rfl
        have c3r := c3
        rw [vref hg.1 (rfl : vRf 104 0 = [105])] at c3r
        have dc3 : ¬ (xI h 105 ((xI h 104 7)).toNatClampNeg).toInt = (Int32.ofInt (32)).toInt := fun z_ => c3r (Int32.toInt_inj.mp z_)
        have t5 : XT l 1 27 false 180 153 6051 0 [xf 13 104] [] h 52 [xf 13 104] [] h := XT_path (l := l) (fr := 1) (lo := 27) (full := false) (M := 180) (n := 153) (u := 6051) (pc := 0) (L := [xf 13 104]) (st := []) (h := h) (inl := []) (n' := 80) (sp := [52]) (o := [0, 0, 1]) rfl rfl ⟨rfl, rfl, rfl⟩ rfl ⟨Nat.le_of_eq hg.2.2.2.1, Nat.le_of_eq hg.2.2.2.2⟩ ⟨⟨⟨⟨⟨⟨⟨trivial, (fun z => absurd (Int32.le_iff_toInt_le.mp z) (by omega))⟩, (vnn hg.1 (rfl : vRf 104 0 = [105]) (by decide))⟩, (vp_of (i := (xI h 104 7)) (n := 700) (by omega) (by omega))⟩, c1⟩, (vnn hg.1 (rfl : vRf 104 0 = [105]) (by decide))⟩, (vp_of (i := (xI h 104 7)) (n := 700) (by omega) (by omega))⟩, c3⟩
        have k10 : ¬ b (xI h 104 7).toNatClampNeg = 10 := sby_ne eb (by decide) (by decide) dc1
        have k32 : ¬ b (xI h 104 7).toNatClampNeg = 32 := sby_ne eb (by decide) (by decide) dc3
        rw [np] at k10 k32
        exact ⟨h, t5, mT.rf hg, by rw [sSk_n (fun z => z.elim k10 k32)]; exact hp⟩
set_option maxRecDepth 100000 in
set_option maxHeartbeats 2000000 in
theorem mk_let (l : Launch) (b : Nat → Int) (n : Nat) : ∀ (m p : Nat) (h : XH), mI h → mR b n h → n ≤ 700 → (xI h 104 7).toInt = p → p + m = n → ∃ h', XT l 1 27 false 180 153 6051 90 [xf 13 104] [] h 114 [xf 13 104] [] h' ∧ mT ([(104, 7, false)], []) h h' ∧ (xI h' 104 7).toInt = sLr b (n - p) p
  | 0, p, h, hg, rr, hn7, hp, hm => by
    have r5 := rr.1
    have np : (xI h 104 7).toNatClampNeg = p := by
      show (xI h 104 7).toInt.toNat = p
      omega
    have t1 : XT l 1 27 false 180 153 6051 90 [xf 13 104] [] h 114 [xf 13 104] [] h := XT_path (l := l) (fr := 1) (lo := 27) (full := false) (M := 180) (n := 153) (u := 6051) (pc := 90) (L := [xf 13 104]) (st := []) (h := h) (inl := [181]) (n' := 90) (sp := [114]) (o := [1, 1]) rfl rfl ⟨rfl, rfl, rfl⟩ rfl ⟨Nat.le_of_eq hg.2.2.2.1, Nat.le_of_eq hg.2.2.2.2⟩ ⟨⟨⟨trivial, (Int32.le_iff_toInt_le.mpr (by omega))⟩, (Or.inl rfl)⟩, rfl⟩
    exact ⟨h, t1, mT.rf hg, by rw [sLr_e (by omega)]; exact hp⟩
  | m + 1, p, h, hg, rr, hn7, hp, hm => by
    have r5 := rr.1
    have np : (xI h 104 7).toNatClampNeg = p := by
      show (xI h 104 7).toInt.toNat = p
      omega
    have eb := rr.2 p (by omega)
    rw [← np] at eb
    have ei : ((xI h 104 7) + (Int32.ofInt (1))).toInt = (xI h 104 7).toInt + 1 := y_suc1 (by omega) (by omega)
    have lw : (97 ≤ b p ∧ b p ≤ 122) = (97 ≤ (xI h 105 (xI h 104 7).toNatClampNeg).toInt ∧ (xI h 105 (xI h 104 7).toNatClampNeg).toInt ≤ 122) := by rw [← np, ← eb]; exact sby_in (by decide) (by decide)
    by_cases c1 : (xI h (xR h 104 0) ((xI h 104 7)).toNatClampNeg) < (Int32.ofInt (97))
    · have e_97 : (Int32.ofInt (97)).toInt = 97 := rfl
      have c1r := c1
      rw [vref hg.1 (rfl : vRf 104 0 = [105])] at c1r
      have dc1 : (xI h 105 ((xI h 104 7)).toNatClampNeg).toInt < (Int32.ofInt (97)).toInt := Int32.lt_iff_toInt_lt.mp c1r
      have t2 : XT l 1 27 false 180 153 6051 90 [xf 13 104] [] h 114 [xf 13 104] [] h := XT_path (l := l) (fr := 1) (lo := 27) (full := false) (M := 180) (n := 153) (u := 6051) (pc := 90) (L := [xf 13 104]) (st := []) (h := h) (inl := [181]) (n' := 90) (sp := [114]) (o := [0, 1, 1]) rfl rfl ⟨rfl, rfl, rfl⟩ rfl ⟨Nat.le_of_eq hg.2.2.2.1, Nat.le_of_eq hg.2.2.2.2⟩ ⟨⟨⟨⟨⟨⟨trivial, (fun z => absurd (Int32.le_iff_toInt_le.mp z) (by omega))⟩, (vnn hg.1 (rfl : vRf 104 0 = [105]) (by decide))⟩, (vp_of (i := (xI h 104 7)) (n := 700) (by omega) (by omega))⟩, c1⟩, (Or.inl rfl)⟩, rfl⟩
      have nl : ¬ (97 ≤ b p ∧ b p ≤ 122) := by rw [lw]; omega
      exact ⟨h, t2, mT.rf hg, by rw [sLr_n nl]; exact hp⟩
    · have e_97 : (Int32.ofInt (97)).toInt = 97 := rfl
      have c1r := c1
      rw [vref hg.1 (rfl : vRf 104 0 = [105])] at c1r
      have dc1 : (Int32.ofInt (97)).toInt ≤ (xI h 105 ((xI h 104 7)).toNatClampNeg).toInt := Int32.le_iff_toInt_le.mp (Int32.not_lt.mp c1r)
      by_cases c3 : (Int32.ofInt (122)) < (xI h (xR h 104 0) ((xI h 104 7)).toNatClampNeg)
      · have e_122 : (Int32.ofInt (122)).toInt = 122 := rfl
        have c3r := c3
        rw [vref hg.1 (rfl : vRf 104 0 = [105])] at c3r
        have dc3 : (Int32.ofInt (122)).toInt < (xI h 105 ((xI h 104 7)).toNatClampNeg).toInt := Int32.lt_iff_toInt_lt.mp c3r
        have t4 : XT l 1 27 false 180 153 6051 90 [xf 13 104] [] h 114 [xf 13 104] [] h := XT_path (l := l) (fr := 1) (lo := 27) (full := false) (M := 180) (n := 153) (u := 6051) (pc := 90) (L := [xf 13 104]) (st := []) (h := h) (inl := [181]) (n' := 90) (sp := [114]) (o := [0, 0, 1, 1]) rfl rfl ⟨rfl, rfl, rfl⟩ rfl ⟨Nat.le_of_eq hg.2.2.2.1, Nat.le_of_eq hg.2.2.2.2⟩ ⟨⟨⟨⟨⟨⟨⟨⟨⟨trivial, (fun z => absurd (Int32.le_iff_toInt_le.mp z) (by omega))⟩, (vnn hg.1 (rfl : vRf 104 0 = [105]) (by decide))⟩, (vp_of (i := (xI h 104 7)) (n := 700) (by omega) (by omega))⟩, c1⟩, (vnn hg.1 (rfl : vRf 104 0 = [105]) (by decide))⟩, (vp_of (i := (xI h 104 7)) (n := 700) (by omega) (by omega))⟩, c3⟩, (Or.inl rfl)⟩, rfl⟩
        have nl : ¬ (97 ≤ b p ∧ b p ≤ 122) := by rw [lw]; omega
        exact ⟨h, t4, mT.rf hg, by rw [sLr_n nl]; exact hp⟩
      · have e_122 : (Int32.ofInt (122)).toInt = 122 := rfl
        have c3r := c3
        rw [vref hg.1 (rfl : vRf 104 0 = [105])] at c3r
        have dc3 : (xI h 105 ((xI h 104 7)).toNatClampNeg).toInt ≤ (Int32.ofInt (122)).toInt := Int32.le_iff_toInt_le.mp (Int32.not_lt.mp c3r)
        have t5 : XT l 1 27 false 180 153 6051 90 [xf 13 104] [] h 90 [xf 13 104] [] (xsetI h 104 7 ((xI h 104 7) + (Int32.ofInt (1)))) := XT_path (l := l) (fr := 1) (lo := 27) (full := false) (M := 180) (n := 153) (u := 6051) (pc := 90) (L := [xf 13 104]) (st := []) (h := h) (inl := [181]) (n' := 90) (sp := [90]) (o := [0, 0, 0, 0]) rfl rfl ⟨rfl, rfl, rfl⟩ rfl ⟨Nat.le_of_eq hg.2.2.2.1, Nat.le_of_eq hg.2.2.2.2⟩ ⟨⟨⟨⟨⟨⟨⟨⟨⟨trivial, (fun z => absurd (Int32.le_iff_toInt_le.mp z) (by omega))⟩, (vnn hg.1 (rfl : vRf 104 0 = [105]) (by decide))⟩, (vp_of (i := (xI h 104 7)) (n := 700) (by omega) (by omega))⟩, c1⟩, (vnn hg.1 (rfl : vRf 104 0 = [105]) (by decide))⟩, (vp_of (i := (xI h 104 7)) (n := 700) (by omega) (by omega))⟩, c3⟩, (Or.inr rfl)⟩, (by decide)⟩
        have yl : 97 ≤ b p ∧ b p ≤ 122 := by rw [lw]; omega
        have g1 : mT ([(104, 7, false)], []) h (xsetI h 104 7 ((xI h 104 7) + (Int32.ofInt (1)))) := (mT.rf hg).set (c := 104) (k := 7) (v := ((xI h 104 7) + (Int32.ofInt (1)))) (show (0 : Int) ≤ _ ∧ _ ≤ 700 from ⟨by omega, by omega⟩) rfl
        have r' : mR b n (xsetI h 104 7 ((xI h 104 7) + (Int32.ofInt (1)))) := rr.fr (yI_ne (by decide)) (fun k => yI_c (by decide))
        obtain ⟨h2, tL, g2, e2⟩ := mk_let l b n m (p + 1) _ g1.1 r' hn7 (by rw [yI_same]; omega) (by omega)
        exact ⟨h2, t5.tr tL, g1.tr g2, by rw [e2, sLr_y (by omega) yl]⟩
def sDg (v w : Int) : Prop := (v = w ∧ 0 ≤ w ∧ w ≤ 9999) ∨ (v = 10000 ∧ 10000 ≤ w ∧ w ≤ 1000000)
theorem dig_ten {u v : Int32} (hu : 0 ≤ u.toInt ∧ u.toInt ≤ 99999) (hv : 48 ≤ v.toInt ∧ v.toInt ≤ 57) : (((Int32.ofInt (10)) * u) + v - (Int32.ofInt (48))).toInt = 10 * u.toInt + v.toInt - 48 := by
  rw [Int32.toInt_sub, Int32.toInt_add, Int32.toInt_mul, show (Int32.ofInt (10)).toInt = 10 from rfl, show (Int32.ofInt (48)).toInt = 48 from rfl]
  rw [Int.bmod_eq_of_le (n := 10 * u.toInt) (by omega) (by omega)]
  rw [Int.bmod_eq_of_le (n := 10 * u.toInt + v.toInt) (by omega) (by omega)]
  exact Int.bmod_eq_of_le (by omega) (by omega)
set_option maxRecDepth 100000 in
set_option maxHeartbeats 2000000 in
theorem mk_digL (l : Launch) (b : Nat → Int) (n q : Nat) : ∀ (m p : Nat) (h : XH), mI h → mR b n h → n ≤ 700 → (xI h 104 7).toInt = p → q ≤ p → p + m = n → sDg (sNm b q (p - q)) (xI h 104 9).toInt → ∃ h', XT l 1 27 false 180 153 6051 213 [xf 13 104] [] h 281 [xf 13 104] [] h' ∧ mT ([(104, 7, false), (104, 9, false)], []) h h' ∧ (xI h' 104 7).toInt = sDr b (n - p) p ∧ sDg (sNm b q (sDr b (n - p) p - q)) (xI h' 104 9).toInt
  | 0, p, h, hg, rr, hn7, hp, hqp, hm, hd => by
    have r5 := rr.1
    have np : (xI h 104 7).toNatClampNeg = p := by
      show (xI h 104 7).toInt.toNat = p
      omega
    have t1 : XT l 1 27 false 180 153 6051 213 [xf 13 104] [] h 281 [xf 13 104] [] h := XT_path (l := l) (fr := 1) (lo := 27) (full := false) (M := 180) (n := 153) (u := 6051) (pc := 213) (L := [xf 13 104]) (st := []) (h := h) (inl := [184]) (n' := 90) (sp := [281]) (o := [1, 1]) rfl rfl ⟨rfl, rfl, rfl⟩ rfl ⟨Nat.le_of_eq hg.2.2.2.1, Nat.le_of_eq hg.2.2.2.2⟩ ⟨⟨⟨trivial, (Int32.le_iff_toInt_le.mpr (by omega))⟩, (Or.inl rfl)⟩, rfl⟩
    rw [sDr_e (by omega)]
    exact ⟨h, t1, mT.rf hg, hp, hd⟩
  | m + 1, p, h, hg, rr, hn7, hp, hqp, hm, hd => by
    have r5 := rr.1
    have np : (xI h 104 7).toNatClampNeg = p := by
      show (xI h 104 7).toInt.toNat = p
      omega
    have eb := rr.2 p (by omega)
    rw [← np] at eb
    have ei : ((xI h 104 7) + (Int32.ofInt (1))).toInt = (xI h 104 7).toInt + 1 := y_suc1 (by omega) (by omega)
    have lw : (48 ≤ b p ∧ b p ≤ 57) = (48 ≤ (xI h 105 (xI h 104 7).toNatClampNeg).toInt ∧ (xI h 105 (xI h 104 7).toNatClampNeg).toInt ≤ 57) := by rw [← np, ← eb]; exact sby_in (by decide) (by decide)
    by_cases c1 : (xI h (xR h 104 0) ((xI h 104 7)).toNatClampNeg) < (Int32.ofInt (48))
    · have e_48 : (Int32.ofInt (48)).toInt = 48 := rfl
      have c1r := c1
      rw [vref hg.1 (rfl : vRf 104 0 = [105])] at c1r
      have dc1 : (xI h 105 ((xI h 104 7)).toNatClampNeg).toInt < (Int32.ofInt (48)).toInt := Int32.lt_iff_toInt_lt.mp c1r
      have t2 : XT l 1 27 false 180 153 6051 213 [xf 13 104] [] h 281 [xf 13 104] [] h := XT_path (l := l) (fr := 1) (lo := 27) (full := false) (M := 180) (n := 153) (u := 6051) (pc := 213) (L := [xf 13 104]) (st := []) (h := h) (inl := [184]) (n' := 90) (sp := [281]) (o := [0, 1, 1]) rfl rfl ⟨rfl, rfl, rfl⟩ rfl ⟨Nat.le_of_eq hg.2.2.2.1, Nat.le_of_eq hg.2.2.2.2⟩ ⟨⟨⟨⟨⟨⟨trivial, (fun z => absurd (Int32.le_iff_toInt_le.mp z) (by omega))⟩, (vnn hg.1 (rfl : vRf 104 0 = [105]) (by decide))⟩, (vp_of (i := (xI h 104 7)) (n := 700) (by omega) (by omega))⟩, c1⟩, (Or.inl rfl)⟩, rfl⟩
      have nl : ¬ (48 ≤ b p ∧ b p ≤ 57) := by rw [lw]; omega
      rw [sDr_n nl]
      exact ⟨h, t2, mT.rf hg, hp, hd⟩
    · have e_48 : (Int32.ofInt (48)).toInt = 48 := rfl
      have c1r := c1
      rw [vref hg.1 (rfl : vRf 104 0 = [105])] at c1r
      have dc1 : (Int32.ofInt (48)).toInt ≤ (xI h 105 ((xI h 104 7)).toNatClampNeg).toInt := Int32.le_iff_toInt_le.mp (Int32.not_lt.mp c1r)
      by_cases c3 : (Int32.ofInt (57)) < (xI h (xR h 104 0) ((xI h 104 7)).toNatClampNeg)
      · have e_57 : (Int32.ofInt (57)).toInt = 57 := rfl
        have c3r := c3
        rw [vref hg.1 (rfl : vRf 104 0 = [105])] at c3r
        have dc3 : (Int32.ofInt (57)).toInt < (xI h 105 ((xI h 104 7)).toNatClampNeg).toInt := Int32.lt_iff_toInt_lt.mp c3r
        have t4 : XT l 1 27 false 180 153 6051 213 [xf 13 104] [] h 281 [xf 13 104] [] h := XT_path (l := l) (fr := 1) (lo := 27) (full := false) (M := 180) (n := 153) (u := 6051) (pc := 213) (L := [xf 13 104]) (st := []) (h := h) (inl := [184]) (n' := 90) (sp := [281]) (o := [0, 0, 1, 1]) rfl rfl ⟨rfl, rfl, rfl⟩ rfl ⟨Nat.le_of_eq hg.2.2.2.1, Nat.le_of_eq hg.2.2.2.2⟩ ⟨⟨⟨⟨⟨⟨⟨⟨⟨trivial, (fun z => absurd (Int32.le_iff_toInt_le.mp z) (by omega))⟩, (vnn hg.1 (rfl : vRf 104 0 = [105]) (by decide))⟩, (vp_of (i := (xI h 104 7)) (n := 700) (by omega) (by omega))⟩, c1⟩, (vnn hg.1 (rfl : vRf 104 0 = [105]) (by decide))⟩, (vp_of (i := (xI h 104 7)) (n := 700) (by omega) (by omega))⟩, c3⟩, (Or.inl rfl)⟩, rfl⟩
        have nl : ¬ (48 ≤ b p ∧ b p ≤ 57) := by rw [lw]; omega
        rw [sDr_n nl]
        exact ⟨h, t4, mT.rf hg, hp, hd⟩
      · have e_57 : (Int32.ofInt (57)).toInt = 57 := rfl
        have c3r := c3
        rw [vref hg.1 (rfl : vRf 104 0 = [105])] at c3r
        have dc3 : (xI h 105 ((xI h 104 7)).toNatClampNeg).toInt ≤ (Int32.ofInt (57)).toInt := Int32.le_iff_toInt_le.mp (Int32.not_lt.mp c3r)
        by_cases c5 : (xI h 104 9) ≤ (Int32.ofInt (99999))
        · have e_99999 : (Int32.ofInt (99999)).toInt = 99999 := rfl
          have dc5 : (xI h 104 9).toInt ≤ (Int32.ofInt (99999)).toInt := Int32.le_iff_toInt_le.mp c5
          have t6 : XT l 1 27 false 180 153 6051 213 [xf 13 104] [] h 213 [xf 13 104] [] (xsetI (xsetI h 104 9 ((((Int32.ofInt (10)) * (xI h 104 9)) + (xI h (xR h 104 0) ((xI h 104 7)).toNatClampNeg)) - (Int32.ofInt (48)))) 104 7 ((xI h 104 7) + (Int32.ofInt (1)))) := XT_path (l := l) (fr := 1) (lo := 27) (full := false) (M := 180) (n := 153) (u := 6051) (pc := 213) (L := [xf 13 104]) (st := []) (h := h) (inl := [184]) (n' := 90) (sp := [213]) (o := [0, 0, 0, 0, 1]) rfl rfl ⟨rfl, rfl, rfl⟩ rfl ⟨Nat.le_of_eq hg.2.2.2.1, Nat.le_of_eq hg.2.2.2.2⟩ ⟨⟨⟨⟨⟨⟨⟨⟨⟨⟨⟨⟨trivial, (fun z => absurd (Int32.le_iff_toInt_le.mp z) (by omega))⟩, (vnn hg.1 (rfl : vRf 104 0 = [105]) (by decide))⟩, (vp_of (i := (xI h 104 7)) (n := 700) (by omega) (by omega))⟩, c1⟩, (vnn hg.1 (rfl : vRf 104 0 = [105]) (by decide))⟩, (vp_of (i := (xI h 104 7)) (n := 700) (by omega) (by omega))⟩, c3⟩, (Or.inr rfl)⟩, (by decide)⟩, c5⟩, (vnn hg.1 (rfl : vRf 104 0 = [105]) (by decide))⟩, (vp_of (i := (xI h 104 7)) (n := 700) (by omega) (by omega))⟩
          rw [vref hg.1 (rfl : vRf 104 0 = [105])] at t6
          have yl : 48 ≤ b p ∧ b p ≤ 57 := by rw [lw]; omega
          have ebv : b p = (xI h 105 (xI h 104 7).toNatClampNeg).toInt := by rw [← np, ← eb]; exact sby_val (a := 48) (b := 57) (by decide) (by decide) (lw ▸ yl)
          have z : sNm b q (p - q + 1) = min 10000 (sNm b q (p - q) * 10 + b (q + (p - q)) - 48) := rfl
          rw [show q + (p - q) = p by omega, ← show p + 1 - q = p - q + 1 by omega] at z
          have ed : sDg (sNm b q (p + 1 - q)) (((((Int32.ofInt (10)) * (xI h 104 9)) + (xI h 105 ((xI h 104 7)).toNatClampNeg)) - (Int32.ofInt (48)))).toInt := by
            have d0 : 0 ≤ (xI h 104 9).toInt ∧ (xI h 104 9).toInt ≤ 99999 := by unfold sDg at hd; omega
            have e : (((((Int32.ofInt (10)) * (xI h 104 9)) + (xI h 105 ((xI h 104 7)).toNatClampNeg)) - (Int32.ofInt (48)))).toInt = 10 * (xI h 104 9).toInt + (xI h 105 (xI h 104 7).toNatClampNeg).toInt - 48 := dig_ten d0 (by omega)
            unfold sDg at hd ⊢
            rw [z, e]
            omega
          have g0 : mT ([(104, 7, false), (104, 9, false)], []) h (xsetI h 104 9 ((((Int32.ofInt (10)) * (xI h 104 9)) + (xI h 105 ((xI h 104 7)).toNatClampNeg)) - (Int32.ofInt (48)))) := (mT.rf hg).set (c := 104) (k := 9) (v := ((((Int32.ofInt (10)) * (xI h 104 9)) + (xI h 105 ((xI h 104 7)).toNatClampNeg)) - (Int32.ofInt (48)))) (show (-2147483648 : Int) ≤ _ ∧ _ ≤ 2147483647 from i32r_of _) rfl
          have g1 : mT ([(104, 7, false), (104, 9, false)], []) h (xsetI (xsetI h 104 9 ((((Int32.ofInt (10)) * (xI h 104 9)) + (xI h 105 ((xI h 104 7)).toNatClampNeg)) - (Int32.ofInt (48)))) 104 7 ((xI h 104 7) + (Int32.ofInt (1)))) := g0.set (c := 104) (k := 7) (v := ((xI h 104 7) + (Int32.ofInt (1)))) (show (0 : Int) ≤ _ ∧ _ ≤ 700 from ⟨by omega, by omega⟩) rfl
          have r' : mR b n (xsetI (xsetI h 104 9 ((((Int32.ofInt (10)) * (xI h 104 9)) + (xI h 105 ((xI h 104 7)).toNatClampNeg)) - (Int32.ofInt (48)))) 104 7 ((xI h 104 7) + (Int32.ofInt (1)))) := rr.fr (by rw [yI_ne (by decide), yI_ne (by decide)]) (fun k => by rw [yI_c (by decide), yI_c (by decide)])
          obtain ⟨h2, tL, g2, e2, e3⟩ := mk_digL l b n q m (p + 1) _ g1.1 r' hn7 (by rw [yI_same]; omega) (by omega) (by omega) (by rw [yI_ne (by decide), yI_same]; exact ed)
          rw [sDr_y (by omega) yl]
          exact ⟨h2, t6.tr tL, g1.tr g2, e2, e3⟩
        · have e_99999 : (Int32.ofInt (99999)).toInt = 99999 := rfl
          have dc5 : (Int32.ofInt (99999)).toInt < (xI h 104 9).toInt := Int32.lt_iff_toInt_lt.mp (Int32.not_le.mp c5)
          have t7 : XT l 1 27 false 180 153 6051 213 [xf 13 104] [] h 213 [xf 13 104] [] (xsetI (xsetI h 104 9 (xI h 104 9)) 104 7 ((xI h 104 7) + (Int32.ofInt (1)))) := XT_path (l := l) (fr := 1) (lo := 27) (full := false) (M := 180) (n := 153) (u := 6051) (pc := 213) (L := [xf 13 104]) (st := []) (h := h) (inl := [184]) (n' := 90) (sp := [213]) (o := [0, 0, 0, 0, 0]) rfl rfl ⟨rfl, rfl, rfl⟩ rfl ⟨Nat.le_of_eq hg.2.2.2.1, Nat.le_of_eq hg.2.2.2.2⟩ ⟨⟨⟨⟨⟨⟨⟨⟨⟨⟨trivial, (fun z => absurd (Int32.le_iff_toInt_le.mp z) (by omega))⟩, (vnn hg.1 (rfl : vRf 104 0 = [105]) (by decide))⟩, (vp_of (i := (xI h 104 7)) (n := 700) (by omega) (by omega))⟩, c1⟩, (vnn hg.1 (rfl : vRf 104 0 = [105]) (by decide))⟩, (vp_of (i := (xI h 104 7)) (n := 700) (by omega) (by omega))⟩, c3⟩, (Or.inr rfl)⟩, (by decide)⟩, c5⟩
          have yl : 48 ≤ b p ∧ b p ≤ 57 := by rw [lw]; omega
          have ebv : b p = (xI h 105 (xI h 104 7).toNatClampNeg).toInt := by rw [← np, ← eb]; exact sby_val (a := 48) (b := 57) (by decide) (by decide) (lw ▸ yl)
          have z : sNm b q (p - q + 1) = min 10000 (sNm b q (p - q) * 10 + b (q + (p - q)) - 48) := rfl
          rw [show q + (p - q) = p by omega, ← show p + 1 - q = p - q + 1 by omega] at z
          have ed : sDg (sNm b q (p + 1 - q)) ((xI h 104 9)).toInt := by
            unfold sDg at hd ⊢
            rw [z]
            omega
          have g0 : mT ([(104, 7, false), (104, 9, false)], []) h (xsetI h 104 9 (xI h 104 9)) := (mT.rf hg).set (c := 104) (k := 9) (v := (xI h 104 9)) (show (-2147483648 : Int) ≤ _ ∧ _ ≤ 2147483647 from i32r_of _) rfl
          have g1 : mT ([(104, 7, false), (104, 9, false)], []) h (xsetI (xsetI h 104 9 (xI h 104 9)) 104 7 ((xI h 104 7) + (Int32.ofInt (1)))) := g0.set (c := 104) (k := 7) (v := ((xI h 104 7) + (Int32.ofInt (1)))) (show (0 : Int) ≤ _ ∧ _ ≤ 700 from ⟨by omega, by omega⟩) rfl
          have r' : mR b n (xsetI (xsetI h 104 9 (xI h 104 9)) 104 7 ((xI h 104 7) + (Int32.ofInt (1)))) := rr.fr (by rw [yI_ne (by decide), yI_ne (by decide)]) (fun k => by rw [yI_c (by decide), yI_c (by decide)])
          obtain ⟨h2, tL, g2, e2, e3⟩ := mk_digL l b n q m (p + 1) _ g1.1 r' hn7 (by rw [yI_same]; omega) (by omega) (by omega) (by rw [yI_ne (by decide), yI_same]; exact ed)
          rw [sDr_y (by omega) yl]
          exact ⟨h2, t7.tr tL, g1.tr g2, e2, e3⟩
theorem sIdx_r (x : Int32) : ∀ (l : List Int32) (w : Int), sIdx l x w = 3 ∨ (w ≤ sIdx l x w ∧ sIdx l x w < w + l.length)
  | [], _ => Or.inl rfl
  | c :: l, w => by
    have ih := sIdx_r x l (w + 1)
    have e : sIdx (c :: l) x w = if c = x then w else sIdx l x (w + 1) := rfl
    rw [e, List.length_cons]
    split
    · omega
    · omega
theorem sWord_r (x : Int32) : sWord x = 3 ∨ (20 ≤ sWord x ∧ sWord x ≤ 39) := by
  have z := sIdx_r x sWl 20
  have e : sWl.length = 20 := by decide +kernel
  rw [e] at z
  unfold sWord
  omega
theorem sIt {α : Type} {P : α → Prop} {c : Prop} {d : Decidable c} {x y : α} (h1 : c → P x) (h2 : ¬ c → P y) : P (@ite α c d x y) := by
  cases d with
  | isTrue w => exact h1 w
  | isFalse w => exact h2 w
theorem sSg_all (P : Int × Nat → Prop) {b : Nat → Int} {n q : Nat} (h1 : ∀ c : Int, 1 ≤ c → c ≤ 16 → P (c, q + 1)) (h2 : ∀ c : Int, 1 ≤ c → c ≤ 16 → q + 1 < n → P (c, q + 2)) : P (sSg b n q) := by
  unfold sSg
  exact sIt (fun _ => h1 4 (by decide) (by decide)) (fun _ => sIt (fun _ => h1 5 (by decide) (by decide)) (fun _ => sIt (fun _ => h1 6 (by decide) (by decide)) (fun _ => sIt (fun _ => h1 13 (by decide) (by decide)) (fun _ => sIt (fun _ => h1 14 (by decide) (by decide)) (fun _ => sIt (fun _ => h1 15 (by decide) (by decide)) (fun _ => sIt (fun _ => h1 16 (by decide) (by decide)) (fun _ => sIt (fun _ => h1 9 (by decide) (by decide)) (fun _ => sIt (fun _ => sIt (fun y => h2 8 (by decide) (by decide) y.1) (fun _ => sIt (fun y => h2 10 (by decide) (by decide) y.1) (fun _ => h1 7 (by decide) (by decide)))) (fun _ => sIt (fun _ => sIt (fun y => h2 11 (by decide) (by decide) y.1) (fun _ => h1 12 (by decide) (by decide))) (fun _ => h1 1 (by decide) (by decide)))))))))))
theorem sSg_b {b : Nat → Int} {n q : Nat} (h : q < n) : q + 1 ≤ (sSg b n q).2 ∧ (sSg b n q).2 ≤ n :=
  sSg_all (fun z => q + 1 ≤ z.2 ∧ z.2 ≤ n) (fun c _ _ => ⟨Nat.le_refl _, h⟩) (fun c _ _ z => ⟨Nat.le_succ _, z⟩)
theorem sSg_c (b : Nat → Int) (n q : Nat) : 1 ≤ (sSg b n q).1 ∧ (sSg b n q).1 ≤ 16 :=
  sSg_all (fun z => 1 ≤ z.1 ∧ z.1 ≤ 16) (fun c h1 h2 => ⟨h1, h2⟩) (fun c h1 h2 _ => ⟨h1, h2⟩)
theorem sTk_b {b : Nat → Int} {n q : Nat} (h : q ≤ n) : q ≤ (sTk b n q).2.2 ∧ (sTk b n q).2.2 ≤ n ∧ (q < n → q < (sTk b n q).2.2) := by
  have h1 := sLr_b b (n - q) q
  have h2 := sDr_b b (n - q) q
  have y1 : 97 ≤ b q ∧ b q ≤ 122 → q < n → q + 1 ≤ sLr b (n - q) q := fun z w => by
    rw [sLr_y w z]
    exact (sLr_b b (n - (q + 1)) (q + 1)).1
  have y2 : 48 ≤ b q ∧ b q ≤ 57 → q < n → q + 1 ≤ sDr b (n - q) q := fun z w => by
    rw [sDr_y w z]
    exact (sDr_b b (n - (q + 1)) (q + 1)).1
  unfold sTk
  split
  · dsimp only
    omega
  · split
    · dsimp only
      omega
    · split
      · dsimp only
        omega
      · have h3 := sSg_b (b := b) (n := n) (q := q) (by omega)
        dsimp only
        omega
set_option maxRecDepth 100000 in
set_option maxHeartbeats 2000000 in
theorem mk_tok (l : Launch) (b : Nat → Int) (n p : Nat) (h : XH) (hg : sgood vT vR vE 153 6051 h) (rr : mR b n h) (hn7 : n ≤ 700) (hpn : p ≤ n) (hp : (xI h 104 7).toInt = p) : ∃ h', CX l 1 27 false 180 [xf 13 104] h [] h' ∧ vG ([(104, 7, false), (104, 8, false), (104, 9, false), (104, 10, false)], []) h h' ∧ (xI h' 104 10).toInt = sSk b (n - p) p ∧ (xI h' 104 7).toInt = (sTk b n (sSk b (n - p) p)).2.2 ∧ sKw (sTk b n (sSk b (n - p) p)).1 (sTk b n (sSk b (n - p) p)).2.1 (xI h' 104 8).toInt (xI h' 104 9).toInt := by
  obtain ⟨h1, tS, g1, e1⟩ := mk_skip l b n (n - p) p h (mI.of hg) rr hn7 hp (by omega)
  have sb := sSk_b b (n - p) p
  obtain ⟨q, eq⟩ : ∃ z, z = sSk b (n - p) p := ⟨_, rfl⟩
  rw [← eq] at e1 sb ⊢
  have tb := sTk_b (b := b) (n := n) (q := q) (by omega)
  have g1w : mT ([(104, 7, false), (104, 8, false), (104, 9, false), (104, 10, false)], []) h h1 := ⟨g1.1, g1.2.mono rfl rfl⟩
  have r1 := rr.w g1.2 rfl (fun _ => rfl)
  have r15 := r1.1
  have g2 : mT ([(104, 7, false), (104, 8, false), (104, 9, false), (104, 10, false)], []) h (xsetI h1 104 10 (xI h1 104 7)) := g1w.set (c := 104) (k := 10) (v := (xI h1 104 7)) (show (0 : Int) ≤ _ ∧ _ ≤ 700 from ⟨by omega, by omega⟩) rfl
  have r2 : mR b n (xsetI h1 104 10 (xI h1 104 7)) := r1.fr (yI_ne (by decide)) (fun k => yI_c (by decide))
  have p2 : (xI (xsetI h1 104 10 (xI h1 104 7)) 104 7).toInt = q := by rw [yI_ne (by decide)]; exact e1
  have s2 : (xI (xsetI h1 104 10 (xI h1 104 7)) 104 6).toInt = n := r2.1
  have q2 : (xI (xsetI h1 104 10 (xI h1 104 7)) 104 10).toInt = q := by rw [yI_same]; exact e1
  have fin : ∀ h', CX l 1 27 false 180 [xf 13 104] h [] h' → mT ([(104, 7, false), (104, 8, false), (104, 9, false), (104, 10, false)], []) h h' → (xI h' 104 10).toInt = q → (xI h' 104 7).toInt = (sTk b n q).2.2 → sKw (sTk b n q).1 (sTk b n q).2.1 (xI h' 104 8).toInt (xI h' 104 9).toInt → ((xI h' 104 8).toInt = 1 → 0 ≤ (xI h' 104 9).toInt ∧ (xI h' 104 9).toInt ≤ 19) → ∃ h', CX l 1 27 false 180 [xf 13 104] h [] h' ∧ vG ([(104, 7, false), (104, 8, false), (104, 9, false), (104, 10, false)], []) h h' ∧ (xI h' 104 10).toInt = q ∧ (xI h' 104 7).toInt = (sTk b n q).2.2 ∧ sKw (sTk b n q).1 (sTk b n q).2.1 (xI h' 104 8).toInt (xI h' 104 9).toInt := fun h' c m a a7 k k1 => ⟨h', c, m.good hg (by have z : xI h' 104 6 = xI h 104 6 := m.2.1 104 6 rfl; rw [z, rr.1, a7]; omega) k1 (sKw_5 k), a, a7, k⟩
  by_cases c1 : (xI h1 104 7) = (xI h1 104 6)
  · have dc1 : (xI h1 104 7).toInt = (xI h1 104 6).toInt := congrArg Int32.toInt c1
    have t2 : XT l 1 27 false 180 153 6051 52 [xf 13 104] [] h1 281 [xf 13 104] [] (xsetI (xsetI h1 104 10 (xI h1 104 7)) 104 8 (Int32.ofInt (0))) := XT_path (l := l) (fr := 1) (lo := 27) (full := false) (M := 180) (n := 153) (u := 6051) (pc := 52) (L := [xf 13 104]) (st := []) (h := h1) (inl := [181, 184]) (n' := 120) (sp := [281]) (o := [0]) rfl rfl ⟨rfl, rfl, rfl⟩ rfl ⟨Nat.le_of_eq g1.1.2.2.2.1, Nat.le_of_eq g1.1.2.2.2.2⟩ ⟨trivial, c1⟩
    have t3 := tS.tr t2
    have g3 : mT ([(104, 7, false), (104, 8, false), (104, 9, false), (104, 10, false)], []) h (xsetI (xsetI h1 104 10 (xI h1 104 7)) 104 8 (Int32.ofInt (0))) := g2.set (c := 104) (k := 8) (v := (Int32.ofInt (0))) (show (0 : Int) ≤ _ ∧ _ ≤ 6 from by decide) rfl
    have es : sTk b n q = (0, 0, q) := if_pos (by omega)
    have k8 : (xI (xsetI (xsetI h1 104 10 (xI h1 104 7)) 104 8 (Int32.ofInt (0))) 104 8).toInt = 0 := by rw [yI_same]; rfl
    exact fin _ (CX_ofT (h' := (xsetI (xsetI h1 104 10 (xI h1 104 7)) 104 8 (Int32.ofInt (0)))) (by decide) rfl rfl trivial ⟨_, _, _, rfl, rfl, rfl⟩ rfl ⟨Nat.le_of_eq g1.1.2.2.2.1.symm, Nat.le_of_eq g1.1.2.2.2.2.symm⟩ t3) g3 (by rw [yI_ne (by decide)]; exact q2) (by rw [yI_ne (by decide), es]; exact p2) (by rw [es]; exact Or.inl ⟨rfl, k8⟩) (fun z => by omega)
  · have dc1 : ¬ (xI h1 104 7).toInt = (xI h1 104 6).toInt := fun z_ => c1 (Int32.toInt_inj.mp z_)
    by_cases c4 : (xI (xsetI h1 104 10 (xI h1 104 7)) (xR h1 104 0) ((xI h1 104 7)).toNatClampNeg) < (Int32.ofInt (97))
    · have e_97 : (Int32.ofInt (97)).toInt = 97 := rfl
      have c4r := c4
      rw [vref g1.1.1 (rfl : vRf 104 0 = [105])] at c4r
      have dc4 : (xI h1 105 ((xI h1 104 7)).toNatClampNeg).toInt < (Int32.ofInt (97)).toInt := Int32.lt_iff_toInt_lt.mp c4r
      by_cases c5 : (xI (xsetI h1 104 10 (xI h1 104 7)) (xR h1 104 0) ((xI h1 104 7)).toNatClampNeg) < (Int32.ofInt (48))
      · have e_48 : (Int32.ofInt (48)).toInt = 48 := rfl
        have c5r := c5
        rw [vref g1.1.1 (rfl : vRf 104 0 = [105])] at c5r
        have dc5 : (xI h1 105 ((xI h1 104 7)).toNatClampNeg).toInt < (Int32.ofInt (48)).toInt := Int32.lt_iff_toInt_lt.mp c5r
        have t6 : XT l 1 27 false 180 153 6051 52 [xf 13 104] [] h1 278 [xf 13 104] [xf 13 104] (xsetI h1 104 10 (xI h1 104 7)) := XT_path (l := l) (fr := 1) (lo := 27) (full := false) (M := 180) (n := 153) (u := 6051) (pc := 52) (L := [xf 13 104]) (st := []) (h := h1) (inl := [181, 184]) (n' := 120) (sp := [278]) (o := [1, 0, 1, 1, 0, 1, 1]) rfl rfl ⟨rfl, rfl, rfl⟩ rfl ⟨Nat.le_of_eq g1.1.2.2.2.1, Nat.le_of_eq g1.1.2.2.2.2⟩ ⟨⟨⟨⟨⟨⟨⟨⟨⟨⟨⟨⟨⟨trivial, c1⟩, (fun z => absurd (Int32.le_iff_toInt_le.mp z) (by omega))⟩, (vnn g1.1.1 (rfl : vRf 104 0 = [105]) (by decide))⟩, (vp_of (i := (xI h1 104 7)) (n := 700) (by omega) (by omega))⟩, c4⟩, (Or.inl rfl)⟩, rfl⟩, (fun z => absurd (Int32.le_iff_toInt_le.mp z) (by omega))⟩, (vnn g1.1.1 (rfl : vRf 104 0 = [105]) (by decide))⟩, (vp_of (i := (xI h1 104 7)) (n := 700) (by omega) (by omega))⟩, c5⟩, (Or.inl rfl)⟩, rfl⟩
        have t7 := tS.tr t6
        have np : (xI h1 104 7).toNatClampNeg = q := by
          show (xI h1 104 7).toInt.toNat = q
          omega
        have eb := r1.2 q (by omega)
        rw [← np] at eb
        have lw : (97 ≤ b q ∧ b q ≤ 122) = (97 ≤ (xI h1 105 (xI h1 104 7).toNatClampNeg).toInt ∧ (xI h1 105 (xI h1 104 7).toNatClampNeg).toInt ≤ 122) := by rw [← np, ← eb]; exact sby_in (by decide) (by decide)
        have dw : (48 ≤ b q ∧ b q ≤ 57) = (48 ≤ (xI h1 105 (xI h1 104 7).toNatClampNeg).toInt ∧ (xI h1 105 (xI h1 104 7).toNatClampNeg).toInt ≤ 57) := by rw [← np, ← eb]; exact sby_in (by decide) (by decide)
        have nl : ¬ (97 ≤ b q ∧ b q ≤ 122) := by rw [lw]; omega
        have nd : ¬ (48 ≤ b q ∧ b q ≤ 57) := by rw [dw]; omega
        obtain ⟨h5, c5, g5, e5, k5⟩ := mk_sign l b n q (xsetI h1 104 10 (xI h1 104 7)) g2.1 r2 hn7 (by omega) p2
        have es : sTk b n q = ((sSg b n q).1, 0, (sSg b n q).2) := (if_neg (by omega)).trans ((if_neg nl).trans (if_neg nd))
        have t8 : XT l 1 27 false 180 153 6051 278 [xf 13 104] [xf 13 104] (xsetI h1 104 10 (xI h1 104 7)) 281 [xf 13 104] [] h5 := XT_call (l := l) (fr := 1) (lo := 27) (full := false) (M := 180) (n := 153) (u := 6051) (pc := 278) (L := [xf 13 104]) (st := [xf 13 104]) (h := (xsetI h1 104 10 (xI h1 104 7))) (i := .invokevirtual 185) (aux := 1) (nx := 281) (K := 185) (vs := [xf 13 104]) (rs := []) (rest := []) rfl rfl rfl rfl rfl rfl c5 (by decide) (by decide) (Nat.le_of_ble_eq_true rfl) ⟨Nat.le_of_eq g5.1.2.2.2.1, Nat.le_of_eq g5.1.2.2.2.2⟩
        have t9 := t7.tr t8
        have g5w : mT ([(104, 7, false), (104, 8, false), (104, 9, false), (104, 10, false)], []) h h5 := g2.tr ⟨g5.1, g5.2.mono rfl rfl⟩
        exact fin _ (CX_ofT (h' := h5) (by decide) rfl rfl trivial ⟨_, _, _, rfl, rfl, rfl⟩ rfl ⟨Nat.le_of_eq g5.1.2.2.2.1.symm, Nat.le_of_eq g5.1.2.2.2.2.symm⟩ t9) g5w (by rw [g5.2.1 104 10 rfl]; exact q2) (by rw [es]; exact e5) (by rw [es]; exact k5) (fun z => by have zc := sSg_c b n q; unfold sKw at k5; omega)
      · have e_48 : (Int32.ofInt (48)).toInt = 48 := rfl
        have c5r := c5
        rw [vref g1.1.1 (rfl : vRf 104 0 = [105])] at c5r
        have dc5 : (Int32.ofInt (48)).toInt ≤ (xI h1 105 ((xI h1 104 7)).toNatClampNeg).toInt := Int32.le_iff_toInt_le.mp (Int32.not_lt.mp c5r)
        by_cases c10 : (Int32.ofInt (57)) < (xI (xsetI h1 104 10 (xI h1 104 7)) (xR h1 104 0) ((xI h1 104 7)).toNatClampNeg)
        · have e_57 : (Int32.ofInt (57)).toInt = 57 := rfl
          have c10r := c10
          rw [vref g1.1.1 (rfl : vRf 104 0 = [105])] at c10r
          have dc10 : (Int32.ofInt (57)).toInt < (xI h1 105 ((xI h1 104 7)).toNatClampNeg).toInt := Int32.lt_iff_toInt_lt.mp c10r
          have t11 : XT l 1 27 false 180 153 6051 52 [xf 13 104] [] h1 278 [xf 13 104] [xf 13 104] (xsetI h1 104 10 (xI h1 104 7)) := XT_path (l := l) (fr := 1) (lo := 27) (full := false) (M := 180) (n := 153) (u := 6051) (pc := 52) (L := [xf 13 104]) (st := []) (h := h1) (inl := [181, 184]) (n' := 120) (sp := [278]) (o := [1, 0, 1, 1, 0, 0, 1, 1]) rfl rfl ⟨rfl, rfl, rfl⟩ rfl ⟨Nat.le_of_eq g1.1.2.2.2.1, Nat.le_of_eq g1.1.2.2.2.2⟩ ⟨⟨⟨⟨⟨⟨⟨⟨⟨⟨⟨⟨⟨⟨⟨⟨trivial, c1⟩, (fun z => absurd (Int32.le_iff_toInt_le.mp z) (by omega))⟩, (vnn g1.1.1 (rfl : vRf 104 0 = [105]) (by decide))⟩, (vp_of (i := (xI h1 104 7)) (n := 700) (by omega) (by omega))⟩, c4⟩, (Or.inl rfl)⟩, rfl⟩, (fun z => absurd (Int32.le_iff_toInt_le.mp z) (by omega))⟩, (vnn g1.1.1 (rfl : vRf 104 0 = [105]) (by decide))⟩, (vp_of (i := (xI h1 104 7)) (n := 700) (by omega) (by omega))⟩, c5⟩, (vnn g1.1.1 (rfl : vRf 104 0 = [105]) (by decide))⟩, (vp_of (i := (xI h1 104 7)) (n := 700) (by omega) (by omega))⟩, c10⟩, (Or.inl rfl)⟩, rfl⟩
          have t12 := tS.tr t11
          have np : (xI h1 104 7).toNatClampNeg = q := by
            show (xI h1 104 7).toInt.toNat = q
            omega
          have eb := r1.2 q (by omega)
          rw [← np] at eb
          have lw : (97 ≤ b q ∧ b q ≤ 122) = (97 ≤ (xI h1 105 (xI h1 104 7).toNatClampNeg).toInt ∧ (xI h1 105 (xI h1 104 7).toNatClampNeg).toInt ≤ 122) := by rw [← np, ← eb]; exact sby_in (by decide) (by decide)
          have dw : (48 ≤ b q ∧ b q ≤ 57) = (48 ≤ (xI h1 105 (xI h1 104 7).toNatClampNeg).toInt ∧ (xI h1 105 (xI h1 104 7).toNatClampNeg).toInt ≤ 57) := by rw [← np, ← eb]; exact sby_in (by decide) (by decide)
          have nl : ¬ (97 ≤ b q ∧ b q ≤ 122) := by rw [lw]; omega
          have nd : ¬ (48 ≤ b q ∧ b q ≤ 57) := by rw [dw]; omega
          obtain ⟨h5, c5, g5, e5, k5⟩ := mk_sign l b n q (xsetI h1 104 10 (xI h1 104 7)) g2.1 r2 hn7 (by omega) p2
          have es : sTk b n q = ((sSg b n q).1, 0, (sSg b n q).2) := (if_neg (by omega)).trans ((if_neg nl).trans (if_neg nd))
          have t13 : XT l 1 27 false 180 153 6051 278 [xf 13 104] [xf 13 104] (xsetI h1 104 10 (xI h1 104 7)) 281 [xf 13 104] [] h5 := XT_call (l := l) (fr := 1) (lo := 27) (full := false) (M := 180) (n := 153) (u := 6051) (pc := 278) (L := [xf 13 104]) (st := [xf 13 104]) (h := (xsetI h1 104 10 (xI h1 104 7))) (i := .invokevirtual 185) (aux := 1) (nx := 281) (K := 185) (vs := [xf 13 104]) (rs := []) (rest := []) rfl rfl rfl rfl rfl rfl c5 (by decide) (by decide) (Nat.le_of_ble_eq_true rfl) ⟨Nat.le_of_eq g5.1.2.2.2.1, Nat.le_of_eq g5.1.2.2.2.2⟩
          have t14 := t12.tr t13
          have g5w : mT ([(104, 7, false), (104, 8, false), (104, 9, false), (104, 10, false)], []) h h5 := g2.tr ⟨g5.1, g5.2.mono rfl rfl⟩
          exact fin _ (CX_ofT (h' := h5) (by decide) rfl rfl trivial ⟨_, _, _, rfl, rfl, rfl⟩ rfl ⟨Nat.le_of_eq g5.1.2.2.2.1.symm, Nat.le_of_eq g5.1.2.2.2.2.symm⟩ t14) g5w (by rw [g5.2.1 104 10 rfl]; exact q2) (by rw [es]; exact e5) (by rw [es]; exact k5) (fun z => by have zc := sSg_c b n q; unfold sKw at k5; omega)
        · have e_57 : (Int32.ofInt (57)).toInt = 57 := rfl
          have c10r := c10
          rw [vref g1.1.1 (rfl : vRf 104 0 = [105])] at c10r
          have dc10 : (xI h1 105 ((xI h1 104 7)).toNatClampNeg).toInt ≤ (Int32.ofInt (57)).toInt := Int32.le_iff_toInt_le.mp (Int32.not_lt.mp c10r)
          have t15 : XT l 1 27 false 180 153 6051 52 [xf 13 104] [] h1 213 [xf 13 104] [] (xsetI (xsetI (xsetI h1 104 10 (xI h1 104 7)) 104 8 (Int32.ofInt (3))) 104 9 (Int32.ofInt (0))) := XT_path (l := l) (fr := 1) (lo := 27) (full := false) (M := 180) (n := 153) (u := 6051) (pc := 52) (L := [xf 13 104]) (st := []) (h := h1) (inl := [181, 184]) (n' := 120) (sp := [213]) (o := [1, 0, 1, 1, 0, 0, 0, 0]) rfl rfl ⟨rfl, rfl, rfl⟩ rfl ⟨Nat.le_of_eq g1.1.2.2.2.1, Nat.le_of_eq g1.1.2.2.2.2⟩ ⟨⟨⟨⟨⟨⟨⟨⟨⟨⟨⟨⟨⟨⟨⟨⟨trivial, c1⟩, (fun z => absurd (Int32.le_iff_toInt_le.mp z) (by omega))⟩, (vnn g1.1.1 (rfl : vRf 104 0 = [105]) (by decide))⟩, (vp_of (i := (xI h1 104 7)) (n := 700) (by omega) (by omega))⟩, c4⟩, (Or.inl rfl)⟩, rfl⟩, (fun z => absurd (Int32.le_iff_toInt_le.mp z) (by omega))⟩, (vnn g1.1.1 (rfl : vRf 104 0 = [105]) (by decide))⟩, (vp_of (i := (xI h1 104 7)) (n := 700) (by omega) (by omega))⟩, c5⟩, (vnn g1.1.1 (rfl : vRf 104 0 = [105]) (by decide))⟩, (vp_of (i := (xI h1 104 7)) (n := 700) (by omega) (by omega))⟩, c10⟩, (Or.inr rfl)⟩, (by decide)⟩
          have t16 := tS.tr t15
          have np : (xI h1 104 7).toNatClampNeg = q := by
            show (xI h1 104 7).toInt.toNat = q
            omega
          have eb := r1.2 q (by omega)
          rw [← np] at eb
          have lw : (97 ≤ b q ∧ b q ≤ 122) = (97 ≤ (xI h1 105 (xI h1 104 7).toNatClampNeg).toInt ∧ (xI h1 105 (xI h1 104 7).toNatClampNeg).toInt ≤ 122) := by rw [← np, ← eb]; exact sby_in (by decide) (by decide)
          have dw : (48 ≤ b q ∧ b q ≤ 57) = (48 ≤ (xI h1 105 (xI h1 104 7).toNatClampNeg).toInt ∧ (xI h1 105 (xI h1 104 7).toNatClampNeg).toInt ≤ 57) := by rw [← np, ← eb]; exact sby_in (by decide) (by decide)
          have nl : ¬ (97 ≤ b q ∧ b q ≤ 122) := by rw [lw]; omega
          have yd : 48 ≤ b q ∧ b q ≤ 57 := by rw [dw]; omega
          have g3 : mT ([(104, 7, false), (104, 8, false), (104, 9, false), (104, 10, false)], []) h (xsetI (xsetI h1 104 10 (xI h1 104 7)) 104 8 (Int32.ofInt (3))) := g2.set (c := 104) (k := 8) (v := (Int32.ofInt (3))) (show (0 : Int) ≤ _ ∧ _ ≤ 6 from by decide) rfl
          have g4 : mT ([(104, 7, false), (104, 8, false), (104, 9, false), (104, 10, false)], []) h (xsetI (xsetI (xsetI h1 104 10 (xI h1 104 7)) 104 8 (Int32.ofInt (3))) 104 9 (Int32.ofInt (0))) := g3.set (c := 104) (k := 9) (v := (Int32.ofInt (0))) (show (-2147483648 : Int) ≤ _ ∧ _ ≤ 2147483647 from i32r_of _) rfl
          have r4 : mR b n (xsetI (xsetI (xsetI h1 104 10 (xI h1 104 7)) 104 8 (Int32.ofInt (3))) 104 9 (Int32.ofInt (0))) := r2.fr (by rw [yI_ne (by decide), yI_ne (by decide)]) (fun k => by rw [yI_c (by decide), yI_c (by decide)])
          obtain ⟨h5, tl, g5, e5, d5⟩ := mk_digL l b n q (n - q) q (xsetI (xsetI (xsetI h1 104 10 (xI h1 104 7)) 104 8 (Int32.ofInt (3))) 104 9 (Int32.ofInt (0))) g4.1 r4 hn7 (by rw [yI_ne (by decide), yI_ne (by decide)]; exact p2) (Nat.le_refl _) (by omega) (by rw [yI_same, Nat.sub_self]; exact Or.inl ⟨rfl, by decide, by decide⟩)
          have es : sTk b n q = (2, sNm b q (sDr b (n - q) q - q), sDr b (n - q) q) := (if_neg (by omega)).trans ((if_neg nl).trans (if_pos yd))
          have g5w : mT ([(104, 7, false), (104, 8, false), (104, 9, false), (104, 10, false)], []) h h5 := g4.tr ⟨g5.1, g5.2.mono rfl rfl⟩
          have k8 : (xI h5 104 8).toInt = 3 := by rw [g5.2.1 104 8 rfl, yI_ne (by decide), yI_same]; rfl
          have t17 := t16.tr tl
          exact fin _ (CX_ofT (h' := h5) (by decide) rfl rfl trivial ⟨_, _, _, rfl, rfl, rfl⟩ rfl ⟨Nat.le_of_eq g5.1.2.2.2.1.symm, Nat.le_of_eq g5.1.2.2.2.2.symm⟩ t17) g5w (by rw [g5.2.1 104 10 rfl, yI_ne (by decide), yI_ne (by decide)]; exact q2) (by rw [es]; exact e5) (by rw [es]; exact Or.inr (Or.inr (Or.inl ⟨rfl, k8, d5.imp (fun z => ⟨z.1, z.2.2⟩) (fun z => ⟨z.1, z.2.1⟩)⟩))) (fun z => by omega)
    · have e_97 : (Int32.ofInt (97)).toInt = 97 := rfl
      have c4r := c4
      rw [vref g1.1.1 (rfl : vRf 104 0 = [105])] at c4r
      have dc4 : (Int32.ofInt (97)).toInt ≤ (xI h1 105 ((xI h1 104 7)).toNatClampNeg).toInt := Int32.le_iff_toInt_le.mp (Int32.not_lt.mp c4r)
      by_cases c18 : (Int32.ofInt (122)) < (xI (xsetI h1 104 10 (xI h1 104 7)) (xR h1 104 0) ((xI h1 104 7)).toNatClampNeg)
      · have e_122 : (Int32.ofInt (122)).toInt = 122 := rfl
        have c18r := c18
        rw [vref g1.1.1 (rfl : vRf 104 0 = [105])] at c18r
        have dc18 : (Int32.ofInt (122)).toInt < (xI h1 105 ((xI h1 104 7)).toNatClampNeg).toInt := Int32.lt_iff_toInt_lt.mp c18r
        by_cases c19 : (xI (xsetI h1 104 10 (xI h1 104 7)) (xR h1 104 0) ((xI h1 104 7)).toNatClampNeg) < (Int32.ofInt (48))
        · have e_48 : (Int32.ofInt (48)).toInt = 48 := rfl
          have c19r := c19
          rw [vref g1.1.1 (rfl : vRf 104 0 = [105])] at c19r
          have dc19 : (xI h1 105 ((xI h1 104 7)).toNatClampNeg).toInt < (Int32.ofInt (48)).toInt := Int32.lt_iff_toInt_lt.mp c19r
          have t20 : XT l 1 27 false 180 153 6051 52 [xf 13 104] [] h1 278 [xf 13 104] [xf 13 104] (xsetI h1 104 10 (xI h1 104 7)) := XT_path (l := l) (fr := 1) (lo := 27) (full := false) (M := 180) (n := 153) (u := 6051) (pc := 52) (L := [xf 13 104]) (st := []) (h := h1) (inl := [181, 184]) (n' := 120) (sp := [278]) (o := [1, 0, 0, 1, 1, 0, 1, 1]) rfl rfl ⟨rfl, rfl, rfl⟩ rfl ⟨Nat.le_of_eq g1.1.2.2.2.1, Nat.le_of_eq g1.1.2.2.2.2⟩ ⟨⟨⟨⟨⟨⟨⟨⟨⟨⟨⟨⟨⟨⟨⟨⟨trivial, c1⟩, (fun z => absurd (Int32.le_iff_toInt_le.mp z) (by omega))⟩, (vnn g1.1.1 (rfl : vRf 104 0 = [105]) (by decide))⟩, (vp_of (i := (xI h1 104 7)) (n := 700) (by omega) (by omega))⟩, c4⟩, (vnn g1.1.1 (rfl : vRf 104 0 = [105]) (by decide))⟩, (vp_of (i := (xI h1 104 7)) (n := 700) (by omega) (by omega))⟩, c18⟩, (Or.inl rfl)⟩, rfl⟩, (fun z => absurd (Int32.le_iff_toInt_le.mp z) (by omega))⟩, (vnn g1.1.1 (rfl : vRf 104 0 = [105]) (by decide))⟩, (vp_of (i := (xI h1 104 7)) (n := 700) (by omega) (by omega))⟩, c19⟩, (Or.inl rfl)⟩, rfl⟩
          have t21 := tS.tr t20
          have np : (xI h1 104 7).toNatClampNeg = q := by
            show (xI h1 104 7).toInt.toNat = q
            omega
          have eb := r1.2 q (by omega)
          rw [← np] at eb
          have lw : (97 ≤ b q ∧ b q ≤ 122) = (97 ≤ (xI h1 105 (xI h1 104 7).toNatClampNeg).toInt ∧ (xI h1 105 (xI h1 104 7).toNatClampNeg).toInt ≤ 122) := by rw [← np, ← eb]; exact sby_in (by decide) (by decide)
          have dw : (48 ≤ b q ∧ b q ≤ 57) = (48 ≤ (xI h1 105 (xI h1 104 7).toNatClampNeg).toInt ∧ (xI h1 105 (xI h1 104 7).toNatClampNeg).toInt ≤ 57) := by rw [← np, ← eb]; exact sby_in (by decide) (by decide)
          have nl : ¬ (97 ≤ b q ∧ b q ≤ 122) := by rw [lw]; omega
          have nd : ¬ (48 ≤ b q ∧ b q ≤ 57) := by rw [dw]; omega
          obtain ⟨h5, c5, g5, e5, k5⟩ := mk_sign l b n q (xsetI h1 104 10 (xI h1 104 7)) g2.1 r2 hn7 (by omega) p2
          have es : sTk b n q = ((sSg b n q).1, 0, (sSg b n q).2) := (if_neg (by omega)).trans ((if_neg nl).trans (if_neg nd))
          have t22 : XT l 1 27 false 180 153 6051 278 [xf 13 104] [xf 13 104] (xsetI h1 104 10 (xI h1 104 7)) 281 [xf 13 104] [] h5 := XT_call (l := l) (fr := 1) (lo := 27) (full := false) (M := 180) (n := 153) (u := 6051) (pc := 278) (L := [xf 13 104]) (st := [xf 13 104]) (h := (xsetI h1 104 10 (xI h1 104 7))) (i := .invokevirtual 185) (aux := 1) (nx := 281) (K := 185) (vs := [xf 13 104]) (rs := []) (rest := []) rfl rfl rfl rfl rfl rfl c5 (by decide) (by decide) (Nat.le_of_ble_eq_true rfl) ⟨Nat.le_of_eq g5.1.2.2.2.1, Nat.le_of_eq g5.1.2.2.2.2⟩
          have t23 := t21.tr t22
          have g5w : mT ([(104, 7, false), (104, 8, false), (104, 9, false), (104, 10, false)], []) h h5 := g2.tr ⟨g5.1, g5.2.mono rfl rfl⟩
          exact fin _ (CX_ofT (h' := h5) (by decide) rfl rfl trivial ⟨_, _, _, rfl, rfl, rfl⟩ rfl ⟨Nat.le_of_eq g5.1.2.2.2.1.symm, Nat.le_of_eq g5.1.2.2.2.2.symm⟩ t23) g5w (by rw [g5.2.1 104 10 rfl]; exact q2) (by rw [es]; exact e5) (by rw [es]; exact k5) (fun z => by have zc := sSg_c b n q; unfold sKw at k5; omega)
        · have e_48 : (Int32.ofInt (48)).toInt = 48 := rfl
          have c19r := c19
          rw [vref g1.1.1 (rfl : vRf 104 0 = [105])] at c19r
          have dc19 : (Int32.ofInt (48)).toInt ≤ (xI h1 105 ((xI h1 104 7)).toNatClampNeg).toInt := Int32.le_iff_toInt_le.mp (Int32.not_lt.mp c19r)
          by_cases c24 : (Int32.ofInt (57)) < (xI (xsetI h1 104 10 (xI h1 104 7)) (xR h1 104 0) ((xI h1 104 7)).toNatClampNeg)
          · have e_57 : (Int32.ofInt (57)).toInt = 57 := rfl
            have c24r := c24
            rw [vref g1.1.1 (rfl : vRf 104 0 = [105])] at c24r
            have dc24 : (Int32.ofInt (57)).toInt < (xI h1 105 ((xI h1 104 7)).toNatClampNeg).toInt := Int32.lt_iff_toInt_lt.mp c24r
            have t25 : XT l 1 27 false 180 153 6051 52 [xf 13 104] [] h1 278 [xf 13 104] [xf 13 104] (xsetI h1 104 10 (xI h1 104 7)) := XT_path (l := l) (fr := 1) (lo := 27) (full := false) (M := 180) (n := 153) (u := 6051) (pc := 52) (L := [xf 13 104]) (st := []) (h := h1) (inl := [181, 184]) (n' := 120) (sp := [278]) (o := [1, 0, 0, 1, 1, 0, 0, 1, 1]) rfl rfl ⟨rfl, rfl, rfl⟩ rfl ⟨Nat.le_of_eq g1.1.2.2.2.1, Nat.le_of_eq g1.1.2.2.2.2⟩ ⟨⟨⟨⟨⟨⟨⟨⟨⟨⟨⟨⟨⟨⟨⟨⟨⟨⟨⟨trivial, c1⟩, (fun z => absurd (Int32.le_iff_toInt_le.mp z) (by omega))⟩, (vnn g1.1.1 (rfl : vRf 104 0 = [105]) (by decide))⟩, (vp_of (i := (xI h1 104 7)) (n := 700) (by omega) (by omega))⟩, c4⟩, (vnn g1.1.1 (rfl : vRf 104 0 = [105]) (by decide))⟩, (vp_of (i := (xI h1 104 7)) (n := 700) (by omega) (by omega))⟩, c18⟩, (Or.inl rfl)⟩, rfl⟩, (fun z => absurd (Int32.le_iff_toInt_le.mp z) (by omega))⟩, (vnn g1.1.1 (rfl : vRf 104 0 = [105]) (by decide))⟩, (vp_of (i := (xI h1 104 7)) (n := 700) (by omega) (by omega))⟩, c19⟩, (vnn g1.1.1 (rfl : vRf 104 0 = [105]) (by decide))⟩, (vp_of (i := (xI h1 104 7)) (n := 700) (by omega) (by omega))⟩, c24⟩, (Or.inl rfl)⟩, rfl⟩
            have t26 := tS.tr t25
            have np : (xI h1 104 7).toNatClampNeg = q := by
              show (xI h1 104 7).toInt.toNat = q
              omega
            have eb := r1.2 q (by omega)
            rw [← np] at eb
            have lw : (97 ≤ b q ∧ b q ≤ 122) = (97 ≤ (xI h1 105 (xI h1 104 7).toNatClampNeg).toInt ∧ (xI h1 105 (xI h1 104 7).toNatClampNeg).toInt ≤ 122) := by rw [← np, ← eb]; exact sby_in (by decide) (by decide)
            have dw : (48 ≤ b q ∧ b q ≤ 57) = (48 ≤ (xI h1 105 (xI h1 104 7).toNatClampNeg).toInt ∧ (xI h1 105 (xI h1 104 7).toNatClampNeg).toInt ≤ 57) := by rw [← np, ← eb]; exact sby_in (by decide) (by decide)
            have nl : ¬ (97 ≤ b q ∧ b q ≤ 122) := by rw [lw]; omega
            have nd : ¬ (48 ≤ b q ∧ b q ≤ 57) := by rw [dw]; omega
            obtain ⟨h5, c5, g5, e5, k5⟩ := mk_sign l b n q (xsetI h1 104 10 (xI h1 104 7)) g2.1 r2 hn7 (by omega) p2
            have es : sTk b n q = ((sSg b n q).1, 0, (sSg b n q).2) := (if_neg (by omega)).trans ((if_neg nl).trans (if_neg nd))
            have t27 : XT l 1 27 false 180 153 6051 278 [xf 13 104] [xf 13 104] (xsetI h1 104 10 (xI h1 104 7)) 281 [xf 13 104] [] h5 := XT_call (l := l) (fr := 1) (lo := 27) (full := false) (M := 180) (n := 153) (u := 6051) (pc := 278) (L := [xf 13 104]) (st := [xf 13 104]) (h := (xsetI h1 104 10 (xI h1 104 7))) (i := .invokevirtual 185) (aux := 1) (nx := 281) (K := 185) (vs := [xf 13 104]) (rs := []) (rest := []) rfl rfl rfl rfl rfl rfl c5 (by decide) (by decide) (Nat.le_of_ble_eq_true rfl) ⟨Nat.le_of_eq g5.1.2.2.2.1, Nat.le_of_eq g5.1.2.2.2.2⟩
            have t28 := t26.tr t27
            have g5w : mT ([(104, 7, false), (104, 8, false), (104, 9, false), (104, 10, false)], []) h h5 := g2.tr ⟨g5.1, g5.2.mono rfl rfl⟩
            exact fin _ (CX_ofT (h' := h5) (by decide) rfl rfl trivial ⟨_, _, _, rfl, rfl, rfl⟩ rfl ⟨Nat.le_of_eq g5.1.2.2.2.1.symm, Nat.le_of_eq g5.1.2.2.2.2.symm⟩ t28) g5w (by rw [g5.2.1 104 10 rfl]; exact q2) (by rw [es]; exact e5) (by rw [es]; exact k5) (fun z => by have zc := sSg_c b n q; unfold sKw at k5; omega)
          · have e_57 : (Int32.ofInt (57)).toInt = 57 := rfl
            have c24r := c24
            rw [vref g1.1.1 (rfl : vRf 104 0 = [105])] at c24r
            have dc24 : (xI h1 105 ((xI h1 104 7)).toNatClampNeg).toInt ≤ (Int32.ofInt (57)).toInt := Int32.le_iff_toInt_le.mp (Int32.not_lt.mp c24r)
            have t29 : XT l 1 27 false 180 153 6051 52 [xf 13 104] [] h1 213 [xf 13 104] [] (xsetI (xsetI (xsetI h1 104 10 (xI h1 104 7)) 104 8 (Int32.ofInt (3))) 104 9 (Int32.ofInt (0))) := XT_path (l := l) (fr := 1) (lo := 27) (full := false) (M := 180) (n := 153) (u := 6051) (pc := 52) (L := [xf 13 104]) (st := []) (h := h1) (inl := [181, 184]) (n' := 120) (sp := [213]) (o := [1, 0, 0, 1, 1, 0, 0, 0, 0]) rfl rfl ⟨rfl, rfl, rfl⟩ rfl ⟨Nat.le_of_eq g1.1.2.2.2.1, Nat.le_of_eq g1.1.2.2.2.2⟩ ⟨⟨⟨⟨⟨⟨⟨⟨⟨⟨⟨⟨⟨⟨⟨⟨⟨⟨⟨trivial, c1⟩, (fun z => absurd (Int32.le_iff_toInt_le.mp z) (by omega))⟩, (vnn g1.1.1 (rfl : vRf 104 0 = [105]) (by decide))⟩, (vp_of (i := (xI h1 104 7)) (n := 700) (by omega) (by omega))⟩, c4⟩, (vnn g1.1.1 (rfl : vRf 104 0 = [105]) (by decide))⟩, (vp_of (i := (xI h1 104 7)) (n := 700) (by omega) (by omega))⟩, c18⟩, (Or.inl rfl)⟩, rfl⟩, (fun z => absurd (Int32.le_iff_toInt_le.mp z) (by omega))⟩, (vnn g1.1.1 (rfl : vRf 104 0 = [105]) (by decide))⟩, (vp_of (i := (xI h1 104 7)) (n := 700) (by omega) (by omega))⟩, c19⟩, (vnn g1.1.1 (rfl : vRf 104 0 = [105]) (by decide))⟩, (vp_of (i := (xI h1 104 7)) (n := 700) (by omega) (by omega))⟩, c24⟩, (Or.inr rfl)⟩, (by decide)⟩
            have t30 := tS.tr t29
            have np : (xI h1 104 7).toNatClampNeg = q := by
              show (xI h1 104 7).toInt.toNat = q
              omega
            have eb := r1.2 q (by omega)
            rw [← np] at eb
            have lw : (97 ≤ b q ∧ b q ≤ 122) = (97 ≤ (xI h1 105 (xI h1 104 7).toNatClampNeg).toInt ∧ (xI h1 105 (xI h1 104 7).toNatClampNeg).toInt ≤ 122) := by rw [← np, ← eb]; exact sby_in (by decide) (by decide)
            have dw : (48 ≤ b q ∧ b q ≤ 57) = (48 ≤ (xI h1 105 (xI h1 104 7).toNatClampNeg).toInt ∧ (xI h1 105 (xI h1 104 7).toNatClampNeg).toInt ≤ 57) := by rw [← np, ← eb]; exact sby_in (by decide) (by decide)
            have nl : ¬ (97 ≤ b q ∧ b q ≤ 122) := by rw [lw]; omega
            have yd : 48 ≤ b q ∧ b q ≤ 57 := by rw [dw]; omega
            have g3 : mT ([(104, 7, false), (104, 8, false), (104, 9, false), (104, 10, false)], []) h (xsetI (xsetI h1 104 10 (xI h1 104 7)) 104 8 (Int32.ofInt (3))) := g2.set (c := 104) (k := 8) (v := (Int32.ofInt (3))) (show (0 : Int) ≤ _ ∧ _ ≤ 6 from by decide) rfl
            have g4 : mT ([(104, 7, false), (104, 8, false), (104, 9, false), (104, 10, false)], []) h (xsetI (xsetI (xsetI h1 104 10 (xI h1 104 7)) 104 8 (Int32.ofInt (3))) 104 9 (Int32.ofInt (0))) := g3.set (c := 104) (k := 9) (v := (Int32.ofInt (0))) (show (-2147483648 : Int) ≤ _ ∧ _ ≤ 2147483647 from i32r_of _) rfl
            have r4 : mR b n (xsetI (xsetI (xsetI h1 104 10 (xI h1 104 7)) 104 8 (Int32.ofInt (3))) 104 9 (Int32.ofInt (0))) := r2.fr (by rw [yI_ne (by decide), yI_ne (by decide)]) (fun k => by rw [yI_c (by decide), yI_c (by decide)])
            obtain ⟨h5, tl, g5, e5, d5⟩ := mk_digL l b n q (n - q) q (xsetI (xsetI (xsetI h1 104 10 (xI h1 104 7)) 104 8 (Int32.ofInt (3))) 104 9 (Int32.ofInt (0))) g4.1 r4 hn7 (by rw [yI_ne (by decide), yI_ne (by decide)]; exact p2) (Nat.le_refl _) (by omega) (by rw [yI_same, Nat.sub_self]; exact Or.inl ⟨rfl, by decide, by decide⟩)
            have es : sTk b n q = (2, sNm b q (sDr b (n - q) q - q), sDr b (n - q) q) := (if_neg (by omega)).trans ((if_neg nl).trans (if_pos yd))
            have g5w : mT ([(104, 7, false), (104, 8, false), (104, 9, false), (104, 10, false)], []) h h5 := g4.tr ⟨g5.1, g5.2.mono rfl rfl⟩
            have k8 : (xI h5 104 8).toInt = 3 := by rw [g5.2.1 104 8 rfl, yI_ne (by decide), yI_same]; rfl
            have t31 := t30.tr tl
            exact fin _ (CX_ofT (h' := h5) (by decide) rfl rfl trivial ⟨_, _, _, rfl, rfl, rfl⟩ rfl ⟨Nat.le_of_eq g5.1.2.2.2.1.symm, Nat.le_of_eq g5.1.2.2.2.2.symm⟩ t31) g5w (by rw [g5.2.1 104 10 rfl, yI_ne (by decide), yI_ne (by decide)]; exact q2) (by rw [es]; exact e5) (by rw [es]; exact Or.inr (Or.inr (Or.inl ⟨rfl, k8, d5.imp (fun z => ⟨z.1, z.2.2⟩) (fun z => ⟨z.1, z.2.1⟩)⟩))) (fun z => by omega)
      · have e_122 : (Int32.ofInt (122)).toInt = 122 := rfl
        have c18r := c18
        rw [vref g1.1.1 (rfl : vRf 104 0 = [105])] at c18r
        have dc18 : (xI h1 105 ((xI h1 104 7)).toNatClampNeg).toInt ≤ (Int32.ofInt (122)).toInt := Int32.le_iff_toInt_le.mp (Int32.not_lt.mp c18r)
        have t32 : XT l 1 27 false 180 153 6051 52 [xf 13 104] [] h1 90 [xf 13 104] [] (xsetI h1 104 10 (xI h1 104 7)) := XT_path (l := l) (fr := 1) (lo := 27) (full := false) (M := 180) (n := 153) (u := 6051) (pc := 52) (L := [xf 13 104]) (st := []) (h := h1) (inl := [181, 184]) (n' := 120) (sp := [90]) (o := [1, 0, 0, 0, 0]) rfl rfl ⟨rfl, rfl, rfl⟩ rfl ⟨Nat.le_of_eq g1.1.2.2.2.1, Nat.le_of_eq g1.1.2.2.2.2⟩ ⟨⟨⟨⟨⟨⟨⟨⟨⟨⟨trivial, c1⟩, (fun z => absurd (Int32.le_iff_toInt_le.mp z) (by omega))⟩, (vnn g1.1.1 (rfl : vRf 104 0 = [105]) (by decide))⟩, (vp_of (i := (xI h1 104 7)) (n := 700) (by omega) (by omega))⟩, c4⟩, (vnn g1.1.1 (rfl : vRf 104 0 = [105]) (by decide))⟩, (vp_of (i := (xI h1 104 7)) (n := 700) (by omega) (by omega))⟩, c18⟩, (Or.inr rfl)⟩, (by decide)⟩
        have t33 := tS.tr t32
        have np : (xI h1 104 7).toNatClampNeg = q := by
          show (xI h1 104 7).toInt.toNat = q
          omega
        have eb := r1.2 q (by omega)
        rw [← np] at eb
        have lw : (97 ≤ b q ∧ b q ≤ 122) = (97 ≤ (xI h1 105 (xI h1 104 7).toNatClampNeg).toInt ∧ (xI h1 105 (xI h1 104 7).toNatClampNeg).toInt ≤ 122) := by rw [← np, ← eb]; exact sby_in (by decide) (by decide)
        have dw : (48 ≤ b q ∧ b q ≤ 57) = (48 ≤ (xI h1 105 (xI h1 104 7).toNatClampNeg).toInt ∧ (xI h1 105 (xI h1 104 7).toNatClampNeg).toInt ≤ 57) := by rw [← np, ← eb]; exact sby_in (by decide) (by decide)
        have yl : 97 ≤ b q ∧ b q ≤ 122 := by rw [lw]; omega
        obtain ⟨h3, tl, g3, e3⟩ := mk_let l b n (n - q) q (xsetI h1 104 10 (xI h1 104 7)) g2.1 r2 hn7 p2 (by omega)
        have lb := sLr_b b (n - q) q
        have hl : sLs b q (sLr b (n - q) q - q) := fun i hi => sLr_in b (n - q) q (q + i) (by omega) (by omega)
        have es : sTk b n q = (if 6 < sLr b (n - q) q - q then 1 else sWord (sPk b q (sLr b (n - q) q - q)), (sPk b q (sLr b (n - q) q - q)).toInt, sLr b (n - q) q) := (if_neg (by omega)).trans (if_pos yl)
        obtain ⟨m, em⟩ : ∃ z, z = sLr b (n - q) q - q := ⟨_, rfl⟩
        rw [← em] at es hl
        have g3w : mT ([(104, 7, false), (104, 8, false), (104, 9, false), (104, 10, false)], []) h h3 := g2.tr ⟨g3.1, g3.2.mono rfl rfl⟩
        have r3 := r2.w g3.2 rfl (fun _ => rfl)
        have a3 : (xI h3 104 10).toInt = q := by rw [g3.2.1 104 10 rfl]; exact q2
        have t34 := t33.tr tl
        have t35 : XT l 1 27 false 180 153 6051 114 [xf 13 104] [] h3 124 [xf 13 104] [xi (xI h3 104 7), xi (xI h3 104 10), xf 13 104, xf 13 104] h3 := XT_path (l := l) (fr := 1) (lo := 27) (full := false) (M := 180) (n := 153) (u := 6051) (pc := 114) (L := [xf 13 104]) (st := []) (h := h3) (inl := [181, 184]) (n' := 120) (sp := [124]) (o := []) rfl rfl ⟨rfl, rfl, rfl⟩ rfl ⟨Nat.le_of_eq g3.1.2.2.2.1, Nat.le_of_eq g3.1.2.2.2.2⟩ trivial
        have t36 := t34.tr t35
        obtain ⟨v, cw, ev⟩ := mk_word l b n h3 g3.1 r3 (xI h3 104 10) (xI h3 104 7) q m a3 (by rw [e3]; omega) (by omega) hn7
        rw [mWd_ok hl] at ev
        have sr := sWord_r (sPk b q m)
        have t37 : XT l 1 27 false 180 153 6051 124 [xf 13 104] [xi (xI h3 104 7), xi (xI h3 104 10), xf 13 104, xf 13 104] h3 127 [xf 13 104] [xi v, xf 13 104] h3 := XT_call (l := l) (fr := 1) (lo := 27) (full := false) (M := 180) (n := 153) (u := 6051) (pc := 124) (L := [xf 13 104]) (st := [xi (xI h3 104 7), xi (xI h3 104 10), xf 13 104, xf 13 104]) (h := h3) (i := .invokevirtual 182) (aux := 3) (nx := 127) (K := 182) (vs := [xf 13 104, xi (xI h3 104 10), xi (xI h3 104 7)]) (rs := [xi v]) (rest := [xf 13 104]) rfl rfl rfl rfl rfl rfl cw (by decide) (by decide) (Nat.le_of_ble_eq_true rfl) ⟨Nat.le_of_eq g3.1.2.2.2.1, Nat.le_of_eq g3.1.2.2.2.2⟩
        have t38 := t36.tr t37
        by_cases c39 : v < 0
        · have e_0 : (0 : Int32).toInt = 0 := rfl
          have dc39 : (v).toInt < (0 : Int32).toInt := Int32.lt_iff_toInt_lt.mp c39
          by_cases c40 : ((xI h3 104 7) - (xI h3 104 10)) ≤ (Int32.ofInt (6))
          · have e_6 : (Int32.ofInt (6)).toInt = 6 := rfl
            have dc40 : ((xI h3 104 7) - (xI h3 104 10)).toInt ≤ (Int32.ofInt (6)).toInt := Int32.le_iff_toInt_le.mp c40
            have sd : ((xI h3 104 7) - (xI h3 104 10)).toInt = m := by rw [Int32.toInt_sub, e3, a3, Int.bmod_eq_of_le (by omega) (by omega)]; omega
            have t41 : XT l 1 27 false 180 153 6051 127 [xf 13 104] [xi v, xf 13 104] h3 183 [xf 13 104] [xi (xI h3 104 7), xi (xI h3 104 10), xf 13 104, xf 13 104] (xsetI (xsetI h3 104 9 v) 104 8 (Int32.ofInt (2))) := XT_path (l := l) (fr := 1) (lo := 27) (full := false) (M := 180) (n := 153) (u := 6051) (pc := 127) (L := [xf 13 104]) (st := [xi v, xf 13 104]) (h := h3) (inl := [181, 184]) (n' := 120) (sp := [183]) (o := [1, 1, 0]) rfl rfl ⟨rfl, rfl, rfl⟩ rfl ⟨Nat.le_of_eq g3.1.2.2.2.1, Nat.le_of_eq g3.1.2.2.2.2⟩ ⟨⟨⟨trivial, c39⟩, c40⟩, rfl⟩
            have t42 := t38.tr t41
            have u0 : mT ([(104, 7, false), (104, 8, false), (104, 9, false), (104, 10, false)], []) h (xsetI h3 104 9 v) := g3w.set (c := 104) (k := 9) (v := v) (show (-2147483648 : Int) ≤ _ ∧ _ ≤ 2147483647 from i32r_of _) rfl
            have u1 : mT ([(104, 7, false), (104, 8, false), (104, 9, false), (104, 10, false)], []) h (xsetI (xsetI h3 104 9 v) 104 8 (Int32.ofInt (2))) := u0.set (c := 104) (k := 8) (v := (Int32.ofInt (2))) (show (0 : Int) ≤ _ ∧ _ ≤ 6 from by decide) rfl
            have r6 : mR b n (xsetI (xsetI h3 104 9 v) 104 8 (Int32.ofInt (2))) := r3.fr (by rw [yI_ne (by decide), yI_ne (by decide)]) (fun k => by rw [yI_c (by decide), yI_c (by decide)])
            have a6 : (xI (xsetI (xsetI h3 104 9 v) 104 8 (Int32.ofInt (2))) 104 10).toInt = q := by rw [yI_ne (by decide), yI_ne (by decide)]; exact a3
            have a7 : (xI (xsetI (xsetI h3 104 9 v) 104 8 (Int32.ofInt (2))) 104 7).toInt = (q + m : Nat) := by rw [yI_ne (by decide), yI_ne (by decide), e3]; omega
            have cp := mk_pack l b n (xsetI (xsetI h3 104 9 v) 104 8 (Int32.ofInt (2))) u1.1 r6 (xI (xsetI (xsetI h3 104 9 v) 104 8 (Int32.ofInt (2))) 104 10) (xI (xsetI (xsetI h3 104 9 v) 104 8 (Int32.ofInt (2))) 104 7) q m a6 a7 (by omega) hn7 hl (by omega)
            obtain ⟨hN, ehN⟩ : ∃ z, z = (xsetI (xsetI h3 104 9 v) 104 8 (Int32.ofInt (2))) := ⟨_, rfl⟩
            have un := u1
            have t43 : XT l 1 27 false 180 153 6051 183 [xf 13 104] [xi (xI h3 104 7), xi (xI h3 104 10), xf 13 104, xf 13 104] (xsetI (xsetI h3 104 9 v) 104 8 (Int32.ofInt (2))) 186 [xf 13 104] [xi (sPk b q m), xf 13 104] (xsetI (xsetI h3 104 9 v) 104 8 (Int32.ofInt (2))) := XT_call (l := l) (fr := 1) (lo := 27) (full := false) (M := 180) (n := 153) (u := 6051) (pc := 183) (L := [xf 13 104]) (st := [xi (xI h3 104 7), xi (xI h3 104 10), xf 13 104, xf 13 104]) (h := (xsetI (xsetI h3 104 9 v) 104 8 (Int32.ofInt (2)))) (i := .invokevirtual 183) (aux := 3) (nx := 186) (K := 183) (vs := [xf 13 104, xi (xI h3 104 10), xi (xI h3 104 7)]) (rs := [xi (sPk b q m)]) (rest := [xf 13 104]) rfl rfl rfl rfl rfl rfl cp (by decide) (by decide) (Nat.le_of_ble_eq_true rfl) ⟨Nat.le_of_eq u1.1.2.2.2.1, Nat.le_of_eq u1.1.2.2.2.2⟩
            have t44 := t42.tr t43
            have t45 : XT l 1 27 false 180 153 6051 186 [xf 13 104] [xi (sPk b q m), xf 13 104] (xsetI (xsetI h3 104 9 v) 104 8 (Int32.ofInt (2))) 281 [xf 13 104] [] (xsetI (xsetI (xsetI h3 104 9 v) 104 8 (Int32.ofInt (2))) 104 9 (sPk b q m)) := XT_path (l := l) (fr := 1) (lo := 27) (full := false) (M := 180) (n := 153) (u := 6051) (pc := 186) (L := [xf 13 104]) (st := [xi (sPk b q m), xf 13 104]) (h := (xsetI (xsetI h3 104 9 v) 104 8 (Int32.ofInt (2)))) (inl := [181, 184]) (n' := 120) (sp := [281]) (o := []) rfl rfl ⟨rfl, rfl, rfl⟩ rfl ⟨Nat.le_of_eq u1.1.2.2.2.1, Nat.le_of_eq u1.1.2.2.2.2⟩ trivial
            have t46 := t44.tr t45
            have g9 : mT ([(104, 7, false), (104, 8, false), (104, 9, false), (104, 10, false)], []) h (xsetI (xsetI (xsetI h3 104 9 v) 104 8 (Int32.ofInt (2))) 104 9 (sPk b q m)) := u1.set (c := 104) (k := 9) (v := (sPk b q m)) (show (-2147483648 : Int) ≤ _ ∧ _ ≤ 2147483647 from i32r_of _) rfl
            have k8 : (xI (xsetI (xsetI (xsetI h3 104 9 v) 104 8 (Int32.ofInt (2))) 104 9 (sPk b q m)) 104 8).toInt = 2 := by rw [yI_ne (by decide), yI_same]; rfl
            have k9 : (xI (xsetI (xsetI (xsetI h3 104 9 v) 104 8 (Int32.ofInt (2))) 104 9 (sPk b q m)) 104 9).toInt = (sPk b q m).toInt := by rw [yI_same]
            have m6 : ¬ 6 < m := by omega
            rw [if_neg m6] at ev es
            have w3 : sWord (sPk b q m) = 3 := by unfold sKo at ev; omega
            exact fin _ (CX_ofT (h' := (xsetI (xsetI (xsetI h3 104 9 v) 104 8 (Int32.ofInt (2))) 104 9 (sPk b q m))) (by decide) rfl rfl trivial ⟨_, _, _, rfl, rfl, rfl⟩ rfl ⟨Nat.le_of_eq u1.1.2.2.2.1.symm, Nat.le_of_eq u1.1.2.2.2.2.symm⟩ t46) g9 (by rw [yI_ne (by decide), yI_ne (by decide), yI_ne (by decide)]; exact a3) (by rw [yI_ne (by decide), yI_ne (by decide), yI_ne (by decide), es]; exact e3) (by rw [es]; exact Or.inr (Or.inr (Or.inr (Or.inl ⟨w3, k8, k9⟩)))) (fun z => by omega)
          · have e_6 : (Int32.ofInt (6)).toInt = 6 := rfl
            have dc40 : (Int32.ofInt (6)).toInt < ((xI h3 104 7) - (xI h3 104 10)).toInt := Int32.lt_iff_toInt_lt.mp (Int32.not_le.mp c40)
            have sd : ((xI h3 104 7) - (xI h3 104 10)).toInt = m := by rw [Int32.toInt_sub, e3, a3, Int.bmod_eq_of_le (by omega) (by omega)]; omega
            have t47 : XT l 1 27 false 180 153 6051 127 [xf 13 104] [xi v, xf 13 104] h3 281 [xf 13 104] [] (xsetI (xsetI h3 104 9 v) 104 8 (Int32.ofInt (6))) := XT_path (l := l) (fr := 1) (lo := 27) (full := false) (M := 180) (n := 153) (u := 6051) (pc := 127) (L := [xf 13 104]) (st := [xi v, xf 13 104]) (h := h3) (inl := [181, 184]) (n' := 120) (sp := [281]) (o := [1, 0, 1]) rfl rfl ⟨rfl, rfl, rfl⟩ rfl ⟨Nat.le_of_eq g3.1.2.2.2.1, Nat.le_of_eq g3.1.2.2.2.2⟩ ⟨⟨⟨trivial, c39⟩, c40⟩, (show ¬ (Int32.ofInt (6)) = (Int32.ofInt (2)) from by decide)⟩
            have t48 := t38.tr t47
            have u0 : mT ([(104, 7, false), (104, 8, false), (104, 9, false), (104, 10, false)], []) h (xsetI h3 104 9 v) := g3w.set (c := 104) (k := 9) (v := v) (show (-2147483648 : Int) ≤ _ ∧ _ ≤ 2147483647 from i32r_of _) rfl
            have u1 : mT ([(104, 7, false), (104, 8, false), (104, 9, false), (104, 10, false)], []) h (xsetI (xsetI h3 104 9 v) 104 8 (Int32.ofInt (6))) := u0.set (c := 104) (k := 8) (v := (Int32.ofInt (6))) (show (0 : Int) ≤ _ ∧ _ ≤ 6 from by decide) rfl
            have k9 : (xI (xsetI (xsetI h3 104 9 v) 104 8 (Int32.ofInt (6))) 104 9).toInt = v.toInt := by rw [yI_ne (by decide), yI_same]
            have k8 : (xI (xsetI (xsetI h3 104 9 v) 104 8 (Int32.ofInt (6))) 104 8).toInt = 6 := by rw [yI_same]; rfl
            have m6 : 6 < m := by omega
            rw [if_pos m6] at ev es
            exact fin _ (CX_ofT (h' := (xsetI (xsetI h3 104 9 v) 104 8 (Int32.ofInt (6)))) (by decide) rfl rfl trivial ⟨_, _, _, rfl, rfl, rfl⟩ rfl ⟨Nat.le_of_eq g3.1.2.2.2.1.symm, Nat.le_of_eq g3.1.2.2.2.2.symm⟩ t48) u1 (by rw [yI_ne (by decide), yI_ne (by decide)]; exact a3) (by rw [yI_ne (by decide), yI_ne (by decide), es]; exact e3) (by rw [es]; exact Or.inr (Or.inl ⟨rfl, Or.inl k8⟩)) (fun z => by omega)
        · have e_0 : (0 : Int32).toInt = 0 := rfl
          have dc39 : (0 : Int32).toInt ≤ (v).toInt := Int32.le_iff_toInt_le.mp (Int32.not_lt.mp c39)
          have t49 : XT l 1 27 false 180 153 6051 127 [xf 13 104] [xi v, xf 13 104] h3 281 [xf 13 104] [] (xsetI (xsetI h3 104 9 v) 104 8 (Int32.ofInt (1))) := XT_path (l := l) (fr := 1) (lo := 27) (full := false) (M := 180) (n := 153) (u := 6051) (pc := 127) (L := [xf 13 104]) (st := [xi v, xf 13 104]) (h := h3) (inl := [181, 184]) (n' := 120) (sp := [281]) (o := [0, 1]) rfl rfl ⟨rfl, rfl, rfl⟩ rfl ⟨Nat.le_of_eq g3.1.2.2.2.1, Nat.le_of_eq g3.1.2.2.2.2⟩ ⟨⟨trivial, c39⟩, (show ¬ (Int32.ofInt (1)) = (Int32.ofInt (2)) from by decide)⟩
          have t50 := t38.tr t49
          have u0 : mT ([(104, 7, false), (104, 8, false), (104, 9, false), (104, 10, false)], []) h (xsetI h3 104 9 v) := g3w.set (c := 104) (k := 9) (v := v) (show (-2147483648 : Int) ≤ _ ∧ _ ≤ 2147483647 from i32r_of _) rfl
          have u1 : mT ([(104, 7, false), (104, 8, false), (104, 9, false), (104, 10, false)], []) h (xsetI (xsetI h3 104 9 v) 104 8 (Int32.ofInt (1))) := u0.set (c := 104) (k := 8) (v := (Int32.ofInt (1))) (show (0 : Int) ≤ _ ∧ _ ≤ 6 from by decide) rfl
          have k9 : (xI (xsetI (xsetI h3 104 9 v) 104 8 (Int32.ofInt (1))) 104 9).toInt = v.toInt := by rw [yI_ne (by decide), yI_same]
          have k8 : (xI (xsetI (xsetI h3 104 9 v) 104 8 (Int32.ofInt (1))) 104 8).toInt = 1 := by rw [yI_same]; rfl
          have m6 : ¬ 6 < m := fun z => by rw [if_pos z] at ev; omega
          rw [if_neg m6] at ev es
          have w3 : 20 ≤ sWord (sPk b q m) ∧ sWord (sPk b q m) ≤ 39 := by unfold sKo at ev; omega
          have w4 : 0 ≤ sKo (sWord (sPk b q m)) ∧ sKo (sWord (sPk b q m)) ≤ 19 := by unfold sKo; omega
          exact fin _ (CX_ofT (h' := (xsetI (xsetI h3 104 9 v) 104 8 (Int32.ofInt (1)))) (by decide) rfl rfl trivial ⟨_, _, _, rfl, rfl, rfl⟩ rfl ⟨Nat.le_of_eq g3.1.2.2.2.1.symm, Nat.le_of_eq g3.1.2.2.2.2.symm⟩ t50) u1 (by rw [yI_ne (by decide), yI_ne (by decide)]; exact a3) (by rw [yI_ne (by decide), yI_ne (by decide), es]; exact e3) (by rw [es]; exact Or.inr (Or.inr (Or.inr (Or.inr (Or.inl ⟨w3.1, w3.2, k8, k9.trans ev⟩))))) (fun z => by rw [k9, ev]; exact w4)
