/-! THE CLASS LOOKS A JOIN UP. -/
/-- the first one of two rows' pairs that is the pair, either way round -/
def zjn (O P : Nat → Int) (a o : Int) : Nat → Nat → Int
  | 0, _ => -1
  | m + 1, k => if (O k = a ∧ P k = o) ∨ (O k = o ∧ P k = a) then k else zjn O P a o m (k + 1)
set_option maxRecDepth 100000 in
set_option maxHeartbeats 2000000 in
theorem ck_joiL3 (l : Launch) (O P : Nat → Int) (y z : Int32) (N : Nat) (h : XH) (hg : sgood vT vR vE 153 6051 h) (hn : (xI h 3 5).toInt = N) (hN : N ≤ 9) (ho : ∀ k, k < N → (xI h 8 k).toInt = O k) (hp : ∀ k, k < N → (xI h 9 k).toInt = P k) : ∀ (m : Nat) (k : Int32) (x4 x5 : XV), 0 ≤ k.toInt → k.toInt + m = N → ∃ v pcR L', XT l 0 0 false 45 153 6051 2 [xf 8 3, xi y, xi z, xi k, x4, x5] [] h pcR L' [xi v] h ∧ XE 45 pcR [xi v] ∧ L'.length = 6 ∧ v.toInt = zjn O P y.toInt z.toInt m k.toInt.toNat
  | 0, k, x4, x5, k0, km => by
    have t1 : XT l 0 0 false 45 153 6051 2 [xf 8 3, xi y, xi z, xi k, x4, x5] [] h 83 [xf 8 3, xi y, xi z, xi k, x4, x5] [xi (Int32.ofInt (-1))] h := XT_path (l := l) (fr := 0) (lo := 0) (full := false) (M := 45) (n := 153) (u := 6051) (pc := 2) (L := [xf 8 3, xi y, xi z, xi k, x4, x5]) (st := []) (h := h) (inl := []) (n' := 80) (sp := [83]) (o := [1]) rfl rfl ⟨rfl, rfl, rfl⟩ rfl ⟨Nat.le_of_eq hg.2.2.2.1, Nat.le_of_eq hg.2.2.2.2⟩ ⟨trivial, (Int32.le_iff_toInt_le.mpr (by omega))⟩
    exact ⟨_, _, _, t1, ⟨_, _, _, rfl, rfl, rfl⟩, rfl, rfl⟩
  | m + 1, k, x4, x5, k0, km => by
    have ek := y_suc1 k0 (by omega)
    have h1 : (xI h 8 (k).toNatClampNeg).toInt = O k.toInt.toNat := ho k.toInt.toNat (by omega)
    have h2 : (xI h 9 (k).toNatClampNeg).toInt = P k.toInt.toNat := hp k.toInt.toNat (by omega)
    by_cases c1 : (xI h (xR h 3 6) (k).toNatClampNeg) = y
    · have c1r := c1
      rw [vref hg.1 (rfl : vRf 3 6 = [8])] at c1r
      have dc1 : (xI h 8 (k).toNatClampNeg).toInt = (y).toInt := congrArg Int32.toInt c1r
      by_cases c2 : (xI h (xR h 3 7) (k).toNatClampNeg) = z
      · have c2r := c2
        rw [vref hg.1 (rfl : vRf 3 7 = [9])] at c2r
        have dc2 : (xI h 9 (k).toNatClampNeg).toInt = (z).toInt := congrArg Int32.toInt c2r
        by_cases c3 : (xI h (xR h 3 6) (k).toNatClampNeg) = z
        · have c3r := c3
          rw [vref hg.1 (rfl : vRf 3 6 = [8])] at c3r
          have dc3 : (xI h 8 (k).toNatClampNeg).toInt = (z).toInt := congrArg Int32.toInt c3r
          by_cases c4 : (xI h (xR h 3 7) (k).toNatClampNeg) = y
          · have c4r := c4
            rw [vref hg.1 (rfl : vRf 3 7 = [9])] at c4r
            have dc4 : (xI h 9 (k).toNatClampNeg).toInt = (y).toInt := congrArg Int32.toInt c4r
            have t5 : XT l 0 0 false 45 153 6051 2 [xf 8 3, xi y, xi z, xi k, x4, x5] [] h 75 [xf 8 3, xi y, xi z, xi k, xi (Int32.ofInt (1)), xi (Int32.ofInt (1))] [xi k] h := XT_path (l := l) (fr := 0) (lo := 0) (full := false) (M := 45) (n := 153) (u := 6051) (pc := 2) (L := [xf 8 3, xi y, xi z, xi k, x4, x5]) (st := []) (h := h) (inl := []) (n' := 80) (sp := [75]) (o := [0, 0, 0, 0, 0, 1]) rfl rfl ⟨rfl, rfl, rfl⟩ rfl ⟨Nat.le_of_eq hg.2.2.2.1, Nat.le_of_eq hg.2.2.2.2⟩ ⟨⟨⟨⟨⟨⟨⟨⟨⟨⟨⟨⟨⟨⟨trivial, (fun z => absurd (Int32.le_iff_toInt_le.mp z) (by omega))⟩, (vnn hg.1 (rfl : vRf 3 6 = [8]) (by decide))⟩, (vp_of (i := k) (n := 9) (by omega) (by omega))⟩, c1⟩, (vnn hg.1 (rfl : vRf 3 7 = [9]) (by decide))⟩, (vp_of (i := k) (n := 9) (by omega) (by omega))⟩, c2⟩, (vnn hg.1 (rfl : vRf 3 6 = [8]) (by decide))⟩, (vp_of (i := k) (n := 9) (by omega) (by omega))⟩, c3⟩, (vnn hg.1 (rfl : vRf 3 7 = [9]) (by decide))⟩, (vp_of (i := k) (n := 9) (by omega) (by omega))⟩, c4⟩, (show ¬ (Int32.ofInt (1)) = 0 from by decide)⟩
            exact ⟨_, _, _, t5, ⟨_, _, _, rfl, rfl, rfl⟩, rfl, by unfold zjn; rw [if_pos (by omega)]; omega⟩
          · have c4r := c4
            rw [vref hg.1 (rfl : vRf 3 7 = [9])] at c4r
            have dc4 : ¬ (xI h 9 (k).toNatClampNeg).toInt = (y).toInt := fun z_ => c4r (Int32.toInt_inj.mp z_)
            have t6 : XT l 0 0 false 45 153 6051 2 [xf 8 3, xi y, xi z, xi k, x4, x5] [] h 75 [xf 8 3, xi y, xi z, xi k, xi (Int32.ofInt (1)), xi (Int32.ofInt (0))] [xi k] h := XT_path (l := l) (fr := 0) (lo := 0) (full := false) (M := 45) (n := 153) (u := 6051) (pc := 2) (L := [xf 8 3, xi y, xi z, xi k, x4, x5]) (st := []) (h := h) (inl := []) (n' := 80) (sp := [75]) (o := [0, 0, 0, 0, 1, 1]) rfl rfl ⟨rfl, rfl, rfl⟩ rfl ⟨Nat.le_of_eq hg.2.2.2.1, Nat.le_of_eq hg.2.2.2.2⟩ ⟨⟨⟨⟨⟨⟨⟨⟨⟨⟨⟨⟨⟨⟨trivial, (fun z => absurd (Int32.le_iff_toInt_le.mp z) (by omega))⟩, (vnn hg.1 (rfl : vRf 3 6 = [8]) (by decide))⟩, (vp_of (i := k) (n := 9) (by omega) (by omega))⟩, c1⟩, (vnn hg.1 (rfl : vRf 3 7 = [9]) (by decide))⟩, (vp_of (i := k) (n := 9) (by omega) (by omega))⟩, c2⟩, (vnn hg.1 (rfl : vRf 3 6 = [8]) (by decide))⟩, (vp_of (i := k) (n := 9) (by omega) (by omega))⟩, c3⟩, (vnn hg.1 (rfl : vRf 3 7 = [9]) (by decide))⟩, (vp_of (i := k) (n := 9) (by omega) (by omega))⟩, c4⟩, (show ¬ (Int32.ofInt (1)) = 0 from by decide)⟩
            exact ⟨_, _, _, t6, ⟨_, _, _, rfl, rfl, rfl⟩, rfl, by unfold zjn; rw [if_pos (by omega)]; omega⟩
        · have c3r := c3
          rw [vref hg.1 (rfl : vRf 3 6 = [8])] at c3r
          have dc3 : ¬ (xI h 8 (k).toNatClampNeg).toInt = (z).toInt := fun z_ => c3r (Int32.toInt_inj.mp z_)
          have t7 : XT l 0 0 false 45 153 6051 2 [xf 8 3, xi y, xi z, xi k, x4, x5] [] h 75 [xf 8 3, xi y, xi z, xi k, xi (Int32.ofInt (1)), xi (Int32.ofInt (0))] [xi k] h := XT_path (l := l) (fr := 0) (lo := 0) (full := false) (M := 45) (n := 153) (u := 6051) (pc := 2) (L := [xf 8 3, xi y, xi z, xi k, x4, x5]) (st := []) (h := h) (inl := []) (n' := 80) (sp := [75]) (o := [0, 0, 0, 1, 1]) rfl rfl ⟨rfl, rfl, rfl⟩ rfl ⟨Nat.le_of_eq hg.2.2.2.1, Nat.le_of_eq hg.2.2.2.2⟩ ⟨⟨⟨⟨⟨⟨⟨⟨⟨⟨⟨trivial, (fun z => absurd (Int32.le_iff_toInt_le.mp z) (by omega))⟩, (vnn hg.1 (rfl : vRf 3 6 = [8]) (by decide))⟩, (vp_of (i := k) (n := 9) (by omega) (by omega))⟩, c1⟩, (vnn hg.1 (rfl : vRf 3 7 = [9]) (by decide))⟩, (vp_of (i := k) (n := 9) (by omega) (by omega))⟩, c2⟩, (vnn hg.1 (rfl : vRf 3 6 = [8]) (by decide))⟩, (vp_of (i := k) (n := 9) (by omega) (by omega))⟩, c3⟩, (show ¬ (Int32.ofInt (1)) = 0 from by decide)⟩
          exact ⟨_, _, _, t7, ⟨_, _, _, rfl, rfl, rfl⟩, rfl, by unfold zjn; rw [if_pos (by omega)]; omega⟩
      · have c2r := c2
        rw [vref hg.1 (rfl : vRf 3 7 = [9])] at c2r
        have dc2 : ¬ (xI h 9 (k).toNatClampNeg).toInt = (z).toInt := fun z_ => c2r (Int32.toInt_inj.mp z_)
        by_cases c8 : (xI h (xR h 3 6) (k).toNatClampNeg) = z
        · have c8r := c8
          rw [vref hg.1 (rfl : vRf 3 6 = [8])] at c8r
          have dc8 : (xI h 8 (k).toNatClampNeg).toInt = (z).toInt := congrArg Int32.toInt c8r
          by_cases c9 : (xI h (xR h 3 7) (k).toNatClampNeg) = y
          · have c9r := c9
            rw [vref hg.1 (rfl : vRf 3 7 = [9])] at c9r
            have dc9 : (xI h 9 (k).toNatClampNeg).toInt = (y).toInt := congrArg Int32.toInt c9r
            have t10 : XT l 0 0 false 45 153 6051 2 [xf 8 3, xi y, xi z, xi k, x4, x5] [] h 75 [xf 8 3, xi y, xi z, xi k, xi (Int32.ofInt (0)), xi (Int32.ofInt (1))] [xi k] h := XT_path (l := l) (fr := 0) (lo := 0) (full := false) (M := 45) (n := 153) (u := 6051) (pc := 2) (L := [xf 8 3, xi y, xi z, xi k, x4, x5]) (st := []) (h := h) (inl := []) (n' := 80) (sp := [75]) (o := [0, 0, 1, 0, 0, 0, 0]) rfl rfl ⟨rfl, rfl, rfl⟩ rfl ⟨Nat.le_of_eq hg.2.2.2.1, Nat.le_of_eq hg.2.2.2.2⟩ ⟨⟨⟨⟨⟨⟨⟨⟨⟨⟨⟨⟨⟨⟨⟨trivial, (fun z => absurd (Int32.le_iff_toInt_le.mp z) (by omega))⟩, (vnn hg.1 (rfl : vRf 3 6 = [8]) (by decide))⟩, (vp_of (i := k) (n := 9) (by omega) (by omega))⟩, c1⟩, (vnn hg.1 (rfl : vRf 3 7 = [9]) (by decide))⟩, (vp_of (i := k) (n := 9) (by omega) (by omega))⟩, c2⟩, (vnn hg.1 (rfl : vRf 3 6 = [8]) (by decide))⟩, (vp_of (i := k) (n := 9) (by omega) (by omega))⟩, c8⟩, (vnn hg.1 (rfl : vRf 3 7 = [9]) (by decide))⟩, (vp_of (i := k) (n := 9) (by omega) (by omega))⟩, c9⟩, rfl⟩, (show ¬ (Int32.ofInt (1)) = 0 from by decide)⟩
            exact ⟨_, _, _, t10, ⟨_, _, _, rfl, rfl, rfl⟩, rfl, by unfold zjn; rw [if_pos (by omega)]; omega⟩
          · have c9r := c9
            rw [vref hg.1 (rfl : vRf 3 7 = [9])] at c9r
            have dc9 : ¬ (xI h 9 (k).toNatClampNeg).toInt = (y).toInt := fun z_ => c9r (Int32.toInt_inj.mp z_)
            have t11 : XT l 0 0 false 45 153 6051 2 [xf 8 3, xi y, xi z, xi k, x4, x5] [] h 2 [xf 8 3, xi y, xi z, xi (k + Int32.ofInt (1)), xi (Int32.ofInt (0)), xi (Int32.ofInt (0))] [] h := XT_path (l := l) (fr := 0) (lo := 0) (full := false) (M := 45) (n := 153) (u := 6051) (pc := 2) (L := [xf 8 3, xi y, xi z, xi k, x4, x5]) (st := []) (h := h) (inl := []) (n' := 80) (sp := [2]) (o := [0, 0, 1, 0, 1, 0, 1]) rfl rfl ⟨rfl, rfl, rfl⟩ rfl ⟨Nat.le_of_eq hg.2.2.2.1, Nat.le_of_eq hg.2.2.2.2⟩ ⟨⟨⟨⟨⟨⟨⟨⟨⟨⟨⟨⟨⟨⟨⟨trivial, (fun z => absurd (Int32.le_iff_toInt_le.mp z) (by omega))⟩, (vnn hg.1 (rfl : vRf 3 6 = [8]) (by decide))⟩, (vp_of (i := k) (n := 9) (by omega) (by omega))⟩, c1⟩, (vnn hg.1 (rfl : vRf 3 7 = [9]) (by decide))⟩, (vp_of (i := k) (n := 9) (by omega) (by omega))⟩, c2⟩, (vnn hg.1 (rfl : vRf 3 6 = [8]) (by decide))⟩, (vp_of (i := k) (n := 9) (by omega) (by omega))⟩, c8⟩, (vnn hg.1 (rfl : vRf 3 7 = [9]) (by decide))⟩, (vp_of (i := k) (n := 9) (by omega) (by omega))⟩, c9⟩, rfl⟩, rfl⟩
            obtain ⟨v, pcR, L', y1, y2, y3, y4⟩ := ck_joiL3 l O P y z N h hg hn hN ho hp m (k + (Int32.ofInt (1))) _ _ (by omega) (by omega)
            exact ⟨v, pcR, L', t11.tr y1, y2, y3, by rw [y4, show (k + (Int32.ofInt (1))).toInt.toNat = k.toInt.toNat + 1 by omega]; exact (if_neg (by omega)).symm⟩
        · have c8r := c8
          rw [vref hg.1 (rfl : vRf 3 6 = [8])] at c8r
          have dc8 : ¬ (xI h 8 (k).toNatClampNeg).toInt = (z).toInt := fun z_ => c8r (Int32.toInt_inj.mp z_)
          have t12 : XT l 0 0 false 45 153 6051 2 [xf 8 3, xi y, xi z, xi k, x4, x5] [] h 2 [xf 8 3, xi y, xi z, xi (k + Int32.ofInt (1)), xi (Int32.ofInt (0)), xi (Int32.ofInt (0))] [] h := XT_path (l := l) (fr := 0) (lo := 0) (full := false) (M := 45) (n := 153) (u := 6051) (pc := 2) (L := [xf 8 3, xi y, xi z, xi k, x4, x5]) (st := []) (h := h) (inl := []) (n' := 80) (sp := [2]) (o := [0, 0, 1, 1, 0, 1]) rfl rfl ⟨rfl, rfl, rfl⟩ rfl ⟨Nat.le_of_eq hg.2.2.2.1, Nat.le_of_eq hg.2.2.2.2⟩ ⟨⟨⟨⟨⟨⟨⟨⟨⟨⟨⟨⟨trivial, (fun z => absurd (Int32.le_iff_toInt_le.mp z) (by omega))⟩, (vnn hg.1 (rfl : vRf 3 6 = [8]) (by decide))⟩, (vp_of (i := k) (n := 9) (by omega) (by omega))⟩, c1⟩, (vnn hg.1 (rfl : vRf 3 7 = [9]) (by decide))⟩, (vp_of (i := k) (n := 9) (by omega) (by omega))⟩, c2⟩, (vnn hg.1 (rfl : vRf 3 6 = [8]) (by decide))⟩, (vp_of (i := k) (n := 9) (by omega) (by omega))⟩, c8⟩, rfl⟩, rfl⟩
          obtain ⟨v, pcR, L', y1, y2, y3, y4⟩ := ck_joiL3 l O P y z N h hg hn hN ho hp m (k + (Int32.ofInt (1))) _ _ (by omega) (by omega)
          exact ⟨v, pcR, L', t12.tr y1, y2, y3, by rw [y4, show (k + (Int32.ofInt (1))).toInt.toNat = k.toInt.toNat + 1 by omega]; exact (if_neg (by omega)).symm⟩
    · have c1r := c1
      rw [vref hg.1 (rfl : vRf 3 6 = [8])] at c1r
      have dc1 : ¬ (xI h 8 (k).toNatClampNeg).toInt = (y).toInt := fun z_ => c1r (Int32.toInt_inj.mp z_)
      by_cases c13 : (xI h (xR h 3 6) (k).toNatClampNeg) = z
      · have c13r := c13
        rw [vref hg.1 (rfl : vRf 3 6 = [8])] at c13r
        have dc13 : (xI h 8 (k).toNatClampNeg).toInt = (z).toInt := congrArg Int32.toInt c13r
        by_cases c14 : (xI h (xR h 3 7) (k).toNatClampNeg) = y
        · have c14r := c14
          rw [vref hg.1 (rfl : vRf 3 7 = [9])] at c14r
          have dc14 : (xI h 9 (k).toNatClampNeg).toInt = (y).toInt := congrArg Int32.toInt c14r
          have t15 : XT l 0 0 false 45 153 6051 2 [xf 8 3, xi y, xi z, xi k, x4, x5] [] h 75 [xf 8 3, xi y, xi z, xi k, xi (Int32.ofInt (0)), xi (Int32.ofInt (1))] [xi k] h := XT_path (l := l) (fr := 0) (lo := 0) (full := false) (M := 45) (n := 153) (u := 6051) (pc := 2) (L := [xf 8 3, xi y, xi z, xi k, x4, x5]) (st := []) (h := h) (inl := []) (n' := 80) (sp := [75]) (o := [0, 1, 0, 0, 0, 0]) rfl rfl ⟨rfl, rfl, rfl⟩ rfl ⟨Nat.le_of_eq hg.2.2.2.1, Nat.le_of_eq hg.2.2.2.2⟩ ⟨⟨⟨⟨⟨⟨⟨⟨⟨⟨⟨⟨trivial, (fun z => absurd (Int32.le_iff_toInt_le.mp z) (by omega))⟩, (vnn hg.1 (rfl : vRf 3 6 = [8]) (by decide))⟩, (vp_of (i := k) (n := 9) (by omega) (by omega))⟩, c1⟩, (vnn hg.1 (rfl : vRf 3 6 = [8]) (by decide))⟩, (vp_of (i := k) (n := 9) (by omega) (by omega))⟩, c13⟩, (vnn hg.1 (rfl : vRf 3 7 = [9]) (by decide))⟩, (vp_of (i := k) (n := 9) (by omega) (by omega))⟩, c14⟩, rfl⟩, (show ¬ (Int32.ofInt (1)) = 0 from by decide)⟩
          exact ⟨_, _, _, t15, ⟨_, _, _, rfl, rfl, rfl⟩, rfl, by unfold zjn; rw [if_pos (by omega)]; omega⟩
        · have c14r := c14
          rw [vref hg.1 (rfl : vRf 3 7 = [9])] at c14r
          have dc14 : ¬ (xI h 9 (k).toNatClampNeg).toInt = (y).toInt := fun z_ => c14r (Int32.toInt_inj.mp z_)
          have t16 : XT l 0 0 false 45 153 6051 2 [xf 8 3, xi y, xi z, xi k, x4, x5] [] h 2 [xf 8 3, xi y, xi z, xi (k + Int32.ofInt (1)), xi (Int32.ofInt (0)), xi (Int32.ofInt (0))] [] h := XT_path (l := l) (fr := 0) (lo := 0) (full := false) (M := 45) (n := 153) (u := 6051) (pc := 2) (L := [xf 8 3, xi y, xi z, xi k, x4, x5]) (st := []) (h := h) (inl := []) (n' := 80) (sp := [2]) (o := [0, 1, 0, 1, 0, 1]) rfl rfl ⟨rfl, rfl, rfl⟩ rfl ⟨Nat.le_of_eq hg.2.2.2.1, Nat.le_of_eq hg.2.2.2.2⟩ ⟨⟨⟨⟨⟨⟨⟨⟨⟨⟨⟨⟨trivial, (fun z => absurd (Int32.le_iff_toInt_le.mp z) (by omega))⟩, (vnn hg.1 (rfl : vRf 3 6 = [8]) (by decide))⟩, (vp_of (i := k) (n := 9) (by omega) (by omega))⟩, c1⟩, (vnn hg.1 (rfl : vRf 3 6 = [8]) (by decide))⟩, (vp_of (i := k) (n := 9) (by omega) (by omega))⟩, c13⟩, (vnn hg.1 (rfl : vRf 3 7 = [9]) (by decide))⟩, (vp_of (i := k) (n := 9) (by omega) (by omega))⟩, c14⟩, rfl⟩, rfl⟩
          obtain ⟨v, pcR, L', y1, y2, y3, y4⟩ := ck_joiL3 l O P y z N h hg hn hN ho hp m (k + (Int32.ofInt (1))) _ _ (by omega) (by omega)
          exact ⟨v, pcR, L', t16.tr y1, y2, y3, by rw [y4, show (k + (Int32.ofInt (1))).toInt.toNat = k.toInt.toNat + 1 by omega]; exact (if_neg (by omega)).symm⟩
      · have c13r := c13
        rw [vref hg.1 (rfl : vRf 3 6 = [8])] at c13r
        have dc13 : ¬ (xI h 8 (k).toNatClampNeg).toInt = (z).toInt := fun z_ => c13r (Int32.toInt_inj.mp z_)
        have t17 : XT l 0 0 false 45 153 6051 2 [xf 8 3, xi y, xi z, xi k, x4, x5] [] h 2 [xf 8 3, xi y, xi z, xi (k + Int32.ofInt (1)), xi (Int32.ofInt (0)), xi (Int32.ofInt (0))] [] h := XT_path (l := l) (fr := 0) (lo := 0) (full := false) (M := 45) (n := 153) (u := 6051) (pc := 2) (L := [xf 8 3, xi y, xi z, xi k, x4, x5]) (st := []) (h := h) (inl := []) (n' := 80) (sp := [2]) (o := [0, 1, 1, 0, 1]) rfl rfl ⟨rfl, rfl, rfl⟩ rfl ⟨Nat.le_of_eq hg.2.2.2.1, Nat.le_of_eq hg.2.2.2.2⟩ ⟨⟨⟨⟨⟨⟨⟨⟨⟨trivial, (fun z => absurd (Int32.le_iff_toInt_le.mp z) (by omega))⟩, (vnn hg.1 (rfl : vRf 3 6 = [8]) (by decide))⟩, (vp_of (i := k) (n := 9) (by omega) (by omega))⟩, c1⟩, (vnn hg.1 (rfl : vRf 3 6 = [8]) (by decide))⟩, (vp_of (i := k) (n := 9) (by omega) (by omega))⟩, c13⟩, rfl⟩, rfl⟩
        obtain ⟨v, pcR, L', y1, y2, y3, y4⟩ := ck_joiL3 l O P y z N h hg hn hN ho hp m (k + (Int32.ofInt (1))) _ _ (by omega) (by omega)
        exact ⟨v, pcR, L', t17.tr y1, y2, y3, by rw [y4, show (k + (Int32.ofInt (1))).toInt.toNat = k.toInt.toNat + 1 by omega]; exact (if_neg (by omega)).symm⟩
set_option maxRecDepth 100000 in
set_option maxHeartbeats 2000000 in
theorem ck_joi3 (l : Launch) (O P : Nat → Int) (y z : Int32) (N : Nat) (h : XH) (hg : sgood vT vR vE 153 6051 h) (hn : (xI h 3 5).toInt = N) (hN : N ≤ 9) (ho : ∀ k, k < N → (xI h 8 k).toInt = O k) (hp : ∀ k, k < N → (xI h 9 k).toInt = P k) : ∃ v, CX l 0 0 false 45 [xf 8 3, xi y, xi z] h [xi v] h ∧ v.toInt = zjn O P y.toInt z.toInt N 0 := by
  have t1 : XT l 0 0 false 45 153 6051 0 [xf 8 3, xi y, xi z, xun, xun, xun] [] h 2 [xf 8 3, xi y, xi z, xi (Int32.ofInt (0)), xun, xun] [] h := XT_path (l := l) (fr := 0) (lo := 0) (full := false) (M := 45) (n := 153) (u := 6051) (pc := 0) (L := [xf 8 3, xi y, xi z, xun, xun, xun]) (st := []) (h := h) (inl := []) (n' := 80) (sp := [2]) (o := []) rfl rfl ⟨rfl, rfl, rfl⟩ rfl ⟨Nat.le_of_eq hg.2.2.2.1, Nat.le_of_eq hg.2.2.2.2⟩ trivial
  obtain ⟨v, pcR, L', y1, y2, y3, y4⟩ := ck_joiL3 l O P y z N h hg hn hN ho hp N (Int32.ofInt (0)) xun xun (by decide) (by rw [show (Int32.ofInt (0)).toInt = 0 from rfl]; omega)
  exact ⟨v, CX_ofT (by decide) rfl rfl trivial y2 y3 ⟨Nat.le_of_eq hg.2.2.2.1.symm, Nat.le_of_eq hg.2.2.2.2.symm⟩ (t1.tr y1), y4⟩
set_option maxRecDepth 100000 in
set_option maxHeartbeats 2000000 in
theorem ck_joiL24 (l : Launch) (O P : Nat → Int) (y z : Int32) (N : Nat) (h : XH) (hg : sgood vT vR vE 153 6051 h) (hn : (xI h 24 5).toInt = N) (hN : N ≤ 9) (ho : ∀ k, k < N → (xI h 29 k).toInt = O k) (hp : ∀ k, k < N → (xI h 30 k).toInt = P k) : ∀ (m : Nat) (k : Int32) (x4 x5 : XV), 0 ≤ k.toInt → k.toInt + m = N → ∃ v pcR L', XT l 0 0 false 45 153 6051 2 [xf 8 24, xi y, xi z, xi k, x4, x5] [] h pcR L' [xi v] h ∧ XE 45 pcR [xi v] ∧ L'.length = 6 ∧ v.toInt = zjn O P y.toInt z.toInt m k.toInt.toNat
  | 0, k, x4, x5, k0, km => by
    have t1 : XT l 0 0 false 45 153 6051 2 [xf 8 24, xi y, xi z, xi k, x4, x5] [] h 83 [xf 8 24, xi y, xi z, xi k, x4, x5] [xi (Int32.ofInt (-1))] h := XT_path (l := l) (fr := 0) (lo := 0) (full := false) (M := 45) (n := 153) (u := 6051) (pc := 2) (L := [xf 8 24, xi y, xi z, xi k, x4, x5]) (st := []) (h := h) (inl := []) (n' := 80) (sp := [83]) (o := [1]) rfl rfl ⟨rfl, rfl, rfl⟩ rfl ⟨Nat.le_of_eq hg.2.2.2.1, Nat.le_of_eq hg.2.2.2.2⟩ ⟨trivial, (Int32.le_iff_toInt_le.mpr (by omega))⟩
    exact ⟨_, _, _, t1, ⟨_, _, _, rfl, rfl, rfl⟩, rfl, rfl⟩
  | m + 1, k, x4, x5, k0, km => by
    have ek := y_suc1 k0 (by omega)
    have h1 : (xI h 29 (k).toNatClampNeg).toInt = O k.toInt.toNat := ho k.toInt.toNat (by omega)
    have h2 : (xI h 30 (k).toNatClampNeg).toInt = P k.toInt.toNat := hp k.toInt.toNat (by omega)
    by_cases c1 : (xI h (xR h 24 6) (k).toNatClampNeg) = y
    · have c1r := c1
      rw [vref hg.1 (rfl : vRf 24 6 = [29])] at c1r
      have dc1 : (xI h 29 (k).toNatClampNeg).toInt = (y).toInt := congrArg Int32.toInt c1r
      by_cases c2 : (xI h (xR h 24 7) (k).toNatClampNeg) = z
      · have c2r := c2
        rw [vref hg.1 (rfl : vRf 24 7 = [30])] at c2r
        have dc2 : (xI h 30 (k).toNatClampNeg).toInt = (z).toInt := congrArg Int32.toInt c2r
        by_cases c3 : (xI h (xR h 24 6) (k).toNatClampNeg) = z
        · have c3r := c3
          rw [vref hg.1 (rfl : vRf 24 6 = [29])] at c3r
          have dc3 : (xI h 29 (k).toNatClampNeg).toInt = (z).toInt := congrArg Int32.toInt c3r
          by_cases c4 : (xI h (xR h 24 7) (k).toNatClampNeg) = y
          · have c4r := c4
            rw [vref hg.1 (rfl : vRf 24 7 = [30])] at c4r
            have dc4 : (xI h 30 (k).toNatClampNeg).toInt = (y).toInt := congrArg Int32.toInt c4r
            have t5 : XT l 0 0 false 45 153 6051 2 [xf 8 24, xi y, xi z, xi k, x4, x5] [] h 75 [xf 8 24, xi y, xi z, xi k, xi (Int32.ofInt (1)), xi (Int32.ofInt (1))] [xi k] h := XT_path (l := l) (fr := 0) (lo := 0) (full := false) (M := 45) (n := 153) (u := 6051) (pc := 2) (L := [xf 8 24, xi y, xi z, xi k, x4, x5]) (st := []) (h := h) (inl := []) (n' := 80) (sp := [75]) (o := [0, 0, 0, 0, 0, 1]) rfl rfl ⟨rfl, rfl, rfl⟩ rfl ⟨Nat.le_of_eq hg.2.2.2.1, Nat.le_of_eq hg.2.2.2.2⟩ ⟨⟨⟨⟨⟨⟨⟨⟨⟨⟨⟨⟨⟨⟨trivial, (fun z => absurd (Int32.le_iff_toInt_le.mp z) (by omega))⟩, (vnn hg.1 (rfl : vRf 24 6 = [29]) (by decide))⟩, (vp_of (i := k) (n := 9) (by omega) (by omega))⟩, c1⟩, (vnn hg.1 (rfl : vRf 24 7 = [30]) (by decide))⟩, (vp_of (i := k) (n := 9) (by omega) (by omega))⟩, c2⟩, (vnn hg.1 (rfl : vRf 24 6 = [29]) (by decide))⟩, (vp_of (i := k) (n := 9) (by omega) (by omega))⟩, c3⟩, (vnn hg.1 (rfl : vRf 24 7 = [30]) (by decide))⟩, (vp_of (i := k) (n := 9) (by omega) (by omega))⟩, c4⟩, (show ¬ (Int32.ofInt (1)) = 0 from by decide)⟩
            exact ⟨_, _, _, t5, ⟨_, _, _, rfl, rfl, rfl⟩, rfl, by unfold zjn; rw [if_pos (by omega)]; omega⟩
          · have c4r := c4
            rw [vref hg.1 (rfl : vRf 24 7 = [30])] at c4r
            have dc4 : ¬ (xI h 30 (k).toNatClampNeg).toInt = (y).toInt := fun z_ => c4r (Int32.toInt_inj.mp z_)
            have t6 : XT l 0 0 false 45 153 6051 2 [xf 8 24, xi y, xi z, xi k, x4, x5] [] h 75 [xf 8 24, xi y, xi z, xi k, xi (Int32.ofInt (1)), xi (Int32.ofInt (0))] [xi k] h := XT_path (l := l) (fr := 0) (lo := 0) (full := false) (M := 45) (n := 153) (u := 6051) (pc := 2) (L := [xf 8 24, xi y, xi z, xi k, x4, x5]) (st := []) (h := h) (inl := []) (n' := 80) (sp := [75]) (o := [0, 0, 0, 0, 1, 1]) rfl rfl ⟨rfl, rfl, rfl⟩ rfl ⟨Nat.le_of_eq hg.2.2.2.1, Nat.le_of_eq hg.2.2.2.2⟩ ⟨⟨⟨⟨⟨⟨⟨⟨⟨⟨⟨⟨⟨⟨trivial, (fun z => absurd (Int32.le_iff_toInt_le.mp z) (by omega))⟩, (vnn hg.1 (rfl : vRf 24 6 = [29]) (by decide))⟩, (vp_of (i := k) (n := 9) (by omega) (by omega))⟩, c1⟩, (vnn hg.1 (rfl : vRf 24 7 = [30]) (by decide))⟩, (vp_of (i := k) (n := 9) (by omega) (by omega))⟩, c2⟩, (vnn hg.1 (rfl : vRf 24 6 = [29]) (by decide))⟩, (vp_of (i := k) (n := 9) (by omega) (by omega))⟩, c3⟩, (vnn hg.1 (rfl : vRf 24 7 = [30]) (by decide))⟩, (vp_of (i := k) (n := 9) (by omega) (by omega))⟩, c4⟩, (show ¬ (Int32.ofInt (1)) = 0 from by decide)⟩
            exact ⟨_, _, _, t6, ⟨_, _, _, rfl, rfl, rfl⟩, rfl, by unfold zjn; rw [if_pos (by omega)]; omega⟩
        · have c3r := c3
          rw [vref hg.1 (rfl : vRf 24 6 = [29])] at c3r
          have dc3 : ¬ (xI h 29 (k).toNatClampNeg).toInt = (z).toInt := fun z_ => c3r (Int32.toInt_inj.mp z_)
          have t7 : XT l 0 0 false 45 153 6051 2 [xf 8 24, xi y, xi z, xi k, x4, x5] [] h 75 [xf 8 24, xi y, xi z, xi k, xi (Int32.ofInt (1)), xi (Int32.ofInt (0))] [xi k] h := XT_path (l := l) (fr := 0) (lo := 0) (full := false) (M := 45) (n := 153) (u := 6051) (pc := 2) (L := [xf 8 24, xi y, xi z, xi k, x4, x5]) (st := []) (h := h) (inl := []) (n' := 80) (sp := [75]) (o := [0, 0, 0, 1, 1]) rfl rfl ⟨rfl, rfl, rfl⟩ rfl ⟨Nat.le_of_eq hg.2.2.2.1, Nat.le_of_eq hg.2.2.2.2⟩ ⟨⟨⟨⟨⟨⟨⟨⟨⟨⟨⟨trivial, (fun z => absurd (Int32.le_iff_toInt_le.mp z) (by omega))⟩, (vnn hg.1 (rfl : vRf 24 6 = [29]) (by decide))⟩, (vp_of (i := k) (n := 9) (by omega) (by omega))⟩, c1⟩, (vnn hg.1 (rfl : vRf 24 7 = [30]) (by decide))⟩, (vp_of (i := k) (n := 9) (by omega) (by omega))⟩, c2⟩, (vnn hg.1 (rfl : vRf 24 6 = [29]) (by decide))⟩, (vp_of (i := k) (n := 9) (by omega) (by omega))⟩, c3⟩, (show ¬ (Int32.ofInt (1)) = 0 from by decide)⟩
          exact ⟨_, _, _, t7, ⟨_, _, _, rfl, rfl, rfl⟩, rfl, by unfold zjn; rw [if_pos (by omega)]; omega⟩
      · have c2r := c2
        rw [vref hg.1 (rfl : vRf 24 7 = [30])] at c2r
        have dc2 : ¬ (xI h 30 (k).toNatClampNeg).toInt = (z).toInt := fun z_ => c2r (Int32.toInt_inj.mp z_)
        by_cases c8 : (xI h (xR h 24 6) (k).toNatClampNeg) = z
        · have c8r := c8
          rw [vref hg.1 (rfl : vRf 24 6 = [29])] at c8r
          have dc8 : (xI h 29 (k).toNatClampNeg).toInt = (z).toInt := congrArg Int32.toInt c8r
          by_cases c9 : (xI h (xR h 24 7) (k).toNatClampNeg) = y
          · have c9r := c9
            rw [vref hg.1 (rfl : vRf 24 7 = [30])] at c9r
            have dc9 : (xI h 30 (k).toNatClampNeg).toInt = (y).toInt := congrArg Int32.toInt c9r
            have t10 : XT l 0 0 false 45 153 6051 2 [xf 8 24, xi y, xi z, xi k, x4, x5] [] h 75 [xf 8 24, xi y, xi z, xi k, xi (Int32.ofInt (0)), xi (Int32.ofInt (1))] [xi k] h := XT_path (l := l) (fr := 0) (lo := 0) (full := false) (M := 45) (n := 153) (u := 6051) (pc := 2) (L := [xf 8 24, xi y, xi z, xi k, x4, x5]) (st := []) (h := h) (inl := []) (n' := 80) (sp := [75]) (o := [0, 0, 1, 0, 0, 0, 0]) rfl rfl ⟨rfl, rfl, rfl⟩ rfl ⟨Nat.le_of_eq hg.2.2.2.1, Nat.le_of_eq hg.2.2.2.2⟩ ⟨⟨⟨⟨⟨⟨⟨⟨⟨⟨⟨⟨⟨⟨⟨trivial, (fun z => absurd (Int32.le_iff_toInt_le.mp z) (by omega))⟩, (vnn hg.1 (rfl : vRf 24 6 = [29]) (by decide))⟩, (vp_of (i := k) (n := 9) (by omega) (by omega))⟩, c1⟩, (vnn hg.1 (rfl : vRf 24 7 = [30]) (by decide))⟩, (vp_of (i := k) (n := 9) (by omega) (by omega))⟩, c2⟩, (vnn hg.1 (rfl : vRf 24 6 = [29]) (by decide))⟩, (vp_of (i := k) (n := 9) (by omega) (by omega))⟩, c8⟩, (vnn hg.1 (rfl : vRf 24 7 = [30]) (by decide))⟩, (vp_of (i := k) (n := 9) (by omega) (by omega))⟩, c9⟩, rfl⟩, (show ¬ (Int32.ofInt (1)) = 0 from by decide)⟩
            exact ⟨_, _, _, t10, ⟨_, _, _, rfl, rfl, rfl⟩, rfl, by unfold zjn; rw [if_pos (by omega)]; omega⟩
          · have c9r := c9
            rw [vref hg.1 (rfl : vRf 24 7 = [30])] at c9r
            have dc9 : ¬ (xI h 30 (k).toNatClampNeg).toInt = (y).toInt := fun z_ => c9r (Int32.toInt_inj.mp z_)
            have t11 : XT l 0 0 false 45 153 6051 2 [xf 8 24, xi y, xi z, xi k, x4, x5] [] h 2 [xf 8 24, xi y, xi z, xi (k + Int32.ofInt (1)), xi (Int32.ofInt (0)), xi (Int32.ofInt (0))] [] h := XT_path (l := l) (fr := 0) (lo := 0) (full := false) (M := 45) (n := 153) (u := 6051) (pc := 2) (L := [xf 8 24, xi y, xi z, xi k, x4, x5]) (st := []) (h := h) (inl := []) (n' := 80) (sp := [2]) (o := [0, 0, 1, 0, 1, 0, 1]) rfl rfl ⟨rfl, rfl, rfl⟩ rfl ⟨Nat.le_of_eq hg.2.2.2.1, Nat.le_of_eq hg.2.2.2.2⟩ ⟨⟨⟨⟨⟨⟨⟨⟨⟨⟨⟨⟨⟨⟨⟨trivial, (fun z => absurd (Int32.le_iff_toInt_le.mp z) (by omega))⟩, (vnn hg.1 (rfl : vRf 24 6 = [29]) (by decide))⟩, (vp_of (i := k) (n := 9) (by omega) (by omega))⟩, c1⟩, (vnn hg.1 (rfl : vRf 24 7 = [30]) (by decide))⟩, (vp_of (i := k) (n := 9) (by omega) (by omega))⟩, c2⟩, (vnn hg.1 (rfl : vRf 24 6 = [29]) (by decide))⟩, (vp_of (i := k) (n := 9) (by omega) (by omega))⟩, c8⟩, (vnn hg.1 (rfl : vRf 24 7 = [30]) (by decide))⟩, (vp_of (i := k) (n := 9) (by omega) (by omega))⟩, c9⟩, rfl⟩, rfl⟩
            obtain ⟨v, pcR, L', y1, y2, y3, y4⟩ := ck_joiL24 l O P y z N h hg hn hN ho hp m (k + (Int32.ofInt (1))) _ _ (by omega) (by omega)
            exact ⟨v, pcR, L', t11.tr y1, y2, y3, by rw [y4, show (k + (Int32.ofInt (1))).toInt.toNat = k.toInt.toNat + 1 by omega]; exact (if_neg (by omega)).symm⟩
        · have c8r := c8
          rw [vref hg.1 (rfl : vRf 24 6 = [29])] at c8r
          have dc8 : ¬ (xI h 29 (k).toNatClampNeg).toInt = (z).toInt := fun z_ => c8r (Int32.toInt_inj.mp z_)
          have t12 : XT l 0 0 false 45 153 6051 2 [xf 8 24, xi y, xi z, xi k, x4, x5] [] h 2 [xf 8 24, xi y, xi z, xi (k + Int32.ofInt (1)), xi (Int32.ofInt (0)), xi (Int32.ofInt (0))] [] h := XT_path (l := l) (fr := 0) (lo := 0) (full := false) (M := 45) (n := 153) (u := 6051) (pc := 2) (L := [xf 8 24, xi y, xi z, xi k, x4, x5]) (st := []) (h := h) (inl := []) (n' := 80) (sp := [2]) (o := [0, 0, 1, 1, 0, 1]) rfl rfl ⟨rfl, rfl, rfl⟩ rfl ⟨Nat.le_of_eq hg.2.2.2.1, Nat.le_of_eq hg.2.2.2.2⟩ ⟨⟨⟨⟨⟨⟨⟨⟨⟨⟨⟨⟨trivial, (fun z => absurd (Int32.le_iff_toInt_le.mp z) (by omega))⟩, (vnn hg.1 (rfl : vRf 24 6 = [29]) (by decide))⟩, (vp_of (i := k) (n := 9) (by omega) (by omega))⟩, c1⟩, (vnn hg.1 (rfl : vRf 24 7 = [30]) (by decide))⟩, (vp_of (i := k) (n := 9) (by omega) (by omega))⟩, c2⟩, (vnn hg.1 (rfl : vRf 24 6 = [29]) (by decide))⟩, (vp_of (i := k) (n := 9) (by omega) (by omega))⟩, c8⟩, rfl⟩, rfl⟩
          obtain ⟨v, pcR, L', y1, y2, y3, y4⟩ := ck_joiL24 l O P y z N h hg hn hN ho hp m (k + (Int32.ofInt (1))) _ _ (by omega) (by omega)
          exact ⟨v, pcR, L', t12.tr y1, y2, y3, by rw [y4, show (k + (Int32.ofInt (1))).toInt.toNat = k.toInt.toNat + 1 by omega]; exact (if_neg (by omega)).symm⟩
    · have c1r := c1
      rw [vref hg.1 (rfl : vRf 24 6 = [29])] at c1r
      have dc1 : ¬ (xI h 29 (k).toNatClampNeg).toInt = (y).toInt := fun z_ => c1r (Int32.toInt_inj.mp z_)
      by_cases c13 : (xI h (xR h 24 6) (k).toNatClampNeg) = z
      · have c13r := c13
        rw [vref hg.1 (rfl : vRf 24 6 = [29])] at c13r
        have dc13 : (xI h 29 (k).toNatClampNeg).toInt = (z).toInt := congrArg Int32.toInt c13r
        by_cases c14 : (xI h (xR h 24 7) (k).toNatClampNeg) = y
        · have c14r := c14
          rw [vref hg.1 (rfl : vRf 24 7 = [30])] at c14r
          have dc14 : (xI h 30 (k).toNatClampNeg).toInt = (y).toInt := congrArg Int32.toInt c14r
          have t15 : XT l 0 0 false 45 153 6051 2 [xf 8 24, xi y, xi z, xi k, x4, x5] [] h 75 [xf 8 24, xi y, xi z, xi k, xi (Int32.ofInt (0)), xi (Int32.ofInt (1))] [xi k] h := XT_path (l := l) (fr := 0) (lo := 0) (full := false) (M := 45) (n := 153) (u := 6051) (pc := 2) (L := [xf 8 24, xi y, xi z, xi k, x4, x5]) (st := []) (h := h) (inl := []) (n' := 80) (sp := [75]) (o := [0, 1, 0, 0, 0, 0]) rfl rfl ⟨rfl, rfl, rfl⟩ rfl ⟨Nat.le_of_eq hg.2.2.2.1, Nat.le_of_eq hg.2.2.2.2⟩ ⟨⟨⟨⟨⟨⟨⟨⟨⟨⟨⟨⟨trivial, (fun z => absurd (Int32.le_iff_toInt_le.mp z) (by omega))⟩, (vnn hg.1 (rfl : vRf 24 6 = [29]) (by decide))⟩, (vp_of (i := k) (n := 9) (by omega) (by omega))⟩, c1⟩, (vnn hg.1 (rfl : vRf 24 6 = [29]) (by decide))⟩, (vp_of (i := k) (n := 9) (by omega) (by omega))⟩, c13⟩, (vnn hg.1 (rfl : vRf 24 7 = [30]) (by decide))⟩, (vp_of (i := k) (n := 9) (by omega) (by omega))⟩, c14⟩, rfl⟩, (show ¬ (Int32.ofInt (1)) = 0 from by decide)⟩
          exact ⟨_, _, _, t15, ⟨_, _, _, rfl, rfl, rfl⟩, rfl, by unfold zjn; rw [if_pos (by omega)]; omega⟩
        · have c14r := c14
          rw [vref hg.1 (rfl : vRf 24 7 = [30])] at c14r
          have dc14 : ¬ (xI h 30 (k).toNatClampNeg).toInt = (y).toInt := fun z_ => c14r (Int32.toInt_inj.mp z_)
          have t16 : XT l 0 0 false 45 153 6051 2 [xf 8 24, xi y, xi z, xi k, x4, x5] [] h 2 [xf 8 24, xi y, xi z, xi (k + Int32.ofInt (1)), xi (Int32.ofInt (0)), xi (Int32.ofInt (0))] [] h := XT_path (l := l) (fr := 0) (lo := 0) (full := false) (M := 45) (n := 153) (u := 6051) (pc := 2) (L := [xf 8 24, xi y, xi z, xi k, x4, x5]) (st := []) (h := h) (inl := []) (n' := 80) (sp := [2]) (o := [0, 1, 0, 1, 0, 1]) rfl rfl ⟨rfl, rfl, rfl⟩ rfl ⟨Nat.le_of_eq hg.2.2.2.1, Nat.le_of_eq hg.2.2.2.2⟩ ⟨⟨⟨⟨⟨⟨⟨⟨⟨⟨⟨⟨trivial, (fun z => absurd (Int32.le_iff_toInt_le.mp z) (by omega))⟩, (vnn hg.1 (rfl : vRf 24 6 = [29]) (by decide))⟩, (vp_of (i := k) (n := 9) (by omega) (by omega))⟩, c1⟩, (vnn hg.1 (rfl : vRf 24 6 = [29]) (by decide))⟩, (vp_of (i := k) (n := 9) (by omega) (by omega))⟩, c13⟩, (vnn hg.1 (rfl : vRf 24 7 = [30]) (by decide))⟩, (vp_of (i := k) (n := 9) (by omega) (by omega))⟩, c14⟩, rfl⟩, rfl⟩
          obtain ⟨v, pcR, L', y1, y2, y3, y4⟩ := ck_joiL24 l O P y z N h hg hn hN ho hp m (k + (Int32.ofInt (1))) _ _ (by omega) (by omega)
          exact ⟨v, pcR, L', t16.tr y1, y2, y3, by rw [y4, show (k + (Int32.ofInt (1))).toInt.toNat = k.toInt.toNat + 1 by omega]; exact (if_neg (by omega)).symm⟩
      · have c13r := c13
        rw [vref hg.1 (rfl : vRf 24 6 = [29])] at c13r
        have dc13 : ¬ (xI h 29 (k).toNatClampNeg).toInt = (z).toInt := fun z_ => c13r (Int32.toInt_inj.mp z_)
        have t17 : XT l 0 0 false 45 153 6051 2 [xf 8 24, xi y, xi z, xi k, x4, x5] [] h 2 [xf 8 24, xi y, xi z, xi (k + Int32.ofInt (1)), xi (Int32.ofInt (0)), xi (Int32.ofInt (0))] [] h := XT_path (l := l) (fr := 0) (lo := 0) (full := false) (M := 45) (n := 153) (u := 6051) (pc := 2) (L := [xf 8 24, xi y, xi z, xi k, x4, x5]) (st := []) (h := h) (inl := []) (n' := 80) (sp := [2]) (o := [0, 1, 1, 0, 1]) rfl rfl ⟨rfl, rfl, rfl⟩ rfl ⟨Nat.le_of_eq hg.2.2.2.1, Nat.le_of_eq hg.2.2.2.2⟩ ⟨⟨⟨⟨⟨⟨⟨⟨⟨trivial, (fun z => absurd (Int32.le_iff_toInt_le.mp z) (by omega))⟩, (vnn hg.1 (rfl : vRf 24 6 = [29]) (by decide))⟩, (vp_of (i := k) (n := 9) (by omega) (by omega))⟩, c1⟩, (vnn hg.1 (rfl : vRf 24 6 = [29]) (by decide))⟩, (vp_of (i := k) (n := 9) (by omega) (by omega))⟩, c13⟩, rfl⟩, rfl⟩
        obtain ⟨v, pcR, L', y1, y2, y3, y4⟩ := ck_joiL24 l O P y z N h hg hn hN ho hp m (k + (Int32.ofInt (1))) _ _ (by omega) (by omega)
        exact ⟨v, pcR, L', t17.tr y1, y2, y3, by rw [y4, show (k + (Int32.ofInt (1))).toInt.toNat = k.toInt.toNat + 1 by omega]; exact (if_neg (by omega)).symm⟩
set_option maxRecDepth 100000 in
set_option maxHeartbeats 2000000 in
theorem ck_joi24 (l : Launch) (O P : Nat → Int) (y z : Int32) (N : Nat) (h : XH) (hg : sgood vT vR vE 153 6051 h) (hn : (xI h 24 5).toInt = N) (hN : N ≤ 9) (ho : ∀ k, k < N → (xI h 29 k).toInt = O k) (hp : ∀ k, k < N → (xI h 30 k).toInt = P k) : ∃ v, CX l 0 0 false 45 [xf 8 24, xi y, xi z] h [xi v] h ∧ v.toInt = zjn O P y.toInt z.toInt N 0 := by
  have t1 : XT l 0 0 false 45 153 6051 0 [xf 8 24, xi y, xi z, xun, xun, xun] [] h 2 [xf 8 24, xi y, xi z, xi (Int32.ofInt (0)), xun, xun] [] h := XT_path (l := l) (fr := 0) (lo := 0) (full := false) (M := 45) (n := 153) (u := 6051) (pc := 0) (L := [xf 8 24, xi y, xi z, xun, xun, xun]) (st := []) (h := h) (inl := []) (n' := 80) (sp := [2]) (o := []) rfl rfl ⟨rfl, rfl, rfl⟩ rfl ⟨Nat.le_of_eq hg.2.2.2.1, Nat.le_of_eq hg.2.2.2.2⟩ trivial
  obtain ⟨v, pcR, L', y1, y2, y3, y4⟩ := ck_joiL24 l O P y z N h hg hn hN ho hp N (Int32.ofInt (0)) xun xun (by decide) (by rw [show (Int32.ofInt (0)).toInt = 0 from rfl]; omega)
  exact ⟨v, CX_ofT (by decide) rfl rfl trivial y2 y3 ⟨Nat.le_of_eq hg.2.2.2.1.symm, Nat.le_of_eq hg.2.2.2.2.symm⟩ (t1.tr y1), y4⟩
