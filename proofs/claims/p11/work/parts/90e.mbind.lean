/-! THE MODEL READS AN EXPRESSION: what binds. -/
theorem jkn_l {c : Int} (h : zsn c) : (c = 5 ∧ jkn c = 0 ∧ lev c = 0) ∨ (7 ≤ c ∧ c ≤ 12 ∧ jkn c = c - 2 ∧ lev c = 4) ∨ (13 ≤ c ∧ c ≤ 14 ∧ jkn c = c - 2 ∧ lev c = 5) ∨ (15 ≤ c ∧ c ≤ 16 ∧ jkn c = c - 2 ∧ lev c = 6) ∨ (c = 30 ∧ jkn c = 4 ∧ lev c = 1) ∨ (c = 31 ∧ jkn c = 3 ∧ lev c = 2) ∨ (c = 32 ∧ jkn c = 2 ∧ lev c = 3) := by
  unfold zsn at h
  unfold jkn lev
  omega
def jW (Z : Nat → Int) (h : XH) : Prop := (xI h 104 46).toInt = Z 11 ∧ (xI h 104 47).toInt = Z 14 ∧ (∀ k : Nat, (k : Int) < Z 11 → (xI h 129 k).toInt = jkn (Z (700 + k))) ∧ (∀ k : Nat, (k : Int) < Z 14 → (xI h 130 k).toInt = Z (800 + k))
set_option maxRecDepth 100000 in
set_option maxHeartbeats 4000000 in
theorem jk_rank (l : Launch) (k : Int32) (c : Int) (h : XH) (hg : mI h) (hs : zsn c) (hk : k.toInt = jkn c) : ∃ r, CX l 0 0 false 209 [xi k] h [xi r] h ∧ r.toInt = lev c := by
  have jl := jkn_l hs
  by_cases cb1 : k < (Int32.ofInt (13))
  · have e_13 : (Int32.ofInt (13)).toInt = 13 := rfl
    have dcb1 : (k).toInt < (Int32.ofInt (13)).toInt := Int32.lt_iff_toInt_lt.mp cb1
    by_cases cb2 : k < (Int32.ofInt (11))
    · have e_11 : (Int32.ofInt (11)).toInt = 11 := rfl
      have dcb2 : (k).toInt < (Int32.ofInt (11)).toInt := Int32.lt_iff_toInt_lt.mp cb2
      by_cases cb3 : k < (Int32.ofInt (5))
      · have e_5 : (Int32.ofInt (5)).toInt = 5 := rfl
        have dcb3 : (k).toInt < (Int32.ofInt (5)).toInt := Int32.lt_iff_toInt_lt.mp cb3
        by_cases cb4 : k = (Int32.ofInt (2))
        · have e_2 : (Int32.ofInt (2)).toInt = 2 := rfl
          have dcb4 : (k).toInt = (Int32.ofInt (2)).toInt := congrArg Int32.toInt cb4
          have t5 : XT l 0 0 false 209 153 6051 0 [xi k] [] h 58 [xi k] [xi (Int32.ofInt (3))] h := XT_path (l := l) (fr := 0) (lo := 0) (full := false) (M := 209) (n := 153) (u := 6051) (pc := 0) (L := [xi k]) (st := []) (h := h) (inl := []) (n' := 80) (sp := [58]) (o := [1, 1, 1, 0]) rfl rfl ⟨rfl, rfl, rfl⟩ rfl ⟨Nat.le_of_eq hg.2.2.2.1, Nat.le_of_eq hg.2.2.2.2⟩ ⟨⟨⟨⟨trivial, cb1⟩, cb2⟩, cb3⟩, cb4⟩
          have er : (Int32.ofInt (3)).toInt = 3 := rfl
          exact ⟨_, CX_ofT (h' := h) (by decide) rfl rfl trivial ⟨_, _, _, rfl, rfl, rfl⟩ rfl ⟨Nat.le_of_eq hg.2.2.2.1.symm, Nat.le_of_eq hg.2.2.2.2.symm⟩ t5, by omega⟩
        · have e_2 : (Int32.ofInt (2)).toInt = 2 := rfl
          have dcb4 : ¬ (k).toInt = (Int32.ofInt (2)).toInt := fun z_ => cb4 (Int32.toInt_inj.mp z_)
          by_cases cb6 : k = (Int32.ofInt (3))
          · have e_3 : (Int32.ofInt (3)).toInt = 3 := rfl
            have dcb6 : (k).toInt = (Int32.ofInt (3)).toInt := congrArg Int32.toInt cb6
            have t7 : XT l 0 0 false 209 153 6051 0 [xi k] [] h 58 [xi k] [xi (Int32.ofInt (2))] h := XT_path (l := l) (fr := 0) (lo := 0) (full := false) (M := 209) (n := 153) (u := 6051) (pc := 0) (L := [xi k]) (st := []) (h := h) (inl := []) (n' := 80) (sp := [58]) (o := [1, 1, 1, 1, 0]) rfl rfl ⟨rfl, rfl, rfl⟩ rfl ⟨Nat.le_of_eq hg.2.2.2.1, Nat.le_of_eq hg.2.2.2.2⟩ ⟨⟨⟨⟨⟨trivial, cb1⟩, cb2⟩, cb3⟩, cb4⟩, cb6⟩
            have er : (Int32.ofInt (2)).toInt = 2 := rfl
            exact ⟨_, CX_ofT (h' := h) (by decide) rfl rfl trivial ⟨_, _, _, rfl, rfl, rfl⟩ rfl ⟨Nat.le_of_eq hg.2.2.2.1.symm, Nat.le_of_eq hg.2.2.2.2.symm⟩ t7, by omega⟩
          · have e_3 : (Int32.ofInt (3)).toInt = 3 := rfl
            have dcb6 : ¬ (k).toInt = (Int32.ofInt (3)).toInt := fun z_ => cb6 (Int32.toInt_inj.mp z_)
            by_cases cb8 : k = (Int32.ofInt (4))
            · have e_4 : (Int32.ofInt (4)).toInt = 4 := rfl
              have dcb8 : (k).toInt = (Int32.ofInt (4)).toInt := congrArg Int32.toInt cb8
              have t9 : XT l 0 0 false 209 153 6051 0 [xi k] [] h 58 [xi k] [xi (Int32.ofInt (1))] h := XT_path (l := l) (fr := 0) (lo := 0) (full := false) (M := 209) (n := 153) (u := 6051) (pc := 0) (L := [xi k]) (st := []) (h := h) (inl := []) (n' := 80) (sp := [58]) (o := [1, 1, 1, 1, 1, 0]) rfl rfl ⟨rfl, rfl, rfl⟩ rfl ⟨Nat.le_of_eq hg.2.2.2.1, Nat.le_of_eq hg.2.2.2.2⟩ ⟨⟨⟨⟨⟨⟨trivial, cb1⟩, cb2⟩, cb3⟩, cb4⟩, cb6⟩, cb8⟩
              have er : (Int32.ofInt (1)).toInt = 1 := rfl
              exact ⟨_, CX_ofT (h' := h) (by decide) rfl rfl trivial ⟨_, _, _, rfl, rfl, rfl⟩ rfl ⟨Nat.le_of_eq hg.2.2.2.1.symm, Nat.le_of_eq hg.2.2.2.2.symm⟩ t9, by omega⟩
            · have e_4 : (Int32.ofInt (4)).toInt = 4 := rfl
              have dcb8 : ¬ (k).toInt = (Int32.ofInt (4)).toInt := fun z_ => cb8 (Int32.toInt_inj.mp z_)
              have t10 : XT l 0 0 false 209 153 6051 0 [xi k] [] h 58 [xi k] [xi (Int32.ofInt (0))] h := XT_path (l := l) (fr := 0) (lo := 0) (full := false) (M := 209) (n := 153) (u := 6051) (pc := 0) (L := [xi k]) (st := []) (h := h) (inl := []) (n' := 80) (sp := [58]) (o := [1, 1, 1, 1, 1, 1]) rfl rfl ⟨rfl, rfl, rfl⟩ rfl ⟨Nat.le_of_eq hg.2.2.2.1, Nat.le_of_eq hg.2.2.2.2⟩ ⟨⟨⟨⟨⟨⟨trivial, cb1⟩, cb2⟩, cb3⟩, cb4⟩, cb6⟩, cb8⟩
              have er : (Int32.ofInt (0)).toInt = 0 := rfl
              exact ⟨_, CX_ofT (h' := h) (by decide) rfl rfl trivial ⟨_, _, _, rfl, rfl, rfl⟩ rfl ⟨Nat.le_of_eq hg.2.2.2.1.symm, Nat.le_of_eq hg.2.2.2.2.symm⟩ t10, by omega⟩
      · have e_5 : (Int32.ofInt (5)).toInt = 5 := rfl
        have dcb3 : (Int32.ofInt (5)).toInt ≤ (k).toInt := Int32.le_iff_toInt_le.mp (Int32.not_lt.mp cb3)
        have t11 : XT l 0 0 false 209 153 6051 0 [xi k] [] h 58 [xi k] [xi (Int32.ofInt (4))] h := XT_path (l := l) (fr := 0) (lo := 0) (full := false) (M := 209) (n := 153) (u := 6051) (pc := 0) (L := [xi k]) (st := []) (h := h) (inl := []) (n' := 80) (sp := [58]) (o := [1, 1, 0]) rfl rfl ⟨rfl, rfl, rfl⟩ rfl ⟨Nat.le_of_eq hg.2.2.2.1, Nat.le_of_eq hg.2.2.2.2⟩ ⟨⟨⟨trivial, cb1⟩, cb2⟩, cb3⟩
        have er : (Int32.ofInt (4)).toInt = 4 := rfl
        exact ⟨_, CX_ofT (h' := h) (by decide) rfl rfl trivial ⟨_, _, _, rfl, rfl, rfl⟩ rfl ⟨Nat.le_of_eq hg.2.2.2.1.symm, Nat.le_of_eq hg.2.2.2.2.symm⟩ t11, by omega⟩
    · have e_11 : (Int32.ofInt (11)).toInt = 11 := rfl
      have dcb2 : (Int32.ofInt (11)).toInt ≤ (k).toInt := Int32.le_iff_toInt_le.mp (Int32.not_lt.mp cb2)
      have t12 : XT l 0 0 false 209 153 6051 0 [xi k] [] h 58 [xi k] [xi (Int32.ofInt (5))] h := XT_path (l := l) (fr := 0) (lo := 0) (full := false) (M := 209) (n := 153) (u := 6051) (pc := 0) (L := [xi k]) (st := []) (h := h) (inl := []) (n' := 80) (sp := [58]) (o := [1, 0]) rfl rfl ⟨rfl, rfl, rfl⟩ rfl ⟨Nat.le_of_eq hg.2.2.2.1, Nat.le_of_eq hg.2.2.2.2⟩ ⟨⟨trivial, cb1⟩, cb2⟩
      have er : (Int32.ofInt (5)).toInt = 5 := rfl
      exact ⟨_, CX_ofT (h' := h) (by decide) rfl rfl trivial ⟨_, _, _, rfl, rfl, rfl⟩ rfl ⟨Nat.le_of_eq hg.2.2.2.1.symm, Nat.le_of_eq hg.2.2.2.2.symm⟩ t12, by omega⟩
  · have e_13 : (Int32.ofInt (13)).toInt = 13 := rfl
    have dcb1 : (Int32.ofInt (13)).toInt ≤ (k).toInt := Int32.le_iff_toInt_le.mp (Int32.not_lt.mp cb1)
    have t13 : XT l 0 0 false 209 153 6051 0 [xi k] [] h 58 [xi k] [xi (Int32.ofInt (6))] h := XT_path (l := l) (fr := 0) (lo := 0) (full := false) (M := 209) (n := 153) (u := 6051) (pc := 0) (L := [xi k]) (st := []) (h := h) (inl := []) (n' := 80) (sp := [58]) (o := [0]) rfl rfl ⟨rfl, rfl, rfl⟩ rfl ⟨Nat.le_of_eq hg.2.2.2.1, Nat.le_of_eq hg.2.2.2.2⟩ ⟨trivial, cb1⟩
    have er : (Int32.ofInt (6)).toInt = 6 := rfl
    exact ⟨_, CX_ofT (h' := h) (by decide) rfl rfl trivial ⟨_, _, _, rfl, rfl, rfl⟩ rfl ⟨Nat.le_of_eq hg.2.2.2.1.symm, Nat.le_of_eq hg.2.2.2.2.symm⟩ t13, by omega⟩
set_option maxRecDepth 100000 in
set_option maxHeartbeats 4000000 in
theorem jk_drop (l : Launch) (h : XH) (hg : mI h) (h1 : 1 ≤ (xI h 104 47).toInt) : ∃ v h', CX l 0 0 false 210 [xf 13 104] h [xi v] h' ∧ mT ([(104, 47, false)], []) h h' ∧ (xI h' 104 47).toInt = (xI h 104 47).toInt - 1 ∧ v = xI h 130 ((xI h 104 47).toInt.toNat - 1) := by
  have b47 : 0 ≤ (xI h 104 47).toInt ∧ (xI h 104 47).toInt ≤ 64 := vbnd hg.1 104 47
  have e := y_pred (k := xI h 104 47) (by omega) (by omega)
  have ni : ((xI h 104 47) - (Int32.ofInt (1))).toNatClampNeg = (xI h 104 47).toInt.toNat - 1 := by
    show ((xI h 104 47) - (Int32.ofInt (1))).toInt.toNat = _
    omega
  have t1 : XT l 0 0 false 210 153 6051 0 [xf 13 104] [] h 19 [xf 13 104] [xi (xI (xsetI h 104 47 ((xI h 104 47) - (Int32.ofInt (1)))) (xR h 104 45) (((xI h 104 47) - (Int32.ofInt (1)))).toNatClampNeg)] (xsetI h 104 47 ((xI h 104 47) - (Int32.ofInt (1)))) := XT_path (l := l) (fr := 0) (lo := 0) (full := false) (M := 210) (n := 153) (u := 6051) (pc := 0) (L := [xf 13 104]) (st := []) (h := h) (inl := []) (n' := 80) (sp := [19]) (o := []) rfl rfl ⟨rfl, rfl, rfl⟩ rfl ⟨Nat.le_of_eq hg.2.2.2.1, Nat.le_of_eq hg.2.2.2.2⟩ ⟨⟨trivial, (vnn hg.1 (rfl : vRf 104 45 = [130]) (by decide))⟩, (vp_of (i := ((xI h 104 47) - (Int32.ofInt (1)))) (n := 96) (by omega) (by omega))⟩
  rw [vref hg.1 (rfl : vRf 104 45 = [130])] at t1
  have t2 : XT l 0 0 false 210 153 6051 0 [xf 13 104] [] h 19 [xf 13 104] [xi (xI h 130 (((xI h 104 47) - (Int32.ofInt (1)))).toNatClampNeg)] (xsetI h 104 47 ((xI h 104 47) - (Int32.ofInt (1)))) := t1
  have G0 : mT ([(104, 47, false)], []) h (xsetI h 104 47 ((xI h 104 47) - (Int32.ofInt (1)))) := ((mT.rf hg) : mT ([(104, 47, false)], []) h h).set (c := 104) (k := 47) (v := ((xI h 104 47) - (Int32.ofInt (1)))) (show (0 : Int) ≤ _ ∧ _ ≤ 64 from ⟨by omega, by omega⟩) rfl
  exact ⟨_, _, CX_ofT (h' := (xsetI h 104 47 ((xI h 104 47) - (Int32.ofInt (1))))) (by decide) rfl rfl trivial ⟨_, _, _, rfl, rfl, rfl⟩ rfl ⟨Nat.le_of_eq hg.2.2.2.1.symm, Nat.le_of_eq hg.2.2.2.2.symm⟩ t2, G0, by rw [yI_same]; exact e, by rw [ni]⟩
set_option maxRecDepth 100000 in
set_option maxHeartbeats 4000000 in
theorem jk_grown (l : Launch) (k a b : Int32) (h : XH) (hg : mI h) (h1 : (xI h 104 21).toInt ≤ 63) (h2 : (xI h 104 47).toInt ≤ 63) (hk : 0 ≤ k.toInt ∧ k.toInt ≤ 14) (hb : -1 ≤ b.toInt ∧ b.toInt ≤ 63) : ∃ h', CX l 0 0 false 206 [xf 13 104, xi k, xi a, xi b] h [] h' ∧ mT ([(104, 21, false), (104, 47, false), (126, 0, true), (127, 0, true), (128, 0, true), (130, 0, true)], []) h h' ∧ (xI h' 104 21).toInt = (xI h 104 21).toInt + 1 ∧ (xI h' 104 47).toInt = (xI h 104 47).toInt + 1 ∧ (xI h' 126 (64 + (xI h 104 21).toInt.toNat) = k ∧ xI h' 127 (64 + (xI h 104 21).toInt.toNat) = a ∧ xI h' 128 (64 + (xI h 104 21).toInt.toNat) = b ∧ xI h' 130 (xI h 104 47).toInt.toNat = xI h 104 21) ∧ (∀ i, i ≠ 64 + (xI h 104 21).toInt.toNat → xI h' 126 i = xI h 126 i ∧ xI h' 127 i = xI h 127 i ∧ xI h' 128 i = xI h 128 i) ∧ (∀ i, i ≠ (xI h 104 47).toInt.toNat → xI h' 130 i = xI h 130 i) := by
  have b21 : 0 ≤ (xI h 104 21).toInt ∧ (xI h 104 21).toInt ≤ 64 := vbnd hg.1 104 21
  have b47 : 0 ≤ (xI h 104 47).toInt ∧ (xI h 104 47).toInt ≤ 64 := vbnd hg.1 104 47
  have e := y_64 b21.1 (by omega)
  have e1 := y_suc1 b21.1 (by omega)
  have e2 := y_suc1 b47.1 (by omega)
  have ni : (((Int32.ofInt (64))) + (xI h 104 21)).toNatClampNeg = 64 + (xI h 104 21).toInt.toNat := by
    show ((Int32.ofInt (64)) + (xI h 104 21)).toInt.toNat = _
    omega
  have t1 : XT l 0 0 false 206 153 6051 0 [xf 13 104, xi k, xi a, xi b] [] h 13 [xf 13 104, xi k, xi a, xi b] [] (xsetI h (xR h 104 41) (((Int32.ofInt (64)) + (xI h 104 21))).toNatClampNeg k) := XT_path (l := l) (fr := 0) (lo := 0) (full := false) (M := 206) (n := 153) (u := 6051) (pc := 0) (L := [xf 13 104, xi k, xi a, xi b]) (st := []) (h := h) (inl := []) (n' := 80) (sp := [13]) (o := []) rfl rfl ⟨rfl, rfl, rfl⟩ rfl ⟨Nat.le_of_eq hg.2.2.2.1, Nat.le_of_eq hg.2.2.2.2⟩ ⟨⟨trivial, (vnn hg.1 (rfl : vRf 104 41 = [126]) (by decide))⟩, (vp_of (i := ((Int32.ofInt (64)) + (xI h 104 21))) (n := 128) (by omega) (by omega))⟩
  rw [vref hg.1 (rfl : vRf 104 41 = [126])] at t1
  have t2 : XT l 0 0 false 206 153 6051 13 [xf 13 104, xi k, xi a, xi b] [] (xsetI h 126 (((Int32.ofInt (64)) + (xI h 104 21))).toNatClampNeg k) 26 [xf 13 104, xi k, xi a, xi b] [] (xsetI (xsetI h 126 (((Int32.ofInt (64)) + (xI h 104 21))).toNatClampNeg k) (xR h 104 42) (((Int32.ofInt (64)) + (xI h 104 21))).toNatClampNeg a) := XT_path (l := l) (fr := 0) (lo := 0) (full := false) (M := 206) (n := 153) (u := 6051) (pc := 13) (L := [xf 13 104, xi k, xi a, xi b]) (st := []) (h := (xsetI h 126 (((Int32.ofInt (64)) + (xI h 104 21))).toNatClampNeg k)) (inl := []) (n' := 80) (sp := [26]) (o := []) rfl rfl ⟨rfl, rfl, rfl⟩ rfl ⟨Nat.le_of_eq hg.2.2.2.1, Nat.le_of_eq hg.2.2.2.2⟩ ⟨⟨trivial, (vnn hg.1 (rfl : vRf 104 42 = [127]) (by decide))⟩, (vp_of (i := ((Int32.ofInt (64)) + (xI h 104 21))) (n := 128) (by omega) (by omega))⟩
  rw [vref hg.1 (rfl : vRf 104 42 = [127])] at t2
  have t3 := t1.tr t2
  have t4 : XT l 0 0 false 206 153 6051 26 [xf 13 104, xi k, xi a, xi b] [] (xsetI (xsetI h 126 (((Int32.ofInt (64)) + (xI h 104 21))).toNatClampNeg k) 127 (((Int32.ofInt (64)) + (xI h 104 21))).toNatClampNeg a) 39 [xf 13 104, xi k, xi a, xi b] [] (xsetI (xsetI (xsetI h 126 (((Int32.ofInt (64)) + (xI h 104 21))).toNatClampNeg k) 127 (((Int32.ofInt (64)) + (xI h 104 21))).toNatClampNeg a) (xR h 104 43) (((Int32.ofInt (64)) + (xI h 104 21))).toNatClampNeg b) := XT_path (l := l) (fr := 0) (lo := 0) (full := false) (M := 206) (n := 153) (u := 6051) (pc := 26) (L := [xf 13 104, xi k, xi a, xi b]) (st := []) (h := (xsetI (xsetI h 126 (((Int32.ofInt (64)) + (xI h 104 21))).toNatClampNeg k) 127 (((Int32.ofInt (64)) + (xI h 104 21))).toNatClampNeg a)) (inl := []) (n' := 80) (sp := [39]) (o := []) rfl rfl ⟨rfl, rfl, rfl⟩ rfl ⟨Nat.le_of_eq hg.2.2.2.1, Nat.le_of_eq hg.2.2.2.2⟩ ⟨⟨trivial, (vnn hg.1 (rfl : vRf 104 43 = [128]) (by decide))⟩, (vp_of (i := ((Int32.ofInt (64)) + (xI h 104 21))) (n := 128) (by omega) (by omega))⟩
  rw [vref hg.1 (rfl : vRf 104 43 = [128])] at t4
  have t5 := t3.tr t4
  have t6 : XT l 0 0 false 206 153 6051 39 [xf 13 104, xi k, xi a, xi b] [] (xsetI (xsetI (xsetI h 126 (((Int32.ofInt (64)) + (xI h 104 21))).toNatClampNeg k) 127 (((Int32.ofInt (64)) + (xI h 104 21))).toNatClampNeg a) 128 (((Int32.ofInt (64)) + (xI h 104 21))).toNatClampNeg b) 52 [xf 13 104, xi k, xi a, xi b] [] (xsetI (xsetI (xsetI (xsetI h 126 (((Int32.ofInt (64)) + (xI h 104 21))).toNatClampNeg k) 127 (((Int32.ofInt (64)) + (xI h 104 21))).toNatClampNeg a) 128 (((Int32.ofInt (64)) + (xI h 104 21))).toNatClampNeg b) (xR h 104 45) ((xI h 104 47)).toNatClampNeg (xI h 104 21)) := XT_path (l := l) (fr := 0) (lo := 0) (full := false) (M := 206) (n := 153) (u := 6051) (pc := 39) (L := [xf 13 104, xi k, xi a, xi b]) (st := []) (h := (xsetI (xsetI (xsetI h 126 (((Int32.ofInt (64)) + (xI h 104 21))).toNatClampNeg k) 127 (((Int32.ofInt (64)) + (xI h 104 21))).toNatClampNeg a) 128 (((Int32.ofInt (64)) + (xI h 104 21))).toNatClampNeg b)) (inl := []) (n' := 80) (sp := [52]) (o := []) rfl rfl ⟨rfl, rfl, rfl⟩ rfl ⟨Nat.le_of_eq hg.2.2.2.1, Nat.le_of_eq hg.2.2.2.2⟩ ⟨⟨trivial, (vnn hg.1 (rfl : vRf 104 45 = [130]) (by decide))⟩, (vp_of (i := (xI h 104 47)) (n := 96) (by omega) (by omega))⟩
  rw [vref hg.1 (rfl : vRf 104 45 = [130])] at t6
  have t7 := t5.tr t6
  have t8 : XT l 0 0 false 206 153 6051 52 [xf 13 104, xi k, xi a, xi b] [] (xsetI (xsetI (xsetI (xsetI h 126 (((Int32.ofInt (64)) + (xI h 104 21))).toNatClampNeg k) 127 (((Int32.ofInt (64)) + (xI h 104 21))).toNatClampNeg a) 128 (((Int32.ofInt (64)) + (xI h 104 21))).toNatClampNeg b) 130 ((xI h 104 47)).toNatClampNeg (xI h 104 21)) 72 [xf 13 104, xi k, xi a, xi b] [] (xsetI (xsetI (xsetI (xsetI (xsetI (xsetI h 126 (((Int32.ofInt (64)) + (xI h 104 21))).toNatClampNeg k) 127 (((Int32.ofInt (64)) + (xI h 104 21))).toNatClampNeg a) 128 (((Int32.ofInt (64)) + (xI h 104 21))).toNatClampNeg b) 130 ((xI h 104 47)).toNatClampNeg (xI h 104 21)) 104 47 ((xI h 104 47) + (Int32.ofInt (1)))) 104 21 ((xI h 104 21) + (Int32.ofInt (1)))) := XT_path (l := l) (fr := 0) (lo := 0) (full := false) (M := 206) (n := 153) (u := 6051) (pc := 52) (L := [xf 13 104, xi k, xi a, xi b]) (st := []) (h := (xsetI (xsetI (xsetI (xsetI h 126 (((Int32.ofInt (64)) + (xI h 104 21))).toNatClampNeg k) 127 (((Int32.ofInt (64)) + (xI h 104 21))).toNatClampNeg a) 128 (((Int32.ofInt (64)) + (xI h 104 21))).toNatClampNeg b) 130 ((xI h 104 47)).toNatClampNeg (xI h 104 21))) (inl := []) (n' := 80) (sp := [72]) (o := []) rfl rfl ⟨rfl, rfl, rfl⟩ rfl ⟨Nat.le_of_eq hg.2.2.2.1, Nat.le_of_eq hg.2.2.2.2⟩ trivial
  have t9 := t7.tr t8
  have w10 : mT ([(104, 21, false), (104, 47, false), (126, 0, true), (127, 0, true), (128, 0, true), (130, 0, true)], []) h (xsetI h 126 (((Int32.ofInt (64)) + (xI h 104 21))).toNatClampNeg k) := ((mT.rf hg) : mT ([(104, 21, false), (104, 47, false), (126, 0, true), (127, 0, true), (128, 0, true), (130, 0, true)], []) h h).set (c := 126) (k := (((Int32.ofInt (64)) + (xI h 104 21))).toNatClampNeg) (v := k) (by rw [vI_u (c := 126) (q := (0, 14)) (by decide +kernel) (by decide +kernel)]; exact ⟨by show (0 : Int) ≤ _; omega, by show _ ≤ (14 : Int); omega⟩) (swj_s rfl (by show 64 ≤ (((Int32.ofInt (64)) + (xI h 104 21))).toInt.toNat; omega))
  have w11 : mT ([(104, 21, false), (104, 47, false), (126, 0, true), (127, 0, true), (128, 0, true), (130, 0, true)], []) h (xsetI (xsetI h 126 (((Int32.ofInt (64)) + (xI h 104 21))).toNatClampNeg k) 127 (((Int32.ofInt (64)) + (xI h 104 21))).toNatClampNeg a) := (w10 : mT ([(104, 21, false), (104, 47, false), (126, 0, true), (127, 0, true), (128, 0, true), (130, 0, true)], []) h (xsetI h 126 (((Int32.ofInt (64)) + (xI h 104 21))).toNatClampNeg k)).set (c := 127) (k := (((Int32.ofInt (64)) + (xI h 104 21))).toNatClampNeg) (v := a) (by rw [vI_u (c := 127) (q := (-2147483648, 2147483647)) (by decide +kernel) (by decide +kernel)]; exact i32r_of _) (swj_s rfl (by show 64 ≤ (((Int32.ofInt (64)) + (xI h 104 21))).toInt.toNat; omega))
  have w12 : mT ([(104, 21, false), (104, 47, false), (126, 0, true), (127, 0, true), (128, 0, true), (130, 0, true)], []) h (xsetI (xsetI (xsetI h 126 (((Int32.ofInt (64)) + (xI h 104 21))).toNatClampNeg k) 127 (((Int32.ofInt (64)) + (xI h 104 21))).toNatClampNeg a) 128 (((Int32.ofInt (64)) + (xI h 104 21))).toNatClampNeg b) := (w11 : mT ([(104, 21, false), (104, 47, false), (126, 0, true), (127, 0, true), (128, 0, true), (130, 0, true)], []) h (xsetI (xsetI h 126 (((Int32.ofInt (64)) + (xI h 104 21))).toNatClampNeg k) 127 (((Int32.ofInt (64)) + (xI h 104 21))).toNatClampNeg a)).set (c := 128) (k := (((Int32.ofInt (64)) + (xI h 104 21))).toNatClampNeg) (v := b) (by rw [vI_u (c := 128) (q := (-1, 63)) (by decide +kernel) (by decide +kernel)]; exact ⟨by show (-1 : Int) ≤ _; omega, by show _ ≤ (63 : Int); omega⟩) (swj_s rfl (by show 64 ≤ (((Int32.ofInt (64)) + (xI h 104 21))).toInt.toNat; omega))
  have w13 : mT ([(104, 21, false), (104, 47, false), (126, 0, true), (127, 0, true), (128, 0, true), (130, 0, true)], []) h (xsetI (xsetI (xsetI (xsetI h 126 (((Int32.ofInt (64)) + (xI h 104 21))).toNatClampNeg k) 127 (((Int32.ofInt (64)) + (xI h 104 21))).toNatClampNeg a) 128 (((Int32.ofInt (64)) + (xI h 104 21))).toNatClampNeg b) 130 ((xI h 104 47)).toNatClampNeg (xI h 104 21)) := (w12 : mT ([(104, 21, false), (104, 47, false), (126, 0, true), (127, 0, true), (128, 0, true), (130, 0, true)], []) h (xsetI (xsetI (xsetI h 126 (((Int32.ofInt (64)) + (xI h 104 21))).toNatClampNeg k) 127 (((Int32.ofInt (64)) + (xI h 104 21))).toNatClampNeg a) 128 (((Int32.ofInt (64)) + (xI h 104 21))).toNatClampNeg b)).set (c := 130) (k := ((xI h 104 47)).toNatClampNeg) (v := (xI h 104 21)) (by rw [vI_u (c := 130) (q := (0, 63)) (by decide +kernel) (by decide +kernel)]; exact ⟨by show (0 : Int) ≤ _; omega, by show _ ≤ (63 : Int); omega⟩) rfl
  have w14 : mT ([(104, 21, false), (104, 47, false), (126, 0, true), (127, 0, true), (128, 0, true), (130, 0, true)], []) h (xsetI (xsetI (xsetI (xsetI (xsetI h 126 (((Int32.ofInt (64)) + (xI h 104 21))).toNatClampNeg k) 127 (((Int32.ofInt (64)) + (xI h 104 21))).toNatClampNeg a) 128 (((Int32.ofInt (64)) + (xI h 104 21))).toNatClampNeg b) 130 ((xI h 104 47)).toNatClampNeg (xI h 104 21)) 104 47 ((xI h 104 47) + (Int32.ofInt (1)))) := (w13 : mT ([(104, 21, false), (104, 47, false), (126, 0, true), (127, 0, true), (128, 0, true), (130, 0, true)], []) h (xsetI (xsetI (xsetI (xsetI h 126 (((Int32.ofInt (64)) + (xI h 104 21))).toNatClampNeg k) 127 (((Int32.ofInt (64)) + (xI h 104 21))).toNatClampNeg a) 128 (((Int32.ofInt (64)) + (xI h 104 21))).toNatClampNeg b) 130 ((xI h 104 47)).toNatClampNeg (xI h 104 21))).set (c := 104) (k := 47) (v := ((xI h 104 47) + (Int32.ofInt (1)))) (show (0 : Int) ≤ _ ∧ _ ≤ 64 from ⟨by omega, by omega⟩) rfl
  have G0 : mT ([(104, 21, false), (104, 47, false), (126, 0, true), (127, 0, true), (128, 0, true), (130, 0, true)], []) h (xsetI (xsetI (xsetI (xsetI (xsetI (xsetI h 126 (((Int32.ofInt (64)) + (xI h 104 21))).toNatClampNeg k) 127 (((Int32.ofInt (64)) + (xI h 104 21))).toNatClampNeg a) 128 (((Int32.ofInt (64)) + (xI h 104 21))).toNatClampNeg b) 130 ((xI h 104 47)).toNatClampNeg (xI h 104 21)) 104 47 ((xI h 104 47) + (Int32.ofInt (1)))) 104 21 ((xI h 104 21) + (Int32.ofInt (1)))) := (w14 : mT ([(104, 21, false), (104, 47, false), (126, 0, true), (127, 0, true), (128, 0, true), (130, 0, true)], []) h (xsetI (xsetI (xsetI (xsetI (xsetI h 126 (((Int32.ofInt (64)) + (xI h 104 21))).toNatClampNeg k) 127 (((Int32.ofInt (64)) + (xI h 104 21))).toNatClampNeg a) 128 (((Int32.ofInt (64)) + (xI h 104 21))).toNatClampNeg b) 130 ((xI h 104 47)).toNatClampNeg (xI h 104 21)) 104 47 ((xI h 104 47) + (Int32.ofInt (1))))).set (c := 104) (k := 21) (v := ((xI h 104 21) + (Int32.ofInt (1)))) (show (0 : Int) ≤ _ ∧ _ ≤ 64 from ⟨by omega, by omega⟩) rfl
  refine ⟨_, CX_ofT (h' := (xsetI (xsetI (xsetI (xsetI (xsetI (xsetI h 126 (((Int32.ofInt (64)) + (xI h 104 21))).toNatClampNeg k) 127 (((Int32.ofInt (64)) + (xI h 104 21))).toNatClampNeg a) 128 (((Int32.ofInt (64)) + (xI h 104 21))).toNatClampNeg b) 130 ((xI h 104 47)).toNatClampNeg (xI h 104 21)) 104 47 ((xI h 104 47) + (Int32.ofInt (1)))) 104 21 ((xI h 104 21) + (Int32.ofInt (1))))) (by decide) rfl rfl trivial ⟨_, _, _, rfl, rfl, rfl⟩ rfl ⟨Nat.le_of_eq hg.2.2.2.1.symm, Nat.le_of_eq hg.2.2.2.2.symm⟩ t9, G0, ?_, ?_, ⟨?_, ?_, ?_, ?_⟩, fun i hi => ⟨?_, ?_, ?_⟩, fun i hi => ?_⟩
  · rw [yI_same]; exact e1
  · rw [yI_ne (by decide), yI_same]; exact e2
  · rw [← ni]; exact (yI_c (by decide)).trans ((yI_c (by decide)).trans ((yI_c (by decide)).trans ((yI_c (by decide)).trans ((yI_c (by decide)).trans (yI_same)))))
  · rw [← ni]; exact (yI_c (by decide)).trans ((yI_c (by decide)).trans ((yI_c (by decide)).trans ((yI_c (by decide)).trans (yI_same))))
  · rw [← ni]; exact (yI_c (by decide)).trans ((yI_c (by decide)).trans ((yI_c (by decide)).trans (yI_same)))
  · exact (yI_c (by decide)).trans ((yI_c (by decide)).trans (yI_same))
  · exact (yI_c (by decide)).trans ((yI_c (by decide)).trans ((yI_c (by decide)).trans ((yI_c (by decide)).trans ((yI_c (by decide)).trans (yI_ne (eq_false (fun z => hi (z.2.trans ni))))))))
  · exact (yI_c (by decide)).trans ((yI_c (by decide)).trans ((yI_c (by decide)).trans ((yI_c (by decide)).trans ((yI_ne (eq_false (fun z => hi (z.2.trans ni)))).trans (yI_c (by decide))))))
  · exact (yI_c (by decide)).trans ((yI_c (by decide)).trans ((yI_c (by decide)).trans ((yI_ne (eq_false (fun z => hi (z.2.trans ni)))).trans ((yI_c (by decide)).trans (yI_c (by decide))))))
  · exact (yI_c (by decide)).trans ((yI_c (by decide)).trans ((yI_ne (eq_false (fun z => hi z.2))).trans ((yI_c (by decide)).trans ((yI_c (by decide)).trans (yI_c (by decide))))))
theorem sw47 {c k : Nat} (h : ¬ (c = 104 ∧ k = 47)) : swj ([(104, 47, false)] : SWl) c k = false := sj_no (fun q hq z => h (by
  simp only [List.mem_cons, List.not_mem_nil, or_false] at hq
  rcases hq with rfl
  exact ⟨z.1.symm, (z.2.resolve_left (by decide)).symm⟩))
/-- one sign more is bound: the pure end -/
theorem je_b1 {f : Int} {Z : Nat → Int} {h H : XH} (ao : jO Z h) (aw : jW Z h) (I : zInv f Z) (h13 : Z 13 = 0) (h11 : 0 < Z 11) (ht : ztop Z ≠ 5) (e21 : (xI H 104 21).toInt = Z 10 + 1) (e49 : xI H 104 49 = xI h 104 49) (e46 : (xI H 104 46).toInt = Z 11 - 1) (e47 : (xI H 104 47).toInt = Z 14 - zbd (ztop Z) + 1) (k1 : (xI H 126 (64 + (Z 10).toNat)).toInt = jkn (ztop Z)) (k2 : (xI H 127 (64 + (Z 10).toNat)).toInt = Z (800 + ((Z 14).toNat - zbd (ztop Z)))) (k3 : (xI H 128 (64 + (Z 10).toNat)).toInt = (if ztop Z = 32 then -1 else Z (800 + ((Z 14).toNat - 1)))) (k4 : (xI H 130 ((Z 14).toNat - zbd (ztop Z))).toInt = Z 10) (o1 : ∀ i, i ≠ 64 + (Z 10).toNat → xI H 126 i = xI h 126 i ∧ xI H 127 i = xI h 127 i ∧ xI H 128 i = xI h 128 i) (o2 : ∀ i, i ≠ (Z 14).toNat - zbd (ztop Z) → xI H 130 i = xI h 130 i) (o3 : ∀ i, xI H 129 i = xI h 129 i) : jO (zb1 Z) H ∧ jW (zb1 Z) H := by
  have C := zb1_i I h13 h11 ht
  have Bq := I.b
  have z3 := zb1_3 (Z := Z) (by omega)
  refine ⟨⟨by rw [e21, zb1_10], by rw [e49, zb1_o (by omega) (by omega)]; exact ao.2.1, fun k hk => ?_⟩, by rw [e46, zb1_11], by rw [e47, zb1_14], fun k hk => ?_, fun k hk => ?_⟩
  · rw [zb1_10] at hk
    by_cases e : k = (Z 10).toNat
    · rw [e, z3.1, z3.2.2.1, z3.2.2.2]
      exact ⟨k1, k2, k3⟩
    · rw [(o1 (64 + k) (by omega)).1, (o1 (64 + k) (by omega)).2.1, (o1 (64 + k) (by omega)).2.2, zb1_k (by omega) (by omega) (by omega) (by omega) (by omega) (by omega) (by omega), zb1_k (by omega) (by omega) (by omega) (by omega) (by omega) (by omega) (by omega), zb1_k (by omega) (by omega) (by omega) (by omega) (by omega) (by omega) (by omega)]
      exact ao.2.2 k (by omega)
  · rw [zb1_11] at hk
    rw [o3, zb1_o (by omega) (by omega)]
    exact aw.2.2.1 k (by omega)
  · rw [zb1_14] at hk
    by_cases e : k = (Z 14).toNat - zbd (ztop Z)
    · rw [e, zb1_8]
      exact k4
    · rw [o2 k e, zb1_o (by omega) (by omega)]
      exact aw.2.2.2 k (by omega)
set_option maxRecDepth 100000 in
set_option maxHeartbeats 4000000 in
theorem jk_bindL (l : Launch) (f lv : Int) (e : Int32) (h0 : 0 ≤ lv) (he : e.toInt = lv + 1) : ∀ (m : Nat) (Z : Nat → Int) (x2 x3 x4 : XV) (h : XH), mI h → jO Z h → jW Z h → zInv f Z → Z 13 = 0 → Z 11 = m → ∃ L' h', XT l 1 60 false 208 153 6051 0 [xf 13 104, xi e, x2, x3, x4] [] h 76 L' [] h' ∧ L'.length = 5 ∧ mT ([(104, 21, false), (104, 46, false), (104, 47, false), (126, 0, true), (127, 0, true), (128, 0, true), (130, 0, true)], []) h h' ∧ jO (zbind lv m Z) h' ∧ jW (zbind lv m Z) h'
  | 0, Z, x2, x3, x4, h, hg, ao, aw, I, h13, hm => by
    have a46 := aw.1
    have e_0 : (0 : Int32).toInt = 0 := rfl
    have t1 : XT l 1 60 false 208 153 6051 0 [xf 13 104, xi e, x2, x3, x4] [] h 76 [xf 13 104, xi e, x2, x3, x4] [] h := XT_path (l := l) (fr := 1) (lo := 60) (full := false) (M := 208) (n := 153) (u := 6051) (pc := 0) (L := [xf 13 104, xi e, x2, x3, x4]) (st := []) (h := h) (inl := []) (n' := 120) (sp := [76]) (o := [1]) rfl rfl ⟨rfl, rfl, rfl⟩ rfl ⟨Nat.le_of_eq hg.2.2.2.1, Nat.le_of_eq hg.2.2.2.2⟩ ⟨trivial, (Int32.le_iff_toInt_le.mpr (by omega))⟩
    exact ⟨_, h, t1, rfl, mT.rf hg, ao, aw⟩
  | m + 1, Z, x2, x3, x4, h, hg, ao, aw, I, h13, hm => by
    have a46 := aw.1
    have e_0 : (0 : Int32).toInt = 0 := rfl
    have Bq := I.b
    have ew := y_pred (k := xI h 104 46) (by omega) (by omega)
    have nw : ((xI h 104 46) - (Int32.ofInt (1))).toNatClampNeg = (Z 11).toNat - 1 := by
      show ((xI h 104 46) - (Int32.ofInt (1))).toInt.toNat = _
      omega
    have hs : zsn (ztop Z) := I.2.2.1 ((Z 11).toNat - 1) (by omega)
    have eT : (xI h 129 ((xI h 104 46) - (Int32.ofInt (1))).toNatClampNeg).toInt = jkn (ztop Z) := by rw [nw]; exact aw.2.2.1 ((Z 11).toNat - 1) (by omega)
    have et := ztl_top (Z := Z) (by omega)
    have t1 : XT l 1 60 false 208 153 6051 0 [xf 13 104, xi e, x2, x3, x4] [] h 18 [xf 13 104, xi e, x2, x3, x4] [xi (xI h (xR h 104 44) (((xI h 104 46) - (Int32.ofInt (1)))).toNatClampNeg)] h := XT_path (l := l) (fr := 1) (lo := 60) (full := false) (M := 208) (n := 153) (u := 6051) (pc := 0) (L := [xf 13 104, xi e, x2, x3, x4]) (st := []) (h := h) (inl := []) (n' := 120) (sp := [18]) (o := [0]) rfl rfl ⟨rfl, rfl, rfl⟩ rfl ⟨Nat.le_of_eq hg.2.2.2.1, Nat.le_of_eq hg.2.2.2.2⟩ ⟨⟨⟨trivial, (fun z => absurd (Int32.le_iff_toInt_le.mp z) (by omega))⟩, (vnn hg.1 (rfl : vRf 104 44 = [129]) (by decide))⟩, (vp_of (i := ((xI h 104 46) - (Int32.ofInt (1)))) (n := 96) (by omega) (by omega))⟩
    rw [vref hg.1 (rfl : vRf 104 44 = [129])] at t1
    obtain ⟨r1, c1, e1⟩ := jk_rank l (xI h 129 (((xI h 104 46) - (Int32.ofInt (1)))).toNatClampNeg) (ztop Z) h hg hs eT
    have t2 : XT l 1 60 false 208 153 6051 18 [xf 13 104, xi e, x2, x3, x4] [xi (xI h 129 (((xI h 104 46) - (Int32.ofInt (1)))).toNatClampNeg)] h 21 [xf 13 104, xi e, x2, x3, x4] [xi r1] h := XT_call (l := l) (fr := 1) (lo := 60) (full := false) (M := 208) (n := 153) (u := 6051) (pc := 18) (L := [xf 13 104, xi e, x2, x3, x4]) (st := [xi (xI h 129 (((xI h 104 46) - (Int32.ofInt (1)))).toNatClampNeg)]) (h := h) (i := .invokestatic 209) (aux := 1) (nx := 21) (K := 209) (vs := [xi (xI h 129 (((xI h 104 46) - (Int32.ofInt (1)))).toNatClampNeg)]) (rs := [xi r1]) (rest := []) rfl rfl rfl rfl rfl rfl c1 (by decide) (by decide) (Nat.le_of_ble_eq_true rfl) ⟨Nat.le_of_eq hg.2.2.2.1, Nat.le_of_eq hg.2.2.2.2⟩
    have t3 := t1.tr t2
    by_cases cb4 : r1 < e
    · have dcb4 : (r1).toInt < (e).toInt := Int32.lt_iff_toInt_lt.mp cb4
      have t5 : XT l 1 60 false 208 153 6051 21 [xf 13 104, xi e, x2, x3, x4] [xi r1] h 76 [xf 13 104, xi e, x2, x3, x4] [] h := XT_path (l := l) (fr := 1) (lo := 60) (full := false) (M := 208) (n := 153) (u := 6051) (pc := 21) (L := [xf 13 104, xi e, x2, x3, x4]) (st := [xi r1]) (h := h) (inl := []) (n' := 120) (sp := [76]) (o := [1]) rfl rfl ⟨rfl, rfl, rfl⟩ rfl ⟨Nat.le_of_eq hg.2.2.2.1, Nat.le_of_eq hg.2.2.2.2⟩ ⟨trivial, cb4⟩
      have t6 := t3.tr t5
      have eq : zbind lv (m + 1) Z = Z := if_neg (by omega)
      rw [eq]
      exact ⟨_, h, t6, rfl, mT.rf hg, ao, aw⟩
    · have dcb4 : (e).toInt ≤ (r1).toInt := Int32.le_iff_toInt_le.mp (Int32.not_lt.mp cb4)
      have l1_ : lv < lev (ztop Z) := by omega
      have ht : ztop Z ≠ 5 := fun z => by
        have l5 : lev 5 = 0 := by decide
        rw [z, l5] at l1_
        omega
      have C := zb1_i I h13 (by omega) ht
      have jl := jkn_l hs
      have a47 := aw.2.1
      have a21 := ao.1
      have f0_ := I.1.1
      have b47 : 0 ≤ (xI h 104 47).toInt ∧ (xI h 104 47).toInt ≤ 64 := vbnd hg.1 104 47
      by_cases cb7 : (xI (xsetI h 104 46 ((xI h 104 46) - (Int32.ofInt (1)))) (xR h 104 44) (((xI h 104 46) - (Int32.ofInt (1)))).toNatClampNeg) = (Int32.ofInt (2))
      · have e_1 : (Int32.ofInt (1)).toInt = 1 := rfl
        have e_2 : (Int32.ofInt (2)).toInt = 2 := rfl
        have cb7r := cb7
        rw [vref hg.1 (rfl : vRf 104 44 = [129])] at cb7r
        have dcb7 : (xI h 129 (((xI h 104 46) - (Int32.ofInt (1)))).toNatClampNeg).toInt = (Int32.ofInt (2)).toInt := congrArg Int32.toInt cb7r
        have s32 : ztop Z = 32 := by omega
        have d_ : zbd (ztop Z) = 1 := if_pos s32
        rw [d_] at C
        have t8 : XT l 1 60 false 208 153 6051 21 [xf 13 104, xi e, x2, x3, x4] [xi r1] h 60 [xf 13 104, xi e, xi (xI (xsetI h 104 46 ((xI h 104 46) - (Int32.ofInt (1)))) (xR h 104 44) (((xI h 104 46) - (Int32.ofInt (1)))).toNatClampNeg), xi (Int32.ofInt (-1)), x4] [xf 13 104] (xsetI h 104 46 ((xI h 104 46) - (Int32.ofInt (1)))) := XT_path (l := l) (fr := 1) (lo := 60) (full := false) (M := 208) (n := 153) (u := 6051) (pc := 21) (L := [xf 13 104, xi e, x2, x3, x4]) (st := [xi r1]) (h := h) (inl := []) (n' := 120) (sp := [60]) (o := [0, 0]) rfl rfl ⟨rfl, rfl, rfl⟩ rfl ⟨Nat.le_of_eq hg.2.2.2.1, Nat.le_of_eq hg.2.2.2.2⟩ ⟨⟨⟨⟨trivial, cb4⟩, (vnn hg.1 (rfl : vRf 104 44 = [129]) (by decide))⟩, (vp_of (i := ((xI h 104 46) - (Int32.ofInt (1)))) (n := 96) (by omega) (by omega))⟩, cb7⟩
        rw [vref hg.1 (rfl : vRf 104 44 = [129])] at t8
        have t9 : XT l 1 60 false 208 153 6051 21 [xf 13 104, xi e, x2, x3, x4] [xi r1] h 60 [xf 13 104, xi e, xi (xI h 129 (((xI h 104 46) - (Int32.ofInt (1)))).toNatClampNeg), xi (Int32.ofInt (-1)), x4] [xf 13 104] (xsetI h 104 46 ((xI h 104 46) - (Int32.ofInt (1)))) := t8
        have t10 := t3.tr t9
        have G0 : mT ([(104, 21, false), (104, 46, false), (104, 47, false), (126, 0, true), (127, 0, true), (128, 0, true), (130, 0, true)], []) h (xsetI h 104 46 ((xI h 104 46) - (Int32.ofInt (1)))) := ((mT.rf hg) : mT ([(104, 21, false), (104, 46, false), (104, 47, false), (126, 0, true), (127, 0, true), (128, 0, true), (130, 0, true)], []) h h).set (c := 104) (k := 46) (v := ((xI h 104 46) - (Int32.ofInt (1)))) (show (0 : Int) ≤ _ ∧ _ ≤ 72 from ⟨by omega, by omega⟩) rfl
        obtain ⟨va, ha, c2, g2, e2, ev⟩ := jk_drop l (xsetI h 104 46 ((xI h 104 46) - (Int32.ofInt (1)))) G0.1 (by rw [yI_ne (by decide)]; omega)
        rw [show xI (xsetI h 104 46 ((xI h 104 46) - (Int32.ofInt (1)))) 104 47 = xI h 104 47 from yI_ne (by decide)] at e2 ev
        have Ga : mT ([(104, 21, false), (104, 46, false), (104, 47, false), (126, 0, true), (127, 0, true), (128, 0, true), (130, 0, true)], []) h ha := mT.tr (W := ([(104, 21, false), (104, 46, false), (104, 47, false), (126, 0, true), (127, 0, true), (128, 0, true), (130, 0, true)], [])) (b := (xsetI h 104 46 ((xI h 104 46) - (Int32.ofInt (1))))) G0 ⟨g2.1, g2.2.mono rfl rfl⟩
        have oa : ∀ c k, ¬ (c = 104 ∧ (k = 46 ∨ k = 47)) → xI ha c k = xI h c k := fun c k z => (g2.2.1 c k (sw47 (fun y => z ⟨y.1, Or.inr y.2⟩))).trans (yI_ne (eq_false (fun y => z ⟨y.1, Or.inl y.2⟩)))
        have va_ : va.toInt = Z (800 + ((Z 14).toNat - 1)) := by rw [ev, yI_c (by decide), a47]; exact aw.2.2.2 _ (by omega)
        have w46 : (xI ha 104 46).toInt = Z 11 - 1 := by rw [g2.2.1 104 46 rfl, yI_same]; omega
        have t11 : XT l 1 60 false 208 153 6051 60 [xf 13 104, xi e, xi (xI h 129 (((xI h 104 46) - (Int32.ofInt (1)))).toNatClampNeg), xi (Int32.ofInt (-1)), x4] [xf 13 104] (xsetI h 104 46 ((xI h 104 46) - (Int32.ofInt (1)))) 63 [xf 13 104, xi e, xi (xI h 129 (((xI h 104 46) - (Int32.ofInt (1)))).toNatClampNeg), xi (Int32.ofInt (-1)), x4] [xi va] ha := XT_call (l := l) (fr := 1) (lo := 60) (full := false) (M := 208) (n := 153) (u := 6051) (pc := 60) (L := [xf 13 104, xi e, xi (xI h 129 (((xI h 104 46) - (Int32.ofInt (1)))).toNatClampNeg), xi (Int32.ofInt (-1)), x4]) (st := [xf 13 104]) (h := (xsetI h 104 46 ((xI h 104 46) - (Int32.ofInt (1))))) (i := .invokevirtual 210) (aux := 1) (nx := 63) (K := 210) (vs := [xf 13 104]) (rs := [xi va]) (rest := []) rfl rfl rfl rfl rfl rfl c2 (by decide) (by decide) (Nat.le_of_ble_eq_true rfl) ⟨Nat.le_of_eq Ga.1.2.2.2.1, Nat.le_of_eq Ga.1.2.2.2.2⟩
        have t12 := t10.tr t11
        have t13 : XT l 1 60 false 208 153 6051 63 [xf 13 104, xi e, xi (xI h 129 (((xI h 104 46) - (Int32.ofInt (1)))).toNatClampNeg), xi (Int32.ofInt (-1)), x4] [xi va] ha 70 [xf 13 104, xi e, xi (xI h 129 (((xI h 104 46) - (Int32.ofInt (1)))).toNatClampNeg), xi (Int32.ofInt (-1)), xi va] [xi (Int32.ofInt (-1)), xi va, xi (xI h 129 (((xI h 104 46) - (Int32.ofInt (1)))).toNatClampNeg), xf 13 104] ha := XT_path (l := l) (fr := 1) (lo := 60) (full := false) (M := 208) (n := 153) (u := 6051) (pc := 63) (L := [xf 13 104, xi e, xi (xI h 129 (((xI h 104 46) - (Int32.ofInt (1)))).toNatClampNeg), xi (Int32.ofInt (-1)), x4]) (st := [xi va]) (h := ha) (inl := []) (n' := 120) (sp := [70]) (o := []) rfl rfl ⟨rfl, rfl, rfl⟩ rfl ⟨Nat.le_of_eq Ga.1.2.2.2.1, Nat.le_of_eq Ga.1.2.2.2.2⟩ trivial
        have t14 := t12.tr t13
        have w47 : (xI ha 104 47).toInt = Z 14 - 1 := by omega
        have w21 : (xI ha 104 21).toInt = Z 10 := by rw [oa 104 21 (by omega)]; exact a21
        have i0_ := I.2.2.2 ((Z 14).toNat - 1) (by omega)
        obtain ⟨hc, c4, g4, q1, q2, ⟨q3, q4, q5, q6⟩, q7, q8⟩ := jk_grown l (xI h 129 (((xI h 104 46) - (Int32.ofInt (1)))).toNatClampNeg) va (Int32.ofInt (-1)) ha Ga.1 (by omega) (by omega) (by rw [eT]; omega) (by decide)
        rw [show (xI ha 104 21).toInt.toNat = (Z 10).toNat from by rw [w21]] at q3 q4 q5 q7
        rw [show (xI ha 104 47).toInt.toNat = (Z 14).toNat - 1 from by rw [w47]; omega] at q6 q8
        have Gc : mT ([(104, 21, false), (104, 46, false), (104, 47, false), (126, 0, true), (127, 0, true), (128, 0, true), (130, 0, true)], []) h hc := mT.tr (W := ([(104, 21, false), (104, 46, false), (104, 47, false), (126, 0, true), (127, 0, true), (128, 0, true), (130, 0, true)], [])) (b := ha) Ga ⟨g4.1, g4.2.mono rfl rfl⟩
        have R := je_b1 (H := hc) ao aw I h13 (by omega) ht (by rw [q1, w21]) ((g4.2.1 104 49 rfl).trans (oa 104 49 (by omega))) (by rw [g4.2.1 104 46 rfl]; exact w46) (by rw [q2, w47, d_]; omega) (by rw [q3]; exact eT) (by rw [q4, d_]; exact va_) (by rw [q5]; rw [if_pos s32]; rfl) (by rw [d_, q6]; exact w21) (fun i hi => ⟨(q7 i hi).1.trans (oa 126 i (by omega)), (q7 i hi).2.1.trans (oa 127 i (by omega)), (q7 i hi).2.2.trans (oa 128 i (by omega))⟩) (fun i hi => (q8 i (by rw [d_] at hi; exact hi)).trans (oa 130 i (by omega))) (fun i => (g4.2.1 129 i rfl).trans (oa 129 i (by omega)))
        have t15 : XT l 1 60 false 208 153 6051 70 [xf 13 104, xi e, xi (xI h 129 (((xI h 104 46) - (Int32.ofInt (1)))).toNatClampNeg), xi (Int32.ofInt (-1)), xi va] [xi (Int32.ofInt (-1)), xi va, xi (xI h 129 (((xI h 104 46) - (Int32.ofInt (1)))).toNatClampNeg), xf 13 104] ha 73 [xf 13 104, xi e, xi (xI h 129 (((xI h 104 46) - (Int32.ofInt (1)))).toNatClampNeg), xi (Int32.ofInt (-1)), xi va] [] hc := XT_call (l := l) (fr := 1) (lo := 60) (full := false) (M := 208) (n := 153) (u := 6051) (pc := 70) (L := [xf 13 104, xi e, xi (xI h 129 (((xI h 104 46) - (Int32.ofInt (1)))).toNatClampNeg), xi (Int32.ofInt (-1)), xi va]) (st := [xi (Int32.ofInt (-1)), xi va, xi (xI h 129 (((xI h 104 46) - (Int32.ofInt (1)))).toNatClampNeg), xf 13 104]) (h := ha) (i := .invokevirtual 206) (aux := 4) (nx := 73) (K := 206) (vs := [xf 13 104, xi (xI h 129 (((xI h 104 46) - (Int32.ofInt (1)))).toNatClampNeg), xi va, xi (Int32.ofInt (-1))]) (rs := []) (rest := []) rfl rfl rfl rfl rfl rfl c4 (by decide) (by decide) (Nat.le_of_ble_eq_true rfl) ⟨Nat.le_of_eq Gc.1.2.2.2.1, Nat.le_of_eq Gc.1.2.2.2.2⟩
        have t16 := t14.tr t15
        have t17 : XT l 1 60 false 208 153 6051 73 [xf 13 104, xi e, xi (xI h 129 (((xI h 104 46) - (Int32.ofInt (1)))).toNatClampNeg), xi (Int32.ofInt (-1)), xi va] [] hc 0 [xf 13 104, xi e, xi (xI h 129 (((xI h 104 46) - (Int32.ofInt (1)))).toNatClampNeg), xi (Int32.ofInt (-1)), xi va] [] hc := XT_path (l := l) (fr := 1) (lo := 60) (full := false) (M := 208) (n := 153) (u := 6051) (pc := 73) (L := [xf 13 104, xi e, xi (xI h 129 (((xI h 104 46) - (Int32.ofInt (1)))).toNatClampNeg), xi (Int32.ofInt (-1)), xi va]) (st := []) (h := hc) (inl := []) (n' := 120) (sp := [0]) (o := []) rfl rfl ⟨rfl, rfl, rfl⟩ rfl ⟨Nat.le_of_eq Gc.1.2.2.2.1, Nat.le_of_eq Gc.1.2.2.2.2⟩ trivial
        have t18 := t16.tr t17
        have eq : zbind lv (m + 1) Z = zbind lv m (zb1 Z) := if_pos (by omega)
        obtain ⟨L', h2, tL, y1, g9, ko2, ks2⟩ := jk_bindL l f lv e h0 he m (zb1 Z) (xi (xI h 129 (((xI h 104 46) - (Int32.ofInt (1)))).toNatClampNeg)) (xi (Int32.ofInt (-1))) (xi va) hc Gc.1 R.1 R.2 (zInv_b1 I h13 (by omega) ht) (by rw [zb1_o (by omega) (by omega)]; exact h13) (by rw [zb1_11]; omega)
        rw [eq]
        exact ⟨L', h2, t18.tr tL, y1, Gc.tr g9, ko2, ks2⟩
      · have e_1 : (Int32.ofInt (1)).toInt = 1 := rfl
        have e_2 : (Int32.ofInt (2)).toInt = 2 := rfl
        have cb7r := cb7
        rw [vref hg.1 (rfl : vRf 104 44 = [129])] at cb7r
        have dcb7 : ¬ (xI h 129 (((xI h 104 46) - (Int32.ofInt (1)))).toNatClampNeg).toInt = (Int32.ofInt (2)).toInt := fun z_ => cb7r (Int32.toInt_inj.mp z_)
        have s32 : ¬ ztop Z = 32 := by omega
        have d_ : zbd (ztop Z) = 2 := if_neg s32
        rw [d_] at C
        have t19 : XT l 1 60 false 208 153 6051 21 [xf 13 104, xi e, x2, x3, x4] [xi r1] h 55 [xf 13 104, xi e, xi (xI (xsetI h 104 46 ((xI h 104 46) - (Int32.ofInt (1)))) (xR h 104 44) (((xI h 104 46) - (Int32.ofInt (1)))).toNatClampNeg), x3, x4] [xf 13 104] (xsetI h 104 46 ((xI h 104 46) - (Int32.ofInt (1)))) := XT_path (l := l) (fr := 1) (lo := 60) (full := false) (M := 208) (n := 153) (u := 6051) (pc := 21) (L := [xf 13 104, xi e, x2, x3, x4]) (st := [xi r1]) (h := h) (inl := []) (n' := 120) (sp := [55]) (o := [0, 1]) rfl rfl ⟨rfl, rfl, rfl⟩ rfl ⟨Nat.le_of_eq hg.2.2.2.1, Nat.le_of_eq hg.2.2.2.2⟩ ⟨⟨⟨⟨trivial, cb4⟩, (vnn hg.1 (rfl : vRf 104 44 = [129]) (by decide))⟩, (vp_of (i := ((xI h 104 46) - (Int32.ofInt (1)))) (n := 96) (by omega) (by omega))⟩, cb7⟩
        rw [vref hg.1 (rfl : vRf 104 44 = [129])] at t19
        have t20 : XT l 1 60 false 208 153 6051 21 [xf 13 104, xi e, x2, x3, x4] [xi r1] h 55 [xf 13 104, xi e, xi (xI h 129 (((xI h 104 46) - (Int32.ofInt (1)))).toNatClampNeg), x3, x4] [xf 13 104] (xsetI h 104 46 ((xI h 104 46) - (Int32.ofInt (1)))) := t19
        have t21 := t3.tr t20
        have G0 : mT ([(104, 21, false), (104, 46, false), (104, 47, false), (126, 0, true), (127, 0, true), (128, 0, true), (130, 0, true)], []) h (xsetI h 104 46 ((xI h 104 46) - (Int32.ofInt (1)))) := ((mT.rf hg) : mT ([(104, 21, false), (104, 46, false), (104, 47, false), (126, 0, true), (127, 0, true), (128, 0, true), (130, 0, true)], []) h h).set (c := 104) (k := 46) (v := ((xI h 104 46) - (Int32.ofInt (1)))) (show (0 : Int) ≤ _ ∧ _ ≤ 72 from ⟨by omega, by omega⟩) rfl
        obtain ⟨va, ha, c2, g2, e2, ev⟩ := jk_drop l (xsetI h 104 46 ((xI h 104 46) - (Int32.ofInt (1)))) G0.1 (by rw [yI_ne (by decide)]; omega)
        rw [show xI (xsetI h 104 46 ((xI h 104 46) - (Int32.ofInt (1)))) 104 47 = xI h 104 47 from yI_ne (by decide)] at e2 ev
        have Ga : mT ([(104, 21, false), (104, 46, false), (104, 47, false), (126, 0, true), (127, 0, true), (128, 0, true), (130, 0, true)], []) h ha := mT.tr (W := ([(104, 21, false), (104, 46, false), (104, 47, false), (126, 0, true), (127, 0, true), (128, 0, true), (130, 0, true)], [])) (b := (xsetI h 104 46 ((xI h 104 46) - (Int32.ofInt (1))))) G0 ⟨g2.1, g2.2.mono rfl rfl⟩
        have oa : ∀ c k, ¬ (c = 104 ∧ (k = 46 ∨ k = 47)) → xI ha c k = xI h c k := fun c k z => (g2.2.1 c k (sw47 (fun y => z ⟨y.1, Or.inr y.2⟩))).trans (yI_ne (eq_false (fun y => z ⟨y.1, Or.inl y.2⟩)))
        have va_ : va.toInt = Z (800 + ((Z 14).toNat - 1)) := by rw [ev, yI_c (by decide), a47]; exact aw.2.2.2 _ (by omega)
        have w46 : (xI ha 104 46).toInt = Z 11 - 1 := by rw [g2.2.1 104 46 rfl, yI_same]; omega
        have t22 : XT l 1 60 false 208 153 6051 55 [xf 13 104, xi e, xi (xI h 129 (((xI h 104 46) - (Int32.ofInt (1)))).toNatClampNeg), x3, x4] [xf 13 104] (xsetI h 104 46 ((xI h 104 46) - (Int32.ofInt (1)))) 58 [xf 13 104, xi e, xi (xI h 129 (((xI h 104 46) - (Int32.ofInt (1)))).toNatClampNeg), x3, x4] [xi va] ha := XT_call (l := l) (fr := 1) (lo := 60) (full := false) (M := 208) (n := 153) (u := 6051) (pc := 55) (L := [xf 13 104, xi e, xi (xI h 129 (((xI h 104 46) - (Int32.ofInt (1)))).toNatClampNeg), x3, x4]) (st := [xf 13 104]) (h := (xsetI h 104 46 ((xI h 104 46) - (Int32.ofInt (1))))) (i := .invokevirtual 210) (aux := 1) (nx := 58) (K := 210) (vs := [xf 13 104]) (rs := [xi va]) (rest := []) rfl rfl rfl rfl rfl rfl c2 (by decide) (by decide) (Nat.le_of_ble_eq_true rfl) ⟨Nat.le_of_eq Ga.1.2.2.2.1, Nat.le_of_eq Ga.1.2.2.2.2⟩
        have t23 := t21.tr t22
        have t24 : XT l 1 60 false 208 153 6051 58 [xf 13 104, xi e, xi (xI h 129 (((xI h 104 46) - (Int32.ofInt (1)))).toNatClampNeg), x3, x4] [xi va] ha 60 [xf 13 104, xi e, xi (xI h 129 (((xI h 104 46) - (Int32.ofInt (1)))).toNatClampNeg), xi va, x4] [xf 13 104] ha := XT_path (l := l) (fr := 1) (lo := 60) (full := false) (M := 208) (n := 153) (u := 6051) (pc := 58) (L := [xf 13 104, xi e, xi (xI h 129 (((xI h 104 46) - (Int32.ofInt (1)))).toNatClampNeg), x3, x4]) (st := [xi va]) (h := ha) (inl := []) (n' := 120) (sp := [60]) (o := []) rfl rfl ⟨rfl, rfl, rfl⟩ rfl ⟨Nat.le_of_eq Ga.1.2.2.2.1, Nat.le_of_eq Ga.1.2.2.2.2⟩ trivial
        have t25 := t23.tr t24
        obtain ⟨vb, hb, c3, g3, e3, ev3⟩ := jk_drop l ha Ga.1 (by omega)
        rw [oa 130 _ (by omega)] at ev3
        have Gb : mT ([(104, 21, false), (104, 46, false), (104, 47, false), (126, 0, true), (127, 0, true), (128, 0, true), (130, 0, true)], []) h hb := mT.tr (W := ([(104, 21, false), (104, 46, false), (104, 47, false), (126, 0, true), (127, 0, true), (128, 0, true), (130, 0, true)], [])) (b := ha) Ga ⟨g3.1, g3.2.mono rfl rfl⟩
        have vb_ : vb.toInt = Z (800 + ((Z 14).toNat - 2)) := by rw [ev3, e2, show ((xI h 104 47).toInt - 1).toNat - 1 = (Z 14).toNat - 2 from by omega]; exact aw.2.2.2 _ (by omega)
        have t26 : XT l 1 60 false 208 153 6051 60 [xf 13 104, xi e, xi (xI h 129 (((xI h 104 46) - (Int32.ofInt (1)))).toNatClampNeg), xi va, x4] [xf 13 104] ha 63 [xf 13 104, xi e, xi (xI h 129 (((xI h 104 46) - (Int32.ofInt (1)))).toNatClampNeg), xi va, x4] [xi vb] hb := XT_call (l := l) (fr := 1) (lo := 60) (full := false) (M := 208) (n := 153) (u := 6051) (pc := 60) (L := [xf 13 104, xi e, xi (xI h 129 (((xI h 104 46) - (Int32.ofInt (1)))).toNatClampNeg), xi va, x4]) (st := [xf 13 104]) (h := ha) (i := .invokevirtual 210) (aux := 1) (nx := 63) (K := 210) (vs := [xf 13 104]) (rs := [xi vb]) (rest := []) rfl rfl rfl rfl rfl rfl c3 (by decide) (by decide) (Nat.le_of_ble_eq_true rfl) ⟨Nat.le_of_eq Gb.1.2.2.2.1, Nat.le_of_eq Gb.1.2.2.2.2⟩
        have t27 := t25.tr t26
        have t28 : XT l 1 60 false 208 153 6051 63 [xf 13 104, xi e, xi (xI h 129 (((xI h 104 46) - (Int32.ofInt (1)))).toNatClampNeg), xi va, x4] [xi vb] hb 70 [xf 13 104, xi e, xi (xI h 129 (((xI h 104 46) - (Int32.ofInt (1)))).toNatClampNeg), xi va, xi vb] [xi va, xi vb, xi (xI h 129 (((xI h 104 46) - (Int32.ofInt (1)))).toNatClampNeg), xf 13 104] hb := XT_path (l := l) (fr := 1) (lo := 60) (full := false) (M := 208) (n := 153) (u := 6051) (pc := 63) (L := [xf 13 104, xi e, xi (xI h 129 (((xI h 104 46) - (Int32.ofInt (1)))).toNatClampNeg), xi va, x4]) (st := [xi vb]) (h := hb) (inl := []) (n' := 120) (sp := [70]) (o := []) rfl rfl ⟨rfl, rfl, rfl⟩ rfl ⟨Nat.le_of_eq Gb.1.2.2.2.1, Nat.le_of_eq Gb.1.2.2.2.2⟩ trivial
        have t29 := t27.tr t28
        have ob : ∀ c k, ¬ (c = 104 ∧ (k = 46 ∨ k = 47)) → xI hb c k = xI h c k := fun c k z => (g3.2.1 c k (sw47 (fun y => z ⟨y.1, Or.inr y.2⟩))).trans (oa c k z)
        have w47 : (xI hb 104 47).toInt = Z 14 - 2 := by omega
        have x46 : (xI hb 104 46).toInt = Z 11 - 1 := by rw [g3.2.1 104 46 rfl]; exact w46
        have w21 : (xI hb 104 21).toInt = Z 10 := by rw [ob 104 21 (by omega)]; exact a21
        have i0_ := I.2.2.2 ((Z 14).toNat - 1) (by omega)
        obtain ⟨hc, c4, g4, q1, q2, ⟨q3, q4, q5, q6⟩, q7, q8⟩ := jk_grown l (xI h 129 (((xI h 104 46) - (Int32.ofInt (1)))).toNatClampNeg) vb va hb Gb.1 (by omega) (by omega) (by rw [eT]; omega) (by omega)
        rw [show (xI hb 104 21).toInt.toNat = (Z 10).toNat from by rw [w21]] at q3 q4 q5 q7
        rw [show (xI hb 104 47).toInt.toNat = (Z 14).toNat - 2 from by rw [w47]; omega] at q6 q8
        have Gc : mT ([(104, 21, false), (104, 46, false), (104, 47, false), (126, 0, true), (127, 0, true), (128, 0, true), (130, 0, true)], []) h hc := mT.tr (W := ([(104, 21, false), (104, 46, false), (104, 47, false), (126, 0, true), (127, 0, true), (128, 0, true), (130, 0, true)], [])) (b := hb) Gb ⟨g4.1, g4.2.mono rfl rfl⟩
        have R := je_b1 (H := hc) ao aw I h13 (by omega) ht (by rw [q1, w21]) ((g4.2.1 104 49 rfl).trans (ob 104 49 (by omega))) (by rw [g4.2.1 104 46 rfl]; exact x46) (by rw [q2, w47, d_]; omega) (by rw [q3]; exact eT) (by rw [q4, d_]; exact vb_) (by rw [q5]; rw [if_neg s32]; exact va_) (by rw [d_, q6]; exact w21) (fun i hi => ⟨(q7 i hi).1.trans (ob 126 i (by omega)), (q7 i hi).2.1.trans (ob 127 i (by omega)), (q7 i hi).2.2.trans (ob 128 i (by omega))⟩) (fun i hi => (q8 i (by rw [d_] at hi; exact hi)).trans (ob 130 i (by omega))) (fun i => (g4.2.1 129 i rfl).trans (ob 129 i (by omega)))
        have t30 : XT l 1 60 false 208 153 6051 70 [xf 13 104, xi e, xi (xI h 129 (((xI h 104 46) - (Int32.ofInt (1)))).toNatClampNeg), xi va, xi vb] [xi va, xi vb, xi (xI h 129 (((xI h 104 46) - (Int32.ofInt (1)))).toNatClampNeg), xf 13 104] hb 73 [xf 13 104, xi e, xi (xI h 129 (((xI h 104 46) - (Int32.ofInt (1)))).toNatClampNeg), xi va, xi vb] [] hc := XT_call (l := l) (fr := 1) (lo := 60) (full := false) (M := 208) (n := 153) (u := 6051) (pc := 70) (L := [xf 13 104, xi e, xi (xI h 129 (((xI h 104 46) - (Int32.ofInt (1)))).toNatClampNeg), xi va, xi vb]) (st := [xi va, xi vb, xi (xI h 129 (((xI h 104 46) - (Int32.ofInt (1)))).toNatClampNeg), xf 13 104]) (h := hb) (i := .invokevirtual 206) (aux := 4) (nx := 73) (K := 206) (vs := [xf 13 104, xi (xI h 129 (((xI h 104 46) - (Int32.ofInt (1)))).toNatClampNeg), xi vb, xi va]) (rs := []) (rest := []) rfl rfl rfl rfl rfl rfl c4 (by decide) (by decide) (Nat.le_of_ble_eq_true rfl) ⟨Nat.le_of_eq Gc.1.2.2.2.1, Nat.le_of_eq Gc.1.2.2.2.2⟩
        have t31 := t29.tr t30
        have t32 : XT l 1 60 false 208 153 6051 73 [xf 13 104, xi e, xi (xI h 129 (((xI h 104 46) - (Int32.ofInt (1)))).toNatClampNeg), xi va, xi vb] [] hc 0 [xf 13 104, xi e, xi (xI h 129 (((xI h 104 46) - (Int32.ofInt (1)))).toNatClampNeg), xi va, xi vb] [] hc := XT_path (l := l) (fr := 1) (lo := 60) (full := false) (M := 208) (n := 153) (u := 6051) (pc := 73) (L := [xf 13 104, xi e, xi (xI h 129 (((xI h 104 46) - (Int32.ofInt (1)))).toNatClampNeg), xi va, xi vb]) (st := []) (h := hc) (inl := []) (n' := 120) (sp := [0]) (o := []) rfl rfl ⟨rfl, rfl, rfl⟩ rfl ⟨Nat.le_of_eq Gc.1.2.2.2.1, Nat.le_of_eq Gc.1.2.2.2.2⟩ trivial
        have t33 := t31.tr t32
        have eq : zbind lv (m + 1) Z = zbind lv m (zb1 Z) := if_pos (by omega)
        obtain ⟨L', h2, tL, y1, g9, ko2, ks2⟩ := jk_bindL l f lv e h0 he m (zb1 Z) (xi (xI h 129 (((xI h 104 46) - (Int32.ofInt (1)))).toNatClampNeg)) (xi va) (xi vb) hc Gc.1 R.1 R.2 (zInv_b1 I h13 (by omega) ht) (by rw [zb1_o (by omega) (by omega)]; exact h13) (by rw [zb1_11]; omega)
        rw [eq]
        exact ⟨L', h2, t33.tr tL, y1, Gc.tr g9, ko2, ks2⟩
set_option maxRecDepth 100000 in
set_option maxHeartbeats 4000000 in
theorem jk_bind (l : Launch) (f lv : Int) (e : Int32) (h0 : 0 ≤ lv) (he : e.toInt = lv + 1) (Z : Nat → Int) (h : XH) (hg : mI h) (ao : jO Z h) (aw : jW Z h) (I : zInv f Z) (h13 : Z 13 = 0) : ∃ h', CX l 1 60 false 208 [xf 13 104, xi e] h [] h' ∧ mT ([(104, 21, false), (104, 46, false), (104, 47, false), (126, 0, true), (127, 0, true), (128, 0, true), (130, 0, true)], []) h h' ∧ jO (zput lv Z) h' ∧ jW (zput lv Z) h' := by
  have Bq := I.b
  obtain ⟨L', h2, tL, y1, g9, ko2, ks2⟩ := jk_bindL l f lv e h0 he (Z 11).toNat Z xun xun xun h hg ao aw I h13 (by omega)
  exact ⟨h2, CX_ofT (h' := h2) (by decide) rfl rfl trivial ⟨_, _, _, rfl, rfl, rfl⟩ y1 ⟨Nat.le_of_eq g9.1.2.2.2.1.symm, Nat.le_of_eq g9.1.2.2.2.2.symm⟩ tL, g9, ko2, ks2⟩
