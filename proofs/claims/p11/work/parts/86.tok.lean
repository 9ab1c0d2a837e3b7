/-! THE CLASS'S TOKENS. -/
def kR (b : Nat → Int) (n : Nat) (h : XH) : Prop := (xI h 45 5).toInt = n ∧ ∀ k, k < n → sby (xI h 46 k).toInt = b k
theorem kR.fr {b : Nat → Int} {n : Nat} {h h' : XH} (r : kR b n h) (h1 : xI h' 45 5 = xI h 45 5) (h2 : ∀ k, xI h' 46 k = xI h 46 k) : kR b n h' := ⟨by rw [h1]; exact r.1, fun k hk => by rw [h2]; exact r.2 k hk⟩
theorem kR.w {W : SW} {b : Nat → Int} {n : Nat} {h h' : XH} (r : kR b n h) (f : sframe W h h') (h1 : swin W.1 45 5 = false) (h2 : ∀ k, swin W.1 46 k = false) : kR b n h' := r.fr (f.1 45 5 h1) (fun k => f.1 46 k (h2 k))
theorem sby_ne {v : Int32} {x c : Int} (e : sby v.toInt = x) (h0 : 0 < c) (h1 : c < 128) (h : ¬ v.toInt = c) : ¬ x = c := fun z => h ((sby_eq h0 h1) ▸ (e.trans z))
theorem sby_yes {v : Int32} {x c : Int} (e : sby v.toInt = x) (h0 : 0 < c) (h1 : c < 128) (h : v.toInt = c) : x = c := e.symm.trans ((sby_eq h0 h1).symm ▸ h)
theorem i32_self (v : Int32) : Int32.ofInt v.toInt = v := by simp
set_option maxRecDepth 100000 in
set_option maxHeartbeats 2000000 in
theorem vk_skip (l : Launch) (b : Nat → Int) (n : Nat) : ∀ (m p : Nat) (x1 : XV) (h : XH), sgood vT vR vE 153 6051 h → kR b n h → n ≤ 700 → (xI h 45 6).toInt = p → p + m = n → ∃ h', XT l 6 197 false 19 153 6051 0 [xf 7 45, x1] [] h 52 [xf 7 45, x1] [] h' ∧ vG ([(45, 6, false)], []) h h' ∧ (xI h' 45 6).toInt = sSk b (n - p) p
  | 0, p, x1, h, hg, r, hn7, hp, hm => by
    have b6 : 0 ≤ (xI h 45 6).toInt ∧ (xI h 45 6).toInt ≤ 700 := vbnd hg.1 45 6
    have b46 : -128 ≤ (xI h 46 (xI h 45 6).toNatClampNeg).toInt ∧ (xI h 46 (xI h 45 6).toNatClampNeg).toInt ≤ 127 := by have z := vbnd hg.1 46 (xI h 45 6).toNatClampNeg; rw [vI_u (c := 46) (q := (-128, 127)) (by decide +kernel) (by decide +kernel)] at z; exact z
    have np : (xI h 45 6).toNatClampNeg = p := by
      show (xI h 45 6).toInt.toNat = p
      omega
    have r5 := r.1
    have t1 : XT l 6 197 false 19 153 6051 0 [xf 7 45, x1] [] h 52 [xf 7 45, x1] [] h := XT_path (l := l) (fr := 6) (lo := 197) (full := false) (M := 19) (n := 153) (u := 6051) (pc := 0) (L := [xf 7 45, x1]) (st := []) (h := h) (inl := []) (n' := 80) (sp := [52]) (o := [1]) rfl rfl ⟨rfl, rfl, rfl⟩ rfl ⟨Nat.le_of_eq hg.2.2.2.1, Nat.le_of_eq hg.2.2.2.2⟩ ⟨trivial, (Int32.le_iff_toInt_le.mpr (by omega))⟩
    exact ⟨h, t1, vG.rf hg, by rw [sSk_e (by omega)]; exact hp⟩
  | m + 1, p, x1, h, hg, r, hn7, hp, hm => by
    have b6 : 0 ≤ (xI h 45 6).toInt ∧ (xI h 45 6).toInt ≤ 700 := vbnd hg.1 45 6
    have b46 : -128 ≤ (xI h 46 (xI h 45 6).toNatClampNeg).toInt ∧ (xI h 46 (xI h 45 6).toNatClampNeg).toInt ≤ 127 := by have z := vbnd hg.1 46 (xI h 45 6).toNatClampNeg; rw [vI_u (c := 46) (q := (-128, 127)) (by decide +kernel) (by decide +kernel)] at z; exact z
    have np : (xI h 45 6).toNatClampNeg = p := by
      show (xI h 45 6).toInt.toNat = p
      omega
    have r5 := r.1
    have eb := r.2 p (by omega)
    rw [← np] at eb
    by_cases c2 : (xI h (xR h 45 0) ((xI h 45 6)).toNatClampNeg) = (Int32.ofInt (10))
    · have e_10 : (Int32.ofInt (10)).toInt = 10 := rfl
      have c2r := c2
      rw [vref hg.1 (rfl : vRf 45 0 = [46])] at c2r
      have dc2 : (xI h 46 ((xI h 45 6)).toNatClampNeg).toInt = (Int32.ofInt (10)).toInt := congrArg Int32.toInt c2r
      have t3 : XT l 6 197 false 19 153 6051 0 [xf 7 45, x1] [] h 0 [xf 7 45, x1] [] (xsetI h 45 6 ((xI h 45 6) + (Int32.ofInt (1)))) := XT_path (l := l) (fr := 6) (lo := 197) (full := false) (M := 19) (n := 153) (u := 6051) (pc := 0) (L := [xf 7 45, x1]) (st := []) (h := h) (inl := []) (n' := 80) (sp := [0]) (o := [0, 1]) rfl rfl ⟨rfl, rfl, rfl⟩ rfl ⟨Nat.le_of_eq hg.2.2.2.1, Nat.le_of_eq hg.2.2.2.2⟩ ⟨⟨⟨⟨trivial, (fun z => absurd (Int32.le_iff_toInt_le.mp z) (by omega))⟩, (vnn hg.1 (rfl : vRf 45 0 = [46]) (by decide))⟩, (vp_of (i := (xI h 45 6)) (n := 700) (by omega) (by omega))⟩, c2⟩
      have k10 : b (xI h 45 6).toNatClampNeg = 10 := sby_yes eb (by decide) (by decide) dc2
      rw [np] at k10
      have ei : ((xI h 45 6) + (Int32.ofInt (1))).toInt = (xI h 45 6).toInt + 1 := y_suc1 b6.1 (by omega)
      have g1 : vG ([(45, 6, false)], []) h (xsetI h 45 6 ((xI h 45 6) + (Int32.ofInt (1)))) := (vG.rf hg).set (c := 45) (k := 6) (v := ((xI h 45 6) + (Int32.ofInt (1)))) (show (0 : Int) ≤ _ ∧ _ ≤ 700 from ⟨by omega, by omega⟩) (by decide +kernel) (by decide +kernel) rfl
      have r' : kR b n (xsetI h 45 6 ((xI h 45 6) + (Int32.ofInt (1)))) := r.fr (yI_ne (by decide)) (fun k => yI_c (by decide))
      obtain ⟨h2, tL, g2, e2⟩ := vk_skip l b n m (p + 1) x1 _ (g1 : vG ([(45, 6, false)], []) h _).1 r' hn7 (by rw [yI_same]; omega) (by omega)
      exact ⟨h2, t3.tr tL, g1.tr g2, by rw [e2, sSk_y (by omega) (Or.inl k10)]⟩
    · have e_10 : (Int32.ofInt (10)).toInt = 10 := rfl
      have c2r := c2
      rw [vref hg.1 (rfl : vRf 45 0 = [46])] at c2r
      have dc2 : ¬ (xI h 46 ((xI h 45 6)).toNatClampNeg).toInt = (Int32.ofInt (10)).toInt := fun z_ => c2r (Int32.toInt_inj.mp z_)
      by_cases c4 : (xI h (xR h 45 0) ((xI h 45 6)).toNatClampNeg) = (Int32.ofInt (32))
      · have e_32 : (Int32.ofInt (32)).toInt = 32 := rfl
        have c4r := c4
        rw [vref hg.1 (rfl : vRf 45 0 = [46])] at c4r
        have dc4 : (xI h 46 ((xI h 45 6)).toNatClampNeg).toInt = (Int32.ofInt (32)).toInt := congrArg Int32.toInt c4r
        have t5 : XT l 6 197 false 19 153 6051 0 [xf 7 45, x1] [] h 0 [xf 7 45, x1] [] (xsetI h 45 6 ((xI h 45 6) + (Int32.ofInt (1)))) := XT_path (l := l) (fr := 6) (lo := 197) (full := false) (M := 19) (n := 153) (u := 6051) (pc := 0) (L := [xf 7 45, x1]) (st := []) (h := h) (inl := []) (n' := 80) (sp := [0]) (o := [0, 0, 0]) rfl rfl ⟨rfl, rfl, rfl⟩ rfl ⟨Nat.le_of_eq hg.2.2.2.1, Nat.le_of_eq hg.2.2.2.2⟩ ⟨⟨⟨⟨⟨⟨⟨trivial, (fun z => absurd (Int32.le_iff_toInt_le.mp z) (by omega))⟩, (vnn hg.1 (rfl : vRf 45 0 = [46]) (by decide))⟩, (vp_of (i := (xI h 45 6)) (n := 700) (by omega) (by omega))⟩, c2⟩, (vnn hg.1 (rfl : vRf 45 0 = [46]) (by decide))⟩, (vp_of (i := (xI h 45 6)) (n := 700) (by omega) (by omega))⟩, c4⟩
        have k10 : ¬ b (xI h 45 6).toNatClampNeg = 10 := sby_ne eb (by decide) (by decide) dc2
        have k32 : b (xI h 45 6).toNatClampNeg = 32 := sby_yes eb (by decide) (by decide) dc4
        rw [np] at k10 k32
        have ei : ((xI h 45 6) + (Int32.ofInt (1))).toInt = (xI h 45 6).toInt + 1 := y_suc1 b6.1 (by omega)
        have g1 : vG ([(45, 6, false)], []) h (xsetI h 45 6 ((xI h 45 6) + (Int32.ofInt (1)))) := (vG.rf hg).set (c := 45) (k := 6) (v := ((xI h 45 6) + (Int32.ofInt (1)))) (show (0 : Int) ≤ _ ∧ _ ≤ 700 from ⟨by omega, by omega⟩) (by decide +kernel) (by decide +kernel) rfl
        have r' : kR b n (xsetI h 45 6 ((xI h 45 6) + (Int32.ofInt (1)))) := r.fr (yI_ne (by decide)) (fun k => yI_c (by decide))
        obtain ⟨h2, tL, g2, e2⟩ := vk_skip l b n m (p + 1) x1 _ (g1 : vG ([(45, 6, false)], []) h _).1 r' hn7 (by rw [yI_same]; omega) (by omega)
        exact ⟨h2, t5.tr tL, g1.tr g2, by rw [e2, sSk_y (by omega) (Or.inr k32)]⟩
      · have e_32 : (Int32.ofInt (32)).toInt = 32 := rfl
        have c4r := c4
        rw [vref hg.1 (rfl : vRf 45 0 = [46])] at c4r
        have dc4 : ¬ (xI h 46 ((xI h 45 6)).toNatClampNeg).toInt = (Int32.ofInt (32)).toInt := fun z_ => c4r (Int32.toInt_inj.mp z_)
        have t6 : XT l 6 197 false 19 153 6051 0 [xf 7 45, x1] [] h 52 [xf 7 45, x1] [] h := XT_path (l := l) (fr := 6) (lo := 197) (full := false) (M := 19) (n := 153) (u := 6051) (pc := 0) (L := [xf 7 45, x1]) (st := []) (h := h) (inl := []) (n' := 80) (sp := [52]) (o := [0, 0, 1]) rfl rfl ⟨rfl, rfl, rfl⟩ rfl ⟨Nat.le_of_eq hg.2.2.2.1, Nat.le_of_eq hg.2.2.2.2⟩ ⟨⟨⟨⟨⟨⟨⟨trivial, (fun z => absurd (Int32.le_iff_toInt_le.mp z) (by omega))⟩, (vnn hg.1 (rfl : vRf 45 0 = [46]) (by decide))⟩, (vp_of (i := (xI h 45 6)) (n := 700) (by omega) (by omega))⟩, c2⟩, (vnn hg.1 (rfl : vRf 45 0 = [46]) (by decide))⟩, (vp_of (i := (xI h 45 6)) (n := 700) (by omega) (by omega))⟩, c4⟩
        have k10 : ¬ b (xI h 45 6).toNatClampNeg = 10 := sby_ne eb (by decide) (by decide) dc2
        have k32 : ¬ b (xI h 45 6).toNatClampNeg = 32 := sby_ne eb (by decide) (by decide) dc4
        rw [np] at k10 k32
        exact ⟨h, t6, vG.rf hg, by rw [sSk_n (fun z => z.elim k10 k32)]; exact hp⟩
set_option maxRecDepth 100000 in
set_option maxHeartbeats 2000000 in
theorem vk_wordL (l : Launch) (b : Nat → Int) (n q : Nat) : ∀ (m p : Nat) (x2 : XV) (h : XH), sgood vT vR vE 153 6051 h → kR b n h → n ≤ 700 → (xI h 45 6).toInt = p → (xI h 45 8).toInt = q → q ≤ p → p + m = n → ∃ x2' h', XT l 5 175 false 21 153 6051 2 [xf 7 45, xi (sPk b q (p - q)), x2] [] h 81 [xf 7 45, xi (sPk b q (sLr b (n - p) p - q)), x2'] [] h' ∧ vG ([(45, 6, false)], []) h h' ∧ (xI h' 45 6).toInt = sLr b (n - p) p
  | 0, p, x2, h, hg, r, hn7, hp, hq, hqp, hm => by
    have b6 : 0 ≤ (xI h 45 6).toInt ∧ (xI h 45 6).toInt ≤ 700 := vbnd hg.1 45 6
    have b46 : -128 ≤ (xI h 46 (xI h 45 6).toNatClampNeg).toInt ∧ (xI h 46 (xI h 45 6).toNatClampNeg).toInt ≤ 127 := by have z := vbnd hg.1 46 (xI h 45 6).toNatClampNeg; rw [vI_u (c := 46) (q := (-128, 127)) (by decide +kernel) (by decide +kernel)] at z; exact z
    have np : (xI h 45 6).toNatClampNeg = p := by
      show (xI h 45 6).toInt.toNat = p
      omega
    have r5 := r.1
    have t1 : XT l 5 175 false 21 153 6051 2 [xf 7 45, xi (sPk b q (p - q)), x2] [] h 81 [xf 7 45, xi (sPk b q (p - q)), x2] [] h := XT_path (l := l) (fr := 5) (lo := 175) (full := false) (M := 21) (n := 153) (u := 6051) (pc := 2) (L := [xf 7 45, xi (sPk b q (p - q)), x2]) (st := []) (h := h) (inl := [20]) (n' := 90) (sp := [81]) (o := [1]) rfl rfl ⟨rfl, rfl, rfl⟩ rfl ⟨Nat.le_of_eq hg.2.2.2.1, Nat.le_of_eq hg.2.2.2.2⟩ ⟨trivial, (Int32.le_iff_toInt_le.mpr (by omega))⟩
    rw [sLr_e (by omega)]
    exact ⟨_, h, t1, vG.rf hg, hp⟩
  | m + 1, p, x2, h, hg, r, hn7, hp, hq, hqp, hm => by
    have b6 : 0 ≤ (xI h 45 6).toInt ∧ (xI h 45 6).toInt ≤ 700 := vbnd hg.1 45 6
    have b46 : -128 ≤ (xI h 46 (xI h 45 6).toNatClampNeg).toInt ∧ (xI h 46 (xI h 45 6).toNatClampNeg).toInt ≤ 127 := by have z := vbnd hg.1 46 (xI h 45 6).toNatClampNeg; rw [vI_u (c := 46) (q := (-128, 127)) (by decide +kernel) (by decide +kernel)] at z; exact z
    have np : (xI h 45 6).toNatClampNeg = p := by
      show (xI h 45 6).toInt.toNat = p
      omega
    have r5 := r.1
    have eb := r.2 p (by omega)
    rw [← np] at eb
    have lw : (97 ≤ b p ∧ b p ≤ 122) = (97 ≤ (xI h 46 (xI h 45 6).toNatClampNeg).toInt ∧ (xI h 46 (xI h 45 6).toNatClampNeg).toInt ≤ 122) := by rw [← np, ← eb]; exact sby_in (by decide) (by decide)
    have ea : ((xI h 45 6) - (xI h 45 8)).toInt = (p - q : Nat) := by
      rw [Int32.toInt_sub, hp, hq]
      rw [Int.bmod_eq_of_le (by omega) (by omega)]
      omega
    by_cases c2 : (xI h (xR h 45 0) ((xI h 45 6)).toNatClampNeg) < (Int32.ofInt (97))
    · have e_97 : (Int32.ofInt (97)).toInt = 97 := rfl
      have c2r := c2
      rw [vref hg.1 (rfl : vRf 45 0 = [46])] at c2r
      have dc2 : (xI h 46 ((xI h 45 6)).toNatClampNeg).toInt < (Int32.ofInt (97)).toInt := Int32.lt_iff_toInt_lt.mp c2r
      have t3 : XT l 5 175 false 21 153 6051 2 [xf 7 45, xi (sPk b q (p - q)), x2] [] h 81 [xf 7 45, xi (sPk b q (p - q)), x2] [] h := XT_path (l := l) (fr := 5) (lo := 175) (full := false) (M := 21) (n := 153) (u := 6051) (pc := 2) (L := [xf 7 45, xi (sPk b q (p - q)), x2]) (st := []) (h := h) (inl := [20]) (n' := 90) (sp := [81]) (o := [0, 1, 1]) rfl rfl ⟨rfl, rfl, rfl⟩ rfl ⟨Nat.le_of_eq hg.2.2.2.1, Nat.le_of_eq hg.2.2.2.2⟩ ⟨⟨⟨⟨⟨⟨trivial, (fun z => absurd (Int32.le_iff_toInt_le.mp z) (by omega))⟩, (vnn hg.1 (rfl : vRf 45 0 = [46]) (by decide))⟩, (vp_of (i := (xI h 45 6)) (n := 700) (by omega) (by omega))⟩, c2⟩, (Or.inl rfl)⟩, rfl⟩
      have nl : ¬ (97 ≤ b p ∧ b p ≤ 122) := by rw [lw]; omega
      rw [sLr_n nl]
      exact ⟨_, h, t3, vG.rf hg, hp⟩
    · have e_97 : (Int32.ofInt (97)).toInt = 97 := rfl
      have c2r := c2
      rw [vref hg.1 (rfl : vRf 45 0 = [46])] at c2r
      have dc2 : (Int32.ofInt (97)).toInt ≤ (xI h 46 ((xI h 45 6)).toNatClampNeg).toInt := Int32.le_iff_toInt_le.mp (Int32.not_lt.mp c2r)
      by_cases c4 : (Int32.ofInt (122)) < (xI h (xR h 45 0) ((xI h 45 6)).toNatClampNeg)
      · have e_122 : (Int32.ofInt (122)).toInt = 122 := rfl
        have c4r := c4
        rw [vref hg.1 (rfl : vRf 45 0 = [46])] at c4r
        have dc4 : (Int32.ofInt (122)).toInt < (xI h 46 ((xI h 45 6)).toNatClampNeg).toInt := Int32.lt_iff_toInt_lt.mp c4r
        have t5 : XT l 5 175 false 21 153 6051 2 [xf 7 45, xi (sPk b q (p - q)), x2] [] h 81 [xf 7 45, xi (sPk b q (p - q)), x2] [] h := XT_path (l := l) (fr := 5) (lo := 175) (full := false) (M := 21) (n := 153) (u := 6051) (pc := 2) (L := [xf 7 45, xi (sPk b q (p - q)), x2]) (st := []) (h := h) (inl := [20]) (n' := 90) (sp := [81]) (o := [0, 0, 1, 1]) rfl rfl ⟨rfl, rfl, rfl⟩ rfl ⟨Nat.le_of_eq hg.2.2.2.1, Nat.le_of_eq hg.2.2.2.2⟩ ⟨⟨⟨⟨⟨⟨⟨trivial, (fun z => absurd (Int32.le_iff_toInt_le.mp z) (by omega))⟩, (vnn hg.1 (rfl : vRf 45 0 = [46]) (by decide))⟩, (vp_of (i := (xI h 45 6)) (n := 700) (by omega) (by omega))⟩, c2⟩, c4⟩, (Or.inl rfl)⟩, rfl⟩
        have nl : ¬ (97 ≤ b p ∧ b p ≤ 122) := by rw [lw]; omega
        rw [sLr_n nl]
        exact ⟨_, h, t5, vG.rf hg, hp⟩
      · have e_122 : (Int32.ofInt (122)).toInt = 122 := rfl
        have c4r := c4
        rw [vref hg.1 (rfl : vRf 45 0 = [46])] at c4r
        have dc4 : (xI h 46 ((xI h 45 6)).toNatClampNeg).toInt ≤ (Int32.ofInt (122)).toInt := Int32.le_iff_toInt_le.mp (Int32.not_lt.mp c4r)
        by_cases c6 : (Int32.ofInt (6)) ≤ ((xI h 45 6) - (xI h 45 8))
        · have e_6 : (Int32.ofInt (6)).toInt = 6 := rfl
          have dc6 : (Int32.ofInt (6)).toInt ≤ ((xI h 45 6) - (xI h 45 8)).toInt := Int32.le_iff_toInt_le.mp c6
          have t7 : XT l 5 175 false 21 153 6051 2 [xf 7 45, xi (sPk b q (p - q)), x2] [] h 2 [xf 7 45, xi (sPk b q (p - q)), xi ((xI h 45 6) - (xI h 45 8))] [] (xsetI h 45 6 ((xI h 45 6) + (Int32.ofInt (1)))) := XT_path (l := l) (fr := 5) (lo := 175) (full := false) (M := 21) (n := 153) (u := 6051) (pc := 2) (L := [xf 7 45, xi (sPk b q (p - q)), x2]) (st := []) (h := h) (inl := [20]) (n' := 90) (sp := [2]) (o := [0, 0, 0, 0, 1]) rfl rfl ⟨rfl, rfl, rfl⟩ rfl ⟨Nat.le_of_eq hg.2.2.2.1, Nat.le_of_eq hg.2.2.2.2⟩ ⟨⟨⟨⟨⟨⟨⟨⟨trivial, (fun z => absurd (Int32.le_iff_toInt_le.mp z) (by omega))⟩, (vnn hg.1 (rfl : vRf 45 0 = [46]) (by decide))⟩, (vp_of (i := (xI h 45 6)) (n := 700) (by omega) (by omega))⟩, c2⟩, c4⟩, (Or.inr rfl)⟩, (by decide)⟩, c6⟩
          have yl : 97 ≤ b p ∧ b p ≤ 122 := by rw [lw]; omega
          have ei : ((xI h 45 6) + (Int32.ofInt (1))).toInt = (xI h 45 6).toInt + 1 := y_suc1 b6.1 (by omega)
          have g1 : vG ([(45, 6, false)], []) h (xsetI h 45 6 ((xI h 45 6) + (Int32.ofInt (1)))) := (vG.rf hg).set (c := 45) (k := 6) (v := ((xI h 45 6) + (Int32.ofInt (1)))) (show (0 : Int) ≤ _ ∧ _ ≤ 700 from ⟨by omega, by omega⟩) (by decide +kernel) (by decide +kernel) rfl
          have r' : kR b n (xsetI h 45 6 ((xI h 45 6) + (Int32.ofInt (1)))) := r.fr (yI_ne (by decide)) (fun k => yI_c (by decide))
          have el : sPk b q (p - q) = sPk b q (p + 1 - q) := by
            rw [show p + 1 - q = p - q + 1 by omega]
            exact (if_neg (by omega)).symm
          obtain ⟨y2, h2, tL, g2, e2⟩ := vk_wordL l b n q m (p + 1) (xi ((xI h 45 6) - (xI h 45 8))) _ (g1 : vG ([(45, 6, false)], []) h _).1 r' hn7 (by rw [yI_same]; omega) (by rw [yI_ne (by decide)]; exact hq) (by omega) (by omega)
          rw [← el] at tL
          rw [sLr_y (by omega) yl]
          exact ⟨y2, h2, t7.tr tL, g1.tr g2, e2⟩
        · have e_6 : (Int32.ofInt (6)).toInt = 6 := rfl
          have dc6 : ((xI h 45 6) - (xI h 45 8)).toInt < (Int32.ofInt (6)).toInt := Int32.lt_iff_toInt_lt.mp (Int32.not_le.mp c6)
          have t8 : XT l 5 175 false 21 153 6051 2 [xf 7 45, xi (sPk b q (p - q)), x2] [] h 2 [xf 7 45, xi ((sPk b q (p - q)) ||| ((((xI h (xR h 45 0) ((xI h 45 6)).toNatClampNeg) - (Int32.ofInt (97))) + (Int32.ofInt (1))) <<< (((Int32.ofInt (25)) - ((Int32.ofInt (5)) * ((xI h 45 6) - (xI h 45 8)))) &&& 31))), xi ((xI h 45 6) - (xI h 45 8))] [] (xsetI h 45 6 ((xI h 45 6) + (Int32.ofInt (1)))) := XT_path (l := l) (fr := 5) (lo := 175) (full := false) (M := 21) (n := 153) (u := 6051) (pc := 2) (L := [xf 7 45, xi (sPk b q (p - q)), x2]) (st := []) (h := h) (inl := [20]) (n' := 90) (sp := [2]) (o := [0, 0, 0, 0, 0]) rfl rfl ⟨rfl, rfl, rfl⟩ rfl ⟨Nat.le_of_eq hg.2.2.2.1, Nat.le_of_eq hg.2.2.2.2⟩ ⟨⟨⟨⟨⟨⟨⟨⟨⟨⟨trivial, (fun z => absurd (Int32.le_iff_toInt_le.mp z) (by omega))⟩, (vnn hg.1 (rfl : vRf 45 0 = [46]) (by decide))⟩, (vp_of (i := (xI h 45 6)) (n := 700) (by omega) (by omega))⟩, c2⟩, c4⟩, (Or.inr rfl)⟩, (by decide)⟩, c6⟩, (vnn hg.1 (rfl : vRf 45 0 = [46]) (by decide))⟩, (vp_of (i := (xI h 45 6)) (n := 700) (by omega) (by omega))⟩
          rw [vref hg.1 (rfl : vRf 45 0 = [46])] at t8
          have yl : 97 ≤ b p ∧ b p ≤ 122 := by rw [lw]; omega
          have ei : ((xI h 45 6) + (Int32.ofInt (1))).toInt = (xI h 45 6).toInt + 1 := y_suc1 b6.1 (by omega)
          have g1 : vG ([(45, 6, false)], []) h (xsetI h 45 6 ((xI h 45 6) + (Int32.ofInt (1)))) := (vG.rf hg).set (c := 45) (k := 6) (v := ((xI h 45 6) + (Int32.ofInt (1)))) (show (0 : Int) ≤ _ ∧ _ ≤ 700 from ⟨by omega, by omega⟩) (by decide +kernel) (by decide +kernel) rfl
          have r' : kR b n (xsetI h 45 6 ((xI h 45 6) + (Int32.ofInt (1)))) := r.fr (yI_ne (by decide)) (fun k => yI_c (by decide))
          have ev : xI h 46 (xI h 45 6).toNatClampNeg = Int32.ofInt (b p) := by
            rw [← np, ← eb, sby_val (a := 97) (b := 122) (by decide) (by decide) (lw ▸ yl)]
            exact (i32_self _).symm
          have ej : (xI h 45 6) - (xI h 45 8) = Int32.ofInt (p - q : Nat) := by rw [← ea]; exact (i32_self _).symm
          have el : ((sPk b q (p - q)) ||| ((((xI h 46 ((xI h 45 6)).toNatClampNeg) - (Int32.ofInt (97))) + (Int32.ofInt (1))) <<< (((Int32.ofInt (25)) - ((Int32.ofInt (5)) * ((xI h 45 6) - (xI h 45 8)))) &&& 31))) = sPk b q (p + 1 - q) := by
            rw [ev, ej, show p + 1 - q = p - q + 1 by omega]
            have z : sPk b q (p - q + 1) = sPk b q (p - q) ||| sLt (b (q + (p - q))) (p - q) := if_pos (by omega)
            rw [z, show q + (p - q) = p by omega]
            rfl
          obtain ⟨y2, h2, tL, g2, e2⟩ := vk_wordL l b n q m (p + 1) (xi ((xI h 45 6) - (xI h 45 8))) _ (g1 : vG ([(45, 6, false)], []) h _).1 r' hn7 (by rw [yI_same]; omega) (by rw [yI_ne (by decide)]; exact hq) (by omega) (by omega)
          rw [← el] at tL
          rw [sLr_y (by omega) yl]
          exact ⟨y2, h2, t8.tr tL, g1.tr g2, e2⟩
theorem dig_min {u v : Int32} (hu : 0 ≤ u.toInt ∧ u.toInt ≤ 10000) (hv : 48 ≤ v.toInt ∧ v.toInt ≤ 57) : (if (u * (Int32.ofInt (10)) + v - (Int32.ofInt (48))) < (Int32.ofInt (10000)) then (u * (Int32.ofInt (10)) + v - (Int32.ofInt (48))) else (Int32.ofInt (10000))).toInt = min 10000 (u.toInt * 10 + v.toInt - 48) := by
  have e : (u * (Int32.ofInt (10)) + v - (Int32.ofInt (48))).toInt = u.toInt * 10 + v.toInt - 48 := by
    rw [Int32.toInt_sub, Int32.toInt_add, Int32.toInt_mul, show (Int32.ofInt (10)).toInt = 10 from rfl, show (Int32.ofInt (48)).toInt = 48 from rfl]
    rw [Int.bmod_eq_of_le (n := u.toInt * 10) (by omega) (by omega)]
    rw [Int.bmod_eq_of_le (n := u.toInt * 10 + v.toInt) (by omega) (by omega)]
    exact Int.bmod_eq_of_le (by omega) (by omega)
  have e4 : (Int32.ofInt (10000)).toInt = 10000 := rfl
  split
  · rename_i c
    have := Int32.lt_iff_toInt_lt.mp c
    omega
  · rename_i c
    have := Int32.le_iff_toInt_le.mp (Int32.not_lt.mp c)
    omega
set_option maxRecDepth 100000 in
set_option maxHeartbeats 2000000 in
theorem vk_digL (l : Launch) (b : Nat → Int) (n q : Nat) : ∀ (m p : Nat) (u : Int32) (h : XH), sgood vT vR vE 153 6051 h → kR b n h → n ≤ 700 → (xI h 45 6).toInt = p → q ≤ p → p + m = n → u.toInt = sNm b q (p - q) → (0 ≤ u.toInt ∧ u.toInt ≤ 10000) → ∃ u' h', XT l 1 20 false 35 153 6051 2 [xf 7 45, xi u] [] h 65 [xf 7 45, xi u'] [] h' ∧ vG ([(45, 6, false)], []) h h' ∧ (xI h' 45 6).toInt = sDr b (n - p) p ∧ u'.toInt = sNm b q (sDr b (n - p) p - q)
  | 0, p, u, h, hg, r, hn7, hp, hqp, hm, hu, hu1 => by
    have b6 : 0 ≤ (xI h 45 6).toInt ∧ (xI h 45 6).toInt ≤ 700 := vbnd hg.1 45 6
    have b46 : -128 ≤ (xI h 46 (xI h 45 6).toNatClampNeg).toInt ∧ (xI h 46 (xI h 45 6).toNatClampNeg).toInt ≤ 127 := by have z := vbnd hg.1 46 (xI h 45 6).toNatClampNeg; rw [vI_u (c := 46) (q := (-128, 127)) (by decide +kernel) (by decide +kernel)] at z; exact z
    have np : (xI h 45 6).toNatClampNeg = p := by
      show (xI h 45 6).toInt.toNat = p
      omega
    have r5 := r.1
    have t1 : XT l 1 20 false 35 153 6051 2 [xf 7 45, xi u] [] h 65 [xf 7 45, xi u] [] h := XT_path (l := l) (fr := 1) (lo := 20) (full := false) (M := 35) (n := 153) (u := 6051) (pc := 2) (L := [xf 7 45, xi u]) (st := []) (h := h) (inl := [34]) (n' := 90) (sp := [65]) (o := [1]) rfl rfl ⟨rfl, rfl, rfl⟩ rfl ⟨Nat.le_of_eq hg.2.2.2.1, Nat.le_of_eq hg.2.2.2.2⟩ ⟨trivial, (Int32.le_iff_toInt_le.mpr (by omega))⟩
    rw [sDr_e (by omega)]
    exact ⟨_, h, t1, vG.rf hg, hp, hu⟩
  | m + 1, p, u, h, hg, r, hn7, hp, hqp, hm, hu, hu1 => by
    have b6 : 0 ≤ (xI h 45 6).toInt ∧ (xI h 45 6).toInt ≤ 700 := vbnd hg.1 45 6
    have b46 : -128 ≤ (xI h 46 (xI h 45 6).toNatClampNeg).toInt ∧ (xI h 46 (xI h 45 6).toNatClampNeg).toInt ≤ 127 := by have z := vbnd hg.1 46 (xI h 45 6).toNatClampNeg; rw [vI_u (c := 46) (q := (-128, 127)) (by decide +kernel) (by decide +kernel)] at z; exact z
    have np : (xI h 45 6).toNatClampNeg = p := by
      show (xI h 45 6).toInt.toNat = p
      omega
    have r5 := r.1
    have eb := r.2 p (by omega)
    rw [← np] at eb
    have lw : (48 ≤ b p ∧ b p ≤ 57) = (48 ≤ (xI h 46 (xI h 45 6).toNatClampNeg).toInt ∧ (xI h 46 (xI h 45 6).toNatClampNeg).toInt ≤ 57) := by rw [← np, ← eb]; exact sby_in (by decide) (by decide)
    by_cases c2 : (xI h (xR h 45 0) ((xI h 45 6)).toNatClampNeg) < (Int32.ofInt (48))
    · have e_48 : (Int32.ofInt (48)).toInt = 48 := rfl
      have c2r := c2
      rw [vref hg.1 (rfl : vRf 45 0 = [46])] at c2r
      have dc2 : (xI h 46 ((xI h 45 6)).toNatClampNeg).toInt < (Int32.ofInt (48)).toInt := Int32.lt_iff_toInt_lt.mp c2r
      have t3 : XT l 1 20 false 35 153 6051 2 [xf 7 45, xi u] [] h 65 [xf 7 45, xi u] [] h := XT_path (l := l) (fr := 1) (lo := 20) (full := false) (M := 35) (n := 153) (u := 6051) (pc := 2) (L := [xf 7 45, xi u]) (st := []) (h := h) (inl := [34]) (n' := 90) (sp := [65]) (o := [0, 1, 1]) rfl rfl ⟨rfl, rfl, rfl⟩ rfl ⟨Nat.le_of_eq hg.2.2.2.1, Nat.le_of_eq hg.2.2.2.2⟩ ⟨⟨⟨⟨⟨⟨trivial, (fun z => absurd (Int32.le_iff_toInt_le.mp z) (by omega))⟩, (vnn hg.1 (rfl : vRf 45 0 = [46]) (by decide))⟩, (vp_of (i := (xI h 45 6)) (n := 700) (by omega) (by omega))⟩, c2⟩, (Or.inl rfl)⟩, rfl⟩
      have nl : ¬ (48 ≤ b p ∧ b p ≤ 57) := by rw [lw]; omega
      rw [sDr_n nl]
      exact ⟨_, h, t3, vG.rf hg, hp, hu⟩
    · have e_48 : (Int32.ofInt (48)).toInt = 48 := rfl
      have c2r := c2
      rw [vref hg.1 (rfl : vRf 45 0 = [46])] at c2r
      have dc2 : (Int32.ofInt (48)).toInt ≤ (xI h 46 ((xI h 45 6)).toNatClampNeg).toInt := Int32.le_iff_toInt_le.mp (Int32.not_lt.mp c2r)
      by_cases c4 : (Int32.ofInt (57)) < (xI h (xR h 45 0) ((xI h 45 6)).toNatClampNeg)
      · have e_57 : (Int32.ofInt (57)).toInt = 57 := rfl
        have c4r := c4
        rw [vref hg.1 (rfl : vRf 45 0 = [46])] at c4r
        have dc4 : (Int32.ofInt (57)).toInt < (xI h 46 ((xI h 45 6)).toNatClampNeg).toInt := Int32.lt_iff_toInt_lt.mp c4r
        have t5 : XT l 1 20 false 35 153 6051 2 [xf 7 45, xi u] [] h 65 [xf 7 45, xi u] [] h := XT_path (l := l) (fr := 1) (lo := 20) (full := false) (M := 35) (n := 153) (u := 6051) (pc := 2) (L := [xf 7 45, xi u]) (st := []) (h := h) (inl := [34]) (n' := 90) (sp := [65]) (o := [0, 0, 1, 1]) rfl rfl ⟨rfl, rfl, rfl⟩ rfl ⟨Nat.le_of_eq hg.2.2.2.1, Nat.le_of_eq hg.2.2.2.2⟩ ⟨⟨⟨⟨⟨⟨⟨trivial, (fun z => absurd (Int32.le_iff_toInt_le.mp z) (by omega))⟩, (vnn hg.1 (rfl : vRf 45 0 = [46]) (by decide))⟩, (vp_of (i := (xI h 45 6)) (n := 700) (by omega) (by omega))⟩, c2⟩, c4⟩, (Or.inl rfl)⟩, rfl⟩
        have nl : ¬ (48 ≤ b p ∧ b p ≤ 57) := by rw [lw]; omega
        rw [sDr_n nl]
        exact ⟨_, h, t5, vG.rf hg, hp, hu⟩
      · have e_57 : (Int32.ofInt (57)).toInt = 57 := rfl
        have c4r := c4
        rw [vref hg.1 (rfl : vRf 45 0 = [46])] at c4r
        have dc4 : (xI h 46 ((xI h 45 6)).toNatClampNeg).toInt ≤ (Int32.ofInt (57)).toInt := Int32.le_iff_toInt_le.mp (Int32.not_lt.mp c4r)
        have t6 : XT l 1 20 false 35 153 6051 2 [xf 7 45, xi u] [] h 2 [xf 7 45, xi (if (((u * (Int32.ofInt (10))) + (xI h (xR h 45 0) ((xI h 45 6)).toNatClampNeg)) - (Int32.ofInt (48))) < (Int32.ofInt (10000)) then (((u * (Int32.ofInt (10))) + (xI h (xR h 45 0) ((xI h 45 6)).toNatClampNeg)) - (Int32.ofInt (48))) else (Int32.ofInt (10000)))] [] (xsetI h 45 6 ((xI h 45 6) + (Int32.ofInt (1)))) := XT_path (l := l) (fr := 1) (lo := 20) (full := false) (M := 35) (n := 153) (u := 6051) (pc := 2) (L := [xf 7 45, xi u]) (st := []) (h := h) (inl := [34]) (n' := 90) (sp := [2]) (o := [0, 0, 0, 0]) rfl rfl ⟨rfl, rfl, rfl⟩ rfl ⟨Nat.le_of_eq hg.2.2.2.1, Nat.le_of_eq hg.2.2.2.2⟩ ⟨⟨⟨⟨⟨⟨⟨⟨⟨trivial, (fun z => absurd (Int32.le_iff_toInt_le.mp z) (by omega))⟩, (vnn hg.1 (rfl : vRf 45 0 = [46]) (by decide))⟩, (vp_of (i := (xI h 45 6)) (n := 700) (by omega) (by omega))⟩, c2⟩, c4⟩, (Or.inr rfl)⟩, (by decide)⟩, (vnn hg.1 (rfl : vRf 45 0 = [46]) (by decide))⟩, (vp_of (i := (xI h 45 6)) (n := 700) (by omega) (by omega))⟩
        rw [vref hg.1 (rfl : vRf 45 0 = [46])] at t6
        have yl : 48 ≤ b p ∧ b p ≤ 57 := by rw [lw]; omega
        have ei : ((xI h 45 6) + (Int32.ofInt (1))).toInt = (xI h 45 6).toInt + 1 := y_suc1 b6.1 (by omega)
        have g1 : vG ([(45, 6, false)], []) h (xsetI h 45 6 ((xI h 45 6) + (Int32.ofInt (1)))) := (vG.rf hg).set (c := 45) (k := 6) (v := ((xI h 45 6) + (Int32.ofInt (1)))) (show (0 : Int) ≤ _ ∧ _ ≤ 700 from ⟨by omega, by omega⟩) (by decide +kernel) (by decide +kernel) rfl
        have r' : kR b n (xsetI h 45 6 ((xI h 45 6) + (Int32.ofInt (1)))) := r.fr (yI_ne (by decide)) (fun k => yI_c (by decide))
        have ebv : b p = (xI h 46 (xI h 45 6).toNatClampNeg).toInt := by rw [← np, ← eb]; exact sby_val (a := 48) (b := 57) (by decide) (by decide) (lw ▸ yl)
        have ev : ((if (((u * (Int32.ofInt (10))) + (xI h 46 ((xI h 45 6)).toNatClampNeg)) - (Int32.ofInt (48))) < (Int32.ofInt (10000)) then (((u * (Int32.ofInt (10))) + (xI h 46 ((xI h 45 6)).toNatClampNeg)) - (Int32.ofInt (48))) else (Int32.ofInt (10000)))).toInt = sNm b q (p + 1 - q) := by
          rw [show p + 1 - q = p - q + 1 by omega]
          have z : sNm b q (p - q + 1) = min 10000 (sNm b q (p - q) * 10 + b (q + (p - q)) - 48) := rfl
          rw [z, show q + (p - q) = p by omega, ← hu, ebv]
          exact dig_min hu1 (by omega)
        obtain ⟨y2, h2, tL, g2, e2, e3⟩ := vk_digL l b n q m (p + 1) _ _ (g1 : vG ([(45, 6, false)], []) h _).1 r' hn7 (by rw [yI_same]; omega) (by omega) (by omega) ev (by rw [ev, show p + 1 - q = p - q + 1 by omega]; show 0 ≤ min 10000 (sNm b q (p - q) * 10 + b (q + (p - q)) - 48) ∧ min 10000 (sNm b q (p - q) * 10 + b (q + (p - q)) - 48) ≤ 10000; rw [← hu, show q + (p - q) = p by omega]; omega)
        rw [sDr_y (by omega) yl]
        exact ⟨y2, h2, t6.tr tL, g1.tr g2, e2, e3⟩
theorem zstep_ok : ∀ k, k < 105 → (zby.getD k 0 = 32 → zcd (k + 1) = (Int32.ofInt (0), Int32.ofInt (25)) ∧ zrm k = (zcd k).1 :: zrm (k + 1) ∧ zcn (k + 1) = zcn k + 1 ∧ zcn k ≤ 19) ∧ (¬ zby.getD k 0 = 32 → zcd (k + 1) = ((zcd k).1 ||| ((zby.getD k 0 - Int32.ofInt (97) + Int32.ofInt (1)) <<< ((zcd k).2 &&& 31)), (zcd k).2 + Int32.ofInt (-5)) ∧ zrm k = zrm (k + 1) ∧ zcn (k + 1) = zcn k) := by decide +kernel
set_option maxRecDepth 100000 in
set_option maxHeartbeats 2000000 in
theorem vk_wofL (l : Launch) (n : Int32) (h : XH) (hg : sgood vT vR vE 153 6051 h) : ∀ (m : Nat) (w c sh k : Int32) (x5 : XV), 0 ≤ k.toInt → k.toInt + m = 105 → w.toInt = 20 + zcn k.toNatClampNeg → w.toInt ≤ 40 → c = (zcd k.toNatClampNeg).1 → sh = (zcd k.toNatClampNeg).2 → ∃ v pcR L', XT l 4 150 false 22 153 6051 11 [xi n, xi w, xi c, xi sh, xi k, x5] [] h pcR L' [xi v] h ∧ XE 22 pcR [xi v] ∧ L'.length = 6 ∧ v.toInt = sIdx (zrm k.toNatClampNeg) n w.toInt ∧ 3 ≤ v.toInt ∧ v.toInt ≤ 39
  | 0, w, c, sh, k, x5, a1, a2, hw, hw4, hc, hs => by
    have e105 : (105 : Int32).toInt = 105 := rfl
    have e0 : (0 : Int32).toInt = 0 := rfl
    have e32 : (Int32.ofInt (32)) = 32 := rfl
    have nk : k.toNatClampNeg = k.toInt.toNat := rfl
    have t1 : XT l 4 150 false 22 153 6051 11 [xi n, xi w, xi c, xi sh, xi k, x5] [] h 13 [xi n, xi w, xi c, xi sh, xi k, x5] [xi k] h := XT_path (l := l) (fr := 4) (lo := 150) (full := false) (M := 22) (n := 153) (u := 6051) (pc := 11) (L := [xi n, xi w, xi c, xi sh, xi k, x5]) (st := []) (h := h) (inl := []) (n' := 80) (sp := [13]) (o := []) rfl rfl ⟨rfl, rfl, rfl⟩ rfl ⟨Nat.le_of_eq hg.2.2.2.1, Nat.le_of_eq hg.2.2.2.2⟩ trivial
    have z2 := t1.tr (XT_zlen (l := l) (fr := 4) (lo := 150) (n := 153) (u := 6051) (full := false) (L := [xi n, xi w, xi c, xi sh, xi k, x5]) (st := [xi k]) (h := h) rfl (by decide) (by decide) (Nat.le_of_ble_eq_true rfl))
    have t3 : XT l 4 150 false 22 153 6051 18 [xi n, xi w, xi c, xi sh, xi k, x5] [xi 105, xi k] h 77 [xi n, xi w, xi c, xi sh, xi k, x5] [xi (Int32.ofInt (3))] h := XT_path (l := l) (fr := 4) (lo := 150) (full := false) (M := 22) (n := 153) (u := 6051) (pc := 18) (L := [xi n, xi w, xi c, xi sh, xi k, x5]) (st := [xi 105, xi k]) (h := h) (inl := []) (n' := 80) (sp := [77]) (o := [1]) rfl rfl ⟨rfl, rfl, rfl⟩ rfl ⟨Nat.le_of_eq hg.2.2.2.1, Nat.le_of_eq hg.2.2.2.2⟩ ⟨trivial, (Int32.le_iff_toInt_le.mpr (by omega))⟩
    have t4 := z2.tr t3
    exact ⟨_, _, _, t4, ⟨_, _, _, rfl, rfl, rfl⟩, rfl, by rw [show k.toNatClampNeg = 105 by omega]; rfl, by decide, by decide⟩
  | m + 1, w, c, sh, k, x5, a1, a2, hw, hw4, hc, hs => by
    have e105 : (105 : Int32).toInt = 105 := rfl
    have e0 : (0 : Int32).toInt = 0 := rfl
    have e32 : (Int32.ofInt (32)) = 32 := rfl
    have nk : k.toNatClampNeg = k.toInt.toNat := rfl
    have zc := zstep_ok k.toNatClampNeg (by omega)
    have t5 : XT l 4 150 false 22 153 6051 11 [xi n, xi w, xi c, xi sh, xi k, x5] [] h 13 [xi n, xi w, xi c, xi sh, xi k, x5] [xi k] h := XT_path (l := l) (fr := 4) (lo := 150) (full := false) (M := 22) (n := 153) (u := 6051) (pc := 11) (L := [xi n, xi w, xi c, xi sh, xi k, x5]) (st := []) (h := h) (inl := []) (n' := 80) (sp := [13]) (o := []) rfl rfl ⟨rfl, rfl, rfl⟩ rfl ⟨Nat.le_of_eq hg.2.2.2.1, Nat.le_of_eq hg.2.2.2.2⟩ trivial
    have z6 := t5.tr (XT_zlen (l := l) (fr := 4) (lo := 150) (n := 153) (u := 6051) (full := false) (L := [xi n, xi w, xi c, xi sh, xi k, x5]) (st := [xi k]) (h := h) rfl (by decide) (by decide) (Nat.le_of_ble_eq_true rfl))
    have t7 : XT l 4 150 false 22 153 6051 18 [xi n, xi w, xi c, xi sh, xi k, x5] [xi 105, xi k] h 21 [xi n, xi w, xi c, xi sh, xi k, x5] [] h := XT_path (l := l) (fr := 4) (lo := 150) (full := false) (M := 22) (n := 153) (u := 6051) (pc := 18) (L := [xi n, xi w, xi c, xi sh, xi k, x5]) (st := [xi 105, xi k]) (h := h) (inl := []) (n' := 80) (sp := [21]) (o := [0]) rfl rfl ⟨rfl, rfl, rfl⟩ rfl ⟨Nat.le_of_eq hg.2.2.2.1, Nat.le_of_eq hg.2.2.2.2⟩ ⟨trivial, (fun z => absurd (Int32.le_iff_toInt_le.mp z) (by omega))⟩
    have t8 := z6.tr t7
    have z9 := t8.tr (XT_zchr (l := l) (fr := 4) (lo := 150) (n := 153) (u := 6051) (full := false) (L := [xi n, xi w, xi c, xi sh, xi k, x5]) (h := h) (i := k) rfl rfl (by decide) (by decide) (fun z => absurd (Int32.lt_iff_toInt_lt.mp z) (by omega)) (Int32.lt_iff_toInt_lt.mpr (by omega)) (vp_of (by omega) (by omega)))
    by_cases c10 : (zch k) = (Int32.ofInt (32))
    · by_cases c11 : c = n
      · have t12 : XT l 4 150 false 22 153 6051 28 [xi n, xi w, xi c, xi sh, xi k, x5] [xi (zch k)] h 61 [xi n, xi w, xi c, xi sh, xi k, xi (zch k)] [xi w] h := XT_path (l := l) (fr := 4) (lo := 150) (full := false) (M := 22) (n := 153) (u := 6051) (pc := 28) (L := [xi n, xi w, xi c, xi sh, xi k, x5]) (st := [xi (zch k)]) (h := h) (inl := []) (n' := 80) (sp := [61]) (o := [1, 0]) rfl rfl ⟨rfl, rfl, rfl⟩ rfl ⟨Nat.le_of_eq hg.2.2.2.1, Nat.le_of_eq hg.2.2.2.2⟩ ⟨⟨trivial, c10⟩, c11⟩
        have t13 := z9.tr t12
        have z1 := zc.1 (c10.trans e32)
        exact ⟨_, _, _, t13, ⟨_, _, _, rfl, rfl, rfl⟩, rfl, by rw [z1.2.1]; exact (if_pos (hc.symm.trans c11)).symm, by omega, by omega⟩
      · have t14 : XT l 4 150 false 22 153 6051 28 [xi n, xi w, xi c, xi sh, xi k, x5] [xi (zch k)] h 11 [xi n, xi (w + Int32.ofInt (1)), xi (Int32.ofInt (0)), xi (Int32.ofInt (25)), xi (k + Int32.ofInt (1)), xi (zch k)] [] h := XT_path (l := l) (fr := 4) (lo := 150) (full := false) (M := 22) (n := 153) (u := 6051) (pc := 28) (L := [xi n, xi w, xi c, xi sh, xi k, x5]) (st := [xi (zch k)]) (h := h) (inl := []) (n' := 80) (sp := [11]) (o := [1, 1]) rfl rfl ⟨rfl, rfl, rfl⟩ rfl ⟨Nat.le_of_eq hg.2.2.2.1, Nat.le_of_eq hg.2.2.2.2⟩ ⟨⟨trivial, c10⟩, c11⟩
        have t15 := z9.tr t14
        have ek : (k + Int32.ofInt (1)).toInt = k.toInt + 1 := y_succ a1 (by omega)
        have nk1 : (k + Int32.ofInt (1)).toNatClampNeg = k.toNatClampNeg + 1 := by
          have : (k + Int32.ofInt (1)).toNatClampNeg = (k + Int32.ofInt (1)).toInt.toNat := rfl
          omega
        have ew : (w + Int32.ofInt (1)).toInt = w.toInt + 1 := y_succ (by omega) (by omega)
        have z1 := zc.1 (c10.trans e32)
        obtain ⟨v, pcR, L', y1, y2, y3, y4, y5⟩ := vk_wofL l n h hg m (w + Int32.ofInt (1)) (Int32.ofInt (0)) (Int32.ofInt (25)) (k + Int32.ofInt (1)) (xi (zch k)) (by omega) (by omega) (by rw [nk1]; omega) (by omega) (by rw [nk1, z1.1]) (by rw [nk1, z1.1])
        exact ⟨v, pcR, L', t15.tr y1, y2, y3, by rw [z1.2.1, y4, nk1, ew]; exact (if_neg (fun z => c11 (hc.trans z))).symm, y5⟩
    · have t16 : XT l 4 150 false 22 153 6051 28 [xi n, xi w, xi c, xi sh, xi k, x5] [xi (zch k)] h 11 [xi n, xi w, xi (c ||| ((((zch k) - (Int32.ofInt (97))) + (Int32.ofInt (1))) <<< (sh &&& 31))), xi (sh + Int32.ofInt (-5)), xi (k + Int32.ofInt (1)), xi (zch k)] [] h := XT_path (l := l) (fr := 4) (lo := 150) (full := false) (M := 22) (n := 153) (u := 6051) (pc := 28) (L := [xi n, xi w, xi c, xi sh, xi k, x5]) (st := [xi (zch k)]) (h := h) (inl := []) (n' := 80) (sp := [11]) (o := [0]) rfl rfl ⟨rfl, rfl, rfl⟩ rfl ⟨Nat.le_of_eq hg.2.2.2.1, Nat.le_of_eq hg.2.2.2.2⟩ ⟨trivial, c10⟩
      have t17 := z9.tr t16
      have ek : (k + Int32.ofInt (1)).toInt = k.toInt + 1 := y_succ a1 (by omega)
      have nk1 : (k + Int32.ofInt (1)).toNatClampNeg = k.toNatClampNeg + 1 := by
        have : (k + Int32.ofInt (1)).toNatClampNeg = (k + Int32.ofInt (1)).toInt.toNat := rfl
        omega
      have z1 := zc.2 (fun z => c10 (z.trans e32.symm))
      obtain ⟨v, pcR, L', y1, y2, y3, y4, y5⟩ := vk_wofL l n h hg m w (c ||| ((((zch k) - (Int32.ofInt (97))) + (Int32.ofInt (1))) <<< (sh &&& 31))) (sh + Int32.ofInt (-5)) (k + Int32.ofInt (1)) (xi (zch k)) (by omega) (by omega) (by rw [nk1]; omega) (by omega) (by rw [nk1, z1.1, ← hc, ← hs]; rfl) (by rw [nk1, z1.1, ← hs])
      exact ⟨v, pcR, L', t17.tr y1, y2, y3, by rw [z1.2.1, y4, nk1], y5⟩
set_option maxRecDepth 100000 in
set_option maxHeartbeats 2000000 in
theorem vk_wordOf (l : Launch) (n : Int32) (h : XH) (hg : sgood vT vR vE 153 6051 h) : ∃ v h', CX l 4 150 false 22 [xi n] h [xi v] h' ∧ h' = h ∧ (v.toInt = sWord n ∧ 3 ≤ v.toInt ∧ v.toInt ≤ 39) := by
  have t1 : XT l 4 150 false 22 153 6051 0 [xi n, xun, xun, xun, xun, xun] [] h 11 [xi n, xi (Int32.ofInt (20)), xi (Int32.ofInt (0)), xi (Int32.ofInt (25)), xi (Int32.ofInt (0)), xun] [] h := XT_path (l := l) (fr := 4) (lo := 150) (full := false) (M := 22) (n := 153) (u := 6051) (pc := 0) (L := [xi n, xun, xun, xun, xun, xun]) (st := []) (h := h) (inl := []) (n' := 80) (sp := [11]) (o := []) rfl rfl ⟨rfl, rfl, rfl⟩ rfl ⟨Nat.le_of_eq hg.2.2.2.1, Nat.le_of_eq hg.2.2.2.2⟩ trivial
  obtain ⟨v, pcR, L', y1, y2, y3, y4, y5⟩ := vk_wofL l n h hg 105 (Int32.ofInt (20)) (Int32.ofInt (0)) (Int32.ofInt (25)) (Int32.ofInt (0)) xun (by decide) rfl rfl (by decide) rfl rfl
  exact ⟨v, h, CX_ofT (by decide) rfl rfl trivial y2 y3 ⟨Nat.le_of_eq hg.2.2.2.1.symm, Nat.le_of_eq hg.2.2.2.2.symm⟩ (t1.tr y1), rfl, y4, y5⟩
set_option maxRecDepth 100000 in
set_option maxHeartbeats 2000000 in
theorem vk_word (l : Launch) (b : Nat → Int) (n q : Nat) (h : XH) (hg : sgood vT vR vE 153 6051 h) (r : kR b n h) (hn7 : n ≤ 700) (hqn : q ≤ n) (hp : (xI h 45 6).toInt = q) (hq : (xI h 45 8).toInt = q) : ∃ h', CX l 5 175 false 21 [xf 7 45] h [] h' ∧ vG ([(45, 6, false), (45, 7, false), (45, 9, false)], []) h h' ∧ (xI h' 45 6).toInt = sLr b (n - q) q ∧ (xI h' 45 7).toInt = (if 6 < sLr b (n - q) q - q then 1 else sWord (sPk b q (sLr b (n - q) q - q))) ∧ xI h' 45 9 = sPk b q (sLr b (n - q) q - q) := by
  have t1 : XT l 5 175 false 21 153 6051 0 [xf 7 45, xun, xun] [] h 2 [xf 7 45, xi (Int32.ofInt (0)), xun] [] h := XT_path (l := l) (fr := 5) (lo := 175) (full := false) (M := 21) (n := 153) (u := 6051) (pc := 0) (L := [xf 7 45, xun, xun]) (st := []) (h := h) (inl := []) (n' := 80) (sp := [2]) (o := []) rfl rfl ⟨rfl, rfl, rfl⟩ rfl ⟨Nat.le_of_eq hg.2.2.2.1, Nat.le_of_eq hg.2.2.2.2⟩ trivial
  have lb := sLr_b b (n - q) q
  obtain ⟨y2, h1, tL, g1, e1⟩ := vk_wordL l b n q (n - q) q xun h hg r hn7 hp hq (Nat.le_refl _) (by omega)
  rw [show q - q = 0 by omega] at tL
  obtain ⟨ww, eww⟩ : ∃ z, z = sPk b q (sLr b (n - q) q - q) := ⟨_, rfl⟩
  rw [← eww] at tL ⊢
  have t2 := t1.tr tL
  have w8 : xI h1 45 8 = xI h 45 8 := g1.2.1 45 8 rfl
  have ea : ((xI h1 45 6) - (xI h1 45 8)).toInt = (sLr b (n - q) q - q : Nat) := by
    rw [Int32.toInt_sub, e1, w8, hq]
    rw [Int.bmod_eq_of_le (by omega) (by omega)]
    omega
  have g1w : vG ([(45, 6, false), (45, 7, false), (45, 9, false)], []) h h1 := ⟨g1.1, g1.2.mono rfl rfl⟩
  have g2 : vG ([(45, 6, false), (45, 7, false), (45, 9, false)], []) h (xsetI h1 45 9 ww) := g1w.set (c := 45) (k := 9) (v := ww) (show (-2147483648 : Int) ≤ _ ∧ _ ≤ 2147483647 from i32r_of ww) (by decide +kernel) (by decide +kernel) rfl
  by_cases c3 : ((xI h1 45 6) - (xI h1 45 8)) ≤ (Int32.ofInt (6))
  · have e_6 : (Int32.ofInt (6)).toInt = 6 := rfl
    have dc3 : ((xI h1 45 6) - (xI h1 45 8)).toInt ≤ (Int32.ofInt (6)).toInt := Int32.le_iff_toInt_le.mp c3
    have t4 : XT l 5 175 false 21 153 6051 81 [xf 7 45, xi ww, y2] [] h1 106 [xf 7 45, xi ww, y2] [xi ww, xf 7 45] (xsetI h1 45 9 ww) := XT_path (l := l) (fr := 5) (lo := 175) (full := false) (M := 21) (n := 153) (u := 6051) (pc := 81) (L := [xf 7 45, xi ww, y2]) (st := []) (h := h1) (inl := []) (n' := 80) (sp := [106]) (o := [1]) rfl rfl ⟨rfl, rfl, rfl⟩ rfl ⟨Nat.le_of_eq g1.1.2.2.2.1, Nat.le_of_eq g1.1.2.2.2.2⟩ ⟨trivial, c3⟩
    have t5 := t2.tr t4
    obtain ⟨v, h2, c2, gg2, ev⟩ := vk_wordOf l ww (xsetI h1 45 9 ww) g2.1
    subst gg2
    have t6 : XT l 5 175 false 21 153 6051 106 [xf 7 45, xi ww, y2] [xi ww, xf 7 45] (xsetI h1 45 9 ww) 109 [xf 7 45, xi ww, y2] [xi v, xf 7 45] (xsetI h1 45 9 ww) := XT_call (l := l) (fr := 5) (lo := 175) (full := false) (M := 21) (n := 153) (u := 6051) (pc := 106) (L := [xf 7 45, xi ww, y2]) (st := [xi ww, xf 7 45]) (h := (xsetI h1 45 9 ww)) (i := .invokestatic 22) (aux := 1) (nx := 109) (K := 22) (vs := [xi ww]) (rs := [xi v]) (rest := [xf 7 45]) rfl rfl rfl rfl rfl rfl c2 (by decide) (by decide) (Nat.le_of_ble_eq_true rfl) ⟨Nat.le_of_eq g2.1.2.2.2.1, Nat.le_of_eq g2.1.2.2.2.2⟩
    have t7 := t5.tr t6
    have t8 : XT l 5 175 false 21 153 6051 109 [xf 7 45, xi ww, y2] [xi v, xf 7 45] (xsetI h1 45 9 ww) 112 [xf 7 45, xi ww, y2] [] (xsetI (xsetI h1 45 9 ww) 45 7 v) := XT_path (l := l) (fr := 5) (lo := 175) (full := false) (M := 21) (n := 153) (u := 6051) (pc := 109) (L := [xf 7 45, xi ww, y2]) (st := [xi v, xf 7 45]) (h := (xsetI h1 45 9 ww)) (inl := []) (n' := 80) (sp := [112]) (o := []) rfl rfl ⟨rfl, rfl, rfl⟩ rfl ⟨Nat.le_of_eq g2.1.2.2.2.1, Nat.le_of_eq g2.1.2.2.2.2⟩ trivial
    have t9 := t7.tr t8
    have vb : 3 ≤ v.toInt ∧ v.toInt ≤ 39 := ev.2
    have g3 : vG ([(45, 6, false), (45, 7, false), (45, 9, false)], []) h (xsetI (xsetI h1 45 9 ww) 45 7 v) := g2.set (c := 45) (k := 7) (v := v) (show (0 : Int) ≤ _ ∧ _ ≤ 39 from ⟨by omega, by omega⟩) (by decide +kernel) (by decide +kernel) rfl
    exact ⟨_, CX_ofT (h' := (xsetI (xsetI h1 45 9 ww) 45 7 v)) (by decide) rfl rfl trivial ⟨_, _, _, rfl, rfl, rfl⟩ rfl ⟨Nat.le_of_eq g2.1.2.2.2.1.symm, Nat.le_of_eq g2.1.2.2.2.2.symm⟩ t9, g3, by rw [yI_ne (by decide), yI_ne (by decide)]; exact e1, by rw [yI_same, if_neg (by omega)]; exact ev.1, by rw [yI_ne (by decide), yI_same]⟩
  · have e_6 : (Int32.ofInt (6)).toInt = 6 := rfl
    have dc3 : (Int32.ofInt (6)).toInt < ((xI h1 45 6) - (xI h1 45 8)).toInt := Int32.lt_iff_toInt_lt.mp (Int32.not_le.mp c3)
    have t10 : XT l 5 175 false 21 153 6051 81 [xf 7 45, xi ww, y2] [] h1 112 [xf 7 45, xi ww, y2] [] (xsetI (xsetI h1 45 9 ww) 45 7 (Int32.ofInt (1))) := XT_path (l := l) (fr := 5) (lo := 175) (full := false) (M := 21) (n := 153) (u := 6051) (pc := 81) (L := [xf 7 45, xi ww, y2]) (st := []) (h := h1) (inl := []) (n' := 80) (sp := [112]) (o := [0]) rfl rfl ⟨rfl, rfl, rfl⟩ rfl ⟨Nat.le_of_eq g1.1.2.2.2.1, Nat.le_of_eq g1.1.2.2.2.2⟩ ⟨trivial, c3⟩
    have t11 := t2.tr t10
    have g3 : vG ([(45, 6, false), (45, 7, false), (45, 9, false)], []) h (xsetI (xsetI h1 45 9 ww) 45 7 (Int32.ofInt (1))) := g2.set (c := 45) (k := 7) (v := (Int32.ofInt (1))) (show (0 : Int) ≤ _ ∧ _ ≤ 39 from by decide) (by decide +kernel) (by decide +kernel) rfl
    exact ⟨_, CX_ofT (h' := (xsetI (xsetI h1 45 9 ww) 45 7 (Int32.ofInt (1)))) (by decide) rfl rfl trivial ⟨_, _, _, rfl, rfl, rfl⟩ rfl ⟨Nat.le_of_eq g1.1.2.2.2.1.symm, Nat.le_of_eq g1.1.2.2.2.2.symm⟩ t11, g3, by rw [yI_ne (by decide), yI_ne (by decide)]; exact e1, by rw [yI_same, if_pos (by omega)]; rfl, by rw [yI_ne (by decide), yI_same]⟩
set_option maxRecDepth 100000 in
set_option maxHeartbeats 2000000 in
theorem vk_dig (l : Launch) (b : Nat → Int) (n q : Nat) (h : XH) (hg : sgood vT vR vE 153 6051 h) (r : kR b n h) (hn7 : n ≤ 700) (hqn : q ≤ n) (hp : (xI h 45 6).toInt = q) : ∃ h', CX l 1 20 false 35 [xf 7 45] h [] h' ∧ vG ([(45, 6, false), (45, 7, false), (45, 9, false)], []) h h' ∧ (xI h' 45 6).toInt = sDr b (n - q) q ∧ (xI h' 45 7).toInt = 2 ∧ (xI h' 45 9).toInt = sNm b q (sDr b (n - q) q - q) := by
  have t1 : XT l 1 20 false 35 153 6051 0 [xf 7 45, xun] [] h 2 [xf 7 45, xi (Int32.ofInt (0))] [] h := XT_path (l := l) (fr := 1) (lo := 20) (full := false) (M := 35) (n := 153) (u := 6051) (pc := 0) (L := [xf 7 45, xun]) (st := []) (h := h) (inl := []) (n' := 80) (sp := [2]) (o := []) rfl rfl ⟨rfl, rfl, rfl⟩ rfl ⟨Nat.le_of_eq hg.2.2.2.1, Nat.le_of_eq hg.2.2.2.2⟩ trivial
  obtain ⟨u, h1, tL, g1, e1, eu⟩ := vk_digL l b n q (n - q) q (Int32.ofInt (0)) h hg r hn7 hp (Nat.le_refl _) (by omega) (by rw [show q - q = 0 by omega]; rfl) (by decide)
  have t2 := t1.tr tL
  have g1w : vG ([(45, 6, false), (45, 7, false), (45, 9, false)], []) h h1 := ⟨g1.1, g1.2.mono rfl rfl⟩
  have g2 : vG ([(45, 6, false), (45, 7, false), (45, 9, false)], []) h (xsetI h1 45 9 u) := g1w.set (c := 45) (k := 9) (v := u) (show (-2147483648 : Int) ≤ _ ∧ _ ≤ 2147483647 from i32r_of u) (by decide +kernel) (by decide +kernel) rfl
  have g3 : vG ([(45, 6, false), (45, 7, false), (45, 9, false)], []) h (xsetI (xsetI h1 45 9 u) 45 7 (Int32.ofInt (2))) := g2.set (c := 45) (k := 7) (v := (Int32.ofInt (2))) (show (0 : Int) ≤ _ ∧ _ ≤ 39 from by decide) (by decide +kernel) (by decide +kernel) rfl
  have t3 : XT l 1 20 false 35 153 6051 65 [xf 7 45, xi u] [] h1 75 [xf 7 45, xi u] [] (xsetI (xsetI h1 45 9 u) 45 7 (Int32.ofInt (2))) := XT_path (l := l) (fr := 1) (lo := 20) (full := false) (M := 35) (n := 153) (u := 6051) (pc := 65) (L := [xf 7 45, xi u]) (st := []) (h := h1) (inl := []) (n' := 80) (sp := [75]) (o := []) rfl rfl ⟨rfl, rfl, rfl⟩ rfl ⟨Nat.le_of_eq g1.1.2.2.2.1, Nat.le_of_eq g1.1.2.2.2.2⟩ trivial
  have t4 := t2.tr t3
  exact ⟨_, CX_ofT (h' := (xsetI (xsetI h1 45 9 u) 45 7 (Int32.ofInt (2)))) (by decide) rfl rfl trivial ⟨_, _, _, rfl, rfl, rfl⟩ rfl ⟨Nat.le_of_eq g1.1.2.2.2.1.symm, Nat.le_of_eq g1.1.2.2.2.2.symm⟩ t4, g3, by rw [yI_ne (by decide), yI_ne (by decide)]; exact e1, by rw [yI_same]; rfl, by rw [yI_ne (by decide), yI_same]; exact eu⟩
set_option maxRecDepth 100000 in
set_option maxHeartbeats 2000000 in
theorem vk_right (l : Launch) (b : Nat → Int) (n q : Nat) (c : Int) (v : Int32) (h : XH) (hg : sgood vT vR vE 153 6051 h) (r : kR b n h) (hn7 : n ≤ 700) (hq : (xI h 45 6).toInt = q) (hv : v.toInt = c) (cp0 : 0 < c) (cp1 : c < 128) : ∃ w h', CX l 0 0 false 37 [xf 7 45, xi v] h [xi w] h' ∧ vG ([(45, 6, false)], []) h h' ∧ ((q < n ∧ b q = c ∧ w = Int32.ofInt (1) ∧ (xI h' 45 6).toInt = q + 1) ∨ (¬ (q < n ∧ b q = c) ∧ w = Int32.ofInt (0) ∧ (xI h' 45 6).toInt = q)) := by
  have b6 : 0 ≤ (xI h 45 6).toInt ∧ (xI h 45 6).toInt ≤ 700 := vbnd hg.1 45 6
  have b46 : -128 ≤ (xI h 46 (xI h 45 6).toNatClampNeg).toInt ∧ (xI h 46 (xI h 45 6).toNatClampNeg).toInt ≤ 127 := by have z := vbnd hg.1 46 (xI h 45 6).toNatClampNeg; rw [vI_u (c := 46) (q := (-128, 127)) (by decide +kernel) (by decide +kernel)] at z; exact z
  have np : (xI h 45 6).toNatClampNeg = q := by
    show (xI h 45 6).toInt.toNat = q
    omega
  have r5 := r.1
  by_cases c1 : (xI h 45 5) ≤ (xI h 45 6)
  · have dc1 : (xI h 45 5).toInt ≤ (xI h 45 6).toInt := Int32.le_iff_toInt_le.mp c1
    have t2 : XT l 0 0 false 37 153 6051 0 [xf 7 45, xi v] [] h 37 [xf 7 45, xi v] [xi (Int32.ofInt (0))] h := XT_path (l := l) (fr := 0) (lo := 0) (full := false) (M := 37) (n := 153) (u := 6051) (pc := 0) (L := [xf 7 45, xi v]) (st := []) (h := h) (inl := []) (n' := 80) (sp := [37]) (o := [1]) rfl rfl ⟨rfl, rfl, rfl⟩ rfl ⟨Nat.le_of_eq hg.2.2.2.1, Nat.le_of_eq hg.2.2.2.2⟩ ⟨trivial, c1⟩
    exact ⟨_, _, CX_ofT (h' := h) (by decide) rfl rfl ⟨trivial, (Or.inl rfl)⟩ ⟨_, _, _, rfl, rfl, rfl⟩ rfl ⟨Nat.le_of_eq hg.2.2.2.1.symm, Nat.le_of_eq hg.2.2.2.2.symm⟩ t2, vG.rf hg, Or.inr ⟨fun z => by omega, rfl, hq⟩⟩
  · have dc1 : (xI h 45 6).toInt < (xI h 45 5).toInt := Int32.lt_iff_toInt_lt.mp (Int32.not_le.mp c1)
    by_cases c3 : (xI h (xR h 45 0) ((xI h 45 6)).toNatClampNeg) = v
    · have c3r := c3
      rw [vref hg.1 (rfl : vRf 45 0 = [46])] at c3r
      have dc3 : (xI h 46 ((xI h 45 6)).toNatClampNeg).toInt = (v).toInt := congrArg Int32.toInt c3r
      have t4 : XT l 0 0 false 37 153 6051 0 [xf 7 45, xi v] [] h 35 [xf 7 45, xi v] [xi (Int32.ofInt (1))] (xsetI h 45 6 ((xI h 45 6) + (Int32.ofInt (1)))) := XT_path (l := l) (fr := 0) (lo := 0) (full := false) (M := 37) (n := 153) (u := 6051) (pc := 0) (L := [xf 7 45, xi v]) (st := []) (h := h) (inl := []) (n' := 80) (sp := [35]) (o := [0, 0]) rfl rfl ⟨rfl, rfl, rfl⟩ rfl ⟨Nat.le_of_eq hg.2.2.2.1, Nat.le_of_eq hg.2.2.2.2⟩ ⟨⟨⟨⟨trivial, c1⟩, (vnn hg.1 (rfl : vRf 45 0 = [46]) (by decide))⟩, (vp_of (i := (xI h 45 6)) (n := 700) (by omega) (by omega))⟩, c3⟩
      have eb := r.2 q (by omega)
      rw [← np] at eb
      have kb : b (xI h 45 6).toNatClampNeg = c := sby_yes eb cp0 cp1 (dc3.trans hv)
      rw [np] at kb
      have ei : ((xI h 45 6) + (Int32.ofInt (1))).toInt = (xI h 45 6).toInt + 1 := y_suc1 b6.1 (by omega)
      have g1 : vG ([(45, 6, false)], []) h (xsetI h 45 6 ((xI h 45 6) + (Int32.ofInt (1)))) := (vG.rf hg).set (c := 45) (k := 6) (v := ((xI h 45 6) + (Int32.ofInt (1)))) (show (0 : Int) ≤ _ ∧ _ ≤ 700 from ⟨by omega, by omega⟩) (by decide +kernel) (by decide +kernel) rfl
      exact ⟨_, _, CX_ofT (h' := (xsetI h 45 6 ((xI h 45 6) + (Int32.ofInt (1))))) (by decide) rfl rfl ⟨trivial, (Or.inr rfl)⟩ ⟨_, _, _, rfl, rfl, rfl⟩ rfl ⟨Nat.le_of_eq hg.2.2.2.1.symm, Nat.le_of_eq hg.2.2.2.2.symm⟩ t4, g1, Or.inl ⟨by omega, kb, rfl, by rw [yI_same]; omega⟩⟩
    · have c3r := c3
      rw [vref hg.1 (rfl : vRf 45 0 = [46])] at c3r
      have dc3 : ¬ (xI h 46 ((xI h 45 6)).toNatClampNeg).toInt = (v).toInt := fun z_ => c3r (Int32.toInt_inj.mp z_)
      have t5 : XT l 0 0 false 37 153 6051 0 [xf 7 45, xi v] [] h 37 [xf 7 45, xi v] [xi (Int32.ofInt (0))] h := XT_path (l := l) (fr := 0) (lo := 0) (full := false) (M := 37) (n := 153) (u := 6051) (pc := 0) (L := [xf 7 45, xi v]) (st := []) (h := h) (inl := []) (n' := 80) (sp := [37]) (o := [0, 1]) rfl rfl ⟨rfl, rfl, rfl⟩ rfl ⟨Nat.le_of_eq hg.2.2.2.1, Nat.le_of_eq hg.2.2.2.2⟩ ⟨⟨⟨⟨trivial, c1⟩, (vnn hg.1 (rfl : vRf 45 0 = [46]) (by decide))⟩, (vp_of (i := (xI h 45 6)) (n := 700) (by omega) (by omega))⟩, c3⟩
      have eb := r.2 q (by omega)
      rw [← np] at eb
      have kb : ¬ b (xI h 45 6).toNatClampNeg = c := sby_ne eb cp0 cp1 (fun z => dc3 (z.trans hv.symm))
      rw [np] at kb
      exact ⟨_, _, CX_ofT (h' := h) (by decide) rfl rfl ⟨trivial, (Or.inl rfl)⟩ ⟨_, _, _, rfl, rfl, rfl⟩ rfl ⟨Nat.le_of_eq hg.2.2.2.1.symm, Nat.le_of_eq hg.2.2.2.2.symm⟩ t5, vG.rf hg, Or.inr ⟨fun z => kb z.2, rfl, hq⟩⟩
set_option maxRecDepth 100000 in
set_option maxHeartbeats 2000000 in
theorem vk_sign (l : Launch) (b : Nat → Int) (n q : Nat) (v : Int32) (h : XH) (hg : sgood vT vR vE 153 6051 h) (r : kR b n h) (hn7 : n ≤ 700) (hq : (xI h 45 6).toInt = (q + 1 : Nat)) (hv : sby v.toInt = b q) : ∃ w h', CX l 1 21 false 36 [xf 7 45, xi v] h [xi w] h' ∧ vG ([(45, 6, false)], []) h h' ∧ w.toInt = (sSg b n q).1 ∧ (xI h' 45 6).toInt = (sSg b n q).2 ∧ 0 ≤ w.toInt ∧ w.toInt ≤ 16 := by
  by_cases n40 : v.toInt = 40
  · have hb : b q = 40 := sby_yes hv (by decide) (by decide) n40
    have t1 : XT l 1 21 false 36 153 6051 0 [xf 7 45, xi v] [] h 111 [xf 7 45, xi v] [xi (Int32.ofInt (5))] h := XT_path (l := l) (fr := 1) (lo := 21) (full := false) (M := 36) (n := 153) (u := 6051) (pc := 0) (L := [xf 7 45, xi v]) (st := []) (h := h) (inl := []) (n' := 80) (sp := [111]) (o := [1]) rfl rfl ⟨rfl, rfl, rfl⟩ rfl ⟨Nat.le_of_eq hg.2.2.2.1, Nat.le_of_eq hg.2.2.2.2⟩ ⟨trivial, ⟨n40, by decide⟩⟩
    have es : sSg b n q = ((5 : Int), q + 1) := by simp [sSg, hb]
    exact ⟨_, _, CX_ofT (h' := h) (by decide) rfl rfl trivial ⟨_, _, _, rfl, rfl, rfl⟩ rfl ⟨Nat.le_of_eq hg.2.2.2.1.symm, Nat.le_of_eq hg.2.2.2.2.symm⟩ t1, (vG.rf hg), by rw [es]; rfl, by rw [es]; exact hq, by decide, by decide⟩
  by_cases n41 : v.toInt = 41
  · have hb : b q = 41 := sby_yes hv (by decide) (by decide) n41
    have t2 : XT l 1 21 false 36 153 6051 0 [xf 7 45, xi v] [] h 114 [xf 7 45, xi v] [xi (Int32.ofInt (6))] h := XT_path (l := l) (fr := 1) (lo := 21) (full := false) (M := 36) (n := 153) (u := 6051) (pc := 0) (L := [xf 7 45, xi v]) (st := []) (h := h) (inl := []) (n' := 80) (sp := [114]) (o := [2]) rfl rfl ⟨rfl, rfl, rfl⟩ rfl ⟨Nat.le_of_eq hg.2.2.2.1, Nat.le_of_eq hg.2.2.2.2⟩ ⟨trivial, ⟨n41, by decide⟩⟩
    have es : sSg b n q = ((6 : Int), q + 1) := by simp [sSg, hb]
    exact ⟨_, _, CX_ofT (h' := h) (by decide) rfl rfl trivial ⟨_, _, _, rfl, rfl, rfl⟩ rfl ⟨Nat.le_of_eq hg.2.2.2.1.symm, Nat.le_of_eq hg.2.2.2.2.symm⟩ t2, (vG.rf hg), by rw [es]; rfl, by rw [es]; exact hq, by decide, by decide⟩
  by_cases n42 : v.toInt = 42
  · have hb : b q = 42 := sby_yes hv (by decide) (by decide) n42
    have t3 : XT l 1 21 false 36 153 6051 0 [xf 7 45, xi v] [] h 123 [xf 7 45, xi v] [xi (Int32.ofInt (15))] h := XT_path (l := l) (fr := 1) (lo := 21) (full := false) (M := 36) (n := 153) (u := 6051) (pc := 0) (L := [xf 7 45, xi v]) (st := []) (h := h) (inl := []) (n' := 80) (sp := [123]) (o := [3]) rfl rfl ⟨rfl, rfl, rfl⟩ rfl ⟨Nat.le_of_eq hg.2.2.2.1, Nat.le_of_eq hg.2.2.2.2⟩ ⟨trivial, ⟨n42, by decide⟩⟩
    have es : sSg b n q = ((15 : Int), q + 1) := by simp [sSg, hb]
    exact ⟨_, _, CX_ofT (h' := h) (by decide) rfl rfl trivial ⟨_, _, _, rfl, rfl, rfl⟩ rfl ⟨Nat.le_of_eq hg.2.2.2.1.symm, Nat.le_of_eq hg.2.2.2.2.symm⟩ t3, (vG.rf hg), by rw [es]; rfl, by rw [es]; exact hq, by decide, by decide⟩
  by_cases n43 : v.toInt = 43
  · have hb : b q = 43 := sby_yes hv (by decide) (by decide) n43
    have t4 : XT l 1 21 false 36 153 6051 0 [xf 7 45, xi v] [] h 117 [xf 7 45, xi v] [xi (Int32.ofInt (13))] h := XT_path (l := l) (fr := 1) (lo := 21) (full := false) (M := 36) (n := 153) (u := 6051) (pc := 0) (L := [xf 7 45, xi v]) (st := []) (h := h) (inl := []) (n' := 80) (sp := [117]) (o := [4]) rfl rfl ⟨rfl, rfl, rfl⟩ rfl ⟨Nat.le_of_eq hg.2.2.2.1, Nat.le_of_eq hg.2.2.2.2⟩ ⟨trivial, ⟨n43, by decide⟩⟩
    have es : sSg b n q = ((13 : Int), q + 1) := by simp [sSg, hb]
    exact ⟨_, _, CX_ofT (h' := h) (by decide) rfl rfl trivial ⟨_, _, _, rfl, rfl, rfl⟩ rfl ⟨Nat.le_of_eq hg.2.2.2.1.symm, Nat.le_of_eq hg.2.2.2.2.symm⟩ t4, (vG.rf hg), by rw [es]; rfl, by rw [es]; exact hq, by decide, by decide⟩
  by_cases n44 : v.toInt = 44
  · have hb : b q = 44 := sby_yes hv (by decide) (by decide) n44
    have t5 : XT l 1 21 false 36 153 6051 0 [xf 7 45, xi v] [] h 177 [xf 7 45, xi v] [xi (Int32.ofInt (1))] h := XT_path (l := l) (fr := 1) (lo := 21) (full := false) (M := 36) (n := 153) (u := 6051) (pc := 0) (L := [xf 7 45, xi v]) (st := []) (h := h) (inl := []) (n' := 80) (sp := [177]) (o := [5]) rfl rfl ⟨rfl, rfl, rfl⟩ rfl ⟨Nat.le_of_eq hg.2.2.2.1, Nat.le_of_eq hg.2.2.2.2⟩ ⟨trivial, ⟨n44, by decide⟩⟩
    have es : sSg b n q = ((1 : Int), q + 1) := by simp [sSg, hb]
    exact ⟨_, _, CX_ofT (h' := h) (by decide) rfl rfl trivial ⟨_, _, _, rfl, rfl, rfl⟩ rfl ⟨Nat.le_of_eq hg.2.2.2.1.symm, Nat.le_of_eq hg.2.2.2.2.symm⟩ t5, (vG.rf hg), by rw [es]; rfl, by rw [es]; exact hq, by decide, by decide⟩
  by_cases n45 : v.toInt = 45
  · have hb : b q = 45 := sby_yes hv (by decide) (by decide) n45
    have t6 : XT l 1 21 false 36 153 6051 0 [xf 7 45, xi v] [] h 120 [xf 7 45, xi v] [xi (Int32.ofInt (14))] h := XT_path (l := l) (fr := 1) (lo := 21) (full := false) (M := 36) (n := 153) (u := 6051) (pc := 0) (L := [xf 7 45, xi v]) (st := []) (h := h) (inl := []) (n' := 80) (sp := [120]) (o := [6]) rfl rfl ⟨rfl, rfl, rfl⟩ rfl ⟨Nat.le_of_eq hg.2.2.2.1, Nat.le_of_eq hg.2.2.2.2⟩ ⟨trivial, ⟨n45, by decide⟩⟩
    have es : sSg b n q = ((14 : Int), q + 1) := by simp [sSg, hb]
    exact ⟨_, _, CX_ofT (h' := h) (by decide) rfl rfl trivial ⟨_, _, _, rfl, rfl, rfl⟩ rfl ⟨Nat.le_of_eq hg.2.2.2.1.symm, Nat.le_of_eq hg.2.2.2.2.symm⟩ t6, (vG.rf hg), by rw [es]; rfl, by rw [es]; exact hq, by decide, by decide⟩
  by_cases n46 : v.toInt = 46
  · have hb : b q = 46 := sby_yes hv (by decide) (by decide) n46
    have t7 : XT l 1 21 false 36 153 6051 0 [xf 7 45, xi v] [] h 177 [xf 7 45, xi v] [xi (Int32.ofInt (1))] h := XT_path (l := l) (fr := 1) (lo := 21) (full := false) (M := 36) (n := 153) (u := 6051) (pc := 0) (L := [xf 7 45, xi v]) (st := []) (h := h) (inl := []) (n' := 80) (sp := [177]) (o := [7]) rfl rfl ⟨rfl, rfl, rfl⟩ rfl ⟨Nat.le_of_eq hg.2.2.2.1, Nat.le_of_eq hg.2.2.2.2⟩ ⟨trivial, ⟨n46, by decide⟩⟩
    have es : sSg b n q = ((1 : Int), q + 1) := by simp [sSg, hb]
    exact ⟨_, _, CX_ofT (h' := h) (by decide) rfl rfl trivial ⟨_, _, _, rfl, rfl, rfl⟩ rfl ⟨Nat.le_of_eq hg.2.2.2.1.symm, Nat.le_of_eq hg.2.2.2.2.symm⟩ t7, (vG.rf hg), by rw [es]; rfl, by rw [es]; exact hq, by decide, by decide⟩
  by_cases n47 : v.toInt = 47
  · have hb : b q = 47 := sby_yes hv (by decide) (by decide) n47
    have t8 : XT l 1 21 false 36 153 6051 0 [xf 7 45, xi v] [] h 126 [xf 7 45, xi v] [xi (Int32.ofInt (16))] h := XT_path (l := l) (fr := 1) (lo := 21) (full := false) (M := 36) (n := 153) (u := 6051) (pc := 0) (L := [xf 7 45, xi v]) (st := []) (h := h) (inl := []) (n' := 80) (sp := [126]) (o := [8]) rfl rfl ⟨rfl, rfl, rfl⟩ rfl ⟨Nat.le_of_eq hg.2.2.2.1, Nat.le_of_eq hg.2.2.2.2⟩ ⟨trivial, ⟨n47, by decide⟩⟩
    have es : sSg b n q = ((16 : Int), q + 1) := by simp [sSg, hb]
    exact ⟨_, _, CX_ofT (h' := h) (by decide) rfl rfl trivial ⟨_, _, _, rfl, rfl, rfl⟩ rfl ⟨Nat.le_of_eq hg.2.2.2.1.symm, Nat.le_of_eq hg.2.2.2.2.symm⟩ t8, (vG.rf hg), by rw [es]; rfl, by rw [es]; exact hq, by decide, by decide⟩
  by_cases n48 : v.toInt = 48
  · have hb : b q = 48 := sby_yes hv (by decide) (by decide) n48
    have t9 : XT l 1 21 false 36 153 6051 0 [xf 7 45, xi v] [] h 177 [xf 7 45, xi v] [xi (Int32.ofInt (1))] h := XT_path (l := l) (fr := 1) (lo := 21) (full := false) (M := 36) (n := 153) (u := 6051) (pc := 0) (L := [xf 7 45, xi v]) (st := []) (h := h) (inl := []) (n' := 80) (sp := [177]) (o := [9]) rfl rfl ⟨rfl, rfl, rfl⟩ rfl ⟨Nat.le_of_eq hg.2.2.2.1, Nat.le_of_eq hg.2.2.2.2⟩ ⟨trivial, ⟨n48, by decide⟩⟩
    have es : sSg b n q = ((1 : Int), q + 1) := by simp [sSg, hb]
    exact ⟨_, _, CX_ofT (h' := h) (by decide) rfl rfl trivial ⟨_, _, _, rfl, rfl, rfl⟩ rfl ⟨Nat.le_of_eq hg.2.2.2.1.symm, Nat.le_of_eq hg.2.2.2.2.symm⟩ t9, (vG.rf hg), by rw [es]; rfl, by rw [es]; exact hq, by decide, by decide⟩
  by_cases n49 : v.toInt = 49
  · have hb : b q = 49 := sby_yes hv (by decide) (by decide) n49
    have t10 : XT l 1 21 false 36 153 6051 0 [xf 7 45, xi v] [] h 177 [xf 7 45, xi v] [xi (Int32.ofInt (1))] h := XT_path (l := l) (fr := 1) (lo := 21) (full := false) (M := 36) (n := 153) (u := 6051) (pc := 0) (L := [xf 7 45, xi v]) (st := []) (h := h) (inl := []) (n' := 80) (sp := [177]) (o := [10]) rfl rfl ⟨rfl, rfl, rfl⟩ rfl ⟨Nat.le_of_eq hg.2.2.2.1, Nat.le_of_eq hg.2.2.2.2⟩ ⟨trivial, ⟨n49, by decide⟩⟩
    have es : sSg b n q = ((1 : Int), q + 1) := by simp [sSg, hb]
    exact ⟨_, _, CX_ofT (h' := h) (by decide) rfl rfl trivial ⟨_, _, _, rfl, rfl, rfl⟩ rfl ⟨Nat.le_of_eq hg.2.2.2.1.symm, Nat.le_of_eq hg.2.2.2.2.symm⟩ t10, (vG.rf hg), by rw [es]; rfl, by rw [es]; exact hq, by decide, by decide⟩
  by_cases n50 : v.toInt = 50
  · have hb : b q = 50 := sby_yes hv (by decide) (by decide) n50
    have t11 : XT l 1 21 false 36 153 6051 0 [xf 7 45, xi v] [] h 177 [xf 7 45, xi v] [xi (Int32.ofInt (1))] h := XT_path (l := l) (fr := 1) (lo := 21) (full := false) (M := 36) (n := 153) (u := 6051) (pc := 0) (L := [xf 7 45, xi v]) (st := []) (h := h) (inl := []) (n' := 80) (sp := [177]) (o := [11]) rfl rfl ⟨rfl, rfl, rfl⟩ rfl ⟨Nat.le_of_eq hg.2.2.2.1, Nat.le_of_eq hg.2.2.2.2⟩ ⟨trivial, ⟨n50, by decide⟩⟩
    have es : sSg b n q = ((1 : Int), q + 1) := by simp [sSg, hb]
    exact ⟨_, _, CX_ofT (h' := h) (by decide) rfl rfl trivial ⟨_, _, _, rfl, rfl, rfl⟩ rfl ⟨Nat.le_of_eq hg.2.2.2.1.symm, Nat.le_of_eq hg.2.2.2.2.symm⟩ t11, (vG.rf hg), by rw [es]; rfl, by rw [es]; exact hq, by decide, by decide⟩
  by_cases n51 : v.toInt = 51
  · have hb : b q = 51 := sby_yes hv (by decide) (by decide) n51
    have t12 : XT l 1 21 false 36 153 6051 0 [xf 7 45, xi v] [] h 177 [xf 7 45, xi v] [xi (Int32.ofInt (1))] h := XT_path (l := l) (fr := 1) (lo := 21) (full := false) (M := 36) (n := 153) (u := 6051) (pc := 0) (L := [xf 7 45, xi v]) (st := []) (h := h) (inl := []) (n' := 80) (sp := [177]) (o := [12]) rfl rfl ⟨rfl, rfl, rfl⟩ rfl ⟨Nat.le_of_eq hg.2.2.2.1, Nat.le_of_eq hg.2.2.2.2⟩ ⟨trivial, ⟨n51, by decide⟩⟩
    have es : sSg b n q = ((1 : Int), q + 1) := by simp [sSg, hb]
    exact ⟨_, _, CX_ofT (h' := h) (by decide) rfl rfl trivial ⟨_, _, _, rfl, rfl, rfl⟩ rfl ⟨Nat.le_of_eq hg.2.2.2.1.symm, Nat.le_of_eq hg.2.2.2.2.symm⟩ t12, (vG.rf hg), by rw [es]; rfl, by rw [es]; exact hq, by decide, by decide⟩
  by_cases n52 : v.toInt = 52
  · have hb : b q = 52 := sby_yes hv (by decide) (by decide) n52
    have t13 : XT l 1 21 false 36 153 6051 0 [xf 7 45, xi v] [] h 177 [xf 7 45, xi v] [xi (Int32.ofInt (1))] h := XT_path (l := l) (fr := 1) (lo := 21) (full := false) (M := 36) (n := 153) (u := 6051) (pc := 0) (L := [xf 7 45, xi v]) (st := []) (h := h) (inl := []) (n' := 80) (sp := [177]) (o := [13]) rfl rfl ⟨rfl, rfl, rfl⟩ rfl ⟨Nat.le_of_eq hg.2.2.2.1, Nat.le_of_eq hg.2.2.2.2⟩ ⟨trivial, ⟨n52, by decide⟩⟩
    have es : sSg b n q = ((1 : Int), q + 1) := by simp [sSg, hb]
    exact ⟨_, _, CX_ofT (h' := h) (by decide) rfl rfl trivial ⟨_, _, _, rfl, rfl, rfl⟩ rfl ⟨Nat.le_of_eq hg.2.2.2.1.symm, Nat.le_of_eq hg.2.2.2.2.symm⟩ t13, (vG.rf hg), by rw [es]; rfl, by rw [es]; exact hq, by decide, by decide⟩
  by_cases n53 : v.toInt = 53
  · have hb : b q = 53 := sby_yes hv (by decide) (by decide) n53
    have t14 : XT l 1 21 false 36 153 6051 0 [xf 7 45, xi v] [] h 177 [xf 7 45, xi v] [xi (Int32.ofInt (1))] h := XT_path (l := l) (fr := 1) (lo := 21) (full := false) (M := 36) (n := 153) (u := 6051) (pc := 0) (L := [xf 7 45, xi v]) (st := []) (h := h) (inl := []) (n' := 80) (sp := [177]) (o := [14]) rfl rfl ⟨rfl, rfl, rfl⟩ rfl ⟨Nat.le_of_eq hg.2.2.2.1, Nat.le_of_eq hg.2.2.2.2⟩ ⟨trivial, ⟨n53, by decide⟩⟩
    have es : sSg b n q = ((1 : Int), q + 1) := by simp [sSg, hb]
    exact ⟨_, _, CX_ofT (h' := h) (by decide) rfl rfl trivial ⟨_, _, _, rfl, rfl, rfl⟩ rfl ⟨Nat.le_of_eq hg.2.2.2.1.symm, Nat.le_of_eq hg.2.2.2.2.symm⟩ t14, (vG.rf hg), by rw [es]; rfl, by rw [es]; exact hq, by decide, by decide⟩
  by_cases n54 : v.toInt = 54
  · have hb : b q = 54 := sby_yes hv (by decide) (by decide) n54
    have t15 : XT l 1 21 false 36 153 6051 0 [xf 7 45, xi v] [] h 177 [xf 7 45, xi v] [xi (Int32.ofInt (1))] h := XT_path (l := l) (fr := 1) (lo := 21) (full := false) (M := 36) (n := 153) (u := 6051) (pc := 0) (L := [xf 7 45, xi v]) (st := []) (h := h) (inl := []) (n' := 80) (sp := [177]) (o := [15]) rfl rfl ⟨rfl, rfl, rfl⟩ rfl ⟨Nat.le_of_eq hg.2.2.2.1, Nat.le_of_eq hg.2.2.2.2⟩ ⟨trivial, ⟨n54, by decide⟩⟩
    have es : sSg b n q = ((1 : Int), q + 1) := by simp [sSg, hb]
    exact ⟨_, _, CX_ofT (h' := h) (by decide) rfl rfl trivial ⟨_, _, _, rfl, rfl, rfl⟩ rfl ⟨Nat.le_of_eq hg.2.2.2.1.symm, Nat.le_of_eq hg.2.2.2.2.symm⟩ t15, (vG.rf hg), by rw [es]; rfl, by rw [es]; exact hq, by decide, by decide⟩
  by_cases n55 : v.toInt = 55
  · have hb : b q = 55 := sby_yes hv (by decide) (by decide) n55
    have t16 : XT l 1 21 false 36 153 6051 0 [xf 7 45, xi v] [] h 177 [xf 7 45, xi v] [xi (Int32.ofInt (1))] h := XT_path (l := l) (fr := 1) (lo := 21) (full := false) (M := 36) (n := 153) (u := 6051) (pc := 0) (L := [xf 7 45, xi v]) (st := []) (h := h) (inl := []) (n' := 80) (sp := [177]) (o := [16]) rfl rfl ⟨rfl, rfl, rfl⟩ rfl ⟨Nat.le_of_eq hg.2.2.2.1, Nat.le_of_eq hg.2.2.2.2⟩ ⟨trivial, ⟨n55, by decide⟩⟩
    have es : sSg b n q = ((1 : Int), q + 1) := by simp [sSg, hb]
    exact ⟨_, _, CX_ofT (h' := h) (by decide) rfl rfl trivial ⟨_, _, _, rfl, rfl, rfl⟩ rfl ⟨Nat.le_of_eq hg.2.2.2.1.symm, Nat.le_of_eq hg.2.2.2.2.symm⟩ t16, (vG.rf hg), by rw [es]; rfl, by rw [es]; exact hq, by decide, by decide⟩
  by_cases n56 : v.toInt = 56
  · have hb : b q = 56 := sby_yes hv (by decide) (by decide) n56
    have t17 : XT l 1 21 false 36 153 6051 0 [xf 7 45, xi v] [] h 177 [xf 7 45, xi v] [xi (Int32.ofInt (1))] h := XT_path (l := l) (fr := 1) (lo := 21) (full := false) (M := 36) (n := 153) (u := 6051) (pc := 0) (L := [xf 7 45, xi v]) (st := []) (h := h) (inl := []) (n' := 80) (sp := [177]) (o := [17]) rfl rfl ⟨rfl, rfl, rfl⟩ rfl ⟨Nat.le_of_eq hg.2.2.2.1, Nat.le_of_eq hg.2.2.2.2⟩ ⟨trivial, ⟨n56, by decide⟩⟩
    have es : sSg b n q = ((1 : Int), q + 1) := by simp [sSg, hb]
    exact ⟨_, _, CX_ofT (h' := h) (by decide) rfl rfl trivial ⟨_, _, _, rfl, rfl, rfl⟩ rfl ⟨Nat.le_of_eq hg.2.2.2.1.symm, Nat.le_of_eq hg.2.2.2.2.symm⟩ t17, (vG.rf hg), by rw [es]; rfl, by rw [es]; exact hq, by decide, by decide⟩
  by_cases n57 : v.toInt = 57
  · have hb : b q = 57 := sby_yes hv (by decide) (by decide) n57
    have t18 : XT l 1 21 false 36 153 6051 0 [xf 7 45, xi v] [] h 177 [xf 7 45, xi v] [xi (Int32.ofInt (1))] h := XT_path (l := l) (fr := 1) (lo := 21) (full := false) (M := 36) (n := 153) (u := 6051) (pc := 0) (L := [xf 7 45, xi v]) (st := []) (h := h) (inl := []) (n' := 80) (sp := [177]) (o := [18]) rfl rfl ⟨rfl, rfl, rfl⟩ rfl ⟨Nat.le_of_eq hg.2.2.2.1, Nat.le_of_eq hg.2.2.2.2⟩ ⟨trivial, ⟨n57, by decide⟩⟩
    have es : sSg b n q = ((1 : Int), q + 1) := by simp [sSg, hb]
    exact ⟨_, _, CX_ofT (h' := h) (by decide) rfl rfl trivial ⟨_, _, _, rfl, rfl, rfl⟩ rfl ⟨Nat.le_of_eq hg.2.2.2.1.symm, Nat.le_of_eq hg.2.2.2.2.symm⟩ t18, (vG.rf hg), by rw [es]; rfl, by rw [es]; exact hq, by decide, by decide⟩
  by_cases n58 : v.toInt = 58
  · have hb : b q = 58 := sby_yes hv (by decide) (by decide) n58
    have t19 : XT l 1 21 false 36 153 6051 0 [xf 7 45, xi v] [] h 177 [xf 7 45, xi v] [xi (Int32.ofInt (1))] h := XT_path (l := l) (fr := 1) (lo := 21) (full := false) (M := 36) (n := 153) (u := 6051) (pc := 0) (L := [xf 7 45, xi v]) (st := []) (h := h) (inl := []) (n' := 80) (sp := [177]) (o := [19]) rfl rfl ⟨rfl, rfl, rfl⟩ rfl ⟨Nat.le_of_eq hg.2.2.2.1, Nat.le_of_eq hg.2.2.2.2⟩ ⟨trivial, ⟨n58, by decide⟩⟩
    have es : sSg b n q = ((1 : Int), q + 1) := by simp [sSg, hb]
    exact ⟨_, _, CX_ofT (h' := h) (by decide) rfl rfl trivial ⟨_, _, _, rfl, rfl, rfl⟩ rfl ⟨Nat.le_of_eq hg.2.2.2.1.symm, Nat.le_of_eq hg.2.2.2.2.symm⟩ t19, (vG.rf hg), by rw [es]; rfl, by rw [es]; exact hq, by decide, by decide⟩
  by_cases n59 : v.toInt = 59
  · have hb : b q = 59 := sby_yes hv (by decide) (by decide) n59
    have t20 : XT l 1 21 false 36 153 6051 0 [xf 7 45, xi v] [] h 109 [xf 7 45, xi v] [xi (Int32.ofInt (4))] h := XT_path (l := l) (fr := 1) (lo := 21) (full := false) (M := 36) (n := 153) (u := 6051) (pc := 0) (L := [xf 7 45, xi v]) (st := []) (h := h) (inl := []) (n' := 80) (sp := [109]) (o := [20]) rfl rfl ⟨rfl, rfl, rfl⟩ rfl ⟨Nat.le_of_eq hg.2.2.2.1, Nat.le_of_eq hg.2.2.2.2⟩ ⟨trivial, ⟨n59, by decide⟩⟩
    have es : sSg b n q = ((4 : Int), q + 1) := by simp [sSg, hb]
    exact ⟨_, _, CX_ofT (h' := h) (by decide) rfl rfl trivial ⟨_, _, _, rfl, rfl, rfl⟩ rfl ⟨Nat.le_of_eq hg.2.2.2.1.symm, Nat.le_of_eq hg.2.2.2.2.symm⟩ t20, (vG.rf hg), by rw [es]; rfl, by rw [es]; exact hq, by decide, by decide⟩
  by_cases n60 : v.toInt = 60
  · have hb : b q = 60 := sby_yes hv (by decide) (by decide) n60
    have t21 : XT l 1 21 false 36 153 6051 0 [xf 7 45, xi v] [] h 133 [xf 7 45, xi v] [xi (Int32.ofInt (61)), xf 7 45] h := XT_path (l := l) (fr := 1) (lo := 21) (full := false) (M := 36) (n := 153) (u := 6051) (pc := 0) (L := [xf 7 45, xi v]) (st := []) (h := h) (inl := []) (n' := 80) (sp := [133]) (o := [21]) rfl rfl ⟨rfl, rfl, rfl⟩ rfl ⟨Nat.le_of_eq hg.2.2.2.1, Nat.le_of_eq hg.2.2.2.2⟩ ⟨trivial, ⟨n60, by decide⟩⟩
    obtain ⟨w1, h1, c1_, g1, o1⟩ := vk_right l b n (q + 1) 61 (Int32.ofInt (61)) h hg r hn7 hq rfl (by decide) (by decide)
    rcases o1 with ⟨o1a, o1b, rfl, o1c⟩ | ⟨o1a, rfl, o1c⟩
    · have t22 : XT l 1 21 false 36 153 6051 133 [xf 7 45, xi v] [xi (Int32.ofInt (61)), xf 7 45] h 136 [xf 7 45, xi v] [xi (Int32.ofInt (1))] h1 := XT_call (l := l) (fr := 1) (lo := 21) (full := false) (M := 36) (n := 153) (u := 6051) (pc := 133) (L := [xf 7 45, xi v]) (st := [xi (Int32.ofInt (61)), xf 7 45]) (h := h) (i := .invokevirtual 37) (aux := 2) (nx := 136) (K := 37) (vs := [xf 7 45, xi (Int32.ofInt (61))]) (rs := [xi (Int32.ofInt (1))]) (rest := []) rfl rfl rfl rfl rfl rfl c1_ (by decide) (by decide) (Nat.le_of_ble_eq_true rfl) ⟨Nat.le_of_eq g1.1.2.2.2.1, Nat.le_of_eq g1.1.2.2.2.2⟩
      have t23 := t21.tr t22
      have t24 : XT l 1 21 false 36 153 6051 136 [xf 7 45, xi v] [xi (Int32.ofInt (1))] h1 141 [xf 7 45, xi v] [xi (Int32.ofInt (8))] h1 := XT_path (l := l) (fr := 1) (lo := 21) (full := false) (M := 36) (n := 153) (u := 6051) (pc := 136) (L := [xf 7 45, xi v]) (st := [xi (Int32.ofInt (1))]) (h := h1) (inl := []) (n' := 80) (sp := [141]) (o := [0]) rfl rfl ⟨rfl, rfl, rfl⟩ rfl ⟨Nat.le_of_eq g1.1.2.2.2.1, Nat.le_of_eq g1.1.2.2.2.2⟩ ⟨trivial, (by decide)⟩
      have t25 := t23.tr t24
      have es : sSg b n q = ((8 : Int), q + 2) := by simp [sSg, hb, o1a, o1b]
      exact ⟨_, _, CX_ofT (h' := h1) (by decide) rfl rfl trivial ⟨_, _, _, rfl, rfl, rfl⟩ rfl ⟨Nat.le_of_eq g1.1.2.2.2.1.symm, Nat.le_of_eq g1.1.2.2.2.2.symm⟩ t25, g1, by rw [es]; rfl, by rw [es]; exact o1c, by decide, by decide⟩
    · have t26 : XT l 1 21 false 36 153 6051 133 [xf 7 45, xi v] [xi (Int32.ofInt (61)), xf 7 45] h 136 [xf 7 45, xi v] [xi (Int32.ofInt (0))] h1 := XT_call (l := l) (fr := 1) (lo := 21) (full := false) (M := 36) (n := 153) (u := 6051) (pc := 133) (L := [xf 7 45, xi v]) (st := [xi (Int32.ofInt (61)), xf 7 45]) (h := h) (i := .invokevirtual 37) (aux := 2) (nx := 136) (K := 37) (vs := [xf 7 45, xi (Int32.ofInt (61))]) (rs := [xi (Int32.ofInt (0))]) (rest := []) rfl rfl rfl rfl rfl rfl c1_ (by decide) (by decide) (Nat.le_of_ble_eq_true rfl) ⟨Nat.le_of_eq g1.1.2.2.2.1, Nat.le_of_eq g1.1.2.2.2.2⟩
      have t27 := t21.tr t26
      have t28 : XT l 1 21 false 36 153 6051 136 [xf 7 45, xi v] [xi (Int32.ofInt (0))] h1 145 [xf 7 45, xi v] [xi (Int32.ofInt (62)), xf 7 45] h1 := XT_path (l := l) (fr := 1) (lo := 21) (full := false) (M := 36) (n := 153) (u := 6051) (pc := 136) (L := [xf 7 45, xi v]) (st := [xi (Int32.ofInt (0))]) (h := h1) (inl := []) (n' := 80) (sp := [145]) (o := [1]) rfl rfl ⟨rfl, rfl, rfl⟩ rfl ⟨Nat.le_of_eq g1.1.2.2.2.1, Nat.le_of_eq g1.1.2.2.2.2⟩ ⟨trivial, rfl⟩
      have t29 := t27.tr t28
      obtain ⟨w2, h2, c2_, g2, o2⟩ := vk_right l b n (q + 1) 62 (Int32.ofInt (62)) h1 g1.1 (r.w g1.2 rfl (fun _ => rfl)) hn7 o1c rfl (by decide) (by decide)
      rcases o2 with ⟨o2a, o2b, rfl, o2c⟩ | ⟨o2a, rfl, o2c⟩
      · have t30 : XT l 1 21 false 36 153 6051 145 [xf 7 45, xi v] [xi (Int32.ofInt (62)), xf 7 45] h1 148 [xf 7 45, xi v] [xi (Int32.ofInt (1))] h2 := XT_call (l := l) (fr := 1) (lo := 21) (full := false) (M := 36) (n := 153) (u := 6051) (pc := 145) (L := [xf 7 45, xi v]) (st := [xi (Int32.ofInt (62)), xf 7 45]) (h := h1) (i := .invokevirtual 37) (aux := 2) (nx := 148) (K := 37) (vs := [xf 7 45, xi (Int32.ofInt (62))]) (rs := [xi (Int32.ofInt (1))]) (rest := []) rfl rfl rfl rfl rfl rfl c2_ (by decide) (by decide) (Nat.le_of_ble_eq_true rfl) ⟨Nat.le_of_eq g2.1.2.2.2.1, Nat.le_of_eq g2.1.2.2.2.2⟩
        have t31 := t29.tr t30
        have t32 : XT l 1 21 false 36 153 6051 148 [xf 7 45, xi v] [xi (Int32.ofInt (1))] h2 158 [xf 7 45, xi v] [xi (Int32.ofInt (10))] h2 := XT_path (l := l) (fr := 1) (lo := 21) (full := false) (M := 36) (n := 153) (u := 6051) (pc := 148) (L := [xf 7 45, xi v]) (st := [xi (Int32.ofInt (1))]) (h := h2) (inl := []) (n' := 80) (sp := [158]) (o := [0]) rfl rfl ⟨rfl, rfl, rfl⟩ rfl ⟨Nat.le_of_eq g2.1.2.2.2.1, Nat.le_of_eq g2.1.2.2.2.2⟩ ⟨trivial, (by decide)⟩
        have t33 := t31.tr t32
        have es : sSg b n q = ((10 : Int), q + 2) := by simp [sSg, hb, o1a, o2a, o2b]
        exact ⟨_, _, CX_ofT (h' := h2) (by decide) rfl rfl trivial ⟨_, _, _, rfl, rfl, rfl⟩ rfl ⟨Nat.le_of_eq g2.1.2.2.2.1.symm, Nat.le_of_eq g2.1.2.2.2.2.symm⟩ t33, (g1.tr g2), by rw [es]; rfl, by rw [es]; exact o2c, by decide, by decide⟩
      · have t34 : XT l 1 21 false 36 153 6051 145 [xf 7 45, xi v] [xi (Int32.ofInt (62)), xf 7 45] h1 148 [xf 7 45, xi v] [xi (Int32.ofInt (0))] h2 := XT_call (l := l) (fr := 1) (lo := 21) (full := false) (M := 36) (n := 153) (u := 6051) (pc := 145) (L := [xf 7 45, xi v]) (st := [xi (Int32.ofInt (62)), xf 7 45]) (h := h1) (i := .invokevirtual 37) (aux := 2) (nx := 148) (K := 37) (vs := [xf 7 45, xi (Int32.ofInt (62))]) (rs := [xi (Int32.ofInt (0))]) (rest := []) rfl rfl rfl rfl rfl rfl c2_ (by decide) (by decide) (Nat.le_of_ble_eq_true rfl) ⟨Nat.le_of_eq g2.1.2.2.2.1, Nat.le_of_eq g2.1.2.2.2.2⟩
        have t35 := t29.tr t34
        have t36 : XT l 1 21 false 36 153 6051 148 [xf 7 45, xi v] [xi (Int32.ofInt (0))] h2 158 [xf 7 45, xi v] [xi (Int32.ofInt (7))] h2 := XT_path (l := l) (fr := 1) (lo := 21) (full := false) (M := 36) (n := 153) (u := 6051) (pc := 148) (L := [xf 7 45, xi v]) (st := [xi (Int32.ofInt (0))]) (h := h2) (inl := []) (n' := 80) (sp := [158]) (o := [1]) rfl rfl ⟨rfl, rfl, rfl⟩ rfl ⟨Nat.le_of_eq g2.1.2.2.2.1, Nat.le_of_eq g2.1.2.2.2.2⟩ ⟨trivial, rfl⟩
        have t37 := t35.tr t36
        have es : sSg b n q = ((7 : Int), q + 1) := by simp [sSg, hb, o1a, o2a]
        exact ⟨_, _, CX_ofT (h' := h2) (by decide) rfl rfl trivial ⟨_, _, _, rfl, rfl, rfl⟩ rfl ⟨Nat.le_of_eq g2.1.2.2.2.1.symm, Nat.le_of_eq g2.1.2.2.2.2.symm⟩ t37, (g1.tr g2), by rw [es]; rfl, by rw [es]; exact o2c, by decide, by decide⟩
  by_cases n61 : v.toInt = 61
  · have hb : b q = 61 := sby_yes hv (by decide) (by decide) n61
    have t38 : XT l 1 21 false 36 153 6051 0 [xf 7 45, xi v] [] h 129 [xf 7 45, xi v] [xi (Int32.ofInt (9))] h := XT_path (l := l) (fr := 1) (lo := 21) (full := false) (M := 36) (n := 153) (u := 6051) (pc := 0) (L := [xf 7 45, xi v]) (st := []) (h := h) (inl := []) (n' := 80) (sp := [129]) (o := [22]) rfl rfl ⟨rfl, rfl, rfl⟩ rfl ⟨Nat.le_of_eq hg.2.2.2.1, Nat.le_of_eq hg.2.2.2.2⟩ ⟨trivial, ⟨n61, by decide⟩⟩
    have es : sSg b n q = ((9 : Int), q + 1) := by simp [sSg, hb]
    exact ⟨_, _, CX_ofT (h' := h) (by decide) rfl rfl trivial ⟨_, _, _, rfl, rfl, rfl⟩ rfl ⟨Nat.le_of_eq hg.2.2.2.1.symm, Nat.le_of_eq hg.2.2.2.2.symm⟩ t38, (vG.rf hg), by rw [es]; rfl, by rw [es]; exact hq, by decide, by decide⟩
  by_cases n62 : v.toInt = 62
  · have hb : b q = 62 := sby_yes hv (by decide) (by decide) n62
    have t39 : XT l 1 21 false 36 153 6051 0 [xf 7 45, xi v] [] h 162 [xf 7 45, xi v] [xi (Int32.ofInt (61)), xf 7 45] h := XT_path (l := l) (fr := 1) (lo := 21) (full := false) (M := 36) (n := 153) (u := 6051) (pc := 0) (L := [xf 7 45, xi v]) (st := []) (h := h) (inl := []) (n' := 80) (sp := [162]) (o := [23]) rfl rfl ⟨rfl, rfl, rfl⟩ rfl ⟨Nat.le_of_eq hg.2.2.2.1, Nat.le_of_eq hg.2.2.2.2⟩ ⟨trivial, ⟨n62, by decide⟩⟩
    obtain ⟨w1, h1, c1_, g1, o1⟩ := vk_right l b n (q + 1) 61 (Int32.ofInt (61)) h hg r hn7 hq rfl (by decide) (by decide)
    rcases o1 with ⟨o1a, o1b, rfl, o1c⟩ | ⟨o1a, rfl, o1c⟩
    · have t40 : XT l 1 21 false 36 153 6051 162 [xf 7 45, xi v] [xi (Int32.ofInt (61)), xf 7 45] h 165 [xf 7 45, xi v] [xi (Int32.ofInt (1))] h1 := XT_call (l := l) (fr := 1) (lo := 21) (full := false) (M := 36) (n := 153) (u := 6051) (pc := 162) (L := [xf 7 45, xi v]) (st := [xi (Int32.ofInt (61)), xf 7 45]) (h := h) (i := .invokevirtual 37) (aux := 2) (nx := 165) (K := 37) (vs := [xf 7 45, xi (Int32.ofInt (61))]) (rs := [xi (Int32.ofInt (1))]) (rest := []) rfl rfl rfl rfl rfl rfl c1_ (by decide) (by decide) (Nat.le_of_ble_eq_true rfl) ⟨Nat.le_of_eq g1.1.2.2.2.1, Nat.le_of_eq g1.1.2.2.2.2⟩
      have t41 := t39.tr t40
      have t42 : XT l 1 21 false 36 153 6051 165 [xf 7 45, xi v] [xi (Int32.ofInt (1))] h1 175 [xf 7 45, xi v] [xi (Int32.ofInt (11))] h1 := XT_path (l := l) (fr := 1) (lo := 21) (full := false) (M := 36) (n := 153) (u := 6051) (pc := 165) (L := [xf 7 45, xi v]) (st := [xi (Int32.ofInt (1))]) (h := h1) (inl := []) (n' := 80) (sp := [175]) (o := [0]) rfl rfl ⟨rfl, rfl, rfl⟩ rfl ⟨Nat.le_of_eq g1.1.2.2.2.1, Nat.le_of_eq g1.1.2.2.2.2⟩ ⟨trivial, (by decide)⟩
      have t43 := t41.tr t42
      have es : sSg b n q = ((11 : Int), q + 2) := by simp [sSg, hb, o1a, o1b]
      exact ⟨_, _, CX_ofT (h' := h1) (by decide) rfl rfl trivial ⟨_, _, _, rfl, rfl, rfl⟩ rfl ⟨Nat.le_of_eq g1.1.2.2.2.1.symm, Nat.le_of_eq g1.1.2.2.2.2.symm⟩ t43, g1, by rw [es]; rfl, by rw [es]; exact o1c, by decide, by decide⟩
    · have t44 : XT l 1 21 false 36 153 6051 162 [xf 7 45, xi v] [xi (Int32.ofInt (61)), xf 7 45] h 165 [xf 7 45, xi v] [xi (Int32.ofInt (0))] h1 := XT_call (l := l) (fr := 1) (lo := 21) (full := false) (M := 36) (n := 153) (u := 6051) (pc := 162) (L := [xf 7 45, xi v]) (st := [xi (Int32.ofInt (61)), xf 7 45]) (h := h) (i := .invokevirtual 37) (aux := 2) (nx := 165) (K := 37) (vs := [xf 7 45, xi (Int32.ofInt (61))]) (rs := [xi (Int32.ofInt (0))]) (rest := []) rfl rfl rfl rfl rfl rfl c1_ (by decide) (by decide) (Nat.le_of_ble_eq_true rfl) ⟨Nat.le_of_eq g1.1.2.2.2.1, Nat.le_of_eq g1.1.2.2.2.2⟩
      have t45 := t39.tr t44
      have t46 : XT l 1 21 false 36 153 6051 165 [xf 7 45, xi v] [xi (Int32.ofInt (0))] h1 175 [xf 7 45, xi v] [xi (Int32.ofInt (12))] h1 := XT_path (l := l) (fr := 1) (lo := 21) (full := false) (M := 36) (n := 153) (u := 6051) (pc := 165) (L := [xf 7 45, xi v]) (st := [xi (Int32.ofInt (0))]) (h := h1) (inl := []) (n' := 80) (sp := [175]) (o := [1]) rfl rfl ⟨rfl, rfl, rfl⟩ rfl ⟨Nat.le_of_eq g1.1.2.2.2.1, Nat.le_of_eq g1.1.2.2.2.2⟩ ⟨trivial, rfl⟩
      have t47 := t45.tr t46
      have es : sSg b n q = ((12 : Int), q + 1) := by simp [sSg, hb, o1a]
      exact ⟨_, _, CX_ofT (h' := h1) (by decide) rfl rfl trivial ⟨_, _, _, rfl, rfl, rfl⟩ rfl ⟨Nat.le_of_eq g1.1.2.2.2.1.symm, Nat.le_of_eq g1.1.2.2.2.2.symm⟩ t47, g1, by rw [es]; rfl, by rw [es]; exact o1c, by decide, by decide⟩
  have nb40 : ¬ b q = 40 := sby_ne hv (by decide) (by decide) n40
  have nb41 : ¬ b q = 41 := sby_ne hv (by decide) (by decide) n41
  have nb42 : ¬ b q = 42 := sby_ne hv (by decide) (by decide) n42
  have nb43 : ¬ b q = 43 := sby_ne hv (by decide) (by decide) n43
  have nb45 : ¬ b q = 45 := sby_ne hv (by decide) (by decide) n45
  have nb47 : ¬ b q = 47 := sby_ne hv (by decide) (by decide) n47
  have nb59 : ¬ b q = 59 := sby_ne hv (by decide) (by decide) n59
  have nb60 : ¬ b q = 60 := sby_ne hv (by decide) (by decide) n60
  have nb61 : ¬ b q = 61 := sby_ne hv (by decide) (by decide) n61
  have nb62 : ¬ b q = 62 := sby_ne hv (by decide) (by decide) n62
  have t48 : XT l 1 21 false 36 153 6051 0 [xf 7 45, xi v] [] h 177 [xf 7 45, xi v] [xi (Int32.ofInt (1))] h := XT_path (l := l) (fr := 1) (lo := 21) (full := false) (M := 36) (n := 153) (u := 6051) (pc := 0) (L := [xf 7 45, xi v]) (st := []) (h := h) (inl := []) (n' := 80) (sp := [177]) (o := [0]) rfl rfl ⟨rfl, rfl, rfl⟩ rfl ⟨Nat.le_of_eq hg.2.2.2.1, Nat.le_of_eq hg.2.2.2.2⟩ ⟨trivial, (by omega)⟩
  have es : sSg b n q = ((1 : Int), q + 1) := by simp [sSg, nb40, nb41, nb42, nb43, nb45, nb47, nb59, nb60, nb61, nb62]
  exact ⟨_, _, CX_ofT (h' := h) (by decide) rfl rfl trivial ⟨_, _, _, rfl, rfl, rfl⟩ rfl ⟨Nat.le_of_eq hg.2.2.2.1.symm, Nat.le_of_eq hg.2.2.2.2.symm⟩ t48, vG.rf hg, by rw [es]; rfl, by rw [es]; exact hq, by decide, by decide⟩
set_option maxRecDepth 100000 in
set_option maxHeartbeats 2000000 in
theorem vk_adv (l : Launch) (b : Nat → Int) (n p : Nat) (h : XH) (hg : sgood vT vR vE 153 6051 h) (r : kR b n h) (hn7 : n ≤ 700) (hpn : p ≤ n) (hp : (xI h 45 6).toInt = p) : ∃ h', CX l 6 197 false 19 [xf 7 45] h [] h' ∧ vG ([(45, 6, false), (45, 7, false), (45, 8, false), (45, 9, false)], []) h h' ∧ (xI h' 45 8).toInt = sSk b (n - p) p ∧ (xI h' 45 7).toInt = (sTk b n (sSk b (n - p) p)).1 ∧ (xI h' 45 9).toInt = (sTk b n (sSk b (n - p) p)).2.1 ∧ (xI h' 45 6).toInt = (sTk b n (sSk b (n - p) p)).2.2 := by
  obtain ⟨h1, tS, g1, e1⟩ := vk_skip l b n (n - p) p xun h hg r hn7 hp (by omega)
  have sb := sSk_b b (n - p) p
  obtain ⟨q, eq⟩ : ∃ z, z = sSk b (n - p) p := ⟨_, rfl⟩
  rw [← eq] at e1 sb ⊢
  have g1w : vG ([(45, 6, false), (45, 7, false), (45, 8, false), (45, 9, false)], []) h h1 := ⟨g1.1, g1.2.mono rfl rfl⟩
  have r1 := r.w g1.2 rfl (fun _ => rfl)
  have g2 : vG ([(45, 6, false), (45, 7, false), (45, 8, false), (45, 9, false)], []) h (xsetI h1 45 8 (xI h1 45 6)) := g1w.set (c := 45) (k := 8) (v := (xI h1 45 6)) (show (0 : Int) ≤ _ ∧ _ ≤ 700 from ⟨by omega, by omega⟩) (by decide +kernel) (by decide +kernel) rfl
  have g3 : vG ([(45, 6, false), (45, 7, false), (45, 8, false), (45, 9, false)], []) h (xsetI (xsetI h1 45 8 (xI h1 45 6)) 45 9 (Int32.ofInt (0))) := g2.set (c := 45) (k := 9) (v := (Int32.ofInt (0))) (show (-2147483648 : Int) ≤ _ ∧ _ ≤ 2147483647 from by decide) (by decide +kernel) (by decide +kernel) rfl
  have r3 : kR b n (xsetI (xsetI h1 45 8 (xI h1 45 6)) 45 9 (Int32.ofInt (0))) := r1.fr (by rw [yI_ne (by decide), yI_ne (by decide)]) (fun k => by rw [yI_c (by decide), yI_c (by decide)])
  have p3 : (xI (xsetI (xsetI h1 45 8 (xI h1 45 6)) 45 9 (Int32.ofInt (0))) 45 6).toInt = q := by rw [yI_ne (by decide), yI_ne (by decide)]; exact e1
  have q3 : (xI (xsetI (xsetI h1 45 8 (xI h1 45 6)) 45 9 (Int32.ofInt (0))) 45 8).toInt = q := by rw [yI_ne (by decide), yI_same]; exact e1
  have v3 : (xI (xsetI (xsetI h1 45 8 (xI h1 45 6)) 45 9 (Int32.ofInt (0))) 45 9).toInt = 0 := by rw [yI_same]; rfl
  have r15 := r1.1
  by_cases c1 : (xI h1 45 6) < (xI h1 45 5)
  · have dc1 : (xI h1 45 6).toInt < (xI h1 45 5).toInt := Int32.lt_iff_toInt_lt.mp c1
    by_cases c2 : (xI (xsetI (xsetI h1 45 8 (xI h1 45 6)) 45 9 (Int32.ofInt (0))) (xR h1 45 0) ((xI h1 45 6)).toNatClampNeg) < (Int32.ofInt (97))
    · have e_0 : (Int32.ofInt (0)).toInt = 0 := rfl
      have e_97 : (Int32.ofInt (97)).toInt = 97 := rfl
      have c2r := c2
      rw [vref g1.1.1 (rfl : vRf 45 0 = [46])] at c2r
      have dc2 : (xI h1 46 ((xI h1 45 6)).toNatClampNeg).toInt < (Int32.ofInt (97)).toInt := Int32.lt_iff_toInt_lt.mp c2r
      by_cases c3 : (xI (xsetI (xsetI h1 45 8 (xI h1 45 6)) 45 9 (Int32.ofInt (0))) (xR h1 45 0) ((xI h1 45 6)).toNatClampNeg) < (Int32.ofInt (48))
      · have e_0 : (Int32.ofInt (0)).toInt = 0 := rfl
        have e_48 : (Int32.ofInt (48)).toInt = 48 := rfl
        have c3r := c3
        rw [vref g1.1.1 (rfl : vRf 45 0 = [46])] at c3r
        have dc3 : (xI h1 46 ((xI h1 45 6)).toNatClampNeg).toInt < (Int32.ofInt (48)).toInt := Int32.lt_iff_toInt_lt.mp c3r
        have t4 : XT l 6 197 false 19 153 6051 52 [xf 7 45, xun] [] h1 133 [xf 7 45, xi (xI (xsetI (xsetI h1 45 8 (xI h1 45 6)) 45 9 (Int32.ofInt (0))) (xR h1 45 0) ((xI h1 45 6)).toNatClampNeg)] [xi (xI (xsetI (xsetI h1 45 8 (xI h1 45 6)) 45 9 (Int32.ofInt (0))) (xR h1 45 0) ((xI h1 45 6)).toNatClampNeg), xf 7 45, xf 7 45] (xsetI (xsetI (xsetI h1 45 8 (xI h1 45 6)) 45 9 (Int32.ofInt (0))) 45 6 ((xI h1 45 6) + (Int32.ofInt (1)))) := XT_path (l := l) (fr := 6) (lo := 197) (full := false) (M := 19) (n := 153) (u := 6051) (pc := 52) (L := [xf 7 45, xun]) (st := []) (h := h1) (inl := [20, 34]) (n' := 90) (sp := [133]) (o := [1, 1, 1, 1, 1]) rfl rfl ⟨rfl, rfl, rfl⟩ rfl ⟨Nat.le_of_eq g1.1.2.2.2.1, Nat.le_of_eq g1.1.2.2.2.2⟩ ⟨⟨⟨⟨⟨⟨⟨⟨⟨trivial, c1⟩, (vnn g1.1.1 (rfl : vRf 45 0 = [46]) (by decide))⟩, (vp_of (i := (xI h1 45 6)) (n := 700) (by omega) (by omega))⟩, c2⟩, (Or.inl rfl)⟩, rfl⟩, c3⟩, (Or.inl rfl)⟩, rfl⟩
        rw [vref g1.1.1 (rfl : vRf 45 0 = [46])] at t4
        have t5 : XT l 6 197 false 19 153 6051 52 [xf 7 45, xun] [] h1 133 [xf 7 45, xi (xI h1 46 ((xI h1 45 6)).toNatClampNeg)] [xi (xI h1 46 ((xI h1 45 6)).toNatClampNeg), xf 7 45, xf 7 45] (xsetI (xsetI (xsetI h1 45 8 (xI h1 45 6)) 45 9 (Int32.ofInt (0))) 45 6 ((xI h1 45 6) + (Int32.ofInt (1)))) := t4
        have t6 := tS.tr t5
        have np : (xI h1 45 6).toNatClampNeg = q := by
          show (xI h1 45 6).toInt.toNat = q
          omega
        have eb := r1.2 q (by omega)
        rw [← np] at eb
        have lw : (97 ≤ b q ∧ b q ≤ 122) = (97 ≤ (xI h1 46 (xI h1 45 6).toNatClampNeg).toInt ∧ (xI h1 46 (xI h1 45 6).toNatClampNeg).toInt ≤ 122) := by rw [← np, ← eb]; exact sby_in (by decide) (by decide)
        have dw : (48 ≤ b q ∧ b q ≤ 57) = (48 ≤ (xI h1 46 (xI h1 45 6).toNatClampNeg).toInt ∧ (xI h1 46 (xI h1 45 6).toNatClampNeg).toInt ≤ 57) := by rw [← np, ← eb]; exact sby_in (by decide) (by decide)
        have nl : ¬ (97 ≤ b q ∧ b q ≤ 122) := by rw [lw]; omega
        have nd : ¬ (48 ≤ b q ∧ b q ≤ 57) := by rw [dw]; omega
        have ei : (((xI h1 45 6) + (Int32.ofInt (1)))).toInt = (xI h1 45 6).toInt + 1 := y_suc1 (by omega) (by omega)
        have g4 : vG ([(45, 6, false), (45, 7, false), (45, 8, false), (45, 9, false)], []) h (xsetI (xsetI (xsetI h1 45 8 (xI h1 45 6)) 45 9 (Int32.ofInt (0))) 45 6 ((xI h1 45 6) + (Int32.ofInt (1)))) := g3.set (c := 45) (k := 6) (v := ((xI h1 45 6) + (Int32.ofInt (1)))) (show (0 : Int) ≤ _ ∧ _ ≤ 700 from ⟨by omega, by omega⟩) (by decide +kernel) (by decide +kernel) rfl
        have r4 : kR b n (xsetI (xsetI (xsetI h1 45 8 (xI h1 45 6)) 45 9 (Int32.ofInt (0))) 45 6 ((xI h1 45 6) + (Int32.ofInt (1)))) := r3.fr (yI_ne (by decide)) (fun k => yI_c (by decide))
        obtain ⟨w5, h5, c5, g5, a7, a6, w50, w51⟩ := vk_sign l b n q (xI h1 46 (xI h1 45 6).toNatClampNeg) (xsetI (xsetI (xsetI h1 45 8 (xI h1 45 6)) 45 9 (Int32.ofInt (0))) 45 6 ((xI h1 45 6) + (Int32.ofInt (1)))) g4.1 r4 hn7 (by rw [yI_same]; omega) (by rw [np] at eb ⊢; exact eb)
        have t7 : XT l 6 197 false 19 153 6051 133 [xf 7 45, xi (xI h1 46 ((xI h1 45 6)).toNatClampNeg)] [xi (xI h1 46 ((xI h1 45 6)).toNatClampNeg), xf 7 45, xf 7 45] (xsetI (xsetI (xsetI h1 45 8 (xI h1 45 6)) 45 9 (Int32.ofInt (0))) 45 6 ((xI h1 45 6) + (Int32.ofInt (1)))) 136 [xf 7 45, xi (xI h1 46 ((xI h1 45 6)).toNatClampNeg)] [xi w5, xf 7 45] h5 := XT_call (l := l) (fr := 6) (lo := 197) (full := false) (M := 19) (n := 153) (u := 6051) (pc := 133) (L := [xf 7 45, xi (xI h1 46 ((xI h1 45 6)).toNatClampNeg)]) (st := [xi (xI h1 46 ((xI h1 45 6)).toNatClampNeg), xf 7 45, xf 7 45]) (h := (xsetI (xsetI (xsetI h1 45 8 (xI h1 45 6)) 45 9 (Int32.ofInt (0))) 45 6 ((xI h1 45 6) + (Int32.ofInt (1))))) (i := .invokevirtual 36) (aux := 2) (nx := 136) (K := 36) (vs := [xf 7 45, xi (xI h1 46 ((xI h1 45 6)).toNatClampNeg)]) (rs := [xi w5]) (rest := [xf 7 45]) rfl rfl rfl rfl rfl rfl c5 (by decide) (by decide) (Nat.le_of_ble_eq_true rfl) ⟨Nat.le_of_eq g5.1.2.2.2.1, Nat.le_of_eq g5.1.2.2.2.2⟩
        have t8 := t6.tr t7
        have t9 : XT l 6 197 false 19 153 6051 136 [xf 7 45, xi (xI h1 46 ((xI h1 45 6)).toNatClampNeg)] [xi w5, xf 7 45] h5 139 [xf 7 45, xi (xI h1 46 ((xI h1 45 6)).toNatClampNeg)] [] (xsetI h5 45 7 w5) := XT_path (l := l) (fr := 6) (lo := 197) (full := false) (M := 19) (n := 153) (u := 6051) (pc := 136) (L := [xf 7 45, xi (xI h1 46 ((xI h1 45 6)).toNatClampNeg)]) (st := [xi w5, xf 7 45]) (h := h5) (inl := [20, 34]) (n' := 90) (sp := [139]) (o := []) rfl rfl ⟨rfl, rfl, rfl⟩ rfl ⟨Nat.le_of_eq g5.1.2.2.2.1, Nat.le_of_eq g5.1.2.2.2.2⟩ trivial
        have t10 := t8.tr t9
        have g6 : vG ([(45, 6, false), (45, 7, false), (45, 8, false), (45, 9, false)], []) h h5 := g4.tr ⟨g5.1, g5.2.mono rfl rfl⟩
        have g7 : vG ([(45, 6, false), (45, 7, false), (45, 8, false), (45, 9, false)], []) h (xsetI h5 45 7 w5) := g6.set (c := 45) (k := 7) (v := w5) (show (0 : Int) ≤ _ ∧ _ ≤ 39 from ⟨by omega, by omega⟩) (by decide +kernel) (by decide +kernel) rfl
        have es : sTk b n q = ((sSg b n q).1, 0, (sSg b n q).2) := (if_neg (by omega)).trans ((if_neg nl).trans (if_neg nd))
        exact ⟨_, CX_ofT (h' := (xsetI h5 45 7 w5)) (by decide) rfl rfl trivial ⟨_, _, _, rfl, rfl, rfl⟩ rfl ⟨Nat.le_of_eq g5.1.2.2.2.1.symm, Nat.le_of_eq g5.1.2.2.2.2.symm⟩ t10, g7, by rw [yI_ne (by decide), g5.2.1 45 8 rfl, yI_ne (by decide)]; exact q3, by rw [yI_same, es]; exact a7, by rw [yI_ne (by decide), g5.2.1 45 9 rfl, yI_ne (by decide), es]; exact v3, by rw [yI_ne (by decide), es]; exact a6⟩
      · have e_0 : (Int32.ofInt (0)).toInt = 0 := rfl
        have e_48 : (Int32.ofInt (48)).toInt = 48 := rfl
        have c3r := c3
        rw [vref g1.1.1 (rfl : vRf 45 0 = [46])] at c3r
        have dc3 : (Int32.ofInt (48)).toInt ≤ (xI h1 46 ((xI h1 45 6)).toNatClampNeg).toInt := Int32.le_iff_toInt_le.mp (Int32.not_lt.mp c3r)
        by_cases c11 : (Int32.ofInt (57)) < (xI (xsetI (xsetI h1 45 8 (xI h1 45 6)) 45 9 (Int32.ofInt (0))) (xR h1 45 0) ((xI h1 45 6)).toNatClampNeg)
        · have e_0 : (Int32.ofInt (0)).toInt = 0 := rfl
          have e_57 : (Int32.ofInt (57)).toInt = 57 := rfl
          have c11r := c11
          rw [vref g1.1.1 (rfl : vRf 45 0 = [46])] at c11r
          have dc11 : (Int32.ofInt (57)).toInt < (xI h1 46 ((xI h1 45 6)).toNatClampNeg).toInt := Int32.lt_iff_toInt_lt.mp c11r
          have t12 : XT l 6 197 false 19 153 6051 52 [xf 7 45, xun] [] h1 133 [xf 7 45, xi (xI (xsetI (xsetI h1 45 8 (xI h1 45 6)) 45 9 (Int32.ofInt (0))) (xR h1 45 0) ((xI h1 45 6)).toNatClampNeg)] [xi (xI (xsetI (xsetI h1 45 8 (xI h1 45 6)) 45 9 (Int32.ofInt (0))) (xR h1 45 0) ((xI h1 45 6)).toNatClampNeg), xf 7 45, xf 7 45] (xsetI (xsetI (xsetI h1 45 8 (xI h1 45 6)) 45 9 (Int32.ofInt (0))) 45 6 ((xI h1 45 6) + (Int32.ofInt (1)))) := XT_path (l := l) (fr := 6) (lo := 197) (full := false) (M := 19) (n := 153) (u := 6051) (pc := 52) (L := [xf 7 45, xun]) (st := []) (h := h1) (inl := [20, 34]) (n' := 90) (sp := [133]) (o := [1, 1, 1, 0, 1, 1]) rfl rfl ⟨rfl, rfl, rfl⟩ rfl ⟨Nat.le_of_eq g1.1.2.2.2.1, Nat.le_of_eq g1.1.2.2.2.2⟩ ⟨⟨⟨⟨⟨⟨⟨⟨⟨⟨trivial, c1⟩, (vnn g1.1.1 (rfl : vRf 45 0 = [46]) (by decide))⟩, (vp_of (i := (xI h1 45 6)) (n := 700) (by omega) (by omega))⟩, c2⟩, (Or.inl rfl)⟩, rfl⟩, c3⟩, c11⟩, (Or.inl rfl)⟩, rfl⟩
          rw [vref g1.1.1 (rfl : vRf 45 0 = [46])] at t12
          have t13 : XT l 6 197 false 19 153 6051 52 [xf 7 45, xun] [] h1 133 [xf 7 45, xi (xI h1 46 ((xI h1 45 6)).toNatClampNeg)] [xi (xI h1 46 ((xI h1 45 6)).toNatClampNeg), xf 7 45, xf 7 45] (xsetI (xsetI (xsetI h1 45 8 (xI h1 45 6)) 45 9 (Int32.ofInt (0))) 45 6 ((xI h1 45 6) + (Int32.ofInt (1)))) := t12
          have t14 := tS.tr t13
          have np : (xI h1 45 6).toNatClampNeg = q := by
            show (xI h1 45 6).toInt.toNat = q
            omega
          have eb := r1.2 q (by omega)
          rw [← np] at eb
          have lw : (97 ≤ b q ∧ b q ≤ 122) = (97 ≤ (xI h1 46 (xI h1 45 6).toNatClampNeg).toInt ∧ (xI h1 46 (xI h1 45 6).toNatClampNeg).toInt ≤ 122) := by rw [← np, ← eb]; exact sby_in (by decide) (by decide)
          have dw : (48 ≤ b q ∧ b q ≤ 57) = (48 ≤ (xI h1 46 (xI h1 45 6).toNatClampNeg).toInt ∧ (xI h1 46 (xI h1 45 6).toNatClampNeg).toInt ≤ 57) := by rw [← np, ← eb]; exact sby_in (by decide) (by decide)
          have nl : ¬ (97 ≤ b q ∧ b q ≤ 122) := by rw [lw]; omega
          have nd : ¬ (48 ≤ b q ∧ b q ≤ 57) := by rw [dw]; omega
          have ei : (((xI h1 45 6) + (Int32.ofInt (1)))).toInt = (xI h1 45 6).toInt + 1 := y_suc1 (by omega) (by omega)
          have g4 : vG ([(45, 6, false), (45, 7, false), (45, 8, false), (45, 9, false)], []) h (xsetI (xsetI (xsetI h1 45 8 (xI h1 45 6)) 45 9 (Int32.ofInt (0))) 45 6 ((xI h1 45 6) + (Int32.ofInt (1)))) := g3.set (c := 45) (k := 6) (v := ((xI h1 45 6) + (Int32.ofInt (1)))) (show (0 : Int) ≤ _ ∧ _ ≤ 700 from ⟨by omega, by omega⟩) (by decide +kernel) (by decide +kernel) rfl
          have r4 : kR b n (xsetI (xsetI (xsetI h1 45 8 (xI h1 45 6)) 45 9 (Int32.ofInt (0))) 45 6 ((xI h1 45 6) + (Int32.ofInt (1)))) := r3.fr (yI_ne (by decide)) (fun k => yI_c (by decide))
          obtain ⟨w5, h5, c5, g5, a7, a6, w50, w51⟩ := vk_sign l b n q (xI h1 46 (xI h1 45 6).toNatClampNeg) (xsetI (xsetI (xsetI h1 45 8 (xI h1 45 6)) 45 9 (Int32.ofInt (0))) 45 6 ((xI h1 45 6) + (Int32.ofInt (1)))) g4.1 r4 hn7 (by rw [yI_same]; omega) (by rw [np] at eb ⊢; exact eb)
          have t15 : XT l 6 197 false 19 153 6051 133 [xf 7 45, xi (xI h1 46 ((xI h1 45 6)).toNatClampNeg)] [xi (xI h1 46 ((xI h1 45 6)).toNatClampNeg), xf 7 45, xf 7 45] (xsetI (xsetI (xsetI h1 45 8 (xI h1 45 6)) 45 9 (Int32.ofInt (0))) 45 6 ((xI h1 45 6) + (Int32.ofInt (1)))) 136 [xf 7 45, xi (xI h1 46 ((xI h1 45 6)).toNatClampNeg)] [xi w5, xf 7 45] h5 := XT_call (l := l) (fr := 6) (lo := 197) (full := false) (M := 19) (n := 153) (u := 6051) (pc := 133) (L := [xf 7 45, xi (xI h1 46 ((xI h1 45 6)).toNatClampNeg)]) (st := [xi (xI h1 46 ((xI h1 45 6)).toNatClampNeg), xf 7 45, xf 7 45]) (h := (xsetI (xsetI (xsetI h1 45 8 (xI h1 45 6)) 45 9 (Int32.ofInt (0))) 45 6 ((xI h1 45 6) + (Int32.ofInt (1))))) (i := .invokevirtual 36) (aux := 2) (nx := 136) (K := 36) (vs := [xf 7 45, xi (xI h1 46 ((xI h1 45 6)).toNatClampNeg)]) (rs := [xi w5]) (rest := [xf 7 45]) rfl rfl rfl rfl rfl rfl c5 (by decide) (by decide) (Nat.le_of_ble_eq_true rfl) ⟨Nat.le_of_eq g5.1.2.2.2.1, Nat.le_of_eq g5.1.2.2.2.2⟩
          have t16 := t14.tr t15
          have t17 : XT l 6 197 false 19 153 6051 136 [xf 7 45, xi (xI h1 46 ((xI h1 45 6)).toNatClampNeg)] [xi w5, xf 7 45] h5 139 [xf 7 45, xi (xI h1 46 ((xI h1 45 6)).toNatClampNeg)] [] (xsetI h5 45 7 w5) := XT_path (l := l) (fr := 6) (lo := 197) (full := false) (M := 19) (n := 153) (u := 6051) (pc := 136) (L := [xf 7 45, xi (xI h1 46 ((xI h1 45 6)).toNatClampNeg)]) (st := [xi w5, xf 7 45]) (h := h5) (inl := [20, 34]) (n' := 90) (sp := [139]) (o := []) rfl rfl ⟨rfl, rfl, rfl⟩ rfl ⟨Nat.le_of_eq g5.1.2.2.2.1, Nat.le_of_eq g5.1.2.2.2.2⟩ trivial
          have t18 := t16.tr t17
          have g6 : vG ([(45, 6, false), (45, 7, false), (45, 8, false), (45, 9, false)], []) h h5 := g4.tr ⟨g5.1, g5.2.mono rfl rfl⟩
          have g7 : vG ([(45, 6, false), (45, 7, false), (45, 8, false), (45, 9, false)], []) h (xsetI h5 45 7 w5) := g6.set (c := 45) (k := 7) (v := w5) (show (0 : Int) ≤ _ ∧ _ ≤ 39 from ⟨by omega, by omega⟩) (by decide +kernel) (by decide +kernel) rfl
          have es : sTk b n q = ((sSg b n q).1, 0, (sSg b n q).2) := (if_neg (by omega)).trans ((if_neg nl).trans (if_neg nd))
          exact ⟨_, CX_ofT (h' := (xsetI h5 45 7 w5)) (by decide) rfl rfl trivial ⟨_, _, _, rfl, rfl, rfl⟩ rfl ⟨Nat.le_of_eq g5.1.2.2.2.1.symm, Nat.le_of_eq g5.1.2.2.2.2.symm⟩ t18, g7, by rw [yI_ne (by decide), g5.2.1 45 8 rfl, yI_ne (by decide)]; exact q3, by rw [yI_same, es]; exact a7, by rw [yI_ne (by decide), g5.2.1 45 9 rfl, yI_ne (by decide), es]; exact v3, by rw [yI_ne (by decide), es]; exact a6⟩
        · have e_0 : (Int32.ofInt (0)).toInt = 0 := rfl
          have e_57 : (Int32.ofInt (57)).toInt = 57 := rfl
          have c11r := c11
          rw [vref g1.1.1 (rfl : vRf 45 0 = [46])] at c11r
          have dc11 : (xI h1 46 ((xI h1 45 6)).toNatClampNeg).toInt ≤ (Int32.ofInt (57)).toInt := Int32.le_iff_toInt_le.mp (Int32.not_lt.mp c11r)
          have t19 : XT l 6 197 false 19 153 6051 52 [xf 7 45, xun] [] h1 114 [xf 7 45, xi (xI (xsetI (xsetI h1 45 8 (xI h1 45 6)) 45 9 (Int32.ofInt (0))) (xR h1 45 0) ((xI h1 45 6)).toNatClampNeg)] [xf 7 45] (xsetI (xsetI h1 45 8 (xI h1 45 6)) 45 9 (Int32.ofInt (0))) := XT_path (l := l) (fr := 6) (lo := 197) (full := false) (M := 19) (n := 153) (u := 6051) (pc := 52) (L := [xf 7 45, xun]) (st := []) (h := h1) (inl := [20, 34]) (n' := 90) (sp := [114]) (o := [1, 1, 1, 0, 0, 0]) rfl rfl ⟨rfl, rfl, rfl⟩ rfl ⟨Nat.le_of_eq g1.1.2.2.2.1, Nat.le_of_eq g1.1.2.2.2.2⟩ ⟨⟨⟨⟨⟨⟨⟨⟨⟨⟨trivial, c1⟩, (vnn g1.1.1 (rfl : vRf 45 0 = [46]) (by decide))⟩, (vp_of (i := (xI h1 45 6)) (n := 700) (by omega) (by omega))⟩, c2⟩, (Or.inl rfl)⟩, rfl⟩, c3⟩, c11⟩, (Or.inr rfl)⟩, (by decide)⟩
          rw [vref g1.1.1 (rfl : vRf 45 0 = [46])] at t19
          have t20 : XT l 6 197 false 19 153 6051 52 [xf 7 45, xun] [] h1 114 [xf 7 45, xi (xI h1 46 ((xI h1 45 6)).toNatClampNeg)] [xf 7 45] (xsetI (xsetI h1 45 8 (xI h1 45 6)) 45 9 (Int32.ofInt (0))) := t19
          have t21 := tS.tr t20
          have np : (xI h1 45 6).toNatClampNeg = q := by
            show (xI h1 45 6).toInt.toNat = q
            omega
          have eb := r1.2 q (by omega)
          rw [← np] at eb
          have lw : (97 ≤ b q ∧ b q ≤ 122) = (97 ≤ (xI h1 46 (xI h1 45 6).toNatClampNeg).toInt ∧ (xI h1 46 (xI h1 45 6).toNatClampNeg).toInt ≤ 122) := by rw [← np, ← eb]; exact sby_in (by decide) (by decide)
          have dw : (48 ≤ b q ∧ b q ≤ 57) = (48 ≤ (xI h1 46 (xI h1 45 6).toNatClampNeg).toInt ∧ (xI h1 46 (xI h1 45 6).toNatClampNeg).toInt ≤ 57) := by rw [← np, ← eb]; exact sby_in (by decide) (by decide)
          have nl : ¬ (97 ≤ b q ∧ b q ≤ 122) := by rw [lw]; omega
          have yd : 48 ≤ b q ∧ b q ≤ 57 := by rw [dw]; omega
          obtain ⟨h4, c4, g4, a6, a7, a9⟩ := vk_dig l b n q (xsetI (xsetI h1 45 8 (xI h1 45 6)) 45 9 (Int32.ofInt (0))) g3.1 r3 hn7 (by omega) p3
          have t22 : XT l 6 197 false 19 153 6051 114 [xf 7 45, xi (xI h1 46 ((xI h1 45 6)).toNatClampNeg)] [xf 7 45] (xsetI (xsetI h1 45 8 (xI h1 45 6)) 45 9 (Int32.ofInt (0))) 117 [xf 7 45, xi (xI h1 46 ((xI h1 45 6)).toNatClampNeg)] [] h4 := XT_call (l := l) (fr := 6) (lo := 197) (full := false) (M := 19) (n := 153) (u := 6051) (pc := 114) (L := [xf 7 45, xi (xI h1 46 ((xI h1 45 6)).toNatClampNeg)]) (st := [xf 7 45]) (h := (xsetI (xsetI h1 45 8 (xI h1 45 6)) 45 9 (Int32.ofInt (0)))) (i := .invokevirtual 35) (aux := 1) (nx := 117) (K := 35) (vs := [xf 7 45]) (rs := []) (rest := []) rfl rfl rfl rfl rfl rfl c4 (by decide) (by decide) (Nat.le_of_ble_eq_true rfl) ⟨Nat.le_of_eq g4.1.2.2.2.1, Nat.le_of_eq g4.1.2.2.2.2⟩
          have t23 := t21.tr t22
          have t24 : XT l 6 197 false 19 153 6051 117 [xf 7 45, xi (xI h1 46 ((xI h1 45 6)).toNatClampNeg)] [] h4 139 [xf 7 45, xi (xI h1 46 ((xI h1 45 6)).toNatClampNeg)] [] h4 := XT_path (l := l) (fr := 6) (lo := 197) (full := false) (M := 19) (n := 153) (u := 6051) (pc := 117) (L := [xf 7 45, xi (xI h1 46 ((xI h1 45 6)).toNatClampNeg)]) (st := []) (h := h4) (inl := [20, 34]) (n' := 90) (sp := [139]) (o := []) rfl rfl ⟨rfl, rfl, rfl⟩ rfl ⟨Nat.le_of_eq g4.1.2.2.2.1, Nat.le_of_eq g4.1.2.2.2.2⟩ trivial
          have t25 := t23.tr t24
          have g5 : vG ([(45, 6, false), (45, 7, false), (45, 8, false), (45, 9, false)], []) (xsetI (xsetI h1 45 8 (xI h1 45 6)) 45 9 (Int32.ofInt (0))) h4 := ⟨g4.1, g4.2.mono rfl rfl⟩
          have es : sTk b n q = (2, sNm b q (sDr b (n - q) q - q), sDr b (n - q) q) := (if_neg (by omega)).trans ((if_neg nl).trans (if_pos yd))
          exact ⟨_, CX_ofT (h' := h4) (by decide) rfl rfl trivial ⟨_, _, _, rfl, rfl, rfl⟩ rfl ⟨Nat.le_of_eq g4.1.2.2.2.1.symm, Nat.le_of_eq g4.1.2.2.2.2.symm⟩ t25, g3.tr g5, by rw [g4.2.1 45 8 rfl]; exact q3, by rw [es]; exact a7, by rw [es]; exact a9, by rw [es]; exact a6⟩
    · have e_0 : (Int32.ofInt (0)).toInt = 0 := rfl
      have e_97 : (Int32.ofInt (97)).toInt = 97 := rfl
      have c2r := c2
      rw [vref g1.1.1 (rfl : vRf 45 0 = [46])] at c2r
      have dc2 : (Int32.ofInt (97)).toInt ≤ (xI h1 46 ((xI h1 45 6)).toNatClampNeg).toInt := Int32.le_iff_toInt_le.mp (Int32.not_lt.mp c2r)
      by_cases c26 : (Int32.ofInt (122)) < (xI (xsetI (xsetI h1 45 8 (xI h1 45 6)) 45 9 (Int32.ofInt (0))) (xR h1 45 0) ((xI h1 45 6)).toNatClampNeg)
      · have e_0 : (Int32.ofInt (0)).toInt = 0 := rfl
        have e_122 : (Int32.ofInt (122)).toInt = 122 := rfl
        have c26r := c26
        rw [vref g1.1.1 (rfl : vRf 45 0 = [46])] at c26r
        have dc26 : (Int32.ofInt (122)).toInt < (xI h1 46 ((xI h1 45 6)).toNatClampNeg).toInt := Int32.lt_iff_toInt_lt.mp c26r
        by_cases c27 : (xI (xsetI (xsetI h1 45 8 (xI h1 45 6)) 45 9 (Int32.ofInt (0))) (xR h1 45 0) ((xI h1 45 6)).toNatClampNeg) < (Int32.ofInt (48))
        · have e_0 : (Int32.ofInt (0)).toInt = 0 := rfl
          have e_48 : (Int32.ofInt (48)).toInt = 48 := rfl
          have c27r := c27
          rw [vref g1.1.1 (rfl : vRf 45 0 = [46])] at c27r
          have dc27 : (xI h1 46 ((xI h1 45 6)).toNatClampNeg).toInt < (Int32.ofInt (48)).toInt := Int32.lt_iff_toInt_lt.mp c27r
          have t28 : XT l 6 197 false 19 153 6051 52 [xf 7 45, xun] [] h1 133 [xf 7 45, xi (xI (xsetI (xsetI h1 45 8 (xI h1 45 6)) 45 9 (Int32.ofInt (0))) (xR h1 45 0) ((xI h1 45 6)).toNatClampNeg)] [xi (xI (xsetI (xsetI h1 45 8 (xI h1 45 6)) 45 9 (Int32.ofInt (0))) (xR h1 45 0) ((xI h1 45 6)).toNatClampNeg), xf 7 45, xf 7 45] (xsetI (xsetI (xsetI h1 45 8 (xI h1 45 6)) 45 9 (Int32.ofInt (0))) 45 6 ((xI h1 45 6) + (Int32.ofInt (1)))) := XT_path (l := l) (fr := 6) (lo := 197) (full := false) (M := 19) (n := 153) (u := 6051) (pc := 52) (L := [xf 7 45, xun]) (st := []) (h := h1) (inl := [20, 34]) (n' := 90) (sp := [133]) (o := [1, 0, 1, 1, 1, 1]) rfl rfl ⟨rfl, rfl, rfl⟩ rfl ⟨Nat.le_of_eq g1.1.2.2.2.1, Nat.le_of_eq g1.1.2.2.2.2⟩ ⟨⟨⟨⟨⟨⟨⟨⟨⟨⟨trivial, c1⟩, (vnn g1.1.1 (rfl : vRf 45 0 = [46]) (by decide))⟩, (vp_of (i := (xI h1 45 6)) (n := 700) (by omega) (by omega))⟩, c2⟩, c26⟩, (Or.inl rfl)⟩, rfl⟩, c27⟩, (Or.inl rfl)⟩, rfl⟩
          rw [vref g1.1.1 (rfl : vRf 45 0 = [46])] at t28
          have t29 : XT l 6 197 false 19 153 6051 52 [xf 7 45, xun] [] h1 133 [xf 7 45, xi (xI h1 46 ((xI h1 45 6)).toNatClampNeg)] [xi (xI h1 46 ((xI h1 45 6)).toNatClampNeg), xf 7 45, xf 7 45] (xsetI (xsetI (xsetI h1 45 8 (xI h1 45 6)) 45 9 (Int32.ofInt (0))) 45 6 ((xI h1 45 6) + (Int32.ofInt (1)))) := t28
          have t30 := tS.tr t29
          have np : (xI h1 45 6).toNatClampNeg = q := by
            show (xI h1 45 6).toInt.toNat = q
            omega
          have eb := r1.2 q (by omega)
          rw [← np] at eb
          have lw : (97 ≤ b q ∧ b q ≤ 122) = (97 ≤ (xI h1 46 (xI h1 45 6).toNatClampNeg).toInt ∧ (xI h1 46 (xI h1 45 6).toNatClampNeg).toInt ≤ 122) := by rw [← np, ← eb]; exact sby_in (by decide) (by decide)
          have dw : (48 ≤ b q ∧ b q ≤ 57) = (48 ≤ (xI h1 46 (xI h1 45 6).toNatClampNeg).toInt ∧ (xI h1 46 (xI h1 45 6).toNatClampNeg).toInt ≤ 57) := by rw [← np, ← eb]; exact sby_in (by decide) (by decide)
          have nl : ¬ (97 ≤ b q ∧ b q ≤ 122) := by rw [lw]; omega
          have nd : ¬ (48 ≤ b q ∧ b q ≤ 57) := by rw [dw]; omega
          have ei : (((xI h1 45 6) + (Int32.ofInt (1)))).toInt = (xI h1 45 6).toInt + 1 := y_suc1 (by omega) (by omega)
          have g4 : vG ([(45, 6, false), (45, 7, false), (45, 8, false), (45, 9, false)], []) h (xsetI (xsetI (xsetI h1 45 8 (xI h1 45 6)) 45 9 (Int32.ofInt (0))) 45 6 ((xI h1 45 6) + (Int32.ofInt (1)))) := g3.set (c := 45) (k := 6) (v := ((xI h1 45 6) + (Int32.ofInt (1)))) (show (0 : Int) ≤ _ ∧ _ ≤ 700 from ⟨by omega, by omega⟩) (by decide +kernel) (by decide +kernel) rfl
          have r4 : kR b n (xsetI (xsetI (xsetI h1 45 8 (xI h1 45 6)) 45 9 (Int32.ofInt (0))) 45 6 ((xI h1 45 6) + (Int32.ofInt (1)))) := r3.fr (yI_ne (by decide)) (fun k => yI_c (by decide))
          obtain ⟨w5, h5, c5, g5, a7, a6, w50, w51⟩ := vk_sign l b n q (xI h1 46 (xI h1 45 6).toNatClampNeg) (xsetI (xsetI (xsetI h1 45 8 (xI h1 45 6)) 45 9 (Int32.ofInt (0))) 45 6 ((xI h1 45 6) + (Int32.ofInt (1)))) g4.1 r4 hn7 (by rw [yI_same]; omega) (by rw [np] at eb ⊢; exact eb)
          have t31 : XT l 6 197 false 19 153 6051 133 [xf 7 45, xi (xI h1 46 ((xI h1 45 6)).toNatClampNeg)] [xi (xI h1 46 ((xI h1 45 6)).toNatClampNeg), xf 7 45, xf 7 45] (xsetI (xsetI (xsetI h1 45 8 (xI h1 45 6)) 45 9 (Int32.ofInt (0))) 45 6 ((xI h1 45 6) + (Int32.ofInt (1)))) 136 [xf 7 45, xi (xI h1 46 ((xI h1 45 6)).toNatClampNeg)] [xi w5, xf 7 45] h5 := XT_call (l := l) (fr := 6) (lo := 197) (full := false) (M := 19) (n := 153) (u := 6051) (pc := 133) (L := [xf 7 45, xi (xI h1 46 ((xI h1 45 6)).toNatClampNeg)]) (st := [xi (xI h1 46 ((xI h1 45 6)).toNatClampNeg), xf 7 45, xf 7 45]) (h := (xsetI (xsetI (xsetI h1 45 8 (xI h1 45 6)) 45 9 (Int32.ofInt (0))) 45 6 ((xI h1 45 6) + (Int32.ofInt (1))))) (i := .invokevirtual 36) (aux := 2) (nx := 136) (K := 36) (vs := [xf 7 45, xi (xI h1 46 ((xI h1 45 6)).toNatClampNeg)]) (rs := [xi w5]) (rest := [xf 7 45]) rfl rfl rfl rfl rfl rfl c5 (by decide) (by decide) (Nat.le_of_ble_eq_true rfl) ⟨Nat.le_of_eq g5.1.2.2.2.1, Nat.le_of_eq g5.1.2.2.2.2⟩
          have t32 := t30.tr t31
          have t33 : XT l 6 197 false 19 153 6051 136 [xf 7 45, xi (xI h1 46 ((xI h1 45 6)).toNatClampNeg)] [xi w5, xf 7 45] h5 139 [xf 7 45, xi (xI h1 46 ((xI h1 45 6)).toNatClampNeg)] [] (xsetI h5 45 7 w5) := XT_path (l := l) (fr := 6) (lo := 197) (full := false) (M := 19) (n := 153) (u := 6051) (pc := 136) (L := [xf 7 45, xi (xI h1 46 ((xI h1 45 6)).toNatClampNeg)]) (st := [xi w5, xf 7 45]) (h := h5) (inl := [20, 34]) (n' := 90) (sp := [139]) (o := []) rfl rfl ⟨rfl, rfl, rfl⟩ rfl ⟨Nat.le_of_eq g5.1.2.2.2.1, Nat.le_of_eq g5.1.2.2.2.2⟩ trivial
          have t34 := t32.tr t33
          have g6 : vG ([(45, 6, false), (45, 7, false), (45, 8, false), (45, 9, false)], []) h h5 := g4.tr ⟨g5.1, g5.2.mono rfl rfl⟩
          have g7 : vG ([(45, 6, false), (45, 7, false), (45, 8, false), (45, 9, false)], []) h (xsetI h5 45 7 w5) := g6.set (c := 45) (k := 7) (v := w5) (show (0 : Int) ≤ _ ∧ _ ≤ 39 from ⟨by omega, by omega⟩) (by decide +kernel) (by decide +kernel) rfl
          have es : sTk b n q = ((sSg b n q).1, 0, (sSg b n q).2) := (if_neg (by omega)).trans ((if_neg nl).trans (if_neg nd))
          exact ⟨_, CX_ofT (h' := (xsetI h5 45 7 w5)) (by decide) rfl rfl trivial ⟨_, _, _, rfl, rfl, rfl⟩ rfl ⟨Nat.le_of_eq g5.1.2.2.2.1.symm, Nat.le_of_eq g5.1.2.2.2.2.symm⟩ t34, g7, by rw [yI_ne (by decide), g5.2.1 45 8 rfl, yI_ne (by decide)]; exact q3, by rw [yI_same, es]; exact a7, by rw [yI_ne (by decide), g5.2.1 45 9 rfl, yI_ne (by decide), es]; exact v3, by rw [yI_ne (by decide), es]; exact a6⟩
        · have e_0 : (Int32.ofInt (0)).toInt = 0 := rfl
          have e_48 : (Int32.ofInt (48)).toInt = 48 := rfl
          have c27r := c27
          rw [vref g1.1.1 (rfl : vRf 45 0 = [46])] at c27r
          have dc27 : (Int32.ofInt (48)).toInt ≤ (xI h1 46 ((xI h1 45 6)).toNatClampNeg).toInt := Int32.le_iff_toInt_le.mp (Int32.not_lt.mp c27r)
          by_cases c35 : (Int32.ofInt (57)) < (xI (xsetI (xsetI h1 45 8 (xI h1 45 6)) 45 9 (Int32.ofInt (0))) (xR h1 45 0) ((xI h1 45 6)).toNatClampNeg)
          · have e_0 : (Int32.ofInt (0)).toInt = 0 := rfl
            have e_57 : (Int32.ofInt (57)).toInt = 57 := rfl
            have c35r := c35
            rw [vref g1.1.1 (rfl : vRf 45 0 = [46])] at c35r
            have dc35 : (Int32.ofInt (57)).toInt < (xI h1 46 ((xI h1 45 6)).toNatClampNeg).toInt := Int32.lt_iff_toInt_lt.mp c35r
            have t36 : XT l 6 197 false 19 153 6051 52 [xf 7 45, xun] [] h1 133 [xf 7 45, xi (xI (xsetI (xsetI h1 45 8 (xI h1 45 6)) 45 9 (Int32.ofInt (0))) (xR h1 45 0) ((xI h1 45 6)).toNatClampNeg)] [xi (xI (xsetI (xsetI h1 45 8 (xI h1 45 6)) 45 9 (Int32.ofInt (0))) (xR h1 45 0) ((xI h1 45 6)).toNatClampNeg), xf 7 45, xf 7 45] (xsetI (xsetI (xsetI h1 45 8 (xI h1 45 6)) 45 9 (Int32.ofInt (0))) 45 6 ((xI h1 45 6) + (Int32.ofInt (1)))) := XT_path (l := l) (fr := 6) (lo := 197) (full := false) (M := 19) (n := 153) (u := 6051) (pc := 52) (L := [xf 7 45, xun]) (st := []) (h := h1) (inl := [20, 34]) (n' := 90) (sp := [133]) (o := [1, 0, 1, 1, 0, 1, 1]) rfl rfl ⟨rfl, rfl, rfl⟩ rfl ⟨Nat.le_of_eq g1.1.2.2.2.1, Nat.le_of_eq g1.1.2.2.2.2⟩ ⟨⟨⟨⟨⟨⟨⟨⟨⟨⟨⟨trivial, c1⟩, (vnn g1.1.1 (rfl : vRf 45 0 = [46]) (by decide))⟩, (vp_of (i := (xI h1 45 6)) (n := 700) (by omega) (by omega))⟩, c2⟩, c26⟩, (Or.inl rfl)⟩, rfl⟩, c27⟩, c35⟩, (Or.inl rfl)⟩, rfl⟩
            rw [vref g1.1.1 (rfl : vRf 45 0 = [46])] at t36
            have t37 : XT l 6 197 false 19 153 6051 52 [xf 7 45, xun] [] h1 133 [xf 7 45, xi (xI h1 46 ((xI h1 45 6)).toNatClampNeg)] [xi (xI h1 46 ((xI h1 45 6)).toNatClampNeg), xf 7 45, xf 7 45] (xsetI (xsetI (xsetI h1 45 8 (xI h1 45 6)) 45 9 (Int32.ofInt (0))) 45 6 ((xI h1 45 6) + (Int32.ofInt (1)))) := t36
            have t38 := tS.tr t37
            have np : (xI h1 45 6).toNatClampNeg = q := by
              show (xI h1 45 6).toInt.toNat = q
              omega
            have eb := r1.2 q (by omega)
            rw [← np] at eb
            have lw : (97 ≤ b q ∧ b q ≤ 122) = (97 ≤ (xI h1 46 (xI h1 45 6).toNatClampNeg).toInt ∧ (xI h1 46 (xI h1 45 6).toNatClampNeg).toInt ≤ 122) := by rw [← np, ← eb]; exact sby_in (by decide) (by decide)
            have dw : (48 ≤ b q ∧ b q ≤ 57) = (48 ≤ (xI h1 46 (xI h1 45 6).toNatClampNeg).toInt ∧ (xI h1 46 (xI h1 45 6).toNatClampNeg).toInt ≤ 57) := by rw [← np, ← eb]; exact sby_in (by decide) (by decide)
            have nl : ¬ (97 ≤ b q ∧ b q ≤ 122) := by rw [lw]; omega
            have nd : ¬ (48 ≤ b q ∧ b q ≤ 57) := by rw [dw]; omega
            have ei : (((xI h1 45 6) + (Int32.ofInt (1)))).toInt = (xI h1 45 6).toInt + 1 := y_suc1 (by omega) (by omega)
            have g4 : vG ([(45, 6, false), (45, 7, false), (45, 8, false), (45, 9, false)], []) h (xsetI (xsetI (xsetI h1 45 8 (xI h1 45 6)) 45 9 (Int32.ofInt (0))) 45 6 ((xI h1 45 6) + (Int32.ofInt (1)))) := g3.set (c := 45) (k := 6) (v := ((xI h1 45 6) + (Int32.ofInt (1)))) (show (0 : Int) ≤ _ ∧ _ ≤ 700 from ⟨by omega, by omega⟩) (by decide +kernel) (by decide +kernel) rfl
            have r4 : kR b n (xsetI (xsetI (xsetI h1 45 8 (xI h1 45 6)) 45 9 (Int32.ofInt (0))) 45 6 ((xI h1 45 6) + (Int32.ofInt (1)))) := r3.fr (yI_ne (by decide)) (fun k => yI_c (by decide))
            obtain ⟨w5, h5, c5, g5, a7, a6, w50, w51⟩ := vk_sign l b n q (xI h1 46 (xI h1 45 6).toNatClampNeg) (xsetI (xsetI (xsetI h1 45 8 (xI h1 45 6)) 45 9 (Int32.ofInt (0))) 45 6 ((xI h1 45 6) + (Int32.ofInt (1)))) g4.1 r4 hn7 (by rw [yI_same]; omega) (by rw [np] at eb ⊢; exact eb)
            have t39 : XT l 6 197 false 19 153 6051 133 [xf 7 45, xi (xI h1 46 ((xI h1 45 6)).toNatClampNeg)] [xi (xI h1 46 ((xI h1 45 6)).toNatClampNeg), xf 7 45, xf 7 45] (xsetI (xsetI (xsetI h1 45 8 (xI h1 45 6)) 45 9 (Int32.ofInt (0))) 45 6 ((xI h1 45 6) + (Int32.ofInt (1)))) 136 [xf 7 45, xi (xI h1 46 ((xI h1 45 6)).toNatClampNeg)] [xi w5, xf 7 45] h5 := XT_call (l := l) (fr := 6) (lo := 197) (full := false) (M := 19) (n := 153) (u := 6051) (pc := 133) (L := [xf 7 45, xi (xI h1 46 ((xI h1 45 6)).toNatClampNeg)]) (st := [xi (xI h1 46 ((xI h1 45 6)).toNatClampNeg), xf 7 45, xf 7 45]) (h := (xsetI (xsetI (xsetI h1 45 8 (xI h1 45 6)) 45 9 (Int32.ofInt (0))) 45 6 ((xI h1 45 6) + (Int32.ofInt (1))))) (i := .invokevirtual 36) (aux := 2) (nx := 136) (K := 36) (vs := [xf 7 45, xi (xI h1 46 ((xI h1 45 6)).toNatClampNeg)]) (rs := [xi w5]) (rest := [xf 7 45]) rfl rfl rfl rfl rfl rfl c5 (by decide) (by decide) (Nat.le_of_ble_eq_true rfl) ⟨Nat.le_of_eq g5.1.2.2.2.1, Nat.le_of_eq g5.1.2.2.2.2⟩
            have t40 := t38.tr t39
            have t41 : XT l 6 197 false 19 153 6051 136 [xf 7 45, xi (xI h1 46 ((xI h1 45 6)).toNatClampNeg)] [xi w5, xf 7 45] h5 139 [xf 7 45, xi (xI h1 46 ((xI h1 45 6)).toNatClampNeg)] [] (xsetI h5 45 7 w5) := XT_path (l := l) (fr := 6) (lo := 197) (full := false) (M := 19) (n := 153) (u := 6051) (pc := 136) (L := [xf 7 45, xi (xI h1 46 ((xI h1 45 6)).toNatClampNeg)]) (st := [xi w5, xf 7 45]) (h := h5) (inl := [20, 34]) (n' := 90) (sp := [139]) (o := []) rfl rfl ⟨rfl, rfl, rfl⟩ rfl ⟨Nat.le_of_eq g5.1.2.2.2.1, Nat.le_of_eq g5.1.2.2.2.2⟩ trivial
            have t42 := t40.tr t41
            have g6 : vG ([(45, 6, false), (45, 7, false), (45, 8, false), (45, 9, false)], []) h h5 := g4.tr ⟨g5.1, g5.2.mono rfl rfl⟩
            have g7 : vG ([(45, 6, false), (45, 7, false), (45, 8, false), (45, 9, false)], []) h (xsetI h5 45 7 w5) := g6.set (c := 45) (k := 7) (v := w5) (show (0 : Int) ≤ _ ∧ _ ≤ 39 from ⟨by omega, by omega⟩) (by decide +kernel) (by decide +kernel) rfl
            have es : sTk b n q = ((sSg b n q).1, 0, (sSg b n q).2) := (if_neg (by omega)).trans ((if_neg nl).trans (if_neg nd))
            exact ⟨_, CX_ofT (h' := (xsetI h5 45 7 w5)) (by decide) rfl rfl trivial ⟨_, _, _, rfl, rfl, rfl⟩ rfl ⟨Nat.le_of_eq g5.1.2.2.2.1.symm, Nat.le_of_eq g5.1.2.2.2.2.symm⟩ t42, g7, by rw [yI_ne (by decide), g5.2.1 45 8 rfl, yI_ne (by decide)]; exact q3, by rw [yI_same, es]; exact a7, by rw [yI_ne (by decide), g5.2.1 45 9 rfl, yI_ne (by decide), es]; exact v3, by rw [yI_ne (by decide), es]; exact a6⟩
          · have e_0 : (Int32.ofInt (0)).toInt = 0 := rfl
            have e_57 : (Int32.ofInt (57)).toInt = 57 := rfl
            have c35r := c35
            rw [vref g1.1.1 (rfl : vRf 45 0 = [46])] at c35r
            have dc35 : (xI h1 46 ((xI h1 45 6)).toNatClampNeg).toInt ≤ (Int32.ofInt (57)).toInt := Int32.le_iff_toInt_le.mp (Int32.not_lt.mp c35r)
            have t43 : XT l 6 197 false 19 153 6051 52 [xf 7 45, xun] [] h1 114 [xf 7 45, xi (xI (xsetI (xsetI h1 45 8 (xI h1 45 6)) 45 9 (Int32.ofInt (0))) (xR h1 45 0) ((xI h1 45 6)).toNatClampNeg)] [xf 7 45] (xsetI (xsetI h1 45 8 (xI h1 45 6)) 45 9 (Int32.ofInt (0))) := XT_path (l := l) (fr := 6) (lo := 197) (full := false) (M := 19) (n := 153) (u := 6051) (pc := 52) (L := [xf 7 45, xun]) (st := []) (h := h1) (inl := [20, 34]) (n' := 90) (sp := [114]) (o := [1, 0, 1, 1, 0, 0, 0]) rfl rfl ⟨rfl, rfl, rfl⟩ rfl ⟨Nat.le_of_eq g1.1.2.2.2.1, Nat.le_of_eq g1.1.2.2.2.2⟩ ⟨⟨⟨⟨⟨⟨⟨⟨⟨⟨⟨trivial, c1⟩, (vnn g1.1.1 (rfl : vRf 45 0 = [46]) (by decide))⟩, (vp_of (i := (xI h1 45 6)) (n := 700) (by omega) (by omega))⟩, c2⟩, c26⟩, (Or.inl rfl)⟩, rfl⟩, c27⟩, c35⟩, (Or.inr rfl)⟩, (by decide)⟩
            rw [vref g1.1.1 (rfl : vRf 45 0 = [46])] at t43
            have t44 : XT l 6 197 false 19 153 6051 52 [xf 7 45, xun] [] h1 114 [xf 7 45, xi (xI h1 46 ((xI h1 45 6)).toNatClampNeg)] [xf 7 45] (xsetI (xsetI h1 45 8 (xI h1 45 6)) 45 9 (Int32.ofInt (0))) := t43
            have t45 := tS.tr t44
            have np : (xI h1 45 6).toNatClampNeg = q := by
              show (xI h1 45 6).toInt.toNat = q
              omega
            have eb := r1.2 q (by omega)
            rw [← np] at eb
            have lw : (97 ≤ b q ∧ b q ≤ 122) = (97 ≤ (xI h1 46 (xI h1 45 6).toNatClampNeg).toInt ∧ (xI h1 46 (xI h1 45 6).toNatClampNeg).toInt ≤ 122) := by rw [← np, ← eb]; exact sby_in (by decide) (by decide)
            have dw : (48 ≤ b q ∧ b q ≤ 57) = (48 ≤ (xI h1 46 (xI h1 45 6).toNatClampNeg).toInt ∧ (xI h1 46 (xI h1 45 6).toNatClampNeg).toInt ≤ 57) := by rw [← np, ← eb]; exact sby_in (by decide) (by decide)
            have nl : ¬ (97 ≤ b q ∧ b q ≤ 122) := by rw [lw]; omega
            have yd : 48 ≤ b q ∧ b q ≤ 57 := by rw [dw]; omega
            obtain ⟨h4, c4, g4, a6, a7, a9⟩ := vk_dig l b n q (xsetI (xsetI h1 45 8 (xI h1 45 6)) 45 9 (Int32.ofInt (0))) g3.1 r3 hn7 (by omega) p3
            have t46 : XT l 6 197 false 19 153 6051 114 [xf 7 45, xi (xI h1 46 ((xI h1 45 6)).toNatClampNeg)] [xf 7 45] (xsetI (xsetI h1 45 8 (xI h1 45 6)) 45 9 (Int32.ofInt (0))) 117 [xf 7 45, xi (xI h1 46 ((xI h1 45 6)).toNatClampNeg)] [] h4 := XT_call (l := l) (fr := 6) (lo := 197) (full := false) (M := 19) (n := 153) (u := 6051) (pc := 114) (L := [xf 7 45, xi (xI h1 46 ((xI h1 45 6)).toNatClampNeg)]) (st := [xf 7 45]) (h := (xsetI (xsetI h1 45 8 (xI h1 45 6)) 45 9 (Int32.ofInt (0)))) (i := .invokevirtual 35) (aux := 1) (nx := 117) (K := 35) (vs := [xf 7 45]) (rs := []) (rest := []) rfl rfl rfl rfl rfl rfl c4 (by decide) (by decide) (Nat.le_of_ble_eq_true rfl) ⟨Nat.le_of_eq g4.1.2.2.2.1, Nat.le_of_eq g4.1.2.2.2.2⟩
            have t47 := t45.tr t46
            have t48 : XT l 6 197 false 19 153 6051 117 [xf 7 45, xi (xI h1 46 ((xI h1 45 6)).toNatClampNeg)] [] h4 139 [xf 7 45, xi (xI h1 46 ((xI h1 45 6)).toNatClampNeg)] [] h4 := XT_path (l := l) (fr := 6) (lo := 197) (full := false) (M := 19) (n := 153) (u := 6051) (pc := 117) (L := [xf 7 45, xi (xI h1 46 ((xI h1 45 6)).toNatClampNeg)]) (st := []) (h := h4) (inl := [20, 34]) (n' := 90) (sp := [139]) (o := []) rfl rfl ⟨rfl, rfl, rfl⟩ rfl ⟨Nat.le_of_eq g4.1.2.2.2.1, Nat.le_of_eq g4.1.2.2.2.2⟩ trivial
            have t49 := t47.tr t48
            have g5 : vG ([(45, 6, false), (45, 7, false), (45, 8, false), (45, 9, false)], []) (xsetI (xsetI h1 45 8 (xI h1 45 6)) 45 9 (Int32.ofInt (0))) h4 := ⟨g4.1, g4.2.mono rfl rfl⟩
            have es : sTk b n q = (2, sNm b q (sDr b (n - q) q - q), sDr b (n - q) q) := (if_neg (by omega)).trans ((if_neg nl).trans (if_pos yd))
            exact ⟨_, CX_ofT (h' := h4) (by decide) rfl rfl trivial ⟨_, _, _, rfl, rfl, rfl⟩ rfl ⟨Nat.le_of_eq g4.1.2.2.2.1.symm, Nat.le_of_eq g4.1.2.2.2.2.symm⟩ t49, g3.tr g5, by rw [g4.2.1 45 8 rfl]; exact q3, by rw [es]; exact a7, by rw [es]; exact a9, by rw [es]; exact a6⟩
      · have e_0 : (Int32.ofInt (0)).toInt = 0 := rfl
        have e_122 : (Int32.ofInt (122)).toInt = 122 := rfl
        have c26r := c26
        rw [vref g1.1.1 (rfl : vRf 45 0 = [46])] at c26r
        have dc26 : (xI h1 46 ((xI h1 45 6)).toNatClampNeg).toInt ≤ (Int32.ofInt (122)).toInt := Int32.le_iff_toInt_le.mp (Int32.not_lt.mp c26r)
        have t50 : XT l 6 197 false 19 153 6051 52 [xf 7 45, xun] [] h1 100 [xf 7 45, xi (xI (xsetI (xsetI h1 45 8 (xI h1 45 6)) 45 9 (Int32.ofInt (0))) (xR h1 45 0) ((xI h1 45 6)).toNatClampNeg)] [xf 7 45] (xsetI (xsetI h1 45 8 (xI h1 45 6)) 45 9 (Int32.ofInt (0))) := XT_path (l := l) (fr := 6) (lo := 197) (full := false) (M := 19) (n := 153) (u := 6051) (pc := 52) (L := [xf 7 45, xun]) (st := []) (h := h1) (inl := [20, 34]) (n' := 90) (sp := [100]) (o := [1, 0, 0, 0]) rfl rfl ⟨rfl, rfl, rfl⟩ rfl ⟨Nat.le_of_eq g1.1.2.2.2.1, Nat.le_of_eq g1.1.2.2.2.2⟩ ⟨⟨⟨⟨⟨⟨⟨trivial, c1⟩, (vnn g1.1.1 (rfl : vRf 45 0 = [46]) (by decide))⟩, (vp_of (i := (xI h1 45 6)) (n := 700) (by omega) (by omega))⟩, c2⟩, c26⟩, (Or.inr rfl)⟩, (by decide)⟩
        rw [vref g1.1.1 (rfl : vRf 45 0 = [46])] at t50
        have t51 : XT l 6 197 false 19 153 6051 52 [xf 7 45, xun] [] h1 100 [xf 7 45, xi (xI h1 46 ((xI h1 45 6)).toNatClampNeg)] [xf 7 45] (xsetI (xsetI h1 45 8 (xI h1 45 6)) 45 9 (Int32.ofInt (0))) := t50
        have t52 := tS.tr t51
        have np : (xI h1 45 6).toNatClampNeg = q := by
          show (xI h1 45 6).toInt.toNat = q
          omega
        have eb := r1.2 q (by omega)
        rw [← np] at eb
        have lw : (97 ≤ b q ∧ b q ≤ 122) = (97 ≤ (xI h1 46 (xI h1 45 6).toNatClampNeg).toInt ∧ (xI h1 46 (xI h1 45 6).toNatClampNeg).toInt ≤ 122) := by rw [← np, ← eb]; exact sby_in (by decide) (by decide)
        have dw : (48 ≤ b q ∧ b q ≤ 57) = (48 ≤ (xI h1 46 (xI h1 45 6).toNatClampNeg).toInt ∧ (xI h1 46 (xI h1 45 6).toNatClampNeg).toInt ≤ 57) := by rw [← np, ← eb]; exact sby_in (by decide) (by decide)
        have yl : 97 ≤ b q ∧ b q ≤ 122 := by rw [lw]; omega
        obtain ⟨h4, c4, g4, a6, a7, a9⟩ := vk_word l b n q (xsetI (xsetI h1 45 8 (xI h1 45 6)) 45 9 (Int32.ofInt (0))) g3.1 r3 hn7 (by omega) p3 q3
        have t53 : XT l 6 197 false 19 153 6051 100 [xf 7 45, xi (xI h1 46 ((xI h1 45 6)).toNatClampNeg)] [xf 7 45] (xsetI (xsetI h1 45 8 (xI h1 45 6)) 45 9 (Int32.ofInt (0))) 103 [xf 7 45, xi (xI h1 46 ((xI h1 45 6)).toNatClampNeg)] [] h4 := XT_call (l := l) (fr := 6) (lo := 197) (full := false) (M := 19) (n := 153) (u := 6051) (pc := 100) (L := [xf 7 45, xi (xI h1 46 ((xI h1 45 6)).toNatClampNeg)]) (st := [xf 7 45]) (h := (xsetI (xsetI h1 45 8 (xI h1 45 6)) 45 9 (Int32.ofInt (0)))) (i := .invokevirtual 21) (aux := 1) (nx := 103) (K := 21) (vs := [xf 7 45]) (rs := []) (rest := []) rfl rfl rfl rfl rfl rfl c4 (by decide) (by decide) (Nat.le_of_ble_eq_true rfl) ⟨Nat.le_of_eq g4.1.2.2.2.1, Nat.le_of_eq g4.1.2.2.2.2⟩
        have t54 := t52.tr t53
        have t55 : XT l 6 197 false 19 153 6051 103 [xf 7 45, xi (xI h1 46 ((xI h1 45 6)).toNatClampNeg)] [] h4 139 [xf 7 45, xi (xI h1 46 ((xI h1 45 6)).toNatClampNeg)] [] h4 := XT_path (l := l) (fr := 6) (lo := 197) (full := false) (M := 19) (n := 153) (u := 6051) (pc := 103) (L := [xf 7 45, xi (xI h1 46 ((xI h1 45 6)).toNatClampNeg)]) (st := []) (h := h4) (inl := [20, 34]) (n' := 90) (sp := [139]) (o := []) rfl rfl ⟨rfl, rfl, rfl⟩ rfl ⟨Nat.le_of_eq g4.1.2.2.2.1, Nat.le_of_eq g4.1.2.2.2.2⟩ trivial
        have t56 := t54.tr t55
        have g5 : vG ([(45, 6, false), (45, 7, false), (45, 8, false), (45, 9, false)], []) (xsetI (xsetI h1 45 8 (xI h1 45 6)) 45 9 (Int32.ofInt (0))) h4 := ⟨g4.1, g4.2.mono rfl rfl⟩
        have es : sTk b n q = (if 6 < sLr b (n - q) q - q then 1 else sWord (sPk b q (sLr b (n - q) q - q)), (sPk b q (sLr b (n - q) q - q)).toInt, sLr b (n - q) q) := (if_neg (by omega)).trans (if_pos yl)
        exact ⟨_, CX_ofT (h' := h4) (by decide) rfl rfl trivial ⟨_, _, _, rfl, rfl, rfl⟩ rfl ⟨Nat.le_of_eq g4.1.2.2.2.1.symm, Nat.le_of_eq g4.1.2.2.2.2.symm⟩ t56, g3.tr g5, by rw [g4.2.1 45 8 rfl]; exact q3, by rw [es]; exact a7, by rw [es, a9], by rw [es]; exact a6⟩
  · have dc1 : (xI h1 45 5).toInt ≤ (xI h1 45 6).toInt := Int32.le_iff_toInt_le.mp (Int32.not_lt.mp c1)
    have t57 : XT l 6 197 false 19 153 6051 52 [xf 7 45, xun] [] h1 81 [xf 7 45, xun] [] (xsetI (xsetI (xsetI h1 45 8 (xI h1 45 6)) 45 9 (Int32.ofInt (0))) 45 7 (Int32.ofInt (0))) := XT_path (l := l) (fr := 6) (lo := 197) (full := false) (M := 19) (n := 153) (u := 6051) (pc := 52) (L := [xf 7 45, xun]) (st := []) (h := h1) (inl := [20, 34]) (n' := 90) (sp := [81]) (o := [0]) rfl rfl ⟨rfl, rfl, rfl⟩ rfl ⟨Nat.le_of_eq g1.1.2.2.2.1, Nat.le_of_eq g1.1.2.2.2.2⟩ ⟨trivial, c1⟩
    have t58 := tS.tr t57
    have g4 : vG ([(45, 6, false), (45, 7, false), (45, 8, false), (45, 9, false)], []) h (xsetI (xsetI (xsetI h1 45 8 (xI h1 45 6)) 45 9 (Int32.ofInt (0))) 45 7 (Int32.ofInt (0))) := g3.set (c := 45) (k := 7) (v := (Int32.ofInt (0))) (show (0 : Int) ≤ _ ∧ _ ≤ 39 from by decide) (by decide +kernel) (by decide +kernel) rfl
    have es : sTk b n q = (0, 0, q) := if_pos (by omega)
    exact ⟨_, CX_ofT (h' := (xsetI (xsetI (xsetI h1 45 8 (xI h1 45 6)) 45 9 (Int32.ofInt (0))) 45 7 (Int32.ofInt (0)))) (by decide) rfl rfl trivial ⟨_, _, _, rfl, rfl, rfl⟩ rfl ⟨Nat.le_of_eq g1.1.2.2.2.1.symm, Nat.le_of_eq g1.1.2.2.2.2.symm⟩ t58, g4, by rw [yI_ne (by decide)]; exact q3, by rw [yI_same, es]; rfl, by rw [yI_ne (by decide), es]; exact v3, by rw [yI_ne (by decide), es]; exact p3⟩
