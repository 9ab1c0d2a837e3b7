/-! THE MODEL TAKES TOKENS. -/
/-- a fact that omega doesn't look at -/
def vHid (p : Prop) : Prop := p
theorem vHid.out {p : Prop} (h : vHid p) : p := h
theorem sj_no {W : SWl} {c k : Nat} (h : ∀ q ∈ W, ¬ (q.1 = c ∧ (q.2.2 = true ∨ q.2.1 = k))) : swj W c k = false := swj_no (sw_no h)
set_option maxRecDepth 100000 in
set_option maxHeartbeats 2000000 in
theorem mk_tokI (l : Launch) (b : Nat → Int) (n p : Nat) (h : XH) (hg : mI h) (rr : mR b n h) (hn7 : n ≤ 700) (hpn : p ≤ n) (hp : (xI h 104 7).toInt = p) : ∃ h', CX l 1 27 false 180 [xf 13 104] h [] h' ∧ mT ([(104, 7, false), (104, 8, false), (104, 9, false), (104, 10, false)], []) h h' ∧ (xI h' 104 10).toInt = sSk b (n - p) p ∧ (xI h' 104 7).toInt = (sTk b n (sSk b (n - p) p)).2.2 ∧ sKw (sTk b n (sSk b (n - p) p)).1 (sTk b n (sSk b (n - p) p)).2.1 (xI h' 104 8).toInt (xI h' 104 9).toInt := by
  obtain ⟨h1, tS, g1, e1⟩ := mk_skip l b n (n - p) p h hg rr hn7 hp (by omega)
  have sb := sSk_b b (n - p) p
  obtain ⟨q, eq⟩ : ∃ z, z = sSk b (n - p) p := ⟨_, rfl⟩
  rw [← eq] at e1 sb ⊢
  have tb := sTk_b (b := b) (n := n) (q := q) (by omega)
  have g1w : mT ([(104, 7, false), (104, 8, false), (104, 9, false), (104, 10, false)], []) h h1 := ⟨g1.1, g1.2.mono rfl rfl⟩
  have r1 := rr.w g1.2 rfl (fun _ => rfl)
  have r15 := r1.1
  have g2 : mT ([(104, 7, false), (104, 8, false), (104, 9, false), (104, 10, false)], []) h (xsetI h1 104 10 (xI h1 104 7)) := g1w.set (c := 104) (k := 10) (v := (xI h1 104 7)) (show (0 : Int) ≤ _ ∧ _ ≤ 700 from ⟨by omega, by omega⟩) rfl
  have r2 : mR b n (xsetI h1 104 10 (xI h1 104 7)) := r1.fr (yI_ne (by decide)) (fun k => yI_c (by decide))
  have p2 : (xI (xsetI h1 104 10 (xI h1 104 7)) 104 7).toInt = q := by rw [yI_ne (by decide)]; exact e1
  have s2 : (xI (xsetI h1 104 10 (xI h1 104 7)) 104 6).toInt = n := r2.1
  have q2 : (xI (xsetI h1 104 10 (xI h1 104 7)) 104 10).toInt = q := by rw [yI_same]; exact e1
  have fin : ∀ h', CX l 1 27 false 180 [xf 13 104] h [] h' → mT ([(104, 7, false), (104, 8, false), (104, 9, false), (104, 10, false)], []) h h' → (xI h' 104 10).toInt = q → (xI h' 104 7).toInt = (sTk b n q).2.2 → sKw (sTk b n q).1 (sTk b n q).2.1 (xI h' 104 8).toInt (xI h' 104 9).toInt → ((xI h' 104 8).toInt = 1 → 0 ≤ (xI h' 104 9).toInt ∧ (xI h' 104 9).toInt ≤ 19) → ∃ h', CX l 1 27 false 180 [xf 13 104] h [] h' ∧ mT ([(104, 7, false), (104, 8, false), (104, 9, false), (104, 10, false)], []) h h' ∧ (xI h' 104 10).toInt = q ∧ (xI h' 104 7).toInt = (sTk b n q).2.2 ∧ sKw (sTk b n q).1 (sTk b n q).2.1 (xI h' 104 8).toInt (xI h' 104 9).toInt := fun h' c m a a7 k k1 => ⟨h', c, m, a, a7, k⟩
  by_cases c1 : (xI h1 104 7) = (xI h1 104 6)
  · have dc1 : (xI h1 104 7).toInt = (xI h1 104 6).toInt := congrArg Int32.toInt c1
    have t2 : XT l 1 27 false 180 153 6051 52 [xf 13 104] [] h1 281 [xf 13 104] [] (xsetI (xsetI h1 104 10 (xI h1 104 7)) 104 8 (Int32.ofInt (0))) := XT_path (l := l) (fr := 1) (lo := 27) (full := false) (M := 180) (n := 153) (u := 6051) (pc := 52) (L := [xf 13 104]) (st := []) (h := h1) (inl := [181, 184]) (n' := 120) (sp := [281]) (o := [0]) rfl rfl ⟨rfl, rfl, rfl⟩ rfl ⟨Nat.le_of_eq g1.1.2.2.2.1, Nat.le_of_eq g1.1.2.2.2.2⟩ ⟨trivial, c1⟩
    have t3 := tS.tr t2
    have g3 : mT ([(104, 7, false), (104, 8, false), (104, 9, false), (104, 10, false)], []) h (xsetI (xsetI h1 104 10 (xI h1 104 7)) 104 8 (Int32.ofInt (0))) := g2.set (c := 104) (k := 8) (v := (Int32.ofInt (0))) (show (0 : Int) ≤ _ ∧ _ ≤ 6 from by decide) rfl
    have es : sTk b n q = (0, 0, q) := if_pos (by omega)
    have k8 : (xI (xsetI (xsetI h1 104 10 (xI h1 104 7)) 104 8 (Int32.ofInt (0))) 104 8).toInt = 0 := by rw [yI_same]; rfl
    exact fin _ (CX_ofT (h' := (xsetI (xsetI h1 104 10 (xI h1 104 7)) 104 8 (Int32.ofInt (0)))) (by decide) rfl rfl trivial ⟨_, _, _, rfl, rfl, rfl⟩ rfl ⟨Nat.le_of_eq g1.1.2.2.2.1.symm, Nat.le_of_eq g1.1.2.2.2.2.symm⟩ t3) g3 (by rw [yI_ne (by decide)]; exact q2) (by rw [yI_ne (by decide), es]; exact p2) (by rw [es]; exact Or.inl ⟨rfl, k8⟩) (fun z => by omega)
  · have dc1 : ¬ (xI h1 104 7).toInt = (xI h1 104 6).toInt := fun z_ => c1 (Int32.toInt_inj.mp z_)
    by_cases c4 : (xI (xsetI h1 104 10 (xI h1 104 7)) (xR h1 104 0) ((xI h1 104 7)).toNatClampNeg) < (Int32.ofInt (97))
    · have e_97 : (Int32.ofInt (97)).toInt = 97 := rfl
      have c4r := c4
      rw [vref g1.1.1 (rfl : vRf 104 0 = [105])] at c4r
      have dc4 : (xI h1 105 ((xI h1 104 7)).toNatClampNeg).toInt < (Int32.ofInt (97)).toInt := Int32.lt_iff_toInt_lt.mp c4r
      by_cases c5 : (xI (xsetI h1 104 10 (xI h1 104 7)) (xR h1 104 0) ((xI h1 104 7)).toNatClampNeg) < (Int32.ofInt (48))
      · have e_48 : (Int32.ofInt (48)).toInt = 48 := rfl
        have c5r := c5
        rw [vref g1.1.1 (rfl : vRf 104 0 = [105])] at c5r
        have dc5 : (xI h1 105 ((xI h1 104 7)).toNatClampNeg).toInt < (Int32.ofInt (48)).toInt := Int32.lt_iff_toInt_lt.mp c5r
        have t6 : XT l 1 27 false 180 153 6051 52 [xf 13 104] [] h1 278 [xf 13 104] [xf 13 104] (xsetI h1 104 10 (xI h1 104 7)) := XT_path (l := l) (fr := 1) (lo := 27) (full := false) (M := 180) (n := 153) (u := 6051) (pc := 52) (L := [xf 13 104]) (st := []) (h := h1) (inl := [181, 184]) (n' := 120) (sp := [278]) (o := [1, 0, 1, 1, 0, 1, 1]) rfl rfl ⟨rfl, rfl, rfl⟩ rfl ⟨Nat.le_of_eq g1.1.2.2.2.1, Nat.le_of_eq g1.1.2.2.2.2⟩ ⟨⟨⟨⟨⟨⟨⟨⟨⟨⟨⟨⟨⟨trivial, c1⟩, (fun z => absurd (Int32.le_iff_toInt_le.mp z) (by omega))⟩, (vnn g1.1.1 (rfl : vRf 104 0 = [105]) (by decide))⟩, (vp_of (i := (xI h1 104 7)) (n := 700) (by omega) (by omega))⟩, c4⟩, (Or.inl rfl)⟩, rfl⟩, (fun z => absurd (Int32.le_iff_toInt_le.mp z) (by omega))⟩, (vnn g1.1.1 (rfl : vRf 104 0 = [105]) (by decide))⟩, (vp_of (i := (xI h1 104 7)) (n := 700) (by omega) (by omega))⟩, c5⟩, (Or.inl rfl)⟩, rfl⟩
        have t7 := tS.tr t6
        have np : (xI h1 104 7).toNatClampNeg = q := by
          show (xI h1 104 7).toInt.toNat = q
          omega
        have eb := r1.2 q (by omega)
        rw [← np] at eb
        have lw : (97 ≤ b q ∧ b q ≤ 122) = (97 ≤ (xI h1 105 (xI h1 104 7).toNatClampNeg).toInt ∧ (xI h1 105 (xI h1 104 7).toNatClampNeg).toInt ≤ 122) := by rw [← np, ← eb]; exact sby_in (by decide) (by decide)
        have dw : (48 ≤ b q ∧ b q ≤ 57) = (48 ≤ (xI h1 105 (xI h1 104 7).toNatClampNeg).toInt ∧ (xI h1 105 (xI h1 104 7).toNatClampNeg).toInt ≤ 57) := by rw [← np, ← eb]; exact sby_in (by decide) (by decide)
        have nl : ¬ (97 ≤ b q ∧ b q ≤ 122) := by rw [lw]; omega
        have nd : ¬ (48 ≤ b q ∧ b q ≤ 57) := by rw [dw]; omega
        obtain ⟨h5, c5, g5, e5, k5⟩ := mk_sign l b n q (xsetI h1 104 10 (xI h1 104 7)) g2.1 r2 hn7 (by omega) p2
        have es : sTk b n q = ((sSg b n q).1, 0, (sSg b n q).2) := (if_neg (by omega)).trans ((if_neg nl).trans (if_neg nd))
        have t8 : XT l 1 27 false 180 153 6051 278 [xf 13 104] [xf 13 104] (xsetI h1 104 10 (xI h1 104 7)) 281 [xf 13 104] [] h5 := XT_call (l := l) (fr := 1) (lo := 27) (full := false) (M := 180) (n := 153) (u := 6051) (pc := 278) (L := [xf 13 104]) (st := [xf 13 104]) (h := (xsetI h1 104 10 (xI h1 104 7))) (i := .invokevirtual 185) (aux := 1) (nx := 281) (K := 185) (vs := [xf 13 104]) (rs := []) (rest := []) rfl rfl rfl rfl rfl rfl c5 (by decide) (by decide) (Nat.le_of_ble_eq_true rfl) ⟨Nat.le_of_eq g5.1.2.2.2.1, Nat.le_of_eq g5.1.2.2.2.2⟩
        have t9 := t7.tr t8
        have g5w : mT ([(104, 7, false), (104, 8, false), (104, 9, false), (104, 10, false)], []) h h5 := g2.tr ⟨g5.1, g5.2.mono rfl rfl⟩
        exact fin _ (CX_ofT (h' := h5) (by decide) rfl rfl trivial ⟨_, _, _, rfl, rfl, rfl⟩ rfl ⟨Nat.le_of_eq g5.1.2.2.2.1.symm, Nat.le_of_eq g5.1.2.2.2.2.symm⟩ t9) g5w (by rw [g5.2.1 104 10 rfl]; exact q2) (by rw [es]; exact e5) (by rw [es]; exact k5) (fun z => by have zc := sSg_c b n q; unfold sKw at k5; omega)
      · have e_48 : (Int32.ofInt (48)).toInt = 48 := rfl
        have c5r := c5
        rw [vref g1.1.1 (rfl : vRf 104 0 = [105])] at c5r
        have dc5 : (Int32.ofInt (48)).toInt ≤ (xI h1 105 ((xI h1 104 7)).toNatClampNeg).toInt := Int32.le_iff_toInt_le.mp (Int32.not_lt.mp c5r)
        by_cases c10 : (Int32.ofInt (57)) < (xI (xsetI h1 104 10 (xI h1 104 7)) (xR h1 104 0) ((xI h1 104 7)).toNatClampNeg)
        · have e_57 : (Int32.ofInt (57)).toInt = 57 := rfl
          have c10r := c10
          rw [vref g1.1.1 (rfl : vRf 104 0 = [105])] at c10r
          have dc10 : (Int32.ofInt (57)).toInt < (xI h1 105 ((xI h1 104 7)).toNatClampNeg).toInt := Int32.lt_iff_toInt_lt.mp c10r
          have t11 : XT l 1 27 false 180 153 6051 52 [xf 13 104] [] h1 278 [xf 13 104] [xf 13 104] (xsetI h1 104 10 (xI h1 104 7)) := XT_path (l := l) (fr := 1) (lo := 27) (full := false) (M := 180) (n := 153) (u := 6051) (pc := 52) (L := [xf 13 104]) (st := []) (h := h1) (inl := [181, 184]) (n' := 120) (sp := [278]) (o := [1, 0, 1, 1, 0, 0, 1, 1]) rfl rfl ⟨rfl, rfl, rfl⟩ rfl ⟨Nat.le_of_eq g1.1.2.2.2.1, Nat.le_of_eq g1.1.2.2.2.2⟩ ⟨⟨⟨⟨⟨⟨⟨⟨⟨⟨⟨⟨⟨⟨⟨⟨trivial, c1⟩, (fun z => absurd (Int32.le_iff_toInt_le.mp z) (by omega))⟩, (vnn g1.1.1 (rfl : vRf 104 0 = [105]) (by decide))⟩, (vp_of (i := (xI h1 104 7)) (n := 700) (by omega) (by omega))⟩, c4⟩, (Or.inl rfl)⟩, rfl⟩, (fun z => absurd (Int32.le_iff_toInt_le.mp z) (by omega))⟩, (vnn g1.1.1 (rfl : vRf 104 0 = [105]) (by decide))⟩, (vp_of (i := (xI h1 104 7)) (n := 700) (by omega) (by omega))⟩, c5⟩, (vnn g1.1.1 (rfl : vRf 104 0 = [105]) (by decide))⟩, (vp_of (i := (xI h1 104 7)) (n := 700) (by omega) (by omega))⟩, c10⟩, (Or.inl rfl)⟩, rfl⟩
          have t12 := tS.tr t11
          have np : (xI h1 104 7).toNatClampNeg = q := by
            show (xI h1 104 7).toInt.toNat = q
            omega
          have eb := r1.2 q (by omega)
          rw [← np] at eb
          have lw : (97 ≤ b q ∧ b q ≤ 122) = (97 ≤ (xI h1 105 (xI h1 104 7).toNatClampNeg).toInt ∧ (xI h1 105 (xI h1 104 7).toNatClampNeg).toInt ≤ 122) := by rw [← np, ← eb]; exact sby_in (by decide) (by decide)
          have dw : (48 ≤ b q ∧ b q ≤ 57) = (48 ≤ (xI h1 105 (xI h1 104 7).toNatClampNeg).toInt ∧ (xI h1 105 (xI h1 104 7).toNatClampNeg).toInt ≤ 57) := by rw [← np, ← eb]; exact sby_in (by decide) (by decide)
          have nl : ¬ (97 ≤ b q ∧ b q ≤ 122) := by rw [lw]; omega
          have nd : ¬ (48 ≤ b q ∧ b q ≤ 57) := by rw [dw]; omega
          obtain ⟨h5, c5, g5, e5, k5⟩ := mk_sign l b n q (xsetI h1 104 10 (xI h1 104 7)) g2.1 r2 hn7 (by omega) p2
          have es : sTk b n q = ((sSg b n q).1, 0, (sSg b n q).2) := (if_neg (by omega)).trans ((if_neg nl).trans (if_neg nd))
          have t13 : XT l 1 27 false 180 153 6051 278 [xf 13 104] [xf 13 104] (xsetI h1 104 10 (xI h1 104 7)) 281 [xf 13 104] [] h5 := XT_call (l := l) (fr := 1) (lo := 27) (full := false) (M := 180) (n := 153) (u := 6051) (pc := 278) (L := [xf 13 104]) (st := [xf 13 104]) (h := (xsetI h1 104 10 (xI h1 104 7))) (i := .invokevirtual 185) (aux := 1) (nx := 281) (K := 185) (vs := [xf 13 104]) (rs := []) (rest := []) rfl rfl rfl rfl rfl rfl c5 (by decide) (by decide) (Nat.le_of_ble_eq_true rfl) ⟨Nat.le_of_eq g5.1.2.2.2.1, Nat.le_of_eq g5.1.2.2.2.2⟩
          have t14 := t12.tr t13
          have g5w : mT ([(104, 7, false), (104, 8, false), (104, 9, false), (104, 10, false)], []) h h5 := g2.tr ⟨g5.1, g5.2.mono rfl rfl⟩
          exact fin _ (CX_ofT (h' := h5) (by decide) rfl rfl trivial ⟨_, _, _, rfl, rfl, rfl⟩ rfl ⟨Nat.le_of_eq g5.1.2.2.2.1.symm, Nat.le_of_eq g5.1.2.2.2.2.symm⟩ t14) g5w (by rw [g5.2.1 104 10 rfl]; exact q2) (by rw [es]; exact e5) (by rw [es]; exact k5) (fun z => by have zc := sSg_c b n q; unfold sKw at k5; omega)
        · have e_57 : (Int32.ofInt (57)).toInt = 57 := rfl
          have c10r := c10
          rw [vref g1.1.1 (rfl : vRf 104 0 = [105])] at c10r
          have dc10 : (xI h1 105 ((xI h1 104 7)).toNatClampNeg).toInt ≤ (Int32.ofInt (57)).toInt := Int32.le_iff_toInt_le.mp (Int32.not_lt.mp c10r)
          have t15 : XT l 1 27 false 180 153 6051 52 [xf 13 104] [] h1 213 [xf 13 104] [] (xsetI (xsetI (xsetI h1 104 10 (xI h1 104 7)) 104 8 (Int32.ofInt (3))) 104 9 (Int32.ofInt (0))) := XT_path (l := l) (fr := 1) (lo := 27) (full := false) (M := 180) (n := 153) (u := 6051) (pc := 52) (L := [xf 13 104]) (st := []) (h := h1) (inl := [181, 184]) (n' := 120) (sp := [213]) (o := [1, 0, 1, 1, 0, 0, 0, 0]) rfl rfl ⟨rfl, rfl, rfl⟩ rfl ⟨Nat.le_of_eq g1.1.2.2.2.1, Nat.le_of_eq g1.1.2.2.2.2⟩ ⟨⟨⟨⟨⟨⟨⟨⟨⟨⟨⟨⟨⟨⟨⟨⟨trivial, c1⟩, (fun z => absurd (Int32.le_iff_toInt_le.mp z) (by omega))⟩, (vnn g1.1.1 (rfl : vRf 104 0 = [105]) (by decide))⟩, (vp_of (i := (xI h1 104 7)) (n := 700) (by omega) (by omega))⟩, c4⟩, (Or.inl rfl)⟩, rfl⟩, (fun z => absurd (Int32.le_iff_toInt_le.mp z) (by omega))⟩, (vnn g1.1.1 (rfl : vRf 104 0 = [105]) (by decide))⟩, (vp_of (i := (xI h1 104 7)) (n := 700) (by omega) (by omega))⟩, c5⟩, (vnn g1.1.1 (rfl : vRf 104 0 = [105]) (by decide))⟩, (vp_of (i := (xI h1 104 7)) (n := 700) (by omega) (by omega))⟩, c10⟩, (Or.inr rfl)⟩, (by decide)⟩
          have t16 := tS.tr t15
          have np : (xI h1 104 7).toNatClampNeg = q := by
            show (xI h1 104 7).toInt.toNat = q
            omega
          have eb := r1.2 q (by omega)
          rw [← np] at eb
          have lw : (97 ≤ b q ∧ b q ≤ 122) = (97 ≤ (xI h1 105 (xI h1 104 7).toNatClampNeg).toInt ∧ (xI h1 105 (xI h1 104 7).toNatClampNeg).toInt ≤ 122) := by rw [← np, ← eb]; exact sby_in (by decide) (by decide)
          have dw : (48 ≤ b q ∧ b q ≤ 57) = (48 ≤ (xI h1 105 (xI h1 104 7).toNatClampNeg).toInt ∧ (xI h1 105 (xI h1 104 7).toNatClampNeg).toInt ≤ 57) := by rw [← np, ← eb]; exact sby_in (by decide) (by decide)
          have nl : ¬ (97 ≤ b q ∧ b q ≤ 122) := by rw [lw]; omega
          have yd : 48 ≤ b q ∧ b q ≤ 57 := by rw [dw]; omega
          have g3 : mT ([(104, 7, false), (104, 8, false), (104, 9, false), (104, 10, false)], []) h (xsetI (xsetI h1 104 10 (xI h1 104 7)) 104 8 (Int32.ofInt (3))) := g2.set (c := 104) (k := 8) (v := (Int32.ofInt (3))) (show (0 : Int) ≤ _ ∧ _ ≤ 6 from by decide) rfl
          have g4 : mT ([(104, 7, false), (104, 8, false), (104, 9, false), (104, 10, false)], []) h (xsetI (xsetI (xsetI h1 104 10 (xI h1 104 7)) 104 8 (Int32.ofInt (3))) 104 9 (Int32.ofInt (0))) := g3.set (c := 104) (k := 9) (v := (Int32.ofInt (0))) (show (-2147483648 : Int) ≤ _ ∧ _ ≤ 2147483647 from i32r_of _) rfl
          have r4 : mR b n (xsetI (xsetI (xsetI h1 104 10 (xI h1 104 7)) 104 8 (Int32.ofInt (3))) 104 9 (Int32.ofInt (0))) := r2.fr (by rw [yI_ne (by decide), yI_ne (by decide)]) (fun k => by rw [yI_c (by decide), yI_c (by decide)])
          obtain ⟨h5, tl, g5, e5, d5⟩ := mk_digL l b n q (n - q) q (xsetI (xsetI (xsetI h1 104 10 (xI h1 104 7)) 104 8 (Int32.ofInt (3))) 104 9 (Int32.ofInt (0))) g4.1 r4 hn7 (by rw [yI_ne (by decide), yI_ne (by decide)]; exact p2) (Nat.le_refl _) (by omega) (by rw [yI_same, Nat.sub_self]; exact Or.inl ⟨rfl, by decide, by decide⟩)
          have es : sTk b n q = (2, sNm b q (sDr b (n - q) q - q), sDr b (n - q) q) := (if_neg (by omega)).trans ((if_neg nl).trans (if_pos yd))
          have g5w : mT ([(104, 7, false), (104, 8, false), (104, 9, false), (104, 10, false)], []) h h5 := g4.tr ⟨g5.1, g5.2.mono rfl rfl⟩
          have k8 : (xI h5 104 8).toInt = 3 := by rw [g5.2.1 104 8 rfl, yI_ne (by decide), yI_same]; rfl
          have t17 := t16.tr tl
          exact fin _ (CX_ofT (h' := h5) (by decide) rfl rfl trivial ⟨_, _, _, rfl, rfl, rfl⟩ rfl ⟨Nat.le_of_eq g5.1.2.2.2.1.symm, Nat.le_of_eq g5.1.2.2.2.2.symm⟩ t17) g5w (by rw [g5.2.1 104 10 rfl, yI_ne (by decide), yI_ne (by decide)]; exact q2) (by rw [es]; exact e5) (by rw [es]; exact Or.inr (Or.inr (Or.inl ⟨rfl, k8, d5.imp (fun z => ⟨z.1, z.2.2⟩) (fun z => ⟨z.1, z.2.1⟩)⟩))) (fun z => by omega)
    · have e_97 : (Int32.ofInt (97)).toInt = 97 := rfl
      have c4r := c4
      rw [vref g1.1.1 (rfl : vRf 104 0 = [105])] at c4r
      have dc4 : (Int32.ofInt (97)).toInt ≤ (xI h1 105 ((xI h1 104 7)).toNatClampNeg).toInt := Int32.le_iff_toInt_le.mp (Int32.not_lt.mp c4r)
      by_cases c18 : (Int32.ofInt (122)) < (xI (xsetI h1 104 10 (xI h1 104 7)) (xR h1 104 0) ((xI h1 104 7)).toNatClampNeg)
      · have e_122 : (Int32.ofInt (122)).toInt = 122 := rfl
        have c18r := c18
        rw [vref g1.1.1 (rfl : vRf 104 0 = [105])] at c18r
        have dc18 : (Int32.ofInt (122)).toInt < (xI h1 105 ((xI h1 104 7)).toNatClampNeg).toInt := Int32.lt_iff_toInt_lt.mp c18r
        by_cases c19 : (xI (xsetI h1 104 10 (xI h1 104 7)) (xR h1 104 0) ((xI h1 104 7)).toNatClampNeg) < (Int32.ofInt (48))
        · have e_48 : (Int32.ofInt (48)).toInt = 48 := rfl
          have c19r := c19
          rw [vref g1.1.1 (rfl : vRf 104 0 = [105])] at c19r
          have dc19 : (xI h1 105 ((xI h1 104 7)).toNatClampNeg).toInt < (Int32.ofInt (48)).toInt := Int32.lt_iff_toInt_lt.mp c19r
          have t20 : XT l 1 27 false 180 153 6051 52 [xf 13 104] [] h1 278 [xf 13 104] [xf 13 104] (xsetI h1 104 10 (xI h1 104 7)) := XT_path (l := l) (fr := 1) (lo := 27) (full := false) (M := 180) (n := 153) (u := 6051) (pc := 52) (L := [xf 13 104]) (st := []) (h := h1) (inl := [181, 184]) (n' := 120) (sp := [278]) (o := [1, 0, 0, 1, 1, 0, 1, 1]) rfl rfl ⟨rfl, rfl, rfl⟩ rfl ⟨Nat.le_of_eq g1.1.2.2.2.1, Nat.le_of_eq g1.1.2.2.2.2⟩ ⟨⟨⟨⟨⟨⟨⟨⟨⟨⟨⟨⟨⟨⟨⟨⟨trivial, c1⟩, (fun z => absurd (Int32.le_iff_toInt_le.mp z) (by omega))⟩, (vnn g1.1.1 (rfl : vRf 104 0 = [105]) (by decide))⟩, (vp_of (i := (xI h1 104 7)) (n := 700) (by omega) (by omega))⟩, c4⟩, (vnn g1.1.1 (rfl : vRf 104 0 = [105]) (by decide))⟩, (vp_of (i := (xI h1 104 7)) (n := 700) (by omega) (by omega))⟩, c18⟩, (Or.inl rfl)⟩, rfl⟩, (fun z => absurd (Int32.le_iff_toInt_le.mp z) (by omega))⟩, (vnn g1.1.1 (rfl : vRf 104 0 = [105]) (by decide))⟩, (vp_of (i := (xI h1 104 7)) (n := 700) (by omega) (by omega))⟩, c19⟩, (Or.inl rfl)⟩, rfl⟩
          have t21 := tS.tr t20
          have np : (xI h1 104 7).toNatClampNeg = q := by
            show (xI h1 104 7).toInt.toNat = q
            omega
          have eb := r1.2 q (by omega)
          rw [← np] at eb
          have lw : (97 ≤ b q ∧ b q ≤ 122) = (97 ≤ (xI h1 105 (xI h1 104 7).toNatClampNeg).toInt ∧ (xI h1 105 (xI h1 104 7).toNatClampNeg).toInt ≤ 122) := by rw [← np, ← eb]; exact sby_in (by decide) (by decide)
          have dw : (48 ≤ b q ∧ b q ≤ 57) = (48 ≤ (xI h1 105 (xI h1 104 7).toNatClampNeg).toInt ∧ (xI h1 105 (xI h1 104 7).toNatClampNeg).toInt ≤ 57) := by rw [← np, ← eb]; exact sby_in (by decide) (by decide)
          have nl : ¬ (97 ≤ b q ∧ b q ≤ 122) := by rw [lw]; omega
          have nd : ¬ (48 ≤ b q ∧ b q ≤ 57) := by rw [dw]; omega
          obtain ⟨h5, c5, g5, e5, k5⟩ := mk_sign l b n q (xsetI h1 104 10 (xI h1 104 7)) g2.1 r2 hn7 (by omega) p2
          have es : sTk b n q = ((sSg b n q).1, 0, (sSg b n q).2) := (if_neg (by omega)).trans ((if_neg nl).trans (if_neg nd))
          have t22 : XT l 1 27 false 180 153 6051 278 [xf 13 104] [xf 13 104] (xsetI h1 104 10 (xI h1 104 7)) 281 [xf 13 104] [] h5 := XT_call (l := l) (fr := 1) (lo := 27) (full := false) (M := 180) (n := 153) (u := 6051) (pc := 278) (L := [xf 13 104]) (st := [xf 13 104]) (h := (xsetI h1 104 10 (xI h1 104 7))) (i := .invokevirtual 185) (aux := 1) (nx := 281) (K := 185) (vs := [xf 13 104]) (rs := []) (rest := []) rfl rfl rfl rfl rfl rfl c5 (by decide) (by decide) (Nat.le_of_ble_eq_true rfl) ⟨Nat.le_of_eq g5.1.2.2.2.1, Nat.le_of_eq g5.1.2.2.2.2⟩
          have t23 := t21.tr t22
          have g5w : mT ([(104, 7, false), (104, 8, false), (104, 9, false), (104, 10, false)], []) h h5 := g2.tr ⟨g5.1, g5.2.mono rfl rfl⟩
          exact fin _ (CX_ofT (h' := h5) (by decide) rfl rfl trivial ⟨_, _, _, rfl, rfl, rfl⟩ rfl ⟨Nat.le_of_eq g5.1.2.2.2.1.symm, Nat.le_of_eq g5.1.2.2.2.2.symm⟩ t23) g5w (by rw [g5.2.1 104 10 rfl]; exact q2) (by rw [es]; exact e5) (by rw [es]; exact k5) (fun z => by have zc := sSg_c b n q; unfold sKw at k5; omega)
        · have e_48 : (Int32.ofInt (48)).toInt = 48 := rfl
          have c19r := c19
          rw [vref g1.1.1 (rfl : vRf 104 0 = [105])] at c19r
          have dc19 : (Int32.ofInt (48)).toInt ≤ (xI h1 105 ((xI h1 104 7)).toNatClampNeg).toInt := Int32.le_iff_toInt_le.mp (Int32.not_lt.mp c19r)
          by_cases c24 : (Int32.ofInt (57)) < (xI (xsetI h1 104 10 (xI h1 104 7)) (xR h1 104 0) ((xI h1 104 7)).toNatClampNeg)
          · have e_57 : (Int32.ofInt (57)).toInt = 57 := rfl
            have c24r := c24
            rw [vref g1.1.1 (rfl : vRf 104 0 = [105])] at c24r
            have dc24 : (Int32.ofInt (57)).toInt < (xI h1 105 ((xI h1 104 7)).toNatClampNeg).toInt := Int32.lt_iff_toInt_lt.mp c24r
            have t25 : XT l 1 27 false 180 153 6051 52 [xf 13 104] [] h1 278 [xf 13 104] [xf 13 104] (xsetI h1 104 10 (xI h1 104 7)) := XT_path (l := l) (fr := 1) (lo := 27) (full := false) (M := 180) (n := 153) (u := 6051) (pc := 52) (L := [xf 13 104]) (st := []) (h := h1) (inl := [181, 184]) (n' := 120) (sp := [278]) (o := [1, 0, 0, 1, 1, 0, 0, 1, 1]) rfl rfl ⟨rfl, rfl, rfl⟩ rfl ⟨Nat.le_of_eq g1.1.2.2.2.1, Nat.le_of_eq g1.1.2.2.2.2⟩ ⟨⟨⟨⟨⟨⟨⟨⟨⟨⟨⟨⟨⟨⟨⟨⟨⟨⟨⟨trivial, c1⟩, (fun z => absurd (Int32.le_iff_toInt_le.mp z) (by omega))⟩, (vnn g1.1.1 (rfl : vRf 104 0 = [105]) (by decide))⟩, (vp_of (i := (xI h1 104 7)) (n := 700) (by omega) (by omega))⟩, c4⟩, (vnn g1.1.1 (rfl : vRf 104 0 = [105]) (by decide))⟩, (vp_of (i := (xI h1 104 7)) (n := 700) (by omega) (by omega))⟩, c18⟩, (Or.inl rfl)⟩, rfl⟩, (fun z => absurd (Int32.le_iff_toInt_le.mp z) (by omega))⟩, (vnn g1.1.1 (rfl : vRf 104 0 = [105]) (by decide))⟩, (vp_of (i := (xI h1 104 7)) (n := 700) (by omega) (by omega))⟩, c19⟩, (vnn g1.1.1 (rfl : vRf 104 0 = [105]) (by decide))⟩, (vp_of (i := (xI h1 104 7)) (n := 700) (by omega) (by omega))⟩, c24⟩, (Or.inl rfl)⟩, rfl⟩
            have t26 := tS.tr t25
            have np : (xI h1 104 7).toNatClampNeg = q := by
              show (xI h1 104 7).toInt.toNat = q
              omega
            have eb := r1.2 q (by omega)
            rw [← np] at eb
            have lw : (97 ≤ b q ∧ b q ≤ 122) = (97 ≤ (xI h1 105 (xI h1 104 7).toNatClampNeg).toInt ∧ (xI h1 105 (xI h1 104 7).toNatClampNeg).toInt ≤ 122) := by rw [← np, ← eb]; exact sby_in (by decide) (by decide)
            have dw : (48 ≤ b q ∧ b q ≤ 57) = (48 ≤ (xI h1 105 (xI h1 104 7).toNatClampNeg).toInt ∧ (xI h1 105 (xI h1 104 7).toNatClampNeg).toInt ≤ 57) := by rw [← np, ← eb]; exact sby_in (by decide) (by decide)
            have nl : ¬ (97 ≤ b q ∧ b q ≤ 122) := by rw [lw]; omega
            have nd : ¬ (48 ≤ b q ∧ b q ≤ 57) := by rw [dw]; omega
            obtain ⟨h5, c5, g5, e5, k5⟩ := mk_sign l b n q (xsetI h1 104 10 (xI h1 104 7)) g2.1 r2 hn7 (by omega) p2
            have es : sTk b n q = ((sSg b n q).1, 0, (sSg b n q).2) := (if_neg (by omega)).trans ((if_neg nl).trans (if_neg nd))
            have t27 : XT l 1 27 false 180 153 6051 278 [xf 13 104] [xf 13 104] (xsetI h1 104 10 (xI h1 104 7)) 281 [xf 13 104] [] h5 := XT_call (l := l) (fr := 1) (lo := 27) (full := false) (M := 180) (n := 153) (u := 6051) (pc := 278) (L := [xf 13 104]) (st := [xf 13 104]) (h := (xsetI h1 104 10 (xI h1 104 7))) (i := .invokevirtual 185) (aux := 1) (nx := 281) (K := 185) (vs := [xf 13 104]) (rs := []) (rest := []) rfl rfl rfl rfl rfl rfl c5 (by decide) (by decide) (Nat.le_of_ble_eq_true rfl) ⟨Nat.le_of_eq g5.1.2.2.2.1, Nat.le_of_eq g5.1.2.2.2.2⟩
            have t28 := t26.tr t27
            have g5w : mT ([(104, 7, false), (104, 8, false), (104, 9, false), (104, 10, false)], []) h h5 := g2.tr ⟨g5.1, g5.2.mono rfl rfl⟩
            exact fin _ (CX_ofT (h' := h5) (by decide) rfl rfl trivial ⟨_, _, _, rfl, rfl, rfl⟩ rfl ⟨Nat.le_of_eq g5.1.2.2.2.1.symm, Nat.le_of_eq g5.1.2.2.2.2.symm⟩ t28) g5w (by rw [g5.2.1 104 10 rfl]; exact q2) (by rw [es]; exact e5) (by rw [es]; exact k5) (fun z => by have zc := sSg_c b n q; unfold sKw at k5; omega)
          · have e_57 : (Int32.ofInt (57)).toInt = 57 := rfl
            have c24r := c24
            rw [vref g1.1.1 (rfl : vRf 104 0 = [105])] at c24r
            have dc24 : (xI h1 105 ((xI h1 104 7)).toNatClampNeg).toInt ≤ (Int32.ofInt (57)).toInt := Int32.le_iff_toInt_le.mp (Int32.not_lt.mp c24r)
            have t29 : XT l 1 27 false 180 153 6051 52 [xf 13 104] [] h1 213 [xf 13 104] [] (xsetI (xsetI (xsetI h1 104 10 (xI h1 104 7)) 104 8 (Int32.ofInt (3))) 104 9 (Int32.ofInt (0))) := XT_path (l := l) (fr := 1) (lo := 27) (full := false) (M := 180) (n := 153) (u := 6051) (pc := 52) (L := [xf 13 104]) (st := []) (h := h1) (inl := [181, 184]) (n' := 120) (sp := [213]) (o := [1, 0, 0, 1, 1, 0, 0, 0, 0]) rfl rfl ⟨rfl, rfl, rfl⟩ rfl ⟨Nat.le_of_eq g1.1.2.2.2.1, Nat.le_of_eq g1.1.2.2.2.2⟩ ⟨⟨⟨⟨⟨⟨⟨⟨⟨⟨⟨⟨⟨⟨⟨⟨⟨⟨⟨trivial, c1⟩, (fun z => absurd (Int32.le_iff_toInt_le.mp z) (by omega))⟩, (vnn g1.1.1 (rfl : vRf 104 0 = [105]) (by decide))⟩, (vp_of (i := (xI h1 104 7)) (n := 700) (by omega) (by omega))⟩, c4⟩, (vnn g1.1.1 (rfl : vRf 104 0 = [105]) (by decide))⟩, (vp_of (i := (xI h1 104 7)) (n := 700) (by omega) (by omega))⟩, c18⟩, (Or.inl rfl)⟩, rfl⟩, (fun z => absurd (Int32.le_iff_toInt_le.mp z) (by omega))⟩, (vnn g1.1.1 (rfl : vRf 104 0 = [105]) (by decide))⟩, (vp_of (i := (xI h1 104 7)) (n := 700) (by omega) (by omega))⟩, c19⟩, (vnn g1.1.1 (rfl : vRf 104 0 = [105]) (by decide))⟩, (vp_of (i := (xI h1 104 7)) (n := 700) (by omega) (by omega))⟩, c24⟩, (Or.inr rfl)⟩, (by decide)⟩
            have t30 := tS.tr t29
            have np : (xI h1 104 7).toNatClampNeg = q := by
              show (xI h1 104 7).toInt.toNat = q
              omega
            have eb := r1.2 q (by omega)
            rw [← np] at eb
            have lw : (97 ≤ b q ∧ b q ≤ 122) = (97 ≤ (xI h1 105 (xI h1 104 7).toNatClampNeg).toInt ∧ (xI h1 105 (xI h1 104 7).toNatClampNeg).toInt ≤ 122) := by rw [← np, ← eb]; exact sby_in (by decide) (by decide)
            have dw : (48 ≤ b q ∧ b q ≤ 57) = (48 ≤ (xI h1 105 (xI h1 104 7).toNatClampNeg).toInt ∧ (xI h1 105 (xI h1 104 7).toNatClampNeg).toInt ≤ 57) := by rw [← np, ← eb]; exact sby_in (by decide) (by decide)
            have nl : ¬ (97 ≤ b q ∧ b q ≤ 122) := by rw [lw]; omega
            have yd : 48 ≤ b q ∧ b q ≤ 57 := by rw [dw]; omega
            have g3 : mT ([(104, 7, false), (104, 8, false), (104, 9, false), (104, 10, false)], []) h (xsetI (xsetI h1 104 10 (xI h1 104 7)) 104 8 (Int32.ofInt (3))) := g2.set (c := 104) (k := 8) (v := (Int32.ofInt (3))) (show (0 : Int) ≤ _ ∧ _ ≤ 6 from by decide) rfl
            have g4 : mT ([(104, 7, false), (104, 8, false), (104, 9, false), (104, 10, false)], []) h (xsetI (xsetI (xsetI h1 104 10 (xI h1 104 7)) 104 8 (Int32.ofInt (3))) 104 9 (Int32.ofInt (0))) := g3.set (c := 104) (k := 9) (v := (Int32.ofInt (0))) (show (-2147483648 : Int) ≤ _ ∧ _ ≤ 2147483647 from i32r_of _) rfl
            have r4 : mR b n (xsetI (xsetI (xsetI h1 104 10 (xI h1 104 7)) 104 8 (Int32.ofInt (3))) 104 9 (Int32.ofInt (0))) := r2.fr (by rw [yI_ne (by decide), yI_ne (by decide)]) (fun k => by rw [yI_c (by decide), yI_c (by decide)])
            obtain ⟨h5, tl, g5, e5, d5⟩ := mk_digL l b n q (n - q) q (xsetI (xsetI (xsetI h1 104 10 (xI h1 104 7)) 104 8 (Int32.ofInt (3))) 104 9 (Int32.ofInt (0))) g4.1 r4 hn7 (by rw [yI_ne (by decide), yI_ne (by decide)]; exact p2) (Nat.le_refl _) (by omega) (by rw [yI_same, Nat.sub_self]; exact Or.inl ⟨rfl, by decide, by decide⟩)
            have es : sTk b n q = (2, sNm b q (sDr b (n - q) q - q), sDr b (n - q) q) := (if_neg (by omega)).trans ((if_neg nl).trans (if_pos yd))
            have g5w : mT ([(104, 7, false), (104, 8, false), (104, 9, false), (104, 10, false)], []) h h5 := g4.tr ⟨g5.1, g5.2.mono rfl rfl⟩
            have k8 : (xI h5 104 8).toInt = 3 := by rw [g5.2.1 104 8 rfl, yI_ne (by decide), yI_same]; rfl
            have t31 := t30.tr tl
            exact fin _ (CX_ofT (h' := h5) (by decide) rfl rfl trivial ⟨_, _, _, rfl, rfl, rfl⟩ rfl ⟨Nat.le_of_eq g5.1.2.2.2.1.symm, Nat.le_of_eq g5.1.2.2.2.2.symm⟩ t31) g5w (by rw [g5.2.1 104 10 rfl, yI_ne (by decide), yI_ne (by decide)]; exact q2) (by rw [es]; exact e5) (by rw [es]; exact Or.inr (Or.inr (Or.inl ⟨rfl, k8, d5.imp (fun z => ⟨z.1, z.2.2⟩) (fun z => ⟨z.1, z.2.1⟩)⟩))) (fun z => by omega)
      · have e_122 : (Int32.ofInt (122)).toInt = 122 := rfl
        have c18r := c18
        rw [vref g1.1.1 (rfl : vRf 104 0 = [105])] at c18r
        have dc18 : (xI h1 105 ((xI h1 104 7)).toNatClampNeg).toInt ≤ (Int32.ofInt (122)).toInt := Int32.le_iff_toInt_le.mp (Int32.not_lt.mp c18r)
        have t32 : XT l 1 27 false 180 153 6051 52 [xf 13 104] [] h1 90 [xf 13 104] [] (xsetI h1 104 10 (xI h1 104 7)) := XT_path (l := l) (fr := 1) (lo := 27) (full := false) (M := 180) (n := 153) (u := 6051) (pc := 52) (L := [xf 13 104]) (st := []) (h := h1) (inl := [181, 184]) (n' := 120) (sp := [90]) (o := [1, 0, 0, 0, 0]) rfl rfl ⟨rfl, rfl, rfl⟩ rfl ⟨Nat.le_of_eq g1.1.2.2.2.1, Nat.le_of_eq g1.1.2.2.2.2⟩ ⟨⟨⟨⟨⟨⟨⟨⟨⟨⟨trivial, c1⟩, (fun z => absurd (Int32.le_iff_toInt_le.mp z) (by omega))⟩, (vnn g1.1.1 (rfl : vRf 104 0 = [105]) (by decide))⟩, (vp_of (i := (xI h1 104 7)) (n := 700) (by omega) (by omega))⟩, c4⟩, (vnn g1.1.1 (rfl : vRf 104 0 = [105]) (by decide))⟩, (vp_of (i := (xI h1 104 7)) (n := 700) (by omega) (by omega))⟩, c18⟩, (Or.inr rfl)⟩, (by decide)⟩
        have t33 := tS.tr t32
        have np : (xI h1 104 7).toNatClampNeg = q := by
          show (xI h1 104 7).toInt.toNat = q
          omega
        have eb := r1.2 q (by omega)
        rw [← np] at eb
        have lw : (97 ≤ b q ∧ b q ≤ 122) = (97 ≤ (xI h1 105 (xI h1 104 7).toNatClampNeg).toInt ∧ (xI h1 105 (xI h1 104 7).toNatClampNeg).toInt ≤ 122) := by rw [← np, ← eb]; exact sby_in (by decide) (by decide)
        have dw : (48 ≤ b q ∧ b q ≤ 57) = (48 ≤ (xI h1 105 (xI h1 104 7).toNatClampNeg).toInt ∧ (xI h1 105 (xI h1 104 7).toNatClampNeg).toInt ≤ 57) := by rw [← np, ← eb]; exact sby_in (by decide) (by decide)
        have yl : 97 ≤ b q ∧ b q ≤ 122 := by rw [lw]; omega
        obtain ⟨h3, tl, g3, e3⟩ := mk_let l b n (n - q) q (xsetI h1 104 10 (xI h1 104 7)) g2.1 r2 hn7 p2 (by omega)
        have lb := sLr_b b (n - q) q
        have hl : sLs b q (sLr b (n - q) q - q) := fun i hi => sLr_in b (n - q) q (q + i) (by omega) (by omega)
        have es : sTk b n q = (if 6 < sLr b (n - q) q - q then 1 else sWord (sPk b q (sLr b (n - q) q - q)), (sPk b q (sLr b (n - q) q - q)).toInt, sLr b (n - q) q) := (if_neg (by omega)).trans (if_pos yl)
        obtain ⟨m, em⟩ : ∃ z, z = sLr b (n - q) q - q := ⟨_, rfl⟩
        rw [← em] at es hl
        have g3w : mT ([(104, 7, false), (104, 8, false), (104, 9, false), (104, 10, false)], []) h h3 := g2.tr ⟨g3.1, g3.2.mono rfl rfl⟩
        have r3 := r2.w g3.2 rfl (fun _ => rfl)
        have a3 : (xI h3 104 10).toInt = q := by rw [g3.2.1 104 10 rfl]; exact q2
        have t34 := t33.tr tl
        have t35 : XT l 1 27 false 180 153 6051 114 [xf 13 104] [] h3 124 [xf 13 104] [xi (xI h3 104 7), xi (xI h3 104 10), xf 13 104, xf 13 104] h3 := XT_path (l := l) (fr := 1) (lo := 27) (full := false) (M := 180) (n := 153) (u := 6051) (pc := 114) (L := [xf 13 104]) (st := []) (h := h3) (inl := [181, 184]) (n' := 120) (sp := [124]) (o := []) rfl rfl ⟨rfl, rfl, rfl⟩ rfl ⟨Nat.le_of_eq g3.1.2.2.2.1, Nat.le_of_eq g3.1.2.2.2.2⟩ trivial
        have t36 := t34.tr t35
        obtain ⟨v, cw, ev⟩ := mk_word l b n h3 g3.1 r3 (xI h3 104 10) (xI h3 104 7) q m a3 (by rw [e3]; omega) (by omega) hn7
        rw [mWd_ok hl] at ev
        have sr := sWord_r (sPk b q m)
        have t37 : XT l 1 27 false 180 153 6051 124 [xf 13 104] [xi (xI h3 104 7), xi (xI h3 104 10), xf 13 104, xf 13 104] h3 127 [xf 13 104] [xi v, xf 13 104] h3 := XT_call (l := l) (fr := 1) (lo := 27) (full := false) (M := 180) (n := 153) (u := 6051) (pc := 124) (L := [xf 13 104]) (st := [xi (xI h3 104 7), xi (xI h3 104 10), xf 13 104, xf 13 104]) (h := h3) (i := .invokevirtual 182) (aux := 3) (nx := 127) (K := 182) (vs := [xf 13 104, xi (xI h3 104 10), xi (xI h3 104 7)]) (rs := [xi v]) (rest := [xf 13 104]) rfl rfl rfl rfl rfl rfl cw (by decide) (by decide) (Nat.le_of_ble_eq_true rfl) ⟨Nat.le_of_eq g3.1.2.2.2.1, Nat.le_of_eq g3.1.2.2.2.2⟩
        have t38 := t36.tr t37
        by_cases c39 : v < 0
        · have e_0 : (0 : Int32).toInt = 0 := rfl
          have dc39 : (v).toInt < (0 : Int32).toInt := Int32.lt_iff_toInt_lt.mp c39
          by_cases c40 : ((xI h3 104 7) - (xI h3 104 10)) ≤ (Int32.ofInt (6))
          · have e_6 : (Int32.ofInt (6)).toInt = 6 := rfl
            have dc40 : ((xI h3 104 7) - (xI h3 104 10)).toInt ≤ (Int32.ofInt (6)).toInt := Int32.le_iff_toInt_le.mp c40
            have sd : ((xI h3 104 7) - (xI h3 104 10)).toInt = m := by rw [Int32.toInt_sub, e3, a3, Int.bmod_eq_of_le (by omega) (by omega)]; omega
            have t41 : XT l 1 27 false 180 153 6051 127 [xf 13 104] [xi v, xf 13 104] h3 183 [xf 13 104] [xi (xI h3 104 7), xi (xI h3 104 10), xf 13 104, xf 13 104] (xsetI (xsetI h3 104 9 v) 104 8 (Int32.ofInt (2))) := XT_path (l := l) (fr := 1) (lo := 27) (full := false) (M := 180) (n := 153) (u := 6051) (pc := 127) (L := [xf 13 104]) (st := [xi v, xf 13 104]) (h := h3) (inl := [181, 184]) (n' := 120) (sp := [183]) (o := [1, 1, 0]) rfl rfl ⟨rfl, rfl, rfl⟩ rfl ⟨Nat.le_of_eq g3.1.2.2.2.1, Nat.le_of_eq g3.1.2.2.2.2⟩ ⟨⟨⟨trivial, c39⟩, c40⟩, rfl⟩
            have t42 := t38.tr t41
            have u0 : mT ([(104, 7, false), (104, 8, false), (104, 9, false), (104, 10, false)], []) h (xsetI h3 104 9 v) := g3w.set (c := 104) (k := 9) (v := v) (show (-2147483648 : Int) ≤ _ ∧ _ ≤ 2147483647 from i32r_of _) rfl
            have u1 : mT ([(104, 7, false), (104, 8, false), (104, 9, false), (104, 10, false)], []) h (xsetI (xsetI h3 104 9 v) 104 8 (Int32.ofInt (2))) := u0.set (c := 104) (k := 8) (v := (Int32.ofInt (2))) (show (0 : Int) ≤ _ ∧ _ ≤ 6 from by decide) rfl
            have r6 : mR b n (xsetI (xsetI h3 104 9 v) 104 8 (Int32.ofInt (2))) := r3.fr (by rw [yI_ne (by decide), yI_ne (by decide)]) (fun k => by rw [yI_c (by decide), yI_c (by decide)])
            have a6 : (xI (xsetI (xsetI h3 104 9 v) 104 8 (Int32.ofInt (2))) 104 10).toInt = q := by rw [yI_ne (by decide), yI_ne (by decide)]; exact a3
            have a7 : (xI (xsetI (xsetI h3 104 9 v) 104 8 (Int32.ofInt (2))) 104 7).toInt = (q + m : Nat) := by rw [yI_ne (by decide), yI_ne (by decide), e3]; omega
            have cp := mk_pack l b n (xsetI (xsetI h3 104 9 v) 104 8 (Int32.ofInt (2))) u1.1 r6 (xI (xsetI (xsetI h3 104 9 v) 104 8 (Int32.ofInt (2))) 104 10) (xI (xsetI (xsetI h3 104 9 v) 104 8 (Int32.ofInt (2))) 104 7) q m a6 a7 (by omega) hn7 hl (by omega)
            obtain ⟨hN, ehN⟩ : ∃ z, z = (xsetI (xsetI h3 104 9 v) 104 8 (Int32.ofInt (2))) := ⟨_, rfl⟩
            have un := u1
            have t43 : XT l 1 27 false 180 153 6051 183 [xf 13 104] [xi (xI h3 104 7), xi (xI h3 104 10), xf 13 104, xf 13 104] (xsetI (xsetI h3 104 9 v) 104 8 (Int32.ofInt (2))) 186 [xf 13 104] [xi (sPk b q m), xf 13 104] (xsetI (xsetI h3 104 9 v) 104 8 (Int32.ofInt (2))) := XT_call (l := l) (fr := 1) (lo := 27) (full := false) (M := 180) (n := 153) (u := 6051) (pc := 183) (L := [xf 13 104]) (st := [xi (xI h3 104 7), xi (xI h3 104 10), xf 13 104, xf 13 104]) (h := (xsetI (xsetI h3 104 9 v) 104 8 (Int32.ofInt (2)))) (i := .invokevirtual 183) (aux := 3) (nx := 186) (K := 183) (vs := [xf 13 104, xi (xI h3 104 10), xi (xI h3 104 7)]) (rs := [xi (sPk b q m)]) (rest := [xf 13 104]) rfl rfl rfl rfl rfl rfl cp (by decide) (by decide) (Nat.le_of_ble_eq_true rfl) ⟨Nat.le_of_eq u1.1.2.2.2.1, Nat.le_of_eq u1.1.2.2.2.2⟩
            have t44 := t42.tr t43
            have t45 : XT l 1 27 false 180 153 6051 186 [xf 13 104] [xi (sPk b q m), xf 13 104] (xsetI (xsetI h3 104 9 v) 104 8 (Int32.ofInt (2))) 281 [xf 13 104] [] (xsetI (xsetI (xsetI h3 104 9 v) 104 8 (Int32.ofInt (2))) 104 9 (sPk b q m)) := XT_path (l := l) (fr := 1) (lo := 27) (full := false) (M := 180) (n := 153) (u := 6051) (pc := 186) (L := [xf 13 104]) (st := [xi (sPk b q m), xf 13 104]) (h := (xsetI (xsetI h3 104 9 v) 104 8 (Int32.ofInt (2)))) (inl := [181, 184]) (n' := 120) (sp := [281]) (o := []) rfl rfl ⟨rfl, rfl, rfl⟩ rfl ⟨Nat.le_of_eq u1.1.2.2.2.1, Nat.le_of_eq u1.1.2.2.2.2⟩ trivial
            have t46 := t44.tr t45
            have g9 : mT ([(104, 7, false), (104, 8, false), (104, 9, false), (104, 10, false)], []) h (xsetI (xsetI (xsetI h3 104 9 v) 104 8 (Int32.ofInt (2))) 104 9 (sPk b q m)) := u1.set (c := 104) (k := 9) (v := (sPk b q m)) (show (-2147483648 : Int) ≤ _ ∧ _ ≤ 2147483647 from i32r_of _) rfl
            have k8 : (xI (xsetI (xsetI (xsetI h3 104 9 v) 104 8 (Int32.ofInt (2))) 104 9 (sPk b q m)) 104 8).toInt = 2 := by rw [yI_ne (by decide), yI_same]; rfl
            have k9 : (xI (xsetI (xsetI (xsetI h3 104 9 v) 104 8 (Int32.ofInt (2))) 104 9 (sPk b q m)) 104 9).toInt = (sPk b q m).toInt := by rw [yI_same]
            have m6 : ¬ 6 < m := by omega
            rw [if_neg m6] at ev es
            have w3 : sWord (sPk b q m) = 3 := by unfold sKo at ev; omega
            exact fin _ (CX_ofT (h' := (xsetI (xsetI (xsetI h3 104 9 v) 104 8 (Int32.ofInt (2))) 104 9 (sPk b q m))) (by decide) rfl rfl trivial ⟨_, _, _, rfl, rfl, rfl⟩ rfl ⟨Nat.le_of_eq u1.1.2.2.2.1.symm, Nat.le_of_eq u1.1.2.2.2.2.symm⟩ t46) g9 (by rw [yI_ne (by decide), yI_ne (by decide), yI_ne (by decide)]; exact a3) (by rw [yI_ne (by decide), yI_ne (by decide), yI_ne (by decide), es]; exact e3) (by rw [es]; exact Or.inr (Or.inr (Or.inr (Or.inl ⟨w3, k8, k9⟩)))) (fun z => by omega)
          · have e_6 : (Int32.ofInt (6)).toInt = 6 := rfl
            have dc40 : (Int32.ofInt (6)).toInt < ((xI h3 104 7) - (xI h3 104 10)).toInt := Int32.lt_iff_toInt_lt.mp (Int32.not_le.mp c40)
            have sd : ((xI h3 104 7) - (xI h3 104 10)).toInt = m := by rw [Int32.toInt_sub, e3, a3, Int.bmod_eq_of_le (by omega) (by omega)]; omega
            have t47 : XT l 1 27 false 180 153 6051 127 [xf 13 104] [xi v, xf 13 104] h3 281 [xf 13 104] [] (xsetI (xsetI h3 104 9 v) 104 8 (Int32.ofInt (6))) := XT_path (l := l) (fr := 1) (lo := 27) (full := false) (M := 180) (n := 153) (u := 6051) (pc := 127) (L := [xf 13 104]) (st := [xi v, xf 13 104]) (h := h3) (inl := [181, 184]) (n' := 120) (sp := [281]) (o := [1, 0, 1]) rfl rfl ⟨rfl, rfl, rfl⟩ rfl ⟨Nat.le_of_eq g3.1.2.2.2.1, Nat.le_of_eq g3.1.2.2.2.2⟩ ⟨⟨⟨trivial, c39⟩, c40⟩, (show ¬ (Int32.ofInt (6)) = (Int32.ofInt (2)) from by decide)⟩
            have t48 := t38.tr t47
            have u0 : mT ([(104, 7, false), (104, 8, false), (104, 9, false), (104, 10, false)], []) h (xsetI h3 104 9 v) := g3w.set (c := 104) (k := 9) (v := v) (show (-2147483648 : Int) ≤ _ ∧ _ ≤ 2147483647 from i32r_of _) rfl
            have u1 : mT ([(104, 7, false), (104, 8, false), (104, 9, false), (104, 10, false)], []) h (xsetI (xsetI h3 104 9 v) 104 8 (Int32.ofInt (6))) := u0.set (c := 104) (k := 8) (v := (Int32.ofInt (6))) (show (0 : Int) ≤ _ ∧ _ ≤ 6 from by decide) rfl
            have k9 : (xI (xsetI (xsetI h3 104 9 v) 104 8 (Int32.ofInt (6))) 104 9).toInt = v.toInt := by rw [yI_ne (by decide), yI_same]
            have k8 : (xI (xsetI (xsetI h3 104 9 v) 104 8 (Int32.ofInt (6))) 104 8).toInt = 6 := by rw [yI_same]; rfl
            have m6 : 6 < m := by omega
            rw [if_pos m6] at ev es
            exact fin _ (CX_ofT (h' := (xsetI (xsetI h3 104 9 v) 104 8 (Int32.ofInt (6)))) (by decide) rfl rfl trivial ⟨_, _, _, rfl, rfl, rfl⟩ rfl ⟨Nat.le_of_eq g3.1.2.2.2.1.symm, Nat.le_of_eq g3.1.2.2.2.2.symm⟩ t48) u1 (by rw [yI_ne (by decide), yI_ne (by decide)]; exact a3) (by rw [yI_ne (by decide), yI_ne (by decide), es]; exact e3) (by rw [es]; exact Or.inr (Or.inl ⟨rfl, Or.inl k8⟩)) (fun z => by omega)
        · have e_0 : (0 : Int32).toInt = 0 := rfl
          have dc39 : (0 : Int32).toInt ≤ (v).toInt := Int32.le_iff_toInt_le.mp (Int32.not_lt.mp c39)
          have t49 : XT l 1 27 false 180 153 6051 127 [xf 13 104] [xi v, xf 13 104] h3 281 [xf 13 104] [] (xsetI (xsetI h3 104 9 v) 104 8 (Int32.ofInt (1))) := XT_path (l := l) (fr := 1) (lo := 27) (full := false) (M := 180) (n := 153) (u := 6051) (pc := 127) (L := [xf 13 104]) (st := [xi v, xf 13 104]) (h := h3) (inl := [181, 184]) (n' := 120) (sp := [281]) (o := [0, 1]) rfl rfl ⟨rfl, rfl, rfl⟩ rfl ⟨Nat.le_of_eq g3.1.2.2.2.1, Nat.le_of_eq g3.1.2.2.2.2⟩ ⟨⟨trivial, c39⟩, (show ¬ (Int32.ofInt (1)) = (Int32.ofInt (2)) from by decide)⟩
          have t50 := t38.tr t49
          have u0 : mT ([(104, 7, false), (104, 8, false), (104, 9, false), (104, 10, false)], []) h (xsetI h3 104 9 v) := g3w.set (c := 104) (k := 9) (v := v) (show (-2147483648 : Int) ≤ _ ∧ _ ≤ 2147483647 from i32r_of _) rfl
          have u1 : mT ([(104, 7, false), (104, 8, false), (104, 9, false), (104, 10, false)], []) h (xsetI (xsetI h3 104 9 v) 104 8 (Int32.ofInt (1))) := u0.set (c := 104) (k := 8) (v := (Int32.ofInt (1))) (show (0 : Int) ≤ _ ∧ _ ≤ 6 from by decide) rfl
          have k9 : (xI (xsetI (xsetI h3 104 9 v) 104 8 (Int32.ofInt (1))) 104 9).toInt = v.toInt := by rw [yI_ne (by decide), yI_same]
          have k8 : (xI (xsetI (xsetI h3 104 9 v) 104 8 (Int32.ofInt (1))) 104 8).toInt = 1 := by rw [yI_same]; rfl
          have m6 : ¬ 6 < m := fun z => by rw [if_pos z] at ev; omega
          rw [if_neg m6] at ev es
          have w3 : 20 ≤ sWord (sPk b q m) ∧ sWord (sPk b q m) ≤ 39 := by unfold sKo at ev; omega
          have w4 : 0 ≤ sKo (sWord (sPk b q m)) ∧ sKo (sWord (sPk b q m)) ≤ 19 := by unfold sKo; omega
          exact fin _ (CX_ofT (h' := (xsetI (xsetI h3 104 9 v) 104 8 (Int32.ofInt (1)))) (by decide) rfl rfl trivial ⟨_, _, _, rfl, rfl, rfl⟩ rfl ⟨Nat.le_of_eq g3.1.2.2.2.1.symm, Nat.le_of_eq g3.1.2.2.2.2.symm⟩ t50) u1 (by rw [yI_ne (by decide), yI_ne (by decide)]; exact a3) (by rw [yI_ne (by decide), yI_ne (by decide), es]; exact e3) (by rw [es]; exact Or.inr (Or.inr (Or.inr (Or.inr (Or.inl ⟨w3.1, w3.2, k8, k9.trans ev⟩))))) (fun z => by rw [k9, ev]; exact w4)
/-- the current token begins at q, no fault so far -/
def jT (b : Nat → Int) (n q : Nat) (h : XH) : Prop := mR b n h ∧ n ≤ 700 ∧ q ≤ n ∧ (xI h 104 10).toInt = q ∧ (xI h 104 7).toInt = tke b n q ∧ sKw (tkc b n q) (tkv b n q) (xI h 104 8).toInt (xI h 104 9).toInt ∧ (xI h 104 4).toInt = 0 ∧ (xI h 104 5).toInt = -1
theorem jT.fr {b : Nat → Int} {n q : Nat} {h h' : XH} (r : jT b n q h) (h1 : ∀ k, k = 4 ∨ k = 5 ∨ k = 6 ∨ k = 7 ∨ k = 8 ∨ k = 9 ∨ k = 10 → xI h' 104 k = xI h 104 k) (h2 : ∀ k, xI h' 105 k = xI h 105 k) : jT b n q h' :=
  ⟨r.1.fr (h1 6 (by decide)) h2, r.2.1, r.2.2.1, by rw [h1 10 (by decide)]; exact r.2.2.2.1, by rw [h1 7 (by decide)]; exact r.2.2.2.2.1, by rw [h1 8 (by decide), h1 9 (by decide)]; exact r.2.2.2.2.2.1, by rw [h1 4 (by decide)]; exact r.2.2.2.2.2.2.1, by rw [h1 5 (by decide)]; exact r.2.2.2.2.2.2.2⟩
theorem jk_adv (l : Launch) (b : Nat → Int) (n q : Nat) (h : XH) (hg : mI h) (jt : jT b n q h) : ∃ h', CX l 1 27 false 180 [xf 13 104] h [] h' ∧ mT ([(104, 7, false), (104, 8, false), (104, 9, false), (104, 10, false)], []) h h' ∧ jT b n (nxt b n q) h' := by
  have tb := sTk_b (b := b) jt.2.2.1
  obtain ⟨h', c, g, a10, a7, k⟩ := mk_tokI l b n (tke b n q) h hg jt.1 jt.2.1 tb.2.1 jt.2.2.2.2.1
  exact ⟨h', c, g, jt.1.w g.2 rfl (fun _ => rfl), jt.2.1, (nxt_b jt.2.2.1).2.1, a10, a7, k, by rw [g.2.1 104 4 rfl]; exact jt.2.2.2.2.2.2.1, by rw [g.2.1 104 5 rfl]; exact jt.2.2.2.2.2.2.2⟩
section SKw
variable {c v kd wh : Int} (h : sKw c v kd wh)
theorem sKw_n (h : sKw c v kd wh) : (kd = 3 ↔ c = 2) ∧ (c = 2 → (v = wh ∧ wh ≤ 9999) ∨ (v = 10000 ∧ 10000 ≤ wh)) := by
  unfold sKw at h
  omega
theorem sKw_w (h : sKw c v kd wh) : (kd = 2 ↔ c = 3) ∧ (c = 3 → wh = v) := by
  unfold sKw at h
  omega
theorem sKw_z (h : sKw c v kd wh) : (kd = 0 ↔ c = 0) := by
  unfold sKw at h
  omega
theorem sKw_k (h : sKw c v kd wh) : (kd = 1 ↔ 20 ≤ c ∧ c ≤ 39) ∧ (20 ≤ c → c ≤ 39 → wh = sKo c) := by
  unfold sKw at h
  omega
theorem sKw_c (h : sKw c v kd wh) : (kd = 5 ↔ 7 ≤ c ∧ c ≤ 12) ∧ (7 ≤ c → c ≤ 12 → wh = c - 7) := by
  unfold sKw at h
  omega
theorem sKw_s (h : sKw c v kd wh) : (kd = 4 → wh = 59 → c = 4) ∧ (kd = 4 → wh = 40 → c = 5) ∧ (kd = 4 → wh = 41 → c = 6) ∧ (kd = 4 → wh = 43 → c = 13) ∧ (kd = 4 → wh = 45 → c = 14) ∧ (kd = 4 → wh = 42 → c = 15) ∧ (kd = 4 → wh = 47 → c = 16) ∧ (c = 4 → kd = 4 ∧ wh = 59) ∧ (c = 5 → kd = 4 ∧ wh = 40) ∧ (c = 6 → kd = 4 ∧ wh = 41) ∧ (c = 13 → kd = 4 ∧ wh = 43) ∧ (c = 14 → kd = 4 ∧ wh = 45) ∧ (c = 15 → kd = 4 ∧ wh = 42) ∧ (c = 16 → kd = 4 ∧ wh = 47) := by
  unfold sKw at h
  omega
end SKw
theorem sKo_v {c : Int} (h0 : 20 ≤ c) (h1 : c ≤ 39) : (c = 30 → sKo c = 11) ∧ (c = 31 → sKo c = 10) ∧ (¬ c = 30 → ¬ c = 31 → sKo c = c - 20) := by
  unfold sKo
  omega
theorem y_add {a b : Int32} (h0 : 0 ≤ a.toInt) (h1 : a.toInt < 100000) (h2 : 0 ≤ b.toInt) (h3 : b.toInt < 100000) : (a + b).toInt = a.toInt + b.toInt := by
  rw [Int32.toInt_add]
  exact Int.bmod_eq_of_le (by omega) (by omega)
/-- a fault is told, its place -/
def jB (b : Nat → Int) (n : Nat) (f : Int) (q : Nat) (h : XH) : Prop := (xI h 104 4).toInt = f ∧ (xI h 104 5).toInt = q ∧ mR b n h
theorem jB.of {b : Nat → Int} {n q : Nat} {h h' : XH} {f : Int} {v w : Int32} (jt : jT b n q h') (e4 : ∀ c k, ¬ (c = 104 ∧ (k = 4 ∨ k = 5)) → xI h c k = xI h' c k) (e : xI h 104 4 = v) (ev : v.toInt = f) (e5 : xI h 104 5 = w) (ew : w.toInt = q) : jB b n f q h :=
  ⟨by rw [e]; exact ev, by rw [e5]; exact ew, jt.1.fr (e4 104 6 (by omega)) (fun k => e4 105 k (by omega))⟩
set_option maxRecDepth 100000 in
set_option maxHeartbeats 4000000 in
theorem jk_num (l : Launch) (b : Nat → Int) (n q : Nat) (lo hi : Int32) (h : XH) (hg : mI h) (jt : jT b n q h) (h0 : 0 ≤ lo.toInt) (h9 : hi.toInt ≤ 99) : ∃ v h', CX l 2 47 false 191 [xf 13 104, xi lo, xi hi] h [xi v] h' ∧ mT ([(104, 4, false), (104, 5, false), (104, 7, false), (104, 8, false), (104, 9, false), (104, 10, false), (104, 11, false)], []) h h' ∧ ((vHid (sNu b n q lo.toInt hi.toInt = 0) ∧ v = (Int32.ofInt (1)) ∧ jT b n (nxt b n q) h' ∧ vHid ((xI h' 104 11).toInt = tkv b n q ∧ lo.toInt ≤ (xI h' 104 11).toInt ∧ (xI h' 104 11).toInt ≤ hi.toInt)) ∨ (vHid (¬ sNu b n q lo.toInt hi.toInt = 0) ∧ v = (Int32.ofInt (0)) ∧ jB b n (sNu b n q lo.toInt hi.toInt) q h')) := by
  obtain ⟨jr, hn7, hq, jq, je, jk, jf, jp⟩ := id jt
  have kn := sKw_n jk
  have b10 : 0 ≤ (xI h 104 10).toInt ∧ (xI h 104 10).toInt ≤ 700 := vbnd hg.1 104 10
  by_cases cb1 : (xI h 104 8) = (Int32.ofInt (3))
  · have e_3 : (Int32.ofInt (3)).toInt = 3 := rfl
    have dcb1 : (xI h 104 8).toInt = (Int32.ofInt (3)).toInt := congrArg Int32.toInt cb1
    by_cases cb2 : (xI h 104 9) < lo
    · have dcb2 : (xI h 104 9).toInt < (lo).toInt := Int32.lt_iff_toInt_lt.mp cb2
      have t3 : XT l 2 47 false 191 153 6051 0 [xf 13 104, xi lo, xi hi] [] h 31 [xf 13 104, xi lo, xi hi] [xi (Int32.ofInt (0))] (xsetI (xsetI h 104 4 (Int32.ofInt (2))) 104 5 (xI h 104 10)) := XT_path (l := l) (fr := 2) (lo := 47) (full := false) (M := 191) (n := 153) (u := 6051) (pc := 0) (L := [xf 13 104, xi lo, xi hi]) (st := []) (h := h) (inl := [187, 192]) (n' := 120) (sp := [31]) (o := [1, 1, 0]) rfl rfl ⟨rfl, rfl, rfl⟩ rfl ⟨Nat.le_of_eq hg.2.2.2.1, Nat.le_of_eq hg.2.2.2.2⟩ ⟨⟨⟨⟨⟨trivial, cb1⟩, cb2⟩, (Or.inl rfl)⟩, rfl⟩, (Or.inl rfl)⟩
      have es : sNu b n q lo.toInt hi.toInt = 2 := by unfold sNu; rw [if_pos (by omega), if_pos (by omega)]
      have w4 : mT ([(104, 4, false), (104, 5, false), (104, 7, false), (104, 8, false), (104, 9, false), (104, 10, false), (104, 11, false)], []) h (xsetI h 104 4 (Int32.ofInt (2))) := ((mT.rf hg) : mT ([(104, 4, false), (104, 5, false), (104, 7, false), (104, 8, false), (104, 9, false), (104, 10, false), (104, 11, false)], []) h h).set (c := 104) (k := 4) (v := (Int32.ofInt (2))) (show (0 : Int) ≤ _ ∧ _ ≤ 5 from (by decide)) rfl
      have G0 : mT ([(104, 4, false), (104, 5, false), (104, 7, false), (104, 8, false), (104, 9, false), (104, 10, false), (104, 11, false)], []) h (xsetI (xsetI h 104 4 (Int32.ofInt (2))) 104 5 (xI h 104 10)) := (w4 : mT ([(104, 4, false), (104, 5, false), (104, 7, false), (104, 8, false), (104, 9, false), (104, 10, false), (104, 11, false)], []) h (xsetI h 104 4 (Int32.ofInt (2)))).set (c := 104) (k := 5) (v := (xI h 104 10)) (show (-1 : Int) ≤ _ ∧ _ ≤ 700 from ⟨by omega, by omega⟩) rfl
      exact ⟨_, _, CX_ofT (h' := (xsetI (xsetI h 104 4 (Int32.ofInt (2))) 104 5 (xI h 104 10))) (by decide) rfl rfl ⟨trivial, (Or.inl rfl)⟩ ⟨_, _, _, rfl, rfl, rfl⟩ rfl ⟨Nat.le_of_eq hg.2.2.2.1.symm, Nat.le_of_eq hg.2.2.2.2.symm⟩ t3, G0, Or.inr ⟨(by rw [es]; decide : ¬ sNu b n q lo.toInt hi.toInt = 0), rfl, by rw [es]; exact jB.of jt (fun c k z => (yI_ne (eq_false (by omega))).trans (yI_ne (eq_false (by omega)))) ((yI_ne (by decide)).trans yI_same) rfl yI_same jq⟩⟩
    · have dcb2 : (lo).toInt ≤ (xI h 104 9).toInt := Int32.le_iff_toInt_le.mp (Int32.not_lt.mp cb2)
      by_cases cb5 : hi < (xI h 104 9)
      · have dcb5 : (hi).toInt < (xI h 104 9).toInt := Int32.lt_iff_toInt_lt.mp cb5
        have t6 : XT l 2 47 false 191 153 6051 0 [xf 13 104, xi lo, xi hi] [] h 31 [xf 13 104, xi lo, xi hi] [xi (Int32.ofInt (0))] (xsetI (xsetI h 104 4 (Int32.ofInt (2))) 104 5 (xI h 104 10)) := XT_path (l := l) (fr := 2) (lo := 47) (full := false) (M := 191) (n := 153) (u := 6051) (pc := 0) (L := [xf 13 104, xi lo, xi hi]) (st := []) (h := h) (inl := [187, 192]) (n' := 120) (sp := [31]) (o := [1, 0, 1, 0]) rfl rfl ⟨rfl, rfl, rfl⟩ rfl ⟨Nat.le_of_eq hg.2.2.2.1, Nat.le_of_eq hg.2.2.2.2⟩ ⟨⟨⟨⟨⟨⟨trivial, cb1⟩, cb2⟩, cb5⟩, (Or.inl rfl)⟩, rfl⟩, (Or.inl rfl)⟩
        have es : sNu b n q lo.toInt hi.toInt = 2 := by unfold sNu; rw [if_pos (by omega), if_pos (by omega)]
        have w7 : mT ([(104, 4, false), (104, 5, false), (104, 7, false), (104, 8, false), (104, 9, false), (104, 10, false), (104, 11, false)], []) h (xsetI h 104 4 (Int32.ofInt (2))) := ((mT.rf hg) : mT ([(104, 4, false), (104, 5, false), (104, 7, false), (104, 8, false), (104, 9, false), (104, 10, false), (104, 11, false)], []) h h).set (c := 104) (k := 4) (v := (Int32.ofInt (2))) (show (0 : Int) ≤ _ ∧ _ ≤ 5 from (by decide)) rfl
        have G0 : mT ([(104, 4, false), (104, 5, false), (104, 7, false), (104, 8, false), (104, 9, false), (104, 10, false), (104, 11, false)], []) h (xsetI (xsetI h 104 4 (Int32.ofInt (2))) 104 5 (xI h 104 10)) := (w7 : mT ([(104, 4, false), (104, 5, false), (104, 7, false), (104, 8, false), (104, 9, false), (104, 10, false), (104, 11, false)], []) h (xsetI h 104 4 (Int32.ofInt (2)))).set (c := 104) (k := 5) (v := (xI h 104 10)) (show (-1 : Int) ≤ _ ∧ _ ≤ 700 from ⟨by omega, by omega⟩) rfl
        exact ⟨_, _, CX_ofT (h' := (xsetI (xsetI h 104 4 (Int32.ofInt (2))) 104 5 (xI h 104 10))) (by decide) rfl rfl ⟨trivial, (Or.inl rfl)⟩ ⟨_, _, _, rfl, rfl, rfl⟩ rfl ⟨Nat.le_of_eq hg.2.2.2.1.symm, Nat.le_of_eq hg.2.2.2.2.symm⟩ t6, G0, Or.inr ⟨(by rw [es]; decide : ¬ sNu b n q lo.toInt hi.toInt = 0), rfl, by rw [es]; exact jB.of jt (fun c k z => (yI_ne (eq_false (by omega))).trans (yI_ne (eq_false (by omega)))) ((yI_ne (by decide)).trans yI_same) rfl yI_same jq⟩⟩
      · have dcb5 : (xI h 104 9).toInt ≤ (hi).toInt := Int32.le_iff_toInt_le.mp (Int32.not_lt.mp cb5)
        have t8 : XT l 2 47 false 191 153 6051 0 [xf 13 104, xi lo, xi hi] [] h 41 [xf 13 104, xi lo, xi hi] [xf 13 104] (xsetI h 104 11 (xI h 104 9)) := XT_path (l := l) (fr := 2) (lo := 47) (full := false) (M := 191) (n := 153) (u := 6051) (pc := 0) (L := [xf 13 104, xi lo, xi hi]) (st := []) (h := h) (inl := [187, 192]) (n' := 120) (sp := [41]) (o := [1, 0, 0, 1]) rfl rfl ⟨rfl, rfl, rfl⟩ rfl ⟨Nat.le_of_eq hg.2.2.2.1, Nat.le_of_eq hg.2.2.2.2⟩ ⟨⟨⟨⟨⟨trivial, cb1⟩, cb2⟩, cb5⟩, (Or.inr rfl)⟩, (show ¬ (Int32.ofInt (1)) = 0 from by decide)⟩
        have es : sNu b n q lo.toInt hi.toInt = 0 := by unfold sNu; rw [if_pos (by omega), if_neg (by omega)]
        have G0 : mT ([(104, 4, false), (104, 5, false), (104, 7, false), (104, 8, false), (104, 9, false), (104, 10, false), (104, 11, false)], []) h (xsetI h 104 11 (xI h 104 9)) := ((mT.rf hg) : mT ([(104, 4, false), (104, 5, false), (104, 7, false), (104, 8, false), (104, 9, false), (104, 10, false), (104, 11, false)], []) h h).set (c := 104) (k := 11) (v := (xI h 104 9)) (show (0 : Int) ≤ _ ∧ _ ≤ 99 from ⟨by omega, by omega⟩) rfl
        obtain ⟨h1, c1, g1, j1⟩ := jk_adv l b n q (xsetI h 104 11 (xI h 104 9)) G0.1 (jt.fr (fun k hk => yI_ne (eq_false (by omega))) (fun k => yI_c (by decide)))
        have t9 : XT l 2 47 false 191 153 6051 41 [xf 13 104, xi lo, xi hi] [xf 13 104] (xsetI h 104 11 (xI h 104 9)) 44 [xf 13 104, xi lo, xi hi] [] h1 := XT_call (l := l) (fr := 2) (lo := 47) (full := false) (M := 191) (n := 153) (u := 6051) (pc := 41) (L := [xf 13 104, xi lo, xi hi]) (st := [xf 13 104]) (h := (xsetI h 104 11 (xI h 104 9))) (i := .invokevirtual 180) (aux := 1) (nx := 44) (K := 180) (vs := [xf 13 104]) (rs := []) (rest := []) rfl rfl rfl rfl rfl rfl c1 (by decide) (by decide) (Nat.le_of_ble_eq_true rfl) ⟨Nat.le_of_eq g1.1.2.2.2.1, Nat.le_of_eq g1.1.2.2.2.2⟩
        have t10 := t8.tr t9
        have t11 : XT l 2 47 false 191 153 6051 44 [xf 13 104, xi lo, xi hi] [] h1 45 [xf 13 104, xi lo, xi hi] [xi (Int32.ofInt (1))] h1 := XT_path (l := l) (fr := 2) (lo := 47) (full := false) (M := 191) (n := 153) (u := 6051) (pc := 44) (L := [xf 13 104, xi lo, xi hi]) (st := []) (h := h1) (inl := [187, 192]) (n' := 120) (sp := [45]) (o := []) rfl rfl ⟨rfl, rfl, rfl⟩ rfl ⟨Nat.le_of_eq g1.1.2.2.2.1, Nat.le_of_eq g1.1.2.2.2.2⟩ trivial
        have t12 := t10.tr t11
        exact ⟨_, _, CX_ofT (h' := h1) (by decide) rfl rfl ⟨trivial, (Or.inr rfl)⟩ ⟨_, _, _, rfl, rfl, rfl⟩ rfl ⟨Nat.le_of_eq g1.1.2.2.2.1.symm, Nat.le_of_eq g1.1.2.2.2.2.symm⟩ t12, mT.tr (W := ([(104, 4, false), (104, 5, false), (104, 7, false), (104, 8, false), (104, 9, false), (104, 10, false), (104, 11, false)], [])) (b := (xsetI h 104 11 (xI h 104 9))) G0 ⟨g1.1, g1.2.mono rfl rfl⟩, Or.inl ⟨es, rfl, j1, (by rw [g1.2.1 104 11 rfl, yI_same]; omega : (xI h1 104 11).toInt = tkv b n q ∧ lo.toInt ≤ (xI h1 104 11).toInt ∧ (xI h1 104 11).toInt ≤ hi.toInt)⟩⟩
  · have e_3 : (Int32.ofInt (3)).toInt = 3 := rfl
    have dcb1 : ¬ (xI h 104 8).toInt = (Int32.ofInt (3)).toInt := fun z_ => cb1 (Int32.toInt_inj.mp z_)
    have t13 : XT l 2 47 false 191 153 6051 0 [xf 13 104, xi lo, xi hi] [] h 13 [xf 13 104, xi lo, xi hi] [xi (Int32.ofInt (0))] (xsetI (xsetI h 104 4 (Int32.ofInt (1))) 104 5 (xI h 104 10)) := XT_path (l := l) (fr := 2) (lo := 47) (full := false) (M := 191) (n := 153) (u := 6051) (pc := 0) (L := [xf 13 104, xi lo, xi hi]) (st := []) (h := h) (inl := [187, 192]) (n' := 120) (sp := [13]) (o := [0]) rfl rfl ⟨rfl, rfl, rfl⟩ rfl ⟨Nat.le_of_eq hg.2.2.2.1, Nat.le_of_eq hg.2.2.2.2⟩ ⟨⟨trivial, cb1⟩, (Or.inl rfl)⟩
    have es : sNu b n q lo.toInt hi.toInt = 1 := by unfold sNu; rw [if_neg (by omega)]
    have w14 : mT ([(104, 4, false), (104, 5, false), (104, 7, false), (104, 8, false), (104, 9, false), (104, 10, false), (104, 11, false)], []) h (xsetI h 104 4 (Int32.ofInt (1))) := ((mT.rf hg) : mT ([(104, 4, false), (104, 5, false), (104, 7, false), (104, 8, false), (104, 9, false), (104, 10, false), (104, 11, false)], []) h h).set (c := 104) (k := 4) (v := (Int32.ofInt (1))) (show (0 : Int) ≤ _ ∧ _ ≤ 5 from (by decide)) rfl
    have G0 : mT ([(104, 4, false), (104, 5, false), (104, 7, false), (104, 8, false), (104, 9, false), (104, 10, false), (104, 11, false)], []) h (xsetI (xsetI h 104 4 (Int32.ofInt (1))) 104 5 (xI h 104 10)) := (w14 : mT ([(104, 4, false), (104, 5, false), (104, 7, false), (104, 8, false), (104, 9, false), (104, 10, false), (104, 11, false)], []) h (xsetI h 104 4 (Int32.ofInt (1)))).set (c := 104) (k := 5) (v := (xI h 104 10)) (show (-1 : Int) ≤ _ ∧ _ ≤ 700 from ⟨by omega, by omega⟩) rfl
    exact ⟨_, _, CX_ofT (h' := (xsetI (xsetI h 104 4 (Int32.ofInt (1))) 104 5 (xI h 104 10))) (by decide) rfl rfl ⟨trivial, (Or.inl rfl)⟩ ⟨_, _, _, rfl, rfl, rfl⟩ rfl ⟨Nat.le_of_eq hg.2.2.2.1.symm, Nat.le_of_eq hg.2.2.2.2.symm⟩ t13, G0, Or.inr ⟨(by rw [es]; decide : ¬ sNu b n q lo.toInt hi.toInt = 0), rfl, by rw [es]; exact jB.of jt (fun c k z => (yI_ne (eq_false (by omega))).trans (yI_ne (eq_false (by omega)))) ((yI_ne (by decide)).trans yI_same) rfl yI_same jq⟩⟩
set_option maxRecDepth 100000 in
set_option maxHeartbeats 4000000 in
theorem jk_findL109 (l : Launch) (Z : Nat → Int) (y nn : Int32) (N : Nat) (h : XH) (hg : mI h) (hn : nn.toInt = N) (hN : N ≤ 6) (hz : ∀ k, k < N → (xI h 109 (6 + k)).toInt = Z k) : ∀ (m : Nat) (k : Int32), 0 ≤ k.toInt → k.toInt + m = N → ∃ v pcR L', XT l 0 0 false 190 153 6051 3 [xf 10012 109, xi (Int32.ofInt (6)), xi nn, xi y, xi k] [] h pcR L' [xi v] h ∧ XE 190 pcR [xi v] ∧ L'.length = 5 ∧ v.toInt = zfn Z y.toInt m k.toInt.toNat
  | 0, k, k0, km => by
    have t1 : XT l 0 0 false 190 153 6051 3 [xf 10012 109, xi (Int32.ofInt (6)), xi nn, xi y, xi k] [] h 29 [xf 10012 109, xi (Int32.ofInt (6)), xi nn, xi y, xi k] [xi (Int32.ofInt (-1))] h := XT_path (l := l) (fr := 0) (lo := 0) (full := false) (M := 190) (n := 153) (u := 6051) (pc := 3) (L := [xf 10012 109, xi (Int32.ofInt (6)), xi nn, xi y, xi k]) (st := []) (h := h) (inl := []) (n' := 80) (sp := [29]) (o := [1]) rfl rfl ⟨rfl, rfl, rfl⟩ rfl ⟨Nat.le_of_eq hg.2.2.2.1, Nat.le_of_eq hg.2.2.2.2⟩ ⟨trivial, (Int32.le_iff_toInt_le.mpr (by omega))⟩
    exact ⟨_, _, _, t1, ⟨_, _, _, rfl, rfl, rfl⟩, rfl, rfl⟩
  | m + 1, k, k0, km => by
    have ek := y_suc1 k0 (by omega)
    have eo : ((Int32.ofInt (6))).toInt = 6 := rfl
    have ea := y_add (a := (Int32.ofInt (6))) (b := k) (by decide) (by decide) k0 (by omega)
    have ni : ((Int32.ofInt (6)) + k).toNatClampNeg = 6 + k.toInt.toNat := by
      show ((Int32.ofInt (6)) + k).toInt.toNat = _
      omega
    have hk := hz k.toInt.toNat (by omega)
    by_cases cb1 : (xI h 109 (((Int32.ofInt (6)) + k)).toNatClampNeg) = y
    · have e_6 : (Int32.ofInt (6)).toInt = 6 := rfl
      have dcb1 : (xI h 109 (((Int32.ofInt (6)) + k)).toNatClampNeg).toInt = (y).toInt := congrArg Int32.toInt cb1
      have t2 : XT l 0 0 false 190 153 6051 3 [xf 10012 109, xi (Int32.ofInt (6)), xi nn, xi y, xi k] [] h 21 [xf 10012 109, xi (Int32.ofInt (6)), xi nn, xi y, xi k] [xi k] h := XT_path (l := l) (fr := 0) (lo := 0) (full := false) (M := 190) (n := 153) (u := 6051) (pc := 3) (L := [xf 10012 109, xi (Int32.ofInt (6)), xi nn, xi y, xi k]) (st := []) (h := h) (inl := []) (n' := 80) (sp := [21]) (o := [0, 0]) rfl rfl ⟨rfl, rfl, rfl⟩ rfl ⟨Nat.le_of_eq hg.2.2.2.1, Nat.le_of_eq hg.2.2.2.2⟩ ⟨⟨⟨trivial, (fun z => absurd (Int32.le_iff_toInt_le.mp z) (by omega))⟩, (vp_of (i := ((Int32.ofInt (6)) + k)) (n := 12) (by omega) (by omega))⟩, cb1⟩
      rw [ni] at dcb1
      have d_ : Z k.toInt.toNat = y.toInt := by rw [← hk]; exact dcb1
      exact ⟨_, _, _, t2, ⟨_, _, _, rfl, rfl, rfl⟩, rfl, by unfold zfn; rw [if_pos d_]; omega⟩
    · have e_6 : (Int32.ofInt (6)).toInt = 6 := rfl
      have dcb1 : ¬ (xI h 109 (((Int32.ofInt (6)) + k)).toNatClampNeg).toInt = (y).toInt := fun z_ => cb1 (Int32.toInt_inj.mp z_)
      have t3 : XT l 0 0 false 190 153 6051 3 [xf 10012 109, xi (Int32.ofInt (6)), xi nn, xi y, xi k] [] h 3 [xf 10012 109, xi (Int32.ofInt (6)), xi nn, xi y, xi (k + Int32.ofInt (1))] [] h := XT_path (l := l) (fr := 0) (lo := 0) (full := false) (M := 190) (n := 153) (u := 6051) (pc := 3) (L := [xf 10012 109, xi (Int32.ofInt (6)), xi nn, xi y, xi k]) (st := []) (h := h) (inl := []) (n' := 80) (sp := [3]) (o := [0, 1]) rfl rfl ⟨rfl, rfl, rfl⟩ rfl ⟨Nat.le_of_eq hg.2.2.2.1, Nat.le_of_eq hg.2.2.2.2⟩ ⟨⟨⟨trivial, (fun z => absurd (Int32.le_iff_toInt_le.mp z) (by omega))⟩, (vp_of (i := ((Int32.ofInt (6)) + k)) (n := 12) (by omega) (by omega))⟩, cb1⟩
      rw [ni] at dcb1
      have d_ : Z k.toInt.toNat ≠ y.toInt := by rw [← hk]; exact dcb1
      obtain ⟨v, pcR, L', y1, y2, y3, y4⟩ := jk_findL109 l Z y nn N h hg hn hN hz m (k + (Int32.ofInt (1))) (by omega) (by omega)
      exact ⟨v, pcR, L', t3.tr y1, y2, y3, by rw [y4, show (k + (Int32.ofInt (1))).toInt.toNat = k.toInt.toNat + 1 by omega]; exact (if_neg d_).symm⟩
set_option maxRecDepth 100000 in
set_option maxHeartbeats 4000000 in
theorem jk_find109 (l : Launch) (Z : Nat → Int) (y nn : Int32) (N : Nat) (h : XH) (hg : mI h) (hn : nn.toInt = N) (hN : N ≤ 6) (hz : ∀ k, k < N → (xI h 109 (6 + k)).toInt = Z k) : ∃ v, CX l 0 0 false 190 [xf 10012 109, xi (Int32.ofInt (6)), xi nn, xi y] h [xi v] h ∧ vHid (v.toInt = zfn Z y.toInt N 0) := by
  have t1 : XT l 0 0 false 190 153 6051 0 [xf 10012 109, xi (Int32.ofInt (6)), xi nn, xi y, xun] [] h 3 [xf 10012 109, xi (Int32.ofInt (6)), xi nn, xi y, xi (Int32.ofInt (0))] [] h := XT_path (l := l) (fr := 0) (lo := 0) (full := false) (M := 190) (n := 153) (u := 6051) (pc := 0) (L := [xf 10012 109, xi (Int32.ofInt (6)), xi nn, xi y, xun]) (st := []) (h := h) (inl := []) (n' := 80) (sp := [3]) (o := []) rfl rfl ⟨rfl, rfl, rfl⟩ rfl ⟨Nat.le_of_eq hg.2.2.2.1, Nat.le_of_eq hg.2.2.2.2⟩ trivial
  obtain ⟨v, pcR, L', y1, y2, y3, y4⟩ := jk_findL109 l Z y nn N h hg hn hN hz N (Int32.ofInt (0)) (by decide) (by rw [show (Int32.ofInt (0)).toInt = 0 from rfl]; omega)
  exact ⟨v, CX_ofT (by decide) rfl rfl trivial y2 y3 ⟨Nat.le_of_eq hg.2.2.2.1.symm, Nat.le_of_eq hg.2.2.2.2.symm⟩ (t1.tr y1), y4⟩
set_option maxRecDepth 100000 in
set_option maxHeartbeats 4000000 in
theorem jk_findL116 (l : Launch) (Z : Nat → Int) (y nn : Int32) (N : Nat) (h : XH) (hg : mI h) (hn : nn.toInt = N) (hN : N ≤ 8) (hz : ∀ k, k < N → (xI h 116 (8 + k)).toInt = Z k) : ∀ (m : Nat) (k : Int32), 0 ≤ k.toInt → k.toInt + m = N → ∃ v pcR L', XT l 0 0 false 190 153 6051 3 [xf 10016 116, xi (Int32.ofInt (8)), xi nn, xi y, xi k] [] h pcR L' [xi v] h ∧ XE 190 pcR [xi v] ∧ L'.length = 5 ∧ v.toInt = zfn Z y.toInt m k.toInt.toNat
  | 0, k, k0, km => by
    have t1 : XT l 0 0 false 190 153 6051 3 [xf 10016 116, xi (Int32.ofInt (8)), xi nn, xi y, xi k] [] h 29 [xf 10016 116, xi (Int32.ofInt (8)), xi nn, xi y, xi k] [xi (Int32.ofInt (-1))] h := XT_path (l := l) (fr := 0) (lo := 0) (full := false) (M := 190) (n := 153) (u := 6051) (pc := 3) (L := [xf 10016 116, xi (Int32.ofInt (8)), xi nn, xi y, xi k]) (st := []) (h := h) (inl := []) (n' := 80) (sp := [29]) (o := [1]) rfl rfl ⟨rfl, rfl, rfl⟩ rfl ⟨Nat.le_of_eq hg.2.2.2.1, Nat.le_of_eq hg.2.2.2.2⟩ ⟨trivial, (Int32.le_iff_toInt_le.mpr (by omega))⟩
    exact ⟨_, _, _, t1, ⟨_, _, _, rfl, rfl, rfl⟩, rfl, rfl⟩
  | m + 1, k, k0, km => by
    have ek := y_suc1 k0 (by omega)
    have eo : ((Int32.ofInt (8))).toInt = 8 := rfl
    have ea := y_add (a := (Int32.ofInt (8))) (b := k) (by decide) (by decide) k0 (by omega)
    have ni : ((Int32.ofInt (8)) + k).toNatClampNeg = 8 + k.toInt.toNat := by
      show ((Int32.ofInt (8)) + k).toInt.toNat = _
      omega
    have hk := hz k.toInt.toNat (by omega)
    by_cases cb1 : (xI h 116 (((Int32.ofInt (8)) + k)).toNatClampNeg) = y
    · have e_8 : (Int32.ofInt (8)).toInt = 8 := rfl
      have dcb1 : (xI h 116 (((Int32.ofInt (8)) + k)).toNatClampNeg).toInt = (y).toInt := congrArg Int32.toInt cb1
      have t2 : XT l 0 0 false 190 153 6051 3 [xf 10016 116, xi (Int32.ofInt (8)), xi nn, xi y, xi k] [] h 21 [xf 10016 116, xi (Int32.ofInt (8)), xi nn, xi y, xi k] [xi k] h := XT_path (l := l) (fr := 0) (lo := 0) (full := false) (M := 190) (n := 153) (u := 6051) (pc := 3) (L := [xf 10016 116, xi (Int32.ofInt (8)), xi nn, xi y, xi k]) (st := []) (h := h) (inl := []) (n' := 80) (sp := [21]) (o := [0, 0]) rfl rfl ⟨rfl, rfl, rfl⟩ rfl ⟨Nat.le_of_eq hg.2.2.2.1, Nat.le_of_eq hg.2.2.2.2⟩ ⟨⟨⟨trivial, (fun z => absurd (Int32.le_iff_toInt_le.mp z) (by omega))⟩, (vp_of (i := ((Int32.ofInt (8)) + k)) (n := 16) (by omega) (by omega))⟩, cb1⟩
      rw [ni] at dcb1
      have d_ : Z k.toInt.toNat = y.toInt := by rw [← hk]; exact dcb1
      exact ⟨_, _, _, t2, ⟨_, _, _, rfl, rfl, rfl⟩, rfl, by unfold zfn; rw [if_pos d_]; omega⟩
    · have e_8 : (Int32.ofInt (8)).toInt = 8 := rfl
      have dcb1 : ¬ (xI h 116 (((Int32.ofInt (8)) + k)).toNatClampNeg).toInt = (y).toInt := fun z_ => cb1 (Int32.toInt_inj.mp z_)
      have t3 : XT l 0 0 false 190 153 6051 3 [xf 10016 116, xi (Int32.ofInt (8)), xi nn, xi y, xi k] [] h 3 [xf 10016 116, xi (Int32.ofInt (8)), xi nn, xi y, xi (k + Int32.ofInt (1))] [] h := XT_path (l := l) (fr := 0) (lo := 0) (full := false) (M := 190) (n := 153) (u := 6051) (pc := 3) (L := [xf 10016 116, xi (Int32.ofInt (8)), xi nn, xi y, xi k]) (st := []) (h := h) (inl := []) (n' := 80) (sp := [3]) (o := [0, 1]) rfl rfl ⟨rfl, rfl, rfl⟩ rfl ⟨Nat.le_of_eq hg.2.2.2.1, Nat.le_of_eq hg.2.2.2.2⟩ ⟨⟨⟨trivial, (fun z => absurd (Int32.le_iff_toInt_le.mp z) (by omega))⟩, (vp_of (i := ((Int32.ofInt (8)) + k)) (n := 16) (by omega) (by omega))⟩, cb1⟩
      rw [ni] at dcb1
      have d_ : Z k.toInt.toNat ≠ y.toInt := by rw [← hk]; exact dcb1
      obtain ⟨v, pcR, L', y1, y2, y3, y4⟩ := jk_findL116 l Z y nn N h hg hn hN hz m (k + (Int32.ofInt (1))) (by omega) (by omega)
      exact ⟨v, pcR, L', t3.tr y1, y2, y3, by rw [y4, show (k + (Int32.ofInt (1))).toInt.toNat = k.toInt.toNat + 1 by omega]; exact (if_neg d_).symm⟩
set_option maxRecDepth 100000 in
set_option maxHeartbeats 4000000 in
theorem jk_find116 (l : Launch) (Z : Nat → Int) (y nn : Int32) (N : Nat) (h : XH) (hg : mI h) (hn : nn.toInt = N) (hN : N ≤ 8) (hz : ∀ k, k < N → (xI h 116 (8 + k)).toInt = Z k) : ∃ v, CX l 0 0 false 190 [xf 10016 116, xi (Int32.ofInt (8)), xi nn, xi y] h [xi v] h ∧ vHid (v.toInt = zfn Z y.toInt N 0) := by
  have t1 : XT l 0 0 false 190 153 6051 0 [xf 10016 116, xi (Int32.ofInt (8)), xi nn, xi y, xun] [] h 3 [xf 10016 116, xi (Int32.ofInt (8)), xi nn, xi y, xi (Int32.ofInt (0))] [] h := XT_path (l := l) (fr := 0) (lo := 0) (full := false) (M := 190) (n := 153) (u := 6051) (pc := 0) (L := [xf 10016 116, xi (Int32.ofInt (8)), xi nn, xi y, xun]) (st := []) (h := h) (inl := []) (n' := 80) (sp := [3]) (o := []) rfl rfl ⟨rfl, rfl, rfl⟩ rfl ⟨Nat.le_of_eq hg.2.2.2.1, Nat.le_of_eq hg.2.2.2.2⟩ trivial
  obtain ⟨v, pcR, L', y1, y2, y3, y4⟩ := jk_findL116 l Z y nn N h hg hn hN hz N (Int32.ofInt (0)) (by decide) (by rw [show (Int32.ofInt (0)).toInt = 0 from rfl]; omega)
  exact ⟨v, CX_ofT (by decide) rfl rfl trivial y2 y3 ⟨Nat.le_of_eq hg.2.2.2.1.symm, Nat.le_of_eq hg.2.2.2.2.symm⟩ (t1.tr y1), y4⟩
set_option maxRecDepth 100000 in
set_option maxHeartbeats 4000000 in
theorem jk_findL120 (l : Launch) (Z : Nat → Int) (y nn : Int32) (N : Nat) (h : XH) (hg : mI h) (hn : nn.toInt = N) (hN : N ≤ 6) (hz : ∀ k, k < N → (xI h 120 (6 + k)).toInt = Z k) : ∀ (m : Nat) (k : Int32), 0 ≤ k.toInt → k.toInt + m = N → ∃ v pcR L', XT l 0 0 false 190 153 6051 3 [xf 10012 120, xi (Int32.ofInt (6)), xi nn, xi y, xi k] [] h pcR L' [xi v] h ∧ XE 190 pcR [xi v] ∧ L'.length = 5 ∧ v.toInt = zfn Z y.toInt m k.toInt.toNat
  | 0, k, k0, km => by
    have t1 : XT l 0 0 false 190 153 6051 3 [xf 10012 120, xi (Int32.ofInt (6)), xi nn, xi y, xi k] [] h 29 [xf 10012 120, xi (Int32.ofInt (6)), xi nn, xi y, xi k] [xi (Int32.ofInt (-1))] h := XT_path (l := l) (fr := 0) (lo := 0) (full := false) (M := 190) (n := 153) (u := 6051) (pc := 3) (L := [xf 10012 120, xi (Int32.ofInt (6)), xi nn, xi y, xi k]) (st := []) (h := h) (inl := []) (n' := 80) (sp := [29]) (o := [1]) rfl rfl ⟨rfl, rfl, rfl⟩ rfl ⟨Nat.le_of_eq hg.2.2.2.1, Nat.le_of_eq hg.2.2.2.2⟩ ⟨trivial, (Int32.le_iff_toInt_le.mpr (by omega))⟩
    exact ⟨_, _, _, t1, ⟨_, _, _, rfl, rfl, rfl⟩, rfl, rfl⟩
  | m + 1, k, k0, km => by
    have ek := y_suc1 k0 (by omega)
    have eo : ((Int32.ofInt (6))).toInt = 6 := rfl
    have ea := y_add (a := (Int32.ofInt (6))) (b := k) (by decide) (by decide) k0 (by omega)
    have ni : ((Int32.ofInt (6)) + k).toNatClampNeg = 6 + k.toInt.toNat := by
      show ((Int32.ofInt (6)) + k).toInt.toNat = _
      omega
    have hk := hz k.toInt.toNat (by omega)
    by_cases cb1 : (xI h 120 (((Int32.ofInt (6)) + k)).toNatClampNeg) = y
    · have e_6 : (Int32.ofInt (6)).toInt = 6 := rfl
      have dcb1 : (xI h 120 (((Int32.ofInt (6)) + k)).toNatClampNeg).toInt = (y).toInt := congrArg Int32.toInt cb1
      have t2 : XT l 0 0 false 190 153 6051 3 [xf 10012 120, xi (Int32.ofInt (6)), xi nn, xi y, xi k] [] h 21 [xf 10012 120, xi (Int32.ofInt (6)), xi nn, xi y, xi k] [xi k] h := XT_path (l := l) (fr := 0) (lo := 0) (full := false) (M := 190) (n := 153) (u := 6051) (pc := 3) (L := [xf 10012 120, xi (Int32.ofInt (6)), xi nn, xi y, xi k]) (st := []) (h := h) (inl := []) (n' := 80) (sp := [21]) (o := [0, 0]) rfl rfl ⟨rfl, rfl, rfl⟩ rfl ⟨Nat.le_of_eq hg.2.2.2.1, Nat.le_of_eq hg.2.2.2.2⟩ ⟨⟨⟨trivial, (fun z => absurd (Int32.le_iff_toInt_le.mp z) (by omega))⟩, (vp_of (i := ((Int32.ofInt (6)) + k)) (n := 12) (by omega) (by omega))⟩, cb1⟩
      rw [ni] at dcb1
      have d_ : Z k.toInt.toNat = y.toInt := by rw [← hk]; exact dcb1
      exact ⟨_, _, _, t2, ⟨_, _, _, rfl, rfl, rfl⟩, rfl, by unfold zfn; rw [if_pos d_]; omega⟩
    · have e_6 : (Int32.ofInt (6)).toInt = 6 := rfl
      have dcb1 : ¬ (xI h 120 (((Int32.ofInt (6)) + k)).toNatClampNeg).toInt = (y).toInt := fun z_ => cb1 (Int32.toInt_inj.mp z_)
      have t3 : XT l 0 0 false 190 153 6051 3 [xf 10012 120, xi (Int32.ofInt (6)), xi nn, xi y, xi k] [] h 3 [xf 10012 120, xi (Int32.ofInt (6)), xi nn, xi y, xi (k + Int32.ofInt (1))] [] h := XT_path (l := l) (fr := 0) (lo := 0) (full := false) (M := 190) (n := 153) (u := 6051) (pc := 3) (L := [xf 10012 120, xi (Int32.ofInt (6)), xi nn, xi y, xi k]) (st := []) (h := h) (inl := []) (n' := 80) (sp := [3]) (o := [0, 1]) rfl rfl ⟨rfl, rfl, rfl⟩ rfl ⟨Nat.le_of_eq hg.2.2.2.1, Nat.le_of_eq hg.2.2.2.2⟩ ⟨⟨⟨trivial, (fun z => absurd (Int32.le_iff_toInt_le.mp z) (by omega))⟩, (vp_of (i := ((Int32.ofInt (6)) + k)) (n := 12) (by omega) (by omega))⟩, cb1⟩
      rw [ni] at dcb1
      have d_ : Z k.toInt.toNat ≠ y.toInt := by rw [← hk]; exact dcb1
      obtain ⟨v, pcR, L', y1, y2, y3, y4⟩ := jk_findL120 l Z y nn N h hg hn hN hz m (k + (Int32.ofInt (1))) (by omega) (by omega)
      exact ⟨v, pcR, L', t3.tr y1, y2, y3, by rw [y4, show (k + (Int32.ofInt (1))).toInt.toNat = k.toInt.toNat + 1 by omega]; exact (if_neg d_).symm⟩
set_option maxRecDepth 100000 in
set_option maxHeartbeats 4000000 in
theorem jk_find120 (l : Launch) (Z : Nat → Int) (y nn : Int32) (N : Nat) (h : XH) (hg : mI h) (hn : nn.toInt = N) (hN : N ≤ 6) (hz : ∀ k, k < N → (xI h 120 (6 + k)).toInt = Z k) : ∃ v, CX l 0 0 false 190 [xf 10012 120, xi (Int32.ofInt (6)), xi nn, xi y] h [xi v] h ∧ vHid (v.toInt = zfn Z y.toInt N 0) := by
  have t1 : XT l 0 0 false 190 153 6051 0 [xf 10012 120, xi (Int32.ofInt (6)), xi nn, xi y, xun] [] h 3 [xf 10012 120, xi (Int32.ofInt (6)), xi nn, xi y, xi (Int32.ofInt (0))] [] h := XT_path (l := l) (fr := 0) (lo := 0) (full := false) (M := 190) (n := 153) (u := 6051) (pc := 0) (L := [xf 10012 120, xi (Int32.ofInt (6)), xi nn, xi y, xun]) (st := []) (h := h) (inl := []) (n' := 80) (sp := [3]) (o := []) rfl rfl ⟨rfl, rfl, rfl⟩ rfl ⟨Nat.le_of_eq hg.2.2.2.1, Nat.le_of_eq hg.2.2.2.2⟩ trivial
  obtain ⟨v, pcR, L', y1, y2, y3, y4⟩ := jk_findL120 l Z y nn N h hg hn hN hz N (Int32.ofInt (0)) (by decide) (by rw [show (Int32.ofInt (0)).toInt = 0 from rfl]; omega)
  exact ⟨v, CX_ofT (by decide) rfl rfl trivial y2 y3 ⟨Nat.le_of_eq hg.2.2.2.1.symm, Nat.le_of_eq hg.2.2.2.2.symm⟩ (t1.tr y1), y4⟩
set_option maxRecDepth 100000 in
set_option maxHeartbeats 4000000 in
theorem jk_joiL (l : Launch) (O P : Nat → Int) (y z nn : Int32) (N : Nat) (h : XH) (hg : mI h) (hn : nn.toInt = N) (hN : N ≤ 9) (ho : ∀ k, k < N → (xI h 113 (9 + k)).toInt = O k) (hp : ∀ k, k < N → (xI h 114 (9 + k)).toInt = P k) : ∀ (m : Nat) (k : Int32) (x6 x7 : XV), 0 ≤ k.toInt → k.toInt + m = N → ∃ v pcR L', XT l 0 0 false 195 153 6051 3 [xf 13 104, xi (Int32.ofInt (9)), xi nn, xi y, xi z, xi k, x6, x7] [] h pcR L' [xi v] h ∧ XE 195 pcR [xi v] ∧ L'.length = 8 ∧ v.toInt = zjn O P y.toInt z.toInt m k.toInt.toNat
  | 0, k, x6, x7, k0, km => by
    have t1 : XT l 0 0 false 195 153 6051 3 [xf 13 104, xi (Int32.ofInt (9)), xi nn, xi y, xi z, xi k, x6, x7] [] h 67 [xf 13 104, xi (Int32.ofInt (9)), xi nn, xi y, xi z, xi k, x6, x7] [xi (Int32.ofInt (-1))] h := XT_path (l := l) (fr := 0) (lo := 0) (full := false) (M := 195) (n := 153) (u := 6051) (pc := 3) (L := [xf 13 104, xi (Int32.ofInt (9)), xi nn, xi y, xi z, xi k, x6, x7]) (st := []) (h := h) (inl := []) (n' := 80) (sp := [67]) (o := [1]) rfl rfl ⟨rfl, rfl, rfl⟩ rfl ⟨Nat.le_of_eq hg.2.2.2.1, Nat.le_of_eq hg.2.2.2.2⟩ ⟨trivial, (Int32.le_iff_toInt_le.mpr (by omega))⟩
    exact ⟨_, _, _, t1, ⟨_, _, _, rfl, rfl, rfl⟩, rfl, rfl⟩
  | m + 1, k, x6, x7, k0, km => by
    have ek := y_suc1 k0 (by omega)
    have eo : ((Int32.ofInt (9))).toInt = 9 := rfl
    have ea := y_add (a := (Int32.ofInt (9))) (b := k) (by decide) (by decide) k0 (by omega)
    have ni : ((Int32.ofInt (9)) + k).toNatClampNeg = 9 + k.toInt.toNat := by
      show ((Int32.ofInt (9)) + k).toInt.toNat = _
      omega
    have h1 : (xI h 113 ((Int32.ofInt (9)) + k).toNatClampNeg).toInt = O k.toInt.toNat := by rw [ni]; exact ho k.toInt.toNat (by omega)
    have h2 : (xI h 114 ((Int32.ofInt (9)) + k).toNatClampNeg).toInt = P k.toInt.toNat := by rw [ni]; exact hp k.toInt.toNat (by omega)
    by_cases cb1 : (xI h (xR h 104 28) (((Int32.ofInt (9)) + k)).toNatClampNeg) = y
    · have e_9 : (Int32.ofInt (9)).toInt = 9 := rfl
      have cb1r := cb1
      rw [vref hg.1 (rfl : vRf 104 28 = [113])] at cb1r
      have dcb1 : (xI h 113 (((Int32.ofInt (9)) + k)).toNatClampNeg).toInt = (y).toInt := congrArg Int32.toInt cb1r
      by_cases cb2 : (xI h (xR h 104 29) (((Int32.ofInt (9)) + k)).toNatClampNeg) = z
      · have e_9 : (Int32.ofInt (9)).toInt = 9 := rfl
        have cb2r := cb2
        rw [vref hg.1 (rfl : vRf 104 29 = [114])] at cb2r
        have dcb2 : (xI h 114 (((Int32.ofInt (9)) + k)).toNatClampNeg).toInt = (z).toInt := congrArg Int32.toInt cb2r
        have t3 : XT l 0 0 false 195 153 6051 3 [xf 13 104, xi (Int32.ofInt (9)), xi nn, xi y, xi z, xi k, x6, x7] [] h 59 [xf 13 104, xi (Int32.ofInt (9)), xi nn, xi y, xi z, xi k, xi (xI h (xR h 104 28) (((Int32.ofInt (9)) + k)).toNatClampNeg), xi (xI h (xR h 104 29) (((Int32.ofInt (9)) + k)).toNatClampNeg)] [xi k] h := XT_path (l := l) (fr := 0) (lo := 0) (full := false) (M := 195) (n := 153) (u := 6051) (pc := 3) (L := [xf 13 104, xi (Int32.ofInt (9)), xi nn, xi y, xi z, xi k, x6, x7]) (st := []) (h := h) (inl := []) (n' := 80) (sp := [59]) (o := [0, 0, 1]) rfl rfl ⟨rfl, rfl, rfl⟩ rfl ⟨Nat.le_of_eq hg.2.2.2.1, Nat.le_of_eq hg.2.2.2.2⟩ ⟨⟨⟨⟨⟨⟨⟨trivial, (fun z => absurd (Int32.le_iff_toInt_le.mp z) (by omega))⟩, (vnn hg.1 (rfl : vRf 104 28 = [113]) (by decide))⟩, (vp_of (i := ((Int32.ofInt (9)) + k)) (n := 18) (by omega) (by omega))⟩, (vnn hg.1 (rfl : vRf 104 29 = [114]) (by decide))⟩, (vp_of (i := ((Int32.ofInt (9)) + k)) (n := 18) (by omega) (by omega))⟩, cb1⟩, cb2⟩
        rw [vref hg.1 (rfl : vRf 104 28 = [113]), vref hg.1 (rfl : vRf 104 29 = [114])] at t3
        exact ⟨_, _, _, t3, ⟨_, _, _, rfl, rfl, rfl⟩, rfl, by unfold zjn; rw [if_pos (by omega)]; omega⟩
      · have e_9 : (Int32.ofInt (9)).toInt = 9 := rfl
        have cb2r := cb2
        rw [vref hg.1 (rfl : vRf 104 29 = [114])] at cb2r
        have dcb2 : ¬ (xI h 114 (((Int32.ofInt (9)) + k)).toNatClampNeg).toInt = (z).toInt := fun z_ => cb2r (Int32.toInt_inj.mp z_)
        by_cases cb4 : (xI h (xR h 104 28) (((Int32.ofInt (9)) + k)).toNatClampNeg) = z
        · have e_9 : (Int32.ofInt (9)).toInt = 9 := rfl
          have cb4r := cb4
          rw [vref hg.1 (rfl : vRf 104 28 = [113])] at cb4r
          have dcb4 : (xI h 113 (((Int32.ofInt (9)) + k)).toNatClampNeg).toInt = (z).toInt := congrArg Int32.toInt cb4r
          by_cases cb5 : (xI h (xR h 104 29) (((Int32.ofInt (9)) + k)).toNatClampNeg) = y
          · have e_9 : (Int32.ofInt (9)).toInt = 9 := rfl
            have cb5r := cb5
            rw [vref hg.1 (rfl : vRf 104 29 = [114])] at cb5r
            have dcb5 : (xI h 114 (((Int32.ofInt (9)) + k)).toNatClampNeg).toInt = (y).toInt := congrArg Int32.toInt cb5r
            have t6 : XT l 0 0 false 195 153 6051 3 [xf 13 104, xi (Int32.ofInt (9)), xi nn, xi y, xi z, xi k, x6, x7] [] h 59 [xf 13 104, xi (Int32.ofInt (9)), xi nn, xi y, xi z, xi k, xi (xI h (xR h 104 28) (((Int32.ofInt (9)) + k)).toNatClampNeg), xi (xI h (xR h 104 29) (((Int32.ofInt (9)) + k)).toNatClampNeg)] [xi k] h := XT_path (l := l) (fr := 0) (lo := 0) (full := false) (M := 195) (n := 153) (u := 6051) (pc := 3) (L := [xf 13 104, xi (Int32.ofInt (9)), xi nn, xi y, xi z, xi k, x6, x7]) (st := []) (h := h) (inl := []) (n' := 80) (sp := [59]) (o := [0, 0, 0, 0, 0]) rfl rfl ⟨rfl, rfl, rfl⟩ rfl ⟨Nat.le_of_eq hg.2.2.2.1, Nat.le_of_eq hg.2.2.2.2⟩ ⟨⟨⟨⟨⟨⟨⟨⟨⟨trivial, (fun z => absurd (Int32.le_iff_toInt_le.mp z) (by omega))⟩, (vnn hg.1 (rfl : vRf 104 28 = [113]) (by decide))⟩, (vp_of (i := ((Int32.ofInt (9)) + k)) (n := 18) (by omega) (by omega))⟩, (vnn hg.1 (rfl : vRf 104 29 = [114]) (by decide))⟩, (vp_of (i := ((Int32.ofInt (9)) + k)) (n := 18) (by omega) (by omega))⟩, cb1⟩, cb2⟩, cb4⟩, cb5⟩
            rw [vref hg.1 (rfl : vRf 104 28 = [113]), vref hg.1 (rfl : vRf 104 29 = [114])] at t6
            exact ⟨_, _, _, t6, ⟨_, _, _, rfl, rfl, rfl⟩, rfl, by unfold zjn; rw [if_pos (by omega)]; omega⟩
          · have e_9 : (Int32.ofInt (9)).toInt = 9 := rfl
            have cb5r := cb5
            rw [vref hg.1 (rfl : vRf 104 29 = [114])] at cb5r
            have dcb5 : ¬ (xI h 114 (((Int32.ofInt (9)) + k)).toNatClampNeg).toInt = (y).toInt := fun z_ => cb5r (Int32.toInt_inj.mp z_)
            have t7 : XT l 0 0 false 195 153 6051 3 [xf 13 104, xi (Int32.ofInt (9)), xi nn, xi y, xi z, xi k, x6, x7] [] h 3 [xf 13 104, xi (Int32.ofInt (9)), xi nn, xi y, xi z, xi (k + Int32.ofInt (1)), xi (xI h (xR h 104 28) (((Int32.ofInt (9)) + k)).toNatClampNeg), xi (xI h (xR h 104 29) (((Int32.ofInt (9)) + k)).toNatClampNeg)] [] h := XT_path (l := l) (fr := 0) (lo := 0) (full := false) (M := 195) (n := 153) (u := 6051) (pc := 3) (L := [xf 13 104, xi (Int32.ofInt (9)), xi nn, xi y, xi z, xi k, x6, x7]) (st := []) (h := h) (inl := []) (n' := 80) (sp := [3]) (o := [0, 0, 0, 0, 1]) rfl rfl ⟨rfl, rfl, rfl⟩ rfl ⟨Nat.le_of_eq hg.2.2.2.1, Nat.le_of_eq hg.2.2.2.2⟩ ⟨⟨⟨⟨⟨⟨⟨⟨⟨trivial, (fun z => absurd (Int32.le_iff_toInt_le.mp z) (by omega))⟩, (vnn hg.1 (rfl : vRf 104 28 = [113]) (by decide))⟩, (vp_of (i := ((Int32.ofInt (9)) + k)) (n := 18) (by omega) (by omega))⟩, (vnn hg.1 (rfl : vRf 104 29 = [114]) (by decide))⟩, (vp_of (i := ((Int32.ofInt (9)) + k)) (n := 18) (by omega) (by omega))⟩, cb1⟩, cb2⟩, cb4⟩, cb5⟩
            rw [vref hg.1 (rfl : vRf 104 28 = [113]), vref hg.1 (rfl : vRf 104 29 = [114])] at t7
            obtain ⟨v, pcR, L', y1, y2, y3, y4⟩ := jk_joiL l O P y z nn N h hg hn hN ho hp m (k + (Int32.ofInt (1))) _ _ (by omega) (by omega)
            exact ⟨v, pcR, L', t7.tr y1, y2, y3, by rw [y4, show (k + (Int32.ofInt (1))).toInt.toNat = k.toInt.toNat + 1 by omega]; exact (if_neg (by omega)).symm⟩
        · have e_9 : (Int32.ofInt (9)).toInt = 9 := rfl
          have cb4r := cb4
          rw [vref hg.1 (rfl : vRf 104 28 = [113])] at cb4r
          have dcb4 : ¬ (xI h 113 (((Int32.ofInt (9)) + k)).toNatClampNeg).toInt = (z).toInt := fun z_ => cb4r (Int32.toInt_inj.mp z_)
          have t8 : XT l 0 0 false 195 153 6051 3 [xf 13 104, xi (Int32.ofInt (9)), xi nn, xi y, xi z, xi k, x6, x7] [] h 3 [xf 13 104, xi (Int32.ofInt (9)), xi nn, xi y, xi z, xi (k + Int32.ofInt (1)), xi (xI h (xR h 104 28) (((Int32.ofInt (9)) + k)).toNatClampNeg), xi (xI h (xR h 104 29) (((Int32.ofInt (9)) + k)).toNatClampNeg)] [] h := XT_path (l := l) (fr := 0) (lo := 0) (full := false) (M := 195) (n := 153) (u := 6051) (pc := 3) (L := [xf 13 104, xi (Int32.ofInt (9)), xi nn, xi y, xi z, xi k, x6, x7]) (st := []) (h := h) (inl := []) (n' := 80) (sp := [3]) (o := [0, 0, 0, 1]) rfl rfl ⟨rfl, rfl, rfl⟩ rfl ⟨Nat.le_of_eq hg.2.2.2.1, Nat.le_of_eq hg.2.2.2.2⟩ ⟨⟨⟨⟨⟨⟨⟨⟨trivial, (fun z => absurd (Int32.le_iff_toInt_le.mp z) (by omega))⟩, (vnn hg.1 (rfl : vRf 104 28 = [113]) (by decide))⟩, (vp_of (i := ((Int32.ofInt (9)) + k)) (n := 18) (by omega) (by omega))⟩, (vnn hg.1 (rfl : vRf 104 29 = [114]) (by decide))⟩, (vp_of (i := ((Int32.ofInt (9)) + k)) (n := 18) (by omega) (by omega))⟩, cb1⟩, cb2⟩, cb4⟩
          rw [vref hg.1 (rfl : vRf 104 28 = [113]), vref hg.1 (rfl : vRf 104 29 = [114])] at t8
          obtain ⟨v, pcR, L', y1, y2, y3, y4⟩ := jk_joiL l O P y z nn N h hg hn hN ho hp m (k + (Int32.ofInt (1))) _ _ (by omega) (by omega)
          exact ⟨v, pcR, L', t8.tr y1, y2, y3, by rw [y4, show (k + (Int32.ofInt (1))).toInt.toNat = k.toInt.toNat + 1 by omega]; exact (if_neg (by omega)).symm⟩
    · have e_9 : (Int32.ofInt (9)).toInt = 9 := rfl
      have cb1r := cb1
      rw [vref hg.1 (rfl : vRf 104 28 = [113])] at cb1r
      have dcb1 : ¬ (xI h 113 (((Int32.ofInt (9)) + k)).toNatClampNeg).toInt = (y).toInt := fun z_ => cb1r (Int32.toInt_inj.mp z_)
      by_cases cb9 : (xI h (xR h 104 28) (((Int32.ofInt (9)) + k)).toNatClampNeg) = z
      · have e_9 : (Int32.ofInt (9)).toInt = 9 := rfl
        have cb9r := cb9
        rw [vref hg.1 (rfl : vRf 104 28 = [113])] at cb9r
        have dcb9 : (xI h 113 (((Int32.ofInt (9)) + k)).toNatClampNeg).toInt = (z).toInt := congrArg Int32.toInt cb9r
        by_cases cb10 : (xI h (xR h 104 29) (((Int32.ofInt (9)) + k)).toNatClampNeg) = y
        · have e_9 : (Int32.ofInt (9)).toInt = 9 := rfl
          have cb10r := cb10
          rw [vref hg.1 (rfl : vRf 104 29 = [114])] at cb10r
          have dcb10 : (xI h 114 (((Int32.ofInt (9)) + k)).toNatClampNeg).toInt = (y).toInt := congrArg Int32.toInt cb10r
          have t11 : XT l 0 0 false 195 153 6051 3 [xf 13 104, xi (Int32.ofInt (9)), xi nn, xi y, xi z, xi k, x6, x7] [] h 59 [xf 13 104, xi (Int32.ofInt (9)), xi nn, xi y, xi z, xi k, xi (xI h (xR h 104 28) (((Int32.ofInt (9)) + k)).toNatClampNeg), xi (xI h (xR h 104 29) (((Int32.ofInt (9)) + k)).toNatClampNeg)] [xi k] h := XT_path (l := l) (fr := 0) (lo := 0) (full := false) (M := 195) (n := 153) (u := 6051) (pc := 3) (L := [xf 13 104, xi (Int32.ofInt (9)), xi nn, xi y, xi z, xi k, x6, x7]) (st := []) (h := h) (inl := []) (n' := 80) (sp := [59]) (o := [0, 1, 0, 0]) rfl rfl ⟨rfl, rfl, rfl⟩ rfl ⟨Nat.le_of_eq hg.2.2.2.1, Nat.le_of_eq hg.2.2.2.2⟩ ⟨⟨⟨⟨⟨⟨⟨⟨trivial, (fun z => absurd (Int32.le_iff_toInt_le.mp z) (by omega))⟩, (vnn hg.1 (rfl : vRf 104 28 = [113]) (by decide))⟩, (vp_of (i := ((Int32.ofInt (9)) + k)) (n := 18) (by omega) (by omega))⟩, (vnn hg.1 (rfl : vRf 104 29 = [114]) (by decide))⟩, (vp_of (i := ((Int32.ofInt (9)) + k)) (n := 18) (by omega) (by omega))⟩, cb1⟩, cb9⟩, cb10⟩
          rw [vref hg.1 (rfl : vRf 104 28 = [113]), vref hg.1 (rfl : vRf 104 29 = [114])] at t11
          exact ⟨_, _, _, t11, ⟨_, _, _, rfl, rfl, rfl⟩, rfl, by unfold zjn; rw [if_pos (by omega)]; omega⟩
        · have e_9 : (Int32.ofInt (9)).toInt = 9 := rfl
          have cb10r := cb10
          rw [vref hg.1 (rfl : vRf 104 29 = [114])] at cb10r
          have dcb10 : ¬ (xI h 114 (((Int32.ofInt (9)) + k)).toNatClampNeg).toInt = (y).toInt := fun z_ => cb10r (Int32.toInt_inj.mp z_)
          have t12 : XT l 0 0 false 195 153 6051 3 [xf 13 104, xi (Int32.ofInt (9)), xi nn, xi y, xi z, xi k, x6, x7] [] h 3 [xf 13 104, xi (Int32.ofInt (9)), xi nn, xi y, xi z, xi (k + Int32.ofInt (1)), xi (xI h (xR h 104 28) (((Int32.ofInt (9)) + k)).toNatClampNeg), xi (xI h (xR h 104 29) (((Int32.ofInt (9)) + k)).toNatClampNeg)] [] h := XT_path (l := l) (fr := 0) (lo := 0) (full := false) (M := 195) (n := 153) (u := 6051) (pc := 3) (L := [xf 13 104, xi (Int32.ofInt (9)), xi nn, xi y, xi z, xi k, x6, x7]) (st := []) (h := h) (inl := []) (n' := 80) (sp := [3]) (o := [0, 1, 0, 1]) rfl rfl ⟨rfl, rfl, rfl⟩ rfl ⟨Nat.le_of_eq hg.2.2.2.1, Nat.le_of_eq hg.2.2.2.2⟩ ⟨⟨⟨⟨⟨⟨⟨⟨trivial, (fun z => absurd (Int32.le_iff_toInt_le.mp z) (by omega))⟩, (vnn hg.1 (rfl : vRf 104 28 = [113]) (by decide))⟩, (vp_of (i := ((Int32.ofInt (9)) + k)) (n := 18) (by omega) (by omega))⟩, (vnn hg.1 (rfl : vRf 104 29 = [114]) (by decide))⟩, (vp_of (i := ((Int32.ofInt (9)) + k)) (n := 18) (by omega) (by omega))⟩, cb1⟩, cb9⟩, cb10⟩
          rw [vref hg.1 (rfl : vRf 104 28 = [113]), vref hg.1 (rfl : vRf 104 29 = [114])] at t12
          obtain ⟨v, pcR, L', y1, y2, y3, y4⟩ := jk_joiL l O P y z nn N h hg hn hN ho hp m (k + (Int32.ofInt (1))) _ _ (by omega) (by omega)
          exact ⟨v, pcR, L', t12.tr y1, y2, y3, by rw [y4, show (k + (Int32.ofInt (1))).toInt.toNat = k.toInt.toNat + 1 by omega]; exact (if_neg (by omega)).symm⟩
      · have e_9 : (Int32.ofInt (9)).toInt = 9 := rfl
        have cb9r := cb9
        rw [vref hg.1 (rfl : vRf 104 28 = [113])] at cb9r
        have dcb9 : ¬ (xI h 113 (((Int32.ofInt (9)) + k)).toNatClampNeg).toInt = (z).toInt := fun z_ => cb9r (Int32.toInt_inj.mp z_)
        have t13 : XT l 0 0 false 195 153 6051 3 [xf 13 104, xi (Int32.ofInt (9)), xi nn, xi y, xi z, xi k, x6, x7] [] h 3 [xf 13 104, xi (Int32.ofInt (9)), xi nn, xi y, xi z, xi (k + Int32.ofInt (1)), xi (xI h (xR h 104 28) (((Int32.ofInt (9)) + k)).toNatClampNeg), xi (xI h (xR h 104 29) (((Int32.ofInt (9)) + k)).toNatClampNeg)] [] h := XT_path (l := l) (fr := 0) (lo := 0) (full := false) (M := 195) (n := 153) (u := 6051) (pc := 3) (L := [xf 13 104, xi (Int32.ofInt (9)), xi nn, xi y, xi z, xi k, x6, x7]) (st := []) (h := h) (inl := []) (n' := 80) (sp := [3]) (o := [0, 1, 1]) rfl rfl ⟨rfl, rfl, rfl⟩ rfl ⟨Nat.le_of_eq hg.2.2.2.1, Nat.le_of_eq hg.2.2.2.2⟩ ⟨⟨⟨⟨⟨⟨⟨trivial, (fun z => absurd (Int32.le_iff_toInt_le.mp z) (by omega))⟩, (vnn hg.1 (rfl : vRf 104 28 = [113]) (by decide))⟩, (vp_of (i := ((Int32.ofInt (9)) + k)) (n := 18) (by omega) (by omega))⟩, (vnn hg.1 (rfl : vRf 104 29 = [114]) (by decide))⟩, (vp_of (i := ((Int32.ofInt (9)) + k)) (n := 18) (by omega) (by omega))⟩, cb1⟩, cb9⟩
        rw [vref hg.1 (rfl : vRf 104 28 = [113]), vref hg.1 (rfl : vRf 104 29 = [114])] at t13
        obtain ⟨v, pcR, L', y1, y2, y3, y4⟩ := jk_joiL l O P y z nn N h hg hn hN ho hp m (k + (Int32.ofInt (1))) _ _ (by omega) (by omega)
        exact ⟨v, pcR, L', t13.tr y1, y2, y3, by rw [y4, show (k + (Int32.ofInt (1))).toInt.toNat = k.toInt.toNat + 1 by omega]; exact (if_neg (by omega)).symm⟩
set_option maxRecDepth 100000 in
set_option maxHeartbeats 4000000 in
theorem jk_joi (l : Launch) (O P : Nat → Int) (y z nn : Int32) (N : Nat) (h : XH) (hg : mI h) (hn : nn.toInt = N) (hN : N ≤ 9) (ho : ∀ k, k < N → (xI h 113 (9 + k)).toInt = O k) (hp : ∀ k, k < N → (xI h 114 (9 + k)).toInt = P k) : ∃ v, CX l 0 0 false 195 [xf 13 104, xi (Int32.ofInt (9)), xi nn, xi y, xi z] h [xi v] h ∧ vHid (v.toInt = zjn O P y.toInt z.toInt N 0) := by
  have t1 : XT l 0 0 false 195 153 6051 0 [xf 13 104, xi (Int32.ofInt (9)), xi nn, xi y, xi z, xun, xun, xun] [] h 3 [xf 13 104, xi (Int32.ofInt (9)), xi nn, xi y, xi z, xi (Int32.ofInt (0)), xun, xun] [] h := XT_path (l := l) (fr := 0) (lo := 0) (full := false) (M := 195) (n := 153) (u := 6051) (pc := 0) (L := [xf 13 104, xi (Int32.ofInt (9)), xi nn, xi y, xi z, xun, xun, xun]) (st := []) (h := h) (inl := []) (n' := 80) (sp := [3]) (o := []) rfl rfl ⟨rfl, rfl, rfl⟩ rfl ⟨Nat.le_of_eq hg.2.2.2.1, Nat.le_of_eq hg.2.2.2.2⟩ trivial
  obtain ⟨v, pcR, L', y1, y2, y3, y4⟩ := jk_joiL l O P y z nn N h hg hn hN ho hp N (Int32.ofInt (0)) xun xun (by decide) (by rw [show (Int32.ofInt (0)).toInt = 0 from rfl]; omega)
  exact ⟨v, CX_ofT (by decide) rfl rfl trivial y2 y3 ⟨Nat.le_of_eq hg.2.2.2.1.symm, Nat.le_of_eq hg.2.2.2.2.symm⟩ (t1.tr y1), y4⟩
set_option maxRecDepth 100000 in
set_option maxHeartbeats 4000000 in
theorem jk_new109 (l : Launch) (b : Nat → Int) (n q : Nat) (Z : Nat → Int) (nn : Int32) (N : Nat) (h : XH) (hg : mI h) (jt : jT b n q h) (hn : nn.toInt = N) (hN : N < 6) (hz : ∀ k, k < N → (xI h 109 (6 + k)).toInt = Z k) : ∃ v h', CX l 2 47 false 189 [xf 13 104, xf 10012 109, xi (Int32.ofInt (6)), xi nn] h [xi v] h' ∧ mT ([(104, 4, false), (104, 5, false), (104, 7, false), (104, 8, false), (104, 9, false), (104, 10, false), (104, 11, false), (109, 0, true)], []) h h' ∧ ((vHid ((sNn b n q (zfn Z (tkv b n q) N 0)) = 0) ∧ v = (Int32.ofInt (1)) ∧ jT b n (nxt b n q) h' ∧ vHid ((xI h' 109 (6 + N)).toInt = tkv b n q) ∧ (∀ k, k ≠ 6 + N → xI h' 109 k = xI h 109 k)) ∨ (vHid (¬ (sNn b n q (zfn Z (tkv b n q) N 0)) = 0) ∧ v = (Int32.ofInt (0)) ∧ jB b n (sNn b n q (zfn Z (tkv b n q) N 0)) q h')) := by
  obtain ⟨jr, hn7, hq, jq, je, jk, jf, jp⟩ := id jt
  have kn := sKw_w jk
  have zb := zfn_b (Z := Z) (x := tkv b n q) N 0
  have b10 : 0 ≤ (xI h 104 10).toInt ∧ (xI h 104 10).toInt ≤ 700 := vbnd hg.1 104 10
  have eo : ((Int32.ofInt (6))).toInt = 6 := rfl
  have ea := y_add (a := (Int32.ofInt (6))) (b := nn) (by decide) (by decide) (by omega) (by omega)
  by_cases cb1 : (xI h 104 8) = (Int32.ofInt (2))
  · have e_2 : (Int32.ofInt (2)).toInt = 2 := rfl
    have dcb1 : (xI h 104 8).toInt = (Int32.ofInt (2)).toInt := congrArg Int32.toInt cb1
    have t2 : XT l 2 47 false 189 153 6051 0 [xf 13 104, xf 10012 109, xi (Int32.ofInt (6)), xi nn] [] h 21 [xf 13 104, xf 10012 109, xi (Int32.ofInt (6)), xi nn] [xi (xI h 104 9), xi nn, xi (Int32.ofInt (6)), xf 10012 109] h := XT_path (l := l) (fr := 2) (lo := 47) (full := false) (M := 189) (n := 153) (u := 6051) (pc := 0) (L := [xf 13 104, xf 10012 109, xi (Int32.ofInt (6)), xi nn]) (st := []) (h := h) (inl := [187]) (n' := 120) (sp := [21]) (o := [1]) rfl rfl ⟨rfl, rfl, rfl⟩ rfl ⟨Nat.le_of_eq hg.2.2.2.1, Nat.le_of_eq hg.2.2.2.2⟩ ⟨trivial, cb1⟩
    have wv : (xI h 104 9).toInt = tkv b n q := by omega
    obtain ⟨v1, c1, e1⟩ := jk_find109 l Z (xI h 104 9) nn N h hg hn (by omega) hz
    have e1 := e1.out
    rw [wv] at e1
    have t3 : XT l 2 47 false 189 153 6051 21 [xf 13 104, xf 10012 109, xi (Int32.ofInt (6)), xi nn] [xi (xI h 104 9), xi nn, xi (Int32.ofInt (6)), xf 10012 109] h 24 [xf 13 104, xf 10012 109, xi (Int32.ofInt (6)), xi nn] [xi v1] h := XT_call (l := l) (fr := 2) (lo := 47) (full := false) (M := 189) (n := 153) (u := 6051) (pc := 21) (L := [xf 13 104, xf 10012 109, xi (Int32.ofInt (6)), xi nn]) (st := [xi (xI h 104 9), xi nn, xi (Int32.ofInt (6)), xf 10012 109]) (h := h) (i := .invokestatic 190) (aux := 4) (nx := 24) (K := 190) (vs := [xf 10012 109, xi (Int32.ofInt (6)), xi nn, xi (xI h 104 9)]) (rs := [xi v1]) (rest := []) rfl rfl rfl rfl rfl rfl c1 (by decide) (by decide) (Nat.le_of_ble_eq_true rfl) ⟨Nat.le_of_eq hg.2.2.2.1, Nat.le_of_eq hg.2.2.2.2⟩
    have t4 := t2.tr t3
    by_cases cb5 : v1 < 0
    · have e_0 : (0 : Int32).toInt = 0 := rfl
      have dcb5 : (v1).toInt < (0 : Int32).toInt := Int32.lt_iff_toInt_lt.mp cb5
      have t6 : XT l 2 47 false 189 153 6051 24 [xf 13 104, xf 10012 109, xi (Int32.ofInt (6)), xi nn] [xi v1] h 43 [xf 13 104, xf 10012 109, xi (Int32.ofInt (6)), xi nn] [xf 13 104] (xsetI h 109 (((Int32.ofInt (6)) + nn)).toNatClampNeg (xI h 104 9)) := XT_path (l := l) (fr := 2) (lo := 47) (full := false) (M := 189) (n := 153) (u := 6051) (pc := 24) (L := [xf 13 104, xf 10012 109, xi (Int32.ofInt (6)), xi nn]) (st := [xi v1]) (h := h) (inl := [187]) (n' := 120) (sp := [43]) (o := [1]) rfl rfl ⟨rfl, rfl, rfl⟩ rfl ⟨Nat.le_of_eq hg.2.2.2.1, Nat.le_of_eq hg.2.2.2.2⟩ ⟨⟨trivial, cb5⟩, (vp_of (i := ((Int32.ofInt (6)) + nn)) (n := 12) (by omega) (by omega))⟩
      have t7 := t4.tr t6
      have es : (sNn b n q (zfn Z (tkv b n q) N 0)) = 0 := by unfold sNn; rw [if_pos (by omega), if_pos (by omega)]
      have G0 : mT ([(104, 4, false), (104, 5, false), (104, 7, false), (104, 8, false), (104, 9, false), (104, 10, false), (104, 11, false), (109, 0, true)], []) h (xsetI h 109 (((Int32.ofInt (6)) + nn)).toNatClampNeg (xI h 104 9)) := ((mT.rf hg) : mT ([(104, 4, false), (104, 5, false), (104, 7, false), (104, 8, false), (104, 9, false), (104, 10, false), (104, 11, false), (109, 0, true)], []) h h).set (c := 109) (k := (((Int32.ofInt (6)) + nn)).toNatClampNeg) (v := (xI h 104 9)) (by rw [vI_u (c := 109) (q := (-2147483648, 2147483647)) (by decide +kernel) (by decide +kernel)]; exact i32r_of _) (swj_s rfl (by show 6 ≤ (((Int32.ofInt (6)) + nn)).toInt.toNat; omega))
      obtain ⟨h1, c2, g1, j1⟩ := jk_adv l b n q (xsetI h 109 (((Int32.ofInt (6)) + nn)).toNatClampNeg (xI h 104 9)) G0.1 (jt.fr (fun k hk => yI_c (by decide)) (fun k => yI_c (by decide)))
      have t8 : XT l 2 47 false 189 153 6051 43 [xf 13 104, xf 10012 109, xi (Int32.ofInt (6)), xi nn] [xf 13 104] (xsetI h 109 (((Int32.ofInt (6)) + nn)).toNatClampNeg (xI h 104 9)) 46 [xf 13 104, xf 10012 109, xi (Int32.ofInt (6)), xi nn] [] h1 := XT_call (l := l) (fr := 2) (lo := 47) (full := false) (M := 189) (n := 153) (u := 6051) (pc := 43) (L := [xf 13 104, xf 10012 109, xi (Int32.ofInt (6)), xi nn]) (st := [xf 13 104]) (h := (xsetI h 109 (((Int32.ofInt (6)) + nn)).toNatClampNeg (xI h 104 9))) (i := .invokevirtual 180) (aux := 1) (nx := 46) (K := 180) (vs := [xf 13 104]) (rs := []) (rest := []) rfl rfl rfl rfl rfl rfl c2 (by decide) (by decide) (Nat.le_of_ble_eq_true rfl) ⟨Nat.le_of_eq g1.1.2.2.2.1, Nat.le_of_eq g1.1.2.2.2.2⟩
      have t9 := t7.tr t8
      have t10 : XT l 2 47 false 189 153 6051 46 [xf 13 104, xf 10012 109, xi (Int32.ofInt (6)), xi nn] [] h1 47 [xf 13 104, xf 10012 109, xi (Int32.ofInt (6)), xi nn] [xi (Int32.ofInt (1))] h1 := XT_path (l := l) (fr := 2) (lo := 47) (full := false) (M := 189) (n := 153) (u := 6051) (pc := 46) (L := [xf 13 104, xf 10012 109, xi (Int32.ofInt (6)), xi nn]) (st := []) (h := h1) (inl := [187]) (n' := 120) (sp := [47]) (o := []) rfl rfl ⟨rfl, rfl, rfl⟩ rfl ⟨Nat.le_of_eq g1.1.2.2.2.1, Nat.le_of_eq g1.1.2.2.2.2⟩ trivial
      have t11 := t9.tr t10
      have ni : ((Int32.ofInt (6)) + nn).toNatClampNeg = 6 + N := by
        show ((Int32.ofInt (6)) + nn).toInt.toNat = _
        omega
      exact ⟨_, _, CX_ofT (h' := h1) (by decide) rfl rfl ⟨trivial, (Or.inr rfl)⟩ ⟨_, _, _, rfl, rfl, rfl⟩ rfl ⟨Nat.le_of_eq g1.1.2.2.2.1.symm, Nat.le_of_eq g1.1.2.2.2.2.symm⟩ t11, mT.tr (W := ([(104, 4, false), (104, 5, false), (104, 7, false), (104, 8, false), (104, 9, false), (104, 10, false), (104, 11, false), (109, 0, true)], [])) (b := (xsetI h 109 (((Int32.ofInt (6)) + nn)).toNatClampNeg (xI h 104 9))) G0 ⟨g1.1, g1.2.mono rfl rfl⟩, Or.inl ⟨es, rfl, j1, (by rw [g1.2.1 109 _ rfl, ← ni, yI_same]; exact wv : (xI h1 109 (6 + N)).toInt = tkv b n q), fun k hk => (g1.2.1 109 k rfl).trans (yI_ne (eq_false (fun z => hk (z.2.trans ni))))⟩⟩
    · have e_0 : (0 : Int32).toInt = 0 := rfl
      have dcb5 : (0 : Int32).toInt ≤ (v1).toInt := Int32.le_iff_toInt_le.mp (Int32.not_lt.mp cb5)
      have t12 : XT l 2 47 false 189 153 6051 24 [xf 13 104, xf 10012 109, xi (Int32.ofInt (6)), xi nn] [xi v1] h 32 [xf 13 104, xf 10012 109, xi (Int32.ofInt (6)), xi nn] [xi (Int32.ofInt (0))] (xsetI (xsetI h 104 4 (Int32.ofInt (3))) 104 5 (xI h 104 10)) := XT_path (l := l) (fr := 2) (lo := 47) (full := false) (M := 189) (n := 153) (u := 6051) (pc := 24) (L := [xf 13 104, xf 10012 109, xi (Int32.ofInt (6)), xi nn]) (st := [xi v1]) (h := h) (inl := [187]) (n' := 120) (sp := [32]) (o := [0]) rfl rfl ⟨rfl, rfl, rfl⟩ rfl ⟨Nat.le_of_eq hg.2.2.2.1, Nat.le_of_eq hg.2.2.2.2⟩ ⟨⟨trivial, cb5⟩, (Or.inl rfl)⟩
      have t13 := t4.tr t12
      have es : (sNn b n q (zfn Z (tkv b n q) N 0)) = 3 := by unfold sNn; rw [if_pos (by omega), if_neg (by omega)]
      have w14 : mT ([(104, 4, false), (104, 5, false), (104, 7, false), (104, 8, false), (104, 9, false), (104, 10, false), (104, 11, false), (109, 0, true)], []) h (xsetI h 104 4 (Int32.ofInt (3))) := ((mT.rf hg) : mT ([(104, 4, false), (104, 5, false), (104, 7, false), (104, 8, false), (104, 9, false), (104, 10, false), (104, 11, false), (109, 0, true)], []) h h).set (c := 104) (k := 4) (v := (Int32.ofInt (3))) (show (0 : Int) ≤ _ ∧ _ ≤ 5 from (by decide)) rfl
      have G0 : mT ([(104, 4, false), (104, 5, false), (104, 7, false), (104, 8, false), (104, 9, false), (104, 10, false), (104, 11, false), (109, 0, true)], []) h (xsetI (xsetI h 104 4 (Int32.ofInt (3))) 104 5 (xI h 104 10)) := (w14 : mT ([(104, 4, false), (104, 5, false), (104, 7, false), (104, 8, false), (104, 9, false), (104, 10, false), (104, 11, false), (109, 0, true)], []) h (xsetI h 104 4 (Int32.ofInt (3)))).set (c := 104) (k := 5) (v := (xI h 104 10)) (show (-1 : Int) ≤ _ ∧ _ ≤ 700 from ⟨by omega, by omega⟩) rfl
      exact ⟨_, _, CX_ofT (h' := (xsetI (xsetI h 104 4 (Int32.ofInt (3))) 104 5 (xI h 104 10))) (by decide) rfl rfl ⟨trivial, (Or.inl rfl)⟩ ⟨_, _, _, rfl, rfl, rfl⟩ rfl ⟨Nat.le_of_eq hg.2.2.2.1.symm, Nat.le_of_eq hg.2.2.2.2.symm⟩ t13, G0, Or.inr ⟨(by rw [es]; decide : ¬ (sNn b n q (zfn Z (tkv b n q) N 0)) = 0), rfl, by rw [es]; exact jB.of jt (fun c k z => (yI_ne (eq_false (by omega))).trans (yI_ne (eq_false (by omega)))) ((yI_ne (by decide)).trans yI_same) rfl yI_same jq⟩⟩
  · have e_2 : (Int32.ofInt (2)).toInt = 2 := rfl
    have dcb1 : ¬ (xI h 104 8).toInt = (Int32.ofInt (2)).toInt := fun z_ => cb1 (Int32.toInt_inj.mp z_)
    have t15 : XT l 2 47 false 189 153 6051 0 [xf 13 104, xf 10012 109, xi (Int32.ofInt (6)), xi nn] [] h 13 [xf 13 104, xf 10012 109, xi (Int32.ofInt (6)), xi nn] [xi (Int32.ofInt (0))] (xsetI (xsetI h 104 4 (Int32.ofInt (1))) 104 5 (xI h 104 10)) := XT_path (l := l) (fr := 2) (lo := 47) (full := false) (M := 189) (n := 153) (u := 6051) (pc := 0) (L := [xf 13 104, xf 10012 109, xi (Int32.ofInt (6)), xi nn]) (st := []) (h := h) (inl := [187]) (n' := 120) (sp := [13]) (o := [0]) rfl rfl ⟨rfl, rfl, rfl⟩ rfl ⟨Nat.le_of_eq hg.2.2.2.1, Nat.le_of_eq hg.2.2.2.2⟩ ⟨⟨trivial, cb1⟩, (Or.inl rfl)⟩
    have es : (sNn b n q (zfn Z (tkv b n q) N 0)) = 1 := by unfold sNn; rw [if_neg (by omega)]
    have w16 : mT ([(104, 4, false), (104, 5, false), (104, 7, false), (104, 8, false), (104, 9, false), (104, 10, false), (104, 11, false), (109, 0, true)], []) h (xsetI h 104 4 (Int32.ofInt (1))) := ((mT.rf hg) : mT ([(104, 4, false), (104, 5, false), (104, 7, false), (104, 8, false), (104, 9, false), (104, 10, false), (104, 11, false), (109, 0, true)], []) h h).set (c := 104) (k := 4) (v := (Int32.ofInt (1))) (show (0 : Int) ≤ _ ∧ _ ≤ 5 from (by decide)) rfl
    have G0 : mT ([(104, 4, false), (104, 5, false), (104, 7, false), (104, 8, false), (104, 9, false), (104, 10, false), (104, 11, false), (109, 0, true)], []) h (xsetI (xsetI h 104 4 (Int32.ofInt (1))) 104 5 (xI h 104 10)) := (w16 : mT ([(104, 4, false), (104, 5, false), (104, 7, false), (104, 8, false), (104, 9, false), (104, 10, false), (104, 11, false), (109, 0, true)], []) h (xsetI h 104 4 (Int32.ofInt (1)))).set (c := 104) (k := 5) (v := (xI h 104 10)) (show (-1 : Int) ≤ _ ∧ _ ≤ 700 from ⟨by omega, by omega⟩) rfl
    exact ⟨_, _, CX_ofT (h' := (xsetI (xsetI h 104 4 (Int32.ofInt (1))) 104 5 (xI h 104 10))) (by decide) rfl rfl ⟨trivial, (Or.inl rfl)⟩ ⟨_, _, _, rfl, rfl, rfl⟩ rfl ⟨Nat.le_of_eq hg.2.2.2.1.symm, Nat.le_of_eq hg.2.2.2.2.symm⟩ t15, G0, Or.inr ⟨(by rw [es]; decide : ¬ (sNn b n q (zfn Z (tkv b n q) N 0)) = 0), rfl, by rw [es]; exact jB.of jt (fun c k z => (yI_ne (eq_false (by omega))).trans (yI_ne (eq_false (by omega)))) ((yI_ne (by decide)).trans yI_same) rfl yI_same jq⟩⟩
set_option maxRecDepth 100000 in
set_option maxHeartbeats 4000000 in
theorem jk_there109 (l : Launch) (b : Nat → Int) (n q : Nat) (Z : Nat → Int) (nn : Int32) (N : Nat) (h : XH) (hg : mI h) (jt : jT b n q h) (hn : nn.toInt = N) (hN : N ≤ 6) (hz : ∀ k, k < N → (xI h 109 (6 + k)).toInt = Z k) : ∃ v h', CX l 2 47 false 194 [xf 13 104, xf 10012 109, xi (Int32.ofInt (6)), xi nn] h [xi v] h' ∧ mT ([(104, 4, false), (104, 5, false), (104, 7, false), (104, 8, false), (104, 9, false), (104, 10, false), (104, 11, false)], []) h h' ∧ ((vHid ((sTn b n q (zfn Z (tkv b n q) N 0)) = 0) ∧ v = (Int32.ofInt (1)) ∧ jT b n (nxt b n q) h' ∧ vHid ((xI h' 104 11).toInt = (zfn Z (tkv b n q) N 0) ∧ 0 ≤ (xI h' 104 11).toInt ∧ (xI h' 104 11).toInt < N)) ∨ (vHid (¬ (sTn b n q (zfn Z (tkv b n q) N 0)) = 0) ∧ v = (Int32.ofInt (0)) ∧ jB b n (sTn b n q (zfn Z (tkv b n q) N 0)) q h')) := by
  obtain ⟨jr, hn7, hq, jq, je, jk, jf, jp⟩ := id jt
  have kn := sKw_w jk
  have zb := zfn_b (Z := Z) (x := tkv b n q) N 0
  have b10 : 0 ≤ (xI h 104 10).toInt ∧ (xI h 104 10).toInt ≤ 700 := vbnd hg.1 104 10
  have eo : ((Int32.ofInt (6))).toInt = 6 := rfl
  have ea := y_add (a := (Int32.ofInt (6))) (b := nn) (by decide) (by decide) (by omega) (by omega)
  by_cases cb1 : (xI h 104 8) = (Int32.ofInt (2))
  · have e_2 : (Int32.ofInt (2)).toInt = 2 := rfl
    have dcb1 : (xI h 104 8).toInt = (Int32.ofInt (2)).toInt := congrArg Int32.toInt cb1
    have t2 : XT l 2 47 false 194 153 6051 0 [xf 13 104, xf 10012 109, xi (Int32.ofInt (6)), xi nn, xun] [] h 21 [xf 13 104, xf 10012 109, xi (Int32.ofInt (6)), xi nn, xun] [xi (xI h 104 9), xi nn, xi (Int32.ofInt (6)), xf 10012 109] h := XT_path (l := l) (fr := 2) (lo := 47) (full := false) (M := 194) (n := 153) (u := 6051) (pc := 0) (L := [xf 13 104, xf 10012 109, xi (Int32.ofInt (6)), xi nn, xun]) (st := []) (h := h) (inl := [187]) (n' := 120) (sp := [21]) (o := [1]) rfl rfl ⟨rfl, rfl, rfl⟩ rfl ⟨Nat.le_of_eq hg.2.2.2.1, Nat.le_of_eq hg.2.2.2.2⟩ ⟨trivial, cb1⟩
    have wv : (xI h 104 9).toInt = tkv b n q := by omega
    obtain ⟨v1, c1, e1⟩ := jk_find109 l Z (xI h 104 9) nn N h hg hn (by omega) hz
    have e1 := e1.out
    rw [wv] at e1
    have t3 : XT l 2 47 false 194 153 6051 21 [xf 13 104, xf 10012 109, xi (Int32.ofInt (6)), xi nn, xun] [xi (xI h 104 9), xi nn, xi (Int32.ofInt (6)), xf 10012 109] h 24 [xf 13 104, xf 10012 109, xi (Int32.ofInt (6)), xi nn, xun] [xi v1] h := XT_call (l := l) (fr := 2) (lo := 47) (full := false) (M := 194) (n := 153) (u := 6051) (pc := 21) (L := [xf 13 104, xf 10012 109, xi (Int32.ofInt (6)), xi nn, xun]) (st := [xi (xI h 104 9), xi nn, xi (Int32.ofInt (6)), xf 10012 109]) (h := h) (i := .invokestatic 190) (aux := 4) (nx := 24) (K := 190) (vs := [xf 10012 109, xi (Int32.ofInt (6)), xi nn, xi (xI h 104 9)]) (rs := [xi v1]) (rest := []) rfl rfl rfl rfl rfl rfl c1 (by decide) (by decide) (Nat.le_of_ble_eq_true rfl) ⟨Nat.le_of_eq hg.2.2.2.1, Nat.le_of_eq hg.2.2.2.2⟩
    have t4 := t2.tr t3
    by_cases cb5 : (0 : Int32) ≤ v1
    · have e_0 : (0 : Int32).toInt = 0 := rfl
      have dcb5 : (0 : Int32).toInt ≤ (v1).toInt := Int32.le_iff_toInt_le.mp cb5
      have t6 : XT l 2 47 false 194 153 6051 24 [xf 13 104, xf 10012 109, xi (Int32.ofInt (6)), xi nn, xun] [xi v1] h 38 [xf 13 104, xf 10012 109, xi (Int32.ofInt (6)), xi nn, xi v1] [xf 13 104] h := XT_path (l := l) (fr := 2) (lo := 47) (full := false) (M := 194) (n := 153) (u := 6051) (pc := 24) (L := [xf 13 104, xf 10012 109, xi (Int32.ofInt (6)), xi nn, xun]) (st := [xi v1]) (h := h) (inl := [187]) (n' := 120) (sp := [38]) (o := [1]) rfl rfl ⟨rfl, rfl, rfl⟩ rfl ⟨Nat.le_of_eq hg.2.2.2.1, Nat.le_of_eq hg.2.2.2.2⟩ ⟨trivial, cb5⟩
      have t7 := t4.tr t6
      have es : (sTn b n q (zfn Z (tkv b n q) N 0)) = 0 := by unfold sTn; rw [if_pos (by omega), if_neg (by omega)]
      have G0 : mT ([(104, 4, false), (104, 5, false), (104, 7, false), (104, 8, false), (104, 9, false), (104, 10, false), (104, 11, false)], []) h h := (mT.rf hg)
      obtain ⟨h1, c2, g1, j1⟩ := jk_adv l b n q h G0.1 jt
      have t8 : XT l 2 47 false 194 153 6051 38 [xf 13 104, xf 10012 109, xi (Int32.ofInt (6)), xi nn, xi v1] [xf 13 104] h 41 [xf 13 104, xf 10012 109, xi (Int32.ofInt (6)), xi nn, xi v1] [] h1 := XT_call (l := l) (fr := 2) (lo := 47) (full := false) (M := 194) (n := 153) (u := 6051) (pc := 38) (L := [xf 13 104, xf 10012 109, xi (Int32.ofInt (6)), xi nn, xi v1]) (st := [xf 13 104]) (h := h) (i := .invokevirtual 180) (aux := 1) (nx := 41) (K := 180) (vs := [xf 13 104]) (rs := []) (rest := []) rfl rfl rfl rfl rfl rfl c2 (by decide) (by decide) (Nat.le_of_ble_eq_true rfl) ⟨Nat.le_of_eq g1.1.2.2.2.1, Nat.le_of_eq g1.1.2.2.2.2⟩
      have t9 := t7.tr t8
      have t10 : XT l 2 47 false 194 153 6051 41 [xf 13 104, xf 10012 109, xi (Int32.ofInt (6)), xi nn, xi v1] [] h1 48 [xf 13 104, xf 10012 109, xi (Int32.ofInt (6)), xi nn, xi v1] [xi (Int32.ofInt (1))] (xsetI h1 104 11 v1) := XT_path (l := l) (fr := 2) (lo := 47) (full := false) (M := 194) (n := 153) (u := 6051) (pc := 41) (L := [xf 13 104, xf 10012 109, xi (Int32.ofInt (6)), xi nn, xi v1]) (st := []) (h := h1) (inl := [187]) (n' := 120) (sp := [48]) (o := []) rfl rfl ⟨rfl, rfl, rfl⟩ rfl ⟨Nat.le_of_eq g1.1.2.2.2.1, Nat.le_of_eq g1.1.2.2.2.2⟩ trivial
      have t11 := t9.tr t10
      have G1 : mT ([(104, 4, false), (104, 5, false), (104, 7, false), (104, 8, false), (104, 9, false), (104, 10, false), (104, 11, false)], []) h h1 := mT.tr (W := ([(104, 4, false), (104, 5, false), (104, 7, false), (104, 8, false), (104, 9, false), (104, 10, false), (104, 11, false)], [])) (b := h) G0 ⟨g1.1, g1.2.mono rfl rfl⟩
      have G2 : mT ([(104, 4, false), (104, 5, false), (104, 7, false), (104, 8, false), (104, 9, false), (104, 10, false), (104, 11, false)], []) h (xsetI h1 104 11 v1) := (G1 : mT ([(104, 4, false), (104, 5, false), (104, 7, false), (104, 8, false), (104, 9, false), (104, 10, false), (104, 11, false)], []) h h1).set (c := 104) (k := 11) (v := v1) (show (0 : Int) ≤ _ ∧ _ ≤ 99 from ⟨by omega, by omega⟩) rfl
      exact ⟨_, _, CX_ofT (h' := (xsetI h1 104 11 v1)) (by decide) rfl rfl ⟨trivial, (Or.inr rfl)⟩ ⟨_, _, _, rfl, rfl, rfl⟩ rfl ⟨Nat.le_of_eq g1.1.2.2.2.1.symm, Nat.le_of_eq g1.1.2.2.2.2.symm⟩ t11, G2, Or.inl ⟨es, rfl, j1.fr (fun k hk => yI_ne (eq_false (by omega))) (fun k => yI_c (by decide)), (by rw [yI_same]; exact ⟨e1, by omega, by omega⟩ : (xI (xsetI h1 104 11 v1) 104 11).toInt = (zfn Z (tkv b n q) N 0) ∧ 0 ≤ (xI (xsetI h1 104 11 v1) 104 11).toInt ∧ (xI (xsetI h1 104 11 v1) 104 11).toInt < N)⟩⟩
    · have e_0 : (0 : Int32).toInt = 0 := rfl
      have dcb5 : (v1).toInt < (0 : Int32).toInt := Int32.lt_iff_toInt_lt.mp (Int32.not_le.mp cb5)
      have t12 : XT l 2 47 false 194 153 6051 24 [xf 13 104, xf 10012 109, xi (Int32.ofInt (6)), xi nn, xun] [xi v1] h 36 [xf 13 104, xf 10012 109, xi (Int32.ofInt (6)), xi nn, xi v1] [xi (Int32.ofInt (0))] (xsetI (xsetI h 104 4 (Int32.ofInt (4))) 104 5 (xI h 104 10)) := XT_path (l := l) (fr := 2) (lo := 47) (full := false) (M := 194) (n := 153) (u := 6051) (pc := 24) (L := [xf 13 104, xf 10012 109, xi (Int32.ofInt (6)), xi nn, xun]) (st := [xi v1]) (h := h) (inl := [187]) (n' := 120) (sp := [36]) (o := [0]) rfl rfl ⟨rfl, rfl, rfl⟩ rfl ⟨Nat.le_of_eq hg.2.2.2.1, Nat.le_of_eq hg.2.2.2.2⟩ ⟨⟨trivial, cb5⟩, (Or.inl rfl)⟩
      have t13 := t4.tr t12
      have es : (sTn b n q (zfn Z (tkv b n q) N 0)) = 4 := by unfold sTn; rw [if_pos (by omega), if_pos (by omega)]
      have w14 : mT ([(104, 4, false), (104, 5, false), (104, 7, false), (104, 8, false), (104, 9, false), (104, 10, false), (104, 11, false)], []) h (xsetI h 104 4 (Int32.ofInt (4))) := ((mT.rf hg) : mT ([(104, 4, false), (104, 5, false), (104, 7, false), (104, 8, false), (104, 9, false), (104, 10, false), (104, 11, false)], []) h h).set (c := 104) (k := 4) (v := (Int32.ofInt (4))) (show (0 : Int) ≤ _ ∧ _ ≤ 5 from (by decide)) rfl
      have G0 : mT ([(104, 4, false), (104, 5, false), (104, 7, false), (104, 8, false), (104, 9, false), (104, 10, false), (104, 11, false)], []) h (xsetI (xsetI h 104 4 (Int32.ofInt (4))) 104 5 (xI h 104 10)) := (w14 : mT ([(104, 4, false), (104, 5, false), (104, 7, false), (104, 8, false), (104, 9, false), (104, 10, false), (104, 11, false)], []) h (xsetI h 104 4 (Int32.ofInt (4)))).set (c := 104) (k := 5) (v := (xI h 104 10)) (show (-1 : Int) ≤ _ ∧ _ ≤ 700 from ⟨by omega, by omega⟩) rfl
      exact ⟨_, _, CX_ofT (h' := (xsetI (xsetI h 104 4 (Int32.ofInt (4))) 104 5 (xI h 104 10))) (by decide) rfl rfl ⟨trivial, (Or.inl rfl)⟩ ⟨_, _, _, rfl, rfl, rfl⟩ rfl ⟨Nat.le_of_eq hg.2.2.2.1.symm, Nat.le_of_eq hg.2.2.2.2.symm⟩ t13, G0, Or.inr ⟨(by rw [es]; decide : ¬ (sTn b n q (zfn Z (tkv b n q) N 0)) = 0), rfl, by rw [es]; exact jB.of jt (fun c k z => (yI_ne (eq_false (by omega))).trans (yI_ne (eq_false (by omega)))) ((yI_ne (by decide)).trans yI_same) rfl yI_same jq⟩⟩
  · have e_2 : (Int32.ofInt (2)).toInt = 2 := rfl
    have dcb1 : ¬ (xI h 104 8).toInt = (Int32.ofInt (2)).toInt := fun z_ => cb1 (Int32.toInt_inj.mp z_)
    have t15 : XT l 2 47 false 194 153 6051 0 [xf 13 104, xf 10012 109, xi (Int32.ofInt (6)), xi nn, xun] [] h 13 [xf 13 104, xf 10012 109, xi (Int32.ofInt (6)), xi nn, xun] [xi (Int32.ofInt (0))] (xsetI (xsetI h 104 4 (Int32.ofInt (1))) 104 5 (xI h 104 10)) := XT_path (l := l) (fr := 2) (lo := 47) (full := false) (M := 194) (n := 153) (u := 6051) (pc := 0) (L := [xf 13 104, xf 10012 109, xi (Int32.ofInt (6)), xi nn, xun]) (st := []) (h := h) (inl := [187]) (n' := 120) (sp := [13]) (o := [0]) rfl rfl ⟨rfl, rfl, rfl⟩ rfl ⟨Nat.le_of_eq hg.2.2.2.1, Nat.le_of_eq hg.2.2.2.2⟩ ⟨⟨trivial, cb1⟩, (Or.inl rfl)⟩
    have es : (sTn b n q (zfn Z (tkv b n q) N 0)) = 1 := by unfold sTn; rw [if_neg (by omega)]
    have w16 : mT ([(104, 4, false), (104, 5, false), (104, 7, false), (104, 8, false), (104, 9, false), (104, 10, false), (104, 11, false)], []) h (xsetI h 104 4 (Int32.ofInt (1))) := ((mT.rf hg) : mT ([(104, 4, false), (104, 5, false), (104, 7, false), (104, 8, false), (104, 9, false), (104, 10, false), (104, 11, false)], []) h h).set (c := 104) (k := 4) (v := (Int32.ofInt (1))) (show (0 : Int) ≤ _ ∧ _ ≤ 5 from (by decide)) rfl
    have G0 : mT ([(104, 4, false), (104, 5, false), (104, 7, false), (104, 8, false), (104, 9, false), (104, 10, false), (104, 11, false)], []) h (xsetI (xsetI h 104 4 (Int32.ofInt (1))) 104 5 (xI h 104 10)) := (w16 : mT ([(104, 4, false), (104, 5, false), (104, 7, false), (104, 8, false), (104, 9, false), (104, 10, false), (104, 11, false)], []) h (xsetI h 104 4 (Int32.ofInt (1)))).set (c := 104) (k := 5) (v := (xI h 104 10)) (show (-1 : Int) ≤ _ ∧ _ ≤ 700 from ⟨by omega, by omega⟩) rfl
    exact ⟨_, _, CX_ofT (h' := (xsetI (xsetI h 104 4 (Int32.ofInt (1))) 104 5 (xI h 104 10))) (by decide) rfl rfl ⟨trivial, (Or.inl rfl)⟩ ⟨_, _, _, rfl, rfl, rfl⟩ rfl ⟨Nat.le_of_eq hg.2.2.2.1.symm, Nat.le_of_eq hg.2.2.2.2.symm⟩ t15, G0, Or.inr ⟨(by rw [es]; decide : ¬ (sTn b n q (zfn Z (tkv b n q) N 0)) = 0), rfl, by rw [es]; exact jB.of jt (fun c k z => (yI_ne (eq_false (by omega))).trans (yI_ne (eq_false (by omega)))) ((yI_ne (by decide)).trans yI_same) rfl yI_same jq⟩⟩
set_option maxRecDepth 100000 in
set_option maxHeartbeats 4000000 in
theorem jk_new116 (l : Launch) (b : Nat → Int) (n q : Nat) (Z : Nat → Int) (nn : Int32) (N : Nat) (h : XH) (hg : mI h) (jt : jT b n q h) (hn : nn.toInt = N) (hN : N < 8) (hz : ∀ k, k < N → (xI h 116 (8 + k)).toInt = Z k) : ∃ v h', CX l 2 47 false 189 [xf 13 104, xf 10016 116, xi (Int32.ofInt (8)), xi nn] h [xi v] h' ∧ mT ([(104, 4, false), (104, 5, false), (104, 7, false), (104, 8, false), (104, 9, false), (104, 10, false), (104, 11, false), (116, 0, true)], []) h h' ∧ ((vHid ((sNn b n q (zfn Z (tkv b n q) N 0)) = 0) ∧ v = (Int32.ofInt (1)) ∧ jT b n (nxt b n q) h' ∧ vHid ((xI h' 116 (8 + N)).toInt = tkv b n q) ∧ (∀ k, k ≠ 8 + N → xI h' 116 k = xI h 116 k)) ∨ (vHid (¬ (sNn b n q (zfn Z (tkv b n q) N 0)) = 0) ∧ v = (Int32.ofInt (0)) ∧ jB b n (sNn b n q (zfn Z (tkv b n q) N 0)) q h')) := by
  obtain ⟨jr, hn7, hq, jq, je, jk, jf, jp⟩ := id jt
  have kn := sKw_w jk
  have zb := zfn_b (Z := Z) (x := tkv b n q) N 0
  have b10 : 0 ≤ (xI h 104 10).toInt ∧ (xI h 104 10).toInt ≤ 700 := vbnd hg.1 104 10
  have eo : ((Int32.ofInt (8))).toInt = 8 := rfl
  have ea := y_add (a := (Int32.ofInt (8))) (b := nn) (by decide) (by decide) (by omega) (by omega)
  by_cases cb1 : (xI h 104 8) = (Int32.ofInt (2))
  · have e_2 : (Int32.ofInt (2)).toInt = 2 := rfl
    have dcb1 : (xI h 104 8).toInt = (Int32.ofInt (2)).toInt := congrArg Int32.toInt cb1
    have t2 : XT l 2 47 false 189 153 6051 0 [xf 13 104, xf 10016 116, xi (Int32.ofInt (8)), xi nn] [] h 21 [xf 13 104, xf 10016 116, xi (Int32.ofInt (8)), xi nn] [xi (xI h 104 9), xi nn, xi (Int32.ofInt (8)), xf 10016 116] h := XT_path (l := l) (fr := 2) (lo := 47) (full := false) (M := 189) (n := 153) (u := 6051) (pc := 0) (L := [xf 13 104, xf 10016 116, xi (Int32.ofInt (8)), xi nn]) (st := []) (h := h) (inl := [187]) (n' := 120) (sp := [21]) (o := [1]) rfl rfl ⟨rfl, rfl, rfl⟩ rfl ⟨Nat.le_of_eq hg.2.2.2.1, Nat.le_of_eq hg.2.2.2.2⟩ ⟨trivial, cb1⟩
    have wv : (xI h 104 9).toInt = tkv b n q := by omega
    obtain ⟨v1, c1, e1⟩ := jk_find116 l Z (xI h 104 9) nn N h hg hn (by omega) hz
    have e1 := e1.out
    rw [wv] at e1
    have t3 : XT l 2 47 false 189 153 6051 21 [xf 13 104, xf 10016 116, xi (Int32.ofInt (8)), xi nn] [xi (xI h 104 9), xi nn, xi (Int32.ofInt (8)), xf 10016 116] h 24 [xf 13 104, xf 10016 116, xi (Int32.ofInt (8)), xi nn] [xi v1] h := XT_call (l := l) (fr := 2) (lo := 47) (full := false) (M := 189) (n := 153) (u := 6051) (pc := 21) (L := [xf 13 104, xf 10016 116, xi (Int32.ofInt (8)), xi nn]) (st := [xi (xI h 104 9), xi nn, xi (Int32.ofInt (8)), xf 10016 116]) (h := h) (i := .invokestatic 190) (aux := 4) (nx := 24) (K := 190) (vs := [xf 10016 116, xi (Int32.ofInt (8)), xi nn, xi (xI h 104 9)]) (rs := [xi v1]) (rest := []) rfl rfl rfl rfl rfl rfl c1 (by decide) (by decide) (Nat.le_of_ble_eq_true rfl) ⟨Nat.le_of_eq hg.2.2.2.1, Nat.le_of_eq hg.2.2.2.2⟩
    have t4 := t2.tr t3
    by_cases cb5 : v1 < 0
    · have e_0 : (0 : Int32).toInt = 0 := rfl
      have dcb5 : (v1).toInt < (0 : Int32).toInt := Int32.lt_iff_toInt_lt.mp cb5
      have t6 : XT l 2 47 false 189 153 6051 24 [xf 13 104, xf 10016 116, xi (Int32.ofInt (8)), xi nn] [xi v1] h 43 [xf 13 104, xf 10016 116, xi (Int32.ofInt (8)), xi nn] [xf 13 104] (xsetI h 116 (((Int32.ofInt (8)) + nn)).toNatClampNeg (xI h 104 9)) := XT_path (l := l) (fr := 2) (lo := 47) (full := false) (M := 189) (n := 153) (u := 6051) (pc := 24) (L := [xf 13 104, xf 10016 116, xi (Int32.ofInt (8)), xi nn]) (st := [xi v1]) (h := h) (inl := [187]) (n' := 120) (sp := [43]) (o := [1]) rfl rfl ⟨rfl, rfl, rfl⟩ rfl ⟨Nat.le_of_eq hg.2.2.2.1, Nat.le_of_eq hg.2.2.2.2⟩ ⟨⟨trivial, cb5⟩, (vp_of (i := ((Int32.ofInt (8)) + nn)) (n := 16) (by omega) (by omega))⟩
      have t7 := t4.tr t6
      have es : (sNn b n q (zfn Z (tkv b n q) N 0)) = 0 := by unfold sNn; rw [if_pos (by omega), if_pos (by omega)]
      have G0 : mT ([(104, 4, false), (104, 5, false), (104, 7, false), (104, 8, false), (104, 9, false), (104, 10, false), (104, 11, false), (116, 0, true)], []) h (xsetI h 116 (((Int32.ofInt (8)) + nn)).toNatClampNeg (xI h 104 9)) := ((mT.rf hg) : mT ([(104, 4, false), (104, 5, false), (104, 7, false), (104, 8, false), (104, 9, false), (104, 10, false), (104, 11, false), (116, 0, true)], []) h h).set (c := 116) (k := (((Int32.ofInt (8)) + nn)).toNatClampNeg) (v := (xI h 104 9)) (by rw [vI_u (c := 116) (q := (-2147483648, 2147483647)) (by decide +kernel) (by decide +kernel)]; exact i32r_of _) (swj_s rfl (by show 8 ≤ (((Int32.ofInt (8)) + nn)).toInt.toNat; omega))
      obtain ⟨h1, c2, g1, j1⟩ := jk_adv l b n q (xsetI h 116 (((Int32.ofInt (8)) + nn)).toNatClampNeg (xI h 104 9)) G0.1 (jt.fr (fun k hk => yI_c (by decide)) (fun k => yI_c (by decide)))
      have t8 : XT l 2 47 false 189 153 6051 43 [xf 13 104, xf 10016 116, xi (Int32.ofInt (8)), xi nn] [xf 13 104] (xsetI h 116 (((Int32.ofInt (8)) + nn)).toNatClampNeg (xI h 104 9)) 46 [xf 13 104, xf 10016 116, xi (Int32.ofInt (8)), xi nn] [] h1 := XT_call (l := l) (fr := 2) (lo := 47) (full := false) (M := 189) (n := 153) (u := 6051) (pc := 43) (L := [xf 13 104, xf 10016 116, xi (Int32.ofInt (8)), xi nn]) (st := [xf 13 104]) (h := (xsetI h 116 (((Int32.ofInt (8)) + nn)).toNatClampNeg (xI h 104 9))) (i := .invokevirtual 180) (aux := 1) (nx := 46) (K := 180) (vs := [xf 13 104]) (rs := []) (rest := []) rfl rfl rfl rfl rfl rfl c2 (by decide) (by decide) (Nat.le_of_ble_eq_true rfl) ⟨Nat.le_of_eq g1.1.2.2.2.1, Nat.le_of_eq g1.1.2.2.2.2⟩
      have t9 := t7.tr t8
      have t10 : XT l 2 47 false 189 153 6051 46 [xf 13 104, xf 10016 116, xi (Int32.ofInt (8)), xi nn] [] h1 47 [xf 13 104, xf 10016 116, xi (Int32.ofInt (8)), xi nn] [xi (Int32.ofInt (1))] h1 := XT_path (l := l) (fr := 2) (lo := 47) (full := false) (M := 189) (n := 153) (u := 6051) (pc := 46) (L := [xf 13 104, xf 10016 116, xi (Int32.ofInt (8)), xi nn]) (st := []) (h := h1) (inl := [187]) (n' := 120) (sp := [47]) (o := []) rfl rfl ⟨rfl, rfl, rfl⟩ rfl ⟨Nat.le_of_eq g1.1.2.2.2.1, Nat.le_of_eq g1.1.2.2.2.2⟩ trivial
      have t11 := t9.tr t10
      have ni : ((Int32.ofInt (8)) + nn).toNatClampNeg = 8 + N := by
        show ((Int32.ofInt (8)) + nn).toInt.toNat = _
        omega
      exact ⟨_, _, CX_ofT (h' := h1) (by decide) rfl rfl ⟨trivial, (Or.inr rfl)⟩ ⟨_, _, _, rfl, rfl, rfl⟩ rfl ⟨Nat.le_of_eq g1.1.2.2.2.1.symm, Nat.le_of_eq g1.1.2.2.2.2.symm⟩ t11, mT.tr (W := ([(104, 4, false), (104, 5, false), (104, 7, false), (104, 8, false), (104, 9, false), (104, 10, false), (104, 11, false), (116, 0, true)], [])) (b := (xsetI h 116 (((Int32.ofInt (8)) + nn)).toNatClampNeg (xI h 104 9))) G0 ⟨g1.1, g1.2.mono rfl rfl⟩, Or.inl ⟨es, rfl, j1, (by rw [g1.2.1 116 _ rfl, ← ni, yI_same]; exact wv : (xI h1 116 (8 + N)).toInt = tkv b n q), fun k hk => (g1.2.1 116 k rfl).trans (yI_ne (eq_false (fun z => hk (z.2.trans ni))))⟩⟩
    · have e_0 : (0 : Int32).toInt = 0 := rfl
      have dcb5 : (0 : Int32).toInt ≤ (v1).toInt := Int32.le_iff_toInt_le.mp (Int32.not_lt.mp cb5)
      have t12 : XT l 2 47 false 189 153 6051 24 [xf 13 104, xf 10016 116, xi (Int32.ofInt (8)), xi nn] [xi v1] h 32 [xf 13 104, xf 10016 116, xi (Int32.ofInt (8)), xi nn] [xi (Int32.ofInt (0))] (xsetI (xsetI h 104 4 (Int32.ofInt (3))) 104 5 (xI h 104 10)) := XT_path (l := l) (fr := 2) (lo := 47) (full := false) (M := 189) (n := 153) (u := 6051) (pc := 24) (L := [xf 13 104, xf 10016 116, xi (Int32.ofInt (8)), xi nn]) (st := [xi v1]) (h := h) (inl := [187]) (n' := 120) (sp := [32]) (o := [0]) rfl rfl ⟨rfl, rfl, rfl⟩ rfl ⟨Nat.le_of_eq hg.2.2.2.1, Nat.le_of_eq hg.2.2.2.2⟩ ⟨⟨trivial, cb5⟩, (Or.inl rfl)⟩
      have t13 := t4.tr t12
      have es : (sNn b n q (zfn Z (tkv b n q) N 0)) = 3 := by unfold sNn; rw [if_pos (by omega), if_neg (by omega)]
      have w14 : mT ([(104, 4, false), (104, 5, false), (104, 7, false), (104, 8, false), (104, 9, false), (104, 10, false), (104, 11, false), (116, 0, true)], []) h (xsetI h 104 4 (Int32.ofInt (3))) := ((mT.rf hg) : mT ([(104, 4, false), (104, 5, false), (104, 7, false), (104, 8, false), (104, 9, false), (104, 10, false), (104, 11, false), (116, 0, true)], []) h h).set (c := 104) (k := 4) (v := (Int32.ofInt (3))) (show (0 : Int) ≤ _ ∧ _ ≤ 5 from (by decide)) rfl
      have G0 : mT ([(104, 4, false), (104, 5, false), (104, 7, false), (104, 8, false), (104, 9, false), (104, 10, false), (104, 11, false), (116, 0, true)], []) h (xsetI (xsetI h 104 4 (Int32.ofInt (3))) 104 5 (xI h 104 10)) := (w14 : mT ([(104, 4, false), (104, 5, false), (104, 7, false), (104, 8, false), (104, 9, false), (104, 10, false), (104, 11, false), (116, 0, true)], []) h (xsetI h 104 4 (Int32.ofInt (3)))).set (c := 104) (k := 5) (v := (xI h 104 10)) (show (-1 : Int) ≤ _ ∧ _ ≤ 700 from ⟨by omega, by omega⟩) rfl
      exact ⟨_, _, CX_ofT (h' := (xsetI (xsetI h 104 4 (Int32.ofInt (3))) 104 5 (xI h 104 10))) (by decide) rfl rfl ⟨trivial, (Or.inl rfl)⟩ ⟨_, _, _, rfl, rfl, rfl⟩ rfl ⟨Nat.le_of_eq hg.2.2.2.1.symm, Nat.le_of_eq hg.2.2.2.2.symm⟩ t13, G0, Or.inr ⟨(by rw [es]; decide : ¬ (sNn b n q (zfn Z (tkv b n q) N 0)) = 0), rfl, by rw [es]; exact jB.of jt (fun c k z => (yI_ne (eq_false (by omega))).trans (yI_ne (eq_false (by omega)))) ((yI_ne (by decide)).trans yI_same) rfl yI_same jq⟩⟩
  · have e_2 : (Int32.ofInt (2)).toInt = 2 := rfl
    have dcb1 : ¬ (xI h 104 8).toInt = (Int32.ofInt (2)).toInt := fun z_ => cb1 (Int32.toInt_inj.mp z_)
    have t15 : XT l 2 47 false 189 153 6051 0 [xf 13 104, xf 10016 116, xi (Int32.ofInt (8)), xi nn] [] h 13 [xf 13 104, xf 10016 116, xi (Int32.ofInt (8)), xi nn] [xi (Int32.ofInt (0))] (xsetI (xsetI h 104 4 (Int32.ofInt (1))) 104 5 (xI h 104 10)) := XT_path (l := l) (fr := 2) (lo := 47) (full := false) (M := 189) (n := 153) (u := 6051) (pc := 0) (L := [xf 13 104, xf 10016 116, xi (Int32.ofInt (8)), xi nn]) (st := []) (h := h) (inl := [187]) (n' := 120) (sp := [13]) (o := [0]) rfl rfl ⟨rfl, rfl, rfl⟩ rfl ⟨Nat.le_of_eq hg.2.2.2.1, Nat.le_of_eq hg.2.2.2.2⟩ ⟨⟨trivial, cb1⟩, (Or.inl rfl)⟩
    have es : (sNn b n q (zfn Z (tkv b n q) N 0)) = 1 := by unfold sNn; rw [if_neg (by omega)]
    have w16 : mT ([(104, 4, false), (104, 5, false), (104, 7, false), (104, 8, false), (104, 9, false), (104, 10, false), (104, 11, false), (116, 0, true)], []) h (xsetI h 104 4 (Int32.ofInt (1))) := ((mT.rf hg) : mT ([(104, 4, false), (104, 5, false), (104, 7, false), (104, 8, false), (104, 9, false), (104, 10, false), (104, 11, false), (116, 0, true)], []) h h).set (c := 104) (k := 4) (v := (Int32.ofInt (1))) (show (0 : Int) ≤ _ ∧ _ ≤ 5 from (by decide)) rfl
    have G0 : mT ([(104, 4, false), (104, 5, false), (104, 7, false), (104, 8, false), (104, 9, false), (104, 10, false), (104, 11, false), (116, 0, true)], []) h (xsetI (xsetI h 104 4 (Int32.ofInt (1))) 104 5 (xI h 104 10)) := (w16 : mT ([(104, 4, false), (104, 5, false), (104, 7, false), (104, 8, false), (104, 9, false), (104, 10, false), (104, 11, false), (116, 0, true)], []) h (xsetI h 104 4 (Int32.ofInt (1)))).set (c := 104) (k := 5) (v := (xI h 104 10)) (show (-1 : Int) ≤ _ ∧ _ ≤ 700 from ⟨by omega, by omega⟩) rfl
    exact ⟨_, _, CX_ofT (h' := (xsetI (xsetI h 104 4 (Int32.ofInt (1))) 104 5 (xI h 104 10))) (by decide) rfl rfl ⟨trivial, (Or.inl rfl)⟩ ⟨_, _, _, rfl, rfl, rfl⟩ rfl ⟨Nat.le_of_eq hg.2.2.2.1.symm, Nat.le_of_eq hg.2.2.2.2.symm⟩ t15, G0, Or.inr ⟨(by rw [es]; decide : ¬ (sNn b n q (zfn Z (tkv b n q) N 0)) = 0), rfl, by rw [es]; exact jB.of jt (fun c k z => (yI_ne (eq_false (by omega))).trans (yI_ne (eq_false (by omega)))) ((yI_ne (by decide)).trans yI_same) rfl yI_same jq⟩⟩
set_option maxRecDepth 100000 in
set_option maxHeartbeats 4000000 in
theorem jk_there116 (l : Launch) (b : Nat → Int) (n q : Nat) (Z : Nat → Int) (nn : Int32) (N : Nat) (h : XH) (hg : mI h) (jt : jT b n q h) (hn : nn.toInt = N) (hN : N ≤ 8) (hz : ∀ k, k < N → (xI h 116 (8 + k)).toInt = Z k) : ∃ v h', CX l 2 47 false 194 [xf 13 104, xf 10016 116, xi (Int32.ofInt (8)), xi nn] h [xi v] h' ∧ mT ([(104, 4, false), (104, 5, false), (104, 7, false), (104, 8, false), (104, 9, false), (104, 10, false), (104, 11, false)], []) h h' ∧ ((vHid ((sTn b n q (zfn Z (tkv b n q) N 0)) = 0) ∧ v = (Int32.ofInt (1)) ∧ jT b n (nxt b n q) h' ∧ vHid ((xI h' 104 11).toInt = (zfn Z (tkv b n q) N 0) ∧ 0 ≤ (xI h' 104 11).toInt ∧ (xI h' 104 11).toInt < N)) ∨ (vHid (¬ (sTn b n q (zfn Z (tkv b n q) N 0)) = 0) ∧ v = (Int32.ofInt (0)) ∧ jB b n (sTn b n q (zfn Z (tkv b n q) N 0)) q h')) := by
  obtain ⟨jr, hn7, hq, jq, je, jk, jf, jp⟩ := id jt
  have kn := sKw_w jk
  have zb := zfn_b (Z := Z) (x := tkv b n q) N 0
  have b10 : 0 ≤ (xI h 104 10).toInt ∧ (xI h 104 10).toInt ≤ 700 := vbnd hg.1 104 10
  have eo : ((Int32.ofInt (8))).toInt = 8 := rfl
  have ea := y_add (a := (Int32.ofInt (8))) (b := nn) (by decide) (by decide) (by omega) (by omega)
  by_cases cb1 : (xI h 104 8) = (Int32.ofInt (2))
  · have e_2 : (Int32.ofInt (2)).toInt = 2 := rfl
    have dcb1 : (xI h 104 8).toInt = (Int32.ofInt (2)).toInt := congrArg Int32.toInt cb1
    have t2 : XT l 2 47 false 194 153 6051 0 [xf 13 104, xf 10016 116, xi (Int32.ofInt (8)), xi nn, xun] [] h 21 [xf 13 104, xf 10016 116, xi (Int32.ofInt (8)), xi nn, xun] [xi (xI h 104 9), xi nn, xi (Int32.ofInt (8)), xf 10016 116] h := XT_path (l := l) (fr := 2) (lo := 47) (full := false) (M := 194) (n := 153) (u := 6051) (pc := 0) (L := [xf 13 104, xf 10016 116, xi (Int32.ofInt (8)), xi nn, xun]) (st := []) (h := h) (inl := [187]) (n' := 120) (sp := [21]) (o := [1]) rfl rfl ⟨rfl, rfl, rfl⟩ rfl ⟨Nat.le_of_eq hg.2.2.2.1, Nat.le_of_eq hg.2.2.2.2⟩ ⟨trivial, cb1⟩
    have wv : (xI h 104 9).toInt = tkv b n q := by omega
    obtain ⟨v1, c1, e1⟩ := jk_find116 l Z (xI h 104 9) nn N h hg hn (by omega) hz
    have e1 := e1.out
    rw [wv] at e1
    have t3 : XT l 2 47 false 194 153 6051 21 [xf 13 104, xf 10016 116, xi (Int32.ofInt (8)), xi nn, xun] [xi (xI h 104 9), xi nn, xi (Int32.ofInt (8)), xf 10016 116] h 24 [xf 13 104, xf 10016 116, xi (Int32.ofInt (8)), xi nn, xun] [xi v1] h := XT_call (l := l) (fr := 2) (lo := 47) (full := false) (M := 194) (n := 153) (u := 6051) (pc := 21) (L := [xf 13 104, xf 10016 116, xi (Int32.ofInt (8)), xi nn, xun]) (st := [xi (xI h 104 9), xi nn, xi (Int32.ofInt (8)), xf 10016 116]) (h := h) (i := .invokestatic 190) (aux := 4) (nx := 24) (K := 190) (vs := [xf 10016 116, xi (Int32.ofInt (8)), xi nn, xi (xI h 104 9)]) (rs := [xi v1]) (rest := []) rfl rfl rfl rfl rfl rfl c1 (by decide) (by decide) (Nat.le_of_ble_eq_true rfl) ⟨Nat.le_of_eq hg.2.2.2.1, Nat.le_of_eq hg.2.2.2.2⟩
    have t4 := t2.tr t3
    by_cases cb5 : (0 : Int32) ≤ v1
    · have e_0 : (0 : Int32).toInt = 0 := rfl
      have dcb5 : (0 : Int32).toInt ≤ (v1).toInt := Int32.le_iff_toInt_le.mp cb5
      have t6 : XT l 2 47 false 194 153 6051 24 [xf 13 104, xf 10016 116, xi (Int32.ofInt (8)), xi nn, xun] [xi v1] h 38 [xf 13 104, xf 10016 116, xi (Int32.ofInt (8)), xi nn, xi v1] [xf 13 104] h := XT_path (l := l) (fr := 2) (lo := 47) (full := false) (M := 194) (n := 153) (u := 6051) (pc := 24) (L := [xf 13 104, xf 10016 116, xi (Int32.ofInt (8)), xi nn, xun]) (st := [xi v1]) (h := h) (inl := [187]) (n' := 120) (sp := [38]) (o := [1]) rfl rfl ⟨rfl, rfl, rfl⟩ rfl ⟨Nat.le_of_eq hg.2.2.2.1, Nat.le_of_eq hg.2.2.2.2⟩ ⟨trivial, cb5⟩
      have t7 := t4.tr t6
      have es : (sTn b n q (zfn Z (tkv b n q) N 0)) = 0 := by unfold sTn; rw [if_pos (by omega), if_neg (by omega)]
      have G0 : mT ([(104, 4, false), (104, 5, false), (104, 7, false), (104, 8, false), (104, 9, false), (104, 10, false), (104, 11, false)], []) h h := (mT.rf hg)
      obtain ⟨h1, c2, g1, j1⟩ := jk_adv l b n q h G0.1 jt
      have t8 : XT l 2 47 false 194 153 6051 38 [xf 13 104, xf 10016 116, xi (Int32.ofInt (8)), xi nn, xi v1] [xf 13 104] h 41 [xf 13 104, xf 10016 116, xi (Int32.ofInt (8)), xi nn, xi v1] [] h1 := XT_call (l := l) (fr := 2) (lo := 47) (full := false) (M := 194) (n := 153) (u := 6051) (pc := 38) (L := [xf 13 104, xf 10016 116, xi (Int32.ofInt (8)), xi nn, xi v1]) (st := [xf 13 104]) (h := h) (i := .invokevirtual 180) (aux := 1) (nx := 41) (K := 180) (vs := [xf 13 104]) (rs := []) (rest := []) rfl rfl rfl rfl rfl rfl c2 (by decide) (by decide) (Nat.le_of_ble_eq_true rfl) ⟨Nat.le_of_eq g1.1.2.2.2.1, Nat.le_of_eq g1.1.2.2.2.2⟩
      have t9 := t7.tr t8
      have t10 : XT l 2 47 false 194 153 6051 41 [xf 13 104, xf 10016 116, xi (Int32.ofInt (8)), xi nn, xi v1] [] h1 48 [xf 13 104, xf 10016 116, xi (Int32.ofInt (8)), xi nn, xi v1] [xi (Int32.ofInt (1))] (xsetI h1 104 11 v1) := XT_path (l := l) (fr := 2) (lo := 47) (full := false) (M := 194) (n := 153) (u := 6051) (pc := 41) (L := [xf 13 104, xf 10016 116, xi (Int32.ofInt (8)), xi nn, xi v1]) (st := []) (h := h1) (inl := [187]) (n' := 120) (sp := [48]) (o := []) rfl rfl ⟨rfl, rfl, rfl⟩ rfl ⟨Nat.le_of_eq g1.1.2.2.2.1, Nat.le_of_eq g1.1.2.2.2.2⟩ trivial
      have t11 := t9.tr t10
      have G1 : mT ([(104, 4, false), (104, 5, false), (104, 7, false), (104, 8, false), (104, 9, false), (104, 10, false), (104, 11, false)], []) h h1 := mT.tr (W := ([(104, 4, false), (104, 5, false), (104, 7, false), (104, 8, false), (104, 9, false), (104, 10, false), (104, 11, false)], [])) (b := h) G0 ⟨g1.1, g1.2.mono rfl rfl⟩
      have G2 : mT ([(104, 4, false), (104, 5, false), (104, 7, false), (104, 8, false), (104, 9, false), (104, 10, false), (104, 11, false)], []) h (xsetI h1 104 11 v1) := (G1 : mT ([(104, 4, false), (104, 5, false), (104, 7, false), (104, 8, false), (104, 9, false), (104, 10, false), (104, 11, false)], []) h h1).set (c := 104) (k := 11) (v := v1) (show (0 : Int) ≤ _ ∧ _ ≤ 99 from ⟨by omega, by omega⟩) rfl
      exact ⟨_, _, CX_ofT (h' := (xsetI h1 104 11 v1)) (by decide) rfl rfl ⟨trivial, (Or.inr rfl)⟩ ⟨_, _, _, rfl, rfl, rfl⟩ rfl ⟨Nat.le_of_eq g1.1.2.2.2.1.symm, Nat.le_of_eq g1.1.2.2.2.2.symm⟩ t11, G2, Or.inl ⟨es, rfl, j1.fr (fun k hk => yI_ne (eq_false (by omega))) (fun k => yI_c (by decide)), (by rw [yI_same]; exact ⟨e1, by omega, by omega⟩ : (xI (xsetI h1 104 11 v1) 104 11).toInt = (zfn Z (tkv b n q) N 0) ∧ 0 ≤ (xI (xsetI h1 104 11 v1) 104 11).toInt ∧ (xI (xsetI h1 104 11 v1) 104 11).toInt < N)⟩⟩
    · have e_0 : (0 : Int32).toInt = 0 := rfl
      have dcb5 : (v1).toInt < (0 : Int32).toInt := Int32.lt_iff_toInt_lt.mp (Int32.not_le.mp cb5)
      have t12 : XT l 2 47 false 194 153 6051 24 [xf 13 104, xf 10016 116, xi (Int32.ofInt (8)), xi nn, xun] [xi v1] h 36 [xf 13 104, xf 10016 116, xi (Int32.ofInt (8)), xi nn, xi v1] [xi (Int32.ofInt (0))] (xsetI (xsetI h 104 4 (Int32.ofInt (4))) 104 5 (xI h 104 10)) := XT_path (l := l) (fr := 2) (lo := 47) (full := false) (M := 194) (n := 153) (u := 6051) (pc := 24) (L := [xf 13 104, xf 10016 116, xi (Int32.ofInt (8)), xi nn, xun]) (st := [xi v1]) (h := h) (inl := [187]) (n' := 120) (sp := [36]) (o := [0]) rfl rfl ⟨rfl, rfl, rfl⟩ rfl ⟨Nat.le_of_eq hg.2.2.2.1, Nat.le_of_eq hg.2.2.2.2⟩ ⟨⟨trivial, cb5⟩, (Or.inl rfl)⟩
      have t13 := t4.tr t12
      have es : (sTn b n q (zfn Z (tkv b n q) N 0)) = 4 := by unfold sTn; rw [if_pos (by omega), if_pos (by omega)]
      have w14 : mT ([(104, 4, false), (104, 5, false), (104, 7, false), (104, 8, false), (104, 9, false), (104, 10, false), (104, 11, false)], []) h (xsetI h 104 4 (Int32.ofInt (4))) := ((mT.rf hg) : mT ([(104, 4, false), (104, 5, false), (104, 7, false), (104, 8, false), (104, 9, false), (104, 10, false), (104, 11, false)], []) h h).set (c := 104) (k := 4) (v := (Int32.ofInt (4))) (show (0 : Int) ≤ _ ∧ _ ≤ 5 from (by decide)) rfl
      have G0 : mT ([(104, 4, false), (104, 5, false), (104, 7, false), (104, 8, false), (104, 9, false), (104, 10, false), (104, 11, false)], []) h (xsetI (xsetI h 104 4 (Int32.ofInt (4))) 104 5 (xI h 104 10)) := (w14 : mT ([(104, 4, false), (104, 5, false), (104, 7, false), (104, 8, false), (104, 9, false), (104, 10, false), (104, 11, false)], []) h (xsetI h 104 4 (Int32.ofInt (4)))).set (c := 104) (k := 5) (v := (xI h 104 10)) (show (-1 : Int) ≤ _ ∧ _ ≤ 700 from ⟨by omega, by omega⟩) rfl
      exact ⟨_, _, CX_ofT (h' := (xsetI (xsetI h 104 4 (Int32.ofInt (4))) 104 5 (xI h 104 10))) (by decide) rfl rfl ⟨trivial, (Or.inl rfl)⟩ ⟨_, _, _, rfl, rfl, rfl⟩ rfl ⟨Nat.le_of_eq hg.2.2.2.1.symm, Nat.le_of_eq hg.2.2.2.2.symm⟩ t13, G0, Or.inr ⟨(by rw [es]; decide : ¬ (sTn b n q (zfn Z (tkv b n q) N 0)) = 0), rfl, by rw [es]; exact jB.of jt (fun c k z => (yI_ne (eq_false (by omega))).trans (yI_ne (eq_false (by omega)))) ((yI_ne (by decide)).trans yI_same) rfl yI_same jq⟩⟩
  · have e_2 : (Int32.ofInt (2)).toInt = 2 := rfl
    have dcb1 : ¬ (xI h 104 8).toInt = (Int32.ofInt (2)).toInt := fun z_ => cb1 (Int32.toInt_inj.mp z_)
    have t15 : XT l 2 47 false 194 153 6051 0 [xf 13 104, xf 10016 116, xi (Int32.ofInt (8)), xi nn, xun] [] h 13 [xf 13 104, xf 10016 116, xi (Int32.ofInt (8)), xi nn, xun] [xi (Int32.ofInt (0))] (xsetI (xsetI h 104 4 (Int32.ofInt (1))) 104 5 (xI h 104 10)) := XT_path (l := l) (fr := 2) (lo := 47) (full := false) (M := 194) (n := 153) (u := 6051) (pc := 0) (L := [xf 13 104, xf 10016 116, xi (Int32.ofInt (8)), xi nn, xun]) (st := []) (h := h) (inl := [187]) (n' := 120) (sp := [13]) (o := [0]) rfl rfl ⟨rfl, rfl, rfl⟩ rfl ⟨Nat.le_of_eq hg.2.2.2.1, Nat.le_of_eq hg.2.2.2.2⟩ ⟨⟨trivial, cb1⟩, (Or.inl rfl)⟩
    have es : (sTn b n q (zfn Z (tkv b n q) N 0)) = 1 := by unfold sTn; rw [if_neg (by omega)]
    have w16 : mT ([(104, 4, false), (104, 5, false), (104, 7, false), (104, 8, false), (104, 9, false), (104, 10, false), (104, 11, false)], []) h (xsetI h 104 4 (Int32.ofInt (1))) := ((mT.rf hg) : mT ([(104, 4, false), (104, 5, false), (104, 7, false), (104, 8, false), (104, 9, false), (104, 10, false), (104, 11, false)], []) h h).set (c := 104) (k := 4) (v := (Int32.ofInt (1))) (show (0 : Int) ≤ _ ∧ _ ≤ 5 from (by decide)) rfl
    have G0 : mT ([(104, 4, false), (104, 5, false), (104, 7, false), (104, 8, false), (104, 9, false), (104, 10, false), (104, 11, false)], []) h (xsetI (xsetI h 104 4 (Int32.ofInt (1))) 104 5 (xI h 104 10)) := (w16 : mT ([(104, 4, false), (104, 5, false), (104, 7, false), (104, 8, false), (104, 9, false), (104, 10, false), (104, 11, false)], []) h (xsetI h 104 4 (Int32.ofInt (1)))).set (c := 104) (k := 5) (v := (xI h 104 10)) (show (-1 : Int) ≤ _ ∧ _ ≤ 700 from ⟨by omega, by omega⟩) rfl
    exact ⟨_, _, CX_ofT (h' := (xsetI (xsetI h 104 4 (Int32.ofInt (1))) 104 5 (xI h 104 10))) (by decide) rfl rfl ⟨trivial, (Or.inl rfl)⟩ ⟨_, _, _, rfl, rfl, rfl⟩ rfl ⟨Nat.le_of_eq hg.2.2.2.1.symm, Nat.le_of_eq hg.2.2.2.2.symm⟩ t15, G0, Or.inr ⟨(by rw [es]; decide : ¬ (sTn b n q (zfn Z (tkv b n q) N 0)) = 0), rfl, by rw [es]; exact jB.of jt (fun c k z => (yI_ne (eq_false (by omega))).trans (yI_ne (eq_false (by omega)))) ((yI_ne (by decide)).trans yI_same) rfl yI_same jq⟩⟩
