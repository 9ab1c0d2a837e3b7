/-! SETTING OUT keeps the model's first half. -/
theorem vHs_f {h h' : XH} (e : ∀ c k, 134 ≤ c → xI h' c k = xI h c k) : vHs h h' := ⟨fun k _ => e 134 k (by decide), fun k _ => e 136 k (by decide), fun k _ => e 137 k (by decide)⟩
theorem vHs_t {a b c : XH} (x : vHs a b) (y : vHs b c) : vHs a c := ⟨fun k hk => (y.1 k hk).trans (x.1 k hk), fun k hk => (y.2.1 k hk).trans (x.2.1 k hk), fun k hk => (y.2.2 k hk).trans (x.2.2 k hk)⟩
theorem vHs_f2 {a b c : XH} (x : vHs a b) (e : ∀ c' k, 134 ≤ c' → xI c c' k = xI b c' k) : vHs a c := vHs_t x (vHs_f e)
set_option maxRecDepth 100000 in
set_option maxHeartbeats 2000000 in
theorem vh_setOut2 (l : Launch) (a b : Int32) (h : XH) (hg : sgood vT vR vE 153 6051 h) : ∃ v h', CX l 11 300 false 263 [xf 13 104, xi a, xi b] h [xi v] h' ∧ vG ([(104, 2, false), (104, 54, false), (104, 63, false), (104, 64, false), (133, 6, false), (133, 7, false), (133, 8, false), (133, 9, false), (133, 10, false), (133, 11, false), (134, 0, true), (135, 8, false), (135, 9, false), (135, 10, false), (135, 11, false), (135, 12, false), (135, 13, false), (135, 14, false), (135, 15, false), (136, 0, true), (137, 0, true), (138, 1, false), (139, 0, true), (140, 0, true)], []) h h' ∧ vHs h h' := by
  have gA : sgood vT vR vE 153 6051 (xsetI h 104 2 (Int32.ofInt (0))) := vset0 hg ⟨by decide, by decide⟩ (by decide +kernel) (by decide +kernel)
  have fA : sframe ([(104, 2, false), (104, 54, false), (104, 63, false), (104, 64, false), (133, 6, false), (133, 7, false), (133, 8, false), (133, 9, false), (133, 10, false), (133, 11, false), (134, 0, true), (135, 8, false), (135, 9, false), (135, 10, false), (135, 11, false), (135, 12, false), (135, 13, false), (135, 14, false), (135, 15, false), (136, 0, true), (137, 0, true), (138, 1, false), (139, 0, true), (140, 0, true)], []) h (xsetI h 104 2 (Int32.ofInt (0))) := sframe_set rfl
  have t1 : XT l 11 300 false 263 153 6051 0 [xf 13 104, xi a, xi b, xun, xun] [] h 7 [xf 13 104, xi a, xi b, xun, xun] [xi a, xf 13 104] (xsetI h 104 2 (Int32.ofInt (0))) := XT_path (l := l) (fr := 11) (lo := 300) (full := false) (M := 263) (n := 153) (u := 6051) (pc := 0) (L := [xf 13 104, xi a, xi b, xun, xun]) (st := []) (h := h) (inl := []) (n' := 80) (sp := [7]) (o := []) rfl rfl ⟨rfl, rfl, rfl⟩ rfl ⟨Nat.le_of_eq hg.2.2.2.1, Nat.le_of_eq hg.2.2.2.2⟩ trivial
  obtain ⟨v1, h1, k1, g1, fr1, d1⟩ := vq_102 l a (xsetI h 104 2 (Int32.ofInt (0))) gA (i32r_of a) (vbnd gA.1 104 12)
  have f1 : sframe ([(104, 2, false), (104, 54, false), (104, 63, false), (104, 64, false), (133, 6, false), (133, 7, false), (133, 8, false), (133, 9, false), (133, 10, false), (133, 11, false), (134, 0, true), (135, 8, false), (135, 9, false), (135, 10, false), (135, 11, false), (135, 12, false), (135, 13, false), (135, 14, false), (135, 15, false), (136, 0, true), (137, 0, true), (138, 1, false), (139, 0, true), (140, 0, true)], []) h h1 := fA.tr (fr1.mono rfl rfl)
  have t2 : XT l 11 300 false 263 153 6051 7 [xf 13 104, xi a, xi b, xun, xun] [xi a, xf 13 104] (xsetI h 104 2 (Int32.ofInt (0))) 10 [xf 13 104, xi a, xi b, xun, xun] [xi v1] h1 := XT_call (l := l) (fr := 11) (lo := 300) (full := false) (M := 263) (n := 153) (u := 6051) (pc := 7) (L := [xf 13 104, xi a, xi b, xun, xun]) (st := [xi a, xf 13 104]) (h := (xsetI h 104 2 (Int32.ofInt (0)))) (i := .invokevirtual 231) (aux := 2) (nx := 10) (K := 231) (vs := [xf 13 104, xi a]) (rs := [xi v1]) (rest := []) rfl rfl rfl rfl rfl rfl k1 (by decide) (by decide) (Nat.le_of_ble_eq_true rfl) ⟨Nat.le_of_eq g1.2.2.2.1, Nat.le_of_eq g1.2.2.2.2⟩
  have t3 := t1.tr t2
  by_cases c4 : v1 = 0
  · have t5 : XT l 11 300 false 263 153 6051 10 [xf 13 104, xi a, xi b, xun, xun] [xi v1] h1 22 [xf 13 104, xi a, xi b, xun, xun] [xi (Int32.ofInt (-1))] h1 := XT_path (l := l) (fr := 11) (lo := 300) (full := false) (M := 263) (n := 153) (u := 6051) (pc := 10) (L := [xf 13 104, xi a, xi b, xun, xun]) (st := [xi v1]) (h := h1) (inl := []) (n' := 80) (sp := [22]) (o := [1]) rfl rfl ⟨rfl, rfl, rfl⟩ rfl ⟨Nat.le_of_eq g1.2.2.2.1, Nat.le_of_eq g1.2.2.2.2⟩ ⟨trivial, c4⟩
    have t6 := t3.tr t5
    have s1 : vHs h h1 := vHs_f (fun c k hc => (fr1.1 c k rfl).trans (yI_c (eq_false (by omega))))
    exact ⟨_, _, CX_ofT (h' := h1) (by decide) rfl rfl trivial ⟨_, _, _, rfl, rfl, rfl⟩ rfl ⟨Nat.le_of_eq g1.2.2.2.1.symm, Nat.le_of_eq g1.2.2.2.2.symm⟩ t6, ⟨g1, f1⟩, s1⟩
  · have t7 : XT l 11 300 false 263 153 6051 10 [xf 13 104, xi a, xi b, xun, xun] [xi v1] h1 15 [xf 13 104, xi a, xi b, xun, xun] [xi b, xf 13 104] h1 := XT_path (l := l) (fr := 11) (lo := 300) (full := false) (M := 263) (n := 153) (u := 6051) (pc := 10) (L := [xf 13 104, xi a, xi b, xun, xun]) (st := [xi v1]) (h := h1) (inl := []) (n' := 80) (sp := [15]) (o := [0]) rfl rfl ⟨rfl, rfl, rfl⟩ rfl ⟨Nat.le_of_eq g1.2.2.2.1, Nat.le_of_eq g1.2.2.2.2⟩ ⟨trivial, c4⟩
    have t8 := t3.tr t7
    obtain ⟨v2, h2, k2, g2, fr2, d2⟩ := vq_102 l b h1 g1 (i32r_of b) (vbnd g1.1 104 12)
    have f2 : sframe ([(104, 2, false), (104, 54, false), (104, 63, false), (104, 64, false), (133, 6, false), (133, 7, false), (133, 8, false), (133, 9, false), (133, 10, false), (133, 11, false), (134, 0, true), (135, 8, false), (135, 9, false), (135, 10, false), (135, 11, false), (135, 12, false), (135, 13, false), (135, 14, false), (135, 15, false), (136, 0, true), (137, 0, true), (138, 1, false), (139, 0, true), (140, 0, true)], []) h h2 := f1.tr (fr2.mono rfl rfl)
    have t9 : XT l 11 300 false 263 153 6051 15 [xf 13 104, xi a, xi b, xun, xun] [xi b, xf 13 104] h1 18 [xf 13 104, xi a, xi b, xun, xun] [xi v2] h2 := XT_call (l := l) (fr := 11) (lo := 300) (full := false) (M := 263) (n := 153) (u := 6051) (pc := 15) (L := [xf 13 104, xi a, xi b, xun, xun]) (st := [xi b, xf 13 104]) (h := h1) (i := .invokevirtual 231) (aux := 2) (nx := 18) (K := 231) (vs := [xf 13 104, xi b]) (rs := [xi v2]) (rest := []) rfl rfl rfl rfl rfl rfl k2 (by decide) (by decide) (Nat.le_of_ble_eq_true rfl) ⟨Nat.le_of_eq g2.2.2.2.1, Nat.le_of_eq g2.2.2.2.2⟩
    have t10 := t8.tr t9
    by_cases c11 : v2 = 0
    · have t12 : XT l 11 300 false 263 153 6051 18 [xf 13 104, xi a, xi b, xun, xun] [xi v2] h2 22 [xf 13 104, xi a, xi b, xun, xun] [xi (Int32.ofInt (-1))] h2 := XT_path (l := l) (fr := 11) (lo := 300) (full := false) (M := 263) (n := 153) (u := 6051) (pc := 18) (L := [xf 13 104, xi a, xi b, xun, xun]) (st := [xi v2]) (h := h2) (inl := []) (n' := 80) (sp := [22]) (o := [0]) rfl rfl ⟨rfl, rfl, rfl⟩ rfl ⟨Nat.le_of_eq g2.2.2.2.1, Nat.le_of_eq g2.2.2.2.2⟩ ⟨trivial, c11⟩
      have t13 := t10.tr t12
      have s1 : vHs h h1 := vHs_f (fun c k hc => (fr1.1 c k rfl).trans (yI_c (eq_false (by omega))))
      have s2 : vHs h h2 := vHs_f2 s1 (fun c k hc => fr2.1 c k rfl)
      exact ⟨_, _, CX_ofT (h' := h2) (by decide) rfl rfl trivial ⟨_, _, _, rfl, rfl, rfl⟩ rfl ⟨Nat.le_of_eq g2.2.2.2.1.symm, Nat.le_of_eq g2.2.2.2.2.symm⟩ t13, ⟨g2, f2⟩, s2⟩
    · have t14 : XT l 11 300 false 263 153 6051 18 [xf 13 104, xi a, xi b, xun, xun] [xi v2] h2 27 [xf 13 104, xi a, xi b, xun, xun] [xi (Int32.ofInt (0)), xi b, xi a, xf 13 104] h2 := XT_path (l := l) (fr := 11) (lo := 300) (full := false) (M := 263) (n := 153) (u := 6051) (pc := 18) (L := [xf 13 104, xi a, xi b, xun, xun]) (st := [xi v2]) (h := h2) (inl := []) (n' := 80) (sp := [27]) (o := [1]) rfl rfl ⟨rfl, rfl, rfl⟩ rfl ⟨Nat.le_of_eq g2.2.2.2.1, Nat.le_of_eq g2.2.2.2.2⟩ ⟨trivial, c11⟩
      have t15 := t10.tr t14
      have B_a : 0 ≤ a.toInt ∧ a.toInt ≤ 5 := by
        rcases d1 with d1 | d1
        · omega
        · exact absurd (Int32.toInt_inj.mp (show v1.toInt = (0 : Int32).toInt from by rw [show (0 : Int32).toInt = 0 from rfl]; omega)) c4
      have B_b : 0 ≤ b.toInt ∧ b.toInt ≤ 5 := by
        rcases d2 with d2 | d2
        · omega
        · exact absurd (Int32.toInt_inj.mp (show v2.toInt = (0 : Int32).toInt from by rw [show (0 : Int32).toInt = 0 from rfl]; omega)) c11
      have gS : sgood vT vR (vEs h2) 153 6051 h2 := ⟨g2.1, g2.2.1, ⟨g2.2.2.1, fun _ _ => rfl, fun _ _ => rfl, fun _ _ => rfl⟩, g2.2.2.2⟩
      have TT := t15
      by_cases U : ∃ v v' g g', CX l 10 265 false 261 [xf 13 104, xi a, xi b, xi (Int32.ofInt (0))] h2 [xi v] g ∧ CX l 10 265 false 261 [xf 13 104, xi a, xi b, xi (Int32.ofInt (0))] h2 [xi v'] g' ∧ v ≠ v' ∧ sgood vT vR (vEs h2) 153 6051 g ∧ sgood vT vR (vEs h2) 153 6051 g'
      · obtain ⟨v, v', g, g', y1, y2, y3, y4, y5⟩ := U
        have eN := g2.2.2.2
        have cU : CX l 10 265 false 261 [xf 13 104, xi a, xi b, xi (Int32.ofInt (0))] h2 [xi (Int32.ofInt (-2))] h2 := CX_two y1 y2 y3 ⟨y4.2.2.2.1.trans eN.1.symm, y4.2.2.2.2.trans eN.2.symm⟩ ⟨y5.2.2.2.1.trans eN.1.symm, y5.2.2.2.2.trans eN.2.symm⟩ (by decide)
        have t16 : XT l 11 300 false 263 153 6051 27 [xf 13 104, xi a, xi b, xun, xun] [xi (Int32.ofInt (0)), xi b, xi a, xf 13 104] h2 30 [xf 13 104, xi a, xi b, xun, xun] [xi (Int32.ofInt (-2))] h2 := XT_call (l := l) (fr := 11) (lo := 300) (full := false) (M := 263) (n := 153) (u := 6051) (pc := 27) (L := [xf 13 104, xi a, xi b, xun, xun]) (st := [xi (Int32.ofInt (0)), xi b, xi a, xf 13 104]) (h := h2) (i := .invokevirtual 261) (aux := 4) (nx := 30) (K := 261) (vs := [xf 13 104, xi a, xi b, xi (Int32.ofInt (0))]) (rs := [xi (Int32.ofInt (-2))]) (rest := []) rfl rfl rfl rfl rfl rfl cU (by decide) (by decide) (Nat.le_of_ble_eq_true rfl) ⟨Nat.le_of_eq g2.2.2.2.1, Nat.le_of_eq g2.2.2.2.2⟩
        have t17 := TT.tr t16
        have t18 : XT l 11 300 false 263 153 6051 30 [xf 13 104, xi a, xi b, xun, xun] [xi (Int32.ofInt (-2))] h2 37 [xf 13 104, xi a, xi b, xi (Int32.ofInt (-2)), xun] [xi (Int32.ofInt (-2))] h2 := XT_path (l := l) (fr := 11) (lo := 300) (full := false) (M := 263) (n := 153) (u := 6051) (pc := 30) (L := [xf 13 104, xi a, xi b, xun, xun]) (st := [xi (Int32.ofInt (-2))]) (h := h2) (inl := []) (n' := 80) (sp := [37]) (o := [0]) rfl rfl ⟨rfl, rfl, rfl⟩ rfl ⟨Nat.le_of_eq g2.2.2.2.1, Nat.le_of_eq g2.2.2.2.2⟩ ⟨trivial, (by decide)⟩
        have t19 := t17.tr t18
        have s1 : vHs h h1 := vHs_f (fun c k hc => (fr1.1 c k rfl).trans (yI_c (eq_false (by omega))))
        have s2 : vHs h h2 := vHs_f2 s1 (fun c k hc => fr2.1 c k rfl)
        exact ⟨_, _, CX_ofT (h' := h2) (by decide) rfl rfl trivial ⟨_, _, _, rfl, rfl, rfl⟩ rfl ⟨Nat.le_of_eq g2.2.2.2.1.symm, Nat.le_of_eq g2.2.2.2.2.symm⟩ t19, ⟨g2, f2⟩, s2⟩
      · obtain ⟨v3, g0, h3, c0, k3, gg0, g3, -, fr3, B3⟩ := vp_way l h2 a b (Int32.ofInt (0)) B_a B_b (by decide) h2 h2 gS gS ⟨fun _ _ _ _ => rfl, fun _ _ => rfl, trivial⟩
        have hn : ∀ v g, CX l 10 265 false 261 [xf 13 104, xi a, xi b, xi (Int32.ofInt (0))] h2 [xi v] g → sgood vT vR (vEs h2) 153 6051 g → v = v3 := fun v g y1 y2 => Classical.byContradiction fun z => U ⟨v, v3, g, g0, y1, c0, z, y2, gg0⟩
        have f3 : sframe ([(104, 2, false), (104, 54, false), (104, 63, false), (104, 64, false), (133, 6, false), (133, 7, false), (133, 8, false), (133, 9, false), (133, 10, false), (133, 11, false), (134, 0, true), (135, 8, false), (135, 9, false), (135, 10, false), (135, 11, false), (135, 12, false), (135, 13, false), (135, 14, false), (135, 15, false), (136, 0, true), (137, 0, true), (138, 1, false), (139, 0, true), (140, 0, true)], []) h h3 := f2.tr (fr3.mono (by decide +kernel) rfl)
        have t20 : XT l 11 300 false 263 153 6051 27 [xf 13 104, xi a, xi b, xun, xun] [xi (Int32.ofInt (0)), xi b, xi a, xf 13 104] h2 30 [xf 13 104, xi a, xi b, xun, xun] [xi v3] h3 := XT_call (l := l) (fr := 11) (lo := 300) (full := false) (M := 263) (n := 153) (u := 6051) (pc := 27) (L := [xf 13 104, xi a, xi b, xun, xun]) (st := [xi (Int32.ofInt (0)), xi b, xi a, xf 13 104]) (h := h2) (i := .invokevirtual 261) (aux := 4) (nx := 30) (K := 261) (vs := [xf 13 104, xi a, xi b, xi (Int32.ofInt (0))]) (rs := [xi v3]) (rest := []) rfl rfl rfl rfl rfl rfl k3 (by decide) (by decide) (Nat.le_of_ble_eq_true rfl) ⟨Nat.le_of_eq g3.2.2.2.1, Nat.le_of_eq g3.2.2.2.2⟩
        have t21 := TT.tr t20
        by_cases c22 : (0 : Int32) ≤ v3
        · have t23 : XT l 11 300 false 263 153 6051 30 [xf 13 104, xi a, xi b, xun, xun] [xi v3] h3 42 [xf 13 104, xi a, xi b, xi v3, xi (Int32.ofInt (20))] [] h3 := XT_path (l := l) (fr := 11) (lo := 300) (full := false) (M := 263) (n := 153) (u := 6051) (pc := 30) (L := [xf 13 104, xi a, xi b, xun, xun]) (st := [xi v3]) (h := h3) (inl := []) (n' := 80) (sp := [42]) (o := [1]) rfl rfl ⟨rfl, rfl, rfl⟩ rfl ⟨Nat.le_of_eq g3.2.2.2.1, Nat.le_of_eq g3.2.2.2.2⟩ ⟨trivial, c22⟩
          have t24 := t21.tr t23
          obtain ⟨u', h4, y4, g4, fr4⟩ := vso_loop l h2 a b v3 B_a B_b gS hn 20 (Int32.ofInt (20)) h3 g3 fr3 rfl (by decide)
          have f4 : sframe ([(104, 2, false), (104, 54, false), (104, 63, false), (104, 64, false), (133, 6, false), (133, 7, false), (133, 8, false), (133, 9, false), (133, 10, false), (133, 11, false), (134, 0, true), (135, 8, false), (135, 9, false), (135, 10, false), (135, 11, false), (135, 12, false), (135, 13, false), (135, 14, false), (135, 15, false), (136, 0, true), (137, 0, true), (138, 1, false), (139, 0, true), (140, 0, true)], []) h h4 := f2.tr (fr4.mono (by decide +kernel) rfl)
          have T4 := t24.tr y4
          have t25 : XT l 11 300 false 263 153 6051 60 [xf 13 104, xi a, xi b, xi v3, xi u'] [] h4 62 [xf 13 104, xi a, xi b, xi v3, xi u'] [xi u'] h4 := XT_path (l := l) (fr := 11) (lo := 300) (full := false) (M := 263) (n := 153) (u := 6051) (pc := 60) (L := [xf 13 104, xi a, xi b, xi v3, xi u']) (st := []) (h := h4) (inl := []) (n' := 80) (sp := [62]) (o := []) rfl rfl ⟨rfl, rfl, rfl⟩ rfl ⟨Nat.le_of_eq g4.2.2.2.1, Nat.le_of_eq g4.2.2.2.2⟩ trivial
          have t26 := T4.tr t25
          have s1 : vHs h h1 := vHs_f (fun c k hc => (fr1.1 c k rfl).trans (yI_c (eq_false (by omega))))
          have s2 : vHs h h2 := vHs_f2 s1 (fun c k hc => fr2.1 c k rfl)
          exact ⟨_, _, CX_ofT (h' := h4) (by decide) rfl rfl trivial ⟨_, _, _, rfl, rfl, rfl⟩ rfl ⟨Nat.le_of_eq g4.2.2.2.1.symm, Nat.le_of_eq g4.2.2.2.2.symm⟩ t26, ⟨(sgS_E g4), f4⟩, (vHs_t s2 g4.2.2.1.2)⟩
        · have t27 : XT l 11 300 false 263 153 6051 30 [xf 13 104, xi a, xi b, xun, xun] [xi v3] h3 37 [xf 13 104, xi a, xi b, xi v3, xun] [xi (Int32.ofInt (-2))] h3 := XT_path (l := l) (fr := 11) (lo := 300) (full := false) (M := 263) (n := 153) (u := 6051) (pc := 30) (L := [xf 13 104, xi a, xi b, xun, xun]) (st := [xi v3]) (h := h3) (inl := []) (n' := 80) (sp := [37]) (o := [0]) rfl rfl ⟨rfl, rfl, rfl⟩ rfl ⟨Nat.le_of_eq g3.2.2.2.1, Nat.le_of_eq g3.2.2.2.2⟩ ⟨trivial, c22⟩
          have t28 := t21.tr t27
          have s1 : vHs h h1 := vHs_f (fun c k hc => (fr1.1 c k rfl).trans (yI_c (eq_false (by omega))))
          have s2 : vHs h h2 := vHs_f2 s1 (fun c k hc => fr2.1 c k rfl)
          exact ⟨_, _, CX_ofT (h' := h3) (by decide) rfl rfl trivial ⟨_, _, _, rfl, rfl, rfl⟩ rfl ⟨Nat.le_of_eq g3.2.2.2.1.symm, Nat.le_of_eq g3.2.2.2.2.symm⟩ t28, ⟨(sgS_E g3), f3⟩, (vHs_t s2 g3.2.2.1.2)⟩
