/-! IMAGES, whole. -/
theorem kW.o {w c e : Nat} {Z : Nat → Int} {Y : Nat → Int32} {h h' : XH} (a : kW w c Z Y h) (oE : ∀ c k, ¬ c = e → xI h' c k = xI h c k) (rE : ∀ c k, xR h' c k = xR h c k) (hw : ¬ w = e ∧ ¬ w + 1 = e ∧ ¬ w + 4 = e ∧ ¬ w + 5 = e) : kW w c Z Y h' := by
  obtain ⟨a1, a2, a3, a4, a5, a6⟩ := a
  exact ⟨fun r hr => (oE _ _ hw.2.1).trans (a1 r hr), fun p hp => ⟨(oE _ _ hw.2.2.1).trans (a2 p hp).1, (oE _ _ hw.2.2.2).trans (a2 p hp).2⟩, (oE _ _ hw.1).trans a3, (oE _ _ hw.1).trans a4, fun z => (oE _ _ hw.1).trans (a5 z), (rE _ _).trans a6⟩
set_option maxRecDepth 100000 in
set_option maxHeartbeats 4000000 in
theorem ck_keepW (l : Launch) (c : Nat) (Z : Nat → Int) (Y : Nat → Int32) (h : XH) (hg : sgood vT vR vE 153 6051 h) (A : zAll Z) (md : Y 51 = (Int32.ofInt (-1))) (kw : kW 48 c Z Y h) (kd : kD 48 Z Y h) (ke : kE 48 Z Y h) (ky : kY 48 Z Y h) : ∃ h', CX l 2 66 false 163 [xf 12 2] h [xi (xI h 48 7)] h' ∧ vG ([(2, 6, false), (70, 7, false), (70, 10, false), (71, 0, true), (72, 0, true), (73, 0, true), (74, 0, true), (75, 0, true), (76, 0, true), (77, 0, true), (78, 0, true)], [(70, 0)]) h h' ∧ xI h' 2 6 = (Int32.ofInt (1)) ∧ kW 70 c Z Y h' ∧ kD 70 Z Y h' ∧ kE 70 Z Y h' ∧ kY 70 Z Y h' := by
  have t1 : XT l 2 66 false 163 153 6051 0 [xf 12 2] [] h 8 [xf 12 2] [xf 11 (xR h 2 3), xf 11 (xR h 2 5)] h := XT_path (l := l) (fr := 2) (lo := 66) (full := false) (M := 163) (n := 153) (u := 6051) (pc := 0) (L := [xf 12 2]) (st := []) (h := h) (inl := [67]) (n' := 80) (sp := [8]) (o := []) rfl rfl ⟨rfl, rfl, rfl⟩ rfl ⟨Nat.le_of_eq hg.2.2.2.1, Nat.le_of_eq hg.2.2.2.2⟩ ⟨⟨trivial, (vnn hg.1 (rfl : vRf 2 5 = [70]) (by decide))⟩, (vnn hg.1 (rfl : vRf 2 3 = [48]) (by decide))⟩
  rw [vref hg.1 (rfl : vRf 2 3 = [48]), vref hg.1 (rfl : vRf 2 5 = [70])] at t1
  obtain ⟨h1, c1, g1, a1, a2, a3, a4, a5, a6, a7, a8, s7, s10, s0⟩ := ck_copy70_48 l h hg
  have G1 : vG ([(2, 6, false), (70, 7, false), (70, 10, false), (71, 0, true), (72, 0, true), (73, 0, true), (74, 0, true), (75, 0, true), (76, 0, true), (77, 0, true), (78, 0, true)], [(70, 0)]) h h1 := ⟨g1.1, sf_mono g1.2 rfl rfl⟩
  have kw1 : kW 70 c Z Y h1 := kw.cp A.1 md a1 a6 a7 s7 s10 s0
  have kd1 : kD 70 Z Y h1 := kd.cp A.1 a5 a3
  have ke1 : kE 70 Z Y h1 := ke.cp A.1 a4
  have ky1 : kY 70 Z Y h1 := ky.cp A.1 a2 a8
  have t2 : XT l 2 66 false 163 153 6051 8 [xf 12 2] [xf 11 48, xf 11 70] h 11 [xf 12 2] [] h1 := XT_call (l := l) (fr := 2) (lo := 66) (full := false) (M := 163) (n := 153) (u := 6051) (pc := 8) (L := [xf 12 2]) (st := [xf 11 48, xf 11 70]) (h := h) (i := .invokevirtual 105) (aux := 2) (nx := 11) (K := 105) (vs := [xf 11 70, xf 11 48]) (rs := []) (rest := []) rfl rfl rfl rfl rfl rfl c1 (by decide) (by decide) (Nat.le_of_ble_eq_true rfl) ⟨Nat.le_of_eq g1.1.2.2.2.1, Nat.le_of_eq g1.1.2.2.2.2⟩
  have t3 := t1.tr t2
  have t4 : XT l 2 66 false 163 153 6051 11 [xf 12 2] [] h1 23 [xf 12 2] [xi (xI (xsetI h1 2 6 (Int32.ofInt (1))) (xR h1 2 3) 7)] (xsetI h1 2 6 (Int32.ofInt (1))) := XT_path (l := l) (fr := 2) (lo := 66) (full := false) (M := 163) (n := 153) (u := 6051) (pc := 11) (L := [xf 12 2]) (st := []) (h := h1) (inl := [67]) (n' := 80) (sp := [23]) (o := []) rfl rfl ⟨rfl, rfl, rfl⟩ rfl ⟨Nat.le_of_eq g1.1.2.2.2.1, Nat.le_of_eq g1.1.2.2.2.2⟩ ⟨⟨trivial, (Or.inr rfl)⟩, (vnn g1.1.1 (rfl : vRf 2 3 = [48]) (by decide))⟩
  rw [vref g1.1.1 (rfl : vRf 2 3 = [48])] at t4
  have t5 : XT l 2 66 false 163 153 6051 11 [xf 12 2] [] h1 23 [xf 12 2] [xi (xI h1 48 7)] (xsetI h1 2 6 (Int32.ofInt (1))) := t4
  have t6 := t3.tr t5
  have G : vG ([(2, 6, false), (70, 7, false), (70, 10, false), (71, 0, true), (72, 0, true), (73, 0, true), (74, 0, true), (75, 0, true), (76, 0, true), (77, 0, true), (78, 0, true)], [(70, 0)]) h (xsetI h1 2 6 (Int32.ofInt (1))) := (G1 : vG ([(2, 6, false), (70, 7, false), (70, 10, false), (71, 0, true), (72, 0, true), (73, 0, true), (74, 0, true), (75, 0, true), (76, 0, true), (77, 0, true), (78, 0, true)], [(70, 0)]) h h1).set (c := 2) (k := 6) (v := (Int32.ofInt (1))) (show (0 : Int) ≤ _ ∧ _ ≤ 1 from (by decide)) (by decide +kernel) (by decide +kernel) rfl
  obtain ⟨hE, eE⟩ : ∃ x, x = (xsetI h1 2 6 (Int32.ofInt (1))) := ⟨_, rfl⟩
  have oE : ∀ c k, ¬ c = 2 → xI hE c k = xI h1 c k := fun c k z => by rw [eE]; exact yI_c (eq_false z)
  have rE : ∀ c k, xR hE c k = xR h1 c k := fun c k => by rw [eE]; rfl
  have sE : xI hE 2 6 = (Int32.ofInt (1)) := by rw [eE]; exact yI_same
  have e7 : (xI h1 48 7) = xI h 48 7 := g1.2.1 48 7 rfl
  rw [e7] at t6
  rw [← eE] at t6 G
  exact ⟨hE, CX_ofT (h' := hE) (by decide) rfl rfl trivial ⟨_, _, _, rfl, rfl, rfl⟩ rfl ⟨Nat.le_of_eq G.1.2.2.2.1.symm, Nat.le_of_eq G.1.2.2.2.2.symm⟩ t6, G, sE, kw1.o oE rE (by decide), ⟨fun j hj => by rw [oE _ _ (by decide)]; exact kd1.1 j hj, fun r hr => (oE _ _ (by decide)).trans (kd1.2 r hr)⟩, fun r hr => (oE _ _ (by decide)).trans (ke1 r hr), ⟨fun r hr => (oE _ _ (by decide)).trans (ky1.1 r hr), fun p hp => (oE _ _ (by decide)).trans (ky1.2 p hp)⟩⟩
set_option maxRecDepth 100000 in
set_option maxHeartbeats 4000000 in
theorem ck_backW (l : Launch) (c : Nat) (Z : Nat → Int) (Y : Nat → Int32) (h : XH) (hg : sgood vT vR vE 153 6051 h) (A : zAll Z) (md : Y 51 = (Int32.ofInt (-1))) (kw : kW 70 c Z Y h) (kd : kD 70 Z Y h) (ke : kE 70 Z Y h) (ky : kY 70 Z Y h) (hk : ¬ xI h 2 6 = 0) : ∃ h', CX l 2 66 false 164 [xf 12 2] h [xi (Y 50)] h' ∧ vG ([(48, 7, false), (48, 10, false), (49, 0, true), (50, 0, true), (51, 0, true), (52, 0, true), (53, 0, true), (54, 0, true), (55, 0, true), (56, 0, true), (81, 0, false)], [(48, 0)]) h h' ∧ xI h' 81 0 = (Int32.ofInt (0)) ∧ kW 48 c Z Y h' ∧ kD 48 Z Y h' ∧ kE 48 Z Y h' ∧ kY 48 Z Y h' := by
  have t1 : XT l 2 66 false 164 153 6051 0 [xf 12 2] [] h 17 [xf 12 2] [xf 11 (xR h 2 5), xf 11 (xR h 2 3)] h := XT_path (l := l) (fr := 2) (lo := 66) (full := false) (M := 164) (n := 153) (u := 6051) (pc := 0) (L := [xf 12 2]) (st := []) (h := h) (inl := [67]) (n' := 80) (sp := [17]) (o := [1]) rfl rfl ⟨rfl, rfl, rfl⟩ rfl ⟨Nat.le_of_eq hg.2.2.2.1, Nat.le_of_eq hg.2.2.2.2⟩ ⟨⟨⟨trivial, hk⟩, (vnn hg.1 (rfl : vRf 2 3 = [48]) (by decide))⟩, (vnn hg.1 (rfl : vRf 2 5 = [70]) (by decide))⟩
  rw [vref hg.1 (rfl : vRf 2 5 = [70]), vref hg.1 (rfl : vRf 2 3 = [48])] at t1
  obtain ⟨h1, c1, g1, a1, a2, a3, a4, a5, a6, a7, a8, s7, s10, s0⟩ := ck_copy48_70 l h hg
  have G1 : vG ([(48, 7, false), (48, 10, false), (49, 0, true), (50, 0, true), (51, 0, true), (52, 0, true), (53, 0, true), (54, 0, true), (55, 0, true), (56, 0, true), (81, 0, false)], [(48, 0)]) h h1 := ⟨g1.1, sf_mono g1.2 rfl rfl⟩
  have kw1 : kW 48 c Z Y h1 := kw.cp A.1 md a1 a6 a7 s7 s10 s0
  have kd1 : kD 48 Z Y h1 := kd.cp A.1 a5 a3
  have ke1 : kE 48 Z Y h1 := ke.cp A.1 a4
  have ky1 : kY 48 Z Y h1 := ky.cp A.1 a2 a8
  have t2 : XT l 2 66 false 164 153 6051 17 [xf 12 2] [xf 11 70, xf 11 48] h 20 [xf 12 2] [] h1 := XT_call (l := l) (fr := 2) (lo := 66) (full := false) (M := 164) (n := 153) (u := 6051) (pc := 17) (L := [xf 12 2]) (st := [xf 11 70, xf 11 48]) (h := h) (i := .invokevirtual 105) (aux := 2) (nx := 20) (K := 105) (vs := [xf 11 48, xf 11 70]) (rs := []) (rest := []) rfl rfl rfl rfl rfl rfl c1 (by decide) (by decide) (Nat.le_of_ble_eq_true rfl) ⟨Nat.le_of_eq g1.1.2.2.2.1, Nat.le_of_eq g1.1.2.2.2.2⟩
  have t3 := t1.tr t2
  have t4 : XT l 2 66 false 164 153 6051 20 [xf 12 2] [] h1 34 [xf 12 2] [xi (xI (xsetI h1 (xR h1 2 7) 0 (Int32.ofInt (0))) (xR h1 2 3) 7)] (xsetI h1 (xR h1 2 7) 0 (Int32.ofInt (0))) := XT_path (l := l) (fr := 2) (lo := 66) (full := false) (M := 164) (n := 153) (u := 6051) (pc := 20) (L := [xf 12 2]) (st := []) (h := h1) (inl := [67]) (n' := 80) (sp := [34]) (o := []) rfl rfl ⟨rfl, rfl, rfl⟩ rfl ⟨Nat.le_of_eq g1.1.2.2.2.1, Nat.le_of_eq g1.1.2.2.2.2⟩ ⟨⟨trivial, (vnn g1.1.1 (rfl : vRf 2 7 = [81]) (by decide))⟩, (vnn g1.1.1 (rfl : vRf 2 3 = [48]) (by decide))⟩
  rw [vref g1.1.1 (rfl : vRf 2 7 = [81]), vref g1.1.1 (rfl : vRf 2 3 = [48])] at t4
  have t5 : XT l 2 66 false 164 153 6051 20 [xf 12 2] [] h1 34 [xf 12 2] [xi (xI h1 48 7)] (xsetI h1 81 0 (Int32.ofInt (0))) := t4
  have t6 := t3.tr t5
  have G : vG ([(48, 7, false), (48, 10, false), (49, 0, true), (50, 0, true), (51, 0, true), (52, 0, true), (53, 0, true), (54, 0, true), (55, 0, true), (56, 0, true), (81, 0, false)], [(48, 0)]) h (xsetI h1 81 0 (Int32.ofInt (0))) := (G1 : vG ([(48, 7, false), (48, 10, false), (49, 0, true), (50, 0, true), (51, 0, true), (52, 0, true), (53, 0, true), (54, 0, true), (55, 0, true), (56, 0, true), (81, 0, false)], [(48, 0)]) h h1).set (c := 81) (k := 0) (v := (Int32.ofInt (0))) (show (0 : Int) ≤ _ ∧ _ ≤ 20 from (by decide)) (by decide +kernel) (by decide +kernel) rfl
  obtain ⟨hE, eE⟩ : ∃ x, x = (xsetI h1 81 0 (Int32.ofInt (0))) := ⟨_, rfl⟩
  have oE : ∀ c k, ¬ c = 81 → xI hE c k = xI h1 c k := fun c k z => by rw [eE]; exact yI_c (eq_false z)
  have rE : ∀ c k, xR hE c k = xR h1 c k := fun c k => by rw [eE]; rfl
  have sE : xI hE 81 0 = (Int32.ofInt (0)) := by rw [eE]; exact yI_same
  have e7 : (xI h1 48 7) = Y 50 := kw1.2.2.1
  rw [e7] at t6
  rw [← eE] at t6 G
  exact ⟨hE, CX_ofT (h' := hE) (by decide) rfl rfl trivial ⟨_, _, _, rfl, rfl, rfl⟩ rfl ⟨Nat.le_of_eq G.1.2.2.2.1.symm, Nat.le_of_eq G.1.2.2.2.2.symm⟩ t6, G, sE, kw1.o oE rE (by decide), ⟨fun j hj => by rw [oE _ _ (by decide)]; exact kd1.1 j hj, fun r hr => (oE _ _ (by decide)).trans (kd1.2 r hr)⟩, fun r hr => (oE _ _ (by decide)).trans (ke1 r hr), ⟨fun r hr => (oE _ _ (by decide)).trans (ky1.1 r hr), fun p hp => (oE _ _ (by decide)).trans (ky1.2 p hp)⟩⟩
set_option maxRecDepth 100000 in
set_option maxHeartbeats 4000000 in
theorem ck_back0 (l : Launch) (h : XH) (hg : sgood vT vR vE 153 6051 h) (hk : xI h 2 6 = 0) : CX l 2 66 false 164 [xf 12 2] h [xi (Int32.ofInt (-1))] h := by
  have t1 : XT l 2 66 false 164 153 6051 0 [xf 12 2] [] h 8 [xf 12 2] [xi (Int32.ofInt (-1))] h := XT_path (l := l) (fr := 2) (lo := 66) (full := false) (M := 164) (n := 153) (u := 6051) (pc := 0) (L := [xf 12 2]) (st := []) (h := h) (inl := []) (n' := 80) (sp := [8]) (o := [0]) rfl rfl ⟨rfl, rfl, rfl⟩ rfl ⟨Nat.le_of_eq hg.2.2.2.1, Nat.le_of_eq hg.2.2.2.2⟩ ⟨trivial, hk⟩
  exact CX_ofT (h' := h) (by decide) rfl rfl trivial ⟨_, _, _, rfl, rfl, rfl⟩ rfl ⟨Nat.le_of_eq hg.2.2.2.1.symm, Nat.le_of_eq hg.2.2.2.2.symm⟩ t1
set_option maxRecDepth 100000 in
set_option maxHeartbeats 4000000 in
theorem jk_back0 (l : Launch) (h : XH) (hg : sgood vT vR vE 153 6051 h) (hk : xI h 104 78 = 0) : ∃ h', CX l 1 23 false 286 [xf 13 104] h [xi (Int32.ofInt (-1))] h' ∧ vG ([(104, 2, false)], []) h h' := by
  have t1 : XT l 1 23 false 286 153 6051 0 [xf 13 104, xun] [] h 13 [xf 13 104, xun] [xi (Int32.ofInt (-1))] (xsetI h 104 2 (Int32.ofInt (0))) := XT_path (l := l) (fr := 1) (lo := 23) (full := false) (M := 286) (n := 153) (u := 6051) (pc := 0) (L := [xf 13 104, xun]) (st := []) (h := h) (inl := []) (n' := 80) (sp := [13]) (o := [0]) rfl rfl ⟨rfl, rfl, rfl⟩ rfl ⟨Nat.le_of_eq hg.2.2.2.1, Nat.le_of_eq hg.2.2.2.2⟩ ⟨trivial, hk⟩
  have G : vG ([(104, 2, false)], []) h (xsetI h 104 2 (Int32.ofInt (0))) := ((vG.rf hg) : vG ([(104, 2, false)], []) h h).set (c := 104) (k := 2) (v := (Int32.ofInt (0))) (show (0 : Int) ≤ _ ∧ _ ≤ 2 from (by decide)) (by decide +kernel) (by decide +kernel) rfl
  exact ⟨_, CX_ofT (h' := (xsetI h 104 2 (Int32.ofInt (0)))) (by decide) rfl rfl trivial ⟨_, _, _, rfl, rfl, rfl⟩ rfl ⟨Nat.le_of_eq hg.2.2.2.1.symm, Nat.le_of_eq hg.2.2.2.2.symm⟩ t1, G⟩
set_option maxRecDepth 100000 in
set_option maxHeartbeats 4000000 in
theorem jk_kpA (l : Launch) (h : XH) : ∀ (m k : Nat) (kk : Int32) (h1 : XH), mW (fun c k : Nat => c = 151 ∧ 0 ≤ k ∧ k < 6) h h1 → kk.toInt = k → k + m = 6 → (∀ j : Nat, j < k → xI h1 151 (j) = xI h 134 (j)) → ∃ k2 h2, XT l 1 23 false 285 153 6051 21 [xf 13 104, xi kk] [] h1 45 [xf 13 104, xi k2] [] h2 ∧ mW (fun c k : Nat => c = 151 ∧ 0 ≤ k ∧ k < 6) h h2 ∧ (∀ j : Nat, j < 6 → xI h2 151 (j) = xI h 134 (j))
  | 0, k, kk, h1, G, hk, hm, I1 => by
    have hg1 := G.1
    have e_N : ((Int32.ofInt (6))).toInt = 6 := rfl
    have t1 : XT l 1 23 false 285 153 6051 21 [xf 13 104, xi kk] [] h1 45 [xf 13 104, xi kk] [] h1 := XT_path (l := l) (fr := 1) (lo := 23) (full := false) (M := 285) (n := 153) (u := 6051) (pc := 21) (L := [xf 13 104, xi kk]) (st := []) (h := h1) (inl := []) (n' := 80) (sp := [45]) (o := [1]) rfl rfl ⟨rfl, rfl, rfl⟩ rfl ⟨Nat.le_of_eq hg1.2.2.2.1, Nat.le_of_eq hg1.2.2.2.2⟩ ⟨trivial, (show (Int32.ofInt (6)) ≤ kk from Int32.le_iff_toInt_le.mpr (by omega))⟩
    obtain rfl : k = 6 := by omega
    exact ⟨kk, h1, t1, G, I1⟩
  | m + 1, k, kk, h1, G, hk, hm, I1 => by
    have hg1 := G.1
    have e_N : ((Int32.ofInt (6))).toInt = 6 := rfl
    have nk : kk.toNatClampNeg = k := zi_ix hk
    have sk := y_suc1 (k := kk) (by omega) (by omega)
    have t1 : XT l 1 23 false 285 153 6051 21 [xf 13 104, xi kk] [] h1 21 [xf 13 104, xi (kk + Int32.ofInt (1))] [] (xsetI h1 (xR h1 104 80) (kk).toNatClampNeg (xI h1 (xR h1 104 56) (kk).toNatClampNeg)) := XT_path (l := l) (fr := 1) (lo := 23) (full := false) (M := 285) (n := 153) (u := 6051) (pc := 21) (L := [xf 13 104, xi kk]) (st := []) (h := h1) (inl := []) (n' := 80) (sp := [21]) (o := [0]) rfl rfl ⟨rfl, rfl, rfl⟩ rfl ⟨Nat.le_of_eq hg1.2.2.2.1, Nat.le_of_eq hg1.2.2.2.2⟩ ⟨⟨⟨⟨⟨trivial, (show ¬ (Int32.ofInt (6)) ≤ kk from fun z => absurd (Int32.le_iff_toInt_le.mp z) (by omega))⟩, (vnn hg1.1 (rfl : vRf 104 80 = [151]) (by decide))⟩, (vnn hg1.1 (rfl : vRf 104 56 = [134]) (by decide))⟩, (vp_of (i := kk) (n := 12) (by omega) (by omega))⟩, (vp_of (i := kk) (n := 15) (by omega) (by omega))⟩
    rw [vref hg1.1 (rfl : vRf 104 80 = [151]), vref hg1.1 (rfl : vRf 104 56 = [134])] at t1
    obtain ⟨hE, eE⟩ : ∃ x, x = (xsetI h1 151 (kk).toNatClampNeg (xI h1 134 (kk).toNatClampNeg)) := ⟨_, rfl⟩
    have eE2 : hE = xsetI h1 151 (k) (xI h1 134 (k)) := by rw [eE]; simp only [nk]
    have GE : mW (fun c k : Nat => c = 151 ∧ 0 ≤ k ∧ k < 6) h hE := by rw [eE2]; exact G.set (show 151 = 151 ∧ 0 ≤ (k) ∧ (k) < 6 from by omega) (by rw [vI_u rfl (rfl : vRow 151 = sfull)]; exact i32r_of _)
    have K : ∀ j, xI h1 134 j = xI h 134 j := fun j => G.k (fun z => by have z : 134 = 151 ∧ 0 ≤ j ∧ j < 6 := z; omega)
    rw [← eE] at t1
    obtain ⟨k3, h9, tq9, G9, I9⟩ := jk_kpA l h m (k + 1) (kk + Int32.ofInt (1)) hE GE (by omega) (by omega) (fun j hj => by rw [eE2]; exact if e : j = k then (by rw [e]; exact yI_same.trans (K _)) else ((yI_ne (eq_false (fun z => by have := z.2; omega))).trans (I1 j (by omega))))
    exact ⟨k3, h9, t1.tr tq9, G9, I9⟩
set_option maxRecDepth 100000 in
set_option maxHeartbeats 4000000 in
theorem jk_kpB (l : Launch) (h : XH) : ∀ (m k : Nat) (kk : Int32) (h1 : XH), mW (fun c k : Nat => c = 151 ∧ 6 ≤ k ∧ k < 14) h h1 → kk.toInt = k → k + m = 8 → (∀ j : Nat, j < k → xI h1 151 (6 + j) = xI h 137 (j)) → ∃ k2 h2, XT l 1 23 false 285 153 6051 47 [xf 13 104, xi kk] [] h1 74 [xf 13 104, xi k2] [] h2 ∧ mW (fun c k : Nat => c = 151 ∧ 6 ≤ k ∧ k < 14) h h2 ∧ (∀ j : Nat, j < 8 → xI h2 151 (6 + j) = xI h 137 (j))
  | 0, k, kk, h1, G, hk, hm, I1 => by
    have hg1 := G.1
    have e_N : ((Int32.ofInt (8))).toInt = 8 := rfl
    have t1 : XT l 1 23 false 285 153 6051 47 [xf 13 104, xi kk] [] h1 74 [xf 13 104, xi kk] [] h1 := XT_path (l := l) (fr := 1) (lo := 23) (full := false) (M := 285) (n := 153) (u := 6051) (pc := 47) (L := [xf 13 104, xi kk]) (st := []) (h := h1) (inl := []) (n' := 80) (sp := [74]) (o := [1]) rfl rfl ⟨rfl, rfl, rfl⟩ rfl ⟨Nat.le_of_eq hg1.2.2.2.1, Nat.le_of_eq hg1.2.2.2.2⟩ ⟨trivial, (show (Int32.ofInt (8)) ≤ kk from Int32.le_iff_toInt_le.mpr (by omega))⟩
    obtain rfl : k = 8 := by omega
    exact ⟨kk, h1, t1, G, I1⟩
  | m + 1, k, kk, h1, G, hk, hm, I1 => by
    have hg1 := G.1
    have e_N : ((Int32.ofInt (8))).toInt = 8 := rfl
    have nk : kk.toNatClampNeg = k := zi_ix hk
    have sk := y_suc1 (k := kk) (by omega) (by omega)
    have ea0 : ((Int32.ofInt (6))).toInt = 6 := rfl
    have ea : ((Int32.ofInt (6)) + kk).toInt = 6 + k := by rw [y_addb (by omega) (by omega), hk, ea0]
    have na : ((Int32.ofInt (6)) + kk).toNatClampNeg = 6 + k := zi_ix (by rw [ea]; omega)
    have t1 : XT l 1 23 false 285 153 6051 47 [xf 13 104, xi kk] [] h1 47 [xf 13 104, xi (kk + Int32.ofInt (1))] [] (xsetI h1 (xR h1 104 80) (((Int32.ofInt (6)) + kk)).toNatClampNeg (xI h1 (xR h1 104 59) (kk).toNatClampNeg)) := XT_path (l := l) (fr := 1) (lo := 23) (full := false) (M := 285) (n := 153) (u := 6051) (pc := 47) (L := [xf 13 104, xi kk]) (st := []) (h := h1) (inl := []) (n' := 80) (sp := [47]) (o := [0]) rfl rfl ⟨rfl, rfl, rfl⟩ rfl ⟨Nat.le_of_eq hg1.2.2.2.1, Nat.le_of_eq hg1.2.2.2.2⟩ ⟨⟨⟨⟨⟨trivial, (show ¬ (Int32.ofInt (8)) ≤ kk from fun z => absurd (Int32.le_iff_toInt_le.mp z) (by omega))⟩, (vnn hg1.1 (rfl : vRf 104 80 = [151]) (by decide))⟩, (vnn hg1.1 (rfl : vRf 104 59 = [137]) (by decide))⟩, (vp_of (i := kk) (n := 16) (by omega) (by omega))⟩, (vp_of (i := ((Int32.ofInt (6)) + kk)) (n := 15) (by omega) (by omega))⟩
    rw [vref hg1.1 (rfl : vRf 104 80 = [151]), vref hg1.1 (rfl : vRf 104 59 = [137])] at t1
    obtain ⟨hE, eE⟩ : ∃ x, x = (xsetI h1 151 (((Int32.ofInt (6)) + kk)).toNatClampNeg (xI h1 137 (kk).toNatClampNeg)) := ⟨_, rfl⟩
    have eE2 : hE = xsetI h1 151 (6 + k) (xI h1 137 (k)) := by rw [eE]; simp only [na, nk]
    have GE : mW (fun c k : Nat => c = 151 ∧ 6 ≤ k ∧ k < 14) h hE := by rw [eE2]; exact G.set (show 151 = 151 ∧ 6 ≤ (6 + k) ∧ (6 + k) < 14 from by omega) (by rw [vI_u rfl (rfl : vRow 151 = sfull)]; exact i32r_of _)
    have K : ∀ j, xI h1 137 j = xI h 137 j := fun j => G.k (fun z => by have z : 137 = 151 ∧ 6 ≤ j ∧ j < 14 := z; omega)
    rw [← eE] at t1
    obtain ⟨k3, h9, tq9, G9, I9⟩ := jk_kpB l h m (k + 1) (kk + Int32.ofInt (1)) hE GE (by omega) (by omega) (fun j hj => by rw [eE2]; exact if e : j = k then (by rw [e]; exact yI_same.trans (K _)) else ((yI_ne (eq_false (fun z => by have := z.2; omega))).trans (I1 j (by omega))))
    exact ⟨k3, h9, t1.tr tq9, G9, I9⟩
set_option maxRecDepth 100000 in
set_option maxHeartbeats 4000000 in
theorem jk_bkA (l : Launch) (h : XH) : ∀ (m k : Nat) (kk : Int32) (h1 : XH), mW (fun c k : Nat => c = 134 ∧ 0 ≤ k ∧ k < 6) h h1 → kk.toInt = k → k + m = 6 → (∀ j : Nat, j < k → xI h1 134 (j) = xI h 151 (j)) → ∃ k2 h2, XT l 1 23 false 286 153 6051 25 [xf 13 104, xi kk] [] h1 49 [xf 13 104, xi k2] [] h2 ∧ mW (fun c k : Nat => c = 134 ∧ 0 ≤ k ∧ k < 6) h h2 ∧ (∀ j : Nat, j < 6 → xI h2 134 (j) = xI h 151 (j))
  | 0, k, kk, h1, G, hk, hm, I1 => by
    have hg1 := G.1
    have e_N : ((Int32.ofInt (6))).toInt = 6 := rfl
    have t1 : XT l 1 23 false 286 153 6051 25 [xf 13 104, xi kk] [] h1 49 [xf 13 104, xi kk] [] h1 := XT_path (l := l) (fr := 1) (lo := 23) (full := false) (M := 286) (n := 153) (u := 6051) (pc := 25) (L := [xf 13 104, xi kk]) (st := []) (h := h1) (inl := []) (n' := 80) (sp := [49]) (o := [1]) rfl rfl ⟨rfl, rfl, rfl⟩ rfl ⟨Nat.le_of_eq hg1.2.2.2.1, Nat.le_of_eq hg1.2.2.2.2⟩ ⟨trivial, (show (Int32.ofInt (6)) ≤ kk from Int32.le_iff_toInt_le.mpr (by omega))⟩
    obtain rfl : k = 6 := by omega
    exact ⟨kk, h1, t1, G, I1⟩
  | m + 1, k, kk, h1, G, hk, hm, I1 => by
    have hg1 := G.1
    have e_N : ((Int32.ofInt (6))).toInt = 6 := rfl
    have nk : kk.toNatClampNeg = k := zi_ix hk
    have sk := y_suc1 (k := kk) (by omega) (by omega)
    have t1 : XT l 1 23 false 286 153 6051 25 [xf 13 104, xi kk] [] h1 25 [xf 13 104, xi (kk + Int32.ofInt (1))] [] (xsetI h1 (xR h1 104 56) (kk).toNatClampNeg (xI h1 (xR h1 104 80) (kk).toNatClampNeg)) := XT_path (l := l) (fr := 1) (lo := 23) (full := false) (M := 286) (n := 153) (u := 6051) (pc := 25) (L := [xf 13 104, xi kk]) (st := []) (h := h1) (inl := []) (n' := 80) (sp := [25]) (o := [0]) rfl rfl ⟨rfl, rfl, rfl⟩ rfl ⟨Nat.le_of_eq hg1.2.2.2.1, Nat.le_of_eq hg1.2.2.2.2⟩ ⟨⟨⟨⟨⟨trivial, (show ¬ (Int32.ofInt (6)) ≤ kk from fun z => absurd (Int32.le_iff_toInt_le.mp z) (by omega))⟩, (vnn hg1.1 (rfl : vRf 104 56 = [134]) (by decide))⟩, (vnn hg1.1 (rfl : vRf 104 80 = [151]) (by decide))⟩, (vp_of (i := kk) (n := 15) (by omega) (by omega))⟩, (vp_of (i := kk) (n := 12) (by omega) (by omega))⟩
    rw [vref hg1.1 (rfl : vRf 104 56 = [134]), vref hg1.1 (rfl : vRf 104 80 = [151])] at t1
    obtain ⟨hE, eE⟩ : ∃ x, x = (xsetI h1 134 (kk).toNatClampNeg (xI h1 151 (kk).toNatClampNeg)) := ⟨_, rfl⟩
    have eE2 : hE = xsetI h1 134 (k) (xI h1 151 (k)) := by rw [eE]; simp only [nk]
    have GE : mW (fun c k : Nat => c = 134 ∧ 0 ≤ k ∧ k < 6) h hE := by rw [eE2]; exact G.set (show 134 = 134 ∧ 0 ≤ (k) ∧ (k) < 6 from by omega) (by rw [vI_u rfl (rfl : vRow 134 = sfull)]; exact i32r_of _)
    have K : ∀ j, xI h1 151 j = xI h 151 j := fun j => G.k (fun z => by have z : 151 = 134 ∧ 0 ≤ j ∧ j < 6 := z; omega)
    rw [← eE] at t1
    obtain ⟨k3, h9, tq9, G9, I9⟩ := jk_bkA l h m (k + 1) (kk + Int32.ofInt (1)) hE GE (by omega) (by omega) (fun j hj => by rw [eE2]; exact if e : j = k then (by rw [e]; exact yI_same.trans (K _)) else ((yI_ne (eq_false (fun z => by have := z.2; omega))).trans (I1 j (by omega))))
    exact ⟨k3, h9, t1.tr tq9, G9, I9⟩
set_option maxRecDepth 100000 in
set_option maxHeartbeats 4000000 in
theorem jk_bkB (l : Launch) (h : XH) : ∀ (m k : Nat) (kk : Int32) (h1 : XH), mW (fun c k : Nat => c = 137 ∧ 0 ≤ k ∧ k < 8) h h1 → kk.toInt = k → k + m = 8 → (∀ j : Nat, j < k → xI h1 137 (j) = xI h 151 (6 + j)) → ∃ k2 h2, XT l 1 23 false 286 153 6051 51 [xf 13 104, xi kk] [] h1 78 [xf 13 104, xi k2] [] h2 ∧ mW (fun c k : Nat => c = 137 ∧ 0 ≤ k ∧ k < 8) h h2 ∧ (∀ j : Nat, j < 8 → xI h2 137 (j) = xI h 151 (6 + j))
  | 0, k, kk, h1, G, hk, hm, I1 => by
    have hg1 := G.1
    have e_N : ((Int32.ofInt (8))).toInt = 8 := rfl
    have t1 : XT l 1 23 false 286 153 6051 51 [xf 13 104, xi kk] [] h1 78 [xf 13 104, xi kk] [] h1 := XT_path (l := l) (fr := 1) (lo := 23) (full := false) (M := 286) (n := 153) (u := 6051) (pc := 51) (L := [xf 13 104, xi kk]) (st := []) (h := h1) (inl := []) (n' := 80) (sp := [78]) (o := [1]) rfl rfl ⟨rfl, rfl, rfl⟩ rfl ⟨Nat.le_of_eq hg1.2.2.2.1, Nat.le_of_eq hg1.2.2.2.2⟩ ⟨trivial, (show (Int32.ofInt (8)) ≤ kk from Int32.le_iff_toInt_le.mpr (by omega))⟩
    obtain rfl : k = 8 := by omega
    exact ⟨kk, h1, t1, G, I1⟩
  | m + 1, k, kk, h1, G, hk, hm, I1 => by
    have hg1 := G.1
    have e_N : ((Int32.ofInt (8))).toInt = 8 := rfl
    have nk : kk.toNatClampNeg = k := zi_ix hk
    have sk := y_suc1 (k := kk) (by omega) (by omega)
    have ea0 : ((Int32.ofInt (6))).toInt = 6 := rfl
    have ea : ((Int32.ofInt (6)) + kk).toInt = 6 + k := by rw [y_addb (by omega) (by omega), hk, ea0]
    have na : ((Int32.ofInt (6)) + kk).toNatClampNeg = 6 + k := zi_ix (by rw [ea]; omega)
    have t1 : XT l 1 23 false 286 153 6051 51 [xf 13 104, xi kk] [] h1 51 [xf 13 104, xi (kk + Int32.ofInt (1))] [] (xsetI h1 (xR h1 104 59) (kk).toNatClampNeg (xI h1 (xR h1 104 80) (((Int32.ofInt (6)) + kk)).toNatClampNeg)) := XT_path (l := l) (fr := 1) (lo := 23) (full := false) (M := 286) (n := 153) (u := 6051) (pc := 51) (L := [xf 13 104, xi kk]) (st := []) (h := h1) (inl := []) (n' := 80) (sp := [51]) (o := [0]) rfl rfl ⟨rfl, rfl, rfl⟩ rfl ⟨Nat.le_of_eq hg1.2.2.2.1, Nat.le_of_eq hg1.2.2.2.2⟩ ⟨⟨⟨⟨⟨trivial, (show ¬ (Int32.ofInt (8)) ≤ kk from fun z => absurd (Int32.le_iff_toInt_le.mp z) (by omega))⟩, (vnn hg1.1 (rfl : vRf 104 59 = [137]) (by decide))⟩, (vnn hg1.1 (rfl : vRf 104 80 = [151]) (by decide))⟩, (vp_of (i := ((Int32.ofInt (6)) + kk)) (n := 15) (by omega) (by omega))⟩, (vp_of (i := kk) (n := 16) (by omega) (by omega))⟩
    rw [vref hg1.1 (rfl : vRf 104 59 = [137]), vref hg1.1 (rfl : vRf 104 80 = [151])] at t1
    obtain ⟨hE, eE⟩ : ∃ x, x = (xsetI h1 137 (kk).toNatClampNeg (xI h1 151 (((Int32.ofInt (6)) + kk)).toNatClampNeg)) := ⟨_, rfl⟩
    have eE2 : hE = xsetI h1 137 (k) (xI h1 151 (6 + k)) := by rw [eE]; simp only [na, nk]
    have GE : mW (fun c k : Nat => c = 137 ∧ 0 ≤ k ∧ k < 8) h hE := by rw [eE2]; exact G.set (show 137 = 137 ∧ 0 ≤ (k) ∧ (k) < 8 from by omega) (by rw [vI_u rfl (rfl : vRow 137 = sfull)]; exact i32r_of _)
    have K : ∀ j, xI h1 151 j = xI h 151 j := fun j => G.k (fun z => by have z : 151 = 137 ∧ 0 ≤ j ∧ j < 8 := z; omega)
    rw [← eE] at t1
    obtain ⟨k3, h9, tq9, G9, I9⟩ := jk_bkB l h m (k + 1) (kk + Int32.ofInt (1)) hE GE (by omega) (by omega) (fun j hj => by rw [eE2]; exact if e : j = k then (by rw [e]; exact yI_same.trans (K _)) else ((yI_ne (eq_false (fun z => by have := z.2; omega))).trans (I1 j (by omega))))
    exact ⟨k3, h9, t1.tr tq9, G9, I9⟩
set_option maxRecDepth 100000 in
set_option maxHeartbeats 4000000 in
theorem jk_keepW (l : Launch) (Z : Nat → Int) (Y : Nat → Int32) (h : XH) (hg : mI h) (A : zAll Z) (jw : jHf 0 Z Y h) (jy : jY 0 Z Y h) : ∃ h', CX l 1 23 false 285 [xf 13 104] h [xi (Y 50)] h' ∧ mW (fun c k : Nat => ((c = 104 ∧ (k = 2 ∨ k = 78)) ∨ c = 150 ∨ c = 151)) h h' ∧ xI h' 104 78 = (Int32.ofInt (1)) ∧ jIm Z Y h' := by
  obtain ⟨⟨⟨B00, B01⟩, ⟨B10, B11⟩, ⟨B20, B21⟩, B30, B31⟩, g6, zj, zv, LW⟩ := id A
  have t1 : XT l 1 23 false 285 153 6051 0 [xf 13 104, xun] [] h 16 [xf 13 104, xun] [xi (Int32.ofInt (0)), xf 10022 (xR h 104 79), xf 13 104] (xsetI (xsetI h 104 2 (Int32.ofInt (0))) 104 78 (Int32.ofInt (1))) := XT_path (l := l) (fr := 1) (lo := 23) (full := false) (M := 285) (n := 153) (u := 6051) (pc := 0) (L := [xf 13 104, xun]) (st := []) (h := h) (inl := []) (n' := 80) (sp := [16]) (o := []) rfl rfl ⟨rfl, rfl, rfl⟩ rfl ⟨Nat.le_of_eq hg.2.2.2.1, Nat.le_of_eq hg.2.2.2.2⟩ ⟨⟨trivial, (Or.inr rfl)⟩, (vnn hg.1 (rfl : vRf 104 79 = [150]) (by decide))⟩
  rw [vref hg.1 (rfl : vRf 104 79 = [150])] at t1
  obtain ⟨hS, eS⟩ : ∃ x, x = (xsetI (xsetI h 104 2 (Int32.ofInt (0))) 104 78 (Int32.ofInt (1))) := ⟨_, rfl⟩
  have eS2 : hS = xsetI (xsetI h 104 2 (Int32.ofInt (0))) 104 78 (Int32.ofInt (1)) := eS
  have GS : mW (fun c k : Nat => ((c = 104 ∧ (k = 2 ∨ k = 78)) ∨ c = 150 ∨ c = 151)) h hS := by rw [eS2]; exact ((mW.rf hg).set (Or.inl ⟨rfl, Or.inl rfl⟩) (by show (0 : Int) ≤ _ ∧ _ ≤ 2; decide)).set (Or.inl ⟨rfl, Or.inr rfl⟩) (by show (0 : Int) ≤ _ ∧ _ ≤ 1; decide)
  have oS : ∀ c k, ¬ c = 104 → xI hS c k = xI h c k := fun c k hc => by rw [eS2, yI_c (eq_false hc), yI_c (eq_false hc)]
  have s78 : xI hS 104 78 = (Int32.ofInt (1)) := by rw [eS2]; exact yI_same
  rw [← eS] at t1
  obtain ⟨h1, c1, G1, I1, J1⟩ := jk_put150 l 0 (by decide) (Int32.ofInt (0)) rfl hS GS.1
  have t2 : XT l 1 23 false 285 153 6051 16 [xf 13 104, xun] [xi (Int32.ofInt (0)), xf 10022 150, xf 13 104] hS 19 [xf 13 104, xun] [] h1 := XT_call (l := l) (fr := 1) (lo := 23) (full := false) (M := 285) (n := 153) (u := 6051) (pc := 16) (L := [xf 13 104, xun]) (st := [xi (Int32.ofInt (0)), xf 10022 150, xf 13 104]) (h := hS) (i := .invokevirtual 240) (aux := 3) (nx := 19) (K := 240) (vs := [xf 13 104, xf 10022 150, xi (Int32.ofInt (0))]) (rs := []) (rest := []) rfl rfl rfl rfl rfl rfl c1 (by decide) (by decide) (Nat.le_of_ble_eq_true rfl) ⟨Nat.le_of_eq G1.1.2.2.2.1, Nat.le_of_eq G1.1.2.2.2.2⟩
  have t3 := t1.tr t2
  have t4 : XT l 1 23 false 285 153 6051 19 [xf 13 104, xun] [] h1 21 [xf 13 104, xi (Int32.ofInt (0))] [] h1 := XT_path (l := l) (fr := 1) (lo := 23) (full := false) (M := 285) (n := 153) (u := 6051) (pc := 19) (L := [xf 13 104, xun]) (st := []) (h := h1) (inl := []) (n' := 80) (sp := [21]) (o := []) rfl rfl ⟨rfl, rfl, rfl⟩ rfl ⟨Nat.le_of_eq G1.1.2.2.2.1, Nat.le_of_eq G1.1.2.2.2.2⟩ trivial
  have t5 := t3.tr t4
  obtain ⟨k2, h2, z2, G2, I2⟩ := jk_kpA l h1 6 0 (Int32.ofInt (0)) h1 (mW.rf G1.1) rfl rfl (fun j hj => absurd hj (Nat.not_lt_zero j))
  have T2 := t5.tr z2
  have t6 : XT l 1 23 false 285 153 6051 45 [xf 13 104, xi k2] [] h2 47 [xf 13 104, xi (Int32.ofInt (0))] [] h2 := XT_path (l := l) (fr := 1) (lo := 23) (full := false) (M := 285) (n := 153) (u := 6051) (pc := 45) (L := [xf 13 104, xi k2]) (st := []) (h := h2) (inl := []) (n' := 80) (sp := [47]) (o := []) rfl rfl ⟨rfl, rfl, rfl⟩ rfl ⟨Nat.le_of_eq G2.1.2.2.2.1, Nat.le_of_eq G2.1.2.2.2.2⟩ trivial
  have t7 := T2.tr t6
  obtain ⟨k3, h3, z3, G3, I3⟩ := jk_kpB l h2 8 0 (Int32.ofInt (0)) h2 (mW.rf G2.1) rfl rfl (fun j hj => absurd hj (Nat.not_lt_zero j))
  have T3 := t7.tr z3
  have t8 : XT l 1 23 false 285 153 6051 74 [xf 13 104, xi k3] [] h3 93 [xf 13 104, xi k3] [xi (xI (xsetI h3 (xR h3 104 80) ((Int32.ofInt (14))).toNatClampNeg (xI h3 (xR h3 104 60) ((Int32.ofInt (0))).toNatClampNeg)) (xR h3 104 60) ((Int32.ofInt (0))).toNatClampNeg)] (xsetI h3 (xR h3 104 80) ((Int32.ofInt (14))).toNatClampNeg (xI h3 (xR h3 104 60) ((Int32.ofInt (0))).toNatClampNeg)) := XT_path (l := l) (fr := 1) (lo := 23) (full := false) (M := 285) (n := 153) (u := 6051) (pc := 74) (L := [xf 13 104, xi k3]) (st := []) (h := h3) (inl := []) (n' := 80) (sp := [93]) (o := []) rfl rfl ⟨rfl, rfl, rfl⟩ rfl ⟨Nat.le_of_eq G3.1.2.2.2.1, Nat.le_of_eq G3.1.2.2.2.2⟩ ⟨⟨⟨⟨⟨⟨trivial, (vnn G3.1.1 (rfl : vRf 104 80 = [151]) (by decide))⟩, (vnn G3.1.1 (rfl : vRf 104 60 = [138]) (by decide))⟩, (vp_of (i := (Int32.ofInt (0))) (n := 2) (by decide) (by decide))⟩, (vp_of (i := (Int32.ofInt (14))) (n := 15) (by decide) (by decide))⟩, (vnn G3.1.1 (rfl : vRf 104 60 = [138]) (by decide))⟩, (vp_of (i := (Int32.ofInt (0))) (n := 2) (by decide) (by decide))⟩
  rw [vref G3.1.1 (rfl : vRf 104 80 = [151]), vref G3.1.1 (rfl : vRf 104 60 = [138])] at t8
  have t9 : XT l 1 23 false 285 153 6051 74 [xf 13 104, xi k3] [] h3 93 [xf 13 104, xi k3] [xi (xI h3 138 ((Int32.ofInt (0))).toNatClampNeg)] (xsetI h3 151 ((Int32.ofInt (14))).toNatClampNeg (xI h3 138 ((Int32.ofInt (0))).toNatClampNeg)) := t8
  have t10 := T3.tr t9
  obtain ⟨hE, eE⟩ : ∃ x, x = (xsetI h3 151 ((Int32.ofInt (14))).toNatClampNeg (xI h3 138 ((Int32.ofInt (0))).toNatClampNeg)) := ⟨_, rfl⟩
  have o3 : ∀ c k, ¬ c = 151 → xI h3 c k = xI h1 c k := fun c k hc => (G3.k (fun z => hc z.1)).trans (G2.k (fun z => hc z.1))
  have o1 : ∀ c k, ¬ c = 150 → xI h1 c k = xI hS c k := fun c k hc => G1.k (fun z => hc z.1)
  have v50 : xI h3 138 0 = Y 50 := (o3 138 0 (by decide)).trans ((o1 138 0 (by decide)).trans ((oS 138 0 (by decide)).trans jw.2.2))
  have eE2 : hE = xsetI h3 151 14 (xI h3 138 0) := eE
  rw [v50] at eE2
  have GE : mW (fun c k : Nat => ((c = 104 ∧ (k = 2 ∨ k = 78)) ∨ c = 150 ∨ c = 151)) h hE := by rw [eE2]; exact (((GS.tr (G1.mono (fun c k z => by have z : (c = 150 ∧ 22 * 0 ≤ k ∧ k < 22 * 0 + 22) := z; show ((c = 104 ∧ (k = 2 ∨ k = 78)) ∨ c = 150 ∨ c = 151); omega))).tr (G2.mono (fun c k z => by have z : c = 151 ∧ 0 ≤ k ∧ k < 6 := z; show ((c = 104 ∧ (k = 2 ∨ k = 78)) ∨ c = 150 ∨ c = 151); omega))).tr (G3.mono (fun c k z => by have z : c = 151 ∧ 6 ≤ k ∧ k < 14 := z; show ((c = 104 ∧ (k = 2 ∨ k = 78)) ∨ c = 150 ∨ c = 151); omega))).set (Or.inr (Or.inr rfl)) (by rw [vI_u rfl (rfl : vRow 151 = sfull)]; exact i32r_of _)
  have e7 : (xI h3 138 ((Int32.ofInt (0))).toNatClampNeg) = Y 50 := (show _ = xI h3 138 0 from rfl).trans v50
  rw [← eE] at t10
  rw [e7] at t10
  have oE : ∀ c k, ¬ c = 151 → xI hE c k = xI h1 c k := fun c k hc => by rw [eE2, yI_c (eq_false hc)]; exact o3 c k hc
  refine ⟨hE, CX_ofT (h' := hE) (by decide) rfl rfl trivial ⟨_, _, _, rfl, rfl, rfl⟩ rfl ⟨Nat.le_of_eq GE.1.2.2.2.1.symm, Nat.le_of_eq GE.1.2.2.2.2.symm⟩ t10, GE, (oE 104 78 (by decide)).trans ((o1 104 78 (by decide)).trans s78), ⟨fun p hp => ⟨?_, ?_⟩, fun r hr => ?_⟩, fun r hr => ?_, fun p hp => ?_, by rw [eE2]; exact yI_same⟩
  · have z := (I1 p (by omega)).1
    rw [show 22 * 0 + p = p from by omega] at z
    rw [show 0 + p = p from by omega, oE 150 _ (by decide), z, oS 136 _ (by decide)]
    have y := (jw.2.1 p hp).2
    rw [show 8 * 0 + p = p from by omega] at y
    exact y
  · have z := (I1 p (by omega)).2
    rw [show 22 * 0 + 8 + p = 0 + 8 + p from by omega] at z
    rw [oE 150 _ (by decide), z, oS 135 _ (by decide)]
    have y := (jw.2.1 p hp).1
    rw [show 8 * 0 + p = p from by omega] at y
    exact y
  · have z := J1 r (by omega)
    rw [show 22 * 0 + 16 + r = 0 + 16 + r from by omega] at z
    rw [oE 150 _ (by decide), z, oS 133 _ (by decide)]
    have y := jw.1 r hr
    rw [show 6 * 0 + r = r from by omega] at y
    exact y
  · rw [eE2, yI_ne (eq_false (fun z => by have := z.2; omega)), G3.k (c := 151) (k := r) (fun z => by have z : 151 = 151 ∧ 6 ≤ r ∧ r < 14 := z; omega), I2 r (by omega), o1 134 _ (by decide), oS 134 _ (by decide)]
    have y := jy.1 r hr
    rw [show 6 * 0 + r = r from by omega] at y
    exact y
  · rw [eE2, yI_ne (eq_false (fun z => by have := z.2; omega)), I3 p (by omega), G2.k (c := 137) (k := p) (fun z => by have z : 137 = 151 ∧ 0 ≤ p ∧ p < 6 := z; omega), o1 137 _ (by decide), oS 137 _ (by decide)]
    have y := jy.2 p hp
    rw [show 8 * 0 + p = p from by omega] at y
    exact y
set_option maxRecDepth 100000 in
set_option maxHeartbeats 4000000 in
theorem jk_backW (l : Launch) (Z : Nat → Int) (X : Nat → Int32) (h : XH) (hg : mI h) (A : zAll Z) (hk : ¬ xI h 104 78 = 0) (im : jIm Z X h) : ∃ h', CX l 1 23 false 286 [xf 13 104] h [xi (X 50)] h' ∧ mW (fun c k : Nat => ((c = 104 ∧ (k = 2 ∨ k = 76)) ∨ (c = 133 ∧ k < 6) ∨ ((c = 135 ∨ c = 136) ∧ k < 8) ∨ (c = 134 ∧ k < 6) ∨ (c = 137 ∧ k < 8) ∨ (c = 138 ∧ k = 0))) h h' ∧ xI h' 104 76 = (Int32.ofInt (0)) ∧ jHf 0 Z X h' ∧ jY 0 Z X h' := by
  obtain ⟨⟨⟨B00, B01⟩, ⟨B10, B11⟩, ⟨B20, B21⟩, B30, B31⟩, g6, zj, zv, LW⟩ := id A
  have t1 : XT l 1 23 false 286 153 6051 0 [xf 13 104, xun] [] h 20 [xf 13 104, xun] [xi (Int32.ofInt (0)), xf 10022 (xR h 104 79), xf 13 104] (xsetI h 104 2 (Int32.ofInt (0))) := XT_path (l := l) (fr := 1) (lo := 23) (full := false) (M := 286) (n := 153) (u := 6051) (pc := 0) (L := [xf 13 104, xun]) (st := []) (h := h) (inl := []) (n' := 80) (sp := [20]) (o := [1]) rfl rfl ⟨rfl, rfl, rfl⟩ rfl ⟨Nat.le_of_eq hg.2.2.2.1, Nat.le_of_eq hg.2.2.2.2⟩ ⟨⟨trivial, hk⟩, (vnn hg.1 (rfl : vRf 104 79 = [150]) (by decide))⟩
  rw [vref hg.1 (rfl : vRf 104 79 = [150])] at t1
  obtain ⟨hS, eS⟩ : ∃ x, x = (xsetI h 104 2 (Int32.ofInt (0))) := ⟨_, rfl⟩
  have eS2 : hS = xsetI h 104 2 (Int32.ofInt (0)) := eS
  have GS : mW (fun c k : Nat => ((c = 104 ∧ (k = 2 ∨ k = 76)) ∨ (c = 133 ∧ k < 6) ∨ ((c = 135 ∨ c = 136) ∧ k < 8) ∨ (c = 134 ∧ k < 6) ∨ (c = 137 ∧ k < 8) ∨ (c = 138 ∧ k = 0))) h hS := by rw [eS2]; exact (mW.rf hg).set (Or.inl ⟨rfl, Or.inl rfl⟩) (by show (0 : Int) ≤ _ ∧ _ ≤ 2; decide)
  have oS : ∀ c k, ¬ c = 104 → xI hS c k = xI h c k := fun c k hc => by rw [eS2, yI_c (eq_false hc)]
  rw [← eS] at t1
  obtain ⟨h1, c1, G1, I1, J1⟩ := jk_take150 l 0 (by decide) (Int32.ofInt (0)) rfl hS GS.1
  have t2 : XT l 1 23 false 286 153 6051 20 [xf 13 104, xun] [xi (Int32.ofInt (0)), xf 10022 150, xf 13 104] hS 23 [xf 13 104, xun] [] h1 := XT_call (l := l) (fr := 1) (lo := 23) (full := false) (M := 286) (n := 153) (u := 6051) (pc := 20) (L := [xf 13 104, xun]) (st := [xi (Int32.ofInt (0)), xf 10022 150, xf 13 104]) (h := hS) (i := .invokevirtual 284) (aux := 3) (nx := 23) (K := 284) (vs := [xf 13 104, xf 10022 150, xi (Int32.ofInt (0))]) (rs := []) (rest := []) rfl rfl rfl rfl rfl rfl c1 (by decide) (by decide) (Nat.le_of_ble_eq_true rfl) ⟨Nat.le_of_eq G1.1.2.2.2.1, Nat.le_of_eq G1.1.2.2.2.2⟩
  have t3 := t1.tr t2
  have t4 : XT l 1 23 false 286 153 6051 23 [xf 13 104, xun] [] h1 25 [xf 13 104, xi (Int32.ofInt (0))] [] h1 := XT_path (l := l) (fr := 1) (lo := 23) (full := false) (M := 286) (n := 153) (u := 6051) (pc := 23) (L := [xf 13 104, xun]) (st := []) (h := h1) (inl := []) (n' := 80) (sp := [25]) (o := []) rfl rfl ⟨rfl, rfl, rfl⟩ rfl ⟨Nat.le_of_eq G1.1.2.2.2.1, Nat.le_of_eq G1.1.2.2.2.2⟩ trivial
  have t5 := t3.tr t4
  obtain ⟨k2, h2, z2, G2, I2⟩ := jk_bkA l h1 6 0 (Int32.ofInt (0)) h1 (mW.rf G1.1) rfl rfl (fun j hj => absurd hj (Nat.not_lt_zero j))
  have T2 := t5.tr z2
  have t6 : XT l 1 23 false 286 153 6051 49 [xf 13 104, xi k2] [] h2 51 [xf 13 104, xi (Int32.ofInt (0))] [] h2 := XT_path (l := l) (fr := 1) (lo := 23) (full := false) (M := 286) (n := 153) (u := 6051) (pc := 49) (L := [xf 13 104, xi k2]) (st := []) (h := h2) (inl := []) (n' := 80) (sp := [51]) (o := []) rfl rfl ⟨rfl, rfl, rfl⟩ rfl ⟨Nat.le_of_eq G2.1.2.2.2.1, Nat.le_of_eq G2.1.2.2.2.2⟩ trivial
  have t7 := T2.tr t6
  obtain ⟨k3, h3, z3, G3, I3⟩ := jk_bkB l h2 8 0 (Int32.ofInt (0)) h2 (mW.rf G2.1) rfl rfl (fun j hj => absurd hj (Nat.not_lt_zero j))
  have T3 := t7.tr z3
  have t8 : XT l 1 23 false 286 153 6051 78 [xf 13 104, xi k3] [] h3 102 [xf 13 104, xi k3] [xi (xI (xsetI (xsetI h3 (xR h3 104 60) ((Int32.ofInt (0))).toNatClampNeg (xI h3 (xR h3 104 80) ((Int32.ofInt (14))).toNatClampNeg)) 104 76 (Int32.ofInt (0))) (xR h3 104 60) ((Int32.ofInt (0))).toNatClampNeg)] (xsetI (xsetI h3 (xR h3 104 60) ((Int32.ofInt (0))).toNatClampNeg (xI h3 (xR h3 104 80) ((Int32.ofInt (14))).toNatClampNeg)) 104 76 (Int32.ofInt (0))) := XT_path (l := l) (fr := 1) (lo := 23) (full := false) (M := 286) (n := 153) (u := 6051) (pc := 78) (L := [xf 13 104, xi k3]) (st := []) (h := h3) (inl := []) (n' := 80) (sp := [102]) (o := []) rfl rfl ⟨rfl, rfl, rfl⟩ rfl ⟨Nat.le_of_eq G3.1.2.2.2.1, Nat.le_of_eq G3.1.2.2.2.2⟩ ⟨⟨⟨⟨⟨⟨trivial, (vnn G3.1.1 (rfl : vRf 104 60 = [138]) (by decide))⟩, (vnn G3.1.1 (rfl : vRf 104 80 = [151]) (by decide))⟩, (vp_of (i := (Int32.ofInt (14))) (n := 15) (by decide) (by decide))⟩, (vp_of (i := (Int32.ofInt (0))) (n := 2) (by decide) (by decide))⟩, (vnn G3.1.1 (rfl : vRf 104 60 = [138]) (by decide))⟩, (vp_of (i := (Int32.ofInt (0))) (n := 2) (by decide) (by decide))⟩
  rw [vref G3.1.1 (rfl : vRf 104 60 = [138]), vref G3.1.1 (rfl : vRf 104 80 = [151])] at t8
  have t9 : XT l 1 23 false 286 153 6051 78 [xf 13 104, xi k3] [] h3 102 [xf 13 104, xi k3] [xi (xI (xsetI h3 138 ((Int32.ofInt (0))).toNatClampNeg (xI h3 151 ((Int32.ofInt (14))).toNatClampNeg)) 138 ((Int32.ofInt (0))).toNatClampNeg)] (xsetI (xsetI h3 138 ((Int32.ofInt (0))).toNatClampNeg (xI h3 151 ((Int32.ofInt (14))).toNatClampNeg)) 104 76 (Int32.ofInt (0))) := t8
  have t10 := T3.tr t9
  obtain ⟨hE, eE⟩ : ∃ x, x = (xsetI (xsetI h3 138 ((Int32.ofInt (0))).toNatClampNeg (xI h3 151 ((Int32.ofInt (14))).toNatClampNeg)) 104 76 (Int32.ofInt (0))) := ⟨_, rfl⟩
  have o3 : ∀ c k, ¬ c = 134 → ¬ c = 137 → xI h3 c k = xI h1 c k := fun c k h4 h7 => (G3.k (fun z => h7 z.1)).trans (G2.k (fun z => h4 z.1))
  have o1 : ∀ c k, ¬ c = 133 → ¬ c = 135 → ¬ c = 136 → xI h1 c k = xI hS c k := fun c k c3 c5 c6 => G1.k (fun z => by have z : ((c = 133 ∧ k < 6) ∨ ((c = 135 ∨ c = 136) ∧ k < 8)) := z; omega)
  have v50 : xI h3 151 14 = X 50 := (o3 151 14 (by decide) (by decide)).trans ((o1 151 14 (by decide) (by decide) (by decide)).trans ((oS 151 14 (by decide)).trans im.2.2.2))
  have eE2 : hE = xsetI (xsetI h3 138 0 (xI h3 151 14)) 104 76 (Int32.ofInt (0)) := eE
  rw [v50] at eE2
  have GE : mW (fun c k : Nat => ((c = 104 ∧ (k = 2 ∨ k = 76)) ∨ (c = 133 ∧ k < 6) ∨ ((c = 135 ∨ c = 136) ∧ k < 8) ∨ (c = 134 ∧ k < 6) ∨ (c = 137 ∧ k < 8) ∨ (c = 138 ∧ k = 0))) h hE := by rw [eE2]; exact ((((GS.tr (G1.mono (fun c k z => by have z : ((c = 133 ∧ k < 6) ∨ ((c = 135 ∨ c = 136) ∧ k < 8)) := z; show ((c = 104 ∧ (k = 2 ∨ k = 76)) ∨ (c = 133 ∧ k < 6) ∨ ((c = 135 ∨ c = 136) ∧ k < 8) ∨ (c = 134 ∧ k < 6) ∨ (c = 137 ∧ k < 8) ∨ (c = 138 ∧ k = 0)); omega))).tr (G2.mono (fun c k z => by have z : c = 134 ∧ 0 ≤ k ∧ k < 6 := z; show ((c = 104 ∧ (k = 2 ∨ k = 76)) ∨ (c = 133 ∧ k < 6) ∨ ((c = 135 ∨ c = 136) ∧ k < 8) ∨ (c = 134 ∧ k < 6) ∨ (c = 137 ∧ k < 8) ∨ (c = 138 ∧ k = 0)); omega))).tr (G3.mono (fun c k z => by have z : c = 137 ∧ 0 ≤ k ∧ k < 8 := z; show ((c = 104 ∧ (k = 2 ∨ k = 76)) ∨ (c = 133 ∧ k < 6) ∨ ((c = 135 ∨ c = 136) ∧ k < 8) ∨ (c = 134 ∧ k < 6) ∨ (c = 137 ∧ k < 8) ∨ (c = 138 ∧ k = 0)); omega))).set (show (138 = 104 ∧ (0 = 2 ∨ 0 = 76)) ∨ (138 = 133 ∧ 0 < 6) ∨ ((138 = 135 ∨ 138 = 136) ∧ 0 < 8) ∨ (138 = 134 ∧ 0 < 6) ∨ (138 = 137 ∧ 0 < 8) ∨ (138 = 138 ∧ 0 = 0) from by omega) (by rw [vI_u rfl (rfl : vRow 138 = sfull)]; exact i32r_of _)).set (Or.inl ⟨rfl, Or.inr rfl⟩) (by show (0 : Int) ≤ _ ∧ _ ≤ 20; decide)
  have e7 : (xI (xsetI h3 138 ((Int32.ofInt (0))).toNatClampNeg (xI h3 151 ((Int32.ofInt (14))).toNatClampNeg)) 138 ((Int32.ofInt (0))).toNatClampNeg) = X 50 := (show _ = xI h3 151 14 from rfl).trans v50
  rw [← eE] at t10
  rw [e7] at t10
  have oE : ∀ c k, ¬ c = 104 → ¬ c = 138 → xI hE c k = xI h3 c k := fun c k c1 c2 => by rw [eE2, yI_c (eq_false c1), yI_c (eq_false c2)]
  obtain ⟨⟨m1, m2⟩, m3, m4, m5⟩ := im
  refine ⟨hE, CX_ofT (h' := hE) (by decide) rfl rfl trivial ⟨_, _, _, rfl, rfl, rfl⟩ rfl ⟨Nat.le_of_eq GE.1.2.2.2.1.symm, Nat.le_of_eq GE.1.2.2.2.2.symm⟩ t10, GE, by rw [eE2]; exact yI_same, ⟨fun r hr => ?_, fun p hp => ⟨?_, ?_⟩, ?_⟩, fun r hr => ?_, fun p hp => ?_⟩
  · rw [show 6 * 0 + r = r from by omega, oE 133 _ (by decide) (by decide), o3 133 _ (by decide) (by decide), J1 r (by omega), oS 150 _ (by decide)]
    exact m2 r hr
  · rw [show 8 * 0 + p = p from by omega, oE 135 _ (by decide) (by decide), o3 135 _ (by decide) (by decide), (I1 p (by omega)).2, oS 150 _ (by decide)]
    exact (m1 p hp).2
  · rw [show 8 * 0 + p = p from by omega, oE 136 _ (by decide) (by decide), o3 136 _ (by decide) (by decide), (I1 p (by omega)).1, oS 150 _ (by decide)]
    exact (m1 p hp).1
  · rw [eE2, yI_c (by decide), yI_same]
  · rw [show 6 * 0 + r = r from by omega, oE 134 _ (by decide) (by decide), G3.k (c := 134) (k := r) (fun z => by have z : 134 = 137 ∧ 0 ≤ r ∧ r < 8 := z; omega), I2 r (by omega), o1 151 _ (by decide) (by decide) (by decide), oS 151 _ (by decide)]
    exact m3 r hr
  · rw [show 8 * 0 + p = p from by omega, oE 137 _ (by decide) (by decide), I3 p (by omega), G2.k (c := 151) (k := 6 + p) (fun z => by have z : 151 = 134 ∧ 0 ≤ (6 + p) ∧ (6 + p) < 6 := z; omega), o1 151 _ (by decide) (by decide) (by decide), oS 151 _ (by decide)]
    exact m4 p hp
