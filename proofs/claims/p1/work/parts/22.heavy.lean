/-! p1: the heavy cases; all cases together; the law's course. -/
theorem yk_nn {x : Int32} (h : 0 ≤ x) : 0 ≤ x.toInt := Int32.le_iff_toInt_le.mp h
theorem yk_le {x : Int32} {c : Int32} {n : Int} (e : c.toInt = n) (h : x ≤ c) : x.toInt ≤ n := e ▸ Int32.le_iff_toInt_le.mp h
section P1H
variable {l : Launch} {xs : Nat → Int32} {h : XH}
theorem p1_heavy12 (Y : Y0 h 0 0 (-1)) (h0 : (xs 0 &&& 63).toInt = 12) (g0 : 0 ≤ xs 1) (g1 : xs 1 ≤ 99) : XB l 6 xs 14 540 false 289 157 6079 (fun rs _ => rs = [xi 1]) 23 xlh [] h := by
  have b0 := yk_nn g0
  have b1 := yk_le (c := 99) (n := 99) rfl g1
  by_cases hz : xs 1 ≤ 0
  · obtain ⟨hA, cA, YA⟩ := p1_seas_z l h (xs 1) 0 (-1) Y b0 b1 hz
    obtain ⟨hB, cB, YB⟩ := p1_mseas_z l hA (xs 1) (xs 1) (-1) YA b0 b1 hz
    exact p1_two12 l xs h hA hB _ h0 cA cB ⟨Nat.le_of_eq Y.1.2.2.1, Nat.le_of_eq Y.1.2.2.2⟩ ⟨Nat.le_of_eq YA.1.2.2.1, Nat.le_of_eq YA.1.2.2.2⟩ ⟨Nat.le_of_eq YB.1.2.2.1, Nat.le_of_eq YB.1.2.2.2⟩
  · obtain ⟨hA, cA, YA⟩ := p1_seas_p l h (xs 1) 0 (-1) Y b0 b1 hz
    obtain ⟨hB, cB, YB⟩ := p1_mseas_p l hA (xs 1) (xs 1) (-1) YA b0 b1 hz
    exact p1_two12 l xs h hA hB _ h0 cA cB ⟨Nat.le_of_eq Y.1.2.2.1, Nat.le_of_eq Y.1.2.2.2⟩ ⟨Nat.le_of_eq YA.1.2.2.1, Nat.le_of_eq YA.1.2.2.2⟩ ⟨Nat.le_of_eq YB.1.2.2.1, Nat.le_of_eq YB.1.2.2.2⟩
theorem p1_heavy14 (Y : Y0 h 0 0 (-1)) (h0 : (xs 0 &&& 63).toInt = 14) (g0 : 1 ≤ xs 1) (g1 : xs 1 ≤ 99) : XB l 6 xs 14 540 false 289 157 6079 (fun rs _ => rs = [xi 1]) 23 xlh [] h := by
  have b0 : 0 ≤ (xs 1).toInt := by
    have := Int32.le_iff_toInt_le.mp g0
    have e : (1 : Int32).toInt = 1 := rfl
    omega
  have b1 := yk_le (c := 99) (n := 99) rfl g1
  have b2 : ¬ xs 1 < 1 := Int32.not_lt.mpr g0
  obtain ⟨hA, cA, YA⟩ := p1_ste l h (xs 1) _ _ _ Y b0 b1 b2 g0
  obtain ⟨hB, cB, YB⟩ := p1_mste l hA (xs 1) _ _ _ YA b0 b1 b2 g0
  exact p1_two14 l xs h hA hB _ h0 cA cB ⟨Nat.le_of_eq Y.1.2.2.1, Nat.le_of_eq Y.1.2.2.2⟩ ⟨Nat.le_of_eq YA.1.2.2.1, Nat.le_of_eq YA.1.2.2.2⟩ ⟨Nat.le_of_eq YB.1.2.2.1, Nat.le_of_eq YB.1.2.2.2⟩
theorem p1_heavy31 (Y : Y0 h 0 0 (-1)) (h0 : (xs 0 &&& 63).toInt = 31) (w0 : 0 ≤ xs 1) (w4 : xs 1 ≤ 4) (w2 : ¬ xs 1 = 2) (i0 : xs 2 = 0) (g0 : 0 ≤ xs 3) (g1 : xs 3 ≤ 60) : XB l 6 xs 14 540 false 289 157 6079 (fun rs _ => rs = [xi 1]) 23 xlh [] h := by
  have b0 := yk_nn g0
  have b1 := yk_le (c := 60) (n := 60) rfl g1
  have v0 : ¬ xs 1 < 0 := Int32.not_lt.mpr w0
  have v4 : ¬ 4 < xs 1 := Int32.not_lt.mpr w4
  have hB' := fun hA (YA : Y0 hA 0 0 (xs 1)) => p1_mtri l hA (xs 1) (xs 3) _ _ _ YA b0 b1 v0 v4 w0 w4 w2
  by_cases hc : xs 1 = 3
  · obtain ⟨hA, cA, YA⟩ := p1_tri3 l h (xs 1) (xs 3) _ _ _ Y b0 b1 v0 v4 w0 w4 w2 hc
    obtain ⟨hB, cB, YB⟩ := hB' hA YA
    rw [← i0] at cA cB
    exact p1_two31 l xs h hA hB _ h0 cA cB ⟨Nat.le_of_eq Y.1.2.2.1, Nat.le_of_eq Y.1.2.2.2⟩ ⟨Nat.le_of_eq YA.1.2.2.1, Nat.le_of_eq YA.1.2.2.2⟩ ⟨Nat.le_of_eq YB.1.2.2.1, Nat.le_of_eq YB.1.2.2.2⟩
  · obtain ⟨hA, cA, YA⟩ := p1_tri l h (xs 1) (xs 3) _ _ _ Y b0 b1 v0 v4 w0 w4 w2 hc
    obtain ⟨hB, cB, YB⟩ := hB' hA YA
    rw [← i0] at cA cB
    exact p1_two31 l xs h hA hB _ h0 cA cB ⟨Nat.le_of_eq Y.1.2.2.1, Nat.le_of_eq Y.1.2.2.2⟩ ⟨Nat.le_of_eq YA.1.2.2.1, Nat.le_of_eq YA.1.2.2.2⟩ ⟨Nat.le_of_eq YB.1.2.2.1, Nat.le_of_eq YB.1.2.2.2⟩
theorem p1_case0 (Y : YF h 0 0) (h0 : (xs 0 &&& 63).toInt = 0) : XB l 6 xs 14 540 false 289 157 6079 (fun rs _ => rs = [xi 1]) 23 xlh [] h := by
  obtain ⟨hA, cA, YA⟩ := p1_feed l h (xs 1) (xs 2) (xs 3) (xs 4) (xs 5) Y
  obtain ⟨hB, cB, YB⟩ := p1_mfeed l hA (xs 1) (xs 2) (xs 3) (xs 4) (xs 5) YA
  exact p1_two0 l xs h hA hB _ h0 cA cB ⟨Nat.le_of_eq Y.1.2.2.1, Nat.le_of_eq Y.1.2.2.2⟩ ⟨Nat.le_of_eq YA.1.2.2.1, Nat.le_of_eq YA.1.2.2.2⟩ ⟨Nat.le_of_eq YB.1.2.2.1, Nat.le_of_eq YB.1.2.2.2⟩
end P1H
noncomputable def xtwo1 (h : XH) : Bool := xtwo h 4000 517 15 [xf 12 2, xi 0] 518 180 [xf 13 104, xi 0] 0
noncomputable def xtwo17 (h : XH) : Bool := xtwo h 4000 519 115 [xf 12 2, xi 0] 510 256 [xf 13 104, xi 0] 0
noncomputable def xtwo33 (h : XH) : Bool := xtwo h 4000 520 163 [xf 12 2] 519 286 [xf 13 104] 0
noncomputable def PA (h : XH) : Prop := FX h ∧ Y0 h 0 0 (-1) ∧ YF h 0 0 ∧ xtwo1 h = true ∧ xtwo17 h = true ∧ xtwo33 h = true
theorem yk_pos {x : Int32} (h : 0 ≤ x) (h0 : ¬ x = 0) : 0 < x := by
  have g := Int32.le_iff_toInt_le.mp h
  have g0 := yne h0
  refine Int32.lt_iff_toInt_lt.mpr ?_
  simp at g g0 ⊢
  omega
theorem yk_zero {x : Int32} (h : 0 ≤ x) (h0 : x ≤ 0) : x = 0 := by
  refine Int32.toInt_inj.mp ?_
  have g := Int32.le_iff_toInt_le.mp h
  have g0 := Int32.le_iff_toInt_le.mp h0
  omega
set_option maxRecDepth 100000 in
theorem p1_heavy1 {l : Launch} {xs : Nat → Int32} {h : XH} (P : PA h) (h0 : (xs 0 &&& 63).toInt = 1) (g0 : 0 ≤ xs 1) (g1 : xs 1 ≤ 0) : XB l 6 xs 14 540 false 289 157 6079 (fun rs _ => rs = [xi 1]) 23 xlh [] h := by
  have z : xtwo h 4000 517 15 [xf 12 2, xi 0] 518 180 [xf 13 104, xi 0] 0 = true := P.2.2.2.1
  obtain ⟨hA, hB, cA, cB, nA, nB⟩ := xtwo_ok (l := l) (KA := 15) (KB := 180) rfl rfl rfl rfl z
  have g0 := yk_zero g0 g1
  rw [← g0] at cA cB
  exact p1_two1 l xs h hA hB _ h0 cA cB ⟨Nat.le_of_eq P.1.2.2.1, Nat.le_of_eq P.1.2.2.2⟩ nA nB
set_option maxRecDepth 100000 in
theorem p1_heavy17 {l : Launch} {xs : Nat → Int32} {h : XH} (P : PA h) (h0 : (xs 0 &&& 63).toInt = 17) (g0 : xs 1 = 0) : XB l 6 xs 14 540 false 289 157 6079 (fun rs _ => rs = [xi 1]) 23 xlh [] h := by
  have z : xtwo h 4000 519 115 [xf 12 2, xi 0] 510 256 [xf 13 104, xi 0] 0 = true := P.2.2.2.2.1
  obtain ⟨hA, hB, cA, cB, nA, nB⟩ := xtwo_ok (l := l) (KA := 115) (KB := 256) rfl rfl rfl rfl z
  rw [← g0] at cA cB
  exact p1_two17 l xs h hA hB _ h0 cA cB ⟨Nat.le_of_eq P.1.2.2.1, Nat.le_of_eq P.1.2.2.2⟩ nA nB
set_option maxRecDepth 100000 in
theorem p1_heavy33 {l : Launch} {xs : Nat → Int32} {h : XH} (P : PA h) (h0 : (xs 0 &&& 63).toInt = 33) : XB l 6 xs 14 540 false 289 157 6079 (fun rs _ => rs = [xi 1]) 23 xlh [] h := by
  have z : xtwo h 4000 520 163 [xf 12 2] 519 286 [xf 13 104] 0 = true := P.2.2.2.2.2
  obtain ⟨hA, hB, cA, cB, nA, nB⟩ := xtwo_ok (l := l) (KA := 163) (KB := 286) rfl rfl rfl rfl z
  exact p1_two33 l xs h hA hB _ h0 cA cB ⟨Nat.le_of_eq P.1.2.2.1, Nat.le_of_eq P.1.2.2.2⟩ nA nB
set_option maxRecDepth 100000 in
set_option maxHeartbeats 4000000 in
theorem p1_1_0 (l : Launch) (xs : Nat → Int32) (h : XH) (F : FX h) (h0 : (xs 0 &&& 63).toInt = 1) (g1 : xs 1 < 0) : XB l 6 xs 14 540 false 289 157 6079 (fun rs _ => rs = [xi 1]) 23 xlh [] h := by
  have hN := F.2.2.1
  have hU := F.2.2.2
  refine XB_path (sc := some (6, xs)) (inl := [15, 180]) (n := 53) (sp := []) (o := [0, 2, 1, 1, 1, 1]) (xin_ok rfl) (Or.inr rfl) rfl rfl (by show xN h ≤ 157; omega) (by show xU h ≤ 6079; omega) ?_ (XB_ret ⟨_, _, _, rfl, rfl, rfl⟩ rfl rfl)
  dsimp only
  simp [z0, z1, z2, z3, z4, z5, h0, g1, yI_same, yI_ne, yR_I, vp_in, Op.lookupswitch.offset, yt0, yt1, ym1, ylt, yl2, yl13, yk38, yk60, ylc]

set_option maxRecDepth 100000 in
set_option maxHeartbeats 4000000 in
theorem p1_1_1 (l : Launch) (xs : Nat → Int32) (h : XH) (F : FX h) (h0 : (xs 0 &&& 63).toInt = 1) (g1 : 0 ≤ xs 1) (g2 : 0 < xs 1) : XB l 6 xs 14 540 false 289 157 6079 (fun rs _ => rs = [xi 1]) 23 xlh [] h := by
  have r0 : xR h 2 0 = 45 := F.1 (2, 0, 45) (by decide)
  have i0 : xI h 45 1 = 0 := F.2.1 (45, 1, 0) (by decide)
  have i1 : xI h 104 1 = 0 := F.2.1 (104, 1, 0) (by decide)
  have hN := F.2.2.1
  have hU := F.2.2.2
  refine XB_path (sc := some (6, xs)) (inl := [15, 180]) (n := 62) (sp := []) (o := [0, 2, 0, 0, 0, 0, 1, 1]) (xin_ok rfl) (Or.inr rfl) rfl rfl (by show xN h ≤ 157; omega) (by show xU h ≤ 6079; omega) ?_ (XB_ret ⟨_, _, _, rfl, rfl, rfl⟩ rfl rfl)
  dsimp only
  simp [z0, z1, z2, z3, z4, z5, h0, g1, g2, r0, i0, i1, yI_same, yI_ne, yR_I, vp_in, Op.lookupswitch.offset, yt0, yt1, ym1, ylt, yl2, yl13, yk38, yk60, ylc]

theorem p1_case1 (l : Launch) (xs : Nat → Int32) (h : XH) (P : PA h) (h0 : (xs 0 &&& 63).toInt = 1) : XB l 6 xs 14 540 false 289 157 6079 (fun rs _ => rs = [xi 1]) 23 xlh [] h := by
  have F := P.1
  by_cases g1 : xs 1 < 0
  · exact p1_1_0 l xs h F h0 g1
  · have g1 := Int32.not_lt.mp g1
    by_cases g2 : 0 < xs 1
    · exact p1_1_1 l xs h F h0 g1 g2
    · have g2 := Int32.not_lt.mp g2
      exact p1_heavy1 P h0 g1 g2

set_option maxRecDepth 100000 in
set_option maxHeartbeats 4000000 in
theorem p1_12_0 (l : Launch) (xs : Nat → Int32) (h : XH) (F : FX h) (h0 : (xs 0 &&& 63).toInt = 12) (g1 : xs 1 < 0) : XB l 6 xs 14 540 false 289 157 6079 (fun rs _ => rs = [xi 1]) 23 xlh [] h := by
  have hN := F.2.2.1
  have hU := F.2.2.2
  refine XB_path (sc := some (6, xs)) (inl := [97, 193, 244]) (n := 61) (sp := []) (o := [0, 13, 1, 1, 1, 1, 1]) (xin_ok rfl) (Or.inr rfl) rfl rfl (by show xN h ≤ 157; omega) (by show xU h ≤ 6079; omega) ?_ (XB_ret ⟨_, _, _, rfl, rfl, rfl⟩ rfl rfl)
  dsimp only
  simp [z0, z1, z2, z3, z4, z5, h0, g1, yI_same, yI_ne, yR_I, vp_in, Op.lookupswitch.offset, yt0, yt1, ym1, ylt, yl2, yl13, yk38, yk60, ylc]

set_option maxRecDepth 100000 in
set_option maxHeartbeats 4000000 in
theorem p1_12_1 (l : Launch) (xs : Nat → Int32) (h : XH) (F : FX h) (h0 : (xs 0 &&& 63).toInt = 12) (g1 : 0 ≤ xs 1) (g2 : 99 < xs 1) : XB l 6 xs 14 540 false 289 157 6079 (fun rs _ => rs = [xi 1]) 23 xlh [] h := by
  have hN := F.2.2.1
  have hU := F.2.2.2
  refine XB_path (sc := some (6, xs)) (inl := [97, 193, 244]) (n := 67) (sp := []) (o := [0, 13, 0, 1, 0, 1, 1, 1, 1]) (xin_ok rfl) (Or.inr rfl) rfl rfl (by show xN h ≤ 157; omega) (by show xU h ≤ 6079; omega) ?_ (XB_ret ⟨_, _, _, rfl, rfl, rfl⟩ rfl rfl)
  dsimp only
  simp [z0, z1, z2, z3, z4, z5, h0, g1, g2, yI_same, yI_ne, yR_I, vp_in, Op.lookupswitch.offset, yt0, yt1, ym1, ylt, yl2, yl13, yk38, yk60, ylc]

theorem p1_case12 (l : Launch) (xs : Nat → Int32) (h : XH) (P : PA h) (h0 : (xs 0 &&& 63).toInt = 12) : XB l 6 xs 14 540 false 289 157 6079 (fun rs _ => rs = [xi 1]) 23 xlh [] h := by
  have F := P.1
  by_cases g1 : xs 1 < 0
  · exact p1_12_0 l xs h F h0 g1
  · have g1 := Int32.not_lt.mp g1
    by_cases g2 : 99 < xs 1
    · exact p1_12_1 l xs h F h0 g1 g2
    · have g2 := Int32.not_lt.mp g2
      exact p1_heavy12 P.2.1 h0 g1 g2

set_option maxRecDepth 100000 in
set_option maxHeartbeats 4000000 in
theorem p1_14_0 (l : Launch) (xs : Nat → Int32) (h : XH) (F : FX h) (h0 : (xs 0 &&& 63).toInt = 14) (g1 : xs 1 < 1) : XB l 6 xs 14 540 false 289 157 6079 (fun rs _ => rs = [xi 1]) 23 xlh [] h := by
  have hN := F.2.2.1
  have hU := F.2.2.2
  refine XB_path (sc := some (6, xs)) (inl := [106, 193, 250]) (n := 62) (sp := []) (o := [0, 15, 1, 1, 0, 1, 1]) (xin_ok rfl) (Or.inr rfl) rfl rfl (by show xN h ≤ 157; omega) (by show xU h ≤ 6079; omega) ?_ (XB_ret ⟨_, _, _, rfl, rfl, rfl⟩ rfl rfl)
  dsimp only
  simp [z0, z1, z2, z3, z4, z5, h0, g1, yI_same, yI_ne, yR_I, vp_in, Op.lookupswitch.offset, yt0, yt1, ym1, ylt, yl2, yl13, yk38, yk60, ylc]

set_option maxRecDepth 100000 in
set_option maxHeartbeats 4000000 in
theorem p1_14_1 (l : Launch) (xs : Nat → Int32) (h : XH) (F : FX h) (h0 : (xs 0 &&& 63).toInt = 14) (g1 : 1 ≤ xs 1) (g2 : 99 < xs 1) : XB l 6 xs 14 540 false 289 157 6079 (fun rs _ => rs = [xi 1]) 23 xlh [] h := by
  have hN := F.2.2.1
  have hU := F.2.2.2
  refine XB_path (sc := some (6, xs)) (inl := [106, 193, 250]) (n := 68) (sp := []) (o := [0, 15, 0, 0, 0, 1, 0, 1, 1]) (xin_ok rfl) (Or.inr rfl) rfl rfl (by show xN h ≤ 157; omega) (by show xU h ≤ 6079; omega) ?_ (XB_ret ⟨_, _, _, rfl, rfl, rfl⟩ rfl rfl)
  dsimp only
  simp [z0, z1, z2, z3, z4, z5, h0, g1, g2, yI_same, yI_ne, yR_I, vp_in, Op.lookupswitch.offset, yt0, yt1, ym1, ylt, yl2, yl13, yk38, yk60, ylc]

theorem p1_case14 (l : Launch) (xs : Nat → Int32) (h : XH) (P : PA h) (h0 : (xs 0 &&& 63).toInt = 14) : XB l 6 xs 14 540 false 289 157 6079 (fun rs _ => rs = [xi 1]) 23 xlh [] h := by
  have F := P.1
  by_cases g1 : xs 1 < 1
  · exact p1_14_0 l xs h F h0 g1
  · have g1 := Int32.not_lt.mp g1
    by_cases g2 : 99 < xs 1
    · exact p1_14_1 l xs h F h0 g1 g2
    · have g2 := Int32.not_lt.mp g2
      exact p1_heavy14 P.2.1 h0 g1 g2

set_option maxRecDepth 100000 in
set_option maxHeartbeats 4000000 in
theorem p1_17_0 (l : Launch) (xs : Nat → Int32) (h : XH) (F : FX h) (h0 : (xs 0 &&& 63).toInt = 17) (g1 : xs 1 < 0) : XB l 6 xs 14 540 false 289 157 6079 (fun rs _ => rs = [xi 1]) 23 xlh [] h := by
  have hN := F.2.2.1
  have hU := F.2.2.2
  refine XB_path (sc := some (6, xs)) (inl := [115, 193, 256]) (n := 61) (sp := []) (o := [0, 18, 1, 1, 0, 1, 1]) (xin_ok rfl) (Or.inr rfl) rfl rfl (by show xN h ≤ 157; omega) (by show xU h ≤ 6079; omega) ?_ (XB_ret ⟨_, _, _, rfl, rfl, rfl⟩ rfl rfl)
  dsimp only
  simp [z0, z1, z2, z3, z4, z5, h0, g1, yI_same, yI_ne, yR_I, vp_in, Op.lookupswitch.offset, yt0, yt1, ym1, ylt, yl2, yl13, yk38, yk60, ylc]

set_option maxRecDepth 100000 in
set_option maxHeartbeats 4000000 in
theorem p1_17_1 (l : Launch) (xs : Nat → Int32) (h : XH) (F : FX h) (h0 : (xs 0 &&& 63).toInt = 17) (g1 : 0 ≤ xs 1) (g2 : 4 < xs 1) : XB l 6 xs 14 540 false 289 157 6079 (fun rs _ => rs = [xi 1]) 23 xlh [] h := by
  have hN := F.2.2.1
  have hU := F.2.2.2
  refine XB_path (sc := some (6, xs)) (inl := [115, 193, 256]) (n := 67) (sp := []) (o := [0, 18, 0, 0, 0, 1, 0, 1, 1]) (xin_ok rfl) (Or.inr rfl) rfl rfl (by show xN h ≤ 157; omega) (by show xU h ≤ 6079; omega) ?_ (XB_ret ⟨_, _, _, rfl, rfl, rfl⟩ rfl rfl)
  dsimp only
  simp [z0, z1, z2, z3, z4, z5, h0, g1, g2, yI_same, yI_ne, yR_I, vp_in, Op.lookupswitch.offset, yt0, yt1, ym1, ylt, yl2, yl13, yk38, yk60, ylc]

set_option maxRecDepth 100000 in
set_option maxHeartbeats 4000000 in
theorem p1_17_2 (l : Launch) (xs : Nat → Int32) (h : XH) (F : FX h) (h0 : (xs 0 &&& 63).toInt = 17) (g1 : 0 ≤ xs 1) (g2 : xs 1 ≤ 4) (g3 : ¬ xs 1 = 0) (g4 : 0 < xs 1) : XB l 6 xs 14 540 false 289 157 6079 (fun rs _ => rs = [xi 1]) 23 xlh [] h := by
  have r0 : xR h 2 1 = 3 := F.1 (2, 1, 3) (by decide)
  have i0 : xI h 3 0 = 0 := F.2.1 (3, 0, 0) (by decide)
  have i1 : xI h 104 12 = 0 := F.2.1 (104, 12, 0) (by decide)
  have hN := F.2.2.1
  have hU := F.2.2.2
  refine XB_path (sc := some (6, xs)) (inl := [115, 193, 256]) (n := 84) (sp := []) (o := [0, 18, 0, 1, 0, 0, 0, 1, 0, 0, 1, 1]) (xin_ok rfl) (Or.inr rfl) rfl rfl (by show xN h ≤ 157; omega) (by show xU h ≤ 6079; omega) ?_ (XB_ret ⟨_, _, _, rfl, rfl, rfl⟩ rfl rfl)
  dsimp only
  simp [z0, z1, z2, z3, z4, z5, h0, g1, g2, g3, g4, r0, i0, i1, yI_same, yI_ne, yR_I, vp_in, Op.lookupswitch.offset, yt0, yt1, ym1, ylt, yl2, yl13, yk38, yk60, ylc]

theorem p1_case17 (l : Launch) (xs : Nat → Int32) (h : XH) (P : PA h) (h0 : (xs 0 &&& 63).toInt = 17) : XB l 6 xs 14 540 false 289 157 6079 (fun rs _ => rs = [xi 1]) 23 xlh [] h := by
  have F := P.1
  by_cases g1 : xs 1 < 0
  · exact p1_17_0 l xs h F h0 g1
  · have g1 := Int32.not_lt.mp g1
    by_cases g2 : 4 < xs 1
    · exact p1_17_1 l xs h F h0 g1 g2
    · have g2 := Int32.not_lt.mp g2
      by_cases g3 : xs 1 = 0
      · exact p1_heavy17 P h0 g3
      · have g3 := id g3
        have g4 : 0 < xs 1 := yk_pos g1 g3
        exact p1_17_2 l xs h F h0 g1 g2 g3 g4

set_option maxRecDepth 100000 in
set_option maxHeartbeats 4000000 in
theorem p1_31_0 (l : Launch) (xs : Nat → Int32) (h : XH) (F : FX h) (h0 : (xs 0 &&& 63).toInt = 31) (g1 : xs 1 < 0) : XB l 6 xs 14 540 false 289 157 6079 (fun rs _ => rs = [xi 1]) 23 xlh [] h := by
  have hN := F.2.2.1
  have hU := F.2.2.2
  refine XB_path (sc := some (6, xs)) (inl := [159, 193, 282]) (n := 81) (sp := []) (o := [0, 32, 1, 1, 1, 1, 1]) (xin_ok rfl) (Or.inr rfl) rfl rfl (by show xN h ≤ 157; omega) (by show xU h ≤ 6079; omega) ?_ (XB_ret ⟨_, _, _, rfl, rfl, rfl⟩ rfl rfl)
  dsimp only
  simp [z0, z1, z2, z3, z4, z5, h0, g1, yI_same, yI_ne, yR_I, vp_in, Op.lookupswitch.offset, yt0, yt1, ym1, ylt, yl2, yl13, yk38, yk60, ylc]

set_option maxRecDepth 100000 in
set_option maxHeartbeats 4000000 in
theorem p1_31_1 (l : Launch) (xs : Nat → Int32) (h : XH) (F : FX h) (h0 : (xs 0 &&& 63).toInt = 31) (g1 : 0 ≤ xs 1) (g2 : 4 < xs 1) : XB l 6 xs 14 540 false 289 157 6079 (fun rs _ => rs = [xi 1]) 23 xlh [] h := by
  have hN := F.2.2.1
  have hU := F.2.2.2
  refine XB_path (sc := some (6, xs)) (inl := [159, 193, 282]) (n := 87) (sp := []) (o := [0, 32, 0, 1, 0, 1, 1, 1, 1]) (xin_ok rfl) (Or.inr rfl) rfl rfl (by show xN h ≤ 157; omega) (by show xU h ≤ 6079; omega) ?_ (XB_ret ⟨_, _, _, rfl, rfl, rfl⟩ rfl rfl)
  dsimp only
  simp [z0, z1, z2, z3, z4, z5, h0, g1, g2, yI_same, yI_ne, yR_I, vp_in, Op.lookupswitch.offset, yt0, yt1, ym1, ylt, yl2, yl13, yk38, yk60, ylc]

set_option maxRecDepth 100000 in
set_option maxHeartbeats 4000000 in
theorem p1_31_2 (l : Launch) (xs : Nat → Int32) (h : XH) (F : FX h) (h0 : (xs 0 &&& 63).toInt = 31) (g1 : 0 ≤ xs 1) (g2 : xs 1 ≤ 4) (g3 : xs 3 < 0) : XB l 6 xs 14 540 false 289 157 6079 (fun rs _ => rs = [xi 1]) 23 xlh [] h := by
  have hN := F.2.2.1
  have hU := F.2.2.2
  refine XB_path (sc := some (6, xs)) (inl := [104, 159, 193, 282]) (n := 105) (sp := []) (o := [0, 32, 0, 0, 1, 0, 0, 0, 0, 1, 1, 1, 1]) (xin_ok rfl) (Or.inr rfl) rfl rfl (by show xN h ≤ 157; omega) (by show xU h ≤ 6079; omega) ?_ (XB_ret ⟨_, _, _, rfl, rfl, rfl⟩ rfl rfl)
  dsimp only
  simp [z0, z1, z2, z3, z4, z5, h0, g1, g2, g3, yI_same, yI_ne, yR_I, vp_in, Op.lookupswitch.offset, yt0, yt1, ym1, ylt, yl2, yl13, yk38, yk60, ylc]

set_option maxRecDepth 100000 in
set_option maxHeartbeats 4000000 in
theorem p1_31_3 (l : Launch) (xs : Nat → Int32) (h : XH) (F : FX h) (h0 : (xs 0 &&& 63).toInt = 31) (g1 : 0 ≤ xs 1) (g2 : xs 1 ≤ 4) (g3 : 0 ≤ xs 3) (g4 : 60 < xs 3) : XB l 6 xs 14 540 false 289 157 6079 (fun rs _ => rs = [xi 1]) 23 xlh [] h := by
  have hN := F.2.2.1
  have hU := F.2.2.2
  refine XB_path (sc := some (6, xs)) (inl := [104, 159, 193, 282]) (n := 111) (sp := []) (o := [0, 32, 0, 0, 0, 1, 0, 0, 0, 0, 0, 1, 1, 1, 1]) (xin_ok rfl) (Or.inr rfl) rfl rfl (by show xN h ≤ 157; omega) (by show xU h ≤ 6079; omega) ?_ (XB_ret ⟨_, _, _, rfl, rfl, rfl⟩ rfl rfl)
  dsimp only
  simp [z0, z1, z2, z3, z4, z5, h0, g1, g2, g3, g4, yI_same, yI_ne, yR_I, vp_in, Op.lookupswitch.offset, yt0, yt1, ym1, ylt, yl2, yl13, yk38, yk60, ylc]

set_option maxRecDepth 100000 in
set_option maxHeartbeats 4000000 in
theorem p1_31_4 (l : Launch) (xs : Nat → Int32) (h : XH) (F : FX h) (h0 : (xs 0 &&& 63).toInt = 31) (g1 : 0 ≤ xs 1) (g2 : xs 1 ≤ 4) (g3 : 0 ≤ xs 3) (g4 : xs 3 ≤ 60) (g5 : xs 1 = 2) (g6 : xs 2 < 0) : XB l 6 xs 14 540 false 289 157 6079 (fun rs _ => rs = [xi 1]) 23 xlh [] h := by
  have hN := F.2.2.1
  have hU := F.2.2.2
  refine XB_path (sc := some (6, xs)) (inl := [85, 104, 159, 193, 215, 282]) (n := 137) (sp := []) (o := [0, 32, 0, 0, 0, 0, 1, 0, 1, 0, 0, 0, 0, 0, 0, 0, 0, 1, 0, 1, 1]) (xin_ok rfl) (Or.inr rfl) rfl rfl (by show xN h ≤ 157; omega) (by show xU h ≤ 6079; omega) ?_ (XB_ret ⟨_, _, _, rfl, rfl, rfl⟩ rfl rfl)
  dsimp only
  simp [z0, z1, z2, z3, z4, z5, h0, g1, g2, g3, g4, g5, g6, yI_same, yI_ne, yR_I, vp_in, Op.lookupswitch.offset, yt0, yt1, ym1, ylt, yl2, yl13, yk38, yk60, ylc]

set_option maxRecDepth 100000 in
set_option maxHeartbeats 4000000 in
theorem p1_31_5 (l : Launch) (xs : Nat → Int32) (h : XH) (F : FX h) (h0 : (xs 0 &&& 63).toInt = 31) (g1 : 0 ≤ xs 1) (g2 : xs 1 ≤ 4) (g3 : 0 ≤ xs 3) (g4 : xs 3 ≤ 60) (g5 : xs 1 = 2) (g6 : 0 ≤ xs 2) : XB l 6 xs 14 540 false 289 157 6079 (fun rs _ => rs = [xi 1]) 23 xlh [] h := by
  have r0 : xR h 2 1 = 3 := F.1 (2, 1, 3) (by decide)
  have i0 : xI h 3 9 = 0 := F.2.1 (3, 9, 0) (by decide)
  have i1 : xI h 104 14 = 0 := F.2.1 (104, 14, 0) (by decide)
  have hN := F.2.2.1
  have hU := F.2.2.2
  refine XB_path (sc := some (6, xs)) (inl := [85, 104, 159, 193, 215, 282]) (n := 146) (sp := []) (o := [0, 32, 0, 0, 0, 0, 1, 0, 0, 1, 0, 0, 0, 0, 0, 0, 0, 0, 0, 1, 0, 1, 1]) (xin_ok rfl) (Or.inr rfl) rfl rfl (by show xN h ≤ 157; omega) (by show xU h ≤ 6079; omega) ?_ (XB_ret ⟨_, _, _, rfl, rfl, rfl⟩ rfl rfl)
  dsimp only
  simp [z0, z1, z2, z3, z4, z5, h0, g1, g2, g3, g4, g5, g6, r0, i0, i1, yI_same, yI_ne, yR_I, vp_in, Op.lookupswitch.offset, yt0, yt1, ym1, ylt, yl2, yl13, yk38, yk60, ylc]

set_option maxRecDepth 100000 in
set_option maxHeartbeats 4000000 in
theorem p1_31_6 (l : Launch) (xs : Nat → Int32) (h : XH) (F : FX h) (h0 : (xs 0 &&& 63).toInt = 31) (g1 : 0 ≤ xs 1) (g2 : xs 1 ≤ 4) (g3 : 0 ≤ xs 3) (g4 : xs 3 ≤ 60) (g5 : ¬ xs 1 = 2) (g6 : ¬ xs 2 = 0) : XB l 6 xs 14 540 false 289 157 6079 (fun rs _ => rs = [xi 1]) 23 xlh [] h := by
  have hN := F.2.2.1
  have hU := F.2.2.2
  refine XB_path (sc := some (6, xs)) (inl := [104, 159, 193, 282]) (n := 123) (sp := []) (o := [0, 32, 0, 0, 0, 0, 1, 1, 0, 0, 0, 0, 0, 0, 0, 1, 0, 1, 1]) (xin_ok rfl) (Or.inr rfl) rfl rfl (by show xN h ≤ 157; omega) (by show xU h ≤ 6079; omega) ?_ (XB_ret ⟨_, _, _, rfl, rfl, rfl⟩ rfl rfl)
  dsimp only
  simp [z0, z1, z2, z3, z4, z5, h0, g1, g2, g3, g4, g5, g6, yI_same, yI_ne, yR_I, vp_in, Op.lookupswitch.offset, yt0, yt1, ym1, ylt, yl2, yl13, yk38, yk60, ylc]

theorem p1_case31 (l : Launch) (xs : Nat → Int32) (h : XH) (P : PA h) (h0 : (xs 0 &&& 63).toInt = 31) : XB l 6 xs 14 540 false 289 157 6079 (fun rs _ => rs = [xi 1]) 23 xlh [] h := by
  have F := P.1
  by_cases g1 : xs 1 < 0
  · exact p1_31_0 l xs h F h0 g1
  · have g1 := Int32.not_lt.mp g1
    by_cases g2 : 4 < xs 1
    · exact p1_31_1 l xs h F h0 g1 g2
    · have g2 := Int32.not_lt.mp g2
      by_cases g3 : xs 3 < 0
      · exact p1_31_2 l xs h F h0 g1 g2 g3
      · have g3 := Int32.not_lt.mp g3
        by_cases g4 : 60 < xs 3
        · exact p1_31_3 l xs h F h0 g1 g2 g3 g4
        · have g4 := Int32.not_lt.mp g4
          by_cases g5 : xs 1 = 2
          · by_cases g6 : xs 2 < 0
            · exact p1_31_4 l xs h F h0 g1 g2 g3 g4 g5 g6
            · have g6 := Int32.not_lt.mp g6
              exact p1_31_5 l xs h F h0 g1 g2 g3 g4 g5 g6
          · have g5 := id g5
            by_cases g6 : xs 2 = 0
            · exact p1_heavy31 P.2.1 h0 g1 g2 g5 g6 g3 g4
            · have g6 := id g6
              exact p1_31_6 l xs h F h0 g1 g2 g3 g4 g5 g6

theorem p1_case33 (l : Launch) (xs : Nat → Int32) (h : XH) (P : PA h) (h0 : (xs 0 &&& 63).toInt = 33) : XB l 6 xs 14 540 false 289 157 6079 (fun rs _ => rs = [xi 1]) 23 xlh [] h := by
  have F := P.1
  exact p1_heavy33 P h0

set_option maxRecDepth 100000 in
set_option maxHeartbeats 1000000 in
theorem p1_case4 (l : Launch) (xs : Nat → Int32) (h : XH) (F : FX h) (h0 : (xs 0 &&& 63).toInt = 4) : XB l 6 xs 14 540 false 289 157 6079 (fun rs _ => rs = [xi 1]) 23 xlh [] h := by
  have r0 : xR h 2 1 = 3 := F.1 (2, 1, 3) (by decide)
  have i0 : xI h 3 9 = 0 := F.2.1 (3, 9, 0) (by decide)
  have i1 : xI h 104 14 = 0 := F.2.1 (104, 14, 0) (by decide)
  have hN := F.2.2.1
  have hU := F.2.2.2
  have key : (∀ (D : va_G) (cA : Nat → ClassId) (base b Ls : Nat) (xs' : Nat → Int32) (ads : List Nat), vx_Met l (xnm 170) (Cond.code (xnm 170) (xbc 170) (xmx 170) (xrt 170) :: xT) ({ frames := 12, cells := 1, slots := 6, locals := 494 } : Room) (va_Pc ([xf 12 2, xi (xs 1), xi (xs 2)].map (xcv ads b)) (XPc l D cA base b Ls xs' false ads [xf 12 2, xi (xs 1), xi (xs 2)] h)) (fun _ _ _ _ => False) (XVx D cA base b Ls xs' ads h) 1 6 (fun q : Nat => base ≤ q)) → XB l 6 xs 14 540 false 289 156 6073 (fun rs _ => rs = [xi 1]) 377 xlh [xi 1] h → XB l 6 xs 14 540 false 289 157 6079 (fun rs _ => rs = [xi 1]) 23 xlh [] h := by
    intro hM k
    refine XB_path (sc := some (6, xs)) (inl := []) (n := 60) (sp := [374]) (o := [0, 5]) (xin_ok rfl) (Or.inr rfl) rfl rfl (by show xN h ≤ 157; omega) (by show xU h ≤ 6079; omega) ?_ ?_
    · dsimp only
      simp [z0, z1, z2, h0, vp_in]
    show XB l 6 xs 14 540 false 289 157 6079 _ 374 xlh [xf 40001 152, xi (xs 2), xi (xs 1), xf 12 2] h
    exact XB_person (N' := 156) (U' := 6073) rfl ⟨by decide, by decide⟩ ⟨by omega, by omega⟩ (lp_met l h 2 152 (xs 1) (xs 2) hM) k
  by_cases g : xs 1 < 0
  · refine key (fun D cA base b Ls xs' ads => px_met l h 2 (xs 1) (xs 2) (o := [1, 0]) rfl ⟨rfl, rfl, rfl, rfl⟩ (by dsimp only; simp [r0, i0, g]) D cA base b Ls xs' ads) ?_
    refine XB_path (sc := some (6, xs)) (inl := [178, 214, 215, 216]) (n := 59) (sp := []) (o := [1, 0, 1, 1, 1]) (xin_ok rfl) (Or.inr rfl) rfl rfl (by show xN h ≤ 156; omega) (by show xU h ≤ 6073; omega) ?_ (XB_ret ⟨_, _, _, rfl, rfl, rfl⟩ rfl rfl)
    dsimp only
    simp [z0, z1, z2, g, i1, yI_same, yI_ne, yR_I, vp_in]
  · have g := Int32.not_lt.mp g
    refine key (fun D cA base b Ls xs' ads => px_met l h 2 (xs 1) (xs 2) (o := [0, 1, 0]) rfl ⟨rfl, rfl, rfl, rfl⟩ (by dsimp only; simp [r0, i0, g]) D cA base b Ls xs' ads) ?_
    refine XB_path (sc := some (6, xs)) (inl := [178, 214, 215, 216]) (n := 63) (sp := []) (o := [0, 1, 0, 1, 1, 1]) (xin_ok rfl) (Or.inr rfl) rfl rfl (by show xN h ≤ 156; omega) (by show xU h ≤ 6073; omega) ?_ (XB_ret ⟨_, _, _, rfl, rfl, rfl⟩ rfl rfl)
    dsimp only
    simp [z0, z1, z2, g, i1, yI_same, yI_ne, yR_I, vp_in]
theorem y_and63 (a : Int32) : ∃ k : Nat, k < 64 ∧ (a &&& 63).toInt = k := by
  have h : (a &&& 63).toBitVec.toNat < 64 := by
    rw [Int32.toBitVec_and, BitVec.toNat_and]
    exact Nat.lt_of_le_of_lt Nat.and_le_right (by decide)
  refine ⟨(a &&& 63).toBitVec.toNat, h, ?_⟩
  show (a &&& 63).toBitVec.toInt = _
  rw [BitVec.toInt_eq_toNat_cond, if_pos (by omega)]
theorem p1_turn (l : Launch) (xs : Nat → Int32) (h : XH) (P : PA h) : XB l 6 xs 14 540 false 289 157 6079 (fun rs _ => rs = [xi 1]) 23 xlh [] h := by
  obtain ⟨k, hk, e⟩ := y_and63 (xs 0)
  match k, hk, e with
  | 0, _, e => exact p1_case0 P.2.2.1 e
  | 1, _, e => exact p1_case1 l xs h P e
  | 2, _, e => exact p1_case2 l xs h P.1 e
  | 3, _, e => exact p1_case3 l xs h P.1 e
  | 4, _, e => exact p1_case4 l xs h P.1 e
  | 5, _, e => exact p1_case5 l xs h P.1 e
  | 6, _, e => exact p1_case6 l xs h P.1 e
  | 7, _, e => exact p1_case7 l xs h P.1 e
  | 8, _, e => exact p1_case8 l xs h P.1 e
  | 9, _, e => exact p1_case9 l xs h P.1 e
  | 10, _, e => exact p1_case10 l xs h P.1 e
  | 11, _, e => exact p1_case11 l xs h P.1 e
  | 12, _, e => exact p1_case12 l xs h P e
  | 13, _, e => exact p1_case13 l xs h P.1 e
  | 14, _, e => exact p1_case14 l xs h P e
  | 15, _, e => exact p1_case15 l xs h P.1 e
  | 16, _, e => exact p1_case16 l xs h P.1 e
  | 17, _, e => exact p1_case17 l xs h P e
  | 18, _, e => exact p1_case18 l xs h P.1 e
  | 19, _, e => exact p1_case19 l xs h P.1 e
  | 20, _, e => exact p1_case20 l xs h P.1 e
  | 21, _, e => exact p1_case21 l xs h P.1 e
  | 22, _, e => exact p1_case22 l xs h P.1 e
  | 23, _, e => exact p1_case23 l xs h P.1 e
  | 24, _, e => exact p1_case24 l xs h P.1 e
  | 25, _, e => exact p1_case25 l xs h P.1 e
  | 26, _, e => exact p1_case26 l xs h P.1 e
  | 27, _, e => exact p1_case27 l xs h P.1 e
  | 28, _, e => exact p1_case28 l xs h P.1 e
  | 29, _, e => exact p1_case29 l xs h P.1 e
  | 30, _, e => exact p1_case30 l xs h P.1 e
  | 31, _, e => exact p1_case31 l xs h P e
  | 32, _, e => exact p1_case32 l xs h P.1 e
  | 33, _, e => exact p1_case33 l xs h P e
  | 34, _, e => exact p1_case34 l xs h P.1 e
  | 35, _, e => exact p1_case35 l xs h P.1 e
  | 36, _, e => exact p1_case36 l xs h P.1 e
  | 37, _, e => exact p1_case37 l xs h P.1 e
  | 38, _, e => exact p1_case38 l xs h P.1 e
  | 39, _, e => exact p1_case39 l xs h P.1 e
  | 40, _, e => exact p1_case40 l xs h P.1 e
  | 41, _, e => exact p1_case41 l xs h P.1 e
  | 42, _, e => exact p1_case42 l xs h P.1 e
  | 43, _, e => exact p1_case43 l xs h P.1 e
  | 44, _, e => exact p1_case44 l xs h P.1 e
  | 45, _, e => exact p1_case45 l xs h P.1 e
  | 46, _, e => exact p1_case46 l xs h P.1 e
  | 47, _, e => exact p1_case47 l xs h P.1 e
  | 48, _, e => exact p1_case48 l xs h P.1 e
  | 49, _, e => exact p1_case49 l xs h P.1 e
  | 50, _, e => exact p1_case50 l xs h P.1 e
  | 51, _, e => exact p1_case51 l xs h P.1 e
  | 52, _, e => exact p1_case52 l xs h P.1 e
  | 53, _, e => exact p1_case53 l xs h P.1 e
  | 54, _, e => exact p1_case54 l xs h P.1 e
  | 55, _, e => exact p1_case55 l xs h P.1 e
  | 56, _, e => exact p1_case56 l xs h P.1 e
  | 57, _, e => exact p1_case57 l xs h P.1 e
  | 58, _, e => exact p1_case58 l xs h P.1 e
  | 59, _, e => exact p1_case59 l xs h P.1 e
  | 60, _, e => exact p1_case60 l xs h P.1 e
  | 61, _, e => exact p1_case61 l xs h P.1 e
  | 62, _, e => exact p1_case62 l xs h P.1 e
  | 63, _, e => exact p1_case63 l xs h P.1 e
  | k + 64, hk, _ => exact absurd hk (by omega)
theorem p1_any (l : Launch) {L : Nat} {xs : Nat → Int32} (hL : L ≤ 6) (h : XH) (P : PA h) : XB l L xs 14 540 false 289 157 6079 (fun rs _ => rs = [xi 1]) 23 xlh [] h := by
  match L, hL with
  | 0, _ => exact p1_short0 l xs h P.1
  | 1, _ => exact p1_short1 l xs h P.1
  | 2, _ => exact p1_short2 l xs h P.1
  | 3, _ => exact p1_short3 l xs h P.1
  | 4, _ => exact p1_short4 l xs h P.1
  | 5, _ => exact p1_short5 l xs h P.1
  | 6, _ => exact p1_turn l xs h P
  | k + 7, hL => exact absurd hL (by omega)
