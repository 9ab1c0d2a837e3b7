/-! p1: one turn of the law over fresh objects. FX: what the first heap holds, where it is asked. -/
abbrev xlh : List XV := [xf 50 1, xf 12 2, xf 13 104, xf 40001 152, xi 0, xun, xun]
theorem yt0 {x : Int32} : (0 = x.toInt) = (x = 0) := propext ⟨fun z => Int32.toInt_inj.mp z.symm, fun z => by rw [z]; rfl⟩
theorem yt1 {x : Int32} : (1 = x.toInt) = (x = 1) := propext ⟨fun z => Int32.toInt_inj.mp z.symm, fun z => by rw [z]; rfl⟩
theorem ylt {x : Int32} : (x.toInt < 0) = (x < 0) := propext ⟨fun z => Int32.lt_iff_toInt_lt.mpr z, fun z => Int32.lt_iff_toInt_lt.mp z⟩
theorem yl2 {x : Int32} : (2 < x.toInt) = (2 < x) := propext ⟨fun z => Int32.lt_iff_toInt_lt.mpr z, fun z => Int32.lt_iff_toInt_lt.mp z⟩
theorem yl13 {x : Int32} : (13 < x.toInt) = (13 < x) := propext ⟨fun z => Int32.lt_iff_toInt_lt.mpr z, fun z => Int32.lt_iff_toInt_lt.mp z⟩
theorem yk38 : xfk 13 38 = 30006 := rfl
theorem yk60 : xfk 13 60 = 10002 := rfl
theorem ylc {x : Int64} : lg_cmp x x = 0 := by unfold lg_cmp; rw [if_neg (Int64.lt_irrefl), if_pos rfl]
theorem yne {x c : Int32} (h : ¬ x = c) : ¬ x.toInt = c.toInt := fun z => h (Int32.toInt_inj.mp z)
theorem yg2 {x : Int32} (h : 0 ≤ x) (h0 : ¬ x = 0) (h1 : ¬ x = 1) (h2 : ¬ x = 2) : 2 < x := by
  have g := Int32.le_iff_toInt_le.mp h
  have g0 := yne h0
  have g1 := yne h1
  have g2 := yne h2
  refine Int32.lt_iff_toInt_lt.mpr ?_
  simp at g g0 g1 g2 ⊢
  omega
theorem yg13 {x : Int32} (h : 0 ≤ x) (h0 : ¬ x = 0) (h1 : ¬ x = 1) (h2 : ¬ x = 2) (h3 : ¬ x = 3) (h4 : ¬ x = 4) (h5 : ¬ x = 5) (h6 : ¬ x = 6) (h7 : ¬ x = 7) (h8 : ¬ x = 8) (h9 : ¬ x = 9) (h10 : ¬ x = 10) (h11 : ¬ x = 11) (h12 : ¬ x = 12) (h13 : ¬ x = 13) : 13 < x := by
  have g := Int32.le_iff_toInt_le.mp h
  have g0 := yne h0
  have g1 := yne h1
  have g2 := yne h2
  have g3 := yne h3
  have g4 := yne h4
  have g5 := yne h5
  have g6 := yne h6
  have g7 := yne h7
  have g8 := yne h8
  have g9 := yne h9
  have g10 := yne h10
  have g11 := yne h11
  have g12 := yne h12
  have g13 := yne h13
  refine Int32.lt_iff_toInt_lt.mpr ?_
  simp at g g0 g1 g2 g3 g4 g5 g6 g7 g8 g9 g10 g11 g12 g13 ⊢
  omega
theorem ym1 {x : Int32} (h : 0 ≤ x) : -1 < x := by
  have h1 := Int32.le_iff_toInt_le.mp h
  refine Int32.lt_iff_toInt_lt.mpr ?_
  have e0 : (0 : Int32).toInt = 0 := rfl
  have e1 : (-1 : Int32).toInt = -1 := rfl
  omega
def fxR : List (Nat × Nat × Nat) := [(2, 0, 45), (2, 1, 3), (2, 3, 48), (2, 7, 81), (2, 8, 85), (3, 19, 18), (48, 0, 3), (104, 24, 109), (104, 31, 116), (104, 38, 123), (104, 60, 138)]
def fxI : List (Nat × Nat × Int32) := [(2, 6, 0), (3, 0, 0), (3, 5, 0), (3, 9, 0), (3, 14, 0), (18, 6, 0), (45, 1, 0), (45, 2, 0), (45, 3, -1), (48, 7, 0), (81, 0, 0), (85, 0, 0), (85, 1, -1), (104, 1, 0), (104, 4, 0), (104, 5, -1), (104, 12, 0), (104, 13, 0), (104, 14, 0), (104, 15, 0), (104, 16, 0), (104, 72, 0), (104, 73, -1), (104, 76, 0), (104, 78, 0), (123, 0, 0), (123, 1, 0), (123, 2, 0), (138, 0, 0)]
def FX (h : XH) : Prop := (∀ e ∈ fxR, xR h e.1 e.2.1 = e.2.2) ∧ (∀ e ∈ fxI, xI h e.1 e.2.1 = e.2.2) ∧ xN h = 153 ∧ xU h = 6051
set_option maxRecDepth 100000 in
set_option maxHeartbeats 4000000 in
theorem p1_2_0 (l : Launch) (xs : Nat → Int32) (h : XH) (F : FX h) (h0 : (xs 0 &&& 63).toInt = 2) (g1 : xs 1 = 0) : XB l 6 xs 14 540 false 289 157 6079 (fun rs _ => rs = [xi 1]) 23 xlh [] h := by
  have r0 : xR h 2 0 = 45 := F.1 (2, 0, 45) (by decide)
  have i0 : xI h 45 2 = 0 := F.2.1 (45, 2, 0) (by decide)
  have i1 : xI h 104 4 = 0 := F.2.1 (104, 4, 0) (by decide)
  have hN := F.2.2.1
  have hU := F.2.2.2
  refine XB_path (sc := some (6, xs)) (inl := [69, 212]) (n := 57) (sp := []) (o := [0, 3, 1, 0, 1, 1]) (xin_ok rfl) (Or.inr rfl) rfl rfl (by show xN h ≤ 157; omega) (by show xU h ≤ 6079; omega) ?_ (XB_ret ⟨_, _, _, rfl, rfl, rfl⟩ rfl rfl)
  dsimp only
  simp [z0, z1, z2, z3, z4, z5, h0, g1, r0, i0, i1, yI_same, yI_ne, yR_I, vp_in, Op.lookupswitch.offset, yt0, yt1, ym1, ylt, yl2, yl13, yk38, yk60, ylc]

set_option maxRecDepth 100000 in
set_option maxHeartbeats 4000000 in
theorem p1_2_1 (l : Launch) (xs : Nat → Int32) (h : XH) (F : FX h) (h0 : (xs 0 &&& 63).toInt = 2) (g1 : ¬ xs 1 = 0) (g2 : xs 1 = 1) : XB l 6 xs 14 540 false 289 157 6079 (fun rs _ => rs = [xi 1]) 23 xlh [] h := by
  have r0 : xR h 2 0 = 45 := F.1 (2, 0, 45) (by decide)
  have i0 : xI h 45 3 = -1 := F.2.1 (45, 3, -1) (by decide)
  have i1 : xI h 104 5 = -1 := F.2.1 (104, 5, -1) (by decide)
  have hN := F.2.2.1
  have hU := F.2.2.2
  refine XB_path (sc := some (6, xs)) (inl := [69, 212]) (n := 60) (sp := []) (o := [0, 3, 2, 1, 0, 1, 1]) (xin_ok rfl) (Or.inr rfl) rfl rfl (by show xN h ≤ 157; omega) (by show xU h ≤ 6079; omega) ?_ (XB_ret ⟨_, _, _, rfl, rfl, rfl⟩ rfl rfl)
  dsimp only
  simp [z0, z1, z2, z3, z4, z5, h0, g1, g2, r0, i0, i1, yI_same, yI_ne, yR_I, vp_in, Op.lookupswitch.offset, yt0, yt1, ym1, ylt, yl2, yl13, yk38, yk60, ylc]

set_option maxRecDepth 100000 in
set_option maxHeartbeats 4000000 in
theorem p1_2_2 (l : Launch) (xs : Nat → Int32) (h : XH) (F : FX h) (h0 : (xs 0 &&& 63).toInt = 2) (g1 : ¬ xs 1 = 0) (g2 : ¬ xs 1 = 1) : XB l 6 xs 14 540 false 289 157 6079 (fun rs _ => rs = [xi 1]) 23 xlh [] h := by
  have hN := F.2.2.1
  have hU := F.2.2.2
  refine XB_path (sc := some (6, xs)) (inl := [69, 212]) (n := 56) (sp := []) (o := [0, 3, 0, 1, 1, 1, 1]) (xin_ok rfl) (Or.inr rfl) rfl rfl (by show xN h ≤ 157; omega) (by show xU h ≤ 6079; omega) ?_ (XB_ret ⟨_, _, _, rfl, rfl, rfl⟩ rfl rfl)
  dsimp only
  simp [z0, z1, z2, z3, z4, z5, h0, g1, g2, yI_same, yI_ne, yR_I, vp_in, Op.lookupswitch.offset, yt0, yt1, ym1, ylt, yl2, yl13, yk38, yk60, ylc]

theorem p1_case2 (l : Launch) (xs : Nat → Int32) (h : XH) (F : FX h) (h0 : (xs 0 &&& 63).toInt = 2) : XB l 6 xs 14 540 false 289 157 6079 (fun rs _ => rs = [xi 1]) 23 xlh [] h := by
  by_cases g1 : xs 1 = 0
  · exact p1_2_0 l xs h F h0 g1
  · have g1 := id g1
    by_cases g2 : xs 1 = 1
    · exact p1_2_1 l xs h F h0 g1 g2
    · have g2 := id g2
      exact p1_2_2 l xs h F h0 g1 g2

set_option maxRecDepth 100000 in
set_option maxHeartbeats 4000000 in
theorem p1_3_0 (l : Launch) (xs : Nat → Int32) (h : XH) (F : FX h) (h0 : (xs 0 &&& 63).toInt = 3) (g1 : xs 1 = 0) : XB l 6 xs 14 540 false 289 157 6079 (fun rs _ => rs = [xi 1]) 23 xlh [] h := by
  have r0 : xR h 2 1 = 3 := F.1 (2, 1, 3) (by decide)
  have r1 : xR h 104 24 = 109 := F.1 (104, 24, 109) (by decide)
  have i0 : xI h 3 0 = 0 := F.2.1 (3, 0, 0) (by decide)
  have i1 : xI h 104 12 = 0 := F.2.1 (104, 12, 0) (by decide)
  have hN := F.2.2.1
  have hU := F.2.2.2
  refine XB_path (sc := some (6, xs)) (inl := [40, 70, 191, 213]) (n := 88) (sp := []) (o := [0, 4, 1, 1, 0, 1, 1, 1]) (xin_ok rfl) (Or.inr rfl) rfl rfl (by show xN h ≤ 157; omega) (by show xU h ≤ 6079; omega) ?_ (XB_ret ⟨_, _, _, rfl, rfl, rfl⟩ rfl rfl)
  dsimp only
  simp [z0, z1, z2, z3, z4, z5, h0, g1, r0, r1, i0, i1, yI_same, yI_ne, yR_I, vp_in, Op.lookupswitch.offset, yt0, yt1, ym1, ylt, yl2, yl13, yk38, yk60, ylc]

set_option maxRecDepth 100000 in
set_option maxHeartbeats 4000000 in
theorem p1_3_1 (l : Launch) (xs : Nat → Int32) (h : XH) (F : FX h) (h0 : (xs 0 &&& 63).toInt = 3) (g1 : ¬ xs 1 = 0) (g2 : xs 1 = 1) : XB l 6 xs 14 540 false 289 157 6079 (fun rs _ => rs = [xi 1]) 23 xlh [] h := by
  have r0 : xR h 2 1 = 3 := F.1 (2, 1, 3) (by decide)
  have r1 : xR h 104 31 = 116 := F.1 (104, 31, 116) (by decide)
  have i0 : xI h 3 9 = 0 := F.2.1 (3, 9, 0) (by decide)
  have i1 : xI h 104 14 = 0 := F.2.1 (104, 14, 0) (by decide)
  have hN := F.2.2.1
  have hU := F.2.2.2
  refine XB_path (sc := some (6, xs)) (inl := [47, 70, 191, 213]) (n := 91) (sp := []) (o := [0, 4, 2, 1, 1, 0, 1, 1, 1]) (xin_ok rfl) (Or.inr rfl) rfl rfl (by show xN h ≤ 157; omega) (by show xU h ≤ 6079; omega) ?_ (XB_ret ⟨_, _, _, rfl, rfl, rfl⟩ rfl rfl)
  dsimp only
  simp [z0, z1, z2, z3, z4, z5, h0, g1, g2, r0, r1, i0, i1, yI_same, yI_ne, yR_I, vp_in, Op.lookupswitch.offset, yt0, yt1, ym1, ylt, yl2, yl13, yk38, yk60, ylc]

set_option maxRecDepth 100000 in
set_option maxHeartbeats 4000000 in
theorem p1_3_2 (l : Launch) (xs : Nat → Int32) (h : XH) (F : FX h) (h0 : (xs 0 &&& 63).toInt = 3) (g1 : ¬ xs 1 = 0) (g2 : ¬ xs 1 = 1) : XB l 6 xs 14 540 false 289 157 6079 (fun rs _ => rs = [xi 1]) 23 xlh [] h := by
  have hN := F.2.2.1
  have hU := F.2.2.2
  refine XB_path (sc := some (6, xs)) (inl := [70, 213]) (n := 66) (sp := []) (o := [0, 4, 0, 1, 1, 1, 1]) (xin_ok rfl) (Or.inr rfl) rfl rfl (by show xN h ≤ 157; omega) (by show xU h ≤ 6079; omega) ?_ (XB_ret ⟨_, _, _, rfl, rfl, rfl⟩ rfl rfl)
  dsimp only
  simp [z0, z1, z2, z3, z4, z5, h0, g1, g2, yI_same, yI_ne, yR_I, vp_in, Op.lookupswitch.offset, yt0, yt1, ym1, ylt, yl2, yl13, yk38, yk60, ylc]

theorem p1_case3 (l : Launch) (xs : Nat → Int32) (h : XH) (F : FX h) (h0 : (xs 0 &&& 63).toInt = 3) : XB l 6 xs 14 540 false 289 157 6079 (fun rs _ => rs = [xi 1]) 23 xlh [] h := by
  by_cases g1 : xs 1 = 0
  · exact p1_3_0 l xs h F h0 g1
  · have g1 := id g1
    by_cases g2 : xs 1 = 1
    · exact p1_3_1 l xs h F h0 g1 g2
    · have g2 := id g2
      exact p1_3_2 l xs h F h0 g1 g2

set_option maxRecDepth 100000 in
set_option maxHeartbeats 4000000 in
theorem p1_5_0 (l : Launch) (xs : Nat → Int32) (h : XH) (F : FX h) (h0 : (xs 0 &&& 63).toInt = 5) (g1 : xs 1 < 0) : XB l 6 xs 14 540 false 289 157 6079 (fun rs _ => rs = [xi 1]) 23 xlh [] h := by
  have hN := F.2.2.1
  have hU := F.2.2.2
  refine XB_path (sc := some (6, xs)) (inl := [71, 72, 231, 232]) (n := 75) (sp := []) (o := [0, 6, 1, 0, 1, 0, 1, 1]) (xin_ok rfl) (Or.inr rfl) rfl rfl (by show xN h ≤ 157; omega) (by show xU h ≤ 6079; omega) ?_ (XB_ret ⟨_, _, _, rfl, rfl, rfl⟩ rfl rfl)
  dsimp only
  simp [z0, z1, z2, z3, z4, z5, h0, g1, yI_same, yI_ne, yR_I, vp_in, Op.lookupswitch.offset, yt0, yt1, ym1, ylt, yl2, yl13, yk38, yk60, ylc]

set_option maxRecDepth 100000 in
set_option maxHeartbeats 4000000 in
theorem p1_5_1 (l : Launch) (xs : Nat → Int32) (h : XH) (F : FX h) (h0 : (xs 0 &&& 63).toInt = 5) (g1 : 0 ≤ xs 1) : XB l 6 xs 14 540 false 289 157 6079 (fun rs _ => rs = [xi 1]) 23 xlh [] h := by
  have r0 : xR h 2 1 = 3 := F.1 (2, 1, 3) (by decide)
  have i0 : xI h 3 0 = 0 := F.2.1 (3, 0, 0) (by decide)
  have i1 : xI h 104 12 = 0 := F.2.1 (104, 12, 0) (by decide)
  have hN := F.2.2.1
  have hU := F.2.2.2
  refine XB_path (sc := some (6, xs)) (inl := [71, 72, 231, 232]) (n := 84) (sp := []) (o := [0, 6, 0, 1, 0, 0, 1, 0, 1, 1]) (xin_ok rfl) (Or.inr rfl) rfl rfl (by show xN h ≤ 157; omega) (by show xU h ≤ 6079; omega) ?_ (XB_ret ⟨_, _, _, rfl, rfl, rfl⟩ rfl rfl)
  dsimp only
  simp [z0, z1, z2, z3, z4, z5, h0, g1, r0, i0, i1, yI_same, yI_ne, yR_I, vp_in, Op.lookupswitch.offset, yt0, yt1, ym1, ylt, yl2, yl13, yk38, yk60, ylc]

theorem p1_case5 (l : Launch) (xs : Nat → Int32) (h : XH) (F : FX h) (h0 : (xs 0 &&& 63).toInt = 5) : XB l 6 xs 14 540 false 289 157 6079 (fun rs _ => rs = [xi 1]) 23 xlh [] h := by
  by_cases g1 : xs 1 < 0
  · exact p1_5_0 l xs h F h0 g1
  · have g1 := Int32.not_lt.mp g1
    exact p1_5_1 l xs h F h0 g1

set_option maxRecDepth 100000 in
set_option maxHeartbeats 4000000 in
theorem p1_6_0 (l : Launch) (xs : Nat → Int32) (h : XH) (F : FX h) (h0 : (xs 0 &&& 63).toInt = 6) (g1 : xs 1 < 0) : XB l 6 xs 14 540 false 289 157 6079 (fun rs _ => rs = [xi 1]) 23 xlh [] h := by
  have hN := F.2.2.1
  have hU := F.2.2.2
  refine XB_path (sc := some (6, xs)) (inl := [72, 83, 232, 236]) (n := 85) (sp := []) (o := [0, 7, 1, 1, 1, 1, 1, 1]) (xin_ok rfl) (Or.inr rfl) rfl rfl (by show xN h ≤ 157; omega) (by show xU h ≤ 6079; omega) ?_ (XB_ret ⟨_, _, _, rfl, rfl, rfl⟩ rfl rfl)
  dsimp only
  simp [z0, z1, z2, z3, z4, z5, h0, g1, yI_same, yI_ne, yR_I, vp_in, Op.lookupswitch.offset, yt0, yt1, ym1, ylt, yl2, yl13, yk38, yk60, ylc]

set_option maxRecDepth 100000 in
set_option maxHeartbeats 4000000 in
theorem p1_6_1 (l : Launch) (xs : Nat → Int32) (h : XH) (F : FX h) (h0 : (xs 0 &&& 63).toInt = 6) (g1 : 0 ≤ xs 1) : XB l 6 xs 14 540 false 289 157 6079 (fun rs _ => rs = [xi 1]) 23 xlh [] h := by
  have r0 : xR h 2 1 = 3 := F.1 (2, 1, 3) (by decide)
  have i0 : xI h 3 0 = 0 := F.2.1 (3, 0, 0) (by decide)
  have i1 : xI h 104 12 = 0 := F.2.1 (104, 12, 0) (by decide)
  have hN := F.2.2.1
  have hU := F.2.2.2
  refine XB_path (sc := some (6, xs)) (inl := [72, 83, 232, 236]) (n := 94) (sp := []) (o := [0, 7, 0, 1, 1, 0, 1, 1, 1, 1]) (xin_ok rfl) (Or.inr rfl) rfl rfl (by show xN h ≤ 157; omega) (by show xU h ≤ 6079; omega) ?_ (XB_ret ⟨_, _, _, rfl, rfl, rfl⟩ rfl rfl)
  dsimp only
  simp [z0, z1, z2, z3, z4, z5, h0, g1, r0, i0, i1, yI_same, yI_ne, yR_I, vp_in, Op.lookupswitch.offset, yt0, yt1, ym1, ylt, yl2, yl13, yk38, yk60, ylc]

theorem p1_case6 (l : Launch) (xs : Nat → Int32) (h : XH) (F : FX h) (h0 : (xs 0 &&& 63).toInt = 6) : XB l 6 xs 14 540 false 289 157 6079 (fun rs _ => rs = [xi 1]) 23 xlh [] h := by
  by_cases g1 : xs 1 < 0
  · exact p1_6_0 l xs h F h0 g1
  · have g1 := Int32.not_lt.mp g1
    exact p1_6_1 l xs h F h0 g1

set_option maxRecDepth 100000 in
set_option maxHeartbeats 4000000 in
theorem p1_7_0 (l : Launch) (xs : Nat → Int32) (h : XH) (F : FX h) (h0 : (xs 0 &&& 63).toInt = 7) (g1 : xs 1 < 0) : XB l 6 xs 14 540 false 289 157 6079 (fun rs _ => rs = [xi 1]) 23 xlh [] h := by
  have hN := F.2.2.1
  have hU := F.2.2.2
  refine XB_path (sc := some (6, xs)) (inl := [84, 85, 215, 237]) (n := 75) (sp := []) (o := [0, 8, 1, 1, 1, 1, 1, 1]) (xin_ok rfl) (Or.inr rfl) rfl rfl (by show xN h ≤ 157; omega) (by show xU h ≤ 6079; omega) ?_ (XB_ret ⟨_, _, _, rfl, rfl, rfl⟩ rfl rfl)
  dsimp only
  simp [z0, z1, z2, z3, z4, z5, h0, g1, yI_same, yI_ne, yR_I, vp_in, Op.lookupswitch.offset, yt0, yt1, ym1, ylt, yl2, yl13, yk38, yk60, ylc]

set_option maxRecDepth 100000 in
set_option maxHeartbeats 4000000 in
theorem p1_7_1 (l : Launch) (xs : Nat → Int32) (h : XH) (F : FX h) (h0 : (xs 0 &&& 63).toInt = 7) (g1 : 0 ≤ xs 1) : XB l 6 xs 14 540 false 289 157 6079 (fun rs _ => rs = [xi 1]) 23 xlh [] h := by
  have r0 : xR h 2 1 = 3 := F.1 (2, 1, 3) (by decide)
  have i0 : xI h 3 9 = 0 := F.2.1 (3, 9, 0) (by decide)
  have i1 : xI h 104 14 = 0 := F.2.1 (104, 14, 0) (by decide)
  have hN := F.2.2.1
  have hU := F.2.2.2
  refine XB_path (sc := some (6, xs)) (inl := [84, 85, 215, 237]) (n := 84) (sp := []) (o := [0, 8, 0, 1, 1, 0, 1, 1, 1, 1]) (xin_ok rfl) (Or.inr rfl) rfl rfl (by show xN h ≤ 157; omega) (by show xU h ≤ 6079; omega) ?_ (XB_ret ⟨_, _, _, rfl, rfl, rfl⟩ rfl rfl)
  dsimp only
  simp [z0, z1, z2, z3, z4, z5, h0, g1, r0, i0, i1, yI_same, yI_ne, yR_I, vp_in, Op.lookupswitch.offset, yt0, yt1, ym1, ylt, yl2, yl13, yk38, yk60, ylc]

theorem p1_case7 (l : Launch) (xs : Nat → Int32) (h : XH) (F : FX h) (h0 : (xs 0 &&& 63).toInt = 7) : XB l 6 xs 14 540 false 289 157 6079 (fun rs _ => rs = [xi 1]) 23 xlh [] h := by
  by_cases g1 : xs 1 < 0
  · exact p1_7_0 l xs h F h0 g1
  · have g1 := Int32.not_lt.mp g1
    exact p1_7_1 l xs h F h0 g1

set_option maxRecDepth 100000 in
set_option maxHeartbeats 4000000 in
theorem p1_8_0 (l : Launch) (xs : Nat → Int32) (h : XH) (F : FX h) (h0 : (xs 0 &&& 63).toInt = 8) (g1 : xs 1 = 0) (g2 : xs 2 < 0) : XB l 6 xs 14 540 false 289 157 6079 (fun rs _ => rs = [xi 1]) 23 xlh [] h := by
  have r0 : xR h 104 38 = 123 := F.1 (104, 38, 123) (by decide)
  have i0 : xI h 123 0 = 0 := F.2.1 (123, 0, 0) (by decide)
  have hN := F.2.2.1
  have hU := F.2.2.2
  refine XB_path (sc := some (6, xs)) (inl := [85, 87, 193, 238]) (n := 89) (sp := []) (o := [0, 9, 1, 1, 1, 0, 0, 0, 0, 1, 1]) (xin_ok rfl) (Or.inr rfl) rfl rfl (by show xN h ≤ 157; omega) (by show xU h ≤ 6079; omega) ?_ (XB_ret ⟨_, _, _, rfl, rfl, rfl⟩ rfl rfl)
  dsimp only
  simp [z0, z1, z2, z3, z4, z5, h0, g1, g2, r0, i0, yI_same, yI_ne, yR_I, vp_in, Op.lookupswitch.offset, yt0, yt1, ym1, ylt, yl2, yl13, yk38, yk60, ylc]

set_option maxRecDepth 100000 in
set_option maxHeartbeats 4000000 in
theorem p1_8_1 (l : Launch) (xs : Nat → Int32) (h : XH) (F : FX h) (h0 : (xs 0 &&& 63).toInt = 8) (g1 : xs 1 = 0) (g2 : 0 ≤ xs 2) : XB l 6 xs 14 540 false 289 157 6079 (fun rs _ => rs = [xi 1]) 23 xlh [] h := by
  have r0 : xR h 2 1 = 3 := F.1 (2, 1, 3) (by decide)
  have r1 : xR h 104 38 = 123 := F.1 (104, 38, 123) (by decide)
  have i0 : xI h 3 9 = 0 := F.2.1 (3, 9, 0) (by decide)
  have i1 : xI h 123 0 = 0 := F.2.1 (123, 0, 0) (by decide)
  have hN := F.2.2.1
  have hU := F.2.2.2
  refine XB_path (sc := some (6, xs)) (inl := [85, 87, 193, 238]) (n := 94) (sp := []) (o := [0, 9, 1, 0, 1, 1, 0, 0, 0, 0, 1, 1]) (xin_ok rfl) (Or.inr rfl) rfl rfl (by show xN h ≤ 157; omega) (by show xU h ≤ 6079; omega) ?_ (XB_ret ⟨_, _, _, rfl, rfl, rfl⟩ rfl rfl)
  dsimp only
  simp [z0, z1, z2, z3, z4, z5, h0, g1, g2, r0, r1, i0, i1, yI_same, yI_ne, yR_I, vp_in, Op.lookupswitch.offset, yt0, yt1, ym1, ylt, yl2, yl13, yk38, yk60, ylc]

set_option maxRecDepth 100000 in
set_option maxHeartbeats 4000000 in
theorem p1_8_2 (l : Launch) (xs : Nat → Int32) (h : XH) (F : FX h) (h0 : (xs 0 &&& 63).toInt = 8) (g1 : ¬ xs 1 = 0) (g2 : xs 1 = 1) (g3 : xs 2 < 0) : XB l 6 xs 14 540 false 289 157 6079 (fun rs _ => rs = [xi 1]) 23 xlh [] h := by
  have r0 : xR h 104 38 = 123 := F.1 (104, 38, 123) (by decide)
  have i0 : xI h 123 1 = 0 := F.2.1 (123, 1, 0) (by decide)
  have hN := F.2.2.1
  have hU := F.2.2.2
  refine XB_path (sc := some (6, xs)) (inl := [72, 87, 193, 238]) (n := 89) (sp := []) (o := [0, 9, 2, 1, 1, 0, 0, 0, 0, 1, 1]) (xin_ok rfl) (Or.inr rfl) rfl rfl (by show xN h ≤ 157; omega) (by show xU h ≤ 6079; omega) ?_ (XB_ret ⟨_, _, _, rfl, rfl, rfl⟩ rfl rfl)
  dsimp only
  simp [z0, z1, z2, z3, z4, z5, h0, g1, g2, g3, r0, i0, yI_same, yI_ne, yR_I, vp_in, Op.lookupswitch.offset, yt0, yt1, ym1, ylt, yl2, yl13, yk38, yk60, ylc]

set_option maxRecDepth 100000 in
set_option maxHeartbeats 4000000 in
theorem p1_8_3 (l : Launch) (xs : Nat → Int32) (h : XH) (F : FX h) (h0 : (xs 0 &&& 63).toInt = 8) (g1 : ¬ xs 1 = 0) (g2 : xs 1 = 1) (g3 : 0 ≤ xs 2) : XB l 6 xs 14 540 false 289 157 6079 (fun rs _ => rs = [xi 1]) 23 xlh [] h := by
  have r0 : xR h 2 1 = 3 := F.1 (2, 1, 3) (by decide)
  have r1 : xR h 104 38 = 123 := F.1 (104, 38, 123) (by decide)
  have i0 : xI h 3 0 = 0 := F.2.1 (3, 0, 0) (by decide)
  have i1 : xI h 123 1 = 0 := F.2.1 (123, 1, 0) (by decide)
  have hN := F.2.2.1
  have hU := F.2.2.2
  refine XB_path (sc := some (6, xs)) (inl := [72, 87, 193, 238]) (n := 94) (sp := []) (o := [0, 9, 2, 0, 1, 1, 0, 0, 0, 0, 1, 1]) (xin_ok rfl) (Or.inr rfl) rfl rfl (by show xN h ≤ 157; omega) (by show xU h ≤ 6079; omega) ?_ (XB_ret ⟨_, _, _, rfl, rfl, rfl⟩ rfl rfl)
  dsimp only
  simp [z0, z1, z2, z3, z4, z5, h0, g1, g2, g3, r0, r1, i0, i1, yI_same, yI_ne, yR_I, vp_in, Op.lookupswitch.offset, yt0, yt1, ym1, ylt, yl2, yl13, yk38, yk60, ylc]

set_option maxRecDepth 100000 in
set_option maxHeartbeats 4000000 in
theorem p1_8_4 (l : Launch) (xs : Nat → Int32) (h : XH) (F : FX h) (h0 : (xs 0 &&& 63).toInt = 8) (g1 : ¬ xs 1 = 0) (g2 : ¬ xs 1 = 1) (g3 : xs 1 = 2) (g4 : xs 2 < 0) : XB l 6 xs 14 540 false 289 157 6079 (fun rs _ => rs = [xi 1]) 23 xlh [] h := by
  have r0 : xR h 104 38 = 123 := F.1 (104, 38, 123) (by decide)
  have i0 : xI h 123 2 = 0 := F.2.1 (123, 2, 0) (by decide)
  have hN := F.2.2.1
  have hU := F.2.2.2
  refine XB_path (sc := some (6, xs)) (inl := [87, 193, 238]) (n := 83) (sp := []) (o := [0, 9, 3, 1, 0, 0, 0, 0, 1, 1]) (xin_ok rfl) (Or.inr rfl) rfl rfl (by show xN h ≤ 157; omega) (by show xU h ≤ 6079; omega) ?_ (XB_ret ⟨_, _, _, rfl, rfl, rfl⟩ rfl rfl)
  dsimp only
  simp [z0, z1, z2, z3, z4, z5, h0, g1, g2, g3, g4, r0, i0, yI_same, yI_ne, yR_I, vp_in, Op.lookupswitch.offset, yt0, yt1, ym1, ylt, yl2, yl13, yk38, yk60, ylc]

set_option maxRecDepth 100000 in
set_option maxHeartbeats 4000000 in
theorem p1_8_5 (l : Launch) (xs : Nat → Int32) (h : XH) (F : FX h) (h0 : (xs 0 &&& 63).toInt = 8) (g1 : ¬ xs 1 = 0) (g2 : ¬ xs 1 = 1) (g3 : xs 1 = 2) (g4 : 0 ≤ xs 2) : XB l 6 xs 14 540 false 289 157 6079 (fun rs _ => rs = [xi 1]) 23 xlh [] h := by
  have r0 : xR h 2 1 = 3 := F.1 (2, 1, 3) (by decide)
  have r1 : xR h 104 38 = 123 := F.1 (104, 38, 123) (by decide)
  have i0 : xI h 3 5 = 0 := F.2.1 (3, 5, 0) (by decide)
  have i1 : xI h 123 2 = 0 := F.2.1 (123, 2, 0) (by decide)
  have hN := F.2.2.1
  have hU := F.2.2.2
  refine XB_path (sc := some (6, xs)) (inl := [87, 193, 238]) (n := 88) (sp := []) (o := [0, 9, 3, 0, 1, 0, 0, 0, 0, 1, 1]) (xin_ok rfl) (Or.inr rfl) rfl rfl (by show xN h ≤ 157; omega) (by show xU h ≤ 6079; omega) ?_ (XB_ret ⟨_, _, _, rfl, rfl, rfl⟩ rfl rfl)
  dsimp only
  simp [z0, z1, z2, z3, z4, z5, h0, g1, g2, g3, g4, r0, r1, i0, i1, yI_same, yI_ne, yR_I, vp_in, Op.lookupswitch.offset, yt0, yt1, ym1, ylt, yl2, yl13, yk38, yk60, ylc]

set_option maxRecDepth 100000 in
set_option maxHeartbeats 4000000 in
theorem p1_8_6 (l : Launch) (xs : Nat → Int32) (h : XH) (F : FX h) (h0 : (xs 0 &&& 63).toInt = 8) (g1 : ¬ xs 1 = 0) (g2 : ¬ xs 1 = 1) (g3 : ¬ xs 1 = 2) (g4 : xs 1 < 0) : XB l 6 xs 14 540 false 289 157 6079 (fun rs _ => rs = [xi 1]) 23 xlh [] h := by
  have hN := F.2.2.1
  have hU := F.2.2.2
  refine XB_path (sc := some (6, xs)) (inl := [87, 193, 238]) (n := 72) (sp := []) (o := [0, 9, 0, 1, 1, 1, 1]) (xin_ok rfl) (Or.inr rfl) rfl rfl (by show xN h ≤ 157; omega) (by show xU h ≤ 6079; omega) ?_ (XB_ret ⟨_, _, _, rfl, rfl, rfl⟩ rfl rfl)
  dsimp only
  simp [z0, z1, z2, z3, z4, z5, h0, g1, g2, g3, g4, yI_same, yI_ne, yR_I, vp_in, Op.lookupswitch.offset, yt0, yt1, ym1, ylt, yl2, yl13, yk38, yk60, ylc]

set_option maxRecDepth 100000 in
set_option maxHeartbeats 4000000 in
theorem p1_8_7 (l : Launch) (xs : Nat → Int32) (h : XH) (F : FX h) (h0 : (xs 0 &&& 63).toInt = 8) (g1 : ¬ xs 1 = 0) (g2 : ¬ xs 1 = 1) (g3 : ¬ xs 1 = 2) (g4 : 0 ≤ xs 1) (g5 : 2 < xs 1) : XB l 6 xs 14 540 false 289 157 6079 (fun rs _ => rs = [xi 1]) 23 xlh [] h := by
  have hN := F.2.2.1
  have hU := F.2.2.2
  refine XB_path (sc := some (6, xs)) (inl := [87, 193, 238]) (n := 75) (sp := []) (o := [0, 9, 0, 0, 1, 1, 1, 1]) (xin_ok rfl) (Or.inr rfl) rfl rfl (by show xN h ≤ 157; omega) (by show xU h ≤ 6079; omega) ?_ (XB_ret ⟨_, _, _, rfl, rfl, rfl⟩ rfl rfl)
  dsimp only
  simp [z0, z1, z2, z3, z4, z5, h0, g1, g2, g3, g4, g5, yI_same, yI_ne, yR_I, vp_in, Op.lookupswitch.offset, yt0, yt1, ym1, ylt, yl2, yl13, yk38, yk60, ylc]

theorem p1_case8 (l : Launch) (xs : Nat → Int32) (h : XH) (F : FX h) (h0 : (xs 0 &&& 63).toInt = 8) : XB l 6 xs 14 540 false 289 157 6079 (fun rs _ => rs = [xi 1]) 23 xlh [] h := by
  by_cases g1 : xs 1 = 0
  · by_cases g2 : xs 2 < 0
    · exact p1_8_0 l xs h F h0 g1 g2
    · have g2 := Int32.not_lt.mp g2
      exact p1_8_1 l xs h F h0 g1 g2
  · have g1 := id g1
    by_cases g2 : xs 1 = 1
    · by_cases g3 : xs 2 < 0
      · exact p1_8_2 l xs h F h0 g1 g2 g3
      · have g3 := Int32.not_lt.mp g3
        exact p1_8_3 l xs h F h0 g1 g2 g3
    · have g2 := id g2
      by_cases g3 : xs 1 = 2
      · by_cases g4 : xs 2 < 0
        · exact p1_8_4 l xs h F h0 g1 g2 g3 g4
        · have g4 := Int32.not_lt.mp g4
          exact p1_8_5 l xs h F h0 g1 g2 g3 g4
      · have g3 := id g3
        by_cases g4 : xs 1 < 0
        · exact p1_8_6 l xs h F h0 g1 g2 g3 g4
        · have g4 := Int32.not_lt.mp g4
          have g5 : 2 < xs 1 := yg2 g4 g1 g2 g3
          exact p1_8_7 l xs h F h0 g1 g2 g3 g4 g5

set_option maxRecDepth 100000 in
set_option maxHeartbeats 4000000 in
theorem p1_9_0 (l : Launch) (xs : Nat → Int32) (h : XH) (F : FX h) (h0 : (xs 0 &&& 63).toInt = 9) (g1 : xs 1 < 0) : XB l 6 xs 14 540 false 289 157 6079 (fun rs _ => rs = [xi 1]) 23 xlh [] h := by
  have hN := F.2.2.1
  have hU := F.2.2.2
  refine XB_path (sc := some (6, xs)) (inl := [85, 92, 215, 239]) (n := 75) (sp := []) (o := [0, 10, 1, 1, 1, 1, 1, 1]) (xin_ok rfl) (Or.inr rfl) rfl rfl (by show xN h ≤ 157; omega) (by show xU h ≤ 6079; omega) ?_ (XB_ret ⟨_, _, _, rfl, rfl, rfl⟩ rfl rfl)
  dsimp only
  simp [z0, z1, z2, z3, z4, z5, h0, g1, yI_same, yI_ne, yR_I, vp_in, Op.lookupswitch.offset, yt0, yt1, ym1, ylt, yl2, yl13, yk38, yk60, ylc]

set_option maxRecDepth 100000 in
set_option maxHeartbeats 4000000 in
theorem p1_9_1 (l : Launch) (xs : Nat → Int32) (h : XH) (F : FX h) (h0 : (xs 0 &&& 63).toInt = 9) (g1 : 0 ≤ xs 1) : XB l 6 xs 14 540 false 289 157 6079 (fun rs _ => rs = [xi 1]) 23 xlh [] h := by
  have r0 : xR h 2 1 = 3 := F.1 (2, 1, 3) (by decide)
  have i0 : xI h 3 9 = 0 := F.2.1 (3, 9, 0) (by decide)
  have i1 : xI h 104 14 = 0 := F.2.1 (104, 14, 0) (by decide)
  have hN := F.2.2.1
  have hU := F.2.2.2
  refine XB_path (sc := some (6, xs)) (inl := [85, 92, 215, 239]) (n := 84) (sp := []) (o := [0, 10, 0, 1, 1, 0, 1, 1, 1, 1]) (xin_ok rfl) (Or.inr rfl) rfl rfl (by show xN h ≤ 157; omega) (by show xU h ≤ 6079; omega) ?_ (XB_ret ⟨_, _, _, rfl, rfl, rfl⟩ rfl rfl)
  dsimp only
  simp [z0, z1, z2, z3, z4, z5, h0, g1, r0, i0, i1, yI_same, yI_ne, yR_I, vp_in, Op.lookupswitch.offset, yt0, yt1, ym1, ylt, yl2, yl13, yk38, yk60, ylc]

theorem p1_case9 (l : Launch) (xs : Nat → Int32) (h : XH) (F : FX h) (h0 : (xs 0 &&& 63).toInt = 9) : XB l 6 xs 14 540 false 289 157 6079 (fun rs _ => rs = [xi 1]) 23 xlh [] h := by
  by_cases g1 : xs 1 < 0
  · exact p1_9_0 l xs h F h0 g1
  · have g1 := Int32.not_lt.mp g1
    exact p1_9_1 l xs h F h0 g1

set_option maxRecDepth 100000 in
set_option maxHeartbeats 4000000 in
theorem p1_10_0 (l : Launch) (xs : Nat → Int32) (h : XH) (F : FX h) (h0 : (xs 0 &&& 63).toInt = 10) (g1 : xs 1 < 0) : XB l 6 xs 14 540 false 289 157 6079 (fun rs _ => rs = [xi 1]) 23 xlh [] h := by
  have hN := F.2.2.1
  have hU := F.2.2.2
  refine XB_path (sc := some (6, xs)) (inl := [85, 94, 215, 242]) (n := 75) (sp := []) (o := [0, 11, 1, 1, 1, 1, 1, 1]) (xin_ok rfl) (Or.inr rfl) rfl rfl (by show xN h ≤ 157; omega) (by show xU h ≤ 6079; omega) ?_ (XB_ret ⟨_, _, _, rfl, rfl, rfl⟩ rfl rfl)
  dsimp only
  simp [z0, z1, z2, z3, z4, z5, h0, g1, yI_same, yI_ne, yR_I, vp_in, Op.lookupswitch.offset, yt0, yt1, ym1, ylt, yl2, yl13, yk38, yk60, ylc]

set_option maxRecDepth 100000 in
set_option maxHeartbeats 4000000 in
theorem p1_10_1 (l : Launch) (xs : Nat → Int32) (h : XH) (F : FX h) (h0 : (xs 0 &&& 63).toInt = 10) (g1 : 0 ≤ xs 1) : XB l 6 xs 14 540 false 289 157 6079 (fun rs _ => rs = [xi 1]) 23 xlh [] h := by
  have r0 : xR h 2 1 = 3 := F.1 (2, 1, 3) (by decide)
  have i0 : xI h 3 9 = 0 := F.2.1 (3, 9, 0) (by decide)
  have i1 : xI h 104 14 = 0 := F.2.1 (104, 14, 0) (by decide)
  have hN := F.2.2.1
  have hU := F.2.2.2
  refine XB_path (sc := some (6, xs)) (inl := [85, 94, 215, 242]) (n := 84) (sp := []) (o := [0, 11, 0, 1, 1, 0, 1, 1, 1, 1]) (xin_ok rfl) (Or.inr rfl) rfl rfl (by show xN h ≤ 157; omega) (by show xU h ≤ 6079; omega) ?_ (XB_ret ⟨_, _, _, rfl, rfl, rfl⟩ rfl rfl)
  dsimp only
  simp [z0, z1, z2, z3, z4, z5, h0, g1, r0, i0, i1, yI_same, yI_ne, yR_I, vp_in, Op.lookupswitch.offset, yt0, yt1, ym1, ylt, yl2, yl13, yk38, yk60, ylc]

theorem p1_case10 (l : Launch) (xs : Nat → Int32) (h : XH) (F : FX h) (h0 : (xs 0 &&& 63).toInt = 10) : XB l 6 xs 14 540 false 289 157 6079 (fun rs _ => rs = [xi 1]) 23 xlh [] h := by
  by_cases g1 : xs 1 < 0
  · exact p1_10_0 l xs h F h0 g1
  · have g1 := Int32.not_lt.mp g1
    exact p1_10_1 l xs h F h0 g1

set_option maxRecDepth 100000 in
set_option maxHeartbeats 4000000 in
theorem p1_11_0 (l : Launch) (xs : Nat → Int32) (h : XH) (F : FX h) (h0 : (xs 0 &&& 63).toInt = 11) (g1 : xs 1 < 0) : XB l 6 xs 14 540 false 289 157 6079 (fun rs _ => rs = [xi 1]) 23 xlh [] h := by
  have hN := F.2.2.1
  have hU := F.2.2.2
  refine XB_path (sc := some (6, xs)) (inl := [72, 96, 232, 243]) (n := 75) (sp := []) (o := [0, 12, 1, 1, 1, 1, 1, 1]) (xin_ok rfl) (Or.inr rfl) rfl rfl (by show xN h ≤ 157; omega) (by show xU h ≤ 6079; omega) ?_ (XB_ret ⟨_, _, _, rfl, rfl, rfl⟩ rfl rfl)
  dsimp only
  simp [z0, z1, z2, z3, z4, z5, h0, g1, yI_same, yI_ne, yR_I, vp_in, Op.lookupswitch.offset, yt0, yt1, ym1, ylt, yl2, yl13, yk38, yk60, ylc]

set_option maxRecDepth 100000 in
set_option maxHeartbeats 4000000 in
theorem p1_11_1 (l : Launch) (xs : Nat → Int32) (h : XH) (F : FX h) (h0 : (xs 0 &&& 63).toInt = 11) (g1 : 0 ≤ xs 1) : XB l 6 xs 14 540 false 289 157 6079 (fun rs _ => rs = [xi 1]) 23 xlh [] h := by
  have r0 : xR h 2 1 = 3 := F.1 (2, 1, 3) (by decide)
  have i0 : xI h 3 0 = 0 := F.2.1 (3, 0, 0) (by decide)
  have i1 : xI h 104 12 = 0 := F.2.1 (104, 12, 0) (by decide)
  have hN := F.2.2.1
  have hU := F.2.2.2
  refine XB_path (sc := some (6, xs)) (inl := [72, 96, 232, 243]) (n := 84) (sp := []) (o := [0, 12, 0, 1, 1, 0, 1, 1, 1, 1]) (xin_ok rfl) (Or.inr rfl) rfl rfl (by show xN h ≤ 157; omega) (by show xU h ≤ 6079; omega) ?_ (XB_ret ⟨_, _, _, rfl, rfl, rfl⟩ rfl rfl)
  dsimp only
  simp [z0, z1, z2, z3, z4, z5, h0, g1, r0, i0, i1, yI_same, yI_ne, yR_I, vp_in, Op.lookupswitch.offset, yt0, yt1, ym1, ylt, yl2, yl13, yk38, yk60, ylc]

theorem p1_case11 (l : Launch) (xs : Nat → Int32) (h : XH) (F : FX h) (h0 : (xs 0 &&& 63).toInt = 11) : XB l 6 xs 14 540 false 289 157 6079 (fun rs _ => rs = [xi 1]) 23 xlh [] h := by
  by_cases g1 : xs 1 < 0
  · exact p1_11_0 l xs h F h0 g1
  · have g1 := Int32.not_lt.mp g1
    exact p1_11_1 l xs h F h0 g1

set_option maxRecDepth 100000 in
set_option maxHeartbeats 4000000 in
theorem p1_13_0 (l : Launch) (xs : Nat → Int32) (h : XH) (F : FX h) (h0 : (xs 0 &&& 63).toInt = 13) (g1 : xs 1 < 0) : XB l 6 xs 14 540 false 289 157 6079 (fun rs _ => rs = [xi 1]) 23 xlh [] h := by
  have hN := F.2.2.1
  have hU := F.2.2.2
  refine XB_path (sc := some (6, xs)) (inl := [72, 103, 232, 247]) (n := 85) (sp := []) (o := [0, 14, 1, 1, 1, 1, 1, 1]) (xin_ok rfl) (Or.inr rfl) rfl rfl (by show xN h ≤ 157; omega) (by show xU h ≤ 6079; omega) ?_ (XB_ret ⟨_, _, _, rfl, rfl, rfl⟩ rfl rfl)
  dsimp only
  simp [z0, z1, z2, z3, z4, z5, h0, g1, yI_same, yI_ne, yR_I, vp_in, Op.lookupswitch.offset, yt0, yt1, ym1, ylt, yl2, yl13, yk38, yk60, ylc]

set_option maxRecDepth 100000 in
set_option maxHeartbeats 4000000 in
theorem p1_13_1 (l : Launch) (xs : Nat → Int32) (h : XH) (F : FX h) (h0 : (xs 0 &&& 63).toInt = 13) (g1 : 0 ≤ xs 1) : XB l 6 xs 14 540 false 289 157 6079 (fun rs _ => rs = [xi 1]) 23 xlh [] h := by
  have r0 : xR h 2 1 = 3 := F.1 (2, 1, 3) (by decide)
  have i0 : xI h 3 0 = 0 := F.2.1 (3, 0, 0) (by decide)
  have i1 : xI h 104 12 = 0 := F.2.1 (104, 12, 0) (by decide)
  have hN := F.2.2.1
  have hU := F.2.2.2
  refine XB_path (sc := some (6, xs)) (inl := [72, 103, 232, 247]) (n := 94) (sp := []) (o := [0, 14, 0, 1, 1, 0, 1, 1, 1, 1]) (xin_ok rfl) (Or.inr rfl) rfl rfl (by show xN h ≤ 157; omega) (by show xU h ≤ 6079; omega) ?_ (XB_ret ⟨_, _, _, rfl, rfl, rfl⟩ rfl rfl)
  dsimp only
  simp [z0, z1, z2, z3, z4, z5, h0, g1, r0, i0, i1, yI_same, yI_ne, yR_I, vp_in, Op.lookupswitch.offset, yt0, yt1, ym1, ylt, yl2, yl13, yk38, yk60, ylc]

theorem p1_case13 (l : Launch) (xs : Nat → Int32) (h : XH) (F : FX h) (h0 : (xs 0 &&& 63).toInt = 13) : XB l 6 xs 14 540 false 289 157 6079 (fun rs _ => rs = [xi 1]) 23 xlh [] h := by
  by_cases g1 : xs 1 < 0
  · exact p1_13_0 l xs h F h0 g1
  · have g1 := Int32.not_lt.mp g1
    exact p1_13_1 l xs h F h0 g1

set_option maxRecDepth 100000 in
set_option maxHeartbeats 4000000 in
theorem p1_15_0 (l : Launch) (xs : Nat → Int32) (h : XH) (F : FX h) (h0 : (xs 0 &&& 63).toInt = 15) (g1 : xs 1 < 0) : XB l 6 xs 14 540 false 289 157 6079 (fun rs _ => rs = [xi 1]) 23 xlh [] h := by
  have hN := F.2.2.1
  have hU := F.2.2.2
  refine XB_path (sc := some (6, xs)) (inl := [85, 107, 215, 251]) (n := 65) (sp := []) (o := [0, 16, 1, 1, 1, 0, 1, 1]) (xin_ok rfl) (Or.inr rfl) rfl rfl (by show xN h ≤ 157; omega) (by show xU h ≤ 6079; omega) ?_ (XB_ret ⟨_, _, _, rfl, rfl, rfl⟩ rfl rfl)
  dsimp only
  simp [z0, z1, z2, z3, z4, z5, h0, g1, yI_same, yI_ne, yR_I, vp_in, Op.lookupswitch.offset, yt0, yt1, ym1, ylt, yl2, yl13, yk38, yk60, ylc]

set_option maxRecDepth 100000 in
set_option maxHeartbeats 4000000 in
theorem p1_15_1 (l : Launch) (xs : Nat → Int32) (h : XH) (F : FX h) (h0 : (xs 0 &&& 63).toInt = 15) (g1 : 0 ≤ xs 1) : XB l 6 xs 14 540 false 289 157 6079 (fun rs _ => rs = [xi 1]) 23 xlh [] h := by
  have r0 : xR h 2 1 = 3 := F.1 (2, 1, 3) (by decide)
  have i0 : xI h 3 9 = 0 := F.2.1 (3, 9, 0) (by decide)
  have i1 : xI h 104 14 = 0 := F.2.1 (104, 14, 0) (by decide)
  have hN := F.2.2.1
  have hU := F.2.2.2
  refine XB_path (sc := some (6, xs)) (inl := [85, 107, 215, 251]) (n := 74) (sp := []) (o := [0, 16, 0, 1, 1, 0, 1, 0, 1, 1]) (xin_ok rfl) (Or.inr rfl) rfl rfl (by show xN h ≤ 157; omega) (by show xU h ≤ 6079; omega) ?_ (XB_ret ⟨_, _, _, rfl, rfl, rfl⟩ rfl rfl)
  dsimp only
  simp [z0, z1, z2, z3, z4, z5, h0, g1, r0, i0, i1, yI_same, yI_ne, yR_I, vp_in, Op.lookupswitch.offset, yt0, yt1, ym1, ylt, yl2, yl13, yk38, yk60, ylc]

theorem p1_case15 (l : Launch) (xs : Nat → Int32) (h : XH) (F : FX h) (h0 : (xs 0 &&& 63).toInt = 15) : XB l 6 xs 14 540 false 289 157 6079 (fun rs _ => rs = [xi 1]) 23 xlh [] h := by
  by_cases g1 : xs 1 < 0
  · exact p1_15_0 l xs h F h0 g1
  · have g1 := Int32.not_lt.mp g1
    exact p1_15_1 l xs h F h0 g1

set_option maxRecDepth 100000 in
set_option maxHeartbeats 4000000 in
theorem p1_16_0 (l : Launch) (xs : Nat → Int32) (h : XH) (F : FX h) (h0 : (xs 0 &&& 63).toInt = 16) (g1 : xs 2 = 0) (g2 : xs 1 < 0) : XB l 6 xs 14 540 false 289 157 6079 (fun rs _ => rs = [xi 1]) 23 xlh [] h := by
  have hN := F.2.2.1
  have hU := F.2.2.2
  refine XB_path (sc := some (6, xs)) (inl := [72, 111, 232, 254]) (n := 79) (sp := []) (o := [0, 17, 1, 1, 1, 1, 1, 0, 1, 1]) (xin_ok rfl) (Or.inr rfl) rfl rfl (by show xN h ≤ 157; omega) (by show xU h ≤ 6079; omega) ?_ (XB_ret ⟨_, _, _, rfl, rfl, rfl⟩ rfl rfl)
  dsimp only
  simp [z0, z1, z2, z3, z4, z5, h0, g1, g2, yI_same, yI_ne, yR_I, vp_in, Op.lookupswitch.offset, yt0, yt1, ym1, ylt, yl2, yl13, yk38, yk60, ylc]

set_option maxRecDepth 100000 in
set_option maxHeartbeats 4000000 in
theorem p1_16_1 (l : Launch) (xs : Nat → Int32) (h : XH) (F : FX h) (h0 : (xs 0 &&& 63).toInt = 16) (g1 : xs 2 = 0) (g2 : 0 ≤ xs 1) : XB l 6 xs 14 540 false 289 157 6079 (fun rs _ => rs = [xi 1]) 23 xlh [] h := by
  have r0 : xR h 2 1 = 3 := F.1 (2, 1, 3) (by decide)
  have i0 : xI h 3 0 = 0 := F.2.1 (3, 0, 0) (by decide)
  have i1 : xI h 104 12 = 0 := F.2.1 (104, 12, 0) (by decide)
  have hN := F.2.2.1
  have hU := F.2.2.2
  refine XB_path (sc := some (6, xs)) (inl := [72, 111, 232, 254]) (n := 88) (sp := []) (o := [0, 17, 1, 0, 1, 1, 1, 0, 1, 0, 1, 1]) (xin_ok rfl) (Or.inr rfl) rfl rfl (by show xN h ≤ 157; omega) (by show xU h ≤ 6079; omega) ?_ (XB_ret ⟨_, _, _, rfl, rfl, rfl⟩ rfl rfl)
  dsimp only
  simp [z0, z1, z2, z3, z4, z5, h0, g1, g2, r0, i0, i1, yI_same, yI_ne, yR_I, vp_in, Op.lookupswitch.offset, yt0, yt1, ym1, ylt, yl2, yl13, yk38, yk60, ylc]

set_option maxRecDepth 100000 in
set_option maxHeartbeats 4000000 in
theorem p1_16_2 (l : Launch) (xs : Nat → Int32) (h : XH) (F : FX h) (h0 : (xs 0 &&& 63).toInt = 16) (g1 : ¬ xs 2 = 0) (g2 : xs 1 < 0) : XB l 6 xs 14 540 false 289 157 6079 (fun rs _ => rs = [xi 1]) 23 xlh [] h := by
  have hN := F.2.2.1
  have hU := F.2.2.2
  refine XB_path (sc := some (6, xs)) (inl := [72, 111, 232, 254]) (n := 81) (sp := []) (o := [0, 17, 0, 1, 1, 0, 1, 0, 1, 1]) (xin_ok rfl) (Or.inr rfl) rfl rfl (by show xN h ≤ 157; omega) (by show xU h ≤ 6079; omega) ?_ (XB_ret ⟨_, _, _, rfl, rfl, rfl⟩ rfl rfl)
  dsimp only
  simp [z0, z1, z2, z3, z4, z5, h0, g1, g2, yI_same, yI_ne, yR_I, vp_in, Op.lookupswitch.offset, yt0, yt1, ym1, ylt, yl2, yl13, yk38, yk60, ylc]

set_option maxRecDepth 100000 in
set_option maxHeartbeats 4000000 in
theorem p1_16_3 (l : Launch) (xs : Nat → Int32) (h : XH) (F : FX h) (h0 : (xs 0 &&& 63).toInt = 16) (g1 : ¬ xs 2 = 0) (g2 : 0 ≤ xs 1) : XB l 6 xs 14 540 false 289 157 6079 (fun rs _ => rs = [xi 1]) 23 xlh [] h := by
  have r0 : xR h 2 1 = 3 := F.1 (2, 1, 3) (by decide)
  have i0 : xI h 3 0 = 0 := F.2.1 (3, 0, 0) (by decide)
  have i1 : xI h 104 12 = 0 := F.2.1 (104, 12, 0) (by decide)
  have hN := F.2.2.1
  have hU := F.2.2.2
  refine XB_path (sc := some (6, xs)) (inl := [72, 111, 232, 254]) (n := 90) (sp := []) (o := [0, 17, 0, 0, 1, 1, 0, 0, 1, 0, 1, 1]) (xin_ok rfl) (Or.inr rfl) rfl rfl (by show xN h ≤ 157; omega) (by show xU h ≤ 6079; omega) ?_ (XB_ret ⟨_, _, _, rfl, rfl, rfl⟩ rfl rfl)
  dsimp only
  simp [z0, z1, z2, z3, z4, z5, h0, g1, g2, r0, i0, i1, yI_same, yI_ne, yR_I, vp_in, Op.lookupswitch.offset, yt0, yt1, ym1, ylt, yl2, yl13, yk38, yk60, ylc]

theorem p1_case16 (l : Launch) (xs : Nat → Int32) (h : XH) (F : FX h) (h0 : (xs 0 &&& 63).toInt = 16) : XB l 6 xs 14 540 false 289 157 6079 (fun rs _ => rs = [xi 1]) 23 xlh [] h := by
  by_cases g1 : xs 2 = 0
  · by_cases g2 : xs 1 < 0
    · exact p1_16_0 l xs h F h0 g1 g2
    · have g2 := Int32.not_lt.mp g2
      exact p1_16_1 l xs h F h0 g1 g2
  · have g1 := id g1
    by_cases g2 : xs 1 < 0
    · exact p1_16_2 l xs h F h0 g1 g2
    · have g2 := Int32.not_lt.mp g2
      exact p1_16_3 l xs h F h0 g1 g2

set_option maxRecDepth 100000 in
set_option maxHeartbeats 4000000 in
theorem p1_18_0 (l : Launch) (xs : Nat → Int32) (h : XH) (F : FX h) (h0 : (xs 0 &&& 63).toInt = 18) : XB l 6 xs 14 540 false 289 157 6079 (fun rs _ => rs = [xi 1]) 23 xlh [] h := by
  have r0 : xR h 2 3 = 48 := F.1 (2, 3, 48) (by decide)
  have r1 : xR h 48 0 = 3 := F.1 (48, 0, 3) (by decide)
  have i0 : xI h 3 5 = 0 := F.2.1 (3, 5, 0) (by decide)
  have i1 : xI h 104 13 = 0 := F.2.1 (104, 13, 0) (by decide)
  have hN := F.2.2.1
  have hU := F.2.2.2
  refine XB_path (sc := some (6, xs)) (inl := [121, 122, 258, 259]) (n := 66) (sp := []) (o := [0, 19, 1, 1, 1, 1]) (xin_ok rfl) (Or.inr rfl) rfl rfl (by show xN h ≤ 157; omega) (by show xU h ≤ 6079; omega) ?_ (XB_ret ⟨_, _, _, rfl, rfl, rfl⟩ rfl rfl)
  dsimp only
  simp [z0, z1, z2, z3, z4, z5, h0, r0, r1, i0, i1, yI_same, yI_ne, yR_I, vp_in, Op.lookupswitch.offset, yt0, yt1, ym1, ylt, yl2, yl13, yk38, yk60, ylc]

theorem p1_case18 (l : Launch) (xs : Nat → Int32) (h : XH) (F : FX h) (h0 : (xs 0 &&& 63).toInt = 18) : XB l 6 xs 14 540 false 289 157 6079 (fun rs _ => rs = [xi 1]) 23 xlh [] h := by
  exact p1_18_0 l xs h F h0

set_option maxRecDepth 100000 in
set_option maxHeartbeats 4000000 in
theorem p1_19_0 (l : Launch) (xs : Nat → Int32) (h : XH) (F : FX h) (h0 : (xs 0 &&& 63).toInt = 19) (g1 : xs 1 < 0) : XB l 6 xs 14 540 false 289 157 6079 (fun rs _ => rs = [xi 1]) 23 xlh [] h := by
  have hN := F.2.2.1
  have hU := F.2.2.2
  refine XB_path (sc := some (6, xs)) (inl := [123, 193, 260]) (n := 61) (sp := []) (o := [0, 20, 1, 1, 0, 1, 1]) (xin_ok rfl) (Or.inr rfl) rfl rfl (by show xN h ≤ 157; omega) (by show xU h ≤ 6079; omega) ?_ (XB_ret ⟨_, _, _, rfl, rfl, rfl⟩ rfl rfl)
  dsimp only
  simp [z0, z1, z2, z3, z4, z5, h0, g1, yI_same, yI_ne, yR_I, vp_in, Op.lookupswitch.offset, yt0, yt1, ym1, ylt, yl2, yl13, yk38, yk60, ylc]

set_option maxRecDepth 100000 in
set_option maxHeartbeats 4000000 in
theorem p1_19_1 (l : Launch) (xs : Nat → Int32) (h : XH) (F : FX h) (h0 : (xs 0 &&& 63).toInt = 19) (g1 : 0 ≤ xs 1) (g2 : 1 < xs 1) : XB l 6 xs 14 540 false 289 157 6079 (fun rs _ => rs = [xi 1]) 23 xlh [] h := by
  have hN := F.2.2.1
  have hU := F.2.2.2
  refine XB_path (sc := some (6, xs)) (inl := [123, 193, 260]) (n := 67) (sp := []) (o := [0, 20, 0, 0, 0, 1, 0, 1, 1]) (xin_ok rfl) (Or.inr rfl) rfl rfl (by show xN h ≤ 157; omega) (by show xU h ≤ 6079; omega) ?_ (XB_ret ⟨_, _, _, rfl, rfl, rfl⟩ rfl rfl)
  dsimp only
  simp [z0, z1, z2, z3, z4, z5, h0, g1, g2, yI_same, yI_ne, yR_I, vp_in, Op.lookupswitch.offset, yt0, yt1, ym1, ylt, yl2, yl13, yk38, yk60, ylc]

set_option maxRecDepth 100000 in
set_option maxHeartbeats 4000000 in
theorem p1_19_2 (l : Launch) (xs : Nat → Int32) (h : XH) (F : FX h) (h0 : (xs 0 &&& 63).toInt = 19) (g1 : 0 ≤ xs 1) (g2 : xs 1 ≤ 1) (g3 : xs 1 = 0) : XB l 6 xs 14 540 false 289 157 6079 (fun rs _ => rs = [xi 1]) 23 xlh [] h := by
  have r0 : xR h 2 1 = 3 := F.1 (2, 1, 3) (by decide)
  have r1 : xR h 2 3 = 48 := F.1 (2, 3, 48) (by decide)
  have r2 : xR h 48 0 = 3 := F.1 (48, 0, 3) (by decide)
  have i0 : xI h 3 0 = 0 := F.2.1 (3, 0, 0) (by decide)
  have i1 : xI h 3 5 = 0 := F.2.1 (3, 5, 0) (by decide)
  have i2 : xI h 104 12 = 0 := F.2.1 (104, 12, 0) (by decide)
  have i3 : xI h 104 13 = 0 := F.2.1 (104, 13, 0) (by decide)
  have hN := F.2.2.1
  have hU := F.2.2.2
  refine XB_path (sc := some (6, xs)) (inl := [122, 123, 193, 259, 260]) (n := 122) (sp := []) (o := [0, 20, 0, 1, 1, 1, 0, 0, 0, 1, 1, 1, 0, 1, 1]) (xin_ok rfl) (Or.inr rfl) rfl rfl (by show xN h ≤ 157; omega) (by show xU h ≤ 6079; omega) ?_ (XB_ret ⟨_, _, _, rfl, rfl, rfl⟩ rfl rfl)
  dsimp only
  simp [z0, z1, z2, z3, z4, z5, h0, g1, g2, g3, r0, r1, r2, i0, i1, i2, i3, yI_same, yI_ne, yR_I, vp_in, Op.lookupswitch.offset, yt0, yt1, ym1, ylt, yl2, yl13, yk38, yk60, ylc]

set_option maxRecDepth 100000 in
set_option maxHeartbeats 4000000 in
theorem p1_19_3 (l : Launch) (xs : Nat → Int32) (h : XH) (F : FX h) (h0 : (xs 0 &&& 63).toInt = 19) (g1 : 0 ≤ xs 1) (g2 : xs 1 ≤ 1) (g3 : ¬ xs 1 = 0) : XB l 6 xs 14 540 false 289 157 6079 (fun rs _ => rs = [xi 1]) 23 xlh [] h := by
  have r0 : xR h 2 1 = 3 := F.1 (2, 1, 3) (by decide)
  have r1 : xR h 2 3 = 48 := F.1 (2, 3, 48) (by decide)
  have r2 : xR h 48 0 = 3 := F.1 (48, 0, 3) (by decide)
  have i0 : xI h 3 0 = 0 := F.2.1 (3, 0, 0) (by decide)
  have i1 : xI h 3 5 = 0 := F.2.1 (3, 5, 0) (by decide)
  have i2 : xI h 104 12 = 0 := F.2.1 (104, 12, 0) (by decide)
  have i3 : xI h 104 13 = 0 := F.2.1 (104, 13, 0) (by decide)
  have hN := F.2.2.1
  have hU := F.2.2.2
  refine XB_path (sc := some (6, xs)) (inl := [122, 123, 193, 259, 260]) (n := 120) (sp := []) (o := [0, 20, 0, 1, 1, 1, 1, 0, 0, 1, 1, 1, 1, 1, 1]) (xin_ok rfl) (Or.inr rfl) rfl rfl (by show xN h ≤ 157; omega) (by show xU h ≤ 6079; omega) ?_ (XB_ret ⟨_, _, _, rfl, rfl, rfl⟩ rfl rfl)
  dsimp only
  simp [z0, z1, z2, z3, z4, z5, h0, g1, g2, g3, r0, r1, r2, i0, i1, i2, i3, yI_same, yI_ne, yR_I, vp_in, Op.lookupswitch.offset, yt0, yt1, ym1, ylt, yl2, yl13, yk38, yk60, ylc]

theorem p1_case19 (l : Launch) (xs : Nat → Int32) (h : XH) (F : FX h) (h0 : (xs 0 &&& 63).toInt = 19) : XB l 6 xs 14 540 false 289 157 6079 (fun rs _ => rs = [xi 1]) 23 xlh [] h := by
  by_cases g1 : xs 1 < 0
  · exact p1_19_0 l xs h F h0 g1
  · have g1 := Int32.not_lt.mp g1
    by_cases g2 : 1 < xs 1
    · exact p1_19_1 l xs h F h0 g1 g2
    · have g2 := Int32.not_lt.mp g2
      by_cases g3 : xs 1 = 0
      · exact p1_19_2 l xs h F h0 g1 g2 g3
      · have g3 := id g3
        exact p1_19_3 l xs h F h0 g1 g2 g3

set_option maxRecDepth 100000 in
set_option maxHeartbeats 4000000 in
theorem p1_20_0 (l : Launch) (xs : Nat → Int32) (h : XH) (F : FX h) (h0 : (xs 0 &&& 63).toInt = 20) (g1 : xs 1 < 0) : XB l 6 xs 14 540 false 289 157 6079 (fun rs _ => rs = [xi 1]) 23 xlh [] h := by
  have hN := F.2.2.1
  have hU := F.2.2.2
  refine XB_path (sc := some (6, xs)) (inl := [72, 124, 232, 261]) (n := 85) (sp := []) (o := [0, 21, 1, 1, 1, 1, 1, 1]) (xin_ok rfl) (Or.inr rfl) rfl rfl (by show xN h ≤ 157; omega) (by show xU h ≤ 6079; omega) ?_ (XB_ret ⟨_, _, _, rfl, rfl, rfl⟩ rfl rfl)
  dsimp only
  simp [z0, z1, z2, z3, z4, z5, h0, g1, yI_same, yI_ne, yR_I, vp_in, Op.lookupswitch.offset, yt0, yt1, ym1, ylt, yl2, yl13, yk38, yk60, ylc]

set_option maxRecDepth 100000 in
set_option maxHeartbeats 4000000 in
theorem p1_20_1 (l : Launch) (xs : Nat → Int32) (h : XH) (F : FX h) (h0 : (xs 0 &&& 63).toInt = 20) (g1 : 0 ≤ xs 1) : XB l 6 xs 14 540 false 289 157 6079 (fun rs _ => rs = [xi 1]) 23 xlh [] h := by
  have r0 : xR h 2 1 = 3 := F.1 (2, 1, 3) (by decide)
  have i0 : xI h 3 0 = 0 := F.2.1 (3, 0, 0) (by decide)
  have i1 : xI h 104 12 = 0 := F.2.1 (104, 12, 0) (by decide)
  have hN := F.2.2.1
  have hU := F.2.2.2
  refine XB_path (sc := some (6, xs)) (inl := [72, 124, 232, 261]) (n := 94) (sp := []) (o := [0, 21, 0, 1, 1, 0, 1, 1, 1, 1]) (xin_ok rfl) (Or.inr rfl) rfl rfl (by show xN h ≤ 157; omega) (by show xU h ≤ 6079; omega) ?_ (XB_ret ⟨_, _, _, rfl, rfl, rfl⟩ rfl rfl)
  dsimp only
  simp [z0, z1, z2, z3, z4, z5, h0, g1, r0, i0, i1, yI_same, yI_ne, yR_I, vp_in, Op.lookupswitch.offset, yt0, yt1, ym1, ylt, yl2, yl13, yk38, yk60, ylc]

theorem p1_case20 (l : Launch) (xs : Nat → Int32) (h : XH) (F : FX h) (h0 : (xs 0 &&& 63).toInt = 20) : XB l 6 xs 14 540 false 289 157 6079 (fun rs _ => rs = [xi 1]) 23 xlh [] h := by
  by_cases g1 : xs 1 < 0
  · exact p1_20_0 l xs h F h0 g1
  · have g1 := Int32.not_lt.mp g1
    exact p1_20_1 l xs h F h0 g1

set_option maxRecDepth 100000 in
set_option maxHeartbeats 4000000 in
theorem p1_21_0 (l : Launch) (xs : Nat → Int32) (h : XH) (F : FX h) (h0 : (xs 0 &&& 63).toInt = 21) (g1 : xs 1 < 0) : XB l 6 xs 14 540 false 289 157 6079 (fun rs _ => rs = [xi 1]) 23 xlh [] h := by
  have hN := F.2.2.1
  have hU := F.2.2.2
  refine XB_path (sc := some (6, xs)) (inl := [72, 130, 232, 264]) (n := 75) (sp := []) (o := [0, 22, 1, 1, 1, 1, 1, 1]) (xin_ok rfl) (Or.inr rfl) rfl rfl (by show xN h ≤ 157; omega) (by show xU h ≤ 6079; omega) ?_ (XB_ret ⟨_, _, _, rfl, rfl, rfl⟩ rfl rfl)
  dsimp only
  simp [z0, z1, z2, z3, z4, z5, h0, g1, yI_same, yI_ne, yR_I, vp_in, Op.lookupswitch.offset, yt0, yt1, ym1, ylt, yl2, yl13, yk38, yk60, ylc]

set_option maxRecDepth 100000 in
set_option maxHeartbeats 4000000 in
theorem p1_21_1 (l : Launch) (xs : Nat → Int32) (h : XH) (F : FX h) (h0 : (xs 0 &&& 63).toInt = 21) (g1 : 0 ≤ xs 1) : XB l 6 xs 14 540 false 289 157 6079 (fun rs _ => rs = [xi 1]) 23 xlh [] h := by
  have r0 : xR h 2 1 = 3 := F.1 (2, 1, 3) (by decide)
  have i0 : xI h 3 0 = 0 := F.2.1 (3, 0, 0) (by decide)
  have i1 : xI h 104 12 = 0 := F.2.1 (104, 12, 0) (by decide)
  have hN := F.2.2.1
  have hU := F.2.2.2
  refine XB_path (sc := some (6, xs)) (inl := [72, 130, 232, 264]) (n := 84) (sp := []) (o := [0, 22, 0, 1, 1, 0, 1, 1, 1, 1]) (xin_ok rfl) (Or.inr rfl) rfl rfl (by show xN h ≤ 157; omega) (by show xU h ≤ 6079; omega) ?_ (XB_ret ⟨_, _, _, rfl, rfl, rfl⟩ rfl rfl)
  dsimp only
  simp [z0, z1, z2, z3, z4, z5, h0, g1, r0, i0, i1, yI_same, yI_ne, yR_I, vp_in, Op.lookupswitch.offset, yt0, yt1, ym1, ylt, yl2, yl13, yk38, yk60, ylc]

theorem p1_case21 (l : Launch) (xs : Nat → Int32) (h : XH) (F : FX h) (h0 : (xs 0 &&& 63).toInt = 21) : XB l 6 xs 14 540 false 289 157 6079 (fun rs _ => rs = [xi 1]) 23 xlh [] h := by
  by_cases g1 : xs 1 < 0
  · exact p1_21_0 l xs h F h0 g1
  · have g1 := Int32.not_lt.mp g1
    exact p1_21_1 l xs h F h0 g1

set_option maxRecDepth 100000 in
set_option maxHeartbeats 4000000 in
theorem p1_22_0 (l : Launch) (xs : Nat → Int32) (h : XH) (F : FX h) (h0 : (xs 0 &&& 63).toInt = 22) (g1 : xs 1 < 0) : XB l 6 xs 14 540 false 289 157 6079 (fun rs _ => rs = [xi 1]) 23 xlh [] h := by
  have hN := F.2.2.1
  have hU := F.2.2.2
  refine XB_path (sc := some (6, xs)) (inl := [85, 131, 215, 265]) (n := 65) (sp := []) (o := [0, 23, 1, 0, 1, 0, 1, 1]) (xin_ok rfl) (Or.inr rfl) rfl rfl (by show xN h ≤ 157; omega) (by show xU h ≤ 6079; omega) ?_ (XB_ret ⟨_, _, _, rfl, rfl, rfl⟩ rfl rfl)
  dsimp only
  simp [z0, z1, z2, z3, z4, z5, h0, g1, yI_same, yI_ne, yR_I, vp_in, Op.lookupswitch.offset, yt0, yt1, ym1, ylt, yl2, yl13, yk38, yk60, ylc]

set_option maxRecDepth 100000 in
set_option maxHeartbeats 4000000 in
theorem p1_22_1 (l : Launch) (xs : Nat → Int32) (h : XH) (F : FX h) (h0 : (xs 0 &&& 63).toInt = 22) (g1 : 0 ≤ xs 1) : XB l 6 xs 14 540 false 289 157 6079 (fun rs _ => rs = [xi 1]) 23 xlh [] h := by
  have r0 : xR h 2 1 = 3 := F.1 (2, 1, 3) (by decide)
  have i0 : xI h 3 9 = 0 := F.2.1 (3, 9, 0) (by decide)
  have i1 : xI h 104 14 = 0 := F.2.1 (104, 14, 0) (by decide)
  have hN := F.2.2.1
  have hU := F.2.2.2
  refine XB_path (sc := some (6, xs)) (inl := [85, 131, 215, 265]) (n := 74) (sp := []) (o := [0, 23, 0, 1, 0, 0, 1, 0, 1, 1]) (xin_ok rfl) (Or.inr rfl) rfl rfl (by show xN h ≤ 157; omega) (by show xU h ≤ 6079; omega) ?_ (XB_ret ⟨_, _, _, rfl, rfl, rfl⟩ rfl rfl)
  dsimp only
  simp [z0, z1, z2, z3, z4, z5, h0, g1, r0, i0, i1, yI_same, yI_ne, yR_I, vp_in, Op.lookupswitch.offset, yt0, yt1, ym1, ylt, yl2, yl13, yk38, yk60, ylc]

theorem p1_case22 (l : Launch) (xs : Nat → Int32) (h : XH) (F : FX h) (h0 : (xs 0 &&& 63).toInt = 22) : XB l 6 xs 14 540 false 289 157 6079 (fun rs _ => rs = [xi 1]) 23 xlh [] h := by
  by_cases g1 : xs 1 < 0
  · exact p1_22_0 l xs h F h0 g1
  · have g1 := Int32.not_lt.mp g1
    exact p1_22_1 l xs h F h0 g1

set_option maxRecDepth 100000 in
set_option maxHeartbeats 4000000 in
theorem p1_23_0 (l : Launch) (xs : Nat → Int32) (h : XH) (F : FX h) (h0 : (xs 0 &&& 63).toInt = 23) (g1 : xs 1 < 0) : XB l 6 xs 14 540 false 289 157 6079 (fun rs _ => rs = [xi 1]) 23 xlh [] h := by
  have i0 : xI h 104 15 = 0 := F.2.1 (104, 15, 0) (by decide)
  have hN := F.2.2.1
  have hU := F.2.2.2
  refine XB_path (sc := some (6, xs)) (inl := [138, 193, 267]) (n := 74) (sp := []) (o := [0, 24, 1, 1, 1, 1, 1]) (xin_ok rfl) (Or.inr rfl) rfl rfl (by show xN h ≤ 157; omega) (by show xU h ≤ 6079; omega) ?_ (XB_ret ⟨_, _, _, rfl, rfl, rfl⟩ rfl rfl)
  dsimp only
  simp [z0, z1, z2, z3, z4, z5, h0, g1, i0, yI_same, yI_ne, yR_I, vp_in, Op.lookupswitch.offset, yt0, yt1, ym1, ylt, yl2, yl13, yk38, yk60, ylc]

set_option maxRecDepth 100000 in
set_option maxHeartbeats 4000000 in
theorem p1_23_1 (l : Launch) (xs : Nat → Int32) (h : XH) (F : FX h) (h0 : (xs 0 &&& 63).toInt = 23) (g1 : 0 ≤ xs 1) : XB l 6 xs 14 540 false 289 157 6079 (fun rs _ => rs = [xi 1]) 23 xlh [] h := by
  have r0 : xR h 2 1 = 3 := F.1 (2, 1, 3) (by decide)
  have i0 : xI h 3 14 = 0 := F.2.1 (3, 14, 0) (by decide)
  have i1 : xI h 104 15 = 0 := F.2.1 (104, 15, 0) (by decide)
  have hN := F.2.2.1
  have hU := F.2.2.2
  refine XB_path (sc := some (6, xs)) (inl := [138, 193, 267]) (n := 82) (sp := []) (o := [0, 24, 0, 0, 0, 1, 1, 1, 1]) (xin_ok rfl) (Or.inr rfl) rfl rfl (by show xN h ≤ 157; omega) (by show xU h ≤ 6079; omega) ?_ (XB_ret ⟨_, _, _, rfl, rfl, rfl⟩ rfl rfl)
  dsimp only
  simp [z0, z1, z2, z3, z4, z5, h0, g1, r0, i0, i1, yI_same, yI_ne, yR_I, vp_in, Op.lookupswitch.offset, yt0, yt1, ym1, ylt, yl2, yl13, yk38, yk60, ylc]

theorem p1_case23 (l : Launch) (xs : Nat → Int32) (h : XH) (F : FX h) (h0 : (xs 0 &&& 63).toInt = 23) : XB l 6 xs 14 540 false 289 157 6079 (fun rs _ => rs = [xi 1]) 23 xlh [] h := by
  by_cases g1 : xs 1 < 0
  · exact p1_23_0 l xs h F h0 g1
  · have g1 := Int32.not_lt.mp g1
    exact p1_23_1 l xs h F h0 g1

set_option maxRecDepth 100000 in
set_option maxHeartbeats 4000000 in
theorem p1_24_0 (l : Launch) (xs : Nat → Int32) (h : XH) (F : FX h) (h0 : (xs 0 &&& 63).toInt = 24) (g1 : xs 1 < 0) : XB l 6 xs 14 540 false 289 157 6079 (fun rs _ => rs = [xi 1]) 23 xlh [] h := by
  have hN := F.2.2.1
  have hU := F.2.2.2
  refine XB_path (sc := some (6, xs)) (inl := [85, 140, 141, 215, 268, 269]) (n := 89) (sp := []) (o := [0, 25, 1, 1, 0, 1, 1, 1, 1, 1]) (xin_ok rfl) (Or.inr rfl) rfl rfl (by show xN h ≤ 157; omega) (by show xU h ≤ 6079; omega) ?_ (XB_ret ⟨_, _, _, rfl, rfl, rfl⟩ rfl rfl)
  dsimp only
  simp [z0, z1, z2, z3, z4, z5, h0, g1, yI_same, yI_ne, yR_I, vp_in, Op.lookupswitch.offset, yt0, yt1, ym1, ylt, yl2, yl13, yk38, yk60, ylc]

set_option maxRecDepth 100000 in
set_option maxHeartbeats 4000000 in
theorem p1_24_1 (l : Launch) (xs : Nat → Int32) (h : XH) (F : FX h) (h0 : (xs 0 &&& 63).toInt = 24) (g1 : 0 ≤ xs 1) : XB l 6 xs 14 540 false 289 157 6079 (fun rs _ => rs = [xi 1]) 23 xlh [] h := by
  have r0 : xR h 2 1 = 3 := F.1 (2, 1, 3) (by decide)
  have i0 : xI h 3 9 = 0 := F.2.1 (3, 9, 0) (by decide)
  have i1 : xI h 104 14 = 0 := F.2.1 (104, 14, 0) (by decide)
  have hN := F.2.2.1
  have hU := F.2.2.2
  refine XB_path (sc := some (6, xs)) (inl := [85, 140, 141, 215, 268, 269]) (n := 98) (sp := []) (o := [0, 25, 0, 1, 1, 0, 0, 1, 1, 1, 1, 1]) (xin_ok rfl) (Or.inr rfl) rfl rfl (by show xN h ≤ 157; omega) (by show xU h ≤ 6079; omega) ?_ (XB_ret ⟨_, _, _, rfl, rfl, rfl⟩ rfl rfl)
  dsimp only
  simp [z0, z1, z2, z3, z4, z5, h0, g1, r0, i0, i1, yI_same, yI_ne, yR_I, vp_in, Op.lookupswitch.offset, yt0, yt1, ym1, ylt, yl2, yl13, yk38, yk60, ylc]

theorem p1_case24 (l : Launch) (xs : Nat → Int32) (h : XH) (F : FX h) (h0 : (xs 0 &&& 63).toInt = 24) : XB l 6 xs 14 540 false 289 157 6079 (fun rs _ => rs = [xi 1]) 23 xlh [] h := by
  by_cases g1 : xs 1 < 0
  · exact p1_24_0 l xs h F h0 g1
  · have g1 := Int32.not_lt.mp g1
    exact p1_24_1 l xs h F h0 g1

set_option maxRecDepth 100000 in
set_option maxHeartbeats 4000000 in
theorem p1_25_0 (l : Launch) (xs : Nat → Int32) (h : XH) (F : FX h) (h0 : (xs 0 &&& 63).toInt = 25) (g1 : xs 1 < 0) : XB l 6 xs 14 540 false 289 157 6079 (fun rs _ => rs = [xi 1]) 23 xlh [] h := by
  have hN := F.2.2.1
  have hU := F.2.2.2
  refine XB_path (sc := some (6, xs)) (inl := [85, 141, 144, 215, 269, 271]) (n := 99) (sp := []) (o := [0, 26, 1, 1, 1, 1, 1, 1, 1, 1]) (xin_ok rfl) (Or.inr rfl) rfl rfl (by show xN h ≤ 157; omega) (by show xU h ≤ 6079; omega) ?_ (XB_ret ⟨_, _, _, rfl, rfl, rfl⟩ rfl rfl)
  dsimp only
  simp [z0, z1, z2, z3, z4, z5, h0, g1, yI_same, yI_ne, yR_I, vp_in, Op.lookupswitch.offset, yt0, yt1, ym1, ylt, yl2, yl13, yk38, yk60, ylc]

set_option maxRecDepth 100000 in
set_option maxHeartbeats 4000000 in
theorem p1_25_1 (l : Launch) (xs : Nat → Int32) (h : XH) (F : FX h) (h0 : (xs 0 &&& 63).toInt = 25) (g1 : 0 ≤ xs 1) : XB l 6 xs 14 540 false 289 157 6079 (fun rs _ => rs = [xi 1]) 23 xlh [] h := by
  have r0 : xR h 2 1 = 3 := F.1 (2, 1, 3) (by decide)
  have i0 : xI h 3 9 = 0 := F.2.1 (3, 9, 0) (by decide)
  have i1 : xI h 104 14 = 0 := F.2.1 (104, 14, 0) (by decide)
  have hN := F.2.2.1
  have hU := F.2.2.2
  refine XB_path (sc := some (6, xs)) (inl := [85, 141, 144, 215, 269, 271]) (n := 108) (sp := []) (o := [0, 26, 0, 1, 1, 1, 0, 1, 1, 1, 1, 1]) (xin_ok rfl) (Or.inr rfl) rfl rfl (by show xN h ≤ 157; omega) (by show xU h ≤ 6079; omega) ?_ (XB_ret ⟨_, _, _, rfl, rfl, rfl⟩ rfl rfl)
  dsimp only
  simp [z0, z1, z2, z3, z4, z5, h0, g1, r0, i0, i1, yI_same, yI_ne, yR_I, vp_in, Op.lookupswitch.offset, yt0, yt1, ym1, ylt, yl2, yl13, yk38, yk60, ylc]

theorem p1_case25 (l : Launch) (xs : Nat → Int32) (h : XH) (F : FX h) (h0 : (xs 0 &&& 63).toInt = 25) : XB l 6 xs 14 540 false 289 157 6079 (fun rs _ => rs = [xi 1]) 23 xlh [] h := by
  by_cases g1 : xs 1 < 0
  · exact p1_25_0 l xs h F h0 g1
  · have g1 := Int32.not_lt.mp g1
    exact p1_25_1 l xs h F h0 g1

set_option maxRecDepth 100000 in
set_option maxHeartbeats 4000000 in
theorem p1_26_0 (l : Launch) (xs : Nat → Int32) (h : XH) (F : FX h) (h0 : (xs 0 &&& 63).toInt = 26) (g1 : xs 4 = 0) (g2 : xs 1 < 1) : XB l 6 xs 14 540 false 289 157 6079 (fun rs _ => rs = [xi 1]) 23 xlh [] h := by
  have i0 : xI h 104 72 = 0 := F.2.1 (104, 72, 0) (by decide)
  have hN := F.2.2.1
  have hU := F.2.2.2
  refine XB_path (sc := some (6, xs)) (inl := [145, 193, 272]) (n := 101) (sp := []) (o := [0, 27, 1, 1, 1, 0, 1, 1, 1, 1]) (xin_ok rfl) (Or.inr rfl) rfl rfl (by show xN h ≤ 157; omega) (by show xU h ≤ 6079; omega) ?_ (XB_ret ⟨_, _, _, rfl, rfl, rfl⟩ rfl rfl)
  dsimp only
  simp [z0, z1, z2, z3, z4, z5, h0, g1, g2, i0, yI_same, yI_ne, yR_I, vp_in, Op.lookupswitch.offset, yt0, yt1, ym1, ylt, yl2, yl13, yk38, yk60, ylc]

set_option maxRecDepth 100000 in
set_option maxHeartbeats 4000000 in
theorem p1_26_1 (l : Launch) (xs : Nat → Int32) (h : XH) (F : FX h) (h0 : (xs 0 &&& 63).toInt = 26) (g1 : xs 4 = 0) (g2 : 1 ≤ xs 1) (g3 : 30 < xs 1) : XB l 6 xs 14 540 false 289 157 6079 (fun rs _ => rs = [xi 1]) 23 xlh [] h := by
  have i0 : xI h 104 72 = 0 := F.2.1 (104, 72, 0) (by decide)
  have hN := F.2.2.1
  have hU := F.2.2.2
  refine XB_path (sc := some (6, xs)) (inl := [145, 193, 272]) (n := 107) (sp := []) (o := [0, 27, 1, 0, 1, 1, 0, 0, 1, 1, 1, 1]) (xin_ok rfl) (Or.inr rfl) rfl rfl (by show xN h ≤ 157; omega) (by show xU h ≤ 6079; omega) ?_ (XB_ret ⟨_, _, _, rfl, rfl, rfl⟩ rfl rfl)
  dsimp only
  simp [z0, z1, z2, z3, z4, z5, h0, g1, g2, g3, i0, yI_same, yI_ne, yR_I, vp_in, Op.lookupswitch.offset, yt0, yt1, ym1, ylt, yl2, yl13, yk38, yk60, ylc]

set_option maxRecDepth 100000 in
set_option maxHeartbeats 4000000 in
theorem p1_26_2 (l : Launch) (xs : Nat → Int32) (h : XH) (F : FX h) (h0 : (xs 0 &&& 63).toInt = 26) (g1 : xs 4 = 0) (g2 : 1 ≤ xs 1) (g3 : xs 1 ≤ 30) (g4 : xs 2 < 0) : XB l 6 xs 14 540 false 289 157 6079 (fun rs _ => rs = [xi 1]) 23 xlh [] h := by
  have i0 : xI h 104 72 = 0 := F.2.1 (104, 72, 0) (by decide)
  have hN := F.2.2.1
  have hU := F.2.2.2
  refine XB_path (sc := some (6, xs)) (inl := [72, 145, 193, 232, 272]) (n := 124) (sp := []) (o := [0, 27, 1, 0, 0, 1, 1, 1, 0, 0, 0, 0, 1, 1, 1, 1]) (xin_ok rfl) (Or.inr rfl) rfl rfl (by show xN h ≤ 157; omega) (by show xU h ≤ 6079; omega) ?_ (XB_ret ⟨_, _, _, rfl, rfl, rfl⟩ rfl rfl)
  dsimp only
  simp [z0, z1, z2, z3, z4, z5, h0, g1, g2, g3, g4, i0, yI_same, yI_ne, yR_I, vp_in, Op.lookupswitch.offset, yt0, yt1, ym1, ylt, yl2, yl13, yk38, yk60, ylc]

set_option maxRecDepth 100000 in
set_option maxHeartbeats 4000000 in
theorem p1_26_3 (l : Launch) (xs : Nat → Int32) (h : XH) (F : FX h) (h0 : (xs 0 &&& 63).toInt = 26) (g1 : xs 4 = 0) (g2 : 1 ≤ xs 1) (g3 : xs 1 ≤ 30) (g4 : 0 ≤ xs 2) : XB l 6 xs 14 540 false 289 157 6079 (fun rs _ => rs = [xi 1]) 23 xlh [] h := by
  have r0 : xR h 2 1 = 3 := F.1 (2, 1, 3) (by decide)
  have i0 : xI h 3 0 = 0 := F.2.1 (3, 0, 0) (by decide)
  have i1 : xI h 104 12 = 0 := F.2.1 (104, 12, 0) (by decide)
  have i2 : xI h 104 72 = 0 := F.2.1 (104, 72, 0) (by decide)
  have hN := F.2.2.1
  have hU := F.2.2.2
  refine XB_path (sc := some (6, xs)) (inl := [72, 145, 193, 232, 272]) (n := 133) (sp := []) (o := [0, 27, 1, 0, 0, 0, 1, 1, 1, 0, 0, 0, 0, 0, 1, 1, 1, 1]) (xin_ok rfl) (Or.inr rfl) rfl rfl (by show xN h ≤ 157; omega) (by show xU h ≤ 6079; omega) ?_ (XB_ret ⟨_, _, _, rfl, rfl, rfl⟩ rfl rfl)
  dsimp only
  simp [z0, z1, z2, z3, z4, z5, h0, g1, g2, g3, g4, r0, i0, i1, i2, yI_same, yI_ne, yR_I, vp_in, Op.lookupswitch.offset, yt0, yt1, ym1, ylt, yl2, yl13, yk38, yk60, ylc]

set_option maxRecDepth 100000 in
set_option maxHeartbeats 4000000 in
theorem p1_26_4 (l : Launch) (xs : Nat → Int32) (h : XH) (F : FX h) (h0 : (xs 0 &&& 63).toInt = 26) (g1 : ¬ xs 4 = 0) (g2 : xs 1 < 1) : XB l 6 xs 14 540 false 289 157 6079 (fun rs _ => rs = [xi 1]) 23 xlh [] h := by
  have i0 : xI h 104 72 = 0 := F.2.1 (104, 72, 0) (by decide)
  have hN := F.2.2.1
  have hU := F.2.2.2
  refine XB_path (sc := some (6, xs)) (inl := [145, 193, 272]) (n := 103) (sp := []) (o := [0, 27, 0, 1, 0, 0, 1, 1, 1, 1]) (xin_ok rfl) (Or.inr rfl) rfl rfl (by show xN h ≤ 157; omega) (by show xU h ≤ 6079; omega) ?_ (XB_ret ⟨_, _, _, rfl, rfl, rfl⟩ rfl rfl)
  dsimp only
  simp [z0, z1, z2, z3, z4, z5, h0, g1, g2, i0, yI_same, yI_ne, yR_I, vp_in, Op.lookupswitch.offset, yt0, yt1, ym1, ylt, yl2, yl13, yk38, yk60, ylc]

set_option maxRecDepth 100000 in
set_option maxHeartbeats 4000000 in
theorem p1_26_5 (l : Launch) (xs : Nat → Int32) (h : XH) (F : FX h) (h0 : (xs 0 &&& 63).toInt = 26) (g1 : ¬ xs 4 = 0) (g2 : 1 ≤ xs 1) (g3 : 30 < xs 1) : XB l 6 xs 14 540 false 289 157 6079 (fun rs _ => rs = [xi 1]) 23 xlh [] h := by
  have i0 : xI h 104 72 = 0 := F.2.1 (104, 72, 0) (by decide)
  have hN := F.2.2.1
  have hU := F.2.2.2
  refine XB_path (sc := some (6, xs)) (inl := [145, 193, 272]) (n := 109) (sp := []) (o := [0, 27, 0, 0, 1, 0, 0, 0, 1, 1, 1, 1]) (xin_ok rfl) (Or.inr rfl) rfl rfl (by show xN h ≤ 157; omega) (by show xU h ≤ 6079; omega) ?_ (XB_ret ⟨_, _, _, rfl, rfl, rfl⟩ rfl rfl)
  dsimp only
  simp [z0, z1, z2, z3, z4, z5, h0, g1, g2, g3, i0, yI_same, yI_ne, yR_I, vp_in, Op.lookupswitch.offset, yt0, yt1, ym1, ylt, yl2, yl13, yk38, yk60, ylc]

set_option maxRecDepth 100000 in
set_option maxHeartbeats 4000000 in
theorem p1_26_6 (l : Launch) (xs : Nat → Int32) (h : XH) (F : FX h) (h0 : (xs 0 &&& 63).toInt = 26) (g1 : ¬ xs 4 = 0) (g2 : 1 ≤ xs 1) (g3 : xs 1 ≤ 30) (g4 : xs 2 < 0) : XB l 6 xs 14 540 false 289 157 6079 (fun rs _ => rs = [xi 1]) 23 xlh [] h := by
  have i0 : xI h 104 72 = 0 := F.2.1 (104, 72, 0) (by decide)
  have hN := F.2.2.1
  have hU := F.2.2.2
  refine XB_path (sc := some (6, xs)) (inl := [72, 145, 193, 232, 272]) (n := 126) (sp := []) (o := [0, 27, 0, 0, 0, 1, 1, 0, 0, 0, 0, 0, 1, 1, 1, 1]) (xin_ok rfl) (Or.inr rfl) rfl rfl (by show xN h ≤ 157; omega) (by show xU h ≤ 6079; omega) ?_ (XB_ret ⟨_, _, _, rfl, rfl, rfl⟩ rfl rfl)
  dsimp only
  simp [z0, z1, z2, z3, z4, z5, h0, g1, g2, g3, g4, i0, yI_same, yI_ne, yR_I, vp_in, Op.lookupswitch.offset, yt0, yt1, ym1, ylt, yl2, yl13, yk38, yk60, ylc]

set_option maxRecDepth 100000 in
set_option maxHeartbeats 4000000 in
theorem p1_26_7 (l : Launch) (xs : Nat → Int32) (h : XH) (F : FX h) (h0 : (xs 0 &&& 63).toInt = 26) (g1 : ¬ xs 4 = 0) (g2 : 1 ≤ xs 1) (g3 : xs 1 ≤ 30) (g4 : 0 ≤ xs 2) : XB l 6 xs 14 540 false 289 157 6079 (fun rs _ => rs = [xi 1]) 23 xlh [] h := by
  have r0 : xR h 2 1 = 3 := F.1 (2, 1, 3) (by decide)
  have i0 : xI h 3 0 = 0 := F.2.1 (3, 0, 0) (by decide)
  have i1 : xI h 104 12 = 0 := F.2.1 (104, 12, 0) (by decide)
  have i2 : xI h 104 72 = 0 := F.2.1 (104, 72, 0) (by decide)
  have hN := F.2.2.1
  have hU := F.2.2.2
  refine XB_path (sc := some (6, xs)) (inl := [72, 145, 193, 232, 272]) (n := 135) (sp := []) (o := [0, 27, 0, 0, 0, 0, 1, 1, 0, 0, 0, 0, 0, 0, 1, 1, 1, 1]) (xin_ok rfl) (Or.inr rfl) rfl rfl (by show xN h ≤ 157; omega) (by show xU h ≤ 6079; omega) ?_ (XB_ret ⟨_, _, _, rfl, rfl, rfl⟩ rfl rfl)
  dsimp only
  simp [z0, z1, z2, z3, z4, z5, h0, g1, g2, g3, g4, r0, i0, i1, i2, yI_same, yI_ne, yR_I, vp_in, Op.lookupswitch.offset, yt0, yt1, ym1, ylt, yl2, yl13, yk38, yk60, ylc]

theorem p1_case26 (l : Launch) (xs : Nat → Int32) (h : XH) (F : FX h) (h0 : (xs 0 &&& 63).toInt = 26) : XB l 6 xs 14 540 false 289 157 6079 (fun rs _ => rs = [xi 1]) 23 xlh [] h := by
  by_cases g1 : xs 4 = 0
  · by_cases g2 : xs 1 < 1
    · exact p1_26_0 l xs h F h0 g1 g2
    · have g2 := Int32.not_lt.mp g2
      by_cases g3 : 30 < xs 1
      · exact p1_26_1 l xs h F h0 g1 g2 g3
      · have g3 := Int32.not_lt.mp g3
        by_cases g4 : xs 2 < 0
        · exact p1_26_2 l xs h F h0 g1 g2 g3 g4
        · have g4 := Int32.not_lt.mp g4
          exact p1_26_3 l xs h F h0 g1 g2 g3 g4
  · have g1 := id g1
    by_cases g2 : xs 1 < 1
    · exact p1_26_4 l xs h F h0 g1 g2
    · have g2 := Int32.not_lt.mp g2
      by_cases g3 : 30 < xs 1
      · exact p1_26_5 l xs h F h0 g1 g2 g3
      · have g3 := Int32.not_lt.mp g3
        by_cases g4 : xs 2 < 0
        · exact p1_26_6 l xs h F h0 g1 g2 g3 g4
        · have g4 := Int32.not_lt.mp g4
          exact p1_26_7 l xs h F h0 g1 g2 g3 g4

set_option maxRecDepth 100000 in
set_option maxHeartbeats 4000000 in
theorem p1_27_0 (l : Launch) (xs : Nat → Int32) (h : XH) (F : FX h) (h0 : (xs 0 &&& 63).toInt = 27) (g1 : xs 1 < 0) : XB l 6 xs 14 540 false 289 157 6079 (fun rs _ => rs = [xi 1]) 23 xlh [] h := by
  have i0 : xI h 104 72 = 0 := F.2.1 (104, 72, 0) (by decide)
  have hN := F.2.2.1
  have hU := F.2.2.2
  refine XB_path (sc := some (6, xs)) (inl := [147, 274]) (n := 58) (sp := []) (o := [0, 28, 1, 0, 1, 1, 1]) (xin_ok rfl) (Or.inr rfl) rfl rfl (by show xN h ≤ 157; omega) (by show xU h ≤ 6079; omega) ?_ (XB_ret ⟨_, _, _, rfl, rfl, rfl⟩ rfl rfl)
  dsimp only
  simp [z0, z1, z2, z3, z4, z5, h0, g1, i0, yI_same, yI_ne, yR_I, vp_in, Op.lookupswitch.offset, yt0, yt1, ym1, ylt, yl2, yl13, yk38, yk60, ylc]

set_option maxRecDepth 100000 in
set_option maxHeartbeats 4000000 in
theorem p1_27_1 (l : Launch) (xs : Nat → Int32) (h : XH) (F : FX h) (h0 : (xs 0 &&& 63).toInt = 27) (g1 : 0 ≤ xs 1) : XB l 6 xs 14 540 false 289 157 6079 (fun rs _ => rs = [xi 1]) 23 xlh [] h := by
  have r0 : xR h 2 8 = 85 := F.1 (2, 8, 85) (by decide)
  have i0 : xI h 85 0 = 0 := F.2.1 (85, 0, 0) (by decide)
  have i1 : xI h 104 72 = 0 := F.2.1 (104, 72, 0) (by decide)
  have hN := F.2.2.1
  have hU := F.2.2.2
  refine XB_path (sc := some (6, xs)) (inl := [147, 274]) (n := 67) (sp := []) (o := [0, 28, 0, 0, 0, 0, 0, 1, 1]) (xin_ok rfl) (Or.inr rfl) rfl rfl (by show xN h ≤ 157; omega) (by show xU h ≤ 6079; omega) ?_ (XB_ret ⟨_, _, _, rfl, rfl, rfl⟩ rfl rfl)
  dsimp only
  simp [z0, z1, z2, z3, z4, z5, h0, g1, r0, i0, i1, yI_same, yI_ne, yR_I, vp_in, Op.lookupswitch.offset, yt0, yt1, ym1, ylt, yl2, yl13, yk38, yk60, ylc]

theorem p1_case27 (l : Launch) (xs : Nat → Int32) (h : XH) (F : FX h) (h0 : (xs 0 &&& 63).toInt = 27) : XB l 6 xs 14 540 false 289 157 6079 (fun rs _ => rs = [xi 1]) 23 xlh [] h := by
  by_cases g1 : xs 1 < 0
  · exact p1_27_0 l xs h F h0 g1
  · have g1 := Int32.not_lt.mp g1
    exact p1_27_1 l xs h F h0 g1

set_option maxRecDepth 100000 in
set_option maxHeartbeats 4000000 in
theorem p1_28_0 (l : Launch) (xs : Nat → Int32) (h : XH) (F : FX h) (h0 : (xs 0 &&& 63).toInt = 28) (g1 : xs 1 < (-1)) : XB l 6 xs 14 540 false 289 157 6079 (fun rs _ => rs = [xi 1]) 23 xlh [] h := by
  have i0 : xI h 104 72 = 0 := F.2.1 (104, 72, 0) (by decide)
  have hN := F.2.2.1
  have hU := F.2.2.2
  refine XB_path (sc := some (6, xs)) (inl := [148, 193, 275]) (n := 63) (sp := []) (o := [0, 29, 1, 1, 0, 1, 1]) (xin_ok rfl) (Or.inr rfl) rfl rfl (by show xN h ≤ 157; omega) (by show xU h ≤ 6079; omega) ?_ (XB_ret ⟨_, _, _, rfl, rfl, rfl⟩ rfl rfl)
  dsimp only
  simp [z0, z1, z2, z3, z4, z5, h0, g1, i0, yI_same, yI_ne, yR_I, vp_in, Op.lookupswitch.offset, yt0, yt1, ym1, ylt, yl2, yl13, yk38, yk60, ylc]

set_option maxRecDepth 100000 in
set_option maxHeartbeats 4000000 in
theorem p1_28_1 (l : Launch) (xs : Nat → Int32) (h : XH) (F : FX h) (h0 : (xs 0 &&& 63).toInt = 28) (g1 : (-1) ≤ xs 1) (g2 : 0 < xs 1) : XB l 6 xs 14 540 false 289 157 6079 (fun rs _ => rs = [xi 1]) 23 xlh [] h := by
  have r0 : xR h 2 8 = 85 := F.1 (2, 8, 85) (by decide)
  have i0 : xI h 85 0 = 0 := F.2.1 (85, 0, 0) (by decide)
  have i1 : xI h 104 72 = 0 := F.2.1 (104, 72, 0) (by decide)
  have hN := F.2.2.1
  have hU := F.2.2.2
  refine XB_path (sc := some (6, xs)) (inl := [148, 193, 275]) (n := 71) (sp := []) (o := [0, 29, 0, 0, 0, 1, 0, 1, 1]) (xin_ok rfl) (Or.inr rfl) rfl rfl (by show xN h ≤ 157; omega) (by show xU h ≤ 6079; omega) ?_ (XB_ret ⟨_, _, _, rfl, rfl, rfl⟩ rfl rfl)
  dsimp only
  simp [z0, z1, z2, z3, z4, z5, h0, g1, g2, r0, i0, i1, yI_same, yI_ne, yR_I, vp_in, Op.lookupswitch.offset, yt0, yt1, ym1, ylt, yl2, yl13, yk38, yk60, ylc]

set_option maxRecDepth 100000 in
set_option maxHeartbeats 4000000 in
theorem p1_28_2 (l : Launch) (xs : Nat → Int32) (h : XH) (F : FX h) (h0 : (xs 0 &&& 63).toInt = 28) (g1 : (-1) ≤ xs 1) (g2 : xs 1 ≤ 0) (g3 : xs 1 = 0) : XB l 6 xs 14 540 false 289 157 6079 (fun rs _ => rs = [xi 1]) 23 xlh [] h := by
  have r0 : xR h 2 8 = 85 := F.1 (2, 8, 85) (by decide)
  have i0 : xI h 85 0 = 0 := F.2.1 (85, 0, 0) (by decide)
  have i1 : xI h 104 72 = 0 := F.2.1 (104, 72, 0) (by decide)
  have hN := F.2.2.1
  have hU := F.2.2.2
  refine XB_path (sc := some (6, xs)) (inl := [148, 193, 275]) (n := 79) (sp := []) (o := [0, 29, 0, 1, 0, 0, 1, 1, 1]) (xin_ok rfl) (Or.inr rfl) rfl rfl (by show xN h ≤ 157; omega) (by show xU h ≤ 6079; omega) ?_ (XB_ret ⟨_, _, _, rfl, rfl, rfl⟩ rfl rfl)
  dsimp only
  simp [z0, z1, z2, z3, z4, z5, h0, g1, g2, g3, r0, i0, i1, yI_same, yI_ne, yR_I, vp_in, Op.lookupswitch.offset, yt0, yt1, ym1, ylt, yl2, yl13, yk38, yk60, ylc]

set_option maxRecDepth 100000 in
set_option maxHeartbeats 4000000 in
theorem p1_28_3 (l : Launch) (xs : Nat → Int32) (h : XH) (F : FX h) (h0 : (xs 0 &&& 63).toInt = 28) (g1 : (-1) ≤ xs 1) (g2 : xs 1 ≤ 0) (g3 : ¬ xs 1 = 0) : XB l 6 xs 14 540 false 289 157 6079 (fun rs _ => rs = [xi 1]) 23 xlh [] h := by
  have r0 : xR h 2 8 = 85 := F.1 (2, 8, 85) (by decide)
  have i0 : xI h 85 0 = 0 := F.2.1 (85, 0, 0) (by decide)
  have i1 : xI h 104 72 = 0 := F.2.1 (104, 72, 0) (by decide)
  have hN := F.2.2.1
  have hU := F.2.2.2
  refine XB_path (sc := some (6, xs)) (inl := [148, 193, 275]) (n := 79) (sp := []) (o := [0, 29, 0, 1, 0, 0, 1, 1, 1]) (xin_ok rfl) (Or.inr rfl) rfl rfl (by show xN h ≤ 157; omega) (by show xU h ≤ 6079; omega) ?_ (XB_ret ⟨_, _, _, rfl, rfl, rfl⟩ rfl rfl)
  dsimp only
  simp [z0, z1, z2, z3, z4, z5, h0, g1, g2, g3, r0, i0, i1, yI_same, yI_ne, yR_I, vp_in, Op.lookupswitch.offset, yt0, yt1, ym1, ylt, yl2, yl13, yk38, yk60, ylc]

theorem p1_case28 (l : Launch) (xs : Nat → Int32) (h : XH) (F : FX h) (h0 : (xs 0 &&& 63).toInt = 28) : XB l 6 xs 14 540 false 289 157 6079 (fun rs _ => rs = [xi 1]) 23 xlh [] h := by
  by_cases g1 : xs 1 < (-1)
  · exact p1_28_0 l xs h F h0 g1
  · have g1 := Int32.not_lt.mp g1
    by_cases g2 : 0 < xs 1
    · exact p1_28_1 l xs h F h0 g1 g2
    · have g2 := Int32.not_lt.mp g2
      by_cases g3 : xs 1 = 0
      · exact p1_28_2 l xs h F h0 g1 g2 g3
      · have g3 := id g3
        exact p1_28_3 l xs h F h0 g1 g2 g3

set_option maxRecDepth 100000 in
set_option maxHeartbeats 4000000 in
theorem p1_29_0 (l : Launch) (xs : Nat → Int32) (h : XH) (F : FX h) (h0 : (xs 0 &&& 63).toInt = 29) (g1 : xs 1 < 0) : XB l 6 xs 14 540 false 289 157 6079 (fun rs _ => rs = [xi 1]) 23 xlh [] h := by
  have hN := F.2.2.1
  have hU := F.2.2.2
  refine XB_path (sc := some (6, xs)) (inl := [72, 149, 232, 276]) (n := 65) (sp := []) (o := [0, 30, 1, 0, 1, 0, 1, 1]) (xin_ok rfl) (Or.inr rfl) rfl rfl (by show xN h ≤ 157; omega) (by show xU h ≤ 6079; omega) ?_ (XB_ret ⟨_, _, _, rfl, rfl, rfl⟩ rfl rfl)
  dsimp only
  simp [z0, z1, z2, z3, z4, z5, h0, g1, yI_same, yI_ne, yR_I, vp_in, Op.lookupswitch.offset, yt0, yt1, ym1, ylt, yl2, yl13, yk38, yk60, ylc]

set_option maxRecDepth 100000 in
set_option maxHeartbeats 4000000 in
theorem p1_29_1 (l : Launch) (xs : Nat → Int32) (h : XH) (F : FX h) (h0 : (xs 0 &&& 63).toInt = 29) (g1 : 0 ≤ xs 1) : XB l 6 xs 14 540 false 289 157 6079 (fun rs _ => rs = [xi 1]) 23 xlh [] h := by
  have r0 : xR h 2 1 = 3 := F.1 (2, 1, 3) (by decide)
  have i0 : xI h 3 0 = 0 := F.2.1 (3, 0, 0) (by decide)
  have i1 : xI h 104 12 = 0 := F.2.1 (104, 12, 0) (by decide)
  have hN := F.2.2.1
  have hU := F.2.2.2
  refine XB_path (sc := some (6, xs)) (inl := [72, 149, 232, 276]) (n := 74) (sp := []) (o := [0, 30, 0, 1, 0, 0, 1, 0, 1, 1]) (xin_ok rfl) (Or.inr rfl) rfl rfl (by show xN h ≤ 157; omega) (by show xU h ≤ 6079; omega) ?_ (XB_ret ⟨_, _, _, rfl, rfl, rfl⟩ rfl rfl)
  dsimp only
  simp [z0, z1, z2, z3, z4, z5, h0, g1, r0, i0, i1, yI_same, yI_ne, yR_I, vp_in, Op.lookupswitch.offset, yt0, yt1, ym1, ylt, yl2, yl13, yk38, yk60, ylc]

theorem p1_case29 (l : Launch) (xs : Nat → Int32) (h : XH) (F : FX h) (h0 : (xs 0 &&& 63).toInt = 29) : XB l 6 xs 14 540 false 289 157 6079 (fun rs _ => rs = [xi 1]) 23 xlh [] h := by
  by_cases g1 : xs 1 < 0
  · exact p1_29_0 l xs h F h0 g1
  · have g1 := Int32.not_lt.mp g1
    exact p1_29_1 l xs h F h0 g1

set_option maxRecDepth 100000 in
set_option maxHeartbeats 4000000 in
theorem p1_30_0 (l : Launch) (xs : Nat → Int32) (h : XH) (F : FX h) (h0 : (xs 0 &&& 63).toInt = 30) (g1 : xs 1 < 0) : XB l 6 xs 14 540 false 289 157 6079 (fun rs _ => rs = [xi 1]) 23 xlh [] h := by
  have hN := F.2.2.1
  have hU := F.2.2.2
  refine XB_path (sc := some (6, xs)) (inl := [156, 280]) (n := 83) (sp := []) (o := [0, 31, 1, 1, 1, 1]) (xin_ok rfl) (Or.inr rfl) rfl rfl (by show xN h ≤ 157; omega) (by show xU h ≤ 6079; omega) ?_ (XB_ret ⟨_, _, _, rfl, rfl, rfl⟩ rfl rfl)
  dsimp only
  simp [z0, z1, z2, z3, z4, z5, h0, g1, yI_same, yI_ne, yR_I, vp_in, Op.lookupswitch.offset, yt0, yt1, ym1, ylt, yl2, yl13, yk38, yk60, ylc]

set_option maxRecDepth 100000 in
set_option maxHeartbeats 4000000 in
theorem p1_30_1 (l : Launch) (xs : Nat → Int32) (h : XH) (F : FX h) (h0 : (xs 0 &&& 63).toInt = 30) (g1 : 0 ≤ xs 1) (g2 : xs 2 < 1) : XB l 6 xs 14 540 false 289 157 6079 (fun rs _ => rs = [xi 1]) 23 xlh [] h := by
  have hN := F.2.2.1
  have hU := F.2.2.2
  refine XB_path (sc := some (6, xs)) (inl := [156, 193, 280]) (n := 96) (sp := []) (o := [0, 31, 0, 1, 0, 1, 1, 1, 1]) (xin_ok rfl) (Or.inr rfl) rfl rfl (by show xN h ≤ 157; omega) (by show xU h ≤ 6079; omega) ?_ (XB_ret ⟨_, _, _, rfl, rfl, rfl⟩ rfl rfl)
  dsimp only
  simp [z0, z1, z2, z3, z4, z5, h0, g1, g2, yI_same, yI_ne, yR_I, vp_in, Op.lookupswitch.offset, yt0, yt1, ym1, ylt, yl2, yl13, yk38, yk60, ylc]

set_option maxRecDepth 100000 in
set_option maxHeartbeats 4000000 in
theorem p1_30_2 (l : Launch) (xs : Nat → Int32) (h : XH) (F : FX h) (h0 : (xs 0 &&& 63).toInt = 30) (g1 : 0 ≤ xs 1) (g2 : 1 ≤ xs 2) (g3 : 60 < xs 2) : XB l 6 xs 14 540 false 289 157 6079 (fun rs _ => rs = [xi 1]) 23 xlh [] h := by
  have hN := F.2.2.1
  have hU := F.2.2.2
  refine XB_path (sc := some (6, xs)) (inl := [156, 193, 280]) (n := 102) (sp := []) (o := [0, 31, 0, 0, 1, 0, 0, 1, 1, 1, 1]) (xin_ok rfl) (Or.inr rfl) rfl rfl (by show xN h ≤ 157; omega) (by show xU h ≤ 6079; omega) ?_ (XB_ret ⟨_, _, _, rfl, rfl, rfl⟩ rfl rfl)
  dsimp only
  simp [z0, z1, z2, z3, z4, z5, h0, g1, g2, g3, yI_same, yI_ne, yR_I, vp_in, Op.lookupswitch.offset, yt0, yt1, ym1, ylt, yl2, yl13, yk38, yk60, ylc]

set_option maxRecDepth 100000 in
set_option maxHeartbeats 4000000 in
theorem p1_30_3 (l : Launch) (xs : Nat → Int32) (h : XH) (F : FX h) (h0 : (xs 0 &&& 63).toInt = 30) (g1 : 0 ≤ xs 1) (g2 : 1 ≤ xs 2) (g3 : xs 2 ≤ 60) (g4 : xs 3 < 0) : XB l 6 xs 14 540 false 289 157 6079 (fun rs _ => rs = [xi 1]) 23 xlh [] h := by
  have hN := F.2.2.1
  have hU := F.2.2.2
  refine XB_path (sc := some (6, xs)) (inl := [72, 156, 193, 232, 280]) (n := 119) (sp := []) (o := [0, 31, 0, 0, 0, 1, 1, 0, 0, 0, 0, 1, 1, 1, 1]) (xin_ok rfl) (Or.inr rfl) rfl rfl (by show xN h ≤ 157; omega) (by show xU h ≤ 6079; omega) ?_ (XB_ret ⟨_, _, _, rfl, rfl, rfl⟩ rfl rfl)
  dsimp only
  simp [z0, z1, z2, z3, z4, z5, h0, g1, g2, g3, g4, yI_same, yI_ne, yR_I, vp_in, Op.lookupswitch.offset, yt0, yt1, ym1, ylt, yl2, yl13, yk38, yk60, ylc]

set_option maxRecDepth 100000 in
set_option maxHeartbeats 4000000 in
theorem p1_30_4 (l : Launch) (xs : Nat → Int32) (h : XH) (F : FX h) (h0 : (xs 0 &&& 63).toInt = 30) (g1 : 0 ≤ xs 1) (g2 : 1 ≤ xs 2) (g3 : xs 2 ≤ 60) (g4 : 0 ≤ xs 3) : XB l 6 xs 14 540 false 289 157 6079 (fun rs _ => rs = [xi 1]) 23 xlh [] h := by
  have r0 : xR h 2 1 = 3 := F.1 (2, 1, 3) (by decide)
  have i0 : xI h 3 0 = 0 := F.2.1 (3, 0, 0) (by decide)
  have i1 : xI h 104 12 = 0 := F.2.1 (104, 12, 0) (by decide)
  have hN := F.2.2.1
  have hU := F.2.2.2
  refine XB_path (sc := some (6, xs)) (inl := [72, 156, 193, 232, 280]) (n := 128) (sp := []) (o := [0, 31, 0, 0, 0, 0, 1, 1, 0, 0, 0, 0, 0, 1, 1, 1, 1]) (xin_ok rfl) (Or.inr rfl) rfl rfl (by show xN h ≤ 157; omega) (by show xU h ≤ 6079; omega) ?_ (XB_ret ⟨_, _, _, rfl, rfl, rfl⟩ rfl rfl)
  dsimp only
  simp [z0, z1, z2, z3, z4, z5, h0, g1, g2, g3, g4, r0, i0, i1, yI_same, yI_ne, yR_I, vp_in, Op.lookupswitch.offset, yt0, yt1, ym1, ylt, yl2, yl13, yk38, yk60, ylc]

theorem p1_case30 (l : Launch) (xs : Nat → Int32) (h : XH) (F : FX h) (h0 : (xs 0 &&& 63).toInt = 30) : XB l 6 xs 14 540 false 289 157 6079 (fun rs _ => rs = [xi 1]) 23 xlh [] h := by
  by_cases g1 : xs 1 < 0
  · exact p1_30_0 l xs h F h0 g1
  · have g1 := Int32.not_lt.mp g1
    by_cases g2 : xs 2 < 1
    · exact p1_30_1 l xs h F h0 g1 g2
    · have g2 := Int32.not_lt.mp g2
      by_cases g3 : 60 < xs 2
      · exact p1_30_2 l xs h F h0 g1 g2 g3
      · have g3 := Int32.not_lt.mp g3
        by_cases g4 : xs 3 < 0
        · exact p1_30_3 l xs h F h0 g1 g2 g3 g4
        · have g4 := Int32.not_lt.mp g4
          exact p1_30_4 l xs h F h0 g1 g2 g3 g4

set_option maxRecDepth 100000 in
set_option maxHeartbeats 4000000 in
theorem p1_32_0 (l : Launch) (xs : Nat → Int32) (h : XH) (F : FX h) (h0 : (xs 0 &&& 63).toInt = 32) : XB l 6 xs 14 540 false 289 157 6079 (fun rs _ => rs = [xi 1]) 23 xlh [] h := by
  have r0 : xR h 2 7 = 81 := F.1 (2, 7, 81) (by decide)
  have i0 : xI h 81 0 = 0 := F.2.1 (81, 0, 0) (by decide)
  have i1 : xI h 104 76 = 0 := F.2.1 (104, 76, 0) (by decide)
  have hN := F.2.2.1
  have hU := F.2.2.2
  refine XB_path (sc := some (6, xs)) (inl := [161, 162, 284]) (n := 51) (sp := []) (o := [0, 33, 0, 0, 0, 1, 1]) (xin_ok rfl) (Or.inr rfl) rfl rfl (by show xN h ≤ 157; omega) (by show xU h ≤ 6079; omega) ?_ (XB_ret ⟨_, _, _, rfl, rfl, rfl⟩ rfl rfl)
  dsimp only
  simp [z0, z1, z2, z3, z4, z5, h0, r0, i0, i1, yI_same, yI_ne, yR_I, vp_in, Op.lookupswitch.offset, yt0, yt1, ym1, ylt, yl2, yl13, yk38, yk60, ylc]

theorem p1_case32 (l : Launch) (xs : Nat → Int32) (h : XH) (F : FX h) (h0 : (xs 0 &&& 63).toInt = 32) : XB l 6 xs 14 540 false 289 157 6079 (fun rs _ => rs = [xi 1]) 23 xlh [] h := by
  exact p1_32_0 l xs h F h0

set_option maxRecDepth 100000 in
set_option maxHeartbeats 4000000 in
theorem p1_34_0 (l : Launch) (xs : Nat → Int32) (h : XH) (F : FX h) (h0 : (xs 0 &&& 63).toInt = 34) : XB l 6 xs 14 540 false 289 157 6079 (fun rs _ => rs = [xi 1]) 23 xlh [] h := by
  have i0 : xI h 2 6 = 0 := F.2.1 (2, 6, 0) (by decide)
  have i1 : xI h 104 78 = 0 := F.2.1 (104, 78, 0) (by decide)
  have hN := F.2.2.1
  have hU := F.2.2.2
  refine XB_path (sc := some (6, xs)) (inl := [164, 287]) (n := 45) (sp := []) (o := [0, 35, 0, 0, 1, 1]) (xin_ok rfl) (Or.inr rfl) rfl rfl (by show xN h ≤ 157; omega) (by show xU h ≤ 6079; omega) ?_ (XB_ret ⟨_, _, _, rfl, rfl, rfl⟩ rfl rfl)
  dsimp only
  simp [z0, z1, z2, z3, z4, z5, h0, i0, i1, yI_same, yI_ne, yR_I, vp_in, Op.lookupswitch.offset, yt0, yt1, ym1, ylt, yl2, yl13, yk38, yk60, ylc]

theorem p1_case34 (l : Launch) (xs : Nat → Int32) (h : XH) (F : FX h) (h0 : (xs 0 &&& 63).toInt = 34) : XB l 6 xs 14 540 false 289 157 6079 (fun rs _ => rs = [xi 1]) 23 xlh [] h := by
  exact p1_34_0 l xs h F h0

set_option maxRecDepth 100000 in
set_option maxHeartbeats 4000000 in
theorem p1_35_0 (l : Launch) (xs : Nat → Int32) (h : XH) (F : FX h) (h0 : (xs 0 &&& 63).toInt = 35) (g1 : xs 1 = 0) : XB l 6 xs 14 540 false 289 157 6079 (fun rs _ => rs = [xi 1]) 23 xlh [] h := by
  have r0 : xR h 2 1 = 3 := F.1 (2, 1, 3) (by decide)
  have i0 : xI h 3 0 = 0 := F.2.1 (3, 0, 0) (by decide)
  have i1 : xI h 104 12 = 0 := F.2.1 (104, 12, 0) (by decide)
  have hN := F.2.2.1
  have hU := F.2.2.2
  refine XB_path (sc := some (6, xs)) (inl := [165, 177, 288]) (n := 67) (sp := []) (o := [0, 36, 1, 1, 1, 1]) (xin_ok rfl) (Or.inr rfl) rfl rfl (by show xN h ≤ 157; omega) (by show xU h ≤ 6079; omega) ?_ (XB_ret ⟨_, _, _, rfl, rfl, rfl⟩ rfl rfl)
  dsimp only
  simp [z0, z1, z2, z3, z4, z5, h0, g1, r0, i0, i1, yI_same, yI_ne, yR_I, vp_in, Op.lookupswitch.offset, yt0, yt1, ym1, ylt, yl2, yl13, yk38, yk60, ylc]

set_option maxRecDepth 100000 in
set_option maxHeartbeats 4000000 in
theorem p1_35_1 (l : Launch) (xs : Nat → Int32) (h : XH) (F : FX h) (h0 : (xs 0 &&& 63).toInt = 35) (g1 : ¬ xs 1 = 0) (g2 : xs 1 = 1) : XB l 6 xs 14 540 false 289 157 6079 (fun rs _ => rs = [xi 1]) 23 xlh [] h := by
  have r0 : xR h 2 1 = 3 := F.1 (2, 1, 3) (by decide)
  have i0 : xI h 3 5 = 0 := F.2.1 (3, 5, 0) (by decide)
  have i1 : xI h 104 13 = 0 := F.2.1 (104, 13, 0) (by decide)
  have hN := F.2.2.1
  have hU := F.2.2.2
  refine XB_path (sc := some (6, xs)) (inl := [165, 177, 288]) (n := 67) (sp := []) (o := [0, 36, 2, 2, 1, 1]) (xin_ok rfl) (Or.inr rfl) rfl rfl (by show xN h ≤ 157; omega) (by show xU h ≤ 6079; omega) ?_ (XB_ret ⟨_, _, _, rfl, rfl, rfl⟩ rfl rfl)
  dsimp only
  simp [z0, z1, z2, z3, z4, z5, h0, g1, g2, r0, i0, i1, yI_same, yI_ne, yR_I, vp_in, Op.lookupswitch.offset, yt0, yt1, ym1, ylt, yl2, yl13, yk38, yk60, ylc]

set_option maxRecDepth 100000 in
set_option maxHeartbeats 4000000 in
theorem p1_35_2 (l : Launch) (xs : Nat → Int32) (h : XH) (F : FX h) (h0 : (xs 0 &&& 63).toInt = 35) (g1 : ¬ xs 1 = 0) (g2 : ¬ xs 1 = 1) (g3 : xs 1 = 2) : XB l 6 xs 14 540 false 289 157 6079 (fun rs _ => rs = [xi 1]) 23 xlh [] h := by
  have r0 : xR h 2 1 = 3 := F.1 (2, 1, 3) (by decide)
  have i0 : xI h 3 9 = 0 := F.2.1 (3, 9, 0) (by decide)
  have i1 : xI h 104 14 = 0 := F.2.1 (104, 14, 0) (by decide)
  have hN := F.2.2.1
  have hU := F.2.2.2
  refine XB_path (sc := some (6, xs)) (inl := [165, 177, 288]) (n := 67) (sp := []) (o := [0, 36, 3, 3, 1, 1]) (xin_ok rfl) (Or.inr rfl) rfl rfl (by show xN h ≤ 157; omega) (by show xU h ≤ 6079; omega) ?_ (XB_ret ⟨_, _, _, rfl, rfl, rfl⟩ rfl rfl)
  dsimp only
  simp [z0, z1, z2, z3, z4, z5, h0, g1, g2, g3, r0, i0, i1, yI_same, yI_ne, yR_I, vp_in, Op.lookupswitch.offset, yt0, yt1, ym1, ylt, yl2, yl13, yk38, yk60, ylc]

set_option maxRecDepth 100000 in
set_option maxHeartbeats 4000000 in
theorem p1_35_3 (l : Launch) (xs : Nat → Int32) (h : XH) (F : FX h) (h0 : (xs 0 &&& 63).toInt = 35) (g1 : ¬ xs 1 = 0) (g2 : ¬ xs 1 = 1) (g3 : ¬ xs 1 = 2) (g4 : xs 1 = 3) : XB l 6 xs 14 540 false 289 157 6079 (fun rs _ => rs = [xi 1]) 23 xlh [] h := by
  have r0 : xR h 2 1 = 3 := F.1 (2, 1, 3) (by decide)
  have i0 : xI h 3 14 = 0 := F.2.1 (3, 14, 0) (by decide)
  have i1 : xI h 104 15 = 0 := F.2.1 (104, 15, 0) (by decide)
  have hN := F.2.2.1
  have hU := F.2.2.2
  refine XB_path (sc := some (6, xs)) (inl := [165, 177, 288]) (n := 67) (sp := []) (o := [0, 36, 4, 4, 1, 1]) (xin_ok rfl) (Or.inr rfl) rfl rfl (by show xN h ≤ 157; omega) (by show xU h ≤ 6079; omega) ?_ (XB_ret ⟨_, _, _, rfl, rfl, rfl⟩ rfl rfl)
  dsimp only
  simp [z0, z1, z2, z3, z4, z5, h0, g1, g2, g3, g4, r0, i0, i1, yI_same, yI_ne, yR_I, vp_in, Op.lookupswitch.offset, yt0, yt1, ym1, ylt, yl2, yl13, yk38, yk60, ylc]

set_option maxRecDepth 100000 in
set_option maxHeartbeats 4000000 in
theorem p1_35_4 (l : Launch) (xs : Nat → Int32) (h : XH) (F : FX h) (h0 : (xs 0 &&& 63).toInt = 35) (g1 : ¬ xs 1 = 0) (g2 : ¬ xs 1 = 1) (g3 : ¬ xs 1 = 2) (g4 : ¬ xs 1 = 3) (g5 : xs 1 = 4) : XB l 6 xs 14 540 false 289 157 6079 (fun rs _ => rs = [xi 1]) 23 xlh [] h := by
  have r0 : xR h 2 1 = 3 := F.1 (2, 1, 3) (by decide)
  have r1 : xR h 3 19 = 18 := F.1 (3, 19, 18) (by decide)
  have i0 : xI h 18 6 = 0 := F.2.1 (18, 6, 0) (by decide)
  have i1 : xI h 104 16 = 0 := F.2.1 (104, 16, 0) (by decide)
  have hN := F.2.2.1
  have hU := F.2.2.2
  refine XB_path (sc := some (6, xs)) (inl := [165, 177, 288]) (n := 68) (sp := []) (o := [0, 36, 5, 5, 1, 1]) (xin_ok rfl) (Or.inr rfl) rfl rfl (by show xN h ≤ 157; omega) (by show xU h ≤ 6079; omega) ?_ (XB_ret ⟨_, _, _, rfl, rfl, rfl⟩ rfl rfl)
  dsimp only
  simp [z0, z1, z2, z3, z4, z5, h0, g1, g2, g3, g4, g5, r0, r1, i0, i1, yI_same, yI_ne, yR_I, vp_in, Op.lookupswitch.offset, yt0, yt1, ym1, ylt, yl2, yl13, yk38, yk60, ylc]

set_option maxRecDepth 100000 in
set_option maxHeartbeats 4000000 in
theorem p1_35_5 (l : Launch) (xs : Nat → Int32) (h : XH) (F : FX h) (h0 : (xs 0 &&& 63).toInt = 35) (g1 : ¬ xs 1 = 0) (g2 : ¬ xs 1 = 1) (g3 : ¬ xs 1 = 2) (g4 : ¬ xs 1 = 3) (g5 : ¬ xs 1 = 4) (g6 : xs 1 = 5) : XB l 6 xs 14 540 false 289 157 6079 (fun rs _ => rs = [xi 1]) 23 xlh [] h := by
  have r0 : xR h 2 3 = 48 := F.1 (2, 3, 48) (by decide)
  have r1 : xR h 104 60 = 138 := F.1 (104, 60, 138) (by decide)
  have i0 : xI h 48 7 = 0 := F.2.1 (48, 7, 0) (by decide)
  have i1 : xI h 138 0 = 0 := F.2.1 (138, 0, 0) (by decide)
  have hN := F.2.2.1
  have hU := F.2.2.2
  refine XB_path (sc := some (6, xs)) (inl := [165, 177, 288]) (n := 69) (sp := []) (o := [0, 36, 6, 6, 1, 1]) (xin_ok rfl) (Or.inr rfl) rfl rfl (by show xN h ≤ 157; omega) (by show xU h ≤ 6079; omega) ?_ (XB_ret ⟨_, _, _, rfl, rfl, rfl⟩ rfl rfl)
  dsimp only
  simp [z0, z1, z2, z3, z4, z5, h0, g1, g2, g3, g4, g5, g6, r0, r1, i0, i1, yI_same, yI_ne, yR_I, vp_in, Op.lookupswitch.offset, yt0, yt1, ym1, ylt, yl2, yl13, yk38, yk60, ylc]

set_option maxRecDepth 100000 in
set_option maxHeartbeats 4000000 in
theorem p1_35_6 (l : Launch) (xs : Nat → Int32) (h : XH) (F : FX h) (h0 : (xs 0 &&& 63).toInt = 35) (g1 : ¬ xs 1 = 0) (g2 : ¬ xs 1 = 1) (g3 : ¬ xs 1 = 2) (g4 : ¬ xs 1 = 3) (g5 : ¬ xs 1 = 4) (g6 : ¬ xs 1 = 5) (g7 : xs 1 = 6) : XB l 6 xs 14 540 false 289 157 6079 (fun rs _ => rs = [xi 1]) 23 xlh [] h := by
  have r0 : xR h 2 3 = 48 := F.1 (2, 3, 48) (by decide)
  have r1 : xR h 48 0 = 3 := F.1 (48, 0, 3) (by decide)
  have i0 : xI h 3 0 = 0 := F.2.1 (3, 0, 0) (by decide)
  have i1 : xI h 104 12 = 0 := F.2.1 (104, 12, 0) (by decide)
  have hN := F.2.2.1
  have hU := F.2.2.2
  refine XB_path (sc := some (6, xs)) (inl := [165, 166, 177, 288]) (n := 83) (sp := []) (o := [0, 36, 7, 1, 7, 1, 1, 1]) (xin_ok rfl) (Or.inr rfl) rfl rfl (by show xN h ≤ 157; omega) (by show xU h ≤ 6079; omega) ?_ (XB_ret ⟨_, _, _, rfl, rfl, rfl⟩ rfl rfl)
  dsimp only
  simp [z0, z1, z2, z3, z4, z5, h0, g1, g2, g3, g4, g5, g6, g7, r0, r1, i0, i1, yI_same, yI_ne, yR_I, vp_in, Op.lookupswitch.offset, yt0, yt1, ym1, ylt, yl2, yl13, yk38, yk60, ylc]

set_option maxRecDepth 100000 in
set_option maxHeartbeats 4000000 in
theorem p1_35_7 (l : Launch) (xs : Nat → Int32) (h : XH) (F : FX h) (h0 : (xs 0 &&& 63).toInt = 35) (g1 : ¬ xs 1 = 0) (g2 : ¬ xs 1 = 1) (g3 : ¬ xs 1 = 2) (g4 : ¬ xs 1 = 3) (g5 : ¬ xs 1 = 4) (g6 : ¬ xs 1 = 5) (g7 : ¬ xs 1 = 6) (g8 : xs 1 = 7) : XB l 6 xs 14 540 false 289 157 6079 (fun rs _ => rs = [xi 1]) 23 xlh [] h := by
  have r0 : xR h 2 3 = 48 := F.1 (2, 3, 48) (by decide)
  have r1 : xR h 48 0 = 3 := F.1 (48, 0, 3) (by decide)
  have i0 : xI h 3 5 = 0 := F.2.1 (3, 5, 0) (by decide)
  have i1 : xI h 104 13 = 0 := F.2.1 (104, 13, 0) (by decide)
  have hN := F.2.2.1
  have hU := F.2.2.2
  refine XB_path (sc := some (6, xs)) (inl := [165, 167, 177, 288]) (n := 83) (sp := []) (o := [0, 36, 8, 1, 8, 1, 1, 1]) (xin_ok rfl) (Or.inr rfl) rfl rfl (by show xN h ≤ 157; omega) (by show xU h ≤ 6079; omega) ?_ (XB_ret ⟨_, _, _, rfl, rfl, rfl⟩ rfl rfl)
  dsimp only
  simp [z0, z1, z2, z3, z4, z5, h0, g1, g2, g3, g4, g5, g6, g7, g8, r0, r1, i0, i1, yI_same, yI_ne, yR_I, vp_in, Op.lookupswitch.offset, yt0, yt1, ym1, ylt, yl2, yl13, yk38, yk60, ylc]

set_option maxRecDepth 100000 in
set_option maxHeartbeats 4000000 in
theorem p1_35_8 (l : Launch) (xs : Nat → Int32) (h : XH) (F : FX h) (h0 : (xs 0 &&& 63).toInt = 35) (g1 : ¬ xs 1 = 0) (g2 : ¬ xs 1 = 1) (g3 : ¬ xs 1 = 2) (g4 : ¬ xs 1 = 3) (g5 : ¬ xs 1 = 4) (g6 : ¬ xs 1 = 5) (g7 : ¬ xs 1 = 6) (g8 : ¬ xs 1 = 7) (g9 : xs 1 = 8) : XB l 6 xs 14 540 false 289 157 6079 (fun rs _ => rs = [xi 1]) 23 xlh [] h := by
  have r0 : xR h 2 3 = 48 := F.1 (2, 3, 48) (by decide)
  have r1 : xR h 48 0 = 3 := F.1 (48, 0, 3) (by decide)
  have i0 : xI h 3 0 = 0 := F.2.1 (3, 0, 0) (by decide)
  have i1 : xI h 104 12 = 0 := F.2.1 (104, 12, 0) (by decide)
  have hN := F.2.2.1
  have hU := F.2.2.2
  refine XB_path (sc := some (6, xs)) (inl := [160, 165, 177, 283, 288]) (n := 89) (sp := []) (o := [0, 36, 9, 1, 9, 1, 1, 1]) (xin_ok rfl) (Or.inr rfl) rfl rfl (by show xN h ≤ 157; omega) (by show xU h ≤ 6079; omega) ?_ (XB_ret ⟨_, _, _, rfl, rfl, rfl⟩ rfl rfl)
  dsimp only
  simp [z0, z1, z2, z3, z4, z5, h0, g1, g2, g3, g4, g5, g6, g7, g8, g9, r0, r1, i0, i1, yI_same, yI_ne, yR_I, vp_in, Op.lookupswitch.offset, yt0, yt1, ym1, ylt, yl2, yl13, yk38, yk60, ylc]

set_option maxRecDepth 100000 in
set_option maxHeartbeats 4000000 in
theorem p1_35_9 (l : Launch) (xs : Nat → Int32) (h : XH) (F : FX h) (h0 : (xs 0 &&& 63).toInt = 35) (g1 : ¬ xs 1 = 0) (g2 : ¬ xs 1 = 1) (g3 : ¬ xs 1 = 2) (g4 : ¬ xs 1 = 3) (g5 : ¬ xs 1 = 4) (g6 : ¬ xs 1 = 5) (g7 : ¬ xs 1 = 6) (g8 : ¬ xs 1 = 7) (g9 : ¬ xs 1 = 8) (g10 : xs 1 = 9) : XB l 6 xs 14 540 false 289 157 6079 (fun rs _ => rs = [xi 1]) 23 xlh [] h := by
  have r0 : xR h 2 3 = 48 := F.1 (2, 3, 48) (by decide)
  have r1 : xR h 48 0 = 3 := F.1 (48, 0, 3) (by decide)
  have i0 : xI h 3 9 = 0 := F.2.1 (3, 9, 0) (by decide)
  have i1 : xI h 104 14 = 0 := F.2.1 (104, 14, 0) (by decide)
  have hN := F.2.2.1
  have hU := F.2.2.2
  refine XB_path (sc := some (6, xs)) (inl := [165, 168, 177, 288]) (n := 83) (sp := []) (o := [0, 36, 10, 1, 10, 1, 1, 1]) (xin_ok rfl) (Or.inr rfl) rfl rfl (by show xN h ≤ 157; omega) (by show xU h ≤ 6079; omega) ?_ (XB_ret ⟨_, _, _, rfl, rfl, rfl⟩ rfl rfl)
  dsimp only
  simp [z0, z1, z2, z3, z4, z5, h0, g1, g2, g3, g4, g5, g6, g7, g8, g9, g10, r0, r1, i0, i1, yI_same, yI_ne, yR_I, vp_in, Op.lookupswitch.offset, yt0, yt1, ym1, ylt, yl2, yl13, yk38, yk60, ylc]

set_option maxRecDepth 100000 in
set_option maxHeartbeats 4000000 in
theorem p1_35_10 (l : Launch) (xs : Nat → Int32) (h : XH) (F : FX h) (h0 : (xs 0 &&& 63).toInt = 35) (g1 : ¬ xs 1 = 0) (g2 : ¬ xs 1 = 1) (g3 : ¬ xs 1 = 2) (g4 : ¬ xs 1 = 3) (g5 : ¬ xs 1 = 4) (g6 : ¬ xs 1 = 5) (g7 : ¬ xs 1 = 6) (g8 : ¬ xs 1 = 7) (g9 : ¬ xs 1 = 8) (g10 : ¬ xs 1 = 9) (g11 : xs 1 = 10) : XB l 6 xs 14 540 false 289 157 6079 (fun rs _ => rs = [xi 1]) 23 xlh [] h := by
  have r0 : xR h 2 3 = 48 := F.1 (2, 3, 48) (by decide)
  have r1 : xR h 48 0 = 3 := F.1 (48, 0, 3) (by decide)
  have i0 : xI h 3 9 = 0 := F.2.1 (3, 9, 0) (by decide)
  have i1 : xI h 104 14 = 0 := F.2.1 (104, 14, 0) (by decide)
  have hN := F.2.2.1
  have hU := F.2.2.2
  refine XB_path (sc := some (6, xs)) (inl := [165, 169, 177, 288]) (n := 83) (sp := []) (o := [0, 36, 11, 1, 11, 1, 1, 1]) (xin_ok rfl) (Or.inr rfl) rfl rfl (by show xN h ≤ 157; omega) (by show xU h ≤ 6079; omega) ?_ (XB_ret ⟨_, _, _, rfl, rfl, rfl⟩ rfl rfl)
  dsimp only
  simp [z0, z1, z2, z3, z4, z5, h0, g1, g2, g3, g4, g5, g6, g7, g8, g9, g10, g11, r0, r1, i0, i1, yI_same, yI_ne, yR_I, vp_in, Op.lookupswitch.offset, yt0, yt1, ym1, ylt, yl2, yl13, yk38, yk60, ylc]

set_option maxRecDepth 100000 in
set_option maxHeartbeats 4000000 in
theorem p1_35_11 (l : Launch) (xs : Nat → Int32) (h : XH) (F : FX h) (h0 : (xs 0 &&& 63).toInt = 35) (g1 : ¬ xs 1 = 0) (g2 : ¬ xs 1 = 1) (g3 : ¬ xs 1 = 2) (g4 : ¬ xs 1 = 3) (g5 : ¬ xs 1 = 4) (g6 : ¬ xs 1 = 5) (g7 : ¬ xs 1 = 6) (g8 : ¬ xs 1 = 7) (g9 : ¬ xs 1 = 8) (g10 : ¬ xs 1 = 9) (g11 : ¬ xs 1 = 10) (g12 : xs 1 = 11) : XB l 6 xs 14 540 false 289 157 6079 (fun rs _ => rs = [xi 1]) 23 xlh [] h := by
  have r0 : xR h 2 8 = 85 := F.1 (2, 8, 85) (by decide)
  have i0 : xI h 85 0 = 0 := F.2.1 (85, 0, 0) (by decide)
  have i1 : xI h 104 72 = 0 := F.2.1 (104, 72, 0) (by decide)
  have hN := F.2.2.1
  have hU := F.2.2.2
  refine XB_path (sc := some (6, xs)) (inl := [165, 177, 288]) (n := 67) (sp := []) (o := [0, 36, 12, 12, 1, 1]) (xin_ok rfl) (Or.inr rfl) rfl rfl (by show xN h ≤ 157; omega) (by show xU h ≤ 6079; omega) ?_ (XB_ret ⟨_, _, _, rfl, rfl, rfl⟩ rfl rfl)
  dsimp only
  simp [z0, z1, z2, z3, z4, z5, h0, g1, g2, g3, g4, g5, g6, g7, g8, g9, g10, g11, g12, r0, i0, i1, yI_same, yI_ne, yR_I, vp_in, Op.lookupswitch.offset, yt0, yt1, ym1, ylt, yl2, yl13, yk38, yk60, ylc]

set_option maxRecDepth 100000 in
set_option maxHeartbeats 4000000 in
theorem p1_35_12 (l : Launch) (xs : Nat → Int32) (h : XH) (F : FX h) (h0 : (xs 0 &&& 63).toInt = 35) (g1 : ¬ xs 1 = 0) (g2 : ¬ xs 1 = 1) (g3 : ¬ xs 1 = 2) (g4 : ¬ xs 1 = 3) (g5 : ¬ xs 1 = 4) (g6 : ¬ xs 1 = 5) (g7 : ¬ xs 1 = 6) (g8 : ¬ xs 1 = 7) (g9 : ¬ xs 1 = 8) (g10 : ¬ xs 1 = 9) (g11 : ¬ xs 1 = 10) (g12 : ¬ xs 1 = 11) (g13 : xs 1 = 12) : XB l 6 xs 14 540 false 289 157 6079 (fun rs _ => rs = [xi 1]) 23 xlh [] h := by
  have r0 : xR h 2 8 = 85 := F.1 (2, 8, 85) (by decide)
  have i0 : xI h 85 0 = 0 := F.2.1 (85, 0, 0) (by decide)
  have i1 : xI h 85 1 = -1 := F.2.1 (85, 1, -1) (by decide)
  have i2 : xI h 104 72 = 0 := F.2.1 (104, 72, 0) (by decide)
  have i3 : xI h 104 73 = -1 := F.2.1 (104, 73, -1) (by decide)
  have hN := F.2.2.1
  have hU := F.2.2.2
  refine XB_path (sc := some (6, xs)) (inl := [151, 165, 177, 277, 288]) (n := 82) (sp := []) (o := [0, 36, 13, 0, 13, 0, 1, 1]) (xin_ok rfl) (Or.inr rfl) rfl rfl (by show xN h ≤ 157; omega) (by show xU h ≤ 6079; omega) ?_ (XB_ret ⟨_, _, _, rfl, rfl, rfl⟩ rfl rfl)
  dsimp only
  simp [z0, z1, z2, z3, z4, z5, h0, g1, g2, g3, g4, g5, g6, g7, g8, g9, g10, g11, g12, g13, r0, i0, i1, i2, i3, yI_same, yI_ne, yR_I, vp_in, Op.lookupswitch.offset, yt0, yt1, ym1, ylt, yl2, yl13, yk38, yk60, ylc]

set_option maxRecDepth 100000 in
set_option maxHeartbeats 4000000 in
theorem p1_35_13 (l : Launch) (xs : Nat → Int32) (h : XH) (F : FX h) (h0 : (xs 0 &&& 63).toInt = 35) (g1 : ¬ xs 1 = 0) (g2 : ¬ xs 1 = 1) (g3 : ¬ xs 1 = 2) (g4 : ¬ xs 1 = 3) (g5 : ¬ xs 1 = 4) (g6 : ¬ xs 1 = 5) (g7 : ¬ xs 1 = 6) (g8 : ¬ xs 1 = 7) (g9 : ¬ xs 1 = 8) (g10 : ¬ xs 1 = 9) (g11 : ¬ xs 1 = 10) (g12 : ¬ xs 1 = 11) (g13 : ¬ xs 1 = 12) (g14 : xs 1 = 13) : XB l 6 xs 14 540 false 289 157 6079 (fun rs _ => rs = [xi 1]) 23 xlh [] h := by
  have r0 : xR h 2 7 = 81 := F.1 (2, 7, 81) (by decide)
  have i0 : xI h 81 0 = 0 := F.2.1 (81, 0, 0) (by decide)
  have i1 : xI h 104 76 = 0 := F.2.1 (104, 76, 0) (by decide)
  have hN := F.2.2.1
  have hU := F.2.2.2
  refine XB_path (sc := some (6, xs)) (inl := [165, 177, 288]) (n := 67) (sp := []) (o := [0, 36, 14, 14, 1, 1]) (xin_ok rfl) (Or.inr rfl) rfl rfl (by show xN h ≤ 157; omega) (by show xU h ≤ 6079; omega) ?_ (XB_ret ⟨_, _, _, rfl, rfl, rfl⟩ rfl rfl)
  dsimp only
  simp [z0, z1, z2, z3, z4, z5, h0, g1, g2, g3, g4, g5, g6, g7, g8, g9, g10, g11, g12, g13, g14, r0, i0, i1, yI_same, yI_ne, yR_I, vp_in, Op.lookupswitch.offset, yt0, yt1, ym1, ylt, yl2, yl13, yk38, yk60, ylc]

set_option maxRecDepth 100000 in
set_option maxHeartbeats 4000000 in
theorem p1_35_14 (l : Launch) (xs : Nat → Int32) (h : XH) (F : FX h) (h0 : (xs 0 &&& 63).toInt = 35) (g1 : ¬ xs 1 = 0) (g2 : ¬ xs 1 = 1) (g3 : ¬ xs 1 = 2) (g4 : ¬ xs 1 = 3) (g5 : ¬ xs 1 = 4) (g6 : ¬ xs 1 = 5) (g7 : ¬ xs 1 = 6) (g8 : ¬ xs 1 = 7) (g9 : ¬ xs 1 = 8) (g10 : ¬ xs 1 = 9) (g11 : ¬ xs 1 = 10) (g12 : ¬ xs 1 = 11) (g13 : ¬ xs 1 = 12) (g14 : ¬ xs 1 = 13) (g15 : xs 1 < 0) : XB l 6 xs 14 540 false 289 157 6079 (fun rs _ => rs = [xi 1]) 23 xlh [] h := by
  have hN := F.2.2.1
  have hU := F.2.2.2
  refine XB_path (sc := some (6, xs)) (inl := [165, 177, 288]) (n := 64) (sp := []) (o := [0, 36, 0, 0, 1, 1]) (xin_ok rfl) (Or.inr rfl) rfl rfl (by show xN h ≤ 157; omega) (by show xU h ≤ 6079; omega) ?_ (XB_ret ⟨_, _, _, rfl, rfl, rfl⟩ rfl rfl)
  dsimp only
  simp [z0, z1, z2, z3, z4, z5, h0, g1, g2, g3, g4, g5, g6, g7, g8, g9, g10, g11, g12, g13, g14, g15, yI_same, yI_ne, yR_I, vp_in, Op.lookupswitch.offset, yt0, yt1, ym1, ylt, yl2, yl13, yk38, yk60, ylc]

set_option maxRecDepth 100000 in
set_option maxHeartbeats 4000000 in
theorem p1_35_15 (l : Launch) (xs : Nat → Int32) (h : XH) (F : FX h) (h0 : (xs 0 &&& 63).toInt = 35) (g1 : ¬ xs 1 = 0) (g2 : ¬ xs 1 = 1) (g3 : ¬ xs 1 = 2) (g4 : ¬ xs 1 = 3) (g5 : ¬ xs 1 = 4) (g6 : ¬ xs 1 = 5) (g7 : ¬ xs 1 = 6) (g8 : ¬ xs 1 = 7) (g9 : ¬ xs 1 = 8) (g10 : ¬ xs 1 = 9) (g11 : ¬ xs 1 = 10) (g12 : ¬ xs 1 = 11) (g13 : ¬ xs 1 = 12) (g14 : ¬ xs 1 = 13) (g15 : 0 ≤ xs 1) (g16 : 13 < xs 1) : XB l 6 xs 14 540 false 289 157 6079 (fun rs _ => rs = [xi 1]) 23 xlh [] h := by
  have hN := F.2.2.1
  have hU := F.2.2.2
  refine XB_path (sc := some (6, xs)) (inl := [165, 177, 288]) (n := 64) (sp := []) (o := [0, 36, 0, 0, 1, 1]) (xin_ok rfl) (Or.inr rfl) rfl rfl (by show xN h ≤ 157; omega) (by show xU h ≤ 6079; omega) ?_ (XB_ret ⟨_, _, _, rfl, rfl, rfl⟩ rfl rfl)
  dsimp only
  simp [z0, z1, z2, z3, z4, z5, h0, g1, g2, g3, g4, g5, g6, g7, g8, g9, g10, g11, g12, g13, g14, g15, g16, yI_same, yI_ne, yR_I, vp_in, Op.lookupswitch.offset, yt0, yt1, ym1, ylt, yl2, yl13, yk38, yk60, ylc]

theorem p1_case35 (l : Launch) (xs : Nat → Int32) (h : XH) (F : FX h) (h0 : (xs 0 &&& 63).toInt = 35) : XB l 6 xs 14 540 false 289 157 6079 (fun rs _ => rs = [xi 1]) 23 xlh [] h := by
  by_cases g1 : xs 1 = 0
  · exact p1_35_0 l xs h F h0 g1
  · have g1 := id g1
    by_cases g2 : xs 1 = 1
    · exact p1_35_1 l xs h F h0 g1 g2
    · have g2 := id g2
      by_cases g3 : xs 1 = 2
      · exact p1_35_2 l xs h F h0 g1 g2 g3
      · have g3 := id g3
        by_cases g4 : xs 1 = 3
        · exact p1_35_3 l xs h F h0 g1 g2 g3 g4
        · have g4 := id g4
          by_cases g5 : xs 1 = 4
          · exact p1_35_4 l xs h F h0 g1 g2 g3 g4 g5
          · have g5 := id g5
            by_cases g6 : xs 1 = 5
            · exact p1_35_5 l xs h F h0 g1 g2 g3 g4 g5 g6
            · have g6 := id g6
              by_cases g7 : xs 1 = 6
              · exact p1_35_6 l xs h F h0 g1 g2 g3 g4 g5 g6 g7
              · have g7 := id g7
                by_cases g8 : xs 1 = 7
                · exact p1_35_7 l xs h F h0 g1 g2 g3 g4 g5 g6 g7 g8
                · have g8 := id g8
                  by_cases g9 : xs 1 = 8
                  · exact p1_35_8 l xs h F h0 g1 g2 g3 g4 g5 g6 g7 g8 g9
                  · have g9 := id g9
                    by_cases g10 : xs 1 = 9
                    · exact p1_35_9 l xs h F h0 g1 g2 g3 g4 g5 g6 g7 g8 g9 g10
                    · have g10 := id g10
                      by_cases g11 : xs 1 = 10
                      · exact p1_35_10 l xs h F h0 g1 g2 g3 g4 g5 g6 g7 g8 g9 g10 g11
                      · have g11 := id g11
                        by_cases g12 : xs 1 = 11
                        · exact p1_35_11 l xs h F h0 g1 g2 g3 g4 g5 g6 g7 g8 g9 g10 g11 g12
                        · have g12 := id g12
                          by_cases g13 : xs 1 = 12
                          · exact p1_35_12 l xs h F h0 g1 g2 g3 g4 g5 g6 g7 g8 g9 g10 g11 g12 g13
                          · have g13 := id g13
                            by_cases g14 : xs 1 = 13
                            · exact p1_35_13 l xs h F h0 g1 g2 g3 g4 g5 g6 g7 g8 g9 g10 g11 g12 g13 g14
                            · have g14 := id g14
                              by_cases g15 : xs 1 < 0
                              · exact p1_35_14 l xs h F h0 g1 g2 g3 g4 g5 g6 g7 g8 g9 g10 g11 g12 g13 g14 g15
                              · have g15 := Int32.not_lt.mp g15
                                have g16 : 13 < xs 1 := yg13 g15 g1 g2 g3 g4 g5 g6 g7 g8 g9 g10 g11 g12 g13 g14
                                exact p1_35_15 l xs h F h0 g1 g2 g3 g4 g5 g6 g7 g8 g9 g10 g11 g12 g13 g14 g15 g16

set_option maxRecDepth 100000 in
set_option maxHeartbeats 4000000 in
theorem p1_36_0 (l : Launch) (xs : Nat → Int32) (h : XH) (F : FX h) (h0 : (xs 0 &&& 63).toInt = 36) : XB l 6 xs 14 540 false 289 157 6079 (fun rs _ => rs = [xi 1]) 23 xlh [] h := by
  have hN := F.2.2.1
  have hU := F.2.2.2
  refine XB_path (sc := some (6, xs)) (inl := []) (n := 27) (sp := []) (o := [0, 0, 1]) (xin_ok rfl) (Or.inr rfl) rfl rfl (by show xN h ≤ 157; omega) (by show xU h ≤ 6079; omega) ?_ (XB_ret ⟨_, _, _, rfl, rfl, rfl⟩ rfl rfl)
  dsimp only
  simp [z0, z1, z2, z3, z4, z5, h0, yI_same, yI_ne, yR_I, vp_in, Op.lookupswitch.offset, yt0, yt1, ym1, ylt, yl2, yl13, yk38, yk60, ylc]

theorem p1_case36 (l : Launch) (xs : Nat → Int32) (h : XH) (F : FX h) (h0 : (xs 0 &&& 63).toInt = 36) : XB l 6 xs 14 540 false 289 157 6079 (fun rs _ => rs = [xi 1]) 23 xlh [] h := by
  exact p1_36_0 l xs h F h0

set_option maxRecDepth 100000 in
set_option maxHeartbeats 4000000 in
theorem p1_37_0 (l : Launch) (xs : Nat → Int32) (h : XH) (F : FX h) (h0 : (xs 0 &&& 63).toInt = 37) : XB l 6 xs 14 540 false 289 157 6079 (fun rs _ => rs = [xi 1]) 23 xlh [] h := by
  have hN := F.2.2.1
  have hU := F.2.2.2
  refine XB_path (sc := some (6, xs)) (inl := []) (n := 27) (sp := []) (o := [0, 0, 1]) (xin_ok rfl) (Or.inr rfl) rfl rfl (by show xN h ≤ 157; omega) (by show xU h ≤ 6079; omega) ?_ (XB_ret ⟨_, _, _, rfl, rfl, rfl⟩ rfl rfl)
  dsimp only
  simp [z0, z1, z2, z3, z4, z5, h0, yI_same, yI_ne, yR_I, vp_in, Op.lookupswitch.offset, yt0, yt1, ym1, ylt, yl2, yl13, yk38, yk60, ylc]

theorem p1_case37 (l : Launch) (xs : Nat → Int32) (h : XH) (F : FX h) (h0 : (xs 0 &&& 63).toInt = 37) : XB l 6 xs 14 540 false 289 157 6079 (fun rs _ => rs = [xi 1]) 23 xlh [] h := by
  exact p1_37_0 l xs h F h0

set_option maxRecDepth 100000 in
set_option maxHeartbeats 4000000 in
theorem p1_38_0 (l : Launch) (xs : Nat → Int32) (h : XH) (F : FX h) (h0 : (xs 0 &&& 63).toInt = 38) : XB l 6 xs 14 540 false 289 157 6079 (fun rs _ => rs = [xi 1]) 23 xlh [] h := by
  have hN := F.2.2.1
  have hU := F.2.2.2
  refine XB_path (sc := some (6, xs)) (inl := []) (n := 27) (sp := []) (o := [0, 0, 1]) (xin_ok rfl) (Or.inr rfl) rfl rfl (by show xN h ≤ 157; omega) (by show xU h ≤ 6079; omega) ?_ (XB_ret ⟨_, _, _, rfl, rfl, rfl⟩ rfl rfl)
  dsimp only
  simp [z0, z1, z2, z3, z4, z5, h0, yI_same, yI_ne, yR_I, vp_in, Op.lookupswitch.offset, yt0, yt1, ym1, ylt, yl2, yl13, yk38, yk60, ylc]

theorem p1_case38 (l : Launch) (xs : Nat → Int32) (h : XH) (F : FX h) (h0 : (xs 0 &&& 63).toInt = 38) : XB l 6 xs 14 540 false 289 157 6079 (fun rs _ => rs = [xi 1]) 23 xlh [] h := by
  exact p1_38_0 l xs h F h0

set_option maxRecDepth 100000 in
set_option maxHeartbeats 4000000 in
theorem p1_39_0 (l : Launch) (xs : Nat → Int32) (h : XH) (F : FX h) (h0 : (xs 0 &&& 63).toInt = 39) : XB l 6 xs 14 540 false 289 157 6079 (fun rs _ => rs = [xi 1]) 23 xlh [] h := by
  have hN := F.2.2.1
  have hU := F.2.2.2
  refine XB_path (sc := some (6, xs)) (inl := []) (n := 27) (sp := []) (o := [0, 0, 1]) (xin_ok rfl) (Or.inr rfl) rfl rfl (by show xN h ≤ 157; omega) (by show xU h ≤ 6079; omega) ?_ (XB_ret ⟨_, _, _, rfl, rfl, rfl⟩ rfl rfl)
  dsimp only
  simp [z0, z1, z2, z3, z4, z5, h0, yI_same, yI_ne, yR_I, vp_in, Op.lookupswitch.offset, yt0, yt1, ym1, ylt, yl2, yl13, yk38, yk60, ylc]

theorem p1_case39 (l : Launch) (xs : Nat → Int32) (h : XH) (F : FX h) (h0 : (xs 0 &&& 63).toInt = 39) : XB l 6 xs 14 540 false 289 157 6079 (fun rs _ => rs = [xi 1]) 23 xlh [] h := by
  exact p1_39_0 l xs h F h0

set_option maxRecDepth 100000 in
set_option maxHeartbeats 4000000 in
theorem p1_40_0 (l : Launch) (xs : Nat → Int32) (h : XH) (F : FX h) (h0 : (xs 0 &&& 63).toInt = 40) : XB l 6 xs 14 540 false 289 157 6079 (fun rs _ => rs = [xi 1]) 23 xlh [] h := by
  have hN := F.2.2.1
  have hU := F.2.2.2
  refine XB_path (sc := some (6, xs)) (inl := []) (n := 27) (sp := []) (o := [0, 0, 1]) (xin_ok rfl) (Or.inr rfl) rfl rfl (by show xN h ≤ 157; omega) (by show xU h ≤ 6079; omega) ?_ (XB_ret ⟨_, _, _, rfl, rfl, rfl⟩ rfl rfl)
  dsimp only
  simp [z0, z1, z2, z3, z4, z5, h0, yI_same, yI_ne, yR_I, vp_in, Op.lookupswitch.offset, yt0, yt1, ym1, ylt, yl2, yl13, yk38, yk60, ylc]

theorem p1_case40 (l : Launch) (xs : Nat → Int32) (h : XH) (F : FX h) (h0 : (xs 0 &&& 63).toInt = 40) : XB l 6 xs 14 540 false 289 157 6079 (fun rs _ => rs = [xi 1]) 23 xlh [] h := by
  exact p1_40_0 l xs h F h0

set_option maxRecDepth 100000 in
set_option maxHeartbeats 4000000 in
theorem p1_41_0 (l : Launch) (xs : Nat → Int32) (h : XH) (F : FX h) (h0 : (xs 0 &&& 63).toInt = 41) : XB l 6 xs 14 540 false 289 157 6079 (fun rs _ => rs = [xi 1]) 23 xlh [] h := by
  have hN := F.2.2.1
  have hU := F.2.2.2
  refine XB_path (sc := some (6, xs)) (inl := []) (n := 27) (sp := []) (o := [0, 0, 1]) (xin_ok rfl) (Or.inr rfl) rfl rfl (by show xN h ≤ 157; omega) (by show xU h ≤ 6079; omega) ?_ (XB_ret ⟨_, _, _, rfl, rfl, rfl⟩ rfl rfl)
  dsimp only
  simp [z0, z1, z2, z3, z4, z5, h0, yI_same, yI_ne, yR_I, vp_in, Op.lookupswitch.offset, yt0, yt1, ym1, ylt, yl2, yl13, yk38, yk60, ylc]

theorem p1_case41 (l : Launch) (xs : Nat → Int32) (h : XH) (F : FX h) (h0 : (xs 0 &&& 63).toInt = 41) : XB l 6 xs 14 540 false 289 157 6079 (fun rs _ => rs = [xi 1]) 23 xlh [] h := by
  exact p1_41_0 l xs h F h0

set_option maxRecDepth 100000 in
set_option maxHeartbeats 4000000 in
theorem p1_42_0 (l : Launch) (xs : Nat → Int32) (h : XH) (F : FX h) (h0 : (xs 0 &&& 63).toInt = 42) : XB l 6 xs 14 540 false 289 157 6079 (fun rs _ => rs = [xi 1]) 23 xlh [] h := by
  have hN := F.2.2.1
  have hU := F.2.2.2
  refine XB_path (sc := some (6, xs)) (inl := []) (n := 27) (sp := []) (o := [0, 0, 1]) (xin_ok rfl) (Or.inr rfl) rfl rfl (by show xN h ≤ 157; omega) (by show xU h ≤ 6079; omega) ?_ (XB_ret ⟨_, _, _, rfl, rfl, rfl⟩ rfl rfl)
  dsimp only
  simp [z0, z1, z2, z3, z4, z5, h0, yI_same, yI_ne, yR_I, vp_in, Op.lookupswitch.offset, yt0, yt1, ym1, ylt, yl2, yl13, yk38, yk60, ylc]

theorem p1_case42 (l : Launch) (xs : Nat → Int32) (h : XH) (F : FX h) (h0 : (xs 0 &&& 63).toInt = 42) : XB l 6 xs 14 540 false 289 157 6079 (fun rs _ => rs = [xi 1]) 23 xlh [] h := by
  exact p1_42_0 l xs h F h0

set_option maxRecDepth 100000 in
set_option maxHeartbeats 4000000 in
theorem p1_43_0 (l : Launch) (xs : Nat → Int32) (h : XH) (F : FX h) (h0 : (xs 0 &&& 63).toInt = 43) : XB l 6 xs 14 540 false 289 157 6079 (fun rs _ => rs = [xi 1]) 23 xlh [] h := by
  have hN := F.2.2.1
  have hU := F.2.2.2
  refine XB_path (sc := some (6, xs)) (inl := []) (n := 27) (sp := []) (o := [0, 0, 1]) (xin_ok rfl) (Or.inr rfl) rfl rfl (by show xN h ≤ 157; omega) (by show xU h ≤ 6079; omega) ?_ (XB_ret ⟨_, _, _, rfl, rfl, rfl⟩ rfl rfl)
  dsimp only
  simp [z0, z1, z2, z3, z4, z5, h0, yI_same, yI_ne, yR_I, vp_in, Op.lookupswitch.offset, yt0, yt1, ym1, ylt, yl2, yl13, yk38, yk60, ylc]

theorem p1_case43 (l : Launch) (xs : Nat → Int32) (h : XH) (F : FX h) (h0 : (xs 0 &&& 63).toInt = 43) : XB l 6 xs 14 540 false 289 157 6079 (fun rs _ => rs = [xi 1]) 23 xlh [] h := by
  exact p1_43_0 l xs h F h0

set_option maxRecDepth 100000 in
set_option maxHeartbeats 4000000 in
theorem p1_44_0 (l : Launch) (xs : Nat → Int32) (h : XH) (F : FX h) (h0 : (xs 0 &&& 63).toInt = 44) : XB l 6 xs 14 540 false 289 157 6079 (fun rs _ => rs = [xi 1]) 23 xlh [] h := by
  have hN := F.2.2.1
  have hU := F.2.2.2
  refine XB_path (sc := some (6, xs)) (inl := []) (n := 27) (sp := []) (o := [0, 0, 1]) (xin_ok rfl) (Or.inr rfl) rfl rfl (by show xN h ≤ 157; omega) (by show xU h ≤ 6079; omega) ?_ (XB_ret ⟨_, _, _, rfl, rfl, rfl⟩ rfl rfl)
  dsimp only
  simp [z0, z1, z2, z3, z4, z5, h0, yI_same, yI_ne, yR_I, vp_in, Op.lookupswitch.offset, yt0, yt1, ym1, ylt, yl2, yl13, yk38, yk60, ylc]

theorem p1_case44 (l : Launch) (xs : Nat → Int32) (h : XH) (F : FX h) (h0 : (xs 0 &&& 63).toInt = 44) : XB l 6 xs 14 540 false 289 157 6079 (fun rs _ => rs = [xi 1]) 23 xlh [] h := by
  exact p1_44_0 l xs h F h0

set_option maxRecDepth 100000 in
set_option maxHeartbeats 4000000 in
theorem p1_45_0 (l : Launch) (xs : Nat → Int32) (h : XH) (F : FX h) (h0 : (xs 0 &&& 63).toInt = 45) : XB l 6 xs 14 540 false 289 157 6079 (fun rs _ => rs = [xi 1]) 23 xlh [] h := by
  have hN := F.2.2.1
  have hU := F.2.2.2
  refine XB_path (sc := some (6, xs)) (inl := []) (n := 27) (sp := []) (o := [0, 0, 1]) (xin_ok rfl) (Or.inr rfl) rfl rfl (by show xN h ≤ 157; omega) (by show xU h ≤ 6079; omega) ?_ (XB_ret ⟨_, _, _, rfl, rfl, rfl⟩ rfl rfl)
  dsimp only
  simp [z0, z1, z2, z3, z4, z5, h0, yI_same, yI_ne, yR_I, vp_in, Op.lookupswitch.offset, yt0, yt1, ym1, ylt, yl2, yl13, yk38, yk60, ylc]

theorem p1_case45 (l : Launch) (xs : Nat → Int32) (h : XH) (F : FX h) (h0 : (xs 0 &&& 63).toInt = 45) : XB l 6 xs 14 540 false 289 157 6079 (fun rs _ => rs = [xi 1]) 23 xlh [] h := by
  exact p1_45_0 l xs h F h0

set_option maxRecDepth 100000 in
set_option maxHeartbeats 4000000 in
theorem p1_46_0 (l : Launch) (xs : Nat → Int32) (h : XH) (F : FX h) (h0 : (xs 0 &&& 63).toInt = 46) : XB l 6 xs 14 540 false 289 157 6079 (fun rs _ => rs = [xi 1]) 23 xlh [] h := by
  have hN := F.2.2.1
  have hU := F.2.2.2
  refine XB_path (sc := some (6, xs)) (inl := []) (n := 27) (sp := []) (o := [0, 0, 1]) (xin_ok rfl) (Or.inr rfl) rfl rfl (by show xN h ≤ 157; omega) (by show xU h ≤ 6079; omega) ?_ (XB_ret ⟨_, _, _, rfl, rfl, rfl⟩ rfl rfl)
  dsimp only
  simp [z0, z1, z2, z3, z4, z5, h0, yI_same, yI_ne, yR_I, vp_in, Op.lookupswitch.offset, yt0, yt1, ym1, ylt, yl2, yl13, yk38, yk60, ylc]

theorem p1_case46 (l : Launch) (xs : Nat → Int32) (h : XH) (F : FX h) (h0 : (xs 0 &&& 63).toInt = 46) : XB l 6 xs 14 540 false 289 157 6079 (fun rs _ => rs = [xi 1]) 23 xlh [] h := by
  exact p1_46_0 l xs h F h0

set_option maxRecDepth 100000 in
set_option maxHeartbeats 4000000 in
theorem p1_47_0 (l : Launch) (xs : Nat → Int32) (h : XH) (F : FX h) (h0 : (xs 0 &&& 63).toInt = 47) : XB l 6 xs 14 540 false 289 157 6079 (fun rs _ => rs = [xi 1]) 23 xlh [] h := by
  have hN := F.2.2.1
  have hU := F.2.2.2
  refine XB_path (sc := some (6, xs)) (inl := []) (n := 27) (sp := []) (o := [0, 0, 1]) (xin_ok rfl) (Or.inr rfl) rfl rfl (by show xN h ≤ 157; omega) (by show xU h ≤ 6079; omega) ?_ (XB_ret ⟨_, _, _, rfl, rfl, rfl⟩ rfl rfl)
  dsimp only
  simp [z0, z1, z2, z3, z4, z5, h0, yI_same, yI_ne, yR_I, vp_in, Op.lookupswitch.offset, yt0, yt1, ym1, ylt, yl2, yl13, yk38, yk60, ylc]

theorem p1_case47 (l : Launch) (xs : Nat → Int32) (h : XH) (F : FX h) (h0 : (xs 0 &&& 63).toInt = 47) : XB l 6 xs 14 540 false 289 157 6079 (fun rs _ => rs = [xi 1]) 23 xlh [] h := by
  exact p1_47_0 l xs h F h0

set_option maxRecDepth 100000 in
set_option maxHeartbeats 4000000 in
theorem p1_48_0 (l : Launch) (xs : Nat → Int32) (h : XH) (F : FX h) (h0 : (xs 0 &&& 63).toInt = 48) : XB l 6 xs 14 540 false 289 157 6079 (fun rs _ => rs = [xi 1]) 23 xlh [] h := by
  have hN := F.2.2.1
  have hU := F.2.2.2
  refine XB_path (sc := some (6, xs)) (inl := []) (n := 27) (sp := []) (o := [0, 0, 1]) (xin_ok rfl) (Or.inr rfl) rfl rfl (by show xN h ≤ 157; omega) (by show xU h ≤ 6079; omega) ?_ (XB_ret ⟨_, _, _, rfl, rfl, rfl⟩ rfl rfl)
  dsimp only
  simp [z0, z1, z2, z3, z4, z5, h0, yI_same, yI_ne, yR_I, vp_in, Op.lookupswitch.offset, yt0, yt1, ym1, ylt, yl2, yl13, yk38, yk60, ylc]

theorem p1_case48 (l : Launch) (xs : Nat → Int32) (h : XH) (F : FX h) (h0 : (xs 0 &&& 63).toInt = 48) : XB l 6 xs 14 540 false 289 157 6079 (fun rs _ => rs = [xi 1]) 23 xlh [] h := by
  exact p1_48_0 l xs h F h0

set_option maxRecDepth 100000 in
set_option maxHeartbeats 4000000 in
theorem p1_49_0 (l : Launch) (xs : Nat → Int32) (h : XH) (F : FX h) (h0 : (xs 0 &&& 63).toInt = 49) : XB l 6 xs 14 540 false 289 157 6079 (fun rs _ => rs = [xi 1]) 23 xlh [] h := by
  have hN := F.2.2.1
  have hU := F.2.2.2
  refine XB_path (sc := some (6, xs)) (inl := []) (n := 27) (sp := []) (o := [0, 0, 1]) (xin_ok rfl) (Or.inr rfl) rfl rfl (by show xN h ≤ 157; omega) (by show xU h ≤ 6079; omega) ?_ (XB_ret ⟨_, _, _, rfl, rfl, rfl⟩ rfl rfl)
  dsimp only
  simp [z0, z1, z2, z3, z4, z5, h0, yI_same, yI_ne, yR_I, vp_in, Op.lookupswitch.offset, yt0, yt1, ym1, ylt, yl2, yl13, yk38, yk60, ylc]

theorem p1_case49 (l : Launch) (xs : Nat → Int32) (h : XH) (F : FX h) (h0 : (xs 0 &&& 63).toInt = 49) : XB l 6 xs 14 540 false 289 157 6079 (fun rs _ => rs = [xi 1]) 23 xlh [] h := by
  exact p1_49_0 l xs h F h0

set_option maxRecDepth 100000 in
set_option maxHeartbeats 4000000 in
theorem p1_50_0 (l : Launch) (xs : Nat → Int32) (h : XH) (F : FX h) (h0 : (xs 0 &&& 63).toInt = 50) : XB l 6 xs 14 540 false 289 157 6079 (fun rs _ => rs = [xi 1]) 23 xlh [] h := by
  have hN := F.2.2.1
  have hU := F.2.2.2
  refine XB_path (sc := some (6, xs)) (inl := []) (n := 27) (sp := []) (o := [0, 0, 1]) (xin_ok rfl) (Or.inr rfl) rfl rfl (by show xN h ≤ 157; omega) (by show xU h ≤ 6079; omega) ?_ (XB_ret ⟨_, _, _, rfl, rfl, rfl⟩ rfl rfl)
  dsimp only
  simp [z0, z1, z2, z3, z4, z5, h0, yI_same, yI_ne, yR_I, vp_in, Op.lookupswitch.offset, yt0, yt1, ym1, ylt, yl2, yl13, yk38, yk60, ylc]

theorem p1_case50 (l : Launch) (xs : Nat → Int32) (h : XH) (F : FX h) (h0 : (xs 0 &&& 63).toInt = 50) : XB l 6 xs 14 540 false 289 157 6079 (fun rs _ => rs = [xi 1]) 23 xlh [] h := by
  exact p1_50_0 l xs h F h0

set_option maxRecDepth 100000 in
set_option maxHeartbeats 4000000 in
theorem p1_51_0 (l : Launch) (xs : Nat → Int32) (h : XH) (F : FX h) (h0 : (xs 0 &&& 63).toInt = 51) : XB l 6 xs 14 540 false 289 157 6079 (fun rs _ => rs = [xi 1]) 23 xlh [] h := by
  have hN := F.2.2.1
  have hU := F.2.2.2
  refine XB_path (sc := some (6, xs)) (inl := []) (n := 27) (sp := []) (o := [0, 0, 1]) (xin_ok rfl) (Or.inr rfl) rfl rfl (by show xN h ≤ 157; omega) (by show xU h ≤ 6079; omega) ?_ (XB_ret ⟨_, _, _, rfl, rfl, rfl⟩ rfl rfl)
  dsimp only
  simp [z0, z1, z2, z3, z4, z5, h0, yI_same, yI_ne, yR_I, vp_in, Op.lookupswitch.offset, yt0, yt1, ym1, ylt, yl2, yl13, yk38, yk60, ylc]

theorem p1_case51 (l : Launch) (xs : Nat → Int32) (h : XH) (F : FX h) (h0 : (xs 0 &&& 63).toInt = 51) : XB l 6 xs 14 540 false 289 157 6079 (fun rs _ => rs = [xi 1]) 23 xlh [] h := by
  exact p1_51_0 l xs h F h0

set_option maxRecDepth 100000 in
set_option maxHeartbeats 4000000 in
theorem p1_52_0 (l : Launch) (xs : Nat → Int32) (h : XH) (F : FX h) (h0 : (xs 0 &&& 63).toInt = 52) : XB l 6 xs 14 540 false 289 157 6079 (fun rs _ => rs = [xi 1]) 23 xlh [] h := by
  have hN := F.2.2.1
  have hU := F.2.2.2
  refine XB_path (sc := some (6, xs)) (inl := []) (n := 27) (sp := []) (o := [0, 0, 1]) (xin_ok rfl) (Or.inr rfl) rfl rfl (by show xN h ≤ 157; omega) (by show xU h ≤ 6079; omega) ?_ (XB_ret ⟨_, _, _, rfl, rfl, rfl⟩ rfl rfl)
  dsimp only
  simp [z0, z1, z2, z3, z4, z5, h0, yI_same, yI_ne, yR_I, vp_in, Op.lookupswitch.offset, yt0, yt1, ym1, ylt, yl2, yl13, yk38, yk60, ylc]

theorem p1_case52 (l : Launch) (xs : Nat → Int32) (h : XH) (F : FX h) (h0 : (xs 0 &&& 63).toInt = 52) : XB l 6 xs 14 540 false 289 157 6079 (fun rs _ => rs = [xi 1]) 23 xlh [] h := by
  exact p1_52_0 l xs h F h0

set_option maxRecDepth 100000 in
set_option maxHeartbeats 4000000 in
theorem p1_53_0 (l : Launch) (xs : Nat → Int32) (h : XH) (F : FX h) (h0 : (xs 0 &&& 63).toInt = 53) : XB l 6 xs 14 540 false 289 157 6079 (fun rs _ => rs = [xi 1]) 23 xlh [] h := by
  have hN := F.2.2.1
  have hU := F.2.2.2
  refine XB_path (sc := some (6, xs)) (inl := []) (n := 27) (sp := []) (o := [0, 0, 1]) (xin_ok rfl) (Or.inr rfl) rfl rfl (by show xN h ≤ 157; omega) (by show xU h ≤ 6079; omega) ?_ (XB_ret ⟨_, _, _, rfl, rfl, rfl⟩ rfl rfl)
  dsimp only
  simp [z0, z1, z2, z3, z4, z5, h0, yI_same, yI_ne, yR_I, vp_in, Op.lookupswitch.offset, yt0, yt1, ym1, ylt, yl2, yl13, yk38, yk60, ylc]

theorem p1_case53 (l : Launch) (xs : Nat → Int32) (h : XH) (F : FX h) (h0 : (xs 0 &&& 63).toInt = 53) : XB l 6 xs 14 540 false 289 157 6079 (fun rs _ => rs = [xi 1]) 23 xlh [] h := by
  exact p1_53_0 l xs h F h0

set_option maxRecDepth 100000 in
set_option maxHeartbeats 4000000 in
theorem p1_54_0 (l : Launch) (xs : Nat → Int32) (h : XH) (F : FX h) (h0 : (xs 0 &&& 63).toInt = 54) : XB l 6 xs 14 540 false 289 157 6079 (fun rs _ => rs = [xi 1]) 23 xlh [] h := by
  have hN := F.2.2.1
  have hU := F.2.2.2
  refine XB_path (sc := some (6, xs)) (inl := []) (n := 27) (sp := []) (o := [0, 0, 1]) (xin_ok rfl) (Or.inr rfl) rfl rfl (by show xN h ≤ 157; omega) (by show xU h ≤ 6079; omega) ?_ (XB_ret ⟨_, _, _, rfl, rfl, rfl⟩ rfl rfl)
  dsimp only
  simp [z0, z1, z2, z3, z4, z5, h0, yI_same, yI_ne, yR_I, vp_in, Op.lookupswitch.offset, yt0, yt1, ym1, ylt, yl2, yl13, yk38, yk60, ylc]

theorem p1_case54 (l : Launch) (xs : Nat → Int32) (h : XH) (F : FX h) (h0 : (xs 0 &&& 63).toInt = 54) : XB l 6 xs 14 540 false 289 157 6079 (fun rs _ => rs = [xi 1]) 23 xlh [] h := by
  exact p1_54_0 l xs h F h0

set_option maxRecDepth 100000 in
set_option maxHeartbeats 4000000 in
theorem p1_55_0 (l : Launch) (xs : Nat → Int32) (h : XH) (F : FX h) (h0 : (xs 0 &&& 63).toInt = 55) : XB l 6 xs 14 540 false 289 157 6079 (fun rs _ => rs = [xi 1]) 23 xlh [] h := by
  have hN := F.2.2.1
  have hU := F.2.2.2
  refine XB_path (sc := some (6, xs)) (inl := []) (n := 27) (sp := []) (o := [0, 0, 1]) (xin_ok rfl) (Or.inr rfl) rfl rfl (by show xN h ≤ 157; omega) (by show xU h ≤ 6079; omega) ?_ (XB_ret ⟨_, _, _, rfl, rfl, rfl⟩ rfl rfl)
  dsimp only
  simp [z0, z1, z2, z3, z4, z5, h0, yI_same, yI_ne, yR_I, vp_in, Op.lookupswitch.offset, yt0, yt1, ym1, ylt, yl2, yl13, yk38, yk60, ylc]

theorem p1_case55 (l : Launch) (xs : Nat → Int32) (h : XH) (F : FX h) (h0 : (xs 0 &&& 63).toInt = 55) : XB l 6 xs 14 540 false 289 157 6079 (fun rs _ => rs = [xi 1]) 23 xlh [] h := by
  exact p1_55_0 l xs h F h0

set_option maxRecDepth 100000 in
set_option maxHeartbeats 4000000 in
theorem p1_56_0 (l : Launch) (xs : Nat → Int32) (h : XH) (F : FX h) (h0 : (xs 0 &&& 63).toInt = 56) : XB l 6 xs 14 540 false 289 157 6079 (fun rs _ => rs = [xi 1]) 23 xlh [] h := by
  have hN := F.2.2.1
  have hU := F.2.2.2
  refine XB_path (sc := some (6, xs)) (inl := []) (n := 27) (sp := []) (o := [0, 0, 1]) (xin_ok rfl) (Or.inr rfl) rfl rfl (by show xN h ≤ 157; omega) (by show xU h ≤ 6079; omega) ?_ (XB_ret ⟨_, _, _, rfl, rfl, rfl⟩ rfl rfl)
  dsimp only
  simp [z0, z1, z2, z3, z4, z5, h0, yI_same, yI_ne, yR_I, vp_in, Op.lookupswitch.offset, yt0, yt1, ym1, ylt, yl2, yl13, yk38, yk60, ylc]

theorem p1_case56 (l : Launch) (xs : Nat → Int32) (h : XH) (F : FX h) (h0 : (xs 0 &&& 63).toInt = 56) : XB l 6 xs 14 540 false 289 157 6079 (fun rs _ => rs = [xi 1]) 23 xlh [] h := by
  exact p1_56_0 l xs h F h0

set_option maxRecDepth 100000 in
set_option maxHeartbeats 4000000 in
theorem p1_57_0 (l : Launch) (xs : Nat → Int32) (h : XH) (F : FX h) (h0 : (xs 0 &&& 63).toInt = 57) : XB l 6 xs 14 540 false 289 157 6079 (fun rs _ => rs = [xi 1]) 23 xlh [] h := by
  have hN := F.2.2.1
  have hU := F.2.2.2
  refine XB_path (sc := some (6, xs)) (inl := []) (n := 27) (sp := []) (o := [0, 0, 1]) (xin_ok rfl) (Or.inr rfl) rfl rfl (by show xN h ≤ 157; omega) (by show xU h ≤ 6079; omega) ?_ (XB_ret ⟨_, _, _, rfl, rfl, rfl⟩ rfl rfl)
  dsimp only
  simp [z0, z1, z2, z3, z4, z5, h0, yI_same, yI_ne, yR_I, vp_in, Op.lookupswitch.offset, yt0, yt1, ym1, ylt, yl2, yl13, yk38, yk60, ylc]

theorem p1_case57 (l : Launch) (xs : Nat → Int32) (h : XH) (F : FX h) (h0 : (xs 0 &&& 63).toInt = 57) : XB l 6 xs 14 540 false 289 157 6079 (fun rs _ => rs = [xi 1]) 23 xlh [] h := by
  exact p1_57_0 l xs h F h0

set_option maxRecDepth 100000 in
set_option maxHeartbeats 4000000 in
theorem p1_58_0 (l : Launch) (xs : Nat → Int32) (h : XH) (F : FX h) (h0 : (xs 0 &&& 63).toInt = 58) : XB l 6 xs 14 540 false 289 157 6079 (fun rs _ => rs = [xi 1]) 23 xlh [] h := by
  have hN := F.2.2.1
  have hU := F.2.2.2
  refine XB_path (sc := some (6, xs)) (inl := []) (n := 27) (sp := []) (o := [0, 0, 1]) (xin_ok rfl) (Or.inr rfl) rfl rfl (by show xN h ≤ 157; omega) (by show xU h ≤ 6079; omega) ?_ (XB_ret ⟨_, _, _, rfl, rfl, rfl⟩ rfl rfl)
  dsimp only
  simp [z0, z1, z2, z3, z4, z5, h0, yI_same, yI_ne, yR_I, vp_in, Op.lookupswitch.offset, yt0, yt1, ym1, ylt, yl2, yl13, yk38, yk60, ylc]

theorem p1_case58 (l : Launch) (xs : Nat → Int32) (h : XH) (F : FX h) (h0 : (xs 0 &&& 63).toInt = 58) : XB l 6 xs 14 540 false 289 157 6079 (fun rs _ => rs = [xi 1]) 23 xlh [] h := by
  exact p1_58_0 l xs h F h0

set_option maxRecDepth 100000 in
set_option maxHeartbeats 4000000 in
theorem p1_59_0 (l : Launch) (xs : Nat → Int32) (h : XH) (F : FX h) (h0 : (xs 0 &&& 63).toInt = 59) : XB l 6 xs 14 540 false 289 157 6079 (fun rs _ => rs = [xi 1]) 23 xlh [] h := by
  have hN := F.2.2.1
  have hU := F.2.2.2
  refine XB_path (sc := some (6, xs)) (inl := []) (n := 27) (sp := []) (o := [0, 0, 1]) (xin_ok rfl) (Or.inr rfl) rfl rfl (by show xN h ≤ 157; omega) (by show xU h ≤ 6079; omega) ?_ (XB_ret ⟨_, _, _, rfl, rfl, rfl⟩ rfl rfl)
  dsimp only
  simp [z0, z1, z2, z3, z4, z5, h0, yI_same, yI_ne, yR_I, vp_in, Op.lookupswitch.offset, yt0, yt1, ym1, ylt, yl2, yl13, yk38, yk60, ylc]

theorem p1_case59 (l : Launch) (xs : Nat → Int32) (h : XH) (F : FX h) (h0 : (xs 0 &&& 63).toInt = 59) : XB l 6 xs 14 540 false 289 157 6079 (fun rs _ => rs = [xi 1]) 23 xlh [] h := by
  exact p1_59_0 l xs h F h0

set_option maxRecDepth 100000 in
set_option maxHeartbeats 4000000 in
theorem p1_60_0 (l : Launch) (xs : Nat → Int32) (h : XH) (F : FX h) (h0 : (xs 0 &&& 63).toInt = 60) : XB l 6 xs 14 540 false 289 157 6079 (fun rs _ => rs = [xi 1]) 23 xlh [] h := by
  have hN := F.2.2.1
  have hU := F.2.2.2
  refine XB_path (sc := some (6, xs)) (inl := []) (n := 27) (sp := []) (o := [0, 0, 1]) (xin_ok rfl) (Or.inr rfl) rfl rfl (by show xN h ≤ 157; omega) (by show xU h ≤ 6079; omega) ?_ (XB_ret ⟨_, _, _, rfl, rfl, rfl⟩ rfl rfl)
  dsimp only
  simp [z0, z1, z2, z3, z4, z5, h0, yI_same, yI_ne, yR_I, vp_in, Op.lookupswitch.offset, yt0, yt1, ym1, ylt, yl2, yl13, yk38, yk60, ylc]

theorem p1_case60 (l : Launch) (xs : Nat → Int32) (h : XH) (F : FX h) (h0 : (xs 0 &&& 63).toInt = 60) : XB l 6 xs 14 540 false 289 157 6079 (fun rs _ => rs = [xi 1]) 23 xlh [] h := by
  exact p1_60_0 l xs h F h0

set_option maxRecDepth 100000 in
set_option maxHeartbeats 4000000 in
theorem p1_61_0 (l : Launch) (xs : Nat → Int32) (h : XH) (F : FX h) (h0 : (xs 0 &&& 63).toInt = 61) : XB l 6 xs 14 540 false 289 157 6079 (fun rs _ => rs = [xi 1]) 23 xlh [] h := by
  have hN := F.2.2.1
  have hU := F.2.2.2
  refine XB_path (sc := some (6, xs)) (inl := []) (n := 27) (sp := []) (o := [0, 0, 1]) (xin_ok rfl) (Or.inr rfl) rfl rfl (by show xN h ≤ 157; omega) (by show xU h ≤ 6079; omega) ?_ (XB_ret ⟨_, _, _, rfl, rfl, rfl⟩ rfl rfl)
  dsimp only
  simp [z0, z1, z2, z3, z4, z5, h0, yI_same, yI_ne, yR_I, vp_in, Op.lookupswitch.offset, yt0, yt1, ym1, ylt, yl2, yl13, yk38, yk60, ylc]

theorem p1_case61 (l : Launch) (xs : Nat → Int32) (h : XH) (F : FX h) (h0 : (xs 0 &&& 63).toInt = 61) : XB l 6 xs 14 540 false 289 157 6079 (fun rs _ => rs = [xi 1]) 23 xlh [] h := by
  exact p1_61_0 l xs h F h0

set_option maxRecDepth 100000 in
set_option maxHeartbeats 4000000 in
theorem p1_62_0 (l : Launch) (xs : Nat → Int32) (h : XH) (F : FX h) (h0 : (xs 0 &&& 63).toInt = 62) : XB l 6 xs 14 540 false 289 157 6079 (fun rs _ => rs = [xi 1]) 23 xlh [] h := by
  have hN := F.2.2.1
  have hU := F.2.2.2
  refine XB_path (sc := some (6, xs)) (inl := []) (n := 27) (sp := []) (o := [0, 0, 1]) (xin_ok rfl) (Or.inr rfl) rfl rfl (by show xN h ≤ 157; omega) (by show xU h ≤ 6079; omega) ?_ (XB_ret ⟨_, _, _, rfl, rfl, rfl⟩ rfl rfl)
  dsimp only
  simp [z0, z1, z2, z3, z4, z5, h0, yI_same, yI_ne, yR_I, vp_in, Op.lookupswitch.offset, yt0, yt1, ym1, ylt, yl2, yl13, yk38, yk60, ylc]

theorem p1_case62 (l : Launch) (xs : Nat → Int32) (h : XH) (F : FX h) (h0 : (xs 0 &&& 63).toInt = 62) : XB l 6 xs 14 540 false 289 157 6079 (fun rs _ => rs = [xi 1]) 23 xlh [] h := by
  exact p1_62_0 l xs h F h0

set_option maxRecDepth 100000 in
set_option maxHeartbeats 4000000 in
theorem p1_63_0 (l : Launch) (xs : Nat → Int32) (h : XH) (F : FX h) (h0 : (xs 0 &&& 63).toInt = 63) : XB l 6 xs 14 540 false 289 157 6079 (fun rs _ => rs = [xi 1]) 23 xlh [] h := by
  have hN := F.2.2.1
  have hU := F.2.2.2
  refine XB_path (sc := some (6, xs)) (inl := []) (n := 27) (sp := []) (o := [0, 0, 1]) (xin_ok rfl) (Or.inr rfl) rfl rfl (by show xN h ≤ 157; omega) (by show xU h ≤ 6079; omega) ?_ (XB_ret ⟨_, _, _, rfl, rfl, rfl⟩ rfl rfl)
  dsimp only
  simp [z0, z1, z2, z3, z4, z5, h0, yI_same, yI_ne, yR_I, vp_in, Op.lookupswitch.offset, yt0, yt1, ym1, ylt, yl2, yl13, yk38, yk60, ylc]

theorem p1_case63 (l : Launch) (xs : Nat → Int32) (h : XH) (F : FX h) (h0 : (xs 0 &&& 63).toInt = 63) : XB l 6 xs 14 540 false 289 157 6079 (fun rs _ => rs = [xi 1]) 23 xlh [] h := by
  exact p1_63_0 l xs h F h0

theorem p1_short0 (l : Launch) (xs : Nat → Int32) (h : XH) (F : FX h) : XB l 0 xs 14 540 false 289 157 6079 (fun rs _ => rs = [xi 1]) 23 xlh [] h := by
  have hN := F.2.2.1
  have hU := F.2.2.2
  refine XB_path (sc := some (0, xs)) (inl := []) (n := 13) (sp := []) (o := [1]) (xin_ok rfl) (Or.inr rfl) rfl rfl (by show xN h ≤ 157; omega) (by show xU h ≤ 6079; omega) ?_ (XB_ret ⟨_, _, _, rfl, rfl, rfl⟩ rfl rfl)
  dsimp only
  simp
  try decide

theorem p1_short1 (l : Launch) (xs : Nat → Int32) (h : XH) (F : FX h) : XB l 1 xs 14 540 false 289 157 6079 (fun rs _ => rs = [xi 1]) 23 xlh [] h := by
  have hN := F.2.2.1
  have hU := F.2.2.2
  refine XB_path (sc := some (1, xs)) (inl := []) (n := 13) (sp := []) (o := [1]) (xin_ok rfl) (Or.inr rfl) rfl rfl (by show xN h ≤ 157; omega) (by show xU h ≤ 6079; omega) ?_ (XB_ret ⟨_, _, _, rfl, rfl, rfl⟩ rfl rfl)
  dsimp only
  simp
  try decide

theorem p1_short2 (l : Launch) (xs : Nat → Int32) (h : XH) (F : FX h) : XB l 2 xs 14 540 false 289 157 6079 (fun rs _ => rs = [xi 1]) 23 xlh [] h := by
  have hN := F.2.2.1
  have hU := F.2.2.2
  refine XB_path (sc := some (2, xs)) (inl := []) (n := 13) (sp := []) (o := [1]) (xin_ok rfl) (Or.inr rfl) rfl rfl (by show xN h ≤ 157; omega) (by show xU h ≤ 6079; omega) ?_ (XB_ret ⟨_, _, _, rfl, rfl, rfl⟩ rfl rfl)
  dsimp only
  simp
  try decide

theorem p1_short3 (l : Launch) (xs : Nat → Int32) (h : XH) (F : FX h) : XB l 3 xs 14 540 false 289 157 6079 (fun rs _ => rs = [xi 1]) 23 xlh [] h := by
  have hN := F.2.2.1
  have hU := F.2.2.2
  refine XB_path (sc := some (3, xs)) (inl := []) (n := 13) (sp := []) (o := [1]) (xin_ok rfl) (Or.inr rfl) rfl rfl (by show xN h ≤ 157; omega) (by show xU h ≤ 6079; omega) ?_ (XB_ret ⟨_, _, _, rfl, rfl, rfl⟩ rfl rfl)
  dsimp only
  simp
  try decide

theorem p1_short4 (l : Launch) (xs : Nat → Int32) (h : XH) (F : FX h) : XB l 4 xs 14 540 false 289 157 6079 (fun rs _ => rs = [xi 1]) 23 xlh [] h := by
  have hN := F.2.2.1
  have hU := F.2.2.2
  refine XB_path (sc := some (4, xs)) (inl := []) (n := 13) (sp := []) (o := [1]) (xin_ok rfl) (Or.inr rfl) rfl rfl (by show xN h ≤ 157; omega) (by show xU h ≤ 6079; omega) ?_ (XB_ret ⟨_, _, _, rfl, rfl, rfl⟩ rfl rfl)
  dsimp only
  simp
  try decide

theorem p1_short5 (l : Launch) (xs : Nat → Int32) (h : XH) (F : FX h) : XB l 5 xs 14 540 false 289 157 6079 (fun rs _ => rs = [xi 1]) 23 xlh [] h := by
  have hN := F.2.2.1
  have hU := F.2.2.2
  refine XB_path (sc := some (5, xs)) (inl := []) (n := 13) (sp := []) (o := [1]) (xin_ok rfl) (Or.inr rfl) rfl rfl (by show xN h ≤ 157; omega) (by show xU h ≤ 6079; omega) ?_ (XB_ret ⟨_, _, _, rfl, rfl, rfl⟩ rfl rfl)
  dsimp only
  simp
  try decide
