/-! p1: feed on fresh objects. -/
def fzR : List (Nat × Nat × Nat) := [(2, 0, 45), (45, 0, 46), (104, 0, 105)]
def fzI : List (Nat × Nat × Int32) := []
def YF (h : XH) (f t : Int32) : Prop := FYL fzR fzI h ∧ xI h 45 1 = f ∧ xI h 104 1 = t

set_option maxRecDepth 100000 in
set_option maxHeartbeats 1000000 in
theorem p1_app0 (l : Launch) (h : XH) (v : Int32) (Y : YF h 0 0) : ∃ h', CX l 12 480 false 14 [xf 7 45, xi v] h [] h' ∧ YF h' 4 0 := by
  obtain ⟨h1, t1, Y1⟩ : ∃ h', XT l 12 480 false 14 153 6051 0 [xf 7 45, xi v, xun] [] h 46 [xf 7 45, xi v, xi (-8)] [] h' ∧ YF h' 4 0 := by
    have r0 : xR h 45 0 = 46 := Y.1.1 (45, 0, 46) (by decide)
    have k0 : xfk 7 0 = 20700 := rfl
    obtain ⟨-, u0, u1⟩ := id Y
    refine ⟨_, XT_path (inl := []) (n' := 101) (sp := [46]) (o := [0, 0, 0, 0, 0, 0, 0, 0, 1]) rfl rfl ?_ rfl ⟨Nat.le_of_eq Y.1.2.2.1, Nat.le_of_eq Y.1.2.2.2⟩ ?_, ?_, ?_, ?_⟩
    · refine ⟨rfl, ?_, ?_⟩ <;> first | rfl | (dsimp only; simp [r0, k0, u0, u1, yI_same, yI_ne, yI_c, yR_I, yI_row, yR_row, yI_R, yR_ne, yR_same, yI_L, yR_L, vp_in, z_32] <;> rfl)
    · first | trivial | (dsimp only; simp [r0, k0, u0, u1, yI_same, yI_ne, yI_c, yR_I, yI_row, yR_row, yI_R, yR_ne, yR_same, yI_L, yR_L, vp_in, z_32]; done)
    · dsimp only
      try simp [r0, yR_I, yR_row, yI_R, yR_ne, yR_same]
      (repeat (first | exact Y.1 | (refine FYL.setI ?_ rfl) | (refine FYL.setC ?_ rfl) | (refine FYL.row ?_ rfl) | (refine FYL.setR ?_ rfl) | (refine FYL.setRv ?_ (by first | assumption | (simp [r0, k0, yR_I, yR_row, yR_ne]; done)) rfl)))
    · first | exact u0 | (dsimp only; simp [r0, k0, u0, u1, yI_same, yI_ne, yI_c, yR_I, yI_row, yR_row, yI_R, yR_ne, yR_same, yI_L, yR_L, vp_in, z_32]; done)
    · first | exact u1 | (dsimp only; simp [r0, k0, u0, u1, yI_same, yI_ne, yI_c, yR_I, yI_row, yR_row, yI_R, yR_ne, yR_same, yI_L, yR_L, vp_in, z_32]; done)
  exact ⟨h1, CX_ofT (by decide) rfl rfl trivial ⟨_, _, _, rfl, rfl, rfl⟩ rfl ⟨Nat.le_of_eq Y1.1.2.2.1.symm, Nat.le_of_eq Y1.1.2.2.2.symm⟩ t1, Y1⟩

set_option maxRecDepth 100000 in
set_option maxHeartbeats 1000000 in
theorem p1_app4 (l : Launch) (h : XH) (v : Int32) (Y : YF h 4 0) : ∃ h', CX l 12 480 false 14 [xf 7 45, xi v] h [] h' ∧ YF h' 8 0 := by
  obtain ⟨h1, t1, Y1⟩ : ∃ h', XT l 12 480 false 14 153 6051 0 [xf 7 45, xi v, xun] [] h 46 [xf 7 45, xi v, xi (-8)] [] h' ∧ YF h' 8 0 := by
    have r0 : xR h 45 0 = 46 := Y.1.1 (45, 0, 46) (by decide)
    have k0 : xfk 7 0 = 20700 := rfl
    obtain ⟨-, u0, u1⟩ := id Y
    refine ⟨_, XT_path (inl := []) (n' := 101) (sp := [46]) (o := [0, 0, 0, 0, 0, 0, 0, 0, 1]) rfl rfl ?_ rfl ⟨Nat.le_of_eq Y.1.2.2.1, Nat.le_of_eq Y.1.2.2.2⟩ ?_, ?_, ?_, ?_⟩
    · refine ⟨rfl, ?_, ?_⟩ <;> first | rfl | (dsimp only; simp [r0, k0, u0, u1, yI_same, yI_ne, yI_c, yR_I, yI_row, yR_row, yI_R, yR_ne, yR_same, yI_L, yR_L, vp_in, z_32] <;> rfl)
    · first | trivial | (dsimp only; simp [r0, k0, u0, u1, yI_same, yI_ne, yI_c, yR_I, yI_row, yR_row, yI_R, yR_ne, yR_same, yI_L, yR_L, vp_in, z_32]; done)
    · dsimp only
      try simp [r0, yR_I, yR_row, yI_R, yR_ne, yR_same]
      (repeat (first | exact Y.1 | (refine FYL.setI ?_ rfl) | (refine FYL.setC ?_ rfl) | (refine FYL.row ?_ rfl) | (refine FYL.setR ?_ rfl) | (refine FYL.setRv ?_ (by first | assumption | (simp [r0, k0, yR_I, yR_row, yR_ne]; done)) rfl)))
    · first | exact u0 | (dsimp only; simp [r0, k0, u0, u1, yI_same, yI_ne, yI_c, yR_I, yI_row, yR_row, yI_R, yR_ne, yR_same, yI_L, yR_L, vp_in, z_32]; done)
    · first | exact u1 | (dsimp only; simp [r0, k0, u0, u1, yI_same, yI_ne, yI_c, yR_I, yI_row, yR_row, yI_R, yR_ne, yR_same, yI_L, yR_L, vp_in, z_32]; done)
  exact ⟨h1, CX_ofT (by decide) rfl rfl trivial ⟨_, _, _, rfl, rfl, rfl⟩ rfl ⟨Nat.le_of_eq Y1.1.2.2.1.symm, Nat.le_of_eq Y1.1.2.2.2.symm⟩ t1, Y1⟩

set_option maxRecDepth 100000 in
set_option maxHeartbeats 1000000 in
theorem p1_app8 (l : Launch) (h : XH) (v : Int32) (Y : YF h 8 0) : ∃ h', CX l 12 480 false 14 [xf 7 45, xi v] h [] h' ∧ YF h' 12 0 := by
  obtain ⟨h1, t1, Y1⟩ : ∃ h', XT l 12 480 false 14 153 6051 0 [xf 7 45, xi v, xun] [] h 46 [xf 7 45, xi v, xi (-8)] [] h' ∧ YF h' 12 0 := by
    have r0 : xR h 45 0 = 46 := Y.1.1 (45, 0, 46) (by decide)
    have k0 : xfk 7 0 = 20700 := rfl
    obtain ⟨-, u0, u1⟩ := id Y
    refine ⟨_, XT_path (inl := []) (n' := 101) (sp := [46]) (o := [0, 0, 0, 0, 0, 0, 0, 0, 1]) rfl rfl ?_ rfl ⟨Nat.le_of_eq Y.1.2.2.1, Nat.le_of_eq Y.1.2.2.2⟩ ?_, ?_, ?_, ?_⟩
    · refine ⟨rfl, ?_, ?_⟩ <;> first | rfl | (dsimp only; simp [r0, k0, u0, u1, yI_same, yI_ne, yI_c, yR_I, yI_row, yR_row, yI_R, yR_ne, yR_same, yI_L, yR_L, vp_in, z_32] <;> rfl)
    · first | trivial | (dsimp only; simp [r0, k0, u0, u1, yI_same, yI_ne, yI_c, yR_I, yI_row, yR_row, yI_R, yR_ne, yR_same, yI_L, yR_L, vp_in, z_32]; done)
    · dsimp only
      try simp [r0, yR_I, yR_row, yI_R, yR_ne, yR_same]
      (repeat (first | exact Y.1 | (refine FYL.setI ?_ rfl) | (refine FYL.setC ?_ rfl) | (refine FYL.row ?_ rfl) | (refine FYL.setR ?_ rfl) | (refine FYL.setRv ?_ (by first | assumption | (simp [r0, k0, yR_I, yR_row, yR_ne]; done)) rfl)))
    · first | exact u0 | (dsimp only; simp [r0, k0, u0, u1, yI_same, yI_ne, yI_c, yR_I, yI_row, yR_row, yI_R, yR_ne, yR_same, yI_L, yR_L, vp_in, z_32]; done)
    · first | exact u1 | (dsimp only; simp [r0, k0, u0, u1, yI_same, yI_ne, yI_c, yR_I, yI_row, yR_row, yI_R, yR_ne, yR_same, yI_L, yR_L, vp_in, z_32]; done)
  exact ⟨h1, CX_ofT (by decide) rfl rfl trivial ⟨_, _, _, rfl, rfl, rfl⟩ rfl ⟨Nat.le_of_eq Y1.1.2.2.1.symm, Nat.le_of_eq Y1.1.2.2.2.symm⟩ t1, Y1⟩

set_option maxRecDepth 100000 in
set_option maxHeartbeats 1000000 in
theorem p1_app12 (l : Launch) (h : XH) (v : Int32) (Y : YF h 12 0) : ∃ h', CX l 12 480 false 14 [xf 7 45, xi v] h [] h' ∧ YF h' 16 0 := by
  obtain ⟨h1, t1, Y1⟩ : ∃ h', XT l 12 480 false 14 153 6051 0 [xf 7 45, xi v, xun] [] h 46 [xf 7 45, xi v, xi (-8)] [] h' ∧ YF h' 16 0 := by
    have r0 : xR h 45 0 = 46 := Y.1.1 (45, 0, 46) (by decide)
    have k0 : xfk 7 0 = 20700 := rfl
    obtain ⟨-, u0, u1⟩ := id Y
    refine ⟨_, XT_path (inl := []) (n' := 101) (sp := [46]) (o := [0, 0, 0, 0, 0, 0, 0, 0, 1]) rfl rfl ?_ rfl ⟨Nat.le_of_eq Y.1.2.2.1, Nat.le_of_eq Y.1.2.2.2⟩ ?_, ?_, ?_, ?_⟩
    · refine ⟨rfl, ?_, ?_⟩ <;> first | rfl | (dsimp only; simp [r0, k0, u0, u1, yI_same, yI_ne, yI_c, yR_I, yI_row, yR_row, yI_R, yR_ne, yR_same, yI_L, yR_L, vp_in, z_32] <;> rfl)
    · first | trivial | (dsimp only; simp [r0, k0, u0, u1, yI_same, yI_ne, yI_c, yR_I, yI_row, yR_row, yI_R, yR_ne, yR_same, yI_L, yR_L, vp_in, z_32]; done)
    · dsimp only
      try simp [r0, yR_I, yR_row, yI_R, yR_ne, yR_same]
      (repeat (first | exact Y.1 | (refine FYL.setI ?_ rfl) | (refine FYL.setC ?_ rfl) | (refine FYL.row ?_ rfl) | (refine FYL.setR ?_ rfl) | (refine FYL.setRv ?_ (by first | assumption | (simp [r0, k0, yR_I, yR_row, yR_ne]; done)) rfl)))
    · first | exact u0 | (dsimp only; simp [r0, k0, u0, u1, yI_same, yI_ne, yI_c, yR_I, yI_row, yR_row, yI_R, yR_ne, yR_same, yI_L, yR_L, vp_in, z_32]; done)
    · first | exact u1 | (dsimp only; simp [r0, k0, u0, u1, yI_same, yI_ne, yI_c, yR_I, yI_row, yR_row, yI_R, yR_ne, yR_same, yI_L, yR_L, vp_in, z_32]; done)
  exact ⟨h1, CX_ofT (by decide) rfl rfl trivial ⟨_, _, _, rfl, rfl, rfl⟩ rfl ⟨Nat.le_of_eq Y1.1.2.2.1.symm, Nat.le_of_eq Y1.1.2.2.2.symm⟩ t1, Y1⟩

set_option maxRecDepth 100000 in
set_option maxHeartbeats 1000000 in
theorem p1_app16 (l : Launch) (h : XH) (v : Int32) (Y : YF h 16 0) : ∃ h', CX l 12 480 false 14 [xf 7 45, xi v] h [] h' ∧ YF h' 20 0 := by
  obtain ⟨h1, t1, Y1⟩ : ∃ h', XT l 12 480 false 14 153 6051 0 [xf 7 45, xi v, xun] [] h 46 [xf 7 45, xi v, xi (-8)] [] h' ∧ YF h' 20 0 := by
    have r0 : xR h 45 0 = 46 := Y.1.1 (45, 0, 46) (by decide)
    have k0 : xfk 7 0 = 20700 := rfl
    obtain ⟨-, u0, u1⟩ := id Y
    refine ⟨_, XT_path (inl := []) (n' := 101) (sp := [46]) (o := [0, 0, 0, 0, 0, 0, 0, 0, 1]) rfl rfl ?_ rfl ⟨Nat.le_of_eq Y.1.2.2.1, Nat.le_of_eq Y.1.2.2.2⟩ ?_, ?_, ?_, ?_⟩
    · refine ⟨rfl, ?_, ?_⟩ <;> first | rfl | (dsimp only; simp [r0, k0, u0, u1, yI_same, yI_ne, yI_c, yR_I, yI_row, yR_row, yI_R, yR_ne, yR_same, yI_L, yR_L, vp_in, z_32] <;> rfl)
    · first | trivial | (dsimp only; simp [r0, k0, u0, u1, yI_same, yI_ne, yI_c, yR_I, yI_row, yR_row, yI_R, yR_ne, yR_same, yI_L, yR_L, vp_in, z_32]; done)
    · dsimp only
      try simp [r0, yR_I, yR_row, yI_R, yR_ne, yR_same]
      (repeat (first | exact Y.1 | (refine FYL.setI ?_ rfl) | (refine FYL.setC ?_ rfl) | (refine FYL.row ?_ rfl) | (refine FYL.setR ?_ rfl) | (refine FYL.setRv ?_ (by first | assumption | (simp [r0, k0, yR_I, yR_row, yR_ne]; done)) rfl)))
    · first | exact u0 | (dsimp only; simp [r0, k0, u0, u1, yI_same, yI_ne, yI_c, yR_I, yI_row, yR_row, yI_R, yR_ne, yR_same, yI_L, yR_L, vp_in, z_32]; done)
    · first | exact u1 | (dsimp only; simp [r0, k0, u0, u1, yI_same, yI_ne, yI_c, yR_I, yI_row, yR_row, yI_R, yR_ne, yR_same, yI_L, yR_L, vp_in, z_32]; done)
  exact ⟨h1, CX_ofT (by decide) rfl rfl trivial ⟨_, _, _, rfl, rfl, rfl⟩ rfl ⟨Nat.le_of_eq Y1.1.2.2.1.symm, Nat.le_of_eq Y1.1.2.2.2.symm⟩ t1, Y1⟩

set_option maxRecDepth 100000 in
set_option maxHeartbeats 1000000 in
theorem p1_feed (l : Launch) (h : XH) (x1 x2 x3 x4 x5 : Int32) (Y : YF h 0 0) : ∃ h', CX l 13 515 false 13 [xf 12 2, xi x1, xi x2, xi x3, xi x4, xi x5] h [xi 20] h' ∧ YF h' 20 0 := by
  obtain ⟨h1, t1, Y1⟩ : ∃ h', XT l 13 515 false 13 153 6051 0 [xf 12 2, xi x1, xi x2, xi x3, xi x4, xi x5] [] h 23 [xf 12 2, xi x1, xi x2, xi x3, xi x4, xi x5] [xi x1, xf 7 45] h' ∧ YF h' 0 0 := by
    have r0 : xR h 2 0 = 45 := Y.1.1 (2, 0, 45) (by decide)
    have k0 : xfk 12 0 = 7 := rfl
    obtain ⟨-, u0, u1⟩ := id Y
    refine ⟨_, XT_path (inl := []) (n' := 15) (sp := [23]) (o := [1]) rfl rfl ?_ rfl ⟨Nat.le_of_eq Y.1.2.2.1, Nat.le_of_eq Y.1.2.2.2⟩ ?_, ?_, ?_, ?_⟩
    · refine ⟨rfl, ?_, ?_⟩ <;> first | rfl | (dsimp only; simp [r0, k0, u0, u1, yI_same, yI_ne, yI_c, yR_I, yI_row, yR_row, yI_R, yR_ne, yR_same, yI_L, yR_L, vp_in, z_32] <;> rfl)
    · first | trivial | (dsimp only; simp [r0, k0, u0, u1, yI_same, yI_ne, yI_c, yR_I, yI_row, yR_row, yI_R, yR_ne, yR_same, yI_L, yR_L, vp_in, z_32]; done)
    · dsimp only
      (repeat (first | exact Y.1 | (refine FYL.setI ?_ rfl) | (refine FYL.setC ?_ rfl) | (refine FYL.row ?_ rfl) | (refine FYL.setR ?_ rfl) | (refine FYL.setRv ?_ (by first | assumption | (simp [r0, k0, yR_I, yR_row, yR_ne]; done)) rfl)))
    · first | exact u0 | (dsimp only; simp [r0, k0, u0, u1, yI_same, yI_ne, yI_c, yR_I, yI_row, yR_row, yI_R, yR_ne, yR_same, yI_L, yR_L, vp_in, z_32]; done)
    · first | exact u1 | (dsimp only; simp [r0, k0, u0, u1, yI_same, yI_ne, yI_c, yR_I, yI_row, yR_row, yI_R, yR_ne, yR_same, yI_L, yR_L, vp_in, z_32]; done)
  obtain ⟨h2, c2, Y2⟩ := p1_app0 l h1 x1 Y1
  have t2 : XT l 13 515 false 13 153 6051 23 [xf 12 2, xi x1, xi x2, xi x3, xi x4, xi x5] [xi x1, xf 7 45] h1 26 [xf 12 2, xi x1, xi x2, xi x3, xi x4, xi x5] [] h2 := XT_call rfl rfl rfl (vs := [xf 7 45, xi x1]) (rest := []) rfl rfl rfl c2 (by decide) (by decide) (by decide) ⟨Nat.le_of_eq Y2.1.2.2.1, Nat.le_of_eq Y2.1.2.2.2⟩
  obtain ⟨h3, t3, Y3⟩ : ∃ h', XT l 13 515 false 13 153 6051 26 [xf 12 2, xi x1, xi x2, xi x3, xi x4, xi x5] [] h2 31 [xf 12 2, xi x1, xi x2, xi x3, xi x4, xi x5] [xi x2, xf 7 45] h' ∧ YF h' 4 0 := by
    have r0 : xR h2 2 0 = 45 := Y2.1.1 (2, 0, 45) (by decide)
    have k0 : xfk 12 0 = 7 := rfl
    obtain ⟨-, u0, u1⟩ := id Y2
    refine ⟨_, XT_path (inl := []) (n' := 8) (sp := [31]) (o := []) rfl rfl ?_ rfl ⟨Nat.le_of_eq Y2.1.2.2.1, Nat.le_of_eq Y2.1.2.2.2⟩ ?_, ?_, ?_, ?_⟩
    · refine ⟨rfl, ?_, ?_⟩ <;> first | rfl | (dsimp only; simp [r0, k0, u0, u1, yI_same, yI_ne, yI_c, yR_I, yI_row, yR_row, yI_R, yR_ne, yR_same, yI_L, yR_L, vp_in, z_32] <;> rfl)
    · first | trivial | (dsimp only; simp [r0, k0, u0, u1, yI_same, yI_ne, yI_c, yR_I, yI_row, yR_row, yI_R, yR_ne, yR_same, yI_L, yR_L, vp_in, z_32]; done)
    · dsimp only
      (repeat (first | exact Y2.1 | (refine FYL.setI ?_ rfl) | (refine FYL.setC ?_ rfl) | (refine FYL.row ?_ rfl) | (refine FYL.setR ?_ rfl) | (refine FYL.setRv ?_ (by first | assumption | (simp [r0, k0, yR_I, yR_row, yR_ne]; done)) rfl)))
    · first | exact u0 | (dsimp only; simp [r0, k0, u0, u1, yI_same, yI_ne, yI_c, yR_I, yI_row, yR_row, yI_R, yR_ne, yR_same, yI_L, yR_L, vp_in, z_32]; done)
    · first | exact u1 | (dsimp only; simp [r0, k0, u0, u1, yI_same, yI_ne, yI_c, yR_I, yI_row, yR_row, yI_R, yR_ne, yR_same, yI_L, yR_L, vp_in, z_32]; done)
  obtain ⟨h4, c4, Y4⟩ := p1_app4 l h3 x2 Y3
  have t4 : XT l 13 515 false 13 153 6051 31 [xf 12 2, xi x1, xi x2, xi x3, xi x4, xi x5] [xi x2, xf 7 45] h3 34 [xf 12 2, xi x1, xi x2, xi x3, xi x4, xi x5] [] h4 := XT_call rfl rfl rfl (vs := [xf 7 45, xi x2]) (rest := []) rfl rfl rfl c4 (by decide) (by decide) (by decide) ⟨Nat.le_of_eq Y4.1.2.2.1, Nat.le_of_eq Y4.1.2.2.2⟩
  obtain ⟨h5, t5, Y5⟩ : ∃ h', XT l 13 515 false 13 153 6051 34 [xf 12 2, xi x1, xi x2, xi x3, xi x4, xi x5] [] h4 39 [xf 12 2, xi x1, xi x2, xi x3, xi x4, xi x5] [xi x3, xf 7 45] h' ∧ YF h' 8 0 := by
    have r0 : xR h4 2 0 = 45 := Y4.1.1 (2, 0, 45) (by decide)
    have k0 : xfk 12 0 = 7 := rfl
    obtain ⟨-, u0, u1⟩ := id Y4
    refine ⟨_, XT_path (inl := []) (n' := 8) (sp := [39]) (o := []) rfl rfl ?_ rfl ⟨Nat.le_of_eq Y4.1.2.2.1, Nat.le_of_eq Y4.1.2.2.2⟩ ?_, ?_, ?_, ?_⟩
    · refine ⟨rfl, ?_, ?_⟩ <;> first | rfl | (dsimp only; simp [r0, k0, u0, u1, yI_same, yI_ne, yI_c, yR_I, yI_row, yR_row, yI_R, yR_ne, yR_same, yI_L, yR_L, vp_in, z_32] <;> rfl)
    · first | trivial | (dsimp only; simp [r0, k0, u0, u1, yI_same, yI_ne, yI_c, yR_I, yI_row, yR_row, yI_R, yR_ne, yR_same, yI_L, yR_L, vp_in, z_32]; done)
    · dsimp only
      (repeat (first | exact Y4.1 | (refine FYL.setI ?_ rfl) | (refine FYL.setC ?_ rfl) | (refine FYL.row ?_ rfl) | (refine FYL.setR ?_ rfl) | (refine FYL.setRv ?_ (by first | assumption | (simp [r0, k0, yR_I, yR_row, yR_ne]; done)) rfl)))
    · first | exact u0 | (dsimp only; simp [r0, k0, u0, u1, yI_same, yI_ne, yI_c, yR_I, yI_row, yR_row, yI_R, yR_ne, yR_same, yI_L, yR_L, vp_in, z_32]; done)
    · first | exact u1 | (dsimp only; simp [r0, k0, u0, u1, yI_same, yI_ne, yI_c, yR_I, yI_row, yR_row, yI_R, yR_ne, yR_same, yI_L, yR_L, vp_in, z_32]; done)
  obtain ⟨h6, c6, Y6⟩ := p1_app8 l h5 x3 Y5
  have t6 : XT l 13 515 false 13 153 6051 39 [xf 12 2, xi x1, xi x2, xi x3, xi x4, xi x5] [xi x3, xf 7 45] h5 42 [xf 12 2, xi x1, xi x2, xi x3, xi x4, xi x5] [] h6 := XT_call rfl rfl rfl (vs := [xf 7 45, xi x3]) (rest := []) rfl rfl rfl c6 (by decide) (by decide) (by decide) ⟨Nat.le_of_eq Y6.1.2.2.1, Nat.le_of_eq Y6.1.2.2.2⟩
  obtain ⟨h7, t7, Y7⟩ : ∃ h', XT l 13 515 false 13 153 6051 42 [xf 12 2, xi x1, xi x2, xi x3, xi x4, xi x5] [] h6 48 [xf 12 2, xi x1, xi x2, xi x3, xi x4, xi x5] [xi x4, xf 7 45] h' ∧ YF h' 12 0 := by
    have r0 : xR h6 2 0 = 45 := Y6.1.1 (2, 0, 45) (by decide)
    have k0 : xfk 12 0 = 7 := rfl
    obtain ⟨-, u0, u1⟩ := id Y6
    refine ⟨_, XT_path (inl := []) (n' := 8) (sp := [48]) (o := []) rfl rfl ?_ rfl ⟨Nat.le_of_eq Y6.1.2.2.1, Nat.le_of_eq Y6.1.2.2.2⟩ ?_, ?_, ?_, ?_⟩
    · refine ⟨rfl, ?_, ?_⟩ <;> first | rfl | (dsimp only; simp [r0, k0, u0, u1, yI_same, yI_ne, yI_c, yR_I, yI_row, yR_row, yI_R, yR_ne, yR_same, yI_L, yR_L, vp_in, z_32] <;> rfl)
    · first | trivial | (dsimp only; simp [r0, k0, u0, u1, yI_same, yI_ne, yI_c, yR_I, yI_row, yR_row, yI_R, yR_ne, yR_same, yI_L, yR_L, vp_in, z_32]; done)
    · dsimp only
      (repeat (first | exact Y6.1 | (refine FYL.setI ?_ rfl) | (refine FYL.setC ?_ rfl) | (refine FYL.row ?_ rfl) | (refine FYL.setR ?_ rfl) | (refine FYL.setRv ?_ (by first | assumption | (simp [r0, k0, yR_I, yR_row, yR_ne]; done)) rfl)))
    · first | exact u0 | (dsimp only; simp [r0, k0, u0, u1, yI_same, yI_ne, yI_c, yR_I, yI_row, yR_row, yI_R, yR_ne, yR_same, yI_L, yR_L, vp_in, z_32]; done)
    · first | exact u1 | (dsimp only; simp [r0, k0, u0, u1, yI_same, yI_ne, yI_c, yR_I, yI_row, yR_row, yI_R, yR_ne, yR_same, yI_L, yR_L, vp_in, z_32]; done)
  obtain ⟨h8, c8, Y8⟩ := p1_app12 l h7 x4 Y7
  have t8 : XT l 13 515 false 13 153 6051 48 [xf 12 2, xi x1, xi x2, xi x3, xi x4, xi x5] [xi x4, xf 7 45] h7 51 [xf 12 2, xi x1, xi x2, xi x3, xi x4, xi x5] [] h8 := XT_call rfl rfl rfl (vs := [xf 7 45, xi x4]) (rest := []) rfl rfl rfl c8 (by decide) (by decide) (by decide) ⟨Nat.le_of_eq Y8.1.2.2.1, Nat.le_of_eq Y8.1.2.2.2⟩
  obtain ⟨h9, t9, Y9⟩ : ∃ h', XT l 13 515 false 13 153 6051 51 [xf 12 2, xi x1, xi x2, xi x3, xi x4, xi x5] [] h8 57 [xf 12 2, xi x1, xi x2, xi x3, xi x4, xi x5] [xi x5, xf 7 45] h' ∧ YF h' 16 0 := by
    have r0 : xR h8 2 0 = 45 := Y8.1.1 (2, 0, 45) (by decide)
    have k0 : xfk 12 0 = 7 := rfl
    obtain ⟨-, u0, u1⟩ := id Y8
    refine ⟨_, XT_path (inl := []) (n' := 8) (sp := [57]) (o := []) rfl rfl ?_ rfl ⟨Nat.le_of_eq Y8.1.2.2.1, Nat.le_of_eq Y8.1.2.2.2⟩ ?_, ?_, ?_, ?_⟩
    · refine ⟨rfl, ?_, ?_⟩ <;> first | rfl | (dsimp only; simp [r0, k0, u0, u1, yI_same, yI_ne, yI_c, yR_I, yI_row, yR_row, yI_R, yR_ne, yR_same, yI_L, yR_L, vp_in, z_32] <;> rfl)
    · first | trivial | (dsimp only; simp [r0, k0, u0, u1, yI_same, yI_ne, yI_c, yR_I, yI_row, yR_row, yI_R, yR_ne, yR_same, yI_L, yR_L, vp_in, z_32]; done)
    · dsimp only
      (repeat (first | exact Y8.1 | (refine FYL.setI ?_ rfl) | (refine FYL.setC ?_ rfl) | (refine FYL.row ?_ rfl) | (refine FYL.setR ?_ rfl) | (refine FYL.setRv ?_ (by first | assumption | (simp [r0, k0, yR_I, yR_row, yR_ne]; done)) rfl)))
    · first | exact u0 | (dsimp only; simp [r0, k0, u0, u1, yI_same, yI_ne, yI_c, yR_I, yI_row, yR_row, yI_R, yR_ne, yR_same, yI_L, yR_L, vp_in, z_32]; done)
    · first | exact u1 | (dsimp only; simp [r0, k0, u0, u1, yI_same, yI_ne, yI_c, yR_I, yI_row, yR_row, yI_R, yR_ne, yR_same, yI_L, yR_L, vp_in, z_32]; done)
  obtain ⟨h10, c10, Y10⟩ := p1_app16 l h9 x5 Y9
  have t10 : XT l 13 515 false 13 153 6051 57 [xf 12 2, xi x1, xi x2, xi x3, xi x4, xi x5] [xi x5, xf 7 45] h9 60 [xf 12 2, xi x1, xi x2, xi x3, xi x4, xi x5] [] h10 := XT_call rfl rfl rfl (vs := [xf 7 45, xi x5]) (rest := []) rfl rfl rfl c10 (by decide) (by decide) (by decide) ⟨Nat.le_of_eq Y10.1.2.2.1, Nat.le_of_eq Y10.1.2.2.2⟩
  obtain ⟨h11, t11, Y11⟩ : ∃ h', XT l 13 515 false 13 153 6051 60 [xf 12 2, xi x1, xi x2, xi x3, xi x4, xi x5] [] h10 67 [xf 12 2, xi x1, xi x2, xi x3, xi x4, xi x5] [xi 20] h' ∧ YF h' 20 0 := by
    have r0 : xR h10 2 0 = 45 := Y10.1.1 (2, 0, 45) (by decide)
    have k0 : xfk 12 0 = 7 := rfl
    obtain ⟨-, u0, u1⟩ := id Y10
    refine ⟨_, XT_path (inl := []) (n' := 8) (sp := [67]) (o := []) rfl rfl ?_ rfl ⟨Nat.le_of_eq Y10.1.2.2.1, Nat.le_of_eq Y10.1.2.2.2⟩ ?_, ?_, ?_, ?_⟩
    · refine ⟨rfl, ?_, ?_⟩ <;> first | rfl | (dsimp only; simp [r0, k0, u0, u1, yI_same, yI_ne, yI_c, yR_I, yI_row, yR_row, yI_R, yR_ne, yR_same, yI_L, yR_L, vp_in, z_32] <;> rfl)
    · first | trivial | (dsimp only; simp [r0, k0, u0, u1, yI_same, yI_ne, yI_c, yR_I, yI_row, yR_row, yI_R, yR_ne, yR_same, yI_L, yR_L, vp_in, z_32]; done)
    · dsimp only
      (repeat (first | exact Y10.1 | (refine FYL.setI ?_ rfl) | (refine FYL.setC ?_ rfl) | (refine FYL.row ?_ rfl) | (refine FYL.setR ?_ rfl) | (refine FYL.setRv ?_ (by first | assumption | (simp [r0, k0, yR_I, yR_row, yR_ne]; done)) rfl)))
    · first | exact u0 | (dsimp only; simp [r0, k0, u0, u1, yI_same, yI_ne, yI_c, yR_I, yI_row, yR_row, yI_R, yR_ne, yR_same, yI_L, yR_L, vp_in, z_32]; done)
    · first | exact u1 | (dsimp only; simp [r0, k0, u0, u1, yI_same, yI_ne, yI_c, yR_I, yI_row, yR_row, yI_R, yR_ne, yR_same, yI_L, yR_L, vp_in, z_32]; done)
  exact ⟨h11, CX_ofT (by decide) rfl rfl trivial ⟨_, _, _, rfl, rfl, rfl⟩ rfl ⟨Nat.le_of_eq Y11.1.2.2.1.symm, Nat.le_of_eq Y11.1.2.2.2.symm⟩ (t1.tr (t2.tr (t3.tr (t4.tr (t5.tr (t6.tr (t7.tr (t8.tr (t9.tr (t10.tr t11)))))))))), Y11⟩

set_option maxRecDepth 100000 in
set_option maxHeartbeats 1000000 in
theorem p1_mfeed (l : Launch) (h : XH) (x1 x2 x3 x4 x5 : Int32) (Y : YF h 20 0) : ∃ h', CX l 13 513 false 179 [xf 13 104, xi x1, xi x2, xi x3, xi x4, xi x5] h [xi 20] h' ∧ YF h' 20 20 := by
  obtain ⟨h1, t1, Y1⟩ : ∃ h', XT l 13 513 false 179 153 6051 0 [xf 13 104, xi x1, xi x2, xi x3, xi x4, xi x5, xun, xun] [] h 23 [xf 13 104, xi x1, xi x2, xi x3, xi x4, xi x5, xi 0, xun] [] h' ∧ YF h' 20 0 := by
    obtain ⟨-, u0, u1⟩ := id Y
    refine ⟨_, XT_path (inl := []) (n' := 16) (sp := [23]) (o := [1]) rfl rfl ?_ rfl ⟨Nat.le_of_eq Y.1.2.2.1, Nat.le_of_eq Y.1.2.2.2⟩ ?_, ?_, ?_, ?_⟩
    · refine ⟨rfl, ?_, ?_⟩ <;> first | rfl | (dsimp only; simp [u0, u1, yI_same, yI_ne, yI_c, yR_I, yI_row, yR_row, yI_R, yR_ne, yR_same, yI_L, yR_L, vp_in, z_32] <;> rfl)
    · first | trivial | (dsimp only; simp [u0, u1, yI_same, yI_ne, yI_c, yR_I, yI_row, yR_row, yI_R, yR_ne, yR_same, yI_L, yR_L, vp_in, z_32]; done)
    · dsimp only
      (repeat (first | exact Y.1 | (refine FYL.setI ?_ rfl) | (refine FYL.setC ?_ rfl) | (refine FYL.row ?_ rfl) | (refine FYL.setR ?_ rfl) | (refine FYL.setRv ?_ (by first | assumption | (simp [yR_I, yR_row, yR_ne]; done)) rfl)))
    · first | exact u0 | (dsimp only; simp [u0, u1, yI_same, yI_ne, yI_c, yR_I, yI_row, yR_row, yI_R, yR_ne, yR_same, yI_L, yR_L, vp_in, z_32]; done)
    · first | exact u1 | (dsimp only; simp [u0, u1, yI_same, yI_ne, yI_c, yR_I, yI_row, yR_row, yI_R, yR_ne, yR_same, yI_L, yR_L, vp_in, z_32]; done)
  obtain ⟨h2, t2, Y2⟩ : ∃ h', XT l 13 513 false 179 153 6051 23 [xf 13 104, xi x1, xi x2, xi x3, xi x4, xi x5, xi 0, xun] [] h1 23 [xf 13 104, xi x1, xi x2, xi x3, xi x4, xi x5, xi 1, xi x1] [] h' ∧ YF h' 20 0 := by
    have r0 : xR h1 104 0 = 105 := Y1.1.1 (104, 0, 105) (by decide)
    have k0 : xfk 13 0 = 10700 := rfl
    obtain ⟨-, u0, u1⟩ := id Y1
    refine ⟨_, XT_path (inl := []) (n' := 34) (sp := [23]) (o := [0, 0]) rfl rfl ?_ rfl ⟨Nat.le_of_eq Y1.1.2.2.1, Nat.le_of_eq Y1.1.2.2.2⟩ ?_, ?_, ?_, ?_⟩
    · refine ⟨rfl, ?_, ?_⟩ <;> first | rfl | (dsimp only; simp [r0, k0, u0, u1, yI_same, yI_ne, yI_c, yR_I, yI_row, yR_row, yI_R, yR_ne, yR_same, yI_L, yR_L, vp_in, z_32] <;> rfl)
    · first | trivial | (dsimp only; simp [r0, k0, u0, u1, yI_same, yI_ne, yI_c, yR_I, yI_row, yR_row, yI_R, yR_ne, yR_same, yI_L, yR_L, vp_in, z_32]; done)
    · dsimp only
      try simp [r0, yR_I, yR_row, yI_R, yR_ne, yR_same]
      (repeat (first | exact Y1.1 | (refine FYL.setI ?_ rfl) | (refine FYL.setC ?_ rfl) | (refine FYL.row ?_ rfl) | (refine FYL.setR ?_ rfl) | (refine FYL.setRv ?_ (by first | assumption | (simp [r0, k0, yR_I, yR_row, yR_ne]; done)) rfl)))
    · first | exact u0 | (dsimp only; simp [r0, k0, u0, u1, yI_same, yI_ne, yI_c, yR_I, yI_row, yR_row, yI_R, yR_ne, yR_same, yI_L, yR_L, vp_in, z_32]; done)
    · first | exact u1 | (dsimp only; simp [r0, k0, u0, u1, yI_same, yI_ne, yI_c, yR_I, yI_row, yR_row, yI_R, yR_ne, yR_same, yI_L, yR_L, vp_in, z_32]; done)
  obtain ⟨h3, t3, Y3⟩ : ∃ h', XT l 13 513 false 179 153 6051 23 [xf 13 104, xi x1, xi x2, xi x3, xi x4, xi x5, xi 1, xi x1] [] h2 23 [xf 13 104, xi x1, xi x2, xi x3, xi x4, xi x5, xi 2, xi x1] [] h' ∧ YF h' 20 0 := by
    have r0 : xR h2 104 0 = 105 := Y2.1.1 (104, 0, 105) (by decide)
    have k0 : xfk 13 0 = 10700 := rfl
    obtain ⟨-, u0, u1⟩ := id Y2
    refine ⟨_, XT_path (inl := []) (n' := 34) (sp := [23]) (o := [0, 0]) rfl rfl ?_ rfl ⟨Nat.le_of_eq Y2.1.2.2.1, Nat.le_of_eq Y2.1.2.2.2⟩ ?_, ?_, ?_, ?_⟩
    · refine ⟨rfl, ?_, ?_⟩ <;> first | rfl | (dsimp only; simp [r0, k0, u0, u1, yI_same, yI_ne, yI_c, yR_I, yI_row, yR_row, yI_R, yR_ne, yR_same, yI_L, yR_L, vp_in, z_32] <;> rfl)
    · first | trivial | (dsimp only; simp [r0, k0, u0, u1, yI_same, yI_ne, yI_c, yR_I, yI_row, yR_row, yI_R, yR_ne, yR_same, yI_L, yR_L, vp_in, z_32]; done)
    · dsimp only
      try simp [r0, yR_I, yR_row, yI_R, yR_ne, yR_same]
      (repeat (first | exact Y2.1 | (refine FYL.setI ?_ rfl) | (refine FYL.setC ?_ rfl) | (refine FYL.row ?_ rfl) | (refine FYL.setR ?_ rfl) | (refine FYL.setRv ?_ (by first | assumption | (simp [r0, k0, yR_I, yR_row, yR_ne]; done)) rfl)))
    · first | exact u0 | (dsimp only; simp [r0, k0, u0, u1, yI_same, yI_ne, yI_c, yR_I, yI_row, yR_row, yI_R, yR_ne, yR_same, yI_L, yR_L, vp_in, z_32]; done)
    · first | exact u1 | (dsimp only; simp [r0, k0, u0, u1, yI_same, yI_ne, yI_c, yR_I, yI_row, yR_row, yI_R, yR_ne, yR_same, yI_L, yR_L, vp_in, z_32]; done)
  obtain ⟨h4, t4, Y4⟩ : ∃ h', XT l 13 513 false 179 153 6051 23 [xf 13 104, xi x1, xi x2, xi x3, xi x4, xi x5, xi 2, xi x1] [] h3 23 [xf 13 104, xi x1, xi x2, xi x3, xi x4, xi x5, xi 3, xi x1] [] h' ∧ YF h' 20 0 := by
    have r0 : xR h3 104 0 = 105 := Y3.1.1 (104, 0, 105) (by decide)
    have k0 : xfk 13 0 = 10700 := rfl
    obtain ⟨-, u0, u1⟩ := id Y3
    refine ⟨_, XT_path (inl := []) (n' := 34) (sp := [23]) (o := [0, 0]) rfl rfl ?_ rfl ⟨Nat.le_of_eq Y3.1.2.2.1, Nat.le_of_eq Y3.1.2.2.2⟩ ?_, ?_, ?_, ?_⟩
    · refine ⟨rfl, ?_, ?_⟩ <;> first | rfl | (dsimp only; simp [r0, k0, u0, u1, yI_same, yI_ne, yI_c, yR_I, yI_row, yR_row, yI_R, yR_ne, yR_same, yI_L, yR_L, vp_in, z_32] <;> rfl)
    · first | trivial | (dsimp only; simp [r0, k0, u0, u1, yI_same, yI_ne, yI_c, yR_I, yI_row, yR_row, yI_R, yR_ne, yR_same, yI_L, yR_L, vp_in, z_32]; done)
    · dsimp only
      try simp [r0, yR_I, yR_row, yI_R, yR_ne, yR_same]
      (repeat (first | exact Y3.1 | (refine FYL.setI ?_ rfl) | (refine FYL.setC ?_ rfl) | (refine FYL.row ?_ rfl) | (refine FYL.setR ?_ rfl) | (refine FYL.setRv ?_ (by first | assumption | (simp [r0, k0, yR_I, yR_row, yR_ne]; done)) rfl)))
    · first | exact u0 | (dsimp only; simp [r0, k0, u0, u1, yI_same, yI_ne, yI_c, yR_I, yI_row, yR_row, yI_R, yR_ne, yR_same, yI_L, yR_L, vp_in, z_32]; done)
    · first | exact u1 | (dsimp only; simp [r0, k0, u0, u1, yI_same, yI_ne, yI_c, yR_I, yI_row, yR_row, yI_R, yR_ne, yR_same, yI_L, yR_L, vp_in, z_32]; done)
  obtain ⟨h5, t5, Y5⟩ : ∃ h', XT l 13 513 false 179 153 6051 23 [xf 13 104, xi x1, xi x2, xi x3, xi x4, xi x5, xi 3, xi x1] [] h4 23 [xf 13 104, xi x1, xi x2, xi x3, xi x4, xi x5, xi 4, xi x1] [] h' ∧ YF h' 20 0 := by
    have r0 : xR h4 104 0 = 105 := Y4.1.1 (104, 0, 105) (by decide)
    have k0 : xfk 13 0 = 10700 := rfl
    obtain ⟨-, u0, u1⟩ := id Y4
    refine ⟨_, XT_path (inl := []) (n' := 34) (sp := [23]) (o := [0, 0]) rfl rfl ?_ rfl ⟨Nat.le_of_eq Y4.1.2.2.1, Nat.le_of_eq Y4.1.2.2.2⟩ ?_, ?_, ?_, ?_⟩
    · refine ⟨rfl, ?_, ?_⟩ <;> first | rfl | (dsimp only; simp [r0, k0, u0, u1, yI_same, yI_ne, yI_c, yR_I, yI_row, yR_row, yI_R, yR_ne, yR_same, yI_L, yR_L, vp_in, z_32] <;> rfl)
    · first | trivial | (dsimp only; simp [r0, k0, u0, u1, yI_same, yI_ne, yI_c, yR_I, yI_row, yR_row, yI_R, yR_ne, yR_same, yI_L, yR_L, vp_in, z_32]; done)
    · dsimp only
      try simp [r0, yR_I, yR_row, yI_R, yR_ne, yR_same]
      (repeat (first | exact Y4.1 | (refine FYL.setI ?_ rfl) | (refine FYL.setC ?_ rfl) | (refine FYL.row ?_ rfl) | (refine FYL.setR ?_ rfl) | (refine FYL.setRv ?_ (by first | assumption | (simp [r0, k0, yR_I, yR_row, yR_ne]; done)) rfl)))
    · first | exact u0 | (dsimp only; simp [r0, k0, u0, u1, yI_same, yI_ne, yI_c, yR_I, yI_row, yR_row, yI_R, yR_ne, yR_same, yI_L, yR_L, vp_in, z_32]; done)
    · first | exact u1 | (dsimp only; simp [r0, k0, u0, u1, yI_same, yI_ne, yI_c, yR_I, yI_row, yR_row, yI_R, yR_ne, yR_same, yI_L, yR_L, vp_in, z_32]; done)
  obtain ⟨h6, t6, Y6⟩ : ∃ h', XT l 13 513 false 179 153 6051 23 [xf 13 104, xi x1, xi x2, xi x3, xi x4, xi x5, xi 4, xi x1] [] h5 23 [xf 13 104, xi x1, xi x2, xi x3, xi x4, xi x5, xi 5, xi x2] [] h' ∧ YF h' 20 0 := by
    have r0 : xR h5 104 0 = 105 := Y5.1.1 (104, 0, 105) (by decide)
    have k0 : xfk 13 0 = 10700 := rfl
    obtain ⟨-, u0, u1⟩ := id Y5
    refine ⟨_, XT_path (inl := []) (n' := 37) (sp := [23]) (o := [0, 1, 0]) rfl rfl ?_ rfl ⟨Nat.le_of_eq Y5.1.2.2.1, Nat.le_of_eq Y5.1.2.2.2⟩ ?_, ?_, ?_, ?_⟩
    · refine ⟨rfl, ?_, ?_⟩ <;> first | rfl | (dsimp only; simp [r0, k0, u0, u1, yI_same, yI_ne, yI_c, yR_I, yI_row, yR_row, yI_R, yR_ne, yR_same, yI_L, yR_L, vp_in, z_32] <;> rfl)
    · first | trivial | (dsimp only; simp [r0, k0, u0, u1, yI_same, yI_ne, yI_c, yR_I, yI_row, yR_row, yI_R, yR_ne, yR_same, yI_L, yR_L, vp_in, z_32]; done)
    · dsimp only
      try simp [r0, yR_I, yR_row, yI_R, yR_ne, yR_same]
      (repeat (first | exact Y5.1 | (refine FYL.setI ?_ rfl) | (refine FYL.setC ?_ rfl) | (refine FYL.row ?_ rfl) | (refine FYL.setR ?_ rfl) | (refine FYL.setRv ?_ (by first | assumption | (simp [r0, k0, yR_I, yR_row, yR_ne]; done)) rfl)))
    · first | exact u0 | (dsimp only; simp [r0, k0, u0, u1, yI_same, yI_ne, yI_c, yR_I, yI_row, yR_row, yI_R, yR_ne, yR_same, yI_L, yR_L, vp_in, z_32]; done)
    · first | exact u1 | (dsimp only; simp [r0, k0, u0, u1, yI_same, yI_ne, yI_c, yR_I, yI_row, yR_row, yI_R, yR_ne, yR_same, yI_L, yR_L, vp_in, z_32]; done)
  obtain ⟨h7, t7, Y7⟩ : ∃ h', XT l 13 513 false 179 153 6051 23 [xf 13 104, xi x1, xi x2, xi x3, xi x4, xi x5, xi 5, xi x2] [] h6 23 [xf 13 104, xi x1, xi x2, xi x3, xi x4, xi x5, xi 6, xi x2] [] h' ∧ YF h' 20 0 := by
    have r0 : xR h6 104 0 = 105 := Y6.1.1 (104, 0, 105) (by decide)
    have k0 : xfk 13 0 = 10700 := rfl
    obtain ⟨-, u0, u1⟩ := id Y6
    refine ⟨_, XT_path (inl := []) (n' := 37) (sp := [23]) (o := [0, 1, 0]) rfl rfl ?_ rfl ⟨Nat.le_of_eq Y6.1.2.2.1, Nat.le_of_eq Y6.1.2.2.2⟩ ?_, ?_, ?_, ?_⟩
    · refine ⟨rfl, ?_, ?_⟩ <;> first | rfl | (dsimp only; simp [r0, k0, u0, u1, yI_same, yI_ne, yI_c, yR_I, yI_row, yR_row, yI_R, yR_ne, yR_same, yI_L, yR_L, vp_in, z_32] <;> rfl)
    · first | trivial | (dsimp only; simp [r0, k0, u0, u1, yI_same, yI_ne, yI_c, yR_I, yI_row, yR_row, yI_R, yR_ne, yR_same, yI_L, yR_L, vp_in, z_32]; done)
    · dsimp only
      try simp [r0, yR_I, yR_row, yI_R, yR_ne, yR_same]
      (repeat (first | exact Y6.1 | (refine FYL.setI ?_ rfl) | (refine FYL.setC ?_ rfl) | (refine FYL.row ?_ rfl) | (refine FYL.setR ?_ rfl) | (refine FYL.setRv ?_ (by first | assumption | (simp [r0, k0, yR_I, yR_row, yR_ne]; done)) rfl)))
    · first | exact u0 | (dsimp only; simp [r0, k0, u0, u1, yI_same, yI_ne, yI_c, yR_I, yI_row, yR_row, yI_R, yR_ne, yR_same, yI_L, yR_L, vp_in, z_32]; done)
    · first | exact u1 | (dsimp only; simp [r0, k0, u0, u1, yI_same, yI_ne, yI_c, yR_I, yI_row, yR_row, yI_R, yR_ne, yR_same, yI_L, yR_L, vp_in, z_32]; done)
  obtain ⟨h8, t8, Y8⟩ : ∃ h', XT l 13 513 false 179 153 6051 23 [xf 13 104, xi x1, xi x2, xi x3, xi x4, xi x5, xi 6, xi x2] [] h7 23 [xf 13 104, xi x1, xi x2, xi x3, xi x4, xi x5, xi 7, xi x2] [] h' ∧ YF h' 20 0 := by
    have r0 : xR h7 104 0 = 105 := Y7.1.1 (104, 0, 105) (by decide)
    have k0 : xfk 13 0 = 10700 := rfl
    obtain ⟨-, u0, u1⟩ := id Y7
    refine ⟨_, XT_path (inl := []) (n' := 37) (sp := [23]) (o := [0, 1, 0]) rfl rfl ?_ rfl ⟨Nat.le_of_eq Y7.1.2.2.1, Nat.le_of_eq Y7.1.2.2.2⟩ ?_, ?_, ?_, ?_⟩
    · refine ⟨rfl, ?_, ?_⟩ <;> first | rfl | (dsimp only; simp [r0, k0, u0, u1, yI_same, yI_ne, yI_c, yR_I, yI_row, yR_row, yI_R, yR_ne, yR_same, yI_L, yR_L, vp_in, z_32] <;> rfl)
    · first | trivial | (dsimp only; simp [r0, k0, u0, u1, yI_same, yI_ne, yI_c, yR_I, yI_row, yR_row, yI_R, yR_ne, yR_same, yI_L, yR_L, vp_in, z_32]; done)
    · dsimp only
      try simp [r0, yR_I, yR_row, yI_R, yR_ne, yR_same]
      (repeat (first | exact Y7.1 | (refine FYL.setI ?_ rfl) | (refine FYL.setC ?_ rfl) | (refine FYL.row ?_ rfl) | (refine FYL.setR ?_ rfl) | (refine FYL.setRv ?_ (by first | assumption | (simp [r0, k0, yR_I, yR_row, yR_ne]; done)) rfl)))
    · first | exact u0 | (dsimp only; simp [r0, k0, u0, u1, yI_same, yI_ne, yI_c, yR_I, yI_row, yR_row, yI_R, yR_ne, yR_same, yI_L, yR_L, vp_in, z_32]; done)
    · first | exact u1 | (dsimp only; simp [r0, k0, u0, u1, yI_same, yI_ne, yI_c, yR_I, yI_row, yR_row, yI_R, yR_ne, yR_same, yI_L, yR_L, vp_in, z_32]; done)
  obtain ⟨h9, t9, Y9⟩ : ∃ h', XT l 13 513 false 179 153 6051 23 [xf 13 104, xi x1, xi x2, xi x3, xi x4, xi x5, xi 7, xi x2] [] h8 23 [xf 13 104, xi x1, xi x2, xi x3, xi x4, xi x5, xi 8, xi x2] [] h' ∧ YF h' 20 0 := by
    have r0 : xR h8 104 0 = 105 := Y8.1.1 (104, 0, 105) (by decide)
    have k0 : xfk 13 0 = 10700 := rfl
    obtain ⟨-, u0, u1⟩ := id Y8
    refine ⟨_, XT_path (inl := []) (n' := 37) (sp := [23]) (o := [0, 1, 0]) rfl rfl ?_ rfl ⟨Nat.le_of_eq Y8.1.2.2.1, Nat.le_of_eq Y8.1.2.2.2⟩ ?_, ?_, ?_, ?_⟩
    · refine ⟨rfl, ?_, ?_⟩ <;> first | rfl | (dsimp only; simp [r0, k0, u0, u1, yI_same, yI_ne, yI_c, yR_I, yI_row, yR_row, yI_R, yR_ne, yR_same, yI_L, yR_L, vp_in, z_32] <;> rfl)
    · first | trivial | (dsimp only; simp [r0, k0, u0, u1, yI_same, yI_ne, yI_c, yR_I, yI_row, yR_row, yI_R, yR_ne, yR_same, yI_L, yR_L, vp_in, z_32]; done)
    · dsimp only
      try simp [r0, yR_I, yR_row, yI_R, yR_ne, yR_same]
      (repeat (first | exact Y8.1 | (refine FYL.setI ?_ rfl) | (refine FYL.setC ?_ rfl) | (refine FYL.row ?_ rfl) | (refine FYL.setR ?_ rfl) | (refine FYL.setRv ?_ (by first | assumption | (simp [r0, k0, yR_I, yR_row, yR_ne]; done)) rfl)))
    · first | exact u0 | (dsimp only; simp [r0, k0, u0, u1, yI_same, yI_ne, yI_c, yR_I, yI_row, yR_row, yI_R, yR_ne, yR_same, yI_L, yR_L, vp_in, z_32]; done)
    · first | exact u1 | (dsimp only; simp [r0, k0, u0, u1, yI_same, yI_ne, yI_c, yR_I, yI_row, yR_row, yI_R, yR_ne, yR_same, yI_L, yR_L, vp_in, z_32]; done)
  obtain ⟨h10, t10, Y10⟩ : ∃ h', XT l 13 513 false 179 153 6051 23 [xf 13 104, xi x1, xi x2, xi x3, xi x4, xi x5, xi 8, xi x2] [] h9 23 [xf 13 104, xi x1, xi x2, xi x3, xi x4, xi x5, xi 9, xi x3] [] h' ∧ YF h' 20 0 := by
    have r0 : xR h9 104 0 = 105 := Y9.1.1 (104, 0, 105) (by decide)
    have k0 : xfk 13 0 = 10700 := rfl
    obtain ⟨-, u0, u1⟩ := id Y9
    refine ⟨_, XT_path (inl := []) (n' := 40) (sp := [23]) (o := [0, 1, 1, 0]) rfl rfl ?_ rfl ⟨Nat.le_of_eq Y9.1.2.2.1, Nat.le_of_eq Y9.1.2.2.2⟩ ?_, ?_, ?_, ?_⟩
    · refine ⟨rfl, ?_, ?_⟩ <;> first | rfl | (dsimp only; simp [r0, k0, u0, u1, yI_same, yI_ne, yI_c, yR_I, yI_row, yR_row, yI_R, yR_ne, yR_same, yI_L, yR_L, vp_in, z_32] <;> rfl)
    · first | trivial | (dsimp only; simp [r0, k0, u0, u1, yI_same, yI_ne, yI_c, yR_I, yI_row, yR_row, yI_R, yR_ne, yR_same, yI_L, yR_L, vp_in, z_32]; done)
    · dsimp only
      try simp [r0, yR_I, yR_row, yI_R, yR_ne, yR_same]
      (repeat (first | exact Y9.1 | (refine FYL.setI ?_ rfl) | (refine FYL.setC ?_ rfl) | (refine FYL.row ?_ rfl) | (refine FYL.setR ?_ rfl) | (refine FYL.setRv ?_ (by first | assumption | (simp [r0, k0, yR_I, yR_row, yR_ne]; done)) rfl)))
    · first | exact u0 | (dsimp only; simp [r0, k0, u0, u1, yI_same, yI_ne, yI_c, yR_I, yI_row, yR_row, yI_R, yR_ne, yR_same, yI_L, yR_L, vp_in, z_32]; done)
    · first | exact u1 | (dsimp only; simp [r0, k0, u0, u1, yI_same, yI_ne, yI_c, yR_I, yI_row, yR_row, yI_R, yR_ne, yR_same, yI_L, yR_L, vp_in, z_32]; done)
  obtain ⟨h11, t11, Y11⟩ : ∃ h', XT l 13 513 false 179 153 6051 23 [xf 13 104, xi x1, xi x2, xi x3, xi x4, xi x5, xi 9, xi x3] [] h10 23 [xf 13 104, xi x1, xi x2, xi x3, xi x4, xi x5, xi 10, xi x3] [] h' ∧ YF h' 20 0 := by
    have r0 : xR h10 104 0 = 105 := Y10.1.1 (104, 0, 105) (by decide)
    have k0 : xfk 13 0 = 10700 := rfl
    obtain ⟨-, u0, u1⟩ := id Y10
    refine ⟨_, XT_path (inl := []) (n' := 40) (sp := [23]) (o := [0, 1, 1, 0]) rfl rfl ?_ rfl ⟨Nat.le_of_eq Y10.1.2.2.1, Nat.le_of_eq Y10.1.2.2.2⟩ ?_, ?_, ?_, ?_⟩
    · refine ⟨rfl, ?_, ?_⟩ <;> first | rfl | (dsimp only; simp [r0, k0, u0, u1, yI_same, yI_ne, yI_c, yR_I, yI_row, yR_row, yI_R, yR_ne, yR_same, yI_L, yR_L, vp_in, z_32] <;> rfl)
    · first | trivial | (dsimp only; simp [r0, k0, u0, u1, yI_same, yI_ne, yI_c, yR_I, yI_row, yR_row, yI_R, yR_ne, yR_same, yI_L, yR_L, vp_in, z_32]; done)
    · dsimp only
      try simp [r0, yR_I, yR_row, yI_R, yR_ne, yR_same]
      (repeat (first | exact Y10.1 | (refine FYL.setI ?_ rfl) | (refine FYL.setC ?_ rfl) | (refine FYL.row ?_ rfl) | (refine FYL.setR ?_ rfl) | (refine FYL.setRv ?_ (by first | assumption | (simp [r0, k0, yR_I, yR_row, yR_ne]; done)) rfl)))
    · first | exact u0 | (dsimp only; simp [r0, k0, u0, u1, yI_same, yI_ne, yI_c, yR_I, yI_row, yR_row, yI_R, yR_ne, yR_same, yI_L, yR_L, vp_in, z_32]; done)
    · first | exact u1 | (dsimp only; simp [r0, k0, u0, u1, yI_same, yI_ne, yI_c, yR_I, yI_row, yR_row, yI_R, yR_ne, yR_same, yI_L, yR_L, vp_in, z_32]; done)
  obtain ⟨h12, t12, Y12⟩ : ∃ h', XT l 13 513 false 179 153 6051 23 [xf 13 104, xi x1, xi x2, xi x3, xi x4, xi x5, xi 10, xi x3] [] h11 23 [xf 13 104, xi x1, xi x2, xi x3, xi x4, xi x5, xi 11, xi x3] [] h' ∧ YF h' 20 0 := by
    have r0 : xR h11 104 0 = 105 := Y11.1.1 (104, 0, 105) (by decide)
    have k0 : xfk 13 0 = 10700 := rfl
    obtain ⟨-, u0, u1⟩ := id Y11
    refine ⟨_, XT_path (inl := []) (n' := 40) (sp := [23]) (o := [0, 1, 1, 0]) rfl rfl ?_ rfl ⟨Nat.le_of_eq Y11.1.2.2.1, Nat.le_of_eq Y11.1.2.2.2⟩ ?_, ?_, ?_, ?_⟩
    · refine ⟨rfl, ?_, ?_⟩ <;> first | rfl | (dsimp only; simp [r0, k0, u0, u1, yI_same, yI_ne, yI_c, yR_I, yI_row, yR_row, yI_R, yR_ne, yR_same, yI_L, yR_L, vp_in, z_32] <;> rfl)
    · first | trivial | (dsimp only; simp [r0, k0, u0, u1, yI_same, yI_ne, yI_c, yR_I, yI_row, yR_row, yI_R, yR_ne, yR_same, yI_L, yR_L, vp_in, z_32]; done)
    · dsimp only
      try simp [r0, yR_I, yR_row, yI_R, yR_ne, yR_same]
      (repeat (first | exact Y11.1 | (refine FYL.setI ?_ rfl) | (refine FYL.setC ?_ rfl) | (refine FYL.row ?_ rfl) | (refine FYL.setR ?_ rfl) | (refine FYL.setRv ?_ (by first | assumption | (simp [r0, k0, yR_I, yR_row, yR_ne]; done)) rfl)))
    · first | exact u0 | (dsimp only; simp [r0, k0, u0, u1, yI_same, yI_ne, yI_c, yR_I, yI_row, yR_row, yI_R, yR_ne, yR_same, yI_L, yR_L, vp_in, z_32]; done)
    · first | exact u1 | (dsimp only; simp [r0, k0, u0, u1, yI_same, yI_ne, yI_c, yR_I, yI_row, yR_row, yI_R, yR_ne, yR_same, yI_L, yR_L, vp_in, z_32]; done)
  obtain ⟨h13, t13, Y13⟩ : ∃ h', XT l 13 513 false 179 153 6051 23 [xf 13 104, xi x1, xi x2, xi x3, xi x4, xi x5, xi 11, xi x3] [] h12 23 [xf 13 104, xi x1, xi x2, xi x3, xi x4, xi x5, xi 12, xi x3] [] h' ∧ YF h' 20 0 := by
    have r0 : xR h12 104 0 = 105 := Y12.1.1 (104, 0, 105) (by decide)
    have k0 : xfk 13 0 = 10700 := rfl
    obtain ⟨-, u0, u1⟩ := id Y12
    refine ⟨_, XT_path (inl := []) (n' := 40) (sp := [23]) (o := [0, 1, 1, 0]) rfl rfl ?_ rfl ⟨Nat.le_of_eq Y12.1.2.2.1, Nat.le_of_eq Y12.1.2.2.2⟩ ?_, ?_, ?_, ?_⟩
    · refine ⟨rfl, ?_, ?_⟩ <;> first | rfl | (dsimp only; simp [r0, k0, u0, u1, yI_same, yI_ne, yI_c, yR_I, yI_row, yR_row, yI_R, yR_ne, yR_same, yI_L, yR_L, vp_in, z_32] <;> rfl)
    · first | trivial | (dsimp only; simp [r0, k0, u0, u1, yI_same, yI_ne, yI_c, yR_I, yI_row, yR_row, yI_R, yR_ne, yR_same, yI_L, yR_L, vp_in, z_32]; done)
    · dsimp only
      try simp [r0, yR_I, yR_row, yI_R, yR_ne, yR_same]
      (repeat (first | exact Y12.1 | (refine FYL.setI ?_ rfl) | (refine FYL.setC ?_ rfl) | (refine FYL.row ?_ rfl) | (refine FYL.setR ?_ rfl) | (refine FYL.setRv ?_ (by first | assumption | (simp [r0, k0, yR_I, yR_row, yR_ne]; done)) rfl)))
    · first | exact u0 | (dsimp only; simp [r0, k0, u0, u1, yI_same, yI_ne, yI_c, yR_I, yI_row, yR_row, yI_R, yR_ne, yR_same, yI_L, yR_L, vp_in, z_32]; done)
    · first | exact u1 | (dsimp only; simp [r0, k0, u0, u1, yI_same, yI_ne, yI_c, yR_I, yI_row, yR_row, yI_R, yR_ne, yR_same, yI_L, yR_L, vp_in, z_32]; done)
  obtain ⟨h14, t14, Y14⟩ : ∃ h', XT l 13 513 false 179 153 6051 23 [xf 13 104, xi x1, xi x2, xi x3, xi x4, xi x5, xi 12, xi x3] [] h13 23 [xf 13 104, xi x1, xi x2, xi x3, xi x4, xi x5, xi 13, xi x4] [] h' ∧ YF h' 20 0 := by
    have r0 : xR h13 104 0 = 105 := Y13.1.1 (104, 0, 105) (by decide)
    have k0 : xfk 13 0 = 10700 := rfl
    obtain ⟨-, u0, u1⟩ := id Y13
    refine ⟨_, XT_path (inl := []) (n' := 43) (sp := [23]) (o := [0, 1, 1, 1, 0]) rfl rfl ?_ rfl ⟨Nat.le_of_eq Y13.1.2.2.1, Nat.le_of_eq Y13.1.2.2.2⟩ ?_, ?_, ?_, ?_⟩
    · refine ⟨rfl, ?_, ?_⟩ <;> first | rfl | (dsimp only; simp [r0, k0, u0, u1, yI_same, yI_ne, yI_c, yR_I, yI_row, yR_row, yI_R, yR_ne, yR_same, yI_L, yR_L, vp_in, z_32] <;> rfl)
    · first | trivial | (dsimp only; simp [r0, k0, u0, u1, yI_same, yI_ne, yI_c, yR_I, yI_row, yR_row, yI_R, yR_ne, yR_same, yI_L, yR_L, vp_in, z_32]; done)
    · dsimp only
      try simp [r0, yR_I, yR_row, yI_R, yR_ne, yR_same]
      (repeat (first | exact Y13.1 | (refine FYL.setI ?_ rfl) | (refine FYL.setC ?_ rfl) | (refine FYL.row ?_ rfl) | (refine FYL.setR ?_ rfl) | (refine FYL.setRv ?_ (by first | assumption | (simp [r0, k0, yR_I, yR_row, yR_ne]; done)) rfl)))
    · first | exact u0 | (dsimp only; simp [r0, k0, u0, u1, yI_same, yI_ne, yI_c, yR_I, yI_row, yR_row, yI_R, yR_ne, yR_same, yI_L, yR_L, vp_in, z_32]; done)
    · first | exact u1 | (dsimp only; simp [r0, k0, u0, u1, yI_same, yI_ne, yI_c, yR_I, yI_row, yR_row, yI_R, yR_ne, yR_same, yI_L, yR_L, vp_in, z_32]; done)
  obtain ⟨h15, t15, Y15⟩ : ∃ h', XT l 13 513 false 179 153 6051 23 [xf 13 104, xi x1, xi x2, xi x3, xi x4, xi x5, xi 13, xi x4] [] h14 23 [xf 13 104, xi x1, xi x2, xi x3, xi x4, xi x5, xi 14, xi x4] [] h' ∧ YF h' 20 0 := by
    have r0 : xR h14 104 0 = 105 := Y14.1.1 (104, 0, 105) (by decide)
    have k0 : xfk 13 0 = 10700 := rfl
    obtain ⟨-, u0, u1⟩ := id Y14
    refine ⟨_, XT_path (inl := []) (n' := 43) (sp := [23]) (o := [0, 1, 1, 1, 0]) rfl rfl ?_ rfl ⟨Nat.le_of_eq Y14.1.2.2.1, Nat.le_of_eq Y14.1.2.2.2⟩ ?_, ?_, ?_, ?_⟩
    · refine ⟨rfl, ?_, ?_⟩ <;> first | rfl | (dsimp only; simp [r0, k0, u0, u1, yI_same, yI_ne, yI_c, yR_I, yI_row, yR_row, yI_R, yR_ne, yR_same, yI_L, yR_L, vp_in, z_32] <;> rfl)
    · first | trivial | (dsimp only; simp [r0, k0, u0, u1, yI_same, yI_ne, yI_c, yR_I, yI_row, yR_row, yI_R, yR_ne, yR_same, yI_L, yR_L, vp_in, z_32]; done)
    · dsimp only
      try simp [r0, yR_I, yR_row, yI_R, yR_ne, yR_same]
      (repeat (first | exact Y14.1 | (refine FYL.setI ?_ rfl) | (refine FYL.setC ?_ rfl) | (refine FYL.row ?_ rfl) | (refine FYL.setR ?_ rfl) | (refine FYL.setRv ?_ (by first | assumption | (simp [r0, k0, yR_I, yR_row, yR_ne]; done)) rfl)))
    · first | exact u0 | (dsimp only; simp [r0, k0, u0, u1, yI_same, yI_ne, yI_c, yR_I, yI_row, yR_row, yI_R, yR_ne, yR_same, yI_L, yR_L, vp_in, z_32]; done)
    · first | exact u1 | (dsimp only; simp [r0, k0, u0, u1, yI_same, yI_ne, yI_c, yR_I, yI_row, yR_row, yI_R, yR_ne, yR_same, yI_L, yR_L, vp_in, z_32]; done)
  obtain ⟨h16, t16, Y16⟩ : ∃ h', XT l 13 513 false 179 153 6051 23 [xf 13 104, xi x1, xi x2, xi x3, xi x4, xi x5, xi 14, xi x4] [] h15 23 [xf 13 104, xi x1, xi x2, xi x3, xi x4, xi x5, xi 15, xi x4] [] h' ∧ YF h' 20 0 := by
    have r0 : xR h15 104 0 = 105 := Y15.1.1 (104, 0, 105) (by decide)
    have k0 : xfk 13 0 = 10700 := rfl
    obtain ⟨-, u0, u1⟩ := id Y15
    refine ⟨_, XT_path (inl := []) (n' := 43) (sp := [23]) (o := [0, 1, 1, 1, 0]) rfl rfl ?_ rfl ⟨Nat.le_of_eq Y15.1.2.2.1, Nat.le_of_eq Y15.1.2.2.2⟩ ?_, ?_, ?_, ?_⟩
    · refine ⟨rfl, ?_, ?_⟩ <;> first | rfl | (dsimp only; simp [r0, k0, u0, u1, yI_same, yI_ne, yI_c, yR_I, yI_row, yR_row, yI_R, yR_ne, yR_same, yI_L, yR_L, vp_in, z_32] <;> rfl)
    · first | trivial | (dsimp only; simp [r0, k0, u0, u1, yI_same, yI_ne, yI_c, yR_I, yI_row, yR_row, yI_R, yR_ne, yR_same, yI_L, yR_L, vp_in, z_32]; done)
    · dsimp only
      try simp [r0, yR_I, yR_row, yI_R, yR_ne, yR_same]
      (repeat (first | exact Y15.1 | (refine FYL.setI ?_ rfl) | (refine FYL.setC ?_ rfl) | (refine FYL.row ?_ rfl) | (refine FYL.setR ?_ rfl) | (refine FYL.setRv ?_ (by first | assumption | (simp [r0, k0, yR_I, yR_row, yR_ne]; done)) rfl)))
    · first | exact u0 | (dsimp only; simp [r0, k0, u0, u1, yI_same, yI_ne, yI_c, yR_I, yI_row, yR_row, yI_R, yR_ne, yR_same, yI_L, yR_L, vp_in, z_32]; done)
    · first | exact u1 | (dsimp only; simp [r0, k0, u0, u1, yI_same, yI_ne, yI_c, yR_I, yI_row, yR_row, yI_R, yR_ne, yR_same, yI_L, yR_L, vp_in, z_32]; done)
  obtain ⟨h17, t17, Y17⟩ : ∃ h', XT l 13 513 false 179 153 6051 23 [xf 13 104, xi x1, xi x2, xi x3, xi x4, xi x5, xi 15, xi x4] [] h16 23 [xf 13 104, xi x1, xi x2, xi x3, xi x4, xi x5, xi 16, xi x4] [] h' ∧ YF h' 20 0 := by
    have r0 : xR h16 104 0 = 105 := Y16.1.1 (104, 0, 105) (by decide)
    have k0 : xfk 13 0 = 10700 := rfl
    obtain ⟨-, u0, u1⟩ := id Y16
    refine ⟨_, XT_path (inl := []) (n' := 43) (sp := [23]) (o := [0, 1, 1, 1, 0]) rfl rfl ?_ rfl ⟨Nat.le_of_eq Y16.1.2.2.1, Nat.le_of_eq Y16.1.2.2.2⟩ ?_, ?_, ?_, ?_⟩
    · refine ⟨rfl, ?_, ?_⟩ <;> first | rfl | (dsimp only; simp [r0, k0, u0, u1, yI_same, yI_ne, yI_c, yR_I, yI_row, yR_row, yI_R, yR_ne, yR_same, yI_L, yR_L, vp_in, z_32] <;> rfl)
    · first | trivial | (dsimp only; simp [r0, k0, u0, u1, yI_same, yI_ne, yI_c, yR_I, yI_row, yR_row, yI_R, yR_ne, yR_same, yI_L, yR_L, vp_in, z_32]; done)
    · dsimp only
      try simp [r0, yR_I, yR_row, yI_R, yR_ne, yR_same]
      (repeat (first | exact Y16.1 | (refine FYL.setI ?_ rfl) | (refine FYL.setC ?_ rfl) | (refine FYL.row ?_ rfl) | (refine FYL.setR ?_ rfl) | (refine FYL.setRv ?_ (by first | assumption | (simp [r0, k0, yR_I, yR_row, yR_ne]; done)) rfl)))
    · first | exact u0 | (dsimp only; simp [r0, k0, u0, u1, yI_same, yI_ne, yI_c, yR_I, yI_row, yR_row, yI_R, yR_ne, yR_same, yI_L, yR_L, vp_in, z_32]; done)
    · first | exact u1 | (dsimp only; simp [r0, k0, u0, u1, yI_same, yI_ne, yI_c, yR_I, yI_row, yR_row, yI_R, yR_ne, yR_same, yI_L, yR_L, vp_in, z_32]; done)
  obtain ⟨h18, t18, Y18⟩ : ∃ h', XT l 13 513 false 179 153 6051 23 [xf 13 104, xi x1, xi x2, xi x3, xi x4, xi x5, xi 16, xi x4] [] h17 23 [xf 13 104, xi x1, xi x2, xi x3, xi x4, xi x5, xi 17, xi x5] [] h' ∧ YF h' 20 0 := by
    have r0 : xR h17 104 0 = 105 := Y17.1.1 (104, 0, 105) (by decide)
    have k0 : xfk 13 0 = 10700 := rfl
    obtain ⟨-, u0, u1⟩ := id Y17
    refine ⟨_, XT_path (inl := []) (n' := 42) (sp := [23]) (o := [0, 1, 1, 1, 1]) rfl rfl ?_ rfl ⟨Nat.le_of_eq Y17.1.2.2.1, Nat.le_of_eq Y17.1.2.2.2⟩ ?_, ?_, ?_, ?_⟩
    · refine ⟨rfl, ?_, ?_⟩ <;> first | rfl | (dsimp only; simp [r0, k0, u0, u1, yI_same, yI_ne, yI_c, yR_I, yI_row, yR_row, yI_R, yR_ne, yR_same, yI_L, yR_L, vp_in, z_32] <;> rfl)
    · first | trivial | (dsimp only; simp [r0, k0, u0, u1, yI_same, yI_ne, yI_c, yR_I, yI_row, yR_row, yI_R, yR_ne, yR_same, yI_L, yR_L, vp_in, z_32]; done)
    · dsimp only
      try simp [r0, yR_I, yR_row, yI_R, yR_ne, yR_same]
      (repeat (first | exact Y17.1 | (refine FYL.setI ?_ rfl) | (refine FYL.setC ?_ rfl) | (refine FYL.row ?_ rfl) | (refine FYL.setR ?_ rfl) | (refine FYL.setRv ?_ (by first | assumption | (simp [r0, k0, yR_I, yR_row, yR_ne]; done)) rfl)))
    · first | exact u0 | (dsimp only; simp [r0, k0, u0, u1, yI_same, yI_ne, yI_c, yR_I, yI_row, yR_row, yI_R, yR_ne, yR_same, yI_L, yR_L, vp_in, z_32]; done)
    · first | exact u1 | (dsimp only; simp [r0, k0, u0, u1, yI_same, yI_ne, yI_c, yR_I, yI_row, yR_row, yI_R, yR_ne, yR_same, yI_L, yR_L, vp_in, z_32]; done)
  obtain ⟨h19, t19, Y19⟩ : ∃ h', XT l 13 513 false 179 153 6051 23 [xf 13 104, xi x1, xi x2, xi x3, xi x4, xi x5, xi 17, xi x5] [] h18 23 [xf 13 104, xi x1, xi x2, xi x3, xi x4, xi x5, xi 18, xi x5] [] h' ∧ YF h' 20 0 := by
    have r0 : xR h18 104 0 = 105 := Y18.1.1 (104, 0, 105) (by decide)
    have k0 : xfk 13 0 = 10700 := rfl
    obtain ⟨-, u0, u1⟩ := id Y18
    refine ⟨_, XT_path (inl := []) (n' := 42) (sp := [23]) (o := [0, 1, 1, 1, 1]) rfl rfl ?_ rfl ⟨Nat.le_of_eq Y18.1.2.2.1, Nat.le_of_eq Y18.1.2.2.2⟩ ?_, ?_, ?_, ?_⟩
    · refine ⟨rfl, ?_, ?_⟩ <;> first | rfl | (dsimp only; simp [r0, k0, u0, u1, yI_same, yI_ne, yI_c, yR_I, yI_row, yR_row, yI_R, yR_ne, yR_same, yI_L, yR_L, vp_in, z_32] <;> rfl)
    · first | trivial | (dsimp only; simp [r0, k0, u0, u1, yI_same, yI_ne, yI_c, yR_I, yI_row, yR_row, yI_R, yR_ne, yR_same, yI_L, yR_L, vp_in, z_32]; done)
    · dsimp only
      try simp [r0, yR_I, yR_row, yI_R, yR_ne, yR_same]
      (repeat (first | exact Y18.1 | (refine FYL.setI ?_ rfl) | (refine FYL.setC ?_ rfl) | (refine FYL.row ?_ rfl) | (refine FYL.setR ?_ rfl) | (refine FYL.setRv ?_ (by first | assumption | (simp [r0, k0, yR_I, yR_row, yR_ne]; done)) rfl)))
    · first | exact u0 | (dsimp only; simp [r0, k0, u0, u1, yI_same, yI_ne, yI_c, yR_I, yI_row, yR_row, yI_R, yR_ne, yR_same, yI_L, yR_L, vp_in, z_32]; done)
    · first | exact u1 | (dsimp only; simp [r0, k0, u0, u1, yI_same, yI_ne, yI_c, yR_I, yI_row, yR_row, yI_R, yR_ne, yR_same, yI_L, yR_L, vp_in, z_32]; done)
  obtain ⟨h20, t20, Y20⟩ : ∃ h', XT l 13 513 false 179 153 6051 23 [xf 13 104, xi x1, xi x2, xi x3, xi x4, xi x5, xi 18, xi x5] [] h19 23 [xf 13 104, xi x1, xi x2, xi x3, xi x4, xi x5, xi 19, xi x5] [] h' ∧ YF h' 20 0 := by
    have r0 : xR h19 104 0 = 105 := Y19.1.1 (104, 0, 105) (by decide)
    have k0 : xfk 13 0 = 10700 := rfl
    obtain ⟨-, u0, u1⟩ := id Y19
    refine ⟨_, XT_path (inl := []) (n' := 42) (sp := [23]) (o := [0, 1, 1, 1, 1]) rfl rfl ?_ rfl ⟨Nat.le_of_eq Y19.1.2.2.1, Nat.le_of_eq Y19.1.2.2.2⟩ ?_, ?_, ?_, ?_⟩
    · refine ⟨rfl, ?_, ?_⟩ <;> first | rfl | (dsimp only; simp [r0, k0, u0, u1, yI_same, yI_ne, yI_c, yR_I, yI_row, yR_row, yI_R, yR_ne, yR_same, yI_L, yR_L, vp_in, z_32] <;> rfl)
    · first | trivial | (dsimp only; simp [r0, k0, u0, u1, yI_same, yI_ne, yI_c, yR_I, yI_row, yR_row, yI_R, yR_ne, yR_same, yI_L, yR_L, vp_in, z_32]; done)
    · dsimp only
      try simp [r0, yR_I, yR_row, yI_R, yR_ne, yR_same]
      (repeat (first | exact Y19.1 | (refine FYL.setI ?_ rfl) | (refine FYL.setC ?_ rfl) | (refine FYL.row ?_ rfl) | (refine FYL.setR ?_ rfl) | (refine FYL.setRv ?_ (by first | assumption | (simp [r0, k0, yR_I, yR_row, yR_ne]; done)) rfl)))
    · first | exact u0 | (dsimp only; simp [r0, k0, u0, u1, yI_same, yI_ne, yI_c, yR_I, yI_row, yR_row, yI_R, yR_ne, yR_same, yI_L, yR_L, vp_in, z_32]; done)
    · first | exact u1 | (dsimp only; simp [r0, k0, u0, u1, yI_same, yI_ne, yI_c, yR_I, yI_row, yR_row, yI_R, yR_ne, yR_same, yI_L, yR_L, vp_in, z_32]; done)
  obtain ⟨h21, t21, Y21⟩ : ∃ h', XT l 13 513 false 179 153 6051 23 [xf 13 104, xi x1, xi x2, xi x3, xi x4, xi x5, xi 19, xi x5] [] h20 23 [xf 13 104, xi x1, xi x2, xi x3, xi x4, xi x5, xi 20, xi x5] [] h' ∧ YF h' 20 0 := by
    have r0 : xR h20 104 0 = 105 := Y20.1.1 (104, 0, 105) (by decide)
    have k0 : xfk 13 0 = 10700 := rfl
    obtain ⟨-, u0, u1⟩ := id Y20
    refine ⟨_, XT_path (inl := []) (n' := 42) (sp := [23]) (o := [0, 1, 1, 1, 1]) rfl rfl ?_ rfl ⟨Nat.le_of_eq Y20.1.2.2.1, Nat.le_of_eq Y20.1.2.2.2⟩ ?_, ?_, ?_, ?_⟩
    · refine ⟨rfl, ?_, ?_⟩ <;> first | rfl | (dsimp only; simp [r0, k0, u0, u1, yI_same, yI_ne, yI_c, yR_I, yI_row, yR_row, yI_R, yR_ne, yR_same, yI_L, yR_L, vp_in, z_32] <;> rfl)
    · first | trivial | (dsimp only; simp [r0, k0, u0, u1, yI_same, yI_ne, yI_c, yR_I, yI_row, yR_row, yI_R, yR_ne, yR_same, yI_L, yR_L, vp_in, z_32]; done)
    · dsimp only
      try simp [r0, yR_I, yR_row, yI_R, yR_ne, yR_same]
      (repeat (first | exact Y20.1 | (refine FYL.setI ?_ rfl) | (refine FYL.setC ?_ rfl) | (refine FYL.row ?_ rfl) | (refine FYL.setR ?_ rfl) | (refine FYL.setRv ?_ (by first | assumption | (simp [r0, k0, yR_I, yR_row, yR_ne]; done)) rfl)))
    · first | exact u0 | (dsimp only; simp [r0, k0, u0, u1, yI_same, yI_ne, yI_c, yR_I, yI_row, yR_row, yI_R, yR_ne, yR_same, yI_L, yR_L, vp_in, z_32]; done)
    · first | exact u1 | (dsimp only; simp [r0, k0, u0, u1, yI_same, yI_ne, yI_c, yR_I, yI_row, yR_row, yI_R, yR_ne, yR_same, yI_L, yR_L, vp_in, z_32]; done)
  obtain ⟨h22, t22, Y22⟩ : ∃ h', XT l 13 513 false 179 153 6051 23 [xf 13 104, xi x1, xi x2, xi x3, xi x4, xi x5, xi 20, xi x5] [] h21 128 [xf 13 104, xi x1, xi x2, xi x3, xi x4, xi x5, xi 20, xi x5] [xi 20] h' ∧ YF h' 20 20 := by
    obtain ⟨-, u0, u1⟩ := id Y21
    refine ⟨_, XT_path (inl := []) (n' := 16) (sp := [128]) (o := [1]) rfl rfl ?_ rfl ⟨Nat.le_of_eq Y21.1.2.2.1, Nat.le_of_eq Y21.1.2.2.2⟩ ?_, ?_, ?_, ?_⟩
    · refine ⟨rfl, ?_, ?_⟩ <;> first | rfl | (dsimp only; simp [u0, u1, yI_same, yI_ne, yI_c, yR_I, yI_row, yR_row, yI_R, yR_ne, yR_same, yI_L, yR_L, vp_in, z_32] <;> rfl)
    · first | trivial | (dsimp only; simp [u0, u1, yI_same, yI_ne, yI_c, yR_I, yI_row, yR_row, yI_R, yR_ne, yR_same, yI_L, yR_L, vp_in, z_32]; done)
    · dsimp only
      (repeat (first | exact Y21.1 | (refine FYL.setI ?_ rfl) | (refine FYL.setC ?_ rfl) | (refine FYL.row ?_ rfl) | (refine FYL.setR ?_ rfl) | (refine FYL.setRv ?_ (by first | assumption | (simp [yR_I, yR_row, yR_ne]; done)) rfl)))
    · first | exact u0 | (dsimp only; simp [u0, u1, yI_same, yI_ne, yI_c, yR_I, yI_row, yR_row, yI_R, yR_ne, yR_same, yI_L, yR_L, vp_in, z_32]; done)
    · first | exact u1 | (dsimp only; simp [u0, u1, yI_same, yI_ne, yI_c, yR_I, yI_row, yR_row, yI_R, yR_ne, yR_same, yI_L, yR_L, vp_in, z_32]; done)
  exact ⟨h22, CX_ofT (by decide) rfl rfl trivial ⟨_, _, _, rfl, rfl, rfl⟩ rfl ⟨Nat.le_of_eq Y22.1.2.2.1.symm, Nat.le_of_eq Y22.1.2.2.2.symm⟩ (t1.tr (t2.tr (t3.tr (t4.tr (t5.tr (t6.tr (t7.tr (t8.tr (t9.tr (t10.tr (t11.tr (t12.tr (t13.tr (t14.tr (t15.tr (t16.tr (t17.tr (t18.tr (t19.tr (t20.tr (t21.tr t22))))))))))))))))))))), Y22⟩
