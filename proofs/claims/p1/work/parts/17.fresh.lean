/-! p1: what seasons, steady and tried do on fresh objects. Y0: the facts that stay, and three that move: now.season, the model's season[0], trial.mode. -/
theorem z_32 : Int32.ofInt 0 = 0 := rfl
def fyR : List (Nat × Nat × Nat) := [(2, 3, 48), (2, 4, 59), (2, 7, 81), (48, 0, 3), (48, 1, 49), (48, 2, 50), (48, 3, 51), (48, 4, 52), (48, 5, 53), (48, 6, 54), (48, 8, 55), (48, 9, 56), (48, 12, 57), (59, 0, 3), (59, 1, 60), (59, 2, 61), (59, 3, 62), (59, 4, 63), (59, 5, 64), (59, 6, 65), (59, 8, 66), (59, 9, 67), (59, 12, 68), (104, 55, 133), (104, 56, 134), (104, 57, 135), (104, 58, 136), (104, 59, 137), (104, 60, 138)]
def fyI : List (Nat × Nat × Int32) := [(3, 0, 0), (3, 5, 0), (3, 9, 0), (3, 18, 2), (48, 10, -1), (104, 12, 0), (104, 14, 0)]
def Y0 (h : XH) (a d c : Int32) : Prop := FYL fyR fyI h ∧ xI h 48 7 = a ∧ xI h 138 0 = d ∧ xI h 59 10 = c

set_option maxRecDepth 100000 in
set_option maxHeartbeats 1000000 in
theorem p1_fill57 (l : Launch) (h : XH) (a d c : Int32) (Y : Y0 h a d c) : ∃ h', CX l 9 400 false 5 [xf 10006 57, xi 0] h [] h' ∧ Y0 h' a d c := by
  obtain ⟨h1, t1, Y1⟩ : ∃ h', XT l 9 400 false 5 153 6051 0 [xf 10006 57, xi 0, xun, xun] [] h 5 [xf 10006 57, xi 0, xi 0, xi 6] [] h' ∧ Y0 h' a d c := by
    obtain ⟨-, u0, u1, u2⟩ := id Y
    refine ⟨_, XT_path (inl := []) (n' := 10) (sp := [5]) (o := []) rfl rfl ?_ rfl ⟨Nat.le_of_eq Y.1.2.2.1, Nat.le_of_eq Y.1.2.2.2⟩ ?_, ?_, ?_, ?_, ?_⟩
    · refine ⟨rfl, ?_, ?_⟩ <;> first | rfl | (dsimp only; simp [u0, u1, u2, yI_same, yI_ne, yI_c, yR_I, yI_row, yR_row, yI_R, yR_ne, yR_same, yI_L, yR_L, vp_in, z_32] <;> rfl)
    · first | trivial | (dsimp only; simp [u0, u1, u2, yI_same, yI_ne, yI_c, yR_I, yI_row, yR_row, yI_R, yR_ne, yR_same, yI_L, yR_L, vp_in, z_32]; done)
    · dsimp only
      (repeat (first | exact Y.1 | (refine FYL.setI ?_ rfl) | (refine FYL.setC ?_ rfl) | (refine FYL.row ?_ rfl) | (refine FYL.setR ?_ rfl) | (refine FYL.setRv ?_ (by first | assumption | (simp [yR_I, yR_row, yR_ne]; done)) rfl)))
    · first | exact u0 | (dsimp only; simp [u0, u1, u2, yI_same, yI_ne, yI_c, yR_I, yI_row, yR_row, yI_R, yR_ne, yR_same, yI_L, yR_L, vp_in, z_32]; done)
    · first | exact u1 | (dsimp only; simp [u0, u1, u2, yI_same, yI_ne, yI_c, yR_I, yI_row, yR_row, yI_R, yR_ne, yR_same, yI_L, yR_L, vp_in, z_32]; done)
    · first | exact u2 | (dsimp only; simp [u0, u1, u2, yI_same, yI_ne, yI_c, yR_I, yI_row, yR_row, yI_R, yR_ne, yR_same, yI_L, yR_L, vp_in, z_32]; done)
  obtain ⟨h2, t2, Y2⟩ : ∃ h', XT l 9 400 false 5 153 6051 5 [xf 10006 57, xi 0, xi 0, xi 6] [] h1 5 [xf 10006 57, xi 0, xi 1, xi 6] [] h' ∧ Y0 h' a d c := by
    obtain ⟨-, u0, u1, u2⟩ := id Y1
    refine ⟨_, XT_path (inl := []) (n' := 14) (sp := [5]) (o := [0]) rfl rfl ?_ rfl ⟨Nat.le_of_eq Y1.1.2.2.1, Nat.le_of_eq Y1.1.2.2.2⟩ ?_, ?_, ?_, ?_, ?_⟩
    · refine ⟨rfl, ?_, ?_⟩ <;> first | rfl | (dsimp only; simp [u0, u1, u2, yI_same, yI_ne, yI_c, yR_I, yI_row, yR_row, yI_R, yR_ne, yR_same, yI_L, yR_L, vp_in, z_32] <;> rfl)
    · first | trivial | (dsimp only; simp [u0, u1, u2, yI_same, yI_ne, yI_c, yR_I, yI_row, yR_row, yI_R, yR_ne, yR_same, yI_L, yR_L, vp_in, z_32]; done)
    · dsimp only
      (repeat (first | exact Y1.1 | (refine FYL.setI ?_ rfl) | (refine FYL.setC ?_ rfl) | (refine FYL.row ?_ rfl) | (refine FYL.setR ?_ rfl) | (refine FYL.setRv ?_ (by first | assumption | (simp [yR_I, yR_row, yR_ne]; done)) rfl)))
    · first | exact u0 | (dsimp only; simp [u0, u1, u2, yI_same, yI_ne, yI_c, yR_I, yI_row, yR_row, yI_R, yR_ne, yR_same, yI_L, yR_L, vp_in, z_32]; done)
    · first | exact u1 | (dsimp only; simp [u0, u1, u2, yI_same, yI_ne, yI_c, yR_I, yI_row, yR_row, yI_R, yR_ne, yR_same, yI_L, yR_L, vp_in, z_32]; done)
    · first | exact u2 | (dsimp only; simp [u0, u1, u2, yI_same, yI_ne, yI_c, yR_I, yI_row, yR_row, yI_R, yR_ne, yR_same, yI_L, yR_L, vp_in, z_32]; done)
  obtain ⟨h3, t3, Y3⟩ : ∃ h', XT l 9 400 false 5 153 6051 5 [xf 10006 57, xi 0, xi 1, xi 6] [] h2 5 [xf 10006 57, xi 0, xi 2, xi 6] [] h' ∧ Y0 h' a d c := by
    obtain ⟨-, u0, u1, u2⟩ := id Y2
    refine ⟨_, XT_path (inl := []) (n' := 14) (sp := [5]) (o := [0]) rfl rfl ?_ rfl ⟨Nat.le_of_eq Y2.1.2.2.1, Nat.le_of_eq Y2.1.2.2.2⟩ ?_, ?_, ?_, ?_, ?_⟩
    · refine ⟨rfl, ?_, ?_⟩ <;> first | rfl | (dsimp only; simp [u0, u1, u2, yI_same, yI_ne, yI_c, yR_I, yI_row, yR_row, yI_R, yR_ne, yR_same, yI_L, yR_L, vp_in, z_32] <;> rfl)
    · first | trivial | (dsimp only; simp [u0, u1, u2, yI_same, yI_ne, yI_c, yR_I, yI_row, yR_row, yI_R, yR_ne, yR_same, yI_L, yR_L, vp_in, z_32]; done)
    · dsimp only
      (repeat (first | exact Y2.1 | (refine FYL.setI ?_ rfl) | (refine FYL.setC ?_ rfl) | (refine FYL.row ?_ rfl) | (refine FYL.setR ?_ rfl) | (refine FYL.setRv ?_ (by first | assumption | (simp [yR_I, yR_row, yR_ne]; done)) rfl)))
    · first | exact u0 | (dsimp only; simp [u0, u1, u2, yI_same, yI_ne, yI_c, yR_I, yI_row, yR_row, yI_R, yR_ne, yR_same, yI_L, yR_L, vp_in, z_32]; done)
    · first | exact u1 | (dsimp only; simp [u0, u1, u2, yI_same, yI_ne, yI_c, yR_I, yI_row, yR_row, yI_R, yR_ne, yR_same, yI_L, yR_L, vp_in, z_32]; done)
    · first | exact u2 | (dsimp only; simp [u0, u1, u2, yI_same, yI_ne, yI_c, yR_I, yI_row, yR_row, yI_R, yR_ne, yR_same, yI_L, yR_L, vp_in, z_32]; done)
  obtain ⟨h4, t4, Y4⟩ : ∃ h', XT l 9 400 false 5 153 6051 5 [xf 10006 57, xi 0, xi 2, xi 6] [] h3 5 [xf 10006 57, xi 0, xi 3, xi 6] [] h' ∧ Y0 h' a d c := by
    obtain ⟨-, u0, u1, u2⟩ := id Y3
    refine ⟨_, XT_path (inl := []) (n' := 14) (sp := [5]) (o := [0]) rfl rfl ?_ rfl ⟨Nat.le_of_eq Y3.1.2.2.1, Nat.le_of_eq Y3.1.2.2.2⟩ ?_, ?_, ?_, ?_, ?_⟩
    · refine ⟨rfl, ?_, ?_⟩ <;> first | rfl | (dsimp only; simp [u0, u1, u2, yI_same, yI_ne, yI_c, yR_I, yI_row, yR_row, yI_R, yR_ne, yR_same, yI_L, yR_L, vp_in, z_32] <;> rfl)
    · first | trivial | (dsimp only; simp [u0, u1, u2, yI_same, yI_ne, yI_c, yR_I, yI_row, yR_row, yI_R, yR_ne, yR_same, yI_L, yR_L, vp_in, z_32]; done)
    · dsimp only
      (repeat (first | exact Y3.1 | (refine FYL.setI ?_ rfl) | (refine FYL.setC ?_ rfl) | (refine FYL.row ?_ rfl) | (refine FYL.setR ?_ rfl) | (refine FYL.setRv ?_ (by first | assumption | (simp [yR_I, yR_row, yR_ne]; done)) rfl)))
    · first | exact u0 | (dsimp only; simp [u0, u1, u2, yI_same, yI_ne, yI_c, yR_I, yI_row, yR_row, yI_R, yR_ne, yR_same, yI_L, yR_L, vp_in, z_32]; done)
    · first | exact u1 | (dsimp only; simp [u0, u1, u2, yI_same, yI_ne, yI_c, yR_I, yI_row, yR_row, yI_R, yR_ne, yR_same, yI_L, yR_L, vp_in, z_32]; done)
    · first | exact u2 | (dsimp only; simp [u0, u1, u2, yI_same, yI_ne, yI_c, yR_I, yI_row, yR_row, yI_R, yR_ne, yR_same, yI_L, yR_L, vp_in, z_32]; done)
  obtain ⟨h5, t5, Y5⟩ : ∃ h', XT l 9 400 false 5 153 6051 5 [xf 10006 57, xi 0, xi 3, xi 6] [] h4 5 [xf 10006 57, xi 0, xi 4, xi 6] [] h' ∧ Y0 h' a d c := by
    obtain ⟨-, u0, u1, u2⟩ := id Y4
    refine ⟨_, XT_path (inl := []) (n' := 14) (sp := [5]) (o := [0]) rfl rfl ?_ rfl ⟨Nat.le_of_eq Y4.1.2.2.1, Nat.le_of_eq Y4.1.2.2.2⟩ ?_, ?_, ?_, ?_, ?_⟩
    · refine ⟨rfl, ?_, ?_⟩ <;> first | rfl | (dsimp only; simp [u0, u1, u2, yI_same, yI_ne, yI_c, yR_I, yI_row, yR_row, yI_R, yR_ne, yR_same, yI_L, yR_L, vp_in, z_32] <;> rfl)
    · first | trivial | (dsimp only; simp [u0, u1, u2, yI_same, yI_ne, yI_c, yR_I, yI_row, yR_row, yI_R, yR_ne, yR_same, yI_L, yR_L, vp_in, z_32]; done)
    · dsimp only
      (repeat (first | exact Y4.1 | (refine FYL.setI ?_ rfl) | (refine FYL.setC ?_ rfl) | (refine FYL.row ?_ rfl) | (refine FYL.setR ?_ rfl) | (refine FYL.setRv ?_ (by first | assumption | (simp [yR_I, yR_row, yR_ne]; done)) rfl)))
    · first | exact u0 | (dsimp only; simp [u0, u1, u2, yI_same, yI_ne, yI_c, yR_I, yI_row, yR_row, yI_R, yR_ne, yR_same, yI_L, yR_L, vp_in, z_32]; done)
    · first | exact u1 | (dsimp only; simp [u0, u1, u2, yI_same, yI_ne, yI_c, yR_I, yI_row, yR_row, yI_R, yR_ne, yR_same, yI_L, yR_L, vp_in, z_32]; done)
    · first | exact u2 | (dsimp only; simp [u0, u1, u2, yI_same, yI_ne, yI_c, yR_I, yI_row, yR_row, yI_R, yR_ne, yR_same, yI_L, yR_L, vp_in, z_32]; done)
  obtain ⟨h6, t6, Y6⟩ : ∃ h', XT l 9 400 false 5 153 6051 5 [xf 10006 57, xi 0, xi 4, xi 6] [] h5 5 [xf 10006 57, xi 0, xi 5, xi 6] [] h' ∧ Y0 h' a d c := by
    obtain ⟨-, u0, u1, u2⟩ := id Y5
    refine ⟨_, XT_path (inl := []) (n' := 14) (sp := [5]) (o := [0]) rfl rfl ?_ rfl ⟨Nat.le_of_eq Y5.1.2.2.1, Nat.le_of_eq Y5.1.2.2.2⟩ ?_, ?_, ?_, ?_, ?_⟩
    · refine ⟨rfl, ?_, ?_⟩ <;> first | rfl | (dsimp only; simp [u0, u1, u2, yI_same, yI_ne, yI_c, yR_I, yI_row, yR_row, yI_R, yR_ne, yR_same, yI_L, yR_L, vp_in, z_32] <;> rfl)
    · first | trivial | (dsimp only; simp [u0, u1, u2, yI_same, yI_ne, yI_c, yR_I, yI_row, yR_row, yI_R, yR_ne, yR_same, yI_L, yR_L, vp_in, z_32]; done)
    · dsimp only
      (repeat (first | exact Y5.1 | (refine FYL.setI ?_ rfl) | (refine FYL.setC ?_ rfl) | (refine FYL.row ?_ rfl) | (refine FYL.setR ?_ rfl) | (refine FYL.setRv ?_ (by first | assumption | (simp [yR_I, yR_row, yR_ne]; done)) rfl)))
    · first | exact u0 | (dsimp only; simp [u0, u1, u2, yI_same, yI_ne, yI_c, yR_I, yI_row, yR_row, yI_R, yR_ne, yR_same, yI_L, yR_L, vp_in, z_32]; done)
    · first | exact u1 | (dsimp only; simp [u0, u1, u2, yI_same, yI_ne, yI_c, yR_I, yI_row, yR_row, yI_R, yR_ne, yR_same, yI_L, yR_L, vp_in, z_32]; done)
    · first | exact u2 | (dsimp only; simp [u0, u1, u2, yI_same, yI_ne, yI_c, yR_I, yI_row, yR_row, yI_R, yR_ne, yR_same, yI_L, yR_L, vp_in, z_32]; done)
  obtain ⟨h7, t7, Y7⟩ : ∃ h', XT l 9 400 false 5 153 6051 5 [xf 10006 57, xi 0, xi 5, xi 6] [] h6 5 [xf 10006 57, xi 0, xi 6, xi 6] [] h' ∧ Y0 h' a d c := by
    obtain ⟨-, u0, u1, u2⟩ := id Y6
    refine ⟨_, XT_path (inl := []) (n' := 14) (sp := [5]) (o := [0]) rfl rfl ?_ rfl ⟨Nat.le_of_eq Y6.1.2.2.1, Nat.le_of_eq Y6.1.2.2.2⟩ ?_, ?_, ?_, ?_, ?_⟩
    · refine ⟨rfl, ?_, ?_⟩ <;> first | rfl | (dsimp only; simp [u0, u1, u2, yI_same, yI_ne, yI_c, yR_I, yI_row, yR_row, yI_R, yR_ne, yR_same, yI_L, yR_L, vp_in, z_32] <;> rfl)
    · first | trivial | (dsimp only; simp [u0, u1, u2, yI_same, yI_ne, yI_c, yR_I, yI_row, yR_row, yI_R, yR_ne, yR_same, yI_L, yR_L, vp_in, z_32]; done)
    · dsimp only
      (repeat (first | exact Y6.1 | (refine FYL.setI ?_ rfl) | (refine FYL.setC ?_ rfl) | (refine FYL.row ?_ rfl) | (refine FYL.setR ?_ rfl) | (refine FYL.setRv ?_ (by first | assumption | (simp [yR_I, yR_row, yR_ne]; done)) rfl)))
    · first | exact u0 | (dsimp only; simp [u0, u1, u2, yI_same, yI_ne, yI_c, yR_I, yI_row, yR_row, yI_R, yR_ne, yR_same, yI_L, yR_L, vp_in, z_32]; done)
    · first | exact u1 | (dsimp only; simp [u0, u1, u2, yI_same, yI_ne, yI_c, yR_I, yI_row, yR_row, yI_R, yR_ne, yR_same, yI_L, yR_L, vp_in, z_32]; done)
    · first | exact u2 | (dsimp only; simp [u0, u1, u2, yI_same, yI_ne, yI_c, yR_I, yI_row, yR_row, yI_R, yR_ne, yR_same, yI_L, yR_L, vp_in, z_32]; done)
  obtain ⟨h8, t8, Y8⟩ : ∃ h', XT l 9 400 false 5 153 6051 5 [xf 10006 57, xi 0, xi 6, xi 6] [] h7 20 [xf 10006 57, xi 0, xi 6, xi 6] [] h' ∧ Y0 h' a d c := by
    obtain ⟨-, u0, u1, u2⟩ := id Y7
    refine ⟨_, XT_path (inl := []) (n' := 8) (sp := [20]) (o := [1]) rfl rfl ?_ rfl ⟨Nat.le_of_eq Y7.1.2.2.1, Nat.le_of_eq Y7.1.2.2.2⟩ ?_, ?_, ?_, ?_, ?_⟩
    · refine ⟨rfl, ?_, ?_⟩ <;> first | rfl | (dsimp only; simp [u0, u1, u2, yI_same, yI_ne, yI_c, yR_I, yI_row, yR_row, yI_R, yR_ne, yR_same, yI_L, yR_L, vp_in, z_32] <;> rfl)
    · first | trivial | (dsimp only; simp [u0, u1, u2, yI_same, yI_ne, yI_c, yR_I, yI_row, yR_row, yI_R, yR_ne, yR_same, yI_L, yR_L, vp_in, z_32]; done)
    · dsimp only
      (repeat (first | exact Y7.1 | (refine FYL.setI ?_ rfl) | (refine FYL.setC ?_ rfl) | (refine FYL.row ?_ rfl) | (refine FYL.setR ?_ rfl) | (refine FYL.setRv ?_ (by first | assumption | (simp [yR_I, yR_row, yR_ne]; done)) rfl)))
    · first | exact u0 | (dsimp only; simp [u0, u1, u2, yI_same, yI_ne, yI_c, yR_I, yI_row, yR_row, yI_R, yR_ne, yR_same, yI_L, yR_L, vp_in, z_32]; done)
    · first | exact u1 | (dsimp only; simp [u0, u1, u2, yI_same, yI_ne, yI_c, yR_I, yI_row, yR_row, yI_R, yR_ne, yR_same, yI_L, yR_L, vp_in, z_32]; done)
    · first | exact u2 | (dsimp only; simp [u0, u1, u2, yI_same, yI_ne, yI_c, yR_I, yI_row, yR_row, yI_R, yR_ne, yR_same, yI_L, yR_L, vp_in, z_32]; done)
  exact ⟨h8, CX_ofT (by decide) rfl rfl trivial ⟨_, _, _, rfl, rfl, rfl⟩ rfl ⟨Nat.le_of_eq Y8.1.2.2.1.symm, Nat.le_of_eq Y8.1.2.2.2.symm⟩ (t1.tr (t2.tr (t3.tr (t4.tr (t5.tr (t6.tr (t7.tr t8))))))), Y8⟩

set_option maxRecDepth 100000 in
set_option maxHeartbeats 1000000 in
theorem p1_fill55 (l : Launch) (h : XH) (a d c : Int32) (Y : Y0 h a d c) : ∃ h', CX l 9 400 false 5 [xf 10006 55, xi 0] h [] h' ∧ Y0 h' a d c := by
  obtain ⟨h1, t1, Y1⟩ : ∃ h', XT l 9 400 false 5 153 6051 0 [xf 10006 55, xi 0, xun, xun] [] h 5 [xf 10006 55, xi 0, xi 0, xi 6] [] h' ∧ Y0 h' a d c := by
    obtain ⟨-, u0, u1, u2⟩ := id Y
    refine ⟨_, XT_path (inl := []) (n' := 10) (sp := [5]) (o := []) rfl rfl ?_ rfl ⟨Nat.le_of_eq Y.1.2.2.1, Nat.le_of_eq Y.1.2.2.2⟩ ?_, ?_, ?_, ?_, ?_⟩
    · refine ⟨rfl, ?_, ?_⟩ <;> first | rfl | (dsimp only; simp [u0, u1, u2, yI_same, yI_ne, yI_c, yR_I, yI_row, yR_row, yI_R, yR_ne, yR_same, yI_L, yR_L, vp_in, z_32] <;> rfl)
    · first | trivial | (dsimp only; simp [u0, u1, u2, yI_same, yI_ne, yI_c, yR_I, yI_row, yR_row, yI_R, yR_ne, yR_same, yI_L, yR_L, vp_in, z_32]; done)
    · dsimp only
      (repeat (first | exact Y.1 | (refine FYL.setI ?_ rfl) | (refine FYL.setC ?_ rfl) | (refine FYL.row ?_ rfl) | (refine FYL.setR ?_ rfl) | (refine FYL.setRv ?_ (by first | assumption | (simp [yR_I, yR_row, yR_ne]; done)) rfl)))
    · first | exact u0 | (dsimp only; simp [u0, u1, u2, yI_same, yI_ne, yI_c, yR_I, yI_row, yR_row, yI_R, yR_ne, yR_same, yI_L, yR_L, vp_in, z_32]; done)
    · first | exact u1 | (dsimp only; simp [u0, u1, u2, yI_same, yI_ne, yI_c, yR_I, yI_row, yR_row, yI_R, yR_ne, yR_same, yI_L, yR_L, vp_in, z_32]; done)
    · first | exact u2 | (dsimp only; simp [u0, u1, u2, yI_same, yI_ne, yI_c, yR_I, yI_row, yR_row, yI_R, yR_ne, yR_same, yI_L, yR_L, vp_in, z_32]; done)
  obtain ⟨h2, t2, Y2⟩ : ∃ h', XT l 9 400 false 5 153 6051 5 [xf 10006 55, xi 0, xi 0, xi 6] [] h1 5 [xf 10006 55, xi 0, xi 1, xi 6] [] h' ∧ Y0 h' a d c := by
    obtain ⟨-, u0, u1, u2⟩ := id Y1
    refine ⟨_, XT_path (inl := []) (n' := 14) (sp := [5]) (o := [0]) rfl rfl ?_ rfl ⟨Nat.le_of_eq Y1.1.2.2.1, Nat.le_of_eq Y1.1.2.2.2⟩ ?_, ?_, ?_, ?_, ?_⟩
    · refine ⟨rfl, ?_, ?_⟩ <;> first | rfl | (dsimp only; simp [u0, u1, u2, yI_same, yI_ne, yI_c, yR_I, yI_row, yR_row, yI_R, yR_ne, yR_same, yI_L, yR_L, vp_in, z_32] <;> rfl)
    · first | trivial | (dsimp only; simp [u0, u1, u2, yI_same, yI_ne, yI_c, yR_I, yI_row, yR_row, yI_R, yR_ne, yR_same, yI_L, yR_L, vp_in, z_32]; done)
    · dsimp only
      (repeat (first | exact Y1.1 | (refine FYL.setI ?_ rfl) | (refine FYL.setC ?_ rfl) | (refine FYL.row ?_ rfl) | (refine FYL.setR ?_ rfl) | (refine FYL.setRv ?_ (by first | assumption | (simp [yR_I, yR_row, yR_ne]; done)) rfl)))
    · first | exact u0 | (dsimp only; simp [u0, u1, u2, yI_same, yI_ne, yI_c, yR_I, yI_row, yR_row, yI_R, yR_ne, yR_same, yI_L, yR_L, vp_in, z_32]; done)
    · first | exact u1 | (dsimp only; simp [u0, u1, u2, yI_same, yI_ne, yI_c, yR_I, yI_row, yR_row, yI_R, yR_ne, yR_same, yI_L, yR_L, vp_in, z_32]; done)
    · first | exact u2 | (dsimp only; simp [u0, u1, u2, yI_same, yI_ne, yI_c, yR_I, yI_row, yR_row, yI_R, yR_ne, yR_same, yI_L, yR_L, vp_in, z_32]; done)
  obtain ⟨h3, t3, Y3⟩ : ∃ h', XT l 9 400 false 5 153 6051 5 [xf 10006 55, xi 0, xi 1, xi 6] [] h2 5 [xf 10006 55, xi 0, xi 2, xi 6] [] h' ∧ Y0 h' a d c := by
    obtain ⟨-, u0, u1, u2⟩ := id Y2
    refine ⟨_, XT_path (inl := []) (n' := 14) (sp := [5]) (o := [0]) rfl rfl ?_ rfl ⟨Nat.le_of_eq Y2.1.2.2.1, Nat.le_of_eq Y2.1.2.2.2⟩ ?_, ?_, ?_, ?_, ?_⟩
    · refine ⟨rfl, ?_, ?_⟩ <;> first | rfl | (dsimp only; simp [u0, u1, u2, yI_same, yI_ne, yI_c, yR_I, yI_row, yR_row, yI_R, yR_ne, yR_same, yI_L, yR_L, vp_in, z_32] <;> rfl)
    · first | trivial | (dsimp only; simp [u0, u1, u2, yI_same, yI_ne, yI_c, yR_I, yI_row, yR_row, yI_R, yR_ne, yR_same, yI_L, yR_L, vp_in, z_32]; done)
    · dsimp only
      (repeat (first | exact Y2.1 | (refine FYL.setI ?_ rfl) | (refine FYL.setC ?_ rfl) | (refine FYL.row ?_ rfl) | (refine FYL.setR ?_ rfl) | (refine FYL.setRv ?_ (by first | assumption | (simp [yR_I, yR_row, yR_ne]; done)) rfl)))
    · first | exact u0 | (dsimp only; simp [u0, u1, u2, yI_same, yI_ne, yI_c, yR_I, yI_row, yR_row, yI_R, yR_ne, yR_same, yI_L, yR_L, vp_in, z_32]; done)
    · first | exact u1 | (dsimp only; simp [u0, u1, u2, yI_same, yI_ne, yI_c, yR_I, yI_row, yR_row, yI_R, yR_ne, yR_same, yI_L, yR_L, vp_in, z_32]; done)
    · first | exact u2 | (dsimp only; simp [u0, u1, u2, yI_same, yI_ne, yI_c, yR_I, yI_row, yR_row, yI_R, yR_ne, yR_same, yI_L, yR_L, vp_in, z_32]; done)
  obtain ⟨h4, t4, Y4⟩ : ∃ h', XT l 9 400 false 5 153 6051 5 [xf 10006 55, xi 0, xi 2, xi 6] [] h3 5 [xf 10006 55, xi 0, xi 3, xi 6] [] h' ∧ Y0 h' a d c := by
    obtain ⟨-, u0, u1, u2⟩ := id Y3
    refine ⟨_, XT_path (inl := []) (n' := 14) (sp := [5]) (o := [0]) rfl rfl ?_ rfl ⟨Nat.le_of_eq Y3.1.2.2.1, Nat.le_of_eq Y3.1.2.2.2⟩ ?_, ?_, ?_, ?_, ?_⟩
    · refine ⟨rfl, ?_, ?_⟩ <;> first | rfl | (dsimp only; simp [u0, u1, u2, yI_same, yI_ne, yI_c, yR_I, yI_row, yR_row, yI_R, yR_ne, yR_same, yI_L, yR_L, vp_in, z_32] <;> rfl)
    · first | trivial | (dsimp only; simp [u0, u1, u2, yI_same, yI_ne, yI_c, yR_I, yI_row, yR_row, yI_R, yR_ne, yR_same, yI_L, yR_L, vp_in, z_32]; done)
    · dsimp only
      (repeat (first | exact Y3.1 | (refine FYL.setI ?_ rfl) | (refine FYL.setC ?_ rfl) | (refine FYL.row ?_ rfl) | (refine FYL.setR ?_ rfl) | (refine FYL.setRv ?_ (by first | assumption | (simp [yR_I, yR_row, yR_ne]; done)) rfl)))
    · first | exact u0 | (dsimp only; simp [u0, u1, u2, yI_same, yI_ne, yI_c, yR_I, yI_row, yR_row, yI_R, yR_ne, yR_same, yI_L, yR_L, vp_in, z_32]; done)
    · first | exact u1 | (dsimp only; simp [u0, u1, u2, yI_same, yI_ne, yI_c, yR_I, yI_row, yR_row, yI_R, yR_ne, yR_same, yI_L, yR_L, vp_in, z_32]; done)
    · first | exact u2 | (dsimp only; simp [u0, u1, u2, yI_same, yI_ne, yI_c, yR_I, yI_row, yR_row, yI_R, yR_ne, yR_same, yI_L, yR_L, vp_in, z_32]; done)
  obtain ⟨h5, t5, Y5⟩ : ∃ h', XT l 9 400 false 5 153 6051 5 [xf 10006 55, xi 0, xi 3, xi 6] [] h4 5 [xf 10006 55, xi 0, xi 4, xi 6] [] h' ∧ Y0 h' a d c := by
    obtain ⟨-, u0, u1, u2⟩ := id Y4
    refine ⟨_, XT_path (inl := []) (n' := 14) (sp := [5]) (o := [0]) rfl rfl ?_ rfl ⟨Nat.le_of_eq Y4.1.2.2.1, Nat.le_of_eq Y4.1.2.2.2⟩ ?_, ?_, ?_, ?_, ?_⟩
    · refine ⟨rfl, ?_, ?_⟩ <;> first | rfl | (dsimp only; simp [u0, u1, u2, yI_same, yI_ne, yI_c, yR_I, yI_row, yR_row, yI_R, yR_ne, yR_same, yI_L, yR_L, vp_in, z_32] <;> rfl)
    · first | trivial | (dsimp only; simp [u0, u1, u2, yI_same, yI_ne, yI_c, yR_I, yI_row, yR_row, yI_R, yR_ne, yR_same, yI_L, yR_L, vp_in, z_32]; done)
    · dsimp only
      (repeat (first | exact Y4.1 | (refine FYL.setI ?_ rfl) | (refine FYL.setC ?_ rfl) | (refine FYL.row ?_ rfl) | (refine FYL.setR ?_ rfl) | (refine FYL.setRv ?_ (by first | assumption | (simp [yR_I, yR_row, yR_ne]; done)) rfl)))
    · first | exact u0 | (dsimp only; simp [u0, u1, u2, yI_same, yI_ne, yI_c, yR_I, yI_row, yR_row, yI_R, yR_ne, yR_same, yI_L, yR_L, vp_in, z_32]; done)
    · first | exact u1 | (dsimp only; simp [u0, u1, u2, yI_same, yI_ne, yI_c, yR_I, yI_row, yR_row, yI_R, yR_ne, yR_same, yI_L, yR_L, vp_in, z_32]; done)
    · first | exact u2 | (dsimp only; simp [u0, u1, u2, yI_same, yI_ne, yI_c, yR_I, yI_row, yR_row, yI_R, yR_ne, yR_same, yI_L, yR_L, vp_in, z_32]; done)
  obtain ⟨h6, t6, Y6⟩ : ∃ h', XT l 9 400 false 5 153 6051 5 [xf 10006 55, xi 0, xi 4, xi 6] [] h5 5 [xf 10006 55, xi 0, xi 5, xi 6] [] h' ∧ Y0 h' a d c := by
    obtain ⟨-, u0, u1, u2⟩ := id Y5
    refine ⟨_, XT_path (inl := []) (n' := 14) (sp := [5]) (o := [0]) rfl rfl ?_ rfl ⟨Nat.le_of_eq Y5.1.2.2.1, Nat.le_of_eq Y5.1.2.2.2⟩ ?_, ?_, ?_, ?_, ?_⟩
    · refine ⟨rfl, ?_, ?_⟩ <;> first | rfl | (dsimp only; simp [u0, u1, u2, yI_same, yI_ne, yI_c, yR_I, yI_row, yR_row, yI_R, yR_ne, yR_same, yI_L, yR_L, vp_in, z_32] <;> rfl)
    · first | trivial | (dsimp only; simp [u0, u1, u2, yI_same, yI_ne, yI_c, yR_I, yI_row, yR_row, yI_R, yR_ne, yR_same, yI_L, yR_L, vp_in, z_32]; done)
    · dsimp only
      (repeat (first | exact Y5.1 | (refine FYL.setI ?_ rfl) | (refine FYL.setC ?_ rfl) | (refine FYL.row ?_ rfl) | (refine FYL.setR ?_ rfl) | (refine FYL.setRv ?_ (by first | assumption | (simp [yR_I, yR_row, yR_ne]; done)) rfl)))
    · first | exact u0 | (dsimp only; simp [u0, u1, u2, yI_same, yI_ne, yI_c, yR_I, yI_row, yR_row, yI_R, yR_ne, yR_same, yI_L, yR_L, vp_in, z_32]; done)
    · first | exact u1 | (dsimp only; simp [u0, u1, u2, yI_same, yI_ne, yI_c, yR_I, yI_row, yR_row, yI_R, yR_ne, yR_same, yI_L, yR_L, vp_in, z_32]; done)
    · first | exact u2 | (dsimp only; simp [u0, u1, u2, yI_same, yI_ne, yI_c, yR_I, yI_row, yR_row, yI_R, yR_ne, yR_same, yI_L, yR_L, vp_in, z_32]; done)
  obtain ⟨h7, t7, Y7⟩ : ∃ h', XT l 9 400 false 5 153 6051 5 [xf 10006 55, xi 0, xi 5, xi 6] [] h6 5 [xf 10006 55, xi 0, xi 6, xi 6] [] h' ∧ Y0 h' a d c := by
    obtain ⟨-, u0, u1, u2⟩ := id Y6
    refine ⟨_, XT_path (inl := []) (n' := 14) (sp := [5]) (o := [0]) rfl rfl ?_ rfl ⟨Nat.le_of_eq Y6.1.2.2.1, Nat.le_of_eq Y6.1.2.2.2⟩ ?_, ?_, ?_, ?_, ?_⟩
    · refine ⟨rfl, ?_, ?_⟩ <;> first | rfl | (dsimp only; simp [u0, u1, u2, yI_same, yI_ne, yI_c, yR_I, yI_row, yR_row, yI_R, yR_ne, yR_same, yI_L, yR_L, vp_in, z_32] <;> rfl)
    · first | trivial | (dsimp only; simp [u0, u1, u2, yI_same, yI_ne, yI_c, yR_I, yI_row, yR_row, yI_R, yR_ne, yR_same, yI_L, yR_L, vp_in, z_32]; done)
    · dsimp only
      (repeat (first | exact Y6.1 | (refine FYL.setI ?_ rfl) | (refine FYL.setC ?_ rfl) | (refine FYL.row ?_ rfl) | (refine FYL.setR ?_ rfl) | (refine FYL.setRv ?_ (by first | assumption | (simp [yR_I, yR_row, yR_ne]; done)) rfl)))
    · first | exact u0 | (dsimp only; simp [u0, u1, u2, yI_same, yI_ne, yI_c, yR_I, yI_row, yR_row, yI_R, yR_ne, yR_same, yI_L, yR_L, vp_in, z_32]; done)
    · first | exact u1 | (dsimp only; simp [u0, u1, u2, yI_same, yI_ne, yI_c, yR_I, yI_row, yR_row, yI_R, yR_ne, yR_same, yI_L, yR_L, vp_in, z_32]; done)
    · first | exact u2 | (dsimp only; simp [u0, u1, u2, yI_same, yI_ne, yI_c, yR_I, yI_row, yR_row, yI_R, yR_ne, yR_same, yI_L, yR_L, vp_in, z_32]; done)
  obtain ⟨h8, t8, Y8⟩ : ∃ h', XT l 9 400 false 5 153 6051 5 [xf 10006 55, xi 0, xi 6, xi 6] [] h7 20 [xf 10006 55, xi 0, xi 6, xi 6] [] h' ∧ Y0 h' a d c := by
    obtain ⟨-, u0, u1, u2⟩ := id Y7
    refine ⟨_, XT_path (inl := []) (n' := 8) (sp := [20]) (o := [1]) rfl rfl ?_ rfl ⟨Nat.le_of_eq Y7.1.2.2.1, Nat.le_of_eq Y7.1.2.2.2⟩ ?_, ?_, ?_, ?_, ?_⟩
    · refine ⟨rfl, ?_, ?_⟩ <;> first | rfl | (dsimp only; simp [u0, u1, u2, yI_same, yI_ne, yI_c, yR_I, yI_row, yR_row, yI_R, yR_ne, yR_same, yI_L, yR_L, vp_in, z_32] <;> rfl)
    · first | trivial | (dsimp only; simp [u0, u1, u2, yI_same, yI_ne, yI_c, yR_I, yI_row, yR_row, yI_R, yR_ne, yR_same, yI_L, yR_L, vp_in, z_32]; done)
    · dsimp only
      (repeat (first | exact Y7.1 | (refine FYL.setI ?_ rfl) | (refine FYL.setC ?_ rfl) | (refine FYL.row ?_ rfl) | (refine FYL.setR ?_ rfl) | (refine FYL.setRv ?_ (by first | assumption | (simp [yR_I, yR_row, yR_ne]; done)) rfl)))
    · first | exact u0 | (dsimp only; simp [u0, u1, u2, yI_same, yI_ne, yI_c, yR_I, yI_row, yR_row, yI_R, yR_ne, yR_same, yI_L, yR_L, vp_in, z_32]; done)
    · first | exact u1 | (dsimp only; simp [u0, u1, u2, yI_same, yI_ne, yI_c, yR_I, yI_row, yR_row, yI_R, yR_ne, yR_same, yI_L, yR_L, vp_in, z_32]; done)
    · first | exact u2 | (dsimp only; simp [u0, u1, u2, yI_same, yI_ne, yI_c, yR_I, yI_row, yR_row, yI_R, yR_ne, yR_same, yI_L, yR_L, vp_in, z_32]; done)
  exact ⟨h8, CX_ofT (by decide) rfl rfl trivial ⟨_, _, _, rfl, rfl, rfl⟩ rfl ⟨Nat.le_of_eq Y8.1.2.2.1.symm, Nat.le_of_eq Y8.1.2.2.2.symm⟩ (t1.tr (t2.tr (t3.tr (t4.tr (t5.tr (t6.tr (t7.tr t8))))))), Y8⟩

set_option maxRecDepth 100000 in
set_option maxHeartbeats 1000000 in
theorem p1_fill53 (l : Launch) (h : XH) (a d c : Int32) (Y : Y0 h a d c) : ∃ h', CX l 9 400 false 5 [xf 10008 53, xi 2] h [] h' ∧ Y0 h' a d c := by
  obtain ⟨h1, t1, Y1⟩ : ∃ h', XT l 9 400 false 5 153 6051 0 [xf 10008 53, xi 2, xun, xun] [] h 5 [xf 10008 53, xi 2, xi 0, xi 8] [] h' ∧ Y0 h' a d c := by
    obtain ⟨-, u0, u1, u2⟩ := id Y
    refine ⟨_, XT_path (inl := []) (n' := 10) (sp := [5]) (o := []) rfl rfl ?_ rfl ⟨Nat.le_of_eq Y.1.2.2.1, Nat.le_of_eq Y.1.2.2.2⟩ ?_, ?_, ?_, ?_, ?_⟩
    · refine ⟨rfl, ?_, ?_⟩ <;> first | rfl | (dsimp only; simp [u0, u1, u2, yI_same, yI_ne, yI_c, yR_I, yI_row, yR_row, yI_R, yR_ne, yR_same, yI_L, yR_L, vp_in, z_32] <;> rfl)
    · first | trivial | (dsimp only; simp [u0, u1, u2, yI_same, yI_ne, yI_c, yR_I, yI_row, yR_row, yI_R, yR_ne, yR_same, yI_L, yR_L, vp_in, z_32]; done)
    · dsimp only
      (repeat (first | exact Y.1 | (refine FYL.setI ?_ rfl) | (refine FYL.setC ?_ rfl) | (refine FYL.row ?_ rfl) | (refine FYL.setR ?_ rfl) | (refine FYL.setRv ?_ (by first | assumption | (simp [yR_I, yR_row, yR_ne]; done)) rfl)))
    · first | exact u0 | (dsimp only; simp [u0, u1, u2, yI_same, yI_ne, yI_c, yR_I, yI_row, yR_row, yI_R, yR_ne, yR_same, yI_L, yR_L, vp_in, z_32]; done)
    · first | exact u1 | (dsimp only; simp [u0, u1, u2, yI_same, yI_ne, yI_c, yR_I, yI_row, yR_row, yI_R, yR_ne, yR_same, yI_L, yR_L, vp_in, z_32]; done)
    · first | exact u2 | (dsimp only; simp [u0, u1, u2, yI_same, yI_ne, yI_c, yR_I, yI_row, yR_row, yI_R, yR_ne, yR_same, yI_L, yR_L, vp_in, z_32]; done)
  obtain ⟨h2, t2, Y2⟩ : ∃ h', XT l 9 400 false 5 153 6051 5 [xf 10008 53, xi 2, xi 0, xi 8] [] h1 5 [xf 10008 53, xi 2, xi 1, xi 8] [] h' ∧ Y0 h' a d c := by
    obtain ⟨-, u0, u1, u2⟩ := id Y1
    refine ⟨_, XT_path (inl := []) (n' := 14) (sp := [5]) (o := [0]) rfl rfl ?_ rfl ⟨Nat.le_of_eq Y1.1.2.2.1, Nat.le_of_eq Y1.1.2.2.2⟩ ?_, ?_, ?_, ?_, ?_⟩
    · refine ⟨rfl, ?_, ?_⟩ <;> first | rfl | (dsimp only; simp [u0, u1, u2, yI_same, yI_ne, yI_c, yR_I, yI_row, yR_row, yI_R, yR_ne, yR_same, yI_L, yR_L, vp_in, z_32] <;> rfl)
    · first | trivial | (dsimp only; simp [u0, u1, u2, yI_same, yI_ne, yI_c, yR_I, yI_row, yR_row, yI_R, yR_ne, yR_same, yI_L, yR_L, vp_in, z_32]; done)
    · dsimp only
      (repeat (first | exact Y1.1 | (refine FYL.setI ?_ rfl) | (refine FYL.setC ?_ rfl) | (refine FYL.row ?_ rfl) | (refine FYL.setR ?_ rfl) | (refine FYL.setRv ?_ (by first | assumption | (simp [yR_I, yR_row, yR_ne]; done)) rfl)))
    · first | exact u0 | (dsimp only; simp [u0, u1, u2, yI_same, yI_ne, yI_c, yR_I, yI_row, yR_row, yI_R, yR_ne, yR_same, yI_L, yR_L, vp_in, z_32]; done)
    · first | exact u1 | (dsimp only; simp [u0, u1, u2, yI_same, yI_ne, yI_c, yR_I, yI_row, yR_row, yI_R, yR_ne, yR_same, yI_L, yR_L, vp_in, z_32]; done)
    · first | exact u2 | (dsimp only; simp [u0, u1, u2, yI_same, yI_ne, yI_c, yR_I, yI_row, yR_row, yI_R, yR_ne, yR_same, yI_L, yR_L, vp_in, z_32]; done)
  obtain ⟨h3, t3, Y3⟩ : ∃ h', XT l 9 400 false 5 153 6051 5 [xf 10008 53, xi 2, xi 1, xi 8] [] h2 5 [xf 10008 53, xi 2, xi 2, xi 8] [] h' ∧ Y0 h' a d c := by
    obtain ⟨-, u0, u1, u2⟩ := id Y2
    refine ⟨_, XT_path (inl := []) (n' := 14) (sp := [5]) (o := [0]) rfl rfl ?_ rfl ⟨Nat.le_of_eq Y2.1.2.2.1, Nat.le_of_eq Y2.1.2.2.2⟩ ?_, ?_, ?_, ?_, ?_⟩
    · refine ⟨rfl, ?_, ?_⟩ <;> first | rfl | (dsimp only; simp [u0, u1, u2, yI_same, yI_ne, yI_c, yR_I, yI_row, yR_row, yI_R, yR_ne, yR_same, yI_L, yR_L, vp_in, z_32] <;> rfl)
    · first | trivial | (dsimp only; simp [u0, u1, u2, yI_same, yI_ne, yI_c, yR_I, yI_row, yR_row, yI_R, yR_ne, yR_same, yI_L, yR_L, vp_in, z_32]; done)
    · dsimp only
      (repeat (first | exact Y2.1 | (refine FYL.setI ?_ rfl) | (refine FYL.setC ?_ rfl) | (refine FYL.row ?_ rfl) | (refine FYL.setR ?_ rfl) | (refine FYL.setRv ?_ (by first | assumption | (simp [yR_I, yR_row, yR_ne]; done)) rfl)))
    · first | exact u0 | (dsimp only; simp [u0, u1, u2, yI_same, yI_ne, yI_c, yR_I, yI_row, yR_row, yI_R, yR_ne, yR_same, yI_L, yR_L, vp_in, z_32]; done)
    · first | exact u1 | (dsimp only; simp [u0, u1, u2, yI_same, yI_ne, yI_c, yR_I, yI_row, yR_row, yI_R, yR_ne, yR_same, yI_L, yR_L, vp_in, z_32]; done)
    · first | exact u2 | (dsimp only; simp [u0, u1, u2, yI_same, yI_ne, yI_c, yR_I, yI_row, yR_row, yI_R, yR_ne, yR_same, yI_L, yR_L, vp_in, z_32]; done)
  obtain ⟨h4, t4, Y4⟩ : ∃ h', XT l 9 400 false 5 153 6051 5 [xf 10008 53, xi 2, xi 2, xi 8] [] h3 5 [xf 10008 53, xi 2, xi 3, xi 8] [] h' ∧ Y0 h' a d c := by
    obtain ⟨-, u0, u1, u2⟩ := id Y3
    refine ⟨_, XT_path (inl := []) (n' := 14) (sp := [5]) (o := [0]) rfl rfl ?_ rfl ⟨Nat.le_of_eq Y3.1.2.2.1, Nat.le_of_eq Y3.1.2.2.2⟩ ?_, ?_, ?_, ?_, ?_⟩
    · refine ⟨rfl, ?_, ?_⟩ <;> first | rfl | (dsimp only; simp [u0, u1, u2, yI_same, yI_ne, yI_c, yR_I, yI_row, yR_row, yI_R, yR_ne, yR_same, yI_L, yR_L, vp_in, z_32] <;> rfl)
    · first | trivial | (dsimp only; simp [u0, u1, u2, yI_same, yI_ne, yI_c, yR_I, yI_row, yR_row, yI_R, yR_ne, yR_same, yI_L, yR_L, vp_in, z_32]; done)
    · dsimp only
      (repeat (first | exact Y3.1 | (refine FYL.setI ?_ rfl) | (refine FYL.setC ?_ rfl) | (refine FYL.row ?_ rfl) | (refine FYL.setR ?_ rfl) | (refine FYL.setRv ?_ (by first | assumption | (simp [yR_I, yR_row, yR_ne]; done)) rfl)))
    · first | exact u0 | (dsimp only; simp [u0, u1, u2, yI_same, yI_ne, yI_c, yR_I, yI_row, yR_row, yI_R, yR_ne, yR_same, yI_L, yR_L, vp_in, z_32]; done)
    · first | exact u1 | (dsimp only; simp [u0, u1, u2, yI_same, yI_ne, yI_c, yR_I, yI_row, yR_row, yI_R, yR_ne, yR_same, yI_L, yR_L, vp_in, z_32]; done)
    · first | exact u2 | (dsimp only; simp [u0, u1, u2, yI_same, yI_ne, yI_c, yR_I, yI_row, yR_row, yI_R, yR_ne, yR_same, yI_L, yR_L, vp_in, z_32]; done)
  obtain ⟨h5, t5, Y5⟩ : ∃ h', XT l 9 400 false 5 153 6051 5 [xf 10008 53, xi 2, xi 3, xi 8] [] h4 5 [xf 10008 53, xi 2, xi 4, xi 8] [] h' ∧ Y0 h' a d c := by
    obtain ⟨-, u0, u1, u2⟩ := id Y4
    refine ⟨_, XT_path (inl := []) (n' := 14) (sp := [5]) (o := [0]) rfl rfl ?_ rfl ⟨Nat.le_of_eq Y4.1.2.2.1, Nat.le_of_eq Y4.1.2.2.2⟩ ?_, ?_, ?_, ?_, ?_⟩
    · refine ⟨rfl, ?_, ?_⟩ <;> first | rfl | (dsimp only; simp [u0, u1, u2, yI_same, yI_ne, yI_c, yR_I, yI_row, yR_row, yI_R, yR_ne, yR_same, yI_L, yR_L, vp_in, z_32] <;> rfl)
    · first | trivial | (dsimp only; simp [u0, u1, u2, yI_same, yI_ne, yI_c, yR_I, yI_row, yR_row, yI_R, yR_ne, yR_same, yI_L, yR_L, vp_in, z_32]; done)
    · dsimp only
      (repeat (first | exact Y4.1 | (refine FYL.setI ?_ rfl) | (refine FYL.setC ?_ rfl) | (refine FYL.row ?_ rfl) | (refine FYL.setR ?_ rfl) | (refine FYL.setRv ?_ (by first | assumption | (simp [yR_I, yR_row, yR_ne]; done)) rfl)))
    · first | exact u0 | (dsimp only; simp [u0, u1, u2, yI_same, yI_ne, yI_c, yR_I, yI_row, yR_row, yI_R, yR_ne, yR_same, yI_L, yR_L, vp_in, z_32]; done)
    · first | exact u1 | (dsimp only; simp [u0, u1, u2, yI_same, yI_ne, yI_c, yR_I, yI_row, yR_row, yI_R, yR_ne, yR_same, yI_L, yR_L, vp_in, z_32]; done)
    · first | exact u2 | (dsimp only; simp [u0, u1, u2, yI_same, yI_ne, yI_c, yR_I, yI_row, yR_row, yI_R, yR_ne, yR_same, yI_L, yR_L, vp_in, z_32]; done)
  obtain ⟨h6, t6, Y6⟩ : ∃ h', XT l 9 400 false 5 153 6051 5 [xf 10008 53, xi 2, xi 4, xi 8] [] h5 5 [xf 10008 53, xi 2, xi 5, xi 8] [] h' ∧ Y0 h' a d c := by
    obtain ⟨-, u0, u1, u2⟩ := id Y5
    refine ⟨_, XT_path (inl := []) (n' := 14) (sp := [5]) (o := [0]) rfl rfl ?_ rfl ⟨Nat.le_of_eq Y5.1.2.2.1, Nat.le_of_eq Y5.1.2.2.2⟩ ?_, ?_, ?_, ?_, ?_⟩
    · refine ⟨rfl, ?_, ?_⟩ <;> first | rfl | (dsimp only; simp [u0, u1, u2, yI_same, yI_ne, yI_c, yR_I, yI_row, yR_row, yI_R, yR_ne, yR_same, yI_L, yR_L, vp_in, z_32] <;> rfl)
    · first | trivial | (dsimp only; simp [u0, u1, u2, yI_same, yI_ne, yI_c, yR_I, yI_row, yR_row, yI_R, yR_ne, yR_same, yI_L, yR_L, vp_in, z_32]; done)
    · dsimp only
      (repeat (first | exact Y5.1 | (refine FYL.setI ?_ rfl) | (refine FYL.setC ?_ rfl) | (refine FYL.row ?_ rfl) | (refine FYL.setR ?_ rfl) | (refine FYL.setRv ?_ (by first | assumption | (simp [yR_I, yR_row, yR_ne]; done)) rfl)))
    · first | exact u0 | (dsimp only; simp [u0, u1, u2, yI_same, yI_ne, yI_c, yR_I, yI_row, yR_row, yI_R, yR_ne, yR_same, yI_L, yR_L, vp_in, z_32]; done)
    · first | exact u1 | (dsimp only; simp [u0, u1, u2, yI_same, yI_ne, yI_c, yR_I, yI_row, yR_row, yI_R, yR_ne, yR_same, yI_L, yR_L, vp_in, z_32]; done)
    · first | exact u2 | (dsimp only; simp [u0, u1, u2, yI_same, yI_ne, yI_c, yR_I, yI_row, yR_row, yI_R, yR_ne, yR_same, yI_L, yR_L, vp_in, z_32]; done)
  obtain ⟨h7, t7, Y7⟩ : ∃ h', XT l 9 400 false 5 153 6051 5 [xf 10008 53, xi 2, xi 5, xi 8] [] h6 5 [xf 10008 53, xi 2, xi 6, xi 8] [] h' ∧ Y0 h' a d c := by
    obtain ⟨-, u0, u1, u2⟩ := id Y6
    refine ⟨_, XT_path (inl := []) (n' := 14) (sp := [5]) (o := [0]) rfl rfl ?_ rfl ⟨Nat.le_of_eq Y6.1.2.2.1, Nat.le_of_eq Y6.1.2.2.2⟩ ?_, ?_, ?_, ?_, ?_⟩
    · refine ⟨rfl, ?_, ?_⟩ <;> first | rfl | (dsimp only; simp [u0, u1, u2, yI_same, yI_ne, yI_c, yR_I, yI_row, yR_row, yI_R, yR_ne, yR_same, yI_L, yR_L, vp_in, z_32] <;> rfl)
    · first | trivial | (dsimp only; simp [u0, u1, u2, yI_same, yI_ne, yI_c, yR_I, yI_row, yR_row, yI_R, yR_ne, yR_same, yI_L, yR_L, vp_in, z_32]; done)
    · dsimp only
      (repeat (first | exact Y6.1 | (refine FYL.setI ?_ rfl) | (refine FYL.setC ?_ rfl) | (refine FYL.row ?_ rfl) | (refine FYL.setR ?_ rfl) | (refine FYL.setRv ?_ (by first | assumption | (simp [yR_I, yR_row, yR_ne]; done)) rfl)))
    · first | exact u0 | (dsimp only; simp [u0, u1, u2, yI_same, yI_ne, yI_c, yR_I, yI_row, yR_row, yI_R, yR_ne, yR_same, yI_L, yR_L, vp_in, z_32]; done)
    · first | exact u1 | (dsimp only; simp [u0, u1, u2, yI_same, yI_ne, yI_c, yR_I, yI_row, yR_row, yI_R, yR_ne, yR_same, yI_L, yR_L, vp_in, z_32]; done)
    · first | exact u2 | (dsimp only; simp [u0, u1, u2, yI_same, yI_ne, yI_c, yR_I, yI_row, yR_row, yI_R, yR_ne, yR_same, yI_L, yR_L, vp_in, z_32]; done)
  obtain ⟨h8, t8, Y8⟩ : ∃ h', XT l 9 400 false 5 153 6051 5 [xf 10008 53, xi 2, xi 6, xi 8] [] h7 5 [xf 10008 53, xi 2, xi 7, xi 8] [] h' ∧ Y0 h' a d c := by
    obtain ⟨-, u0, u1, u2⟩ := id Y7
    refine ⟨_, XT_path (inl := []) (n' := 14) (sp := [5]) (o := [0]) rfl rfl ?_ rfl ⟨Nat.le_of_eq Y7.1.2.2.1, Nat.le_of_eq Y7.1.2.2.2⟩ ?_, ?_, ?_, ?_, ?_⟩
    · refine ⟨rfl, ?_, ?_⟩ <;> first | rfl | (dsimp only; simp [u0, u1, u2, yI_same, yI_ne, yI_c, yR_I, yI_row, yR_row, yI_R, yR_ne, yR_same, yI_L, yR_L, vp_in, z_32] <;> rfl)
    · first | trivial | (dsimp only; simp [u0, u1, u2, yI_same, yI_ne, yI_c, yR_I, yI_row, yR_row, yI_R, yR_ne, yR_same, yI_L, yR_L, vp_in, z_32]; done)
    · dsimp only
      (repeat (first | exact Y7.1 | (refine FYL.setI ?_ rfl) | (refine FYL.setC ?_ rfl) | (refine FYL.row ?_ rfl) | (refine FYL.setR ?_ rfl) | (refine FYL.setRv ?_ (by first | assumption | (simp [yR_I, yR_row, yR_ne]; done)) rfl)))
    · first | exact u0 | (dsimp only; simp [u0, u1, u2, yI_same, yI_ne, yI_c, yR_I, yI_row, yR_row, yI_R, yR_ne, yR_same, yI_L, yR_L, vp_in, z_32]; done)
    · first | exact u1 | (dsimp only; simp [u0, u1, u2, yI_same, yI_ne, yI_c, yR_I, yI_row, yR_row, yI_R, yR_ne, yR_same, yI_L, yR_L, vp_in, z_32]; done)
    · first | exact u2 | (dsimp only; simp [u0, u1, u2, yI_same, yI_ne, yI_c, yR_I, yI_row, yR_row, yI_R, yR_ne, yR_same, yI_L, yR_L, vp_in, z_32]; done)
  obtain ⟨h9, t9, Y9⟩ : ∃ h', XT l 9 400 false 5 153 6051 5 [xf 10008 53, xi 2, xi 7, xi 8] [] h8 5 [xf 10008 53, xi 2, xi 8, xi 8] [] h' ∧ Y0 h' a d c := by
    obtain ⟨-, u0, u1, u2⟩ := id Y8
    refine ⟨_, XT_path (inl := []) (n' := 14) (sp := [5]) (o := [0]) rfl rfl ?_ rfl ⟨Nat.le_of_eq Y8.1.2.2.1, Nat.le_of_eq Y8.1.2.2.2⟩ ?_, ?_, ?_, ?_, ?_⟩
    · refine ⟨rfl, ?_, ?_⟩ <;> first | rfl | (dsimp only; simp [u0, u1, u2, yI_same, yI_ne, yI_c, yR_I, yI_row, yR_row, yI_R, yR_ne, yR_same, yI_L, yR_L, vp_in, z_32] <;> rfl)
    · first | trivial | (dsimp only; simp [u0, u1, u2, yI_same, yI_ne, yI_c, yR_I, yI_row, yR_row, yI_R, yR_ne, yR_same, yI_L, yR_L, vp_in, z_32]; done)
    · dsimp only
      (repeat (first | exact Y8.1 | (refine FYL.setI ?_ rfl) | (refine FYL.setC ?_ rfl) | (refine FYL.row ?_ rfl) | (refine FYL.setR ?_ rfl) | (refine FYL.setRv ?_ (by first | assumption | (simp [yR_I, yR_row, yR_ne]; done)) rfl)))
    · first | exact u0 | (dsimp only; simp [u0, u1, u2, yI_same, yI_ne, yI_c, yR_I, yI_row, yR_row, yI_R, yR_ne, yR_same, yI_L, yR_L, vp_in, z_32]; done)
    · first | exact u1 | (dsimp only; simp [u0, u1, u2, yI_same, yI_ne, yI_c, yR_I, yI_row, yR_row, yI_R, yR_ne, yR_same, yI_L, yR_L, vp_in, z_32]; done)
    · first | exact u2 | (dsimp only; simp [u0, u1, u2, yI_same, yI_ne, yI_c, yR_I, yI_row, yR_row, yI_R, yR_ne, yR_same, yI_L, yR_L, vp_in, z_32]; done)
  obtain ⟨h10, t10, Y10⟩ : ∃ h', XT l 9 400 false 5 153 6051 5 [xf 10008 53, xi 2, xi 8, xi 8] [] h9 20 [xf 10008 53, xi 2, xi 8, xi 8] [] h' ∧ Y0 h' a d c := by
    obtain ⟨-, u0, u1, u2⟩ := id Y9
    refine ⟨_, XT_path (inl := []) (n' := 8) (sp := [20]) (o := [1]) rfl rfl ?_ rfl ⟨Nat.le_of_eq Y9.1.2.2.1, Nat.le_of_eq Y9.1.2.2.2⟩ ?_, ?_, ?_, ?_, ?_⟩
    · refine ⟨rfl, ?_, ?_⟩ <;> first | rfl | (dsimp only; simp [u0, u1, u2, yI_same, yI_ne, yI_c, yR_I, yI_row, yR_row, yI_R, yR_ne, yR_same, yI_L, yR_L, vp_in, z_32] <;> rfl)
    · first | trivial | (dsimp only; simp [u0, u1, u2, yI_same, yI_ne, yI_c, yR_I, yI_row, yR_row, yI_R, yR_ne, yR_same, yI_L, yR_L, vp_in, z_32]; done)
    · dsimp only
      (repeat (first | exact Y9.1 | (refine FYL.setI ?_ rfl) | (refine FYL.setC ?_ rfl) | (refine FYL.row ?_ rfl) | (refine FYL.setR ?_ rfl) | (refine FYL.setRv ?_ (by first | assumption | (simp [yR_I, yR_row, yR_ne]; done)) rfl)))
    · first | exact u0 | (dsimp only; simp [u0, u1, u2, yI_same, yI_ne, yI_c, yR_I, yI_row, yR_row, yI_R, yR_ne, yR_same, yI_L, yR_L, vp_in, z_32]; done)
    · first | exact u1 | (dsimp only; simp [u0, u1, u2, yI_same, yI_ne, yI_c, yR_I, yI_row, yR_row, yI_R, yR_ne, yR_same, yI_L, yR_L, vp_in, z_32]; done)
    · first | exact u2 | (dsimp only; simp [u0, u1, u2, yI_same, yI_ne, yI_c, yR_I, yI_row, yR_row, yI_R, yR_ne, yR_same, yI_L, yR_L, vp_in, z_32]; done)
  exact ⟨h10, CX_ofT (by decide) rfl rfl trivial ⟨_, _, _, rfl, rfl, rfl⟩ rfl ⟨Nat.le_of_eq Y10.1.2.2.1.symm, Nat.le_of_eq Y10.1.2.2.2.symm⟩ (t1.tr (t2.tr (t3.tr (t4.tr (t5.tr (t6.tr (t7.tr (t8.tr (t9.tr t10))))))))), Y10⟩

set_option maxRecDepth 100000 in
set_option maxHeartbeats 1000000 in
theorem p1_fill68 (l : Launch) (h : XH) (a d c : Int32) (Y : Y0 h a d c) : ∃ h', CX l 9 400 false 5 [xf 10006 68, xi 0] h [] h' ∧ Y0 h' a d c := by
  obtain ⟨h1, t1, Y1⟩ : ∃ h', XT l 9 400 false 5 153 6051 0 [xf 10006 68, xi 0, xun, xun] [] h 5 [xf 10006 68, xi 0, xi 0, xi 6] [] h' ∧ Y0 h' a d c := by
    obtain ⟨-, u0, u1, u2⟩ := id Y
    refine ⟨_, XT_path (inl := []) (n' := 10) (sp := [5]) (o := []) rfl rfl ?_ rfl ⟨Nat.le_of_eq Y.1.2.2.1, Nat.le_of_eq Y.1.2.2.2⟩ ?_, ?_, ?_, ?_, ?_⟩
    · refine ⟨rfl, ?_, ?_⟩ <;> first | rfl | (dsimp only; simp [u0, u1, u2, yI_same, yI_ne, yI_c, yR_I, yI_row, yR_row, yI_R, yR_ne, yR_same, yI_L, yR_L, vp_in, z_32] <;> rfl)
    · first | trivial | (dsimp only; simp [u0, u1, u2, yI_same, yI_ne, yI_c, yR_I, yI_row, yR_row, yI_R, yR_ne, yR_same, yI_L, yR_L, vp_in, z_32]; done)
    · dsimp only
      (repeat (first | exact Y.1 | (refine FYL.setI ?_ rfl) | (refine FYL.setC ?_ rfl) | (refine FYL.row ?_ rfl) | (refine FYL.setR ?_ rfl) | (refine FYL.setRv ?_ (by first | assumption | (simp [yR_I, yR_row, yR_ne]; done)) rfl)))
    · first | exact u0 | (dsimp only; simp [u0, u1, u2, yI_same, yI_ne, yI_c, yR_I, yI_row, yR_row, yI_R, yR_ne, yR_same, yI_L, yR_L, vp_in, z_32]; done)
    · first | exact u1 | (dsimp only; simp [u0, u1, u2, yI_same, yI_ne, yI_c, yR_I, yI_row, yR_row, yI_R, yR_ne, yR_same, yI_L, yR_L, vp_in, z_32]; done)
    · first | exact u2 | (dsimp only; simp [u0, u1, u2, yI_same, yI_ne, yI_c, yR_I, yI_row, yR_row, yI_R, yR_ne, yR_same, yI_L, yR_L, vp_in, z_32]; done)
  obtain ⟨h2, t2, Y2⟩ : ∃ h', XT l 9 400 false 5 153 6051 5 [xf 10006 68, xi 0, xi 0, xi 6] [] h1 5 [xf 10006 68, xi 0, xi 1, xi 6] [] h' ∧ Y0 h' a d c := by
    obtain ⟨-, u0, u1, u2⟩ := id Y1
    refine ⟨_, XT_path (inl := []) (n' := 14) (sp := [5]) (o := [0]) rfl rfl ?_ rfl ⟨Nat.le_of_eq Y1.1.2.2.1, Nat.le_of_eq Y1.1.2.2.2⟩ ?_, ?_, ?_, ?_, ?_⟩
    · refine ⟨rfl, ?_, ?_⟩ <;> first | rfl | (dsimp only; simp [u0, u1, u2, yI_same, yI_ne, yI_c, yR_I, yI_row, yR_row, yI_R, yR_ne, yR_same, yI_L, yR_L, vp_in, z_32] <;> rfl)
    · first | trivial | (dsimp only; simp [u0, u1, u2, yI_same, yI_ne, yI_c, yR_I, yI_row, yR_row, yI_R, yR_ne, yR_same, yI_L, yR_L, vp_in, z_32]; done)
    · dsimp only
      (repeat (first | exact Y1.1 | (refine FYL.setI ?_ rfl) | (refine FYL.setC ?_ rfl) | (refine FYL.row ?_ rfl) | (refine FYL.setR ?_ rfl) | (refine FYL.setRv ?_ (by first | assumption | (simp [yR_I, yR_row, yR_ne]; done)) rfl)))
    · first | exact u0 | (dsimp only; simp [u0, u1, u2, yI_same, yI_ne, yI_c, yR_I, yI_row, yR_row, yI_R, yR_ne, yR_same, yI_L, yR_L, vp_in, z_32]; done)
    · first | exact u1 | (dsimp only; simp [u0, u1, u2, yI_same, yI_ne, yI_c, yR_I, yI_row, yR_row, yI_R, yR_ne, yR_same, yI_L, yR_L, vp_in, z_32]; done)
    · first | exact u2 | (dsimp only; simp [u0, u1, u2, yI_same, yI_ne, yI_c, yR_I, yI_row, yR_row, yI_R, yR_ne, yR_same, yI_L, yR_L, vp_in, z_32]; done)
  obtain ⟨h3, t3, Y3⟩ : ∃ h', XT l 9 400 false 5 153 6051 5 [xf 10006 68, xi 0, xi 1, xi 6] [] h2 5 [xf 10006 68, xi 0, xi 2, xi 6] [] h' ∧ Y0 h' a d c := by
    obtain ⟨-, u0, u1, u2⟩ := id Y2
    refine ⟨_, XT_path (inl := []) (n' := 14) (sp := [5]) (o := [0]) rfl rfl ?_ rfl ⟨Nat.le_of_eq Y2.1.2.2.1, Nat.le_of_eq Y2.1.2.2.2⟩ ?_, ?_, ?_, ?_, ?_⟩
    · refine ⟨rfl, ?_, ?_⟩ <;> first | rfl | (dsimp only; simp [u0, u1, u2, yI_same, yI_ne, yI_c, yR_I, yI_row, yR_row, yI_R, yR_ne, yR_same, yI_L, yR_L, vp_in, z_32] <;> rfl)
    · first | trivial | (dsimp only; simp [u0, u1, u2, yI_same, yI_ne, yI_c, yR_I, yI_row, yR_row, yI_R, yR_ne, yR_same, yI_L, yR_L, vp_in, z_32]; done)
    · dsimp only
      (repeat (first | exact Y2.1 | (refine FYL.setI ?_ rfl) | (refine FYL.setC ?_ rfl) | (refine FYL.row ?_ rfl) | (refine FYL.setR ?_ rfl) | (refine FYL.setRv ?_ (by first | assumption | (simp [yR_I, yR_row, yR_ne]; done)) rfl)))
    · first | exact u0 | (dsimp only; simp [u0, u1, u2, yI_same, yI_ne, yI_c, yR_I, yI_row, yR_row, yI_R, yR_ne, yR_same, yI_L, yR_L, vp_in, z_32]; done)
    · first | exact u1 | (dsimp only; simp [u0, u1, u2, yI_same, yI_ne, yI_c, yR_I, yI_row, yR_row, yI_R, yR_ne, yR_same, yI_L, yR_L, vp_in, z_32]; done)
    · first | exact u2 | (dsimp only; simp [u0, u1, u2, yI_same, yI_ne, yI_c, yR_I, yI_row, yR_row, yI_R, yR_ne, yR_same, yI_L, yR_L, vp_in, z_32]; done)
  obtain ⟨h4, t4, Y4⟩ : ∃ h', XT l 9 400 false 5 153 6051 5 [xf 10006 68, xi 0, xi 2, xi 6] [] h3 5 [xf 10006 68, xi 0, xi 3, xi 6] [] h' ∧ Y0 h' a d c := by
    obtain ⟨-, u0, u1, u2⟩ := id Y3
    refine ⟨_, XT_path (inl := []) (n' := 14) (sp := [5]) (o := [0]) rfl rfl ?_ rfl ⟨Nat.le_of_eq Y3.1.2.2.1, Nat.le_of_eq Y3.1.2.2.2⟩ ?_, ?_, ?_, ?_, ?_⟩
    · refine ⟨rfl, ?_, ?_⟩ <;> first | rfl | (dsimp only; simp [u0, u1, u2, yI_same, yI_ne, yI_c, yR_I, yI_row, yR_row, yI_R, yR_ne, yR_same, yI_L, yR_L, vp_in, z_32] <;> rfl)
    · first | trivial | (dsimp only; simp [u0, u1, u2, yI_same, yI_ne, yI_c, yR_I, yI_row, yR_row, yI_R, yR_ne, yR_same, yI_L, yR_L, vp_in, z_32]; done)
    · dsimp only
      (repeat (first | exact Y3.1 | (refine FYL.setI ?_ rfl) | (refine FYL.setC ?_ rfl) | (refine FYL.row ?_ rfl) | (refine FYL.setR ?_ rfl) | (refine FYL.setRv ?_ (by first | assumption | (simp [yR_I, yR_row, yR_ne]; done)) rfl)))
    · first | exact u0 | (dsimp only; simp [u0, u1, u2, yI_same, yI_ne, yI_c, yR_I, yI_row, yR_row, yI_R, yR_ne, yR_same, yI_L, yR_L, vp_in, z_32]; done)
    · first | exact u1 | (dsimp only; simp [u0, u1, u2, yI_same, yI_ne, yI_c, yR_I, yI_row, yR_row, yI_R, yR_ne, yR_same, yI_L, yR_L, vp_in, z_32]; done)
    · first | exact u2 | (dsimp only; simp [u0, u1, u2, yI_same, yI_ne, yI_c, yR_I, yI_row, yR_row, yI_R, yR_ne, yR_same, yI_L, yR_L, vp_in, z_32]; done)
  obtain ⟨h5, t5, Y5⟩ : ∃ h', XT l 9 400 false 5 153 6051 5 [xf 10006 68, xi 0, xi 3, xi 6] [] h4 5 [xf 10006 68, xi 0, xi 4, xi 6] [] h' ∧ Y0 h' a d c := by
    obtain ⟨-, u0, u1, u2⟩ := id Y4
    refine ⟨_, XT_path (inl := []) (n' := 14) (sp := [5]) (o := [0]) rfl rfl ?_ rfl ⟨Nat.le_of_eq Y4.1.2.2.1, Nat.le_of_eq Y4.1.2.2.2⟩ ?_, ?_, ?_, ?_, ?_⟩
    · refine ⟨rfl, ?_, ?_⟩ <;> first | rfl | (dsimp only; simp [u0, u1, u2, yI_same, yI_ne, yI_c, yR_I, yI_row, yR_row, yI_R, yR_ne, yR_same, yI_L, yR_L, vp_in, z_32] <;> rfl)
    · first | trivial | (dsimp only; simp [u0, u1, u2, yI_same, yI_ne, yI_c, yR_I, yI_row, yR_row, yI_R, yR_ne, yR_same, yI_L, yR_L, vp_in, z_32]; done)
    · dsimp only
      (repeat (first | exact Y4.1 | (refine FYL.setI ?_ rfl) | (refine FYL.setC ?_ rfl) | (refine FYL.row ?_ rfl) | (refine FYL.setR ?_ rfl) | (refine FYL.setRv ?_ (by first | assumption | (simp [yR_I, yR_row, yR_ne]; done)) rfl)))
    · first | exact u0 | (dsimp only; simp [u0, u1, u2, yI_same, yI_ne, yI_c, yR_I, yI_row, yR_row, yI_R, yR_ne, yR_same, yI_L, yR_L, vp_in, z_32]; done)
    · first | exact u1 | (dsimp only; simp [u0, u1, u2, yI_same, yI_ne, yI_c, yR_I, yI_row, yR_row, yI_R, yR_ne, yR_same, yI_L, yR_L, vp_in, z_32]; done)
    · first | exact u2 | (dsimp only; simp [u0, u1, u2, yI_same, yI_ne, yI_c, yR_I, yI_row, yR_row, yI_R, yR_ne, yR_same, yI_L, yR_L, vp_in, z_32]; done)
  obtain ⟨h6, t6, Y6⟩ : ∃ h', XT l 9 400 false 5 153 6051 5 [xf 10006 68, xi 0, xi 4, xi 6] [] h5 5 [xf 10006 68, xi 0, xi 5, xi 6] [] h' ∧ Y0 h' a d c := by
    obtain ⟨-, u0, u1, u2⟩ := id Y5
    refine ⟨_, XT_path (inl := []) (n' := 14) (sp := [5]) (o := [0]) rfl rfl ?_ rfl ⟨Nat.le_of_eq Y5.1.2.2.1, Nat.le_of_eq Y5.1.2.2.2⟩ ?_, ?_, ?_, ?_, ?_⟩
    · refine ⟨rfl, ?_, ?_⟩ <;> first | rfl | (dsimp only; simp [u0, u1, u2, yI_same, yI_ne, yI_c, yR_I, yI_row, yR_row, yI_R, yR_ne, yR_same, yI_L, yR_L, vp_in, z_32] <;> rfl)
    · first | trivial | (dsimp only; simp [u0, u1, u2, yI_same, yI_ne, yI_c, yR_I, yI_row, yR_row, yI_R, yR_ne, yR_same, yI_L, yR_L, vp_in, z_32]; done)
    · dsimp only
      (repeat (first | exact Y5.1 | (refine FYL.setI ?_ rfl) | (refine FYL.setC ?_ rfl) | (refine FYL.row ?_ rfl) | (refine FYL.setR ?_ rfl) | (refine FYL.setRv ?_ (by first | assumption | (simp [yR_I, yR_row, yR_ne]; done)) rfl)))
    · first | exact u0 | (dsimp only; simp [u0, u1, u2, yI_same, yI_ne, yI_c, yR_I, yI_row, yR_row, yI_R, yR_ne, yR_same, yI_L, yR_L, vp_in, z_32]; done)
    · first | exact u1 | (dsimp only; simp [u0, u1, u2, yI_same, yI_ne, yI_c, yR_I, yI_row, yR_row, yI_R, yR_ne, yR_same, yI_L, yR_L, vp_in, z_32]; done)
    · first | exact u2 | (dsimp only; simp [u0, u1, u2, yI_same, yI_ne, yI_c, yR_I, yI_row, yR_row, yI_R, yR_ne, yR_same, yI_L, yR_L, vp_in, z_32]; done)
  obtain ⟨h7, t7, Y7⟩ : ∃ h', XT l 9 400 false 5 153 6051 5 [xf 10006 68, xi 0, xi 5, xi 6] [] h6 5 [xf 10006 68, xi 0, xi 6, xi 6] [] h' ∧ Y0 h' a d c := by
    obtain ⟨-, u0, u1, u2⟩ := id Y6
    refine ⟨_, XT_path (inl := []) (n' := 14) (sp := [5]) (o := [0]) rfl rfl ?_ rfl ⟨Nat.le_of_eq Y6.1.2.2.1, Nat.le_of_eq Y6.1.2.2.2⟩ ?_, ?_, ?_, ?_, ?_⟩
    · refine ⟨rfl, ?_, ?_⟩ <;> first | rfl | (dsimp only; simp [u0, u1, u2, yI_same, yI_ne, yI_c, yR_I, yI_row, yR_row, yI_R, yR_ne, yR_same, yI_L, yR_L, vp_in, z_32] <;> rfl)
    · first | trivial | (dsimp only; simp [u0, u1, u2, yI_same, yI_ne, yI_c, yR_I, yI_row, yR_row, yI_R, yR_ne, yR_same, yI_L, yR_L, vp_in, z_32]; done)
    · dsimp only
      (repeat (first | exact Y6.1 | (refine FYL.setI ?_ rfl) | (refine FYL.setC ?_ rfl) | (refine FYL.row ?_ rfl) | (refine FYL.setR ?_ rfl) | (refine FYL.setRv ?_ (by first | assumption | (simp [yR_I, yR_row, yR_ne]; done)) rfl)))
    · first | exact u0 | (dsimp only; simp [u0, u1, u2, yI_same, yI_ne, yI_c, yR_I, yI_row, yR_row, yI_R, yR_ne, yR_same, yI_L, yR_L, vp_in, z_32]; done)
    · first | exact u1 | (dsimp only; simp [u0, u1, u2, yI_same, yI_ne, yI_c, yR_I, yI_row, yR_row, yI_R, yR_ne, yR_same, yI_L, yR_L, vp_in, z_32]; done)
    · first | exact u2 | (dsimp only; simp [u0, u1, u2, yI_same, yI_ne, yI_c, yR_I, yI_row, yR_row, yI_R, yR_ne, yR_same, yI_L, yR_L, vp_in, z_32]; done)
  obtain ⟨h8, t8, Y8⟩ : ∃ h', XT l 9 400 false 5 153 6051 5 [xf 10006 68, xi 0, xi 6, xi 6] [] h7 20 [xf 10006 68, xi 0, xi 6, xi 6] [] h' ∧ Y0 h' a d c := by
    obtain ⟨-, u0, u1, u2⟩ := id Y7
    refine ⟨_, XT_path (inl := []) (n' := 8) (sp := [20]) (o := [1]) rfl rfl ?_ rfl ⟨Nat.le_of_eq Y7.1.2.2.1, Nat.le_of_eq Y7.1.2.2.2⟩ ?_, ?_, ?_, ?_, ?_⟩
    · refine ⟨rfl, ?_, ?_⟩ <;> first | rfl | (dsimp only; simp [u0, u1, u2, yI_same, yI_ne, yI_c, yR_I, yI_row, yR_row, yI_R, yR_ne, yR_same, yI_L, yR_L, vp_in, z_32] <;> rfl)
    · first | trivial | (dsimp only; simp [u0, u1, u2, yI_same, yI_ne, yI_c, yR_I, yI_row, yR_row, yI_R, yR_ne, yR_same, yI_L, yR_L, vp_in, z_32]; done)
    · dsimp only
      (repeat (first | exact Y7.1 | (refine FYL.setI ?_ rfl) | (refine FYL.setC ?_ rfl) | (refine FYL.row ?_ rfl) | (refine FYL.setR ?_ rfl) | (refine FYL.setRv ?_ (by first | assumption | (simp [yR_I, yR_row, yR_ne]; done)) rfl)))
    · first | exact u0 | (dsimp only; simp [u0, u1, u2, yI_same, yI_ne, yI_c, yR_I, yI_row, yR_row, yI_R, yR_ne, yR_same, yI_L, yR_L, vp_in, z_32]; done)
    · first | exact u1 | (dsimp only; simp [u0, u1, u2, yI_same, yI_ne, yI_c, yR_I, yI_row, yR_row, yI_R, yR_ne, yR_same, yI_L, yR_L, vp_in, z_32]; done)
    · first | exact u2 | (dsimp only; simp [u0, u1, u2, yI_same, yI_ne, yI_c, yR_I, yI_row, yR_row, yI_R, yR_ne, yR_same, yI_L, yR_L, vp_in, z_32]; done)
  exact ⟨h8, CX_ofT (by decide) rfl rfl trivial ⟨_, _, _, rfl, rfl, rfl⟩ rfl ⟨Nat.le_of_eq Y8.1.2.2.1.symm, Nat.le_of_eq Y8.1.2.2.2.symm⟩ (t1.tr (t2.tr (t3.tr (t4.tr (t5.tr (t6.tr (t7.tr t8))))))), Y8⟩

set_option maxRecDepth 100000 in
set_option maxHeartbeats 1000000 in
theorem p1_fill66 (l : Launch) (h : XH) (a d c : Int32) (Y : Y0 h a d c) : ∃ h', CX l 9 400 false 5 [xf 10006 66, xi 0] h [] h' ∧ Y0 h' a d c := by
  obtain ⟨h1, t1, Y1⟩ : ∃ h', XT l 9 400 false 5 153 6051 0 [xf 10006 66, xi 0, xun, xun] [] h 5 [xf 10006 66, xi 0, xi 0, xi 6] [] h' ∧ Y0 h' a d c := by
    obtain ⟨-, u0, u1, u2⟩ := id Y
    refine ⟨_, XT_path (inl := []) (n' := 10) (sp := [5]) (o := []) rfl rfl ?_ rfl ⟨Nat.le_of_eq Y.1.2.2.1, Nat.le_of_eq Y.1.2.2.2⟩ ?_, ?_, ?_, ?_, ?_⟩
    · refine ⟨rfl, ?_, ?_⟩ <;> first | rfl | (dsimp only; simp [u0, u1, u2, yI_same, yI_ne, yI_c, yR_I, yI_row, yR_row, yI_R, yR_ne, yR_same, yI_L, yR_L, vp_in, z_32] <;> rfl)
    · first | trivial | (dsimp only; simp [u0, u1, u2, yI_same, yI_ne, yI_c, yR_I, yI_row, yR_row, yI_R, yR_ne, yR_same, yI_L, yR_L, vp_in, z_32]; done)
    · dsimp only
      (repeat (first | exact Y.1 | (refine FYL.setI ?_ rfl) | (refine FYL.setC ?_ rfl) | (refine FYL.row ?_ rfl) | (refine FYL.setR ?_ rfl) | (refine FYL.setRv ?_ (by first | assumption | (simp [yR_I, yR_row, yR_ne]; done)) rfl)))
    · first | exact u0 | (dsimp only; simp [u0, u1, u2, yI_same, yI_ne, yI_c, yR_I, yI_row, yR_row, yI_R, yR_ne, yR_same, yI_L, yR_L, vp_in, z_32]; done)
    · first | exact u1 | (dsimp only; simp [u0, u1, u2, yI_same, yI_ne, yI_c, yR_I, yI_row, yR_row, yI_R, yR_ne, yR_same, yI_L, yR_L, vp_in, z_32]; done)
    · first | exact u2 | (dsimp only; simp [u0, u1, u2, yI_same, yI_ne, yI_c, yR_I, yI_row, yR_row, yI_R, yR_ne, yR_same, yI_L, yR_L, vp_in, z_32]; done)
  obtain ⟨h2, t2, Y2⟩ : ∃ h', XT l 9 400 false 5 153 6051 5 [xf 10006 66, xi 0, xi 0, xi 6] [] h1 5 [xf 10006 66, xi 0, xi 1, xi 6] [] h' ∧ Y0 h' a d c := by
    obtain ⟨-, u0, u1, u2⟩ := id Y1
    refine ⟨_, XT_path (inl := []) (n' := 14) (sp := [5]) (o := [0]) rfl rfl ?_ rfl ⟨Nat.le_of_eq Y1.1.2.2.1, Nat.le_of_eq Y1.1.2.2.2⟩ ?_, ?_, ?_, ?_, ?_⟩
    · refine ⟨rfl, ?_, ?_⟩ <;> first | rfl | (dsimp only; simp [u0, u1, u2, yI_same, yI_ne, yI_c, yR_I, yI_row, yR_row, yI_R, yR_ne, yR_same, yI_L, yR_L, vp_in, z_32] <;> rfl)
    · first | trivial | (dsimp only; simp [u0, u1, u2, yI_same, yI_ne, yI_c, yR_I, yI_row, yR_row, yI_R, yR_ne, yR_same, yI_L, yR_L, vp_in, z_32]; done)
    · dsimp only
      (repeat (first | exact Y1.1 | (refine FYL.setI ?_ rfl) | (refine FYL.setC ?_ rfl) | (refine FYL.row ?_ rfl) | (refine FYL.setR ?_ rfl) | (refine FYL.setRv ?_ (by first | assumption | (simp [yR_I, yR_row, yR_ne]; done)) rfl)))
    · first | exact u0 | (dsimp only; simp [u0, u1, u2, yI_same, yI_ne, yI_c, yR_I, yI_row, yR_row, yI_R, yR_ne, yR_same, yI_L, yR_L, vp_in, z_32]; done)
    · first | exact u1 | (dsimp only; simp [u0, u1, u2, yI_same, yI_ne, yI_c, yR_I, yI_row, yR_row, yI_R, yR_ne, yR_same, yI_L, yR_L, vp_in, z_32]; done)
    · first | exact u2 | (dsimp only; simp [u0, u1, u2, yI_same, yI_ne, yI_c, yR_I, yI_row, yR_row, yI_R, yR_ne, yR_same, yI_L, yR_L, vp_in, z_32]; done)
  obtain ⟨h3, t3, Y3⟩ : ∃ h', XT l 9 400 false 5 153 6051 5 [xf 10006 66, xi 0, xi 1, xi 6] [] h2 5 [xf 10006 66, xi 0, xi 2, xi 6] [] h' ∧ Y0 h' a d c := by
    obtain ⟨-, u0, u1, u2⟩ := id Y2
    refine ⟨_, XT_path (inl := []) (n' := 14) (sp := [5]) (o := [0]) rfl rfl ?_ rfl ⟨Nat.le_of_eq Y2.1.2.2.1, Nat.le_of_eq Y2.1.2.2.2⟩ ?_, ?_, ?_, ?_, ?_⟩
    · refine ⟨rfl, ?_, ?_⟩ <;> first | rfl | (dsimp only; simp [u0, u1, u2, yI_same, yI_ne, yI_c, yR_I, yI_row, yR_row, yI_R, yR_ne, yR_same, yI_L, yR_L, vp_in, z_32] <;> rfl)
    · first | trivial | (dsimp only; simp [u0, u1, u2, yI_same, yI_ne, yI_c, yR_I, yI_row, yR_row, yI_R, yR_ne, yR_same, yI_L, yR_L, vp_in, z_32]; done)
    · dsimp only
      (repeat (first | exact Y2.1 | (refine FYL.setI ?_ rfl) | (refine FYL.setC ?_ rfl) | (refine FYL.row ?_ rfl) | (refine FYL.setR ?_ rfl) | (refine FYL.setRv ?_ (by first | assumption | (simp [yR_I, yR_row, yR_ne]; done)) rfl)))
    · first | exact u0 | (dsimp only; simp [u0, u1, u2, yI_same, yI_ne, yI_c, yR_I, yI_row, yR_row, yI_R, yR_ne, yR_same, yI_L, yR_L, vp_in, z_32]; done)
    · first | exact u1 | (dsimp only; simp [u0, u1, u2, yI_same, yI_ne, yI_c, yR_I, yI_row, yR_row, yI_R, yR_ne, yR_same, yI_L, yR_L, vp_in, z_32]; done)
    · first | exact u2 | (dsimp only; simp [u0, u1, u2, yI_same, yI_ne, yI_c, yR_I, yI_row, yR_row, yI_R, yR_ne, yR_same, yI_L, yR_L, vp_in, z_32]; done)
  obtain ⟨h4, t4, Y4⟩ : ∃ h', XT l 9 400 false 5 153 6051 5 [xf 10006 66, xi 0, xi 2, xi 6] [] h3 5 [xf 10006 66, xi 0, xi 3, xi 6] [] h' ∧ Y0 h' a d c := by
    obtain ⟨-, u0, u1, u2⟩ := id Y3
    refine ⟨_, XT_path (inl := []) (n' := 14) (sp := [5]) (o := [0]) rfl rfl ?_ rfl ⟨Nat.le_of_eq Y3.1.2.2.1, Nat.le_of_eq Y3.1.2.2.2⟩ ?_, ?_, ?_, ?_, ?_⟩
    · refine ⟨rfl, ?_, ?_⟩ <;> first | rfl | (dsimp only; simp [u0, u1, u2, yI_same, yI_ne, yI_c, yR_I, yI_row, yR_row, yI_R, yR_ne, yR_same, yI_L, yR_L, vp_in, z_32] <;> rfl)
    · first | trivial | (dsimp only; simp [u0, u1, u2, yI_same, yI_ne, yI_c, yR_I, yI_row, yR_row, yI_R, yR_ne, yR_same, yI_L, yR_L, vp_in, z_32]; done)
    · dsimp only
      (repeat (first | exact Y3.1 | (refine FYL.setI ?_ rfl) | (refine FYL.setC ?_ rfl) | (refine FYL.row ?_ rfl) | (refine FYL.setR ?_ rfl) | (refine FYL.setRv ?_ (by first | assumption | (simp [yR_I, yR_row, yR_ne]; done)) rfl)))
    · first | exact u0 | (dsimp only; simp [u0, u1, u2, yI_same, yI_ne, yI_c, yR_I, yI_row, yR_row, yI_R, yR_ne, yR_same, yI_L, yR_L, vp_in, z_32]; done)
    · first | exact u1 | (dsimp only; simp [u0, u1, u2, yI_same, yI_ne, yI_c, yR_I, yI_row, yR_row, yI_R, yR_ne, yR_same, yI_L, yR_L, vp_in, z_32]; done)
    · first | exact u2 | (dsimp only; simp [u0, u1, u2, yI_same, yI_ne, yI_c, yR_I, yI_row, yR_row, yI_R, yR_ne, yR_same, yI_L, yR_L, vp_in, z_32]; done)
  obtain ⟨h5, t5, Y5⟩ : ∃ h', XT l 9 400 false 5 153 6051 5 [xf 10006 66, xi 0, xi 3, xi 6] [] h4 5 [xf 10006 66, xi 0, xi 4, xi 6] [] h' ∧ Y0 h' a d c := by
    obtain ⟨-, u0, u1, u2⟩ := id Y4
    refine ⟨_, XT_path (inl := []) (n' := 14) (sp := [5]) (o := [0]) rfl rfl ?_ rfl ⟨Nat.le_of_eq Y4.1.2.2.1, Nat.le_of_eq Y4.1.2.2.2⟩ ?_, ?_, ?_, ?_, ?_⟩
    · refine ⟨rfl, ?_, ?_⟩ <;> first | rfl | (dsimp only; simp [u0, u1, u2, yI_same, yI_ne, yI_c, yR_I, yI_row, yR_row, yI_R, yR_ne, yR_same, yI_L, yR_L, vp_in, z_32] <;> rfl)
    · first | trivial | (dsimp only; simp [u0, u1, u2, yI_same, yI_ne, yI_c, yR_I, yI_row, yR_row, yI_R, yR_ne, yR_same, yI_L, yR_L, vp_in, z_32]; done)
    · dsimp only
      (repeat (first | exact Y4.1 | (refine FYL.setI ?_ rfl) | (refine FYL.setC ?_ rfl) | (refine FYL.row ?_ rfl) | (refine FYL.setR ?_ rfl) | (refine FYL.setRv ?_ (by first | assumption | (simp [yR_I, yR_row, yR_ne]; done)) rfl)))
    · first | exact u0 | (dsimp only; simp [u0, u1, u2, yI_same, yI_ne, yI_c, yR_I, yI_row, yR_row, yI_R, yR_ne, yR_same, yI_L, yR_L, vp_in, z_32]; done)
    · first | exact u1 | (dsimp only; simp [u0, u1, u2, yI_same, yI_ne, yI_c, yR_I, yI_row, yR_row, yI_R, yR_ne, yR_same, yI_L, yR_L, vp_in, z_32]; done)
    · first | exact u2 | (dsimp only; simp [u0, u1, u2, yI_same, yI_ne, yI_c, yR_I, yI_row, yR_row, yI_R, yR_ne, yR_same, yI_L, yR_L, vp_in, z_32]; done)
  obtain ⟨h6, t6, Y6⟩ : ∃ h', XT l 9 400 false 5 153 6051 5 [xf 10006 66, xi 0, xi 4, xi 6] [] h5 5 [xf 10006 66, xi 0, xi 5, xi 6] [] h' ∧ Y0 h' a d c := by
    obtain ⟨-, u0, u1, u2⟩ := id Y5
    refine ⟨_, XT_path (inl := []) (n' := 14) (sp := [5]) (o := [0]) rfl rfl ?_ rfl ⟨Nat.le_of_eq Y5.1.2.2.1, Nat.le_of_eq Y5.1.2.2.2⟩ ?_, ?_, ?_, ?_, ?_⟩
    · refine ⟨rfl, ?_, ?_⟩ <;> first | rfl | (dsimp only; simp [u0, u1, u2, yI_same, yI_ne, yI_c, yR_I, yI_row, yR_row, yI_R, yR_ne, yR_same, yI_L, yR_L, vp_in, z_32] <;> rfl)
    · first | trivial | (dsimp only; simp [u0, u1, u2, yI_same, yI_ne, yI_c, yR_I, yI_row, yR_row, yI_R, yR_ne, yR_same, yI_L, yR_L, vp_in, z_32]; done)
    · dsimp only
      (repeat (first | exact Y5.1 | (refine FYL.setI ?_ rfl) | (refine FYL.setC ?_ rfl) | (refine FYL.row ?_ rfl) | (refine FYL.setR ?_ rfl) | (refine FYL.setRv ?_ (by first | assumption | (simp [yR_I, yR_row, yR_ne]; done)) rfl)))
    · first | exact u0 | (dsimp only; simp [u0, u1, u2, yI_same, yI_ne, yI_c, yR_I, yI_row, yR_row, yI_R, yR_ne, yR_same, yI_L, yR_L, vp_in, z_32]; done)
    · first | exact u1 | (dsimp only; simp [u0, u1, u2, yI_same, yI_ne, yI_c, yR_I, yI_row, yR_row, yI_R, yR_ne, yR_same, yI_L, yR_L, vp_in, z_32]; done)
    · first | exact u2 | (dsimp only; simp [u0, u1, u2, yI_same, yI_ne, yI_c, yR_I, yI_row, yR_row, yI_R, yR_ne, yR_same, yI_L, yR_L, vp_in, z_32]; done)
  obtain ⟨h7, t7, Y7⟩ : ∃ h', XT l 9 400 false 5 153 6051 5 [xf 10006 66, xi 0, xi 5, xi 6] [] h6 5 [xf 10006 66, xi 0, xi 6, xi 6] [] h' ∧ Y0 h' a d c := by
    obtain ⟨-, u0, u1, u2⟩ := id Y6
    refine ⟨_, XT_path (inl := []) (n' := 14) (sp := [5]) (o := [0]) rfl rfl ?_ rfl ⟨Nat.le_of_eq Y6.1.2.2.1, Nat.le_of_eq Y6.1.2.2.2⟩ ?_, ?_, ?_, ?_, ?_⟩
    · refine ⟨rfl, ?_, ?_⟩ <;> first | rfl | (dsimp only; simp [u0, u1, u2, yI_same, yI_ne, yI_c, yR_I, yI_row, yR_row, yI_R, yR_ne, yR_same, yI_L, yR_L, vp_in, z_32] <;> rfl)
    · first | trivial | (dsimp only; simp [u0, u1, u2, yI_same, yI_ne, yI_c, yR_I, yI_row, yR_row, yI_R, yR_ne, yR_same, yI_L, yR_L, vp_in, z_32]; done)
    · dsimp only
      (repeat (first | exact Y6.1 | (refine FYL.setI ?_ rfl) | (refine FYL.setC ?_ rfl) | (refine FYL.row ?_ rfl) | (refine FYL.setR ?_ rfl) | (refine FYL.setRv ?_ (by first | assumption | (simp [yR_I, yR_row, yR_ne]; done)) rfl)))
    · first | exact u0 | (dsimp only; simp [u0, u1, u2, yI_same, yI_ne, yI_c, yR_I, yI_row, yR_row, yI_R, yR_ne, yR_same, yI_L, yR_L, vp_in, z_32]; done)
    · first | exact u1 | (dsimp only; simp [u0, u1, u2, yI_same, yI_ne, yI_c, yR_I, yI_row, yR_row, yI_R, yR_ne, yR_same, yI_L, yR_L, vp_in, z_32]; done)
    · first | exact u2 | (dsimp only; simp [u0, u1, u2, yI_same, yI_ne, yI_c, yR_I, yI_row, yR_row, yI_R, yR_ne, yR_same, yI_L, yR_L, vp_in, z_32]; done)
  obtain ⟨h8, t8, Y8⟩ : ∃ h', XT l 9 400 false 5 153 6051 5 [xf 10006 66, xi 0, xi 6, xi 6] [] h7 20 [xf 10006 66, xi 0, xi 6, xi 6] [] h' ∧ Y0 h' a d c := by
    obtain ⟨-, u0, u1, u2⟩ := id Y7
    refine ⟨_, XT_path (inl := []) (n' := 8) (sp := [20]) (o := [1]) rfl rfl ?_ rfl ⟨Nat.le_of_eq Y7.1.2.2.1, Nat.le_of_eq Y7.1.2.2.2⟩ ?_, ?_, ?_, ?_, ?_⟩
    · refine ⟨rfl, ?_, ?_⟩ <;> first | rfl | (dsimp only; simp [u0, u1, u2, yI_same, yI_ne, yI_c, yR_I, yI_row, yR_row, yI_R, yR_ne, yR_same, yI_L, yR_L, vp_in, z_32] <;> rfl)
    · first | trivial | (dsimp only; simp [u0, u1, u2, yI_same, yI_ne, yI_c, yR_I, yI_row, yR_row, yI_R, yR_ne, yR_same, yI_L, yR_L, vp_in, z_32]; done)
    · dsimp only
      (repeat (first | exact Y7.1 | (refine FYL.setI ?_ rfl) | (refine FYL.setC ?_ rfl) | (refine FYL.row ?_ rfl) | (refine FYL.setR ?_ rfl) | (refine FYL.setRv ?_ (by first | assumption | (simp [yR_I, yR_row, yR_ne]; done)) rfl)))
    · first | exact u0 | (dsimp only; simp [u0, u1, u2, yI_same, yI_ne, yI_c, yR_I, yI_row, yR_row, yI_R, yR_ne, yR_same, yI_L, yR_L, vp_in, z_32]; done)
    · first | exact u1 | (dsimp only; simp [u0, u1, u2, yI_same, yI_ne, yI_c, yR_I, yI_row, yR_row, yI_R, yR_ne, yR_same, yI_L, yR_L, vp_in, z_32]; done)
    · first | exact u2 | (dsimp only; simp [u0, u1, u2, yI_same, yI_ne, yI_c, yR_I, yI_row, yR_row, yI_R, yR_ne, yR_same, yI_L, yR_L, vp_in, z_32]; done)
  exact ⟨h8, CX_ofT (by decide) rfl rfl trivial ⟨_, _, _, rfl, rfl, rfl⟩ rfl ⟨Nat.le_of_eq Y8.1.2.2.1.symm, Nat.le_of_eq Y8.1.2.2.2.symm⟩ (t1.tr (t2.tr (t3.tr (t4.tr (t5.tr (t6.tr (t7.tr t8))))))), Y8⟩

set_option maxRecDepth 100000 in
set_option maxHeartbeats 1000000 in
theorem p1_fill64 (l : Launch) (h : XH) (a d c : Int32) (Y : Y0 h a d c) : ∃ h', CX l 9 400 false 5 [xf 10008 64, xi 2] h [] h' ∧ Y0 h' a d c := by
  obtain ⟨h1, t1, Y1⟩ : ∃ h', XT l 9 400 false 5 153 6051 0 [xf 10008 64, xi 2, xun, xun] [] h 5 [xf 10008 64, xi 2, xi 0, xi 8] [] h' ∧ Y0 h' a d c := by
    obtain ⟨-, u0, u1, u2⟩ := id Y
    refine ⟨_, XT_path (inl := []) (n' := 10) (sp := [5]) (o := []) rfl rfl ?_ rfl ⟨Nat.le_of_eq Y.1.2.2.1, Nat.le_of_eq Y.1.2.2.2⟩ ?_, ?_, ?_, ?_, ?_⟩
    · refine ⟨rfl, ?_, ?_⟩ <;> first | rfl | (dsimp only; simp [u0, u1, u2, yI_same, yI_ne, yI_c, yR_I, yI_row, yR_row, yI_R, yR_ne, yR_same, yI_L, yR_L, vp_in, z_32] <;> rfl)
    · first | trivial | (dsimp only; simp [u0, u1, u2, yI_same, yI_ne, yI_c, yR_I, yI_row, yR_row, yI_R, yR_ne, yR_same, yI_L, yR_L, vp_in, z_32]; done)
    · dsimp only
      (repeat (first | exact Y.1 | (refine FYL.setI ?_ rfl) | (refine FYL.setC ?_ rfl) | (refine FYL.row ?_ rfl) | (refine FYL.setR ?_ rfl) | (refine FYL.setRv ?_ (by first | assumption | (simp [yR_I, yR_row, yR_ne]; done)) rfl)))
    · first | exact u0 | (dsimp only; simp [u0, u1, u2, yI_same, yI_ne, yI_c, yR_I, yI_row, yR_row, yI_R, yR_ne, yR_same, yI_L, yR_L, vp_in, z_32]; done)
    · first | exact u1 | (dsimp only; simp [u0, u1, u2, yI_same, yI_ne, yI_c, yR_I, yI_row, yR_row, yI_R, yR_ne, yR_same, yI_L, yR_L, vp_in, z_32]; done)
    · first | exact u2 | (dsimp only; simp [u0, u1, u2, yI_same, yI_ne, yI_c, yR_I, yI_row, yR_row, yI_R, yR_ne, yR_same, yI_L, yR_L, vp_in, z_32]; done)
  obtain ⟨h2, t2, Y2⟩ : ∃ h', XT l 9 400 false 5 153 6051 5 [xf 10008 64, xi 2, xi 0, xi 8] [] h1 5 [xf 10008 64, xi 2, xi 1, xi 8] [] h' ∧ Y0 h' a d c := by
    obtain ⟨-, u0, u1, u2⟩ := id Y1
    refine ⟨_, XT_path (inl := []) (n' := 14) (sp := [5]) (o := [0]) rfl rfl ?_ rfl ⟨Nat.le_of_eq Y1.1.2.2.1, Nat.le_of_eq Y1.1.2.2.2⟩ ?_, ?_, ?_, ?_, ?_⟩
    · refine ⟨rfl, ?_, ?_⟩ <;> first | rfl | (dsimp only; simp [u0, u1, u2, yI_same, yI_ne, yI_c, yR_I, yI_row, yR_row, yI_R, yR_ne, yR_same, yI_L, yR_L, vp_in, z_32] <;> rfl)
    · first | trivial | (dsimp only; simp [u0, u1, u2, yI_same, yI_ne, yI_c, yR_I, yI_row, yR_row, yI_R, yR_ne, yR_same, yI_L, yR_L, vp_in, z_32]; done)
    · dsimp only
      (repeat (first | exact Y1.1 | (refine FYL.setI ?_ rfl) | (refine FYL.setC ?_ rfl) | (refine FYL.row ?_ rfl) | (refine FYL.setR ?_ rfl) | (refine FYL.setRv ?_ (by first | assumption | (simp [yR_I, yR_row, yR_ne]; done)) rfl)))
    · first | exact u0 | (dsimp only; simp [u0, u1, u2, yI_same, yI_ne, yI_c, yR_I, yI_row, yR_row, yI_R, yR_ne, yR_same, yI_L, yR_L, vp_in, z_32]; done)
    · first | exact u1 | (dsimp only; simp [u0, u1, u2, yI_same, yI_ne, yI_c, yR_I, yI_row, yR_row, yI_R, yR_ne, yR_same, yI_L, yR_L, vp_in, z_32]; done)
    · first | exact u2 | (dsimp only; simp [u0, u1, u2, yI_same, yI_ne, yI_c, yR_I, yI_row, yR_row, yI_R, yR_ne, yR_same, yI_L, yR_L, vp_in, z_32]; done)
  obtain ⟨h3, t3, Y3⟩ : ∃ h', XT l 9 400 false 5 153 6051 5 [xf 10008 64, xi 2, xi 1, xi 8] [] h2 5 [xf 10008 64, xi 2, xi 2, xi 8] [] h' ∧ Y0 h' a d c := by
    obtain ⟨-, u0, u1, u2⟩ := id Y2
    refine ⟨_, XT_path (inl := []) (n' := 14) (sp := [5]) (o := [0]) rfl rfl ?_ rfl ⟨Nat.le_of_eq Y2.1.2.2.1, Nat.le_of_eq Y2.1.2.2.2⟩ ?_, ?_, ?_, ?_, ?_⟩
    · refine ⟨rfl, ?_, ?_⟩ <;> first | rfl | (dsimp only; simp [u0, u1, u2, yI_same, yI_ne, yI_c, yR_I, yI_row, yR_row, yI_R, yR_ne, yR_same, yI_L, yR_L, vp_in, z_32] <;> rfl)
    · first | trivial | (dsimp only; simp [u0, u1, u2, yI_same, yI_ne, yI_c, yR_I, yI_row, yR_row, yI_R, yR_ne, yR_same, yI_L, yR_L, vp_in, z_32]; done)
    · dsimp only
      (repeat (first | exact Y2.1 | (refine FYL.setI ?_ rfl) | (refine FYL.setC ?_ rfl) | (refine FYL.row ?_ rfl) | (refine FYL.setR ?_ rfl) | (refine FYL.setRv ?_ (by first | assumption | (simp [yR_I, yR_row, yR_ne]; done)) rfl)))
    · first | exact u0 | (dsimp only; simp [u0, u1, u2, yI_same, yI_ne, yI_c, yR_I, yI_row, yR_row, yI_R, yR_ne, yR_same, yI_L, yR_L, vp_in, z_32]; done)
    · first | exact u1 | (dsimp only; simp [u0, u1, u2, yI_same, yI_ne, yI_c, yR_I, yI_row, yR_row, yI_R, yR_ne, yR_same, yI_L, yR_L, vp_in, z_32]; done)
    · first | exact u2 | (dsimp only; simp [u0, u1, u2, yI_same, yI_ne, yI_c, yR_I, yI_row, yR_row, yI_R, yR_ne, yR_same, yI_L, yR_L, vp_in, z_32]; done)
  obtain ⟨h4, t4, Y4⟩ : ∃ h', XT l 9 400 false 5 153 6051 5 [xf 10008 64, xi 2, xi 2, xi 8] [] h3 5 [xf 10008 64, xi 2, xi 3, xi 8] [] h' ∧ Y0 h' a d c := by
    obtain ⟨-, u0, u1, u2⟩ := id Y3
    refine ⟨_, XT_path (inl := []) (n' := 14) (sp := [5]) (o := [0]) rfl rfl ?_ rfl ⟨Nat.le_of_eq Y3.1.2.2.1, Nat.le_of_eq Y3.1.2.2.2⟩ ?_, ?_, ?_, ?_, ?_⟩
    · refine ⟨rfl, ?_, ?_⟩ <;> first | rfl | (dsimp only; simp [u0, u1, u2, yI_same, yI_ne, yI_c, yR_I, yI_row, yR_row, yI_R, yR_ne, yR_same, yI_L, yR_L, vp_in, z_32] <;> rfl)
    · first | trivial | (dsimp only; simp [u0, u1, u2, yI_same, yI_ne, yI_c, yR_I, yI_row, yR_row, yI_R, yR_ne, yR_same, yI_L, yR_L, vp_in, z_32]; done)
    · dsimp only
      (repeat (first | exact Y3.1 | (refine FYL.setI ?_ rfl) | (refine FYL.setC ?_ rfl) | (refine FYL.row ?_ rfl) | (refine FYL.setR ?_ rfl) | (refine FYL.setRv ?_ (by first | assumption | (simp [yR_I, yR_row, yR_ne]; done)) rfl)))
    · first | exact u0 | (dsimp only; simp [u0, u1, u2, yI_same, yI_ne, yI_c, yR_I, yI_row, yR_row, yI_R, yR_ne, yR_same, yI_L, yR_L, vp_in, z_32]; done)
    · first | exact u1 | (dsimp only; simp [u0, u1, u2, yI_same, yI_ne, yI_c, yR_I, yI_row, yR_row, yI_R, yR_ne, yR_same, yI_L, yR_L, vp_in, z_32]; done)
    · first | exact u2 | (dsimp only; simp [u0, u1, u2, yI_same, yI_ne, yI_c, yR_I, yI_row, yR_row, yI_R, yR_ne, yR_same, yI_L, yR_L, vp_in, z_32]; done)
  obtain ⟨h5, t5, Y5⟩ : ∃ h', XT l 9 400 false 5 153 6051 5 [xf 10008 64, xi 2, xi 3, xi 8] [] h4 5 [xf 10008 64, xi 2, xi 4, xi 8] [] h' ∧ Y0 h' a d c := by
    obtain ⟨-, u0, u1, u2⟩ := id Y4
    refine ⟨_, XT_path (inl := []) (n' := 14) (sp := [5]) (o := [0]) rfl rfl ?_ rfl ⟨Nat.le_of_eq Y4.1.2.2.1, Nat.le_of_eq Y4.1.2.2.2⟩ ?_, ?_, ?_, ?_, ?_⟩
    · refine ⟨rfl, ?_, ?_⟩ <;> first | rfl | (dsimp only; simp [u0, u1, u2, yI_same, yI_ne, yI_c, yR_I, yI_row, yR_row, yI_R, yR_ne, yR_same, yI_L, yR_L, vp_in, z_32] <;> rfl)
    · first | trivial | (dsimp only; simp [u0, u1, u2, yI_same, yI_ne, yI_c, yR_I, yI_row, yR_row, yI_R, yR_ne, yR_same, yI_L, yR_L, vp_in, z_32]; done)
    · dsimp only
      (repeat (first | exact Y4.1 | (refine FYL.setI ?_ rfl) | (refine FYL.setC ?_ rfl) | (refine FYL.row ?_ rfl) | (refine FYL.setR ?_ rfl) | (refine FYL.setRv ?_ (by first | assumption | (simp [yR_I, yR_row, yR_ne]; done)) rfl)))
    · first | exact u0 | (dsimp only; simp [u0, u1, u2, yI_same, yI_ne, yI_c, yR_I, yI_row, yR_row, yI_R, yR_ne, yR_same, yI_L, yR_L, vp_in, z_32]; done)
    · first | exact u1 | (dsimp only; simp [u0, u1, u2, yI_same, yI_ne, yI_c, yR_I, yI_row, yR_row, yI_R, yR_ne, yR_same, yI_L, yR_L, vp_in, z_32]; done)
    · first | exact u2 | (dsimp only; simp [u0, u1, u2, yI_same, yI_ne, yI_c, yR_I, yI_row, yR_row, yI_R, yR_ne, yR_same, yI_L, yR_L, vp_in, z_32]; done)
  obtain ⟨h6, t6, Y6⟩ : ∃ h', XT l 9 400 false 5 153 6051 5 [xf 10008 64, xi 2, xi 4, xi 8] [] h5 5 [xf 10008 64, xi 2, xi 5, xi 8] [] h' ∧ Y0 h' a d c := by
    obtain ⟨-, u0, u1, u2⟩ := id Y5
    refine ⟨_, XT_path (inl := []) (n' := 14) (sp := [5]) (o := [0]) rfl rfl ?_ rfl ⟨Nat.le_of_eq Y5.1.2.2.1, Nat.le_of_eq Y5.1.2.2.2⟩ ?_, ?_, ?_, ?_, ?_⟩
    · refine ⟨rfl, ?_, ?_⟩ <;> first | rfl | (dsimp only; simp [u0, u1, u2, yI_same, yI_ne, yI_c, yR_I, yI_row, yR_row, yI_R, yR_ne, yR_same, yI_L, yR_L, vp_in, z_32] <;> rfl)
    · first | trivial | (dsimp only; simp [u0, u1, u2, yI_same, yI_ne, yI_c, yR_I, yI_row, yR_row, yI_R, yR_ne, yR_same, yI_L, yR_L, vp_in, z_32]; done)
    · dsimp only
      (repeat (first | exact Y5.1 | (refine FYL.setI ?_ rfl) | (refine FYL.setC ?_ rfl) | (refine FYL.row ?_ rfl) | (refine FYL.setR ?_ rfl) | (refine FYL.setRv ?_ (by first | assumption | (simp [yR_I, yR_row, yR_ne]; done)) rfl)))
    · first | exact u0 | (dsimp only; simp [u0, u1, u2, yI_same, yI_ne, yI_c, yR_I, yI_row, yR_row, yI_R, yR_ne, yR_same, yI_L, yR_L, vp_in, z_32]; done)
    · first | exact u1 | (dsimp only; simp [u0, u1, u2, yI_same, yI_ne, yI_c, yR_I, yI_row, yR_row, yI_R, yR_ne, yR_same, yI_L, yR_L, vp_in, z_32]; done)
    · first | exact u2 | (dsimp only; simp [u0, u1, u2, yI_same, yI_ne, yI_c, yR_I, yI_row, yR_row, yI_R, yR_ne, yR_same, yI_L, yR_L, vp_in, z_32]; done)
  obtain ⟨h7, t7, Y7⟩ : ∃ h', XT l 9 400 false 5 153 6051 5 [xf 10008 64, xi 2, xi 5, xi 8] [] h6 5 [xf 10008 64, xi 2, xi 6, xi 8] [] h' ∧ Y0 h' a d c := by
    obtain ⟨-, u0, u1, u2⟩ := id Y6
    refine ⟨_, XT_path (inl := []) (n' := 14) (sp := [5]) (o := [0]) rfl rfl ?_ rfl ⟨Nat.le_of_eq Y6.1.2.2.1, Nat.le_of_eq Y6.1.2.2.2⟩ ?_, ?_, ?_, ?_, ?_⟩
    · refine ⟨rfl, ?_, ?_⟩ <;> first | rfl | (dsimp only; simp [u0, u1, u2, yI_same, yI_ne, yI_c, yR_I, yI_row, yR_row, yI_R, yR_ne, yR_same, yI_L, yR_L, vp_in, z_32] <;> rfl)
    · first | trivial | (dsimp only; simp [u0, u1, u2, yI_same, yI_ne, yI_c, yR_I, yI_row, yR_row, yI_R, yR_ne, yR_same, yI_L, yR_L, vp_in, z_32]; done)
    · dsimp only
      (repeat (first | exact Y6.1 | (refine FYL.setI ?_ rfl) | (refine FYL.setC ?_ rfl) | (refine FYL.row ?_ rfl) | (refine FYL.setR ?_ rfl) | (refine FYL.setRv ?_ (by first | assumption | (simp [yR_I, yR_row, yR_ne]; done)) rfl)))
    · first | exact u0 | (dsimp only; simp [u0, u1, u2, yI_same, yI_ne, yI_c, yR_I, yI_row, yR_row, yI_R, yR_ne, yR_same, yI_L, yR_L, vp_in, z_32]; done)
    · first | exact u1 | (dsimp only; simp [u0, u1, u2, yI_same, yI_ne, yI_c, yR_I, yI_row, yR_row, yI_R, yR_ne, yR_same, yI_L, yR_L, vp_in, z_32]; done)
    · first | exact u2 | (dsimp only; simp [u0, u1, u2, yI_same, yI_ne, yI_c, yR_I, yI_row, yR_row, yI_R, yR_ne, yR_same, yI_L, yR_L, vp_in, z_32]; done)
  obtain ⟨h8, t8, Y8⟩ : ∃ h', XT l 9 400 false 5 153 6051 5 [xf 10008 64, xi 2, xi 6, xi 8] [] h7 5 [xf 10008 64, xi 2, xi 7, xi 8] [] h' ∧ Y0 h' a d c := by
    obtain ⟨-, u0, u1, u2⟩ := id Y7
    refine ⟨_, XT_path (inl := []) (n' := 14) (sp := [5]) (o := [0]) rfl rfl ?_ rfl ⟨Nat.le_of_eq Y7.1.2.2.1, Nat.le_of_eq Y7.1.2.2.2⟩ ?_, ?_, ?_, ?_, ?_⟩
    · refine ⟨rfl, ?_, ?_⟩ <;> first | rfl | (dsimp only; simp [u0, u1, u2, yI_same, yI_ne, yI_c, yR_I, yI_row, yR_row, yI_R, yR_ne, yR_same, yI_L, yR_L, vp_in, z_32] <;> rfl)
    · first | trivial | (dsimp only; simp [u0, u1, u2, yI_same, yI_ne, yI_c, yR_I, yI_row, yR_row, yI_R, yR_ne, yR_same, yI_L, yR_L, vp_in, z_32]; done)
    · dsimp only
      (repeat (first | exact Y7.1 | (refine FYL.setI ?_ rfl) | (refine FYL.setC ?_ rfl) | (refine FYL.row ?_ rfl) | (refine FYL.setR ?_ rfl) | (refine FYL.setRv ?_ (by first | assumption | (simp [yR_I, yR_row, yR_ne]; done)) rfl)))
    · first | exact u0 | (dsimp only; simp [u0, u1, u2, yI_same, yI_ne, yI_c, yR_I, yI_row, yR_row, yI_R, yR_ne, yR_same, yI_L, yR_L, vp_in, z_32]; done)
    · first | exact u1 | (dsimp only; simp [u0, u1, u2, yI_same, yI_ne, yI_c, yR_I, yI_row, yR_row, yI_R, yR_ne, yR_same, yI_L, yR_L, vp_in, z_32]; done)
    · first | exact u2 | (dsimp only; simp [u0, u1, u2, yI_same, yI_ne, yI_c, yR_I, yI_row, yR_row, yI_R, yR_ne, yR_same, yI_L, yR_L, vp_in, z_32]; done)
  obtain ⟨h9, t9, Y9⟩ : ∃ h', XT l 9 400 false 5 153 6051 5 [xf 10008 64, xi 2, xi 7, xi 8] [] h8 5 [xf 10008 64, xi 2, xi 8, xi 8] [] h' ∧ Y0 h' a d c := by
    obtain ⟨-, u0, u1, u2⟩ := id Y8
    refine ⟨_, XT_path (inl := []) (n' := 14) (sp := [5]) (o := [0]) rfl rfl ?_ rfl ⟨Nat.le_of_eq Y8.1.2.2.1, Nat.le_of_eq Y8.1.2.2.2⟩ ?_, ?_, ?_, ?_, ?_⟩
    · refine ⟨rfl, ?_, ?_⟩ <;> first | rfl | (dsimp only; simp [u0, u1, u2, yI_same, yI_ne, yI_c, yR_I, yI_row, yR_row, yI_R, yR_ne, yR_same, yI_L, yR_L, vp_in, z_32] <;> rfl)
    · first | trivial | (dsimp only; simp [u0, u1, u2, yI_same, yI_ne, yI_c, yR_I, yI_row, yR_row, yI_R, yR_ne, yR_same, yI_L, yR_L, vp_in, z_32]; done)
    · dsimp only
      (repeat (first | exact Y8.1 | (refine FYL.setI ?_ rfl) | (refine FYL.setC ?_ rfl) | (refine FYL.row ?_ rfl) | (refine FYL.setR ?_ rfl) | (refine FYL.setRv ?_ (by first | assumption | (simp [yR_I, yR_row, yR_ne]; done)) rfl)))
    · first | exact u0 | (dsimp only; simp [u0, u1, u2, yI_same, yI_ne, yI_c, yR_I, yI_row, yR_row, yI_R, yR_ne, yR_same, yI_L, yR_L, vp_in, z_32]; done)
    · first | exact u1 | (dsimp only; simp [u0, u1, u2, yI_same, yI_ne, yI_c, yR_I, yI_row, yR_row, yI_R, yR_ne, yR_same, yI_L, yR_L, vp_in, z_32]; done)
    · first | exact u2 | (dsimp only; simp [u0, u1, u2, yI_same, yI_ne, yI_c, yR_I, yI_row, yR_row, yI_R, yR_ne, yR_same, yI_L, yR_L, vp_in, z_32]; done)
  obtain ⟨h10, t10, Y10⟩ : ∃ h', XT l 9 400 false 5 153 6051 5 [xf 10008 64, xi 2, xi 8, xi 8] [] h9 20 [xf 10008 64, xi 2, xi 8, xi 8] [] h' ∧ Y0 h' a d c := by
    obtain ⟨-, u0, u1, u2⟩ := id Y9
    refine ⟨_, XT_path (inl := []) (n' := 8) (sp := [20]) (o := [1]) rfl rfl ?_ rfl ⟨Nat.le_of_eq Y9.1.2.2.1, Nat.le_of_eq Y9.1.2.2.2⟩ ?_, ?_, ?_, ?_, ?_⟩
    · refine ⟨rfl, ?_, ?_⟩ <;> first | rfl | (dsimp only; simp [u0, u1, u2, yI_same, yI_ne, yI_c, yR_I, yI_row, yR_row, yI_R, yR_ne, yR_same, yI_L, yR_L, vp_in, z_32] <;> rfl)
    · first | trivial | (dsimp only; simp [u0, u1, u2, yI_same, yI_ne, yI_c, yR_I, yI_row, yR_row, yI_R, yR_ne, yR_same, yI_L, yR_L, vp_in, z_32]; done)
    · dsimp only
      (repeat (first | exact Y9.1 | (refine FYL.setI ?_ rfl) | (refine FYL.setC ?_ rfl) | (refine FYL.row ?_ rfl) | (refine FYL.setR ?_ rfl) | (refine FYL.setRv ?_ (by first | assumption | (simp [yR_I, yR_row, yR_ne]; done)) rfl)))
    · first | exact u0 | (dsimp only; simp [u0, u1, u2, yI_same, yI_ne, yI_c, yR_I, yI_row, yR_row, yI_R, yR_ne, yR_same, yI_L, yR_L, vp_in, z_32]; done)
    · first | exact u1 | (dsimp only; simp [u0, u1, u2, yI_same, yI_ne, yI_c, yR_I, yI_row, yR_row, yI_R, yR_ne, yR_same, yI_L, yR_L, vp_in, z_32]; done)
    · first | exact u2 | (dsimp only; simp [u0, u1, u2, yI_same, yI_ne, yI_c, yR_I, yI_row, yR_row, yI_R, yR_ne, yR_same, yI_L, yR_L, vp_in, z_32]; done)
  exact ⟨h10, CX_ofT (by decide) rfl rfl trivial ⟨_, _, _, rfl, rfl, rfl⟩ rfl ⟨Nat.le_of_eq Y10.1.2.2.1.symm, Nat.le_of_eq Y10.1.2.2.2.symm⟩ (t1.tr (t2.tr (t3.tr (t4.tr (t5.tr (t6.tr (t7.tr (t8.tr (t9.tr t10))))))))), Y10⟩

set_option maxRecDepth 100000 in
set_option maxHeartbeats 1000000 in
theorem p1_tearN (l : Launch) (h : XH) (a d c : Int32) (Y : Y0 h a d c) : ∃ h', CX l 10 425 false 66 [xf 11 48] h [] h' ∧ Y0 h' a d c := by
  obtain ⟨h1, t1, Y1⟩ : ∃ h', XT l 10 425 false 66 153 6051 0 [xf 11 48, xun, xun, xun, xun] [] h 26 [xf 11 48, xi 2, xun, xun, xun] [xi 0, xf 10006 55] h' ∧ Y0 h' a d c := by
    have r0 : xR h 48 0 = 3 := Y.1.1 (48, 0, 3) (by decide)
    have r1 : xR h 48 8 = 55 := Y.1.1 (48, 8, 55) (by decide)
    have k0 : xfk 11 0 = 8 := rfl
    have k1 : xfk 11 8 = 10006 := rfl
    have i0 : xI h 3 18 = 2 := Y.1.2.1 (3, 18, 2) (by decide)
    have i1 : xI h 48 10 = -1 := Y.1.2.1 (48, 10, -1) (by decide)
    obtain ⟨-, u0, u1, u2⟩ := id Y
    refine ⟨_, XT_path (inl := []) (n' := 16) (sp := [26]) (o := [1]) rfl rfl ?_ rfl ⟨Nat.le_of_eq Y.1.2.2.1, Nat.le_of_eq Y.1.2.2.2⟩ ?_, ?_, ?_, ?_, ?_⟩
    · refine ⟨rfl, ?_, ?_⟩ <;> first | rfl | (dsimp only; simp [r0, r1, k0, k1, i0, i1, u0, u1, u2, yI_same, yI_ne, yI_c, yR_I, yI_row, yR_row, yI_R, yR_ne, yR_same, yI_L, yR_L, vp_in, z_32] <;> rfl)
    · first | trivial | (dsimp only; simp [r0, r1, k0, k1, i0, i1, u0, u1, u2, yI_same, yI_ne, yI_c, yR_I, yI_row, yR_row, yI_R, yR_ne, yR_same, yI_L, yR_L, vp_in, z_32]; done)
    · dsimp only
      (repeat (first | exact Y.1 | (refine FYL.setI ?_ rfl) | (refine FYL.setC ?_ rfl) | (refine FYL.row ?_ rfl) | (refine FYL.setR ?_ rfl) | (refine FYL.setRv ?_ (by first | assumption | (simp [r0, r1, k0, k1, i0, i1, yR_I, yR_row, yR_ne]; done)) rfl)))
    · first | exact u0 | (dsimp only; simp [r0, r1, k0, k1, i0, i1, u0, u1, u2, yI_same, yI_ne, yI_c, yR_I, yI_row, yR_row, yI_R, yR_ne, yR_same, yI_L, yR_L, vp_in, z_32]; done)
    · first | exact u1 | (dsimp only; simp [r0, r1, k0, k1, i0, i1, u0, u1, u2, yI_same, yI_ne, yI_c, yR_I, yI_row, yR_row, yI_R, yR_ne, yR_same, yI_L, yR_L, vp_in, z_32]; done)
    · first | exact u2 | (dsimp only; simp [r0, r1, k0, k1, i0, i1, u0, u1, u2, yI_same, yI_ne, yI_c, yR_I, yI_row, yR_row, yI_R, yR_ne, yR_same, yI_L, yR_L, vp_in, z_32]; done)
  obtain ⟨h2, c2, Y2⟩ := p1_fill55 l h1 a d c Y1
  have t2 : XT l 10 425 false 66 153 6051 26 [xf 11 48, xi 2, xun, xun, xun] [xi 0, xf 10006 55] h1 29 [xf 11 48, xi 2, xun, xun, xun] [] h2 := XT_call rfl rfl rfl (vs := [xf 10006 55, xi 0]) (rest := []) rfl rfl rfl c2 (by decide) (by decide) (by decide) ⟨Nat.le_of_eq Y2.1.2.2.1, Nat.le_of_eq Y2.1.2.2.2⟩
  obtain ⟨h3, t3, Y3⟩ : ∃ h', XT l 10 425 false 66 153 6051 29 [xf 11 48, xi 2, xun, xun, xun] [] h2 132 [xf 11 48, xi 2, xi 0, xun, xun] [] h' ∧ Y0 h' a d c := by
    have r0 : xR h2 48 0 = 3 := Y2.1.1 (48, 0, 3) (by decide)
    have k0 : xfk 11 0 = 8 := rfl
    have i0 : xI h2 3 5 = 0 := Y2.1.2.1 (3, 5, 0) (by decide)
    obtain ⟨-, u0, u1, u2⟩ := id Y2
    refine ⟨_, XT_path (inl := []) (n' := 12) (sp := [132]) (o := [1]) rfl rfl ?_ rfl ⟨Nat.le_of_eq Y2.1.2.2.1, Nat.le_of_eq Y2.1.2.2.2⟩ ?_, ?_, ?_, ?_, ?_⟩
    · refine ⟨rfl, ?_, ?_⟩ <;> first | rfl | (dsimp only; simp [r0, k0, i0, u0, u1, u2, yI_same, yI_ne, yI_c, yR_I, yI_row, yR_row, yI_R, yR_ne, yR_same, yI_L, yR_L, vp_in, z_32] <;> rfl)
    · first | trivial | (dsimp only; simp [r0, k0, i0, u0, u1, u2, yI_same, yI_ne, yI_c, yR_I, yI_row, yR_row, yI_R, yR_ne, yR_same, yI_L, yR_L, vp_in, z_32]; done)
    · dsimp only
      (repeat (first | exact Y2.1 | (refine FYL.setI ?_ rfl) | (refine FYL.setC ?_ rfl) | (refine FYL.row ?_ rfl) | (refine FYL.setR ?_ rfl) | (refine FYL.setRv ?_ (by first | assumption | (simp [r0, k0, i0, yR_I, yR_row, yR_ne]; done)) rfl)))
    · first | exact u0 | (dsimp only; simp [r0, k0, i0, u0, u1, u2, yI_same, yI_ne, yI_c, yR_I, yI_row, yR_row, yI_R, yR_ne, yR_same, yI_L, yR_L, vp_in, z_32]; done)
    · first | exact u1 | (dsimp only; simp [r0, k0, i0, u0, u1, u2, yI_same, yI_ne, yI_c, yR_I, yI_row, yR_row, yI_R, yR_ne, yR_same, yI_L, yR_L, vp_in, z_32]; done)
    · first | exact u2 | (dsimp only; simp [r0, k0, i0, u0, u1, u2, yI_same, yI_ne, yI_c, yR_I, yI_row, yR_row, yI_R, yR_ne, yR_same, yI_L, yR_L, vp_in, z_32]; done)
  exact ⟨h3, CX_ofT (by decide) rfl rfl trivial ⟨_, _, _, rfl, rfl, rfl⟩ rfl ⟨Nat.le_of_eq Y3.1.2.2.1.symm, Nat.le_of_eq Y3.1.2.2.2.symm⟩ (t1.tr (t2.tr t3)), Y3⟩

set_option maxRecDepth 100000 in
set_option maxHeartbeats 1000000 in
theorem p1_stretchN (l : Launch) (h : XH) (a d c : Int32) (Y : Y0 h a d c) : ∃ h', CX l 11 450 false 99 [xf 11 48] h [xi 0] h' ∧ Y0 h' a d c := by
  obtain ⟨h1, t1, Y1⟩ : ∃ h', XT l 11 450 false 99 153 6051 0 [xf 11 48, xun, xun, xun] [] h 5 [xf 11 48, xun, xun, xun] [xi 0, xf 10006 57] h' ∧ Y0 h' a d c := by
    have r0 : xR h 48 12 = 57 := Y.1.1 (48, 12, 57) (by decide)
    have k0 : xfk 11 12 = 10006 := rfl
    obtain ⟨-, u0, u1, u2⟩ := id Y
    refine ⟨_, XT_path (inl := []) (n' := 8) (sp := [5]) (o := []) rfl rfl ?_ rfl ⟨Nat.le_of_eq Y.1.2.2.1, Nat.le_of_eq Y.1.2.2.2⟩ ?_, ?_, ?_, ?_, ?_⟩
    · refine ⟨rfl, ?_, ?_⟩ <;> first | rfl | (dsimp only; simp [r0, k0, u0, u1, u2, yI_same, yI_ne, yI_c, yR_I, yI_row, yR_row, yI_R, yR_ne, yR_same, yI_L, yR_L, vp_in, z_32] <;> rfl)
    · first | trivial | (dsimp only; simp [r0, k0, u0, u1, u2, yI_same, yI_ne, yI_c, yR_I, yI_row, yR_row, yI_R, yR_ne, yR_same, yI_L, yR_L, vp_in, z_32]; done)
    · dsimp only
      (repeat (first | exact Y.1 | (refine FYL.setI ?_ rfl) | (refine FYL.setC ?_ rfl) | (refine FYL.row ?_ rfl) | (refine FYL.setR ?_ rfl) | (refine FYL.setRv ?_ (by first | assumption | (simp [r0, k0, yR_I, yR_row, yR_ne]; done)) rfl)))
    · first | exact u0 | (dsimp only; simp [r0, k0, u0, u1, u2, yI_same, yI_ne, yI_c, yR_I, yI_row, yR_row, yI_R, yR_ne, yR_same, yI_L, yR_L, vp_in, z_32]; done)
    · first | exact u1 | (dsimp only; simp [r0, k0, u0, u1, u2, yI_same, yI_ne, yI_c, yR_I, yI_row, yR_row, yI_R, yR_ne, yR_same, yI_L, yR_L, vp_in, z_32]; done)
    · first | exact u2 | (dsimp only; simp [r0, k0, u0, u1, u2, yI_same, yI_ne, yI_c, yR_I, yI_row, yR_row, yI_R, yR_ne, yR_same, yI_L, yR_L, vp_in, z_32]; done)
  obtain ⟨h2, c2, Y2⟩ := p1_fill57 l h1 a d c Y1
  have t2 : XT l 11 450 false 99 153 6051 5 [xf 11 48, xun, xun, xun] [xi 0, xf 10006 57] h1 8 [xf 11 48, xun, xun, xun] [] h2 := XT_call rfl rfl rfl (vs := [xf 10006 57, xi 0]) (rest := []) rfl rfl rfl c2 (by decide) (by decide) (by decide) ⟨Nat.le_of_eq Y2.1.2.2.1, Nat.le_of_eq Y2.1.2.2.2⟩
  obtain ⟨h3, t3, Y3⟩ : ∃ h', XT l 11 450 false 99 153 6051 8 [xf 11 48, xun, xun, xun] [] h2 56 [xf 11 48, xi 0, xi 0, xun] [] h' ∧ Y0 h' a d c := by
    have r0 : xR h2 48 0 = 3 := Y2.1.1 (48, 0, 3) (by decide)
    have k0 : xfk 11 0 = 8 := rfl
    have i0 : xI h2 3 9 = 0 := Y2.1.2.1 (3, 9, 0) (by decide)
    obtain ⟨-, u0, u1, u2⟩ := id Y2
    refine ⟨_, XT_path (inl := []) (n' := 16) (sp := [56]) (o := [1]) rfl rfl ?_ rfl ⟨Nat.le_of_eq Y2.1.2.2.1, Nat.le_of_eq Y2.1.2.2.2⟩ ?_, ?_, ?_, ?_, ?_⟩
    · refine ⟨rfl, ?_, ?_⟩ <;> first | rfl | (dsimp only; simp [r0, k0, i0, u0, u1, u2, yI_same, yI_ne, yI_c, yR_I, yI_row, yR_row, yI_R, yR_ne, yR_same, yI_L, yR_L, vp_in, z_32] <;> rfl)
    · first | trivial | (dsimp only; simp [r0, k0, i0, u0, u1, u2, yI_same, yI_ne, yI_c, yR_I, yI_row, yR_row, yI_R, yR_ne, yR_same, yI_L, yR_L, vp_in, z_32]; done)
    · dsimp only
      (repeat (first | exact Y2.1 | (refine FYL.setI ?_ rfl) | (refine FYL.setC ?_ rfl) | (refine FYL.row ?_ rfl) | (refine FYL.setR ?_ rfl) | (refine FYL.setRv ?_ (by first | assumption | (simp [r0, k0, i0, yR_I, yR_row, yR_ne]; done)) rfl)))
    · first | exact u0 | (dsimp only; simp [r0, k0, i0, u0, u1, u2, yI_same, yI_ne, yI_c, yR_I, yI_row, yR_row, yI_R, yR_ne, yR_same, yI_L, yR_L, vp_in, z_32]; done)
    · first | exact u1 | (dsimp only; simp [r0, k0, i0, u0, u1, u2, yI_same, yI_ne, yI_c, yR_I, yI_row, yR_row, yI_R, yR_ne, yR_same, yI_L, yR_L, vp_in, z_32]; done)
    · first | exact u2 | (dsimp only; simp [r0, k0, i0, u0, u1, u2, yI_same, yI_ne, yI_c, yR_I, yI_row, yR_row, yI_R, yR_ne, yR_same, yI_L, yR_L, vp_in, z_32]; done)
  obtain ⟨h4, t4, Y4⟩ : ∃ h', XT l 11 450 false 99 153 6051 56 [xf 11 48, xi 0, xi 0, xun] [] h3 117 [xf 11 48, xi 0, xi 0, xun] [xf 11 48] h' ∧ Y0 h' a d c := by
    have r0 : xR h3 48 0 = 3 := Y3.1.1 (48, 0, 3) (by decide)
    have k0 : xfk 11 0 = 8 := rfl
    have i0 : xI h3 3 0 = 0 := Y3.1.2.1 (3, 0, 0) (by decide)
    obtain ⟨-, u0, u1, u2⟩ := id Y3
    refine ⟨_, XT_path (inl := []) (n' := 11) (sp := [117]) (o := [1]) rfl rfl ?_ rfl ⟨Nat.le_of_eq Y3.1.2.2.1, Nat.le_of_eq Y3.1.2.2.2⟩ ?_, ?_, ?_, ?_, ?_⟩
    · refine ⟨rfl, ?_, ?_⟩ <;> first | rfl | (dsimp only; simp [r0, k0, i0, u0, u1, u2, yI_same, yI_ne, yI_c, yR_I, yI_row, yR_row, yI_R, yR_ne, yR_same, yI_L, yR_L, vp_in, z_32] <;> rfl)
    · first | trivial | (dsimp only; simp [r0, k0, i0, u0, u1, u2, yI_same, yI_ne, yI_c, yR_I, yI_row, yR_row, yI_R, yR_ne, yR_same, yI_L, yR_L, vp_in, z_32]; done)
    · dsimp only
      (repeat (first | exact Y3.1 | (refine FYL.setI ?_ rfl) | (refine FYL.setC ?_ rfl) | (refine FYL.row ?_ rfl) | (refine FYL.setR ?_ rfl) | (refine FYL.setRv ?_ (by first | assumption | (simp [r0, k0, i0, yR_I, yR_row, yR_ne]; done)) rfl)))
    · first | exact u0 | (dsimp only; simp [r0, k0, i0, u0, u1, u2, yI_same, yI_ne, yI_c, yR_I, yI_row, yR_row, yI_R, yR_ne, yR_same, yI_L, yR_L, vp_in, z_32]; done)
    · first | exact u1 | (dsimp only; simp [r0, k0, i0, u0, u1, u2, yI_same, yI_ne, yI_c, yR_I, yI_row, yR_row, yI_R, yR_ne, yR_same, yI_L, yR_L, vp_in, z_32]; done)
    · first | exact u2 | (dsimp only; simp [r0, k0, i0, u0, u1, u2, yI_same, yI_ne, yI_c, yR_I, yI_row, yR_row, yI_R, yR_ne, yR_same, yI_L, yR_L, vp_in, z_32]; done)
  obtain ⟨h5, c5, Y5⟩ := p1_tearN l h4 a d c Y4
  have t5 : XT l 11 450 false 99 153 6051 117 [xf 11 48, xi 0, xi 0, xun] [xf 11 48] h4 120 [xf 11 48, xi 0, xi 0, xun] [] h5 := XT_call rfl rfl rfl (vs := [xf 11 48]) (rest := []) rfl rfl rfl c5 (by decide) (by decide) (by decide) ⟨Nat.le_of_eq Y5.1.2.2.1, Nat.le_of_eq Y5.1.2.2.2⟩
  obtain ⟨h6, t6, Y6⟩ : ∃ h', XT l 11 450 false 99 153 6051 120 [xf 11 48, xi 0, xi 0, xun] [] h5 121 [xf 11 48, xi 0, xi 0, xun] [xi 0] h' ∧ Y0 h' a d c := by
    obtain ⟨-, u0, u1, u2⟩ := id Y5
    refine ⟨_, XT_path (inl := []) (n' := 6) (sp := [121]) (o := []) rfl rfl ?_ rfl ⟨Nat.le_of_eq Y5.1.2.2.1, Nat.le_of_eq Y5.1.2.2.2⟩ ?_, ?_, ?_, ?_, ?_⟩
    · refine ⟨rfl, ?_, ?_⟩ <;> first | rfl | (dsimp only; simp [u0, u1, u2, yI_same, yI_ne, yI_c, yR_I, yI_row, yR_row, yI_R, yR_ne, yR_same, yI_L, yR_L, vp_in, z_32] <;> rfl)
    · first | trivial | (dsimp only; simp [u0, u1, u2, yI_same, yI_ne, yI_c, yR_I, yI_row, yR_row, yI_R, yR_ne, yR_same, yI_L, yR_L, vp_in, z_32]; done)
    · dsimp only
      (repeat (first | exact Y5.1 | (refine FYL.setI ?_ rfl) | (refine FYL.setC ?_ rfl) | (refine FYL.row ?_ rfl) | (refine FYL.setR ?_ rfl) | (refine FYL.setRv ?_ (by first | assumption | (simp [yR_I, yR_row, yR_ne]; done)) rfl)))
    · first | exact u0 | (dsimp only; simp [u0, u1, u2, yI_same, yI_ne, yI_c, yR_I, yI_row, yR_row, yI_R, yR_ne, yR_same, yI_L, yR_L, vp_in, z_32]; done)
    · first | exact u1 | (dsimp only; simp [u0, u1, u2, yI_same, yI_ne, yI_c, yR_I, yI_row, yR_row, yI_R, yR_ne, yR_same, yI_L, yR_L, vp_in, z_32]; done)
    · first | exact u2 | (dsimp only; simp [u0, u1, u2, yI_same, yI_ne, yI_c, yR_I, yI_row, yR_row, yI_R, yR_ne, yR_same, yI_L, yR_L, vp_in, z_32]; done)
  exact ⟨h6, CX_ofT (by decide) rfl rfl ⟨trivial, Or.inl rfl⟩ ⟨_, _, _, rfl, rfl, rfl⟩ rfl ⟨Nat.le_of_eq Y6.1.2.2.1.symm, Nat.le_of_eq Y6.1.2.2.2.symm⟩ (t1.tr (t2.tr (t3.tr (t4.tr (t5.tr t6))))), Y6⟩

set_option maxRecDepth 100000 in
set_option maxHeartbeats 1000000 in
theorem p1_reapN (l : Launch) (h : XH) (a d c : Int32) (Y : Y0 h a d c) : ∃ h', CX l 11 450 false 101 [xf 11 48] h [] h' ∧ Y0 h' a d c := by
  obtain ⟨h1, t1, Y1⟩ : ∃ h', XT l 11 450 false 101 153 6051 0 [xf 11 48, xun] [] h 35 [xf 11 48, xi 0] [] h' ∧ Y0 h' a d c := by
    have r0 : xR h 48 0 = 3 := Y.1.1 (48, 0, 3) (by decide)
    have k0 : xfk 11 0 = 8 := rfl
    have i0 : xI h 3 0 = 0 := Y.1.2.1 (3, 0, 0) (by decide)
    obtain ⟨-, u0, u1, u2⟩ := id Y
    refine ⟨_, XT_path (inl := []) (n' := 14) (sp := [35]) (o := [1]) rfl rfl ?_ rfl ⟨Nat.le_of_eq Y.1.2.2.1, Nat.le_of_eq Y.1.2.2.2⟩ ?_, ?_, ?_, ?_, ?_⟩
    · refine ⟨rfl, ?_, ?_⟩ <;> first | rfl | (dsimp only; simp [r0, k0, i0, u0, u1, u2, yI_same, yI_ne, yI_c, yR_I, yI_row, yR_row, yI_R, yR_ne, yR_same, yI_L, yR_L, vp_in, z_32] <;> rfl)
    · first | trivial | (dsimp only; simp [r0, k0, i0, u0, u1, u2, yI_same, yI_ne, yI_c, yR_I, yI_row, yR_row, yI_R, yR_ne, yR_same, yI_L, yR_L, vp_in, z_32]; done)
    · dsimp only
      (repeat (first | exact Y.1 | (refine FYL.setI ?_ rfl) | (refine FYL.setC ?_ rfl) | (refine FYL.row ?_ rfl) | (refine FYL.setR ?_ rfl) | (refine FYL.setRv ?_ (by first | assumption | (simp [r0, k0, i0, yR_I, yR_row, yR_ne]; done)) rfl)))
    · first | exact u0 | (dsimp only; simp [r0, k0, i0, u0, u1, u2, yI_same, yI_ne, yI_c, yR_I, yI_row, yR_row, yI_R, yR_ne, yR_same, yI_L, yR_L, vp_in, z_32]; done)
    · first | exact u1 | (dsimp only; simp [r0, k0, i0, u0, u1, u2, yI_same, yI_ne, yI_c, yR_I, yI_row, yR_row, yI_R, yR_ne, yR_same, yI_L, yR_L, vp_in, z_32]; done)
    · first | exact u2 | (dsimp only; simp [r0, k0, i0, u0, u1, u2, yI_same, yI_ne, yI_c, yR_I, yI_row, yR_row, yI_R, yR_ne, yR_same, yI_L, yR_L, vp_in, z_32]; done)
  obtain ⟨h2, t2, Y2⟩ : ∃ h', XT l 11 450 false 101 153 6051 35 [xf 11 48, xi 0] [] h1 85 [xf 11 48, xi 0] [] h' ∧ Y0 h' a d c := by
    have r0 : xR h1 48 0 = 3 := Y1.1.1 (48, 0, 3) (by decide)
    have k0 : xfk 11 0 = 8 := rfl
    have i0 : xI h1 3 9 = 0 := Y1.1.2.1 (3, 9, 0) (by decide)
    obtain ⟨-, u0, u1, u2⟩ := id Y1
    refine ⟨_, XT_path (inl := []) (n' := 10) (sp := [85]) (o := [1]) rfl rfl ?_ rfl ⟨Nat.le_of_eq Y1.1.2.2.1, Nat.le_of_eq Y1.1.2.2.2⟩ ?_, ?_, ?_, ?_, ?_⟩
    · refine ⟨rfl, ?_, ?_⟩ <;> first | rfl | (dsimp only; simp [r0, k0, i0, u0, u1, u2, yI_same, yI_ne, yI_c, yR_I, yI_row, yR_row, yI_R, yR_ne, yR_same, yI_L, yR_L, vp_in, z_32] <;> rfl)
    · first | trivial | (dsimp only; simp [r0, k0, i0, u0, u1, u2, yI_same, yI_ne, yI_c, yR_I, yI_row, yR_row, yI_R, yR_ne, yR_same, yI_L, yR_L, vp_in, z_32]; done)
    · dsimp only
      (repeat (first | exact Y1.1 | (refine FYL.setI ?_ rfl) | (refine FYL.setC ?_ rfl) | (refine FYL.row ?_ rfl) | (refine FYL.setR ?_ rfl) | (refine FYL.setRv ?_ (by first | assumption | (simp [r0, k0, i0, yR_I, yR_row, yR_ne]; done)) rfl)))
    · first | exact u0 | (dsimp only; simp [r0, k0, i0, u0, u1, u2, yI_same, yI_ne, yI_c, yR_I, yI_row, yR_row, yI_R, yR_ne, yR_same, yI_L, yR_L, vp_in, z_32]; done)
    · first | exact u1 | (dsimp only; simp [r0, k0, i0, u0, u1, u2, yI_same, yI_ne, yI_c, yR_I, yI_row, yR_row, yI_R, yR_ne, yR_same, yI_L, yR_L, vp_in, z_32]; done)
    · first | exact u2 | (dsimp only; simp [r0, k0, i0, u0, u1, u2, yI_same, yI_ne, yI_c, yR_I, yI_row, yR_row, yI_R, yR_ne, yR_same, yI_L, yR_L, vp_in, z_32]; done)
  exact ⟨h2, CX_ofT (by decide) rfl rfl trivial ⟨_, _, _, rfl, rfl, rfl⟩ rfl ⟨Nat.le_of_eq Y2.1.2.2.1.symm, Nat.le_of_eq Y2.1.2.2.2.symm⟩ (t1.tr t2), Y2⟩

set_option maxRecDepth 100000 in
set_option maxHeartbeats 1000000 in
theorem p1_closeN (l : Launch) (h : XH) (a d c : Int32) (Y : Y0 h a d c) : ∃ h', CX l 11 450 false 102 [xf 11 48] h [] h' ∧ Y0 h' (a + 1) d c := by
  obtain ⟨h1, t1, Y1⟩ : ∃ h', XT l 11 450 false 102 153 6051 0 [xf 11 48] [] h 5 [xf 11 48] [xi 2, xf 10008 53] h' ∧ Y0 h' a d c := by
    have r0 : xR h 48 5 = 53 := Y.1.1 (48, 5, 53) (by decide)
    have k0 : xfk 11 5 = 10008 := rfl
    obtain ⟨-, u0, u1, u2⟩ := id Y
    refine ⟨_, XT_path (inl := []) (n' := 8) (sp := [5]) (o := []) rfl rfl ?_ rfl ⟨Nat.le_of_eq Y.1.2.2.1, Nat.le_of_eq Y.1.2.2.2⟩ ?_, ?_, ?_, ?_, ?_⟩
    · refine ⟨rfl, ?_, ?_⟩ <;> first | rfl | (dsimp only; simp [r0, k0, u0, u1, u2, yI_same, yI_ne, yI_c, yR_I, yI_row, yR_row, yI_R, yR_ne, yR_same, yI_L, yR_L, vp_in, z_32] <;> rfl)
    · first | trivial | (dsimp only; simp [r0, k0, u0, u1, u2, yI_same, yI_ne, yI_c, yR_I, yI_row, yR_row, yI_R, yR_ne, yR_same, yI_L, yR_L, vp_in, z_32]; done)
    · dsimp only
      (repeat (first | exact Y.1 | (refine FYL.setI ?_ rfl) | (refine FYL.setC ?_ rfl) | (refine FYL.row ?_ rfl) | (refine FYL.setR ?_ rfl) | (refine FYL.setRv ?_ (by first | assumption | (simp [r0, k0, yR_I, yR_row, yR_ne]; done)) rfl)))
    · first | exact u0 | (dsimp only; simp [r0, k0, u0, u1, u2, yI_same, yI_ne, yI_c, yR_I, yI_row, yR_row, yI_R, yR_ne, yR_same, yI_L, yR_L, vp_in, z_32]; done)
    · first | exact u1 | (dsimp only; simp [r0, k0, u0, u1, u2, yI_same, yI_ne, yI_c, yR_I, yI_row, yR_row, yI_R, yR_ne, yR_same, yI_L, yR_L, vp_in, z_32]; done)
    · first | exact u2 | (dsimp only; simp [r0, k0, u0, u1, u2, yI_same, yI_ne, yI_c, yR_I, yI_row, yR_row, yI_R, yR_ne, yR_same, yI_L, yR_L, vp_in, z_32]; done)
  obtain ⟨h2, c2, Y2⟩ := p1_fill53 l h1 a d c Y1
  have t2 : XT l 11 450 false 102 153 6051 5 [xf 11 48] [xi 2, xf 10008 53] h1 8 [xf 11 48] [] h2 := XT_call rfl rfl rfl (vs := [xf 10008 53, xi 2]) (rest := []) rfl rfl rfl c2 (by decide) (by decide) (by decide) ⟨Nat.le_of_eq Y2.1.2.2.1, Nat.le_of_eq Y2.1.2.2.2⟩
  obtain ⟨h3, t3, Y3⟩ : ∃ h', XT l 11 450 false 102 153 6051 8 [xf 11 48] [] h2 18 [xf 11 48] [] h' ∧ Y0 h' (a + 1) d c := by
    obtain ⟨-, u0, u1, u2⟩ := id Y2
    refine ⟨_, XT_path (inl := []) (n' := 11) (sp := [18]) (o := []) rfl rfl ?_ rfl ⟨Nat.le_of_eq Y2.1.2.2.1, Nat.le_of_eq Y2.1.2.2.2⟩ ?_, ?_, ?_, ?_, ?_⟩
    · refine ⟨rfl, ?_, ?_⟩ <;> first | rfl | (dsimp only; simp [u0, u1, u2, yI_same, yI_ne, yI_c, yR_I, yI_row, yR_row, yI_R, yR_ne, yR_same, yI_L, yR_L, vp_in, z_32] <;> rfl)
    · first | trivial | (dsimp only; simp [u0, u1, u2, yI_same, yI_ne, yI_c, yR_I, yI_row, yR_row, yI_R, yR_ne, yR_same, yI_L, yR_L, vp_in, z_32]; done)
    · dsimp only
      (repeat (first | exact Y2.1 | (refine FYL.setI ?_ rfl) | (refine FYL.setC ?_ rfl) | (refine FYL.row ?_ rfl) | (refine FYL.setR ?_ rfl) | (refine FYL.setRv ?_ (by first | assumption | (simp [yR_I, yR_row, yR_ne]; done)) rfl)))
    · first | exact u0 | (dsimp only; simp [u0, u1, u2, yI_same, yI_ne, yI_c, yR_I, yI_row, yR_row, yI_R, yR_ne, yR_same, yI_L, yR_L, vp_in, z_32]; done)
    · first | exact u1 | (dsimp only; simp [u0, u1, u2, yI_same, yI_ne, yI_c, yR_I, yI_row, yR_row, yI_R, yR_ne, yR_same, yI_L, yR_L, vp_in, z_32]; done)
    · first | exact u2 | (dsimp only; simp [u0, u1, u2, yI_same, yI_ne, yI_c, yR_I, yI_row, yR_row, yI_R, yR_ne, yR_same, yI_L, yR_L, vp_in, z_32]; done)
  exact ⟨h3, CX_ofT (by decide) rfl rfl trivial ⟨_, _, _, rfl, rfl, rfl⟩ rfl ⟨Nat.le_of_eq Y3.1.2.2.1.symm, Nat.le_of_eq Y3.1.2.2.2.symm⟩ (t1.tr (t2.tr t3)), Y3⟩

set_option maxRecDepth 100000 in
set_option maxHeartbeats 1000000 in
theorem p1_passN (l : Launch) (h : XH) (a d c : Int32) (Y : Y0 h a d c) : ∃ h', CX l 12 474 false 98 [xf 11 48] h [] h' ∧ Y0 h' (a + 1) d c := by
  obtain ⟨h1, t1, Y1⟩ : ∃ h', XT l 12 474 false 98 153 6051 0 [xf 11 48] [] h 1 [xf 11 48] [xf 11 48] h' ∧ Y0 h' a d c := by
    obtain ⟨-, u0, u1, u2⟩ := id Y
    refine ⟨_, XT_path (inl := []) (n' := 6) (sp := [1]) (o := []) rfl rfl ?_ rfl ⟨Nat.le_of_eq Y.1.2.2.1, Nat.le_of_eq Y.1.2.2.2⟩ ?_, ?_, ?_, ?_, ?_⟩
    · refine ⟨rfl, ?_, ?_⟩ <;> first | rfl | (dsimp only; simp [u0, u1, u2, yI_same, yI_ne, yI_c, yR_I, yI_row, yR_row, yI_R, yR_ne, yR_same, yI_L, yR_L, vp_in, z_32] <;> rfl)
    · first | trivial | (dsimp only; simp [u0, u1, u2, yI_same, yI_ne, yI_c, yR_I, yI_row, yR_row, yI_R, yR_ne, yR_same, yI_L, yR_L, vp_in, z_32]; done)
    · dsimp only
      (repeat (first | exact Y.1 | (refine FYL.setI ?_ rfl) | (refine FYL.setC ?_ rfl) | (refine FYL.row ?_ rfl) | (refine FYL.setR ?_ rfl) | (refine FYL.setRv ?_ (by first | assumption | (simp [yR_I, yR_row, yR_ne]; done)) rfl)))
    · first | exact u0 | (dsimp only; simp [u0, u1, u2, yI_same, yI_ne, yI_c, yR_I, yI_row, yR_row, yI_R, yR_ne, yR_same, yI_L, yR_L, vp_in, z_32]; done)
    · first | exact u1 | (dsimp only; simp [u0, u1, u2, yI_same, yI_ne, yI_c, yR_I, yI_row, yR_row, yI_R, yR_ne, yR_same, yI_L, yR_L, vp_in, z_32]; done)
    · first | exact u2 | (dsimp only; simp [u0, u1, u2, yI_same, yI_ne, yI_c, yR_I, yI_row, yR_row, yI_R, yR_ne, yR_same, yI_L, yR_L, vp_in, z_32]; done)
  obtain ⟨h2, c2, Y2⟩ := p1_stretchN l h1 a d c Y1
  have t2 : XT l 12 474 false 98 153 6051 1 [xf 11 48] [xf 11 48] h1 4 [xf 11 48] [xi 0] h2 := XT_call rfl rfl rfl (vs := [xf 11 48]) (rest := []) rfl rfl rfl c2 (by decide) (by decide) (by decide) ⟨Nat.le_of_eq Y2.1.2.2.1, Nat.le_of_eq Y2.1.2.2.2⟩
  obtain ⟨h3, t3, Y3⟩ : ∃ h', XT l 12 474 false 98 153 6051 4 [xf 11 48] [xi 0] h2 6 [xf 11 48] [xf 11 48] h' ∧ Y0 h' a d c := by
    obtain ⟨-, u0, u1, u2⟩ := id Y2
    refine ⟨_, XT_path (inl := []) (n' := 7) (sp := [6]) (o := []) rfl rfl ?_ rfl ⟨Nat.le_of_eq Y2.1.2.2.1, Nat.le_of_eq Y2.1.2.2.2⟩ ?_, ?_, ?_, ?_, ?_⟩
    · refine ⟨rfl, ?_, ?_⟩ <;> first | rfl | (dsimp only; simp [u0, u1, u2, yI_same, yI_ne, yI_c, yR_I, yI_row, yR_row, yI_R, yR_ne, yR_same, yI_L, yR_L, vp_in, z_32] <;> rfl)
    · first | trivial | (dsimp only; simp [u0, u1, u2, yI_same, yI_ne, yI_c, yR_I, yI_row, yR_row, yI_R, yR_ne, yR_same, yI_L, yR_L, vp_in, z_32]; done)
    · dsimp only
      (repeat (first | exact Y2.1 | (refine FYL.setI ?_ rfl) | (refine FYL.setC ?_ rfl) | (refine FYL.row ?_ rfl) | (refine FYL.setR ?_ rfl) | (refine FYL.setRv ?_ (by first | assumption | (simp [yR_I, yR_row, yR_ne]; done)) rfl)))
    · first | exact u0 | (dsimp only; simp [u0, u1, u2, yI_same, yI_ne, yI_c, yR_I, yI_row, yR_row, yI_R, yR_ne, yR_same, yI_L, yR_L, vp_in, z_32]; done)
    · first | exact u1 | (dsimp only; simp [u0, u1, u2, yI_same, yI_ne, yI_c, yR_I, yI_row, yR_row, yI_R, yR_ne, yR_same, yI_L, yR_L, vp_in, z_32]; done)
    · first | exact u2 | (dsimp only; simp [u0, u1, u2, yI_same, yI_ne, yI_c, yR_I, yI_row, yR_row, yI_R, yR_ne, yR_same, yI_L, yR_L, vp_in, z_32]; done)
  obtain ⟨h4, c4, Y4⟩ := p1_reapN l h3 a d c Y3
  have t4 : XT l 12 474 false 98 153 6051 6 [xf 11 48] [xf 11 48] h3 9 [xf 11 48] [] h4 := XT_call rfl rfl rfl (vs := [xf 11 48]) (rest := []) rfl rfl rfl c4 (by decide) (by decide) (by decide) ⟨Nat.le_of_eq Y4.1.2.2.1, Nat.le_of_eq Y4.1.2.2.2⟩
  obtain ⟨h5, t5, Y5⟩ : ∃ h', XT l 12 474 false 98 153 6051 9 [xf 11 48] [] h4 10 [xf 11 48] [xf 11 48] h' ∧ Y0 h' a d c := by
    obtain ⟨-, u0, u1, u2⟩ := id Y4
    refine ⟨_, XT_path (inl := []) (n' := 6) (sp := [10]) (o := []) rfl rfl ?_ rfl ⟨Nat.le_of_eq Y4.1.2.2.1, Nat.le_of_eq Y4.1.2.2.2⟩ ?_, ?_, ?_, ?_, ?_⟩
    · refine ⟨rfl, ?_, ?_⟩ <;> first | rfl | (dsimp only; simp [u0, u1, u2, yI_same, yI_ne, yI_c, yR_I, yI_row, yR_row, yI_R, yR_ne, yR_same, yI_L, yR_L, vp_in, z_32] <;> rfl)
    · first | trivial | (dsimp only; simp [u0, u1, u2, yI_same, yI_ne, yI_c, yR_I, yI_row, yR_row, yI_R, yR_ne, yR_same, yI_L, yR_L, vp_in, z_32]; done)
    · dsimp only
      (repeat (first | exact Y4.1 | (refine FYL.setI ?_ rfl) | (refine FYL.setC ?_ rfl) | (refine FYL.row ?_ rfl) | (refine FYL.setR ?_ rfl) | (refine FYL.setRv ?_ (by first | assumption | (simp [yR_I, yR_row, yR_ne]; done)) rfl)))
    · first | exact u0 | (dsimp only; simp [u0, u1, u2, yI_same, yI_ne, yI_c, yR_I, yI_row, yR_row, yI_R, yR_ne, yR_same, yI_L, yR_L, vp_in, z_32]; done)
    · first | exact u1 | (dsimp only; simp [u0, u1, u2, yI_same, yI_ne, yI_c, yR_I, yI_row, yR_row, yI_R, yR_ne, yR_same, yI_L, yR_L, vp_in, z_32]; done)
    · first | exact u2 | (dsimp only; simp [u0, u1, u2, yI_same, yI_ne, yI_c, yR_I, yI_row, yR_row, yI_R, yR_ne, yR_same, yI_L, yR_L, vp_in, z_32]; done)
  obtain ⟨h6, c6, Y6⟩ := p1_closeN l h5 a d c Y5
  have t6 : XT l 12 474 false 98 153 6051 10 [xf 11 48] [xf 11 48] h5 13 [xf 11 48] [] h6 := XT_call rfl rfl rfl (vs := [xf 11 48]) (rest := []) rfl rfl rfl c6 (by decide) (by decide) (by decide) ⟨Nat.le_of_eq Y6.1.2.2.1, Nat.le_of_eq Y6.1.2.2.2⟩
  exact ⟨h6, CX_ofT (by decide) rfl rfl trivial ⟨_, _, _, rfl, rfl, rfl⟩ rfl ⟨Nat.le_of_eq Y6.1.2.2.1.symm, Nat.le_of_eq Y6.1.2.2.2.symm⟩ (t1.tr (t2.tr (t3.tr (t4.tr (t5.tr t6))))), Y6⟩

set_option maxRecDepth 100000 in
set_option maxHeartbeats 1000000 in
theorem p1_tearT (l : Launch) (h : XH) (a d c : Int32) (Y : Y0 h a d c) (hc : ¬ c = 3) : ∃ h', CX l 10 425 false 66 [xf 11 59] h [] h' ∧ Y0 h' a d c := by
  obtain ⟨h1, t1, Y1⟩ : ∃ h', XT l 10 425 false 66 153 6051 0 [xf 11 59, xun, xun, xun, xun] [] h 26 [xf 11 59, xi 2, xun, xun, xun] [xi 0, xf 10006 66] h' ∧ Y0 h' a d c := by
    have r0 : xR h 59 0 = 3 := Y.1.1 (59, 0, 3) (by decide)
    have r1 : xR h 59 8 = 66 := Y.1.1 (59, 8, 66) (by decide)
    have k0 : xfk 11 0 = 8 := rfl
    have k1 : xfk 11 8 = 10006 := rfl
    have i0 : xI h 3 18 = 2 := Y.1.2.1 (3, 18, 2) (by decide)
    obtain ⟨-, u0, u1, u2⟩ := id Y
    refine ⟨_, XT_path (inl := []) (n' := 16) (sp := [26]) (o := [1]) rfl rfl ?_ rfl ⟨Nat.le_of_eq Y.1.2.2.1, Nat.le_of_eq Y.1.2.2.2⟩ ?_, ?_, ?_, ?_, ?_⟩
    · refine ⟨rfl, ?_, ?_⟩ <;> first | rfl | (dsimp only; simp [r0, r1, k0, k1, i0, u0, u1, u2, hc, yI_same, yI_ne, yI_c, yR_I, yI_row, yR_row, yI_R, yR_ne, yR_same, yI_L, yR_L, vp_in, z_32] <;> rfl)
    · first | trivial | (dsimp only; simp [r0, r1, k0, k1, i0, u0, u1, u2, hc, yI_same, yI_ne, yI_c, yR_I, yI_row, yR_row, yI_R, yR_ne, yR_same, yI_L, yR_L, vp_in, z_32]; done)
    · dsimp only
      (repeat (first | exact Y.1 | (refine FYL.setI ?_ rfl) | (refine FYL.setC ?_ rfl) | (refine FYL.row ?_ rfl) | (refine FYL.setR ?_ rfl) | (refine FYL.setRv ?_ (by first | assumption | (simp [r0, r1, k0, k1, i0, yR_I, yR_row, yR_ne]; done)) rfl)))
    · first | exact u0 | (dsimp only; simp [r0, r1, k0, k1, i0, u0, u1, u2, hc, yI_same, yI_ne, yI_c, yR_I, yI_row, yR_row, yI_R, yR_ne, yR_same, yI_L, yR_L, vp_in, z_32]; done)
    · first | exact u1 | (dsimp only; simp [r0, r1, k0, k1, i0, u0, u1, u2, hc, yI_same, yI_ne, yI_c, yR_I, yI_row, yR_row, yI_R, yR_ne, yR_same, yI_L, yR_L, vp_in, z_32]; done)
    · first | exact u2 | (dsimp only; simp [r0, r1, k0, k1, i0, u0, u1, u2, hc, yI_same, yI_ne, yI_c, yR_I, yI_row, yR_row, yI_R, yR_ne, yR_same, yI_L, yR_L, vp_in, z_32]; done)
  obtain ⟨h2, c2, Y2⟩ := p1_fill66 l h1 a d c Y1
  have t2 : XT l 10 425 false 66 153 6051 26 [xf 11 59, xi 2, xun, xun, xun] [xi 0, xf 10006 66] h1 29 [xf 11 59, xi 2, xun, xun, xun] [] h2 := XT_call rfl rfl rfl (vs := [xf 10006 66, xi 0]) (rest := []) rfl rfl rfl c2 (by decide) (by decide) (by decide) ⟨Nat.le_of_eq Y2.1.2.2.1, Nat.le_of_eq Y2.1.2.2.2⟩
  obtain ⟨h3, t3, Y3⟩ : ∃ h', XT l 10 425 false 66 153 6051 29 [xf 11 59, xi 2, xun, xun, xun] [] h2 132 [xf 11 59, xi 2, xi 0, xun, xun] [] h' ∧ Y0 h' a d c := by
    have r0 : xR h2 59 0 = 3 := Y2.1.1 (59, 0, 3) (by decide)
    have k0 : xfk 11 0 = 8 := rfl
    have i0 : xI h2 3 5 = 0 := Y2.1.2.1 (3, 5, 0) (by decide)
    obtain ⟨-, u0, u1, u2⟩ := id Y2
    refine ⟨_, XT_path (inl := []) (n' := 12) (sp := [132]) (o := [1]) rfl rfl ?_ rfl ⟨Nat.le_of_eq Y2.1.2.2.1, Nat.le_of_eq Y2.1.2.2.2⟩ ?_, ?_, ?_, ?_, ?_⟩
    · refine ⟨rfl, ?_, ?_⟩ <;> first | rfl | (dsimp only; simp [r0, k0, i0, u0, u1, u2, hc, yI_same, yI_ne, yI_c, yR_I, yI_row, yR_row, yI_R, yR_ne, yR_same, yI_L, yR_L, vp_in, z_32] <;> rfl)
    · first | trivial | (dsimp only; simp [r0, k0, i0, u0, u1, u2, hc, yI_same, yI_ne, yI_c, yR_I, yI_row, yR_row, yI_R, yR_ne, yR_same, yI_L, yR_L, vp_in, z_32]; done)
    · dsimp only
      (repeat (first | exact Y2.1 | (refine FYL.setI ?_ rfl) | (refine FYL.setC ?_ rfl) | (refine FYL.row ?_ rfl) | (refine FYL.setR ?_ rfl) | (refine FYL.setRv ?_ (by first | assumption | (simp [r0, k0, i0, yR_I, yR_row, yR_ne]; done)) rfl)))
    · first | exact u0 | (dsimp only; simp [r0, k0, i0, u0, u1, u2, hc, yI_same, yI_ne, yI_c, yR_I, yI_row, yR_row, yI_R, yR_ne, yR_same, yI_L, yR_L, vp_in, z_32]; done)
    · first | exact u1 | (dsimp only; simp [r0, k0, i0, u0, u1, u2, hc, yI_same, yI_ne, yI_c, yR_I, yI_row, yR_row, yI_R, yR_ne, yR_same, yI_L, yR_L, vp_in, z_32]; done)
    · first | exact u2 | (dsimp only; simp [r0, k0, i0, u0, u1, u2, hc, yI_same, yI_ne, yI_c, yR_I, yI_row, yR_row, yI_R, yR_ne, yR_same, yI_L, yR_L, vp_in, z_32]; done)
  exact ⟨h3, CX_ofT (by decide) rfl rfl trivial ⟨_, _, _, rfl, rfl, rfl⟩ rfl ⟨Nat.le_of_eq Y3.1.2.2.1.symm, Nat.le_of_eq Y3.1.2.2.2.symm⟩ (t1.tr (t2.tr t3)), Y3⟩

set_option maxRecDepth 100000 in
set_option maxHeartbeats 1000000 in
theorem p1_stretchT (l : Launch) (h : XH) (a d c : Int32) (Y : Y0 h a d c) (hc : ¬ c = 3) : ∃ h', CX l 11 450 false 99 [xf 11 59] h [xi 0] h' ∧ Y0 h' a d c := by
  obtain ⟨h1, t1, Y1⟩ : ∃ h', XT l 11 450 false 99 153 6051 0 [xf 11 59, xun, xun, xun] [] h 5 [xf 11 59, xun, xun, xun] [xi 0, xf 10006 68] h' ∧ Y0 h' a d c := by
    have r0 : xR h 59 12 = 68 := Y.1.1 (59, 12, 68) (by decide)
    have k0 : xfk 11 12 = 10006 := rfl
    obtain ⟨-, u0, u1, u2⟩ := id Y
    refine ⟨_, XT_path (inl := []) (n' := 8) (sp := [5]) (o := []) rfl rfl ?_ rfl ⟨Nat.le_of_eq Y.1.2.2.1, Nat.le_of_eq Y.1.2.2.2⟩ ?_, ?_, ?_, ?_, ?_⟩
    · refine ⟨rfl, ?_, ?_⟩ <;> first | rfl | (dsimp only; simp [r0, k0, u0, u1, u2, hc, yI_same, yI_ne, yI_c, yR_I, yI_row, yR_row, yI_R, yR_ne, yR_same, yI_L, yR_L, vp_in, z_32] <;> rfl)
    · first | trivial | (dsimp only; simp [r0, k0, u0, u1, u2, hc, yI_same, yI_ne, yI_c, yR_I, yI_row, yR_row, yI_R, yR_ne, yR_same, yI_L, yR_L, vp_in, z_32]; done)
    · dsimp only
      (repeat (first | exact Y.1 | (refine FYL.setI ?_ rfl) | (refine FYL.setC ?_ rfl) | (refine FYL.row ?_ rfl) | (refine FYL.setR ?_ rfl) | (refine FYL.setRv ?_ (by first | assumption | (simp [r0, k0, yR_I, yR_row, yR_ne]; done)) rfl)))
    · first | exact u0 | (dsimp only; simp [r0, k0, u0, u1, u2, hc, yI_same, yI_ne, yI_c, yR_I, yI_row, yR_row, yI_R, yR_ne, yR_same, yI_L, yR_L, vp_in, z_32]; done)
    · first | exact u1 | (dsimp only; simp [r0, k0, u0, u1, u2, hc, yI_same, yI_ne, yI_c, yR_I, yI_row, yR_row, yI_R, yR_ne, yR_same, yI_L, yR_L, vp_in, z_32]; done)
    · first | exact u2 | (dsimp only; simp [r0, k0, u0, u1, u2, hc, yI_same, yI_ne, yI_c, yR_I, yI_row, yR_row, yI_R, yR_ne, yR_same, yI_L, yR_L, vp_in, z_32]; done)
  obtain ⟨h2, c2, Y2⟩ := p1_fill68 l h1 a d c Y1
  have t2 : XT l 11 450 false 99 153 6051 5 [xf 11 59, xun, xun, xun] [xi 0, xf 10006 68] h1 8 [xf 11 59, xun, xun, xun] [] h2 := XT_call rfl rfl rfl (vs := [xf 10006 68, xi 0]) (rest := []) rfl rfl rfl c2 (by decide) (by decide) (by decide) ⟨Nat.le_of_eq Y2.1.2.2.1, Nat.le_of_eq Y2.1.2.2.2⟩
  obtain ⟨h3, t3, Y3⟩ : ∃ h', XT l 11 450 false 99 153 6051 8 [xf 11 59, xun, xun, xun] [] h2 56 [xf 11 59, xi 0, xi 0, xun] [] h' ∧ Y0 h' a d c := by
    have r0 : xR h2 59 0 = 3 := Y2.1.1 (59, 0, 3) (by decide)
    have k0 : xfk 11 0 = 8 := rfl
    have i0 : xI h2 3 9 = 0 := Y2.1.2.1 (3, 9, 0) (by decide)
    obtain ⟨-, u0, u1, u2⟩ := id Y2
    refine ⟨_, XT_path (inl := []) (n' := 16) (sp := [56]) (o := [1]) rfl rfl ?_ rfl ⟨Nat.le_of_eq Y2.1.2.2.1, Nat.le_of_eq Y2.1.2.2.2⟩ ?_, ?_, ?_, ?_, ?_⟩
    · refine ⟨rfl, ?_, ?_⟩ <;> first | rfl | (dsimp only; simp [r0, k0, i0, u0, u1, u2, hc, yI_same, yI_ne, yI_c, yR_I, yI_row, yR_row, yI_R, yR_ne, yR_same, yI_L, yR_L, vp_in, z_32] <;> rfl)
    · first | trivial | (dsimp only; simp [r0, k0, i0, u0, u1, u2, hc, yI_same, yI_ne, yI_c, yR_I, yI_row, yR_row, yI_R, yR_ne, yR_same, yI_L, yR_L, vp_in, z_32]; done)
    · dsimp only
      (repeat (first | exact Y2.1 | (refine FYL.setI ?_ rfl) | (refine FYL.setC ?_ rfl) | (refine FYL.row ?_ rfl) | (refine FYL.setR ?_ rfl) | (refine FYL.setRv ?_ (by first | assumption | (simp [r0, k0, i0, yR_I, yR_row, yR_ne]; done)) rfl)))
    · first | exact u0 | (dsimp only; simp [r0, k0, i0, u0, u1, u2, hc, yI_same, yI_ne, yI_c, yR_I, yI_row, yR_row, yI_R, yR_ne, yR_same, yI_L, yR_L, vp_in, z_32]; done)
    · first | exact u1 | (dsimp only; simp [r0, k0, i0, u0, u1, u2, hc, yI_same, yI_ne, yI_c, yR_I, yI_row, yR_row, yI_R, yR_ne, yR_same, yI_L, yR_L, vp_in, z_32]; done)
    · first | exact u2 | (dsimp only; simp [r0, k0, i0, u0, u1, u2, hc, yI_same, yI_ne, yI_c, yR_I, yI_row, yR_row, yI_R, yR_ne, yR_same, yI_L, yR_L, vp_in, z_32]; done)
  obtain ⟨h4, t4, Y4⟩ : ∃ h', XT l 11 450 false 99 153 6051 56 [xf 11 59, xi 0, xi 0, xun] [] h3 117 [xf 11 59, xi 0, xi 0, xun] [xf 11 59] h' ∧ Y0 h' a d c := by
    have r0 : xR h3 59 0 = 3 := Y3.1.1 (59, 0, 3) (by decide)
    have k0 : xfk 11 0 = 8 := rfl
    have i0 : xI h3 3 0 = 0 := Y3.1.2.1 (3, 0, 0) (by decide)
    obtain ⟨-, u0, u1, u2⟩ := id Y3
    refine ⟨_, XT_path (inl := []) (n' := 11) (sp := [117]) (o := [1]) rfl rfl ?_ rfl ⟨Nat.le_of_eq Y3.1.2.2.1, Nat.le_of_eq Y3.1.2.2.2⟩ ?_, ?_, ?_, ?_, ?_⟩
    · refine ⟨rfl, ?_, ?_⟩ <;> first | rfl | (dsimp only; simp [r0, k0, i0, u0, u1, u2, hc, yI_same, yI_ne, yI_c, yR_I, yI_row, yR_row, yI_R, yR_ne, yR_same, yI_L, yR_L, vp_in, z_32] <;> rfl)
    · first | trivial | (dsimp only; simp [r0, k0, i0, u0, u1, u2, hc, yI_same, yI_ne, yI_c, yR_I, yI_row, yR_row, yI_R, yR_ne, yR_same, yI_L, yR_L, vp_in, z_32]; done)
    · dsimp only
      (repeat (first | exact Y3.1 | (refine FYL.setI ?_ rfl) | (refine FYL.setC ?_ rfl) | (refine FYL.row ?_ rfl) | (refine FYL.setR ?_ rfl) | (refine FYL.setRv ?_ (by first | assumption | (simp [r0, k0, i0, yR_I, yR_row, yR_ne]; done)) rfl)))
    · first | exact u0 | (dsimp only; simp [r0, k0, i0, u0, u1, u2, hc, yI_same, yI_ne, yI_c, yR_I, yI_row, yR_row, yI_R, yR_ne, yR_same, yI_L, yR_L, vp_in, z_32]; done)
    · first | exact u1 | (dsimp only; simp [r0, k0, i0, u0, u1, u2, hc, yI_same, yI_ne, yI_c, yR_I, yI_row, yR_row, yI_R, yR_ne, yR_same, yI_L, yR_L, vp_in, z_32]; done)
    · first | exact u2 | (dsimp only; simp [r0, k0, i0, u0, u1, u2, hc, yI_same, yI_ne, yI_c, yR_I, yI_row, yR_row, yI_R, yR_ne, yR_same, yI_L, yR_L, vp_in, z_32]; done)
  obtain ⟨h5, c5, Y5⟩ := p1_tearT l h4 a d c Y4 hc
  have t5 : XT l 11 450 false 99 153 6051 117 [xf 11 59, xi 0, xi 0, xun] [xf 11 59] h4 120 [xf 11 59, xi 0, xi 0, xun] [] h5 := XT_call rfl rfl rfl (vs := [xf 11 59]) (rest := []) rfl rfl rfl c5 (by decide) (by decide) (by decide) ⟨Nat.le_of_eq Y5.1.2.2.1, Nat.le_of_eq Y5.1.2.2.2⟩
  obtain ⟨h6, t6, Y6⟩ : ∃ h', XT l 11 450 false 99 153 6051 120 [xf 11 59, xi 0, xi 0, xun] [] h5 121 [xf 11 59, xi 0, xi 0, xun] [xi 0] h' ∧ Y0 h' a d c := by
    obtain ⟨-, u0, u1, u2⟩ := id Y5
    refine ⟨_, XT_path (inl := []) (n' := 6) (sp := [121]) (o := []) rfl rfl ?_ rfl ⟨Nat.le_of_eq Y5.1.2.2.1, Nat.le_of_eq Y5.1.2.2.2⟩ ?_, ?_, ?_, ?_, ?_⟩
    · refine ⟨rfl, ?_, ?_⟩ <;> first | rfl | (dsimp only; simp [u0, u1, u2, hc, yI_same, yI_ne, yI_c, yR_I, yI_row, yR_row, yI_R, yR_ne, yR_same, yI_L, yR_L, vp_in, z_32] <;> rfl)
    · first | trivial | (dsimp only; simp [u0, u1, u2, hc, yI_same, yI_ne, yI_c, yR_I, yI_row, yR_row, yI_R, yR_ne, yR_same, yI_L, yR_L, vp_in, z_32]; done)
    · dsimp only
      (repeat (first | exact Y5.1 | (refine FYL.setI ?_ rfl) | (refine FYL.setC ?_ rfl) | (refine FYL.row ?_ rfl) | (refine FYL.setR ?_ rfl) | (refine FYL.setRv ?_ (by first | assumption | (simp [yR_I, yR_row, yR_ne]; done)) rfl)))
    · first | exact u0 | (dsimp only; simp [u0, u1, u2, hc, yI_same, yI_ne, yI_c, yR_I, yI_row, yR_row, yI_R, yR_ne, yR_same, yI_L, yR_L, vp_in, z_32]; done)
    · first | exact u1 | (dsimp only; simp [u0, u1, u2, hc, yI_same, yI_ne, yI_c, yR_I, yI_row, yR_row, yI_R, yR_ne, yR_same, yI_L, yR_L, vp_in, z_32]; done)
    · first | exact u2 | (dsimp only; simp [u0, u1, u2, hc, yI_same, yI_ne, yI_c, yR_I, yI_row, yR_row, yI_R, yR_ne, yR_same, yI_L, yR_L, vp_in, z_32]; done)
  exact ⟨h6, CX_ofT (by decide) rfl rfl ⟨trivial, Or.inl rfl⟩ ⟨_, _, _, rfl, rfl, rfl⟩ rfl ⟨Nat.le_of_eq Y6.1.2.2.1.symm, Nat.le_of_eq Y6.1.2.2.2.symm⟩ (t1.tr (t2.tr (t3.tr (t4.tr (t5.tr t6))))), Y6⟩

set_option maxRecDepth 100000 in
set_option maxHeartbeats 1000000 in
theorem p1_reapT (l : Launch) (h : XH) (a d c : Int32) (Y : Y0 h a d c) : ∃ h', CX l 11 450 false 101 [xf 11 59] h [] h' ∧ Y0 h' a d c := by
  obtain ⟨h1, t1, Y1⟩ : ∃ h', XT l 11 450 false 101 153 6051 0 [xf 11 59, xun] [] h 35 [xf 11 59, xi 0] [] h' ∧ Y0 h' a d c := by
    have r0 : xR h 59 0 = 3 := Y.1.1 (59, 0, 3) (by decide)
    have k0 : xfk 11 0 = 8 := rfl
    have i0 : xI h 3 0 = 0 := Y.1.2.1 (3, 0, 0) (by decide)
    obtain ⟨-, u0, u1, u2⟩ := id Y
    refine ⟨_, XT_path (inl := []) (n' := 14) (sp := [35]) (o := [1]) rfl rfl ?_ rfl ⟨Nat.le_of_eq Y.1.2.2.1, Nat.le_of_eq Y.1.2.2.2⟩ ?_, ?_, ?_, ?_, ?_⟩
    · refine ⟨rfl, ?_, ?_⟩ <;> first | rfl | (dsimp only; simp [r0, k0, i0, u0, u1, u2, yI_same, yI_ne, yI_c, yR_I, yI_row, yR_row, yI_R, yR_ne, yR_same, yI_L, yR_L, vp_in, z_32] <;> rfl)
    · first | trivial | (dsimp only; simp [r0, k0, i0, u0, u1, u2, yI_same, yI_ne, yI_c, yR_I, yI_row, yR_row, yI_R, yR_ne, yR_same, yI_L, yR_L, vp_in, z_32]; done)
    · dsimp only
      (repeat (first | exact Y.1 | (refine FYL.setI ?_ rfl) | (refine FYL.setC ?_ rfl) | (refine FYL.row ?_ rfl) | (refine FYL.setR ?_ rfl) | (refine FYL.setRv ?_ (by first | assumption | (simp [r0, k0, i0, yR_I, yR_row, yR_ne]; done)) rfl)))
    · first | exact u0 | (dsimp only; simp [r0, k0, i0, u0, u1, u2, yI_same, yI_ne, yI_c, yR_I, yI_row, yR_row, yI_R, yR_ne, yR_same, yI_L, yR_L, vp_in, z_32]; done)
    · first | exact u1 | (dsimp only; simp [r0, k0, i0, u0, u1, u2, yI_same, yI_ne, yI_c, yR_I, yI_row, yR_row, yI_R, yR_ne, yR_same, yI_L, yR_L, vp_in, z_32]; done)
    · first | exact u2 | (dsimp only; simp [r0, k0, i0, u0, u1, u2, yI_same, yI_ne, yI_c, yR_I, yI_row, yR_row, yI_R, yR_ne, yR_same, yI_L, yR_L, vp_in, z_32]; done)
  obtain ⟨h2, t2, Y2⟩ : ∃ h', XT l 11 450 false 101 153 6051 35 [xf 11 59, xi 0] [] h1 85 [xf 11 59, xi 0] [] h' ∧ Y0 h' a d c := by
    have r0 : xR h1 59 0 = 3 := Y1.1.1 (59, 0, 3) (by decide)
    have k0 : xfk 11 0 = 8 := rfl
    have i0 : xI h1 3 9 = 0 := Y1.1.2.1 (3, 9, 0) (by decide)
    obtain ⟨-, u0, u1, u2⟩ := id Y1
    refine ⟨_, XT_path (inl := []) (n' := 10) (sp := [85]) (o := [1]) rfl rfl ?_ rfl ⟨Nat.le_of_eq Y1.1.2.2.1, Nat.le_of_eq Y1.1.2.2.2⟩ ?_, ?_, ?_, ?_, ?_⟩
    · refine ⟨rfl, ?_, ?_⟩ <;> first | rfl | (dsimp only; simp [r0, k0, i0, u0, u1, u2, yI_same, yI_ne, yI_c, yR_I, yI_row, yR_row, yI_R, yR_ne, yR_same, yI_L, yR_L, vp_in, z_32] <;> rfl)
    · first | trivial | (dsimp only; simp [r0, k0, i0, u0, u1, u2, yI_same, yI_ne, yI_c, yR_I, yI_row, yR_row, yI_R, yR_ne, yR_same, yI_L, yR_L, vp_in, z_32]; done)
    · dsimp only
      (repeat (first | exact Y1.1 | (refine FYL.setI ?_ rfl) | (refine FYL.setC ?_ rfl) | (refine FYL.row ?_ rfl) | (refine FYL.setR ?_ rfl) | (refine FYL.setRv ?_ (by first | assumption | (simp [r0, k0, i0, yR_I, yR_row, yR_ne]; done)) rfl)))
    · first | exact u0 | (dsimp only; simp [r0, k0, i0, u0, u1, u2, yI_same, yI_ne, yI_c, yR_I, yI_row, yR_row, yI_R, yR_ne, yR_same, yI_L, yR_L, vp_in, z_32]; done)
    · first | exact u1 | (dsimp only; simp [r0, k0, i0, u0, u1, u2, yI_same, yI_ne, yI_c, yR_I, yI_row, yR_row, yI_R, yR_ne, yR_same, yI_L, yR_L, vp_in, z_32]; done)
    · first | exact u2 | (dsimp only; simp [r0, k0, i0, u0, u1, u2, yI_same, yI_ne, yI_c, yR_I, yI_row, yR_row, yI_R, yR_ne, yR_same, yI_L, yR_L, vp_in, z_32]; done)
  exact ⟨h2, CX_ofT (by decide) rfl rfl trivial ⟨_, _, _, rfl, rfl, rfl⟩ rfl ⟨Nat.le_of_eq Y2.1.2.2.1.symm, Nat.le_of_eq Y2.1.2.2.2.symm⟩ (t1.tr t2), Y2⟩

set_option maxRecDepth 100000 in
set_option maxHeartbeats 1000000 in
theorem p1_closeT (l : Launch) (h : XH) (a d c : Int32) (Y : Y0 h a d c) : ∃ h', CX l 11 450 false 102 [xf 11 59] h [] h' ∧ Y0 h' a d c := by
  obtain ⟨h1, t1, Y1⟩ : ∃ h', XT l 11 450 false 102 153 6051 0 [xf 11 59] [] h 5 [xf 11 59] [xi 2, xf 10008 64] h' ∧ Y0 h' a d c := by
    have r0 : xR h 59 5 = 64 := Y.1.1 (59, 5, 64) (by decide)
    have k0 : xfk 11 5 = 10008 := rfl
    obtain ⟨-, u0, u1, u2⟩ := id Y
    refine ⟨_, XT_path (inl := []) (n' := 8) (sp := [5]) (o := []) rfl rfl ?_ rfl ⟨Nat.le_of_eq Y.1.2.2.1, Nat.le_of_eq Y.1.2.2.2⟩ ?_, ?_, ?_, ?_, ?_⟩
    · refine ⟨rfl, ?_, ?_⟩ <;> first | rfl | (dsimp only; simp [r0, k0, u0, u1, u2, yI_same, yI_ne, yI_c, yR_I, yI_row, yR_row, yI_R, yR_ne, yR_same, yI_L, yR_L, vp_in, z_32] <;> rfl)
    · first | trivial | (dsimp only; simp [r0, k0, u0, u1, u2, yI_same, yI_ne, yI_c, yR_I, yI_row, yR_row, yI_R, yR_ne, yR_same, yI_L, yR_L, vp_in, z_32]; done)
    · dsimp only
      (repeat (first | exact Y.1 | (refine FYL.setI ?_ rfl) | (refine FYL.setC ?_ rfl) | (refine FYL.row ?_ rfl) | (refine FYL.setR ?_ rfl) | (refine FYL.setRv ?_ (by first | assumption | (simp [r0, k0, yR_I, yR_row, yR_ne]; done)) rfl)))
    · first | exact u0 | (dsimp only; simp [r0, k0, u0, u1, u2, yI_same, yI_ne, yI_c, yR_I, yI_row, yR_row, yI_R, yR_ne, yR_same, yI_L, yR_L, vp_in, z_32]; done)
    · first | exact u1 | (dsimp only; simp [r0, k0, u0, u1, u2, yI_same, yI_ne, yI_c, yR_I, yI_row, yR_row, yI_R, yR_ne, yR_same, yI_L, yR_L, vp_in, z_32]; done)
    · first | exact u2 | (dsimp only; simp [r0, k0, u0, u1, u2, yI_same, yI_ne, yI_c, yR_I, yI_row, yR_row, yI_R, yR_ne, yR_same, yI_L, yR_L, vp_in, z_32]; done)
  obtain ⟨h2, c2, Y2⟩ := p1_fill64 l h1 a d c Y1
  have t2 : XT l 11 450 false 102 153 6051 5 [xf 11 59] [xi 2, xf 10008 64] h1 8 [xf 11 59] [] h2 := XT_call rfl rfl rfl (vs := [xf 10008 64, xi 2]) (rest := []) rfl rfl rfl c2 (by decide) (by decide) (by decide) ⟨Nat.le_of_eq Y2.1.2.2.1, Nat.le_of_eq Y2.1.2.2.2⟩
  obtain ⟨h3, t3, Y3⟩ : ∃ h', XT l 11 450 false 102 153 6051 8 [xf 11 59] [] h2 18 [xf 11 59] [] h' ∧ Y0 h' a d c := by
    obtain ⟨-, u0, u1, u2⟩ := id Y2
    refine ⟨_, XT_path (inl := []) (n' := 11) (sp := [18]) (o := []) rfl rfl ?_ rfl ⟨Nat.le_of_eq Y2.1.2.2.1, Nat.le_of_eq Y2.1.2.2.2⟩ ?_, ?_, ?_, ?_, ?_⟩
    · refine ⟨rfl, ?_, ?_⟩ <;> first | rfl | (dsimp only; simp [u0, u1, u2, yI_same, yI_ne, yI_c, yR_I, yI_row, yR_row, yI_R, yR_ne, yR_same, yI_L, yR_L, vp_in, z_32] <;> rfl)
    · first | trivial | (dsimp only; simp [u0, u1, u2, yI_same, yI_ne, yI_c, yR_I, yI_row, yR_row, yI_R, yR_ne, yR_same, yI_L, yR_L, vp_in, z_32]; done)
    · dsimp only
      (repeat (first | exact Y2.1 | (refine FYL.setI ?_ rfl) | (refine FYL.setC ?_ rfl) | (refine FYL.row ?_ rfl) | (refine FYL.setR ?_ rfl) | (refine FYL.setRv ?_ (by first | assumption | (simp [yR_I, yR_row, yR_ne]; done)) rfl)))
    · first | exact u0 | (dsimp only; simp [u0, u1, u2, yI_same, yI_ne, yI_c, yR_I, yI_row, yR_row, yI_R, yR_ne, yR_same, yI_L, yR_L, vp_in, z_32]; done)
    · first | exact u1 | (dsimp only; simp [u0, u1, u2, yI_same, yI_ne, yI_c, yR_I, yI_row, yR_row, yI_R, yR_ne, yR_same, yI_L, yR_L, vp_in, z_32]; done)
    · first | exact u2 | (dsimp only; simp [u0, u1, u2, yI_same, yI_ne, yI_c, yR_I, yI_row, yR_row, yI_R, yR_ne, yR_same, yI_L, yR_L, vp_in, z_32]; done)
  exact ⟨h3, CX_ofT (by decide) rfl rfl trivial ⟨_, _, _, rfl, rfl, rfl⟩ rfl ⟨Nat.le_of_eq Y3.1.2.2.1.symm, Nat.le_of_eq Y3.1.2.2.2.symm⟩ (t1.tr (t2.tr t3)), Y3⟩

set_option maxRecDepth 100000 in
set_option maxHeartbeats 1000000 in
theorem p1_passT (l : Launch) (h : XH) (a d c : Int32) (Y : Y0 h a d c) (hc : ¬ c = 3) : ∃ h', CX l 12 474 false 98 [xf 11 59] h [] h' ∧ Y0 h' a d c := by
  obtain ⟨h1, t1, Y1⟩ : ∃ h', XT l 12 474 false 98 153 6051 0 [xf 11 59] [] h 1 [xf 11 59] [xf 11 59] h' ∧ Y0 h' a d c := by
    obtain ⟨-, u0, u1, u2⟩ := id Y
    refine ⟨_, XT_path (inl := []) (n' := 6) (sp := [1]) (o := []) rfl rfl ?_ rfl ⟨Nat.le_of_eq Y.1.2.2.1, Nat.le_of_eq Y.1.2.2.2⟩ ?_, ?_, ?_, ?_, ?_⟩
    · refine ⟨rfl, ?_, ?_⟩ <;> first | rfl | (dsimp only; simp [u0, u1, u2, hc, yI_same, yI_ne, yI_c, yR_I, yI_row, yR_row, yI_R, yR_ne, yR_same, yI_L, yR_L, vp_in, z_32] <;> rfl)
    · first | trivial | (dsimp only; simp [u0, u1, u2, hc, yI_same, yI_ne, yI_c, yR_I, yI_row, yR_row, yI_R, yR_ne, yR_same, yI_L, yR_L, vp_in, z_32]; done)
    · dsimp only
      (repeat (first | exact Y.1 | (refine FYL.setI ?_ rfl) | (refine FYL.setC ?_ rfl) | (refine FYL.row ?_ rfl) | (refine FYL.setR ?_ rfl) | (refine FYL.setRv ?_ (by first | assumption | (simp [yR_I, yR_row, yR_ne]; done)) rfl)))
    · first | exact u0 | (dsimp only; simp [u0, u1, u2, hc, yI_same, yI_ne, yI_c, yR_I, yI_row, yR_row, yI_R, yR_ne, yR_same, yI_L, yR_L, vp_in, z_32]; done)
    · first | exact u1 | (dsimp only; simp [u0, u1, u2, hc, yI_same, yI_ne, yI_c, yR_I, yI_row, yR_row, yI_R, yR_ne, yR_same, yI_L, yR_L, vp_in, z_32]; done)
    · first | exact u2 | (dsimp only; simp [u0, u1, u2, hc, yI_same, yI_ne, yI_c, yR_I, yI_row, yR_row, yI_R, yR_ne, yR_same, yI_L, yR_L, vp_in, z_32]; done)
  obtain ⟨h2, c2, Y2⟩ := p1_stretchT l h1 a d c Y1 hc
  have t2 : XT l 12 474 false 98 153 6051 1 [xf 11 59] [xf 11 59] h1 4 [xf 11 59] [xi 0] h2 := XT_call rfl rfl rfl (vs := [xf 11 59]) (rest := []) rfl rfl rfl c2 (by decide) (by decide) (by decide) ⟨Nat.le_of_eq Y2.1.2.2.1, Nat.le_of_eq Y2.1.2.2.2⟩
  obtain ⟨h3, t3, Y3⟩ : ∃ h', XT l 12 474 false 98 153 6051 4 [xf 11 59] [xi 0] h2 6 [xf 11 59] [xf 11 59] h' ∧ Y0 h' a d c := by
    obtain ⟨-, u0, u1, u2⟩ := id Y2
    refine ⟨_, XT_path (inl := []) (n' := 7) (sp := [6]) (o := []) rfl rfl ?_ rfl ⟨Nat.le_of_eq Y2.1.2.2.1, Nat.le_of_eq Y2.1.2.2.2⟩ ?_, ?_, ?_, ?_, ?_⟩
    · refine ⟨rfl, ?_, ?_⟩ <;> first | rfl | (dsimp only; simp [u0, u1, u2, hc, yI_same, yI_ne, yI_c, yR_I, yI_row, yR_row, yI_R, yR_ne, yR_same, yI_L, yR_L, vp_in, z_32] <;> rfl)
    · first | trivial | (dsimp only; simp [u0, u1, u2, hc, yI_same, yI_ne, yI_c, yR_I, yI_row, yR_row, yI_R, yR_ne, yR_same, yI_L, yR_L, vp_in, z_32]; done)
    · dsimp only
      (repeat (first | exact Y2.1 | (refine FYL.setI ?_ rfl) | (refine FYL.setC ?_ rfl) | (refine FYL.row ?_ rfl) | (refine FYL.setR ?_ rfl) | (refine FYL.setRv ?_ (by first | assumption | (simp [yR_I, yR_row, yR_ne]; done)) rfl)))
    · first | exact u0 | (dsimp only; simp [u0, u1, u2, hc, yI_same, yI_ne, yI_c, yR_I, yI_row, yR_row, yI_R, yR_ne, yR_same, yI_L, yR_L, vp_in, z_32]; done)
    · first | exact u1 | (dsimp only; simp [u0, u1, u2, hc, yI_same, yI_ne, yI_c, yR_I, yI_row, yR_row, yI_R, yR_ne, yR_same, yI_L, yR_L, vp_in, z_32]; done)
    · first | exact u2 | (dsimp only; simp [u0, u1, u2, hc, yI_same, yI_ne, yI_c, yR_I, yI_row, yR_row, yI_R, yR_ne, yR_same, yI_L, yR_L, vp_in, z_32]; done)
  obtain ⟨h4, c4, Y4⟩ := p1_reapT l h3 a d c Y3
  have t4 : XT l 12 474 false 98 153 6051 6 [xf 11 59] [xf 11 59] h3 9 [xf 11 59] [] h4 := XT_call rfl rfl rfl (vs := [xf 11 59]) (rest := []) rfl rfl rfl c4 (by decide) (by decide) (by decide) ⟨Nat.le_of_eq Y4.1.2.2.1, Nat.le_of_eq Y4.1.2.2.2⟩
  obtain ⟨h5, t5, Y5⟩ : ∃ h', XT l 12 474 false 98 153 6051 9 [xf 11 59] [] h4 10 [xf 11 59] [xf 11 59] h' ∧ Y0 h' a d c := by
    obtain ⟨-, u0, u1, u2⟩ := id Y4
    refine ⟨_, XT_path (inl := []) (n' := 6) (sp := [10]) (o := []) rfl rfl ?_ rfl ⟨Nat.le_of_eq Y4.1.2.2.1, Nat.le_of_eq Y4.1.2.2.2⟩ ?_, ?_, ?_, ?_, ?_⟩
    · refine ⟨rfl, ?_, ?_⟩ <;> first | rfl | (dsimp only; simp [u0, u1, u2, hc, yI_same, yI_ne, yI_c, yR_I, yI_row, yR_row, yI_R, yR_ne, yR_same, yI_L, yR_L, vp_in, z_32] <;> rfl)
    · first | trivial | (dsimp only; simp [u0, u1, u2, hc, yI_same, yI_ne, yI_c, yR_I, yI_row, yR_row, yI_R, yR_ne, yR_same, yI_L, yR_L, vp_in, z_32]; done)
    · dsimp only
      (repeat (first | exact Y4.1 | (refine FYL.setI ?_ rfl) | (refine FYL.setC ?_ rfl) | (refine FYL.row ?_ rfl) | (refine FYL.setR ?_ rfl) | (refine FYL.setRv ?_ (by first | assumption | (simp [yR_I, yR_row, yR_ne]; done)) rfl)))
    · first | exact u0 | (dsimp only; simp [u0, u1, u2, hc, yI_same, yI_ne, yI_c, yR_I, yI_row, yR_row, yI_R, yR_ne, yR_same, yI_L, yR_L, vp_in, z_32]; done)
    · first | exact u1 | (dsimp only; simp [u0, u1, u2, hc, yI_same, yI_ne, yI_c, yR_I, yI_row, yR_row, yI_R, yR_ne, yR_same, yI_L, yR_L, vp_in, z_32]; done)
    · first | exact u2 | (dsimp only; simp [u0, u1, u2, hc, yI_same, yI_ne, yI_c, yR_I, yI_row, yR_row, yI_R, yR_ne, yR_same, yI_L, yR_L, vp_in, z_32]; done)
  obtain ⟨h6, c6, Y6⟩ := p1_closeT l h5 a d c Y5
  have t6 : XT l 12 474 false 98 153 6051 10 [xf 11 59] [xf 11 59] h5 13 [xf 11 59] [] h6 := XT_call rfl rfl rfl (vs := [xf 11 59]) (rest := []) rfl rfl rfl c6 (by decide) (by decide) (by decide) ⟨Nat.le_of_eq Y6.1.2.2.1, Nat.le_of_eq Y6.1.2.2.2⟩
  exact ⟨h6, CX_ofT (by decide) rfl rfl trivial ⟨_, _, _, rfl, rfl, rfl⟩ rfl ⟨Nat.le_of_eq Y6.1.2.2.1.symm, Nat.le_of_eq Y6.1.2.2.2.symm⟩ (t1.tr (t2.tr (t3.tr (t4.tr (t5.tr t6))))), Y6⟩

set_option maxRecDepth 100000 in
set_option maxHeartbeats 1000000 in
theorem p1_tearT3 (l : Launch) (h : XH) (a d c : Int32) (Y : Y0 h a d c) (hc : c = 3) : ∃ h', CX l 10 425 false 66 [xf 11 59] h [] h' ∧ Y0 h' a d c := by
  obtain ⟨h1, t1, Y1⟩ : ∃ h', XT l 10 425 false 66 153 6051 0 [xf 11 59, xun, xun, xun, xun] [] h 26 [xf 11 59, xi 8, xun, xun, xun] [xi 0, xf 10006 66] h' ∧ Y0 h' a d c := by
    have r0 : xR h 59 8 = 66 := Y.1.1 (59, 8, 66) (by decide)
    have k0 : xfk 11 8 = 10006 := rfl
    obtain ⟨-, u0, u1, u2⟩ := id Y
    refine ⟨_, XT_path (inl := []) (n' := 15) (sp := [26]) (o := [0]) rfl rfl ?_ rfl ⟨Nat.le_of_eq Y.1.2.2.1, Nat.le_of_eq Y.1.2.2.2⟩ ?_, ?_, ?_, ?_, ?_⟩
    · refine ⟨rfl, ?_, ?_⟩ <;> first | rfl | (dsimp only; simp [r0, k0, u0, u1, u2, hc, yI_same, yI_ne, yI_c, yR_I, yI_row, yR_row, yI_R, yR_ne, yR_same, yI_L, yR_L, vp_in, z_32] <;> rfl)
    · first | trivial | (dsimp only; simp [r0, k0, u0, u1, u2, hc, yI_same, yI_ne, yI_c, yR_I, yI_row, yR_row, yI_R, yR_ne, yR_same, yI_L, yR_L, vp_in, z_32]; done)
    · dsimp only
      (repeat (first | exact Y.1 | (refine FYL.setI ?_ rfl) | (refine FYL.setC ?_ rfl) | (refine FYL.row ?_ rfl) | (refine FYL.setR ?_ rfl) | (refine FYL.setRv ?_ (by first | assumption | (simp [r0, k0, yR_I, yR_row, yR_ne]; done)) rfl)))
    · first | exact u0 | (dsimp only; simp [r0, k0, u0, u1, u2, hc, yI_same, yI_ne, yI_c, yR_I, yI_row, yR_row, yI_R, yR_ne, yR_same, yI_L, yR_L, vp_in, z_32]; done)
    · first | exact u1 | (dsimp only; simp [r0, k0, u0, u1, u2, hc, yI_same, yI_ne, yI_c, yR_I, yI_row, yR_row, yI_R, yR_ne, yR_same, yI_L, yR_L, vp_in, z_32]; done)
    · first | exact u2 | (dsimp only; simp [r0, k0, u0, u1, u2, hc, yI_same, yI_ne, yI_c, yR_I, yI_row, yR_row, yI_R, yR_ne, yR_same, yI_L, yR_L, vp_in, z_32]; done)
  obtain ⟨h2, c2, Y2⟩ := p1_fill66 l h1 a d c Y1
  have t2 : XT l 10 425 false 66 153 6051 26 [xf 11 59, xi 8, xun, xun, xun] [xi 0, xf 10006 66] h1 29 [xf 11 59, xi 8, xun, xun, xun] [] h2 := XT_call rfl rfl rfl (vs := [xf 10006 66, xi 0]) (rest := []) rfl rfl rfl c2 (by decide) (by decide) (by decide) ⟨Nat.le_of_eq Y2.1.2.2.1, Nat.le_of_eq Y2.1.2.2.2⟩
  obtain ⟨h3, t3, Y3⟩ : ∃ h', XT l 10 425 false 66 153 6051 29 [xf 11 59, xi 8, xun, xun, xun] [] h2 132 [xf 11 59, xi 8, xi 0, xun, xun] [] h' ∧ Y0 h' a d c := by
    have r0 : xR h2 59 0 = 3 := Y2.1.1 (59, 0, 3) (by decide)
    have k0 : xfk 11 0 = 8 := rfl
    have i0 : xI h2 3 5 = 0 := Y2.1.2.1 (3, 5, 0) (by decide)
    obtain ⟨-, u0, u1, u2⟩ := id Y2
    refine ⟨_, XT_path (inl := []) (n' := 12) (sp := [132]) (o := [1]) rfl rfl ?_ rfl ⟨Nat.le_of_eq Y2.1.2.2.1, Nat.le_of_eq Y2.1.2.2.2⟩ ?_, ?_, ?_, ?_, ?_⟩
    · refine ⟨rfl, ?_, ?_⟩ <;> first | rfl | (dsimp only; simp [r0, k0, i0, u0, u1, u2, hc, yI_same, yI_ne, yI_c, yR_I, yI_row, yR_row, yI_R, yR_ne, yR_same, yI_L, yR_L, vp_in, z_32] <;> rfl)
    · first | trivial | (dsimp only; simp [r0, k0, i0, u0, u1, u2, hc, yI_same, yI_ne, yI_c, yR_I, yI_row, yR_row, yI_R, yR_ne, yR_same, yI_L, yR_L, vp_in, z_32]; done)
    · dsimp only
      (repeat (first | exact Y2.1 | (refine FYL.setI ?_ rfl) | (refine FYL.setC ?_ rfl) | (refine FYL.row ?_ rfl) | (refine FYL.setR ?_ rfl) | (refine FYL.setRv ?_ (by first | assumption | (simp [r0, k0, i0, yR_I, yR_row, yR_ne]; done)) rfl)))
    · first | exact u0 | (dsimp only; simp [r0, k0, i0, u0, u1, u2, hc, yI_same, yI_ne, yI_c, yR_I, yI_row, yR_row, yI_R, yR_ne, yR_same, yI_L, yR_L, vp_in, z_32]; done)
    · first | exact u1 | (dsimp only; simp [r0, k0, i0, u0, u1, u2, hc, yI_same, yI_ne, yI_c, yR_I, yI_row, yR_row, yI_R, yR_ne, yR_same, yI_L, yR_L, vp_in, z_32]; done)
    · first | exact u2 | (dsimp only; simp [r0, k0, i0, u0, u1, u2, hc, yI_same, yI_ne, yI_c, yR_I, yI_row, yR_row, yI_R, yR_ne, yR_same, yI_L, yR_L, vp_in, z_32]; done)
  exact ⟨h3, CX_ofT (by decide) rfl rfl trivial ⟨_, _, _, rfl, rfl, rfl⟩ rfl ⟨Nat.le_of_eq Y3.1.2.2.1.symm, Nat.le_of_eq Y3.1.2.2.2.symm⟩ (t1.tr (t2.tr t3)), Y3⟩

set_option maxRecDepth 100000 in
set_option maxHeartbeats 1000000 in
theorem p1_stretchT3 (l : Launch) (h : XH) (a d c : Int32) (Y : Y0 h a d c) (hc : c = 3) : ∃ h', CX l 11 450 false 99 [xf 11 59] h [xi 0] h' ∧ Y0 h' a d c := by
  obtain ⟨h1, t1, Y1⟩ : ∃ h', XT l 11 450 false 99 153 6051 0 [xf 11 59, xun, xun, xun] [] h 5 [xf 11 59, xun, xun, xun] [xi 0, xf 10006 68] h' ∧ Y0 h' a d c := by
    have r0 : xR h 59 12 = 68 := Y.1.1 (59, 12, 68) (by decide)
    have k0 : xfk 11 12 = 10006 := rfl
    obtain ⟨-, u0, u1, u2⟩ := id Y
    refine ⟨_, XT_path (inl := []) (n' := 8) (sp := [5]) (o := []) rfl rfl ?_ rfl ⟨Nat.le_of_eq Y.1.2.2.1, Nat.le_of_eq Y.1.2.2.2⟩ ?_, ?_, ?_, ?_, ?_⟩
    · refine ⟨rfl, ?_, ?_⟩ <;> first | rfl | (dsimp only; simp [r0, k0, u0, u1, u2, hc, yI_same, yI_ne, yI_c, yR_I, yI_row, yR_row, yI_R, yR_ne, yR_same, yI_L, yR_L, vp_in, z_32] <;> rfl)
    · first | trivial | (dsimp only; simp [r0, k0, u0, u1, u2, hc, yI_same, yI_ne, yI_c, yR_I, yI_row, yR_row, yI_R, yR_ne, yR_same, yI_L, yR_L, vp_in, z_32]; done)
    · dsimp only
      (repeat (first | exact Y.1 | (refine FYL.setI ?_ rfl) | (refine FYL.setC ?_ rfl) | (refine FYL.row ?_ rfl) | (refine FYL.setR ?_ rfl) | (refine FYL.setRv ?_ (by first | assumption | (simp [r0, k0, yR_I, yR_row, yR_ne]; done)) rfl)))
    · first | exact u0 | (dsimp only; simp [r0, k0, u0, u1, u2, hc, yI_same, yI_ne, yI_c, yR_I, yI_row, yR_row, yI_R, yR_ne, yR_same, yI_L, yR_L, vp_in, z_32]; done)
    · first | exact u1 | (dsimp only; simp [r0, k0, u0, u1, u2, hc, yI_same, yI_ne, yI_c, yR_I, yI_row, yR_row, yI_R, yR_ne, yR_same, yI_L, yR_L, vp_in, z_32]; done)
    · first | exact u2 | (dsimp only; simp [r0, k0, u0, u1, u2, hc, yI_same, yI_ne, yI_c, yR_I, yI_row, yR_row, yI_R, yR_ne, yR_same, yI_L, yR_L, vp_in, z_32]; done)
  obtain ⟨h2, c2, Y2⟩ := p1_fill68 l h1 a d c Y1
  have t2 : XT l 11 450 false 99 153 6051 5 [xf 11 59, xun, xun, xun] [xi 0, xf 10006 68] h1 8 [xf 11 59, xun, xun, xun] [] h2 := XT_call rfl rfl rfl (vs := [xf 10006 68, xi 0]) (rest := []) rfl rfl rfl c2 (by decide) (by decide) (by decide) ⟨Nat.le_of_eq Y2.1.2.2.1, Nat.le_of_eq Y2.1.2.2.2⟩
  obtain ⟨h3, t3, Y3⟩ : ∃ h', XT l 11 450 false 99 153 6051 8 [xf 11 59, xun, xun, xun] [] h2 56 [xf 11 59, xi 0, xi 0, xun] [] h' ∧ Y0 h' a d c := by
    have r0 : xR h2 59 0 = 3 := Y2.1.1 (59, 0, 3) (by decide)
    have k0 : xfk 11 0 = 8 := rfl
    have i0 : xI h2 3 9 = 0 := Y2.1.2.1 (3, 9, 0) (by decide)
    obtain ⟨-, u0, u1, u2⟩ := id Y2
    refine ⟨_, XT_path (inl := []) (n' := 16) (sp := [56]) (o := [1]) rfl rfl ?_ rfl ⟨Nat.le_of_eq Y2.1.2.2.1, Nat.le_of_eq Y2.1.2.2.2⟩ ?_, ?_, ?_, ?_, ?_⟩
    · refine ⟨rfl, ?_, ?_⟩ <;> first | rfl | (dsimp only; simp [r0, k0, i0, u0, u1, u2, hc, yI_same, yI_ne, yI_c, yR_I, yI_row, yR_row, yI_R, yR_ne, yR_same, yI_L, yR_L, vp_in, z_32] <;> rfl)
    · first | trivial | (dsimp only; simp [r0, k0, i0, u0, u1, u2, hc, yI_same, yI_ne, yI_c, yR_I, yI_row, yR_row, yI_R, yR_ne, yR_same, yI_L, yR_L, vp_in, z_32]; done)
    · dsimp only
      (repeat (first | exact Y2.1 | (refine FYL.setI ?_ rfl) | (refine FYL.setC ?_ rfl) | (refine FYL.row ?_ rfl) | (refine FYL.setR ?_ rfl) | (refine FYL.setRv ?_ (by first | assumption | (simp [r0, k0, i0, yR_I, yR_row, yR_ne]; done)) rfl)))
    · first | exact u0 | (dsimp only; simp [r0, k0, i0, u0, u1, u2, hc, yI_same, yI_ne, yI_c, yR_I, yI_row, yR_row, yI_R, yR_ne, yR_same, yI_L, yR_L, vp_in, z_32]; done)
    · first | exact u1 | (dsimp only; simp [r0, k0, i0, u0, u1, u2, hc, yI_same, yI_ne, yI_c, yR_I, yI_row, yR_row, yI_R, yR_ne, yR_same, yI_L, yR_L, vp_in, z_32]; done)
    · first | exact u2 | (dsimp only; simp [r0, k0, i0, u0, u1, u2, hc, yI_same, yI_ne, yI_c, yR_I, yI_row, yR_row, yI_R, yR_ne, yR_same, yI_L, yR_L, vp_in, z_32]; done)
  obtain ⟨h4, t4, Y4⟩ : ∃ h', XT l 11 450 false 99 153 6051 56 [xf 11 59, xi 0, xi 0, xun] [] h3 117 [xf 11 59, xi 0, xi 0, xun] [xf 11 59] h' ∧ Y0 h' a d c := by
    have r0 : xR h3 59 0 = 3 := Y3.1.1 (59, 0, 3) (by decide)
    have k0 : xfk 11 0 = 8 := rfl
    have i0 : xI h3 3 0 = 0 := Y3.1.2.1 (3, 0, 0) (by decide)
    obtain ⟨-, u0, u1, u2⟩ := id Y3
    refine ⟨_, XT_path (inl := []) (n' := 11) (sp := [117]) (o := [1]) rfl rfl ?_ rfl ⟨Nat.le_of_eq Y3.1.2.2.1, Nat.le_of_eq Y3.1.2.2.2⟩ ?_, ?_, ?_, ?_, ?_⟩
    · refine ⟨rfl, ?_, ?_⟩ <;> first | rfl | (dsimp only; simp [r0, k0, i0, u0, u1, u2, hc, yI_same, yI_ne, yI_c, yR_I, yI_row, yR_row, yI_R, yR_ne, yR_same, yI_L, yR_L, vp_in, z_32] <;> rfl)
    · first | trivial | (dsimp only; simp [r0, k0, i0, u0, u1, u2, hc, yI_same, yI_ne, yI_c, yR_I, yI_row, yR_row, yI_R, yR_ne, yR_same, yI_L, yR_L, vp_in, z_32]; done)
    · dsimp only
      (repeat (first | exact Y3.1 | (refine FYL.setI ?_ rfl) | (refine FYL.setC ?_ rfl) | (refine FYL.row ?_ rfl) | (refine FYL.setR ?_ rfl) | (refine FYL.setRv ?_ (by first | assumption | (simp [r0, k0, i0, yR_I, yR_row, yR_ne]; done)) rfl)))
    · first | exact u0 | (dsimp only; simp [r0, k0, i0, u0, u1, u2, hc, yI_same, yI_ne, yI_c, yR_I, yI_row, yR_row, yI_R, yR_ne, yR_same, yI_L, yR_L, vp_in, z_32]; done)
    · first | exact u1 | (dsimp only; simp [r0, k0, i0, u0, u1, u2, hc, yI_same, yI_ne, yI_c, yR_I, yI_row, yR_row, yI_R, yR_ne, yR_same, yI_L, yR_L, vp_in, z_32]; done)
    · first | exact u2 | (dsimp only; simp [r0, k0, i0, u0, u1, u2, hc, yI_same, yI_ne, yI_c, yR_I, yI_row, yR_row, yI_R, yR_ne, yR_same, yI_L, yR_L, vp_in, z_32]; done)
  obtain ⟨h5, c5, Y5⟩ := p1_tearT3 l h4 a d c Y4 hc
  have t5 : XT l 11 450 false 99 153 6051 117 [xf 11 59, xi 0, xi 0, xun] [xf 11 59] h4 120 [xf 11 59, xi 0, xi 0, xun] [] h5 := XT_call rfl rfl rfl (vs := [xf 11 59]) (rest := []) rfl rfl rfl c5 (by decide) (by decide) (by decide) ⟨Nat.le_of_eq Y5.1.2.2.1, Nat.le_of_eq Y5.1.2.2.2⟩
  obtain ⟨h6, t6, Y6⟩ : ∃ h', XT l 11 450 false 99 153 6051 120 [xf 11 59, xi 0, xi 0, xun] [] h5 121 [xf 11 59, xi 0, xi 0, xun] [xi 0] h' ∧ Y0 h' a d c := by
    obtain ⟨-, u0, u1, u2⟩ := id Y5
    refine ⟨_, XT_path (inl := []) (n' := 6) (sp := [121]) (o := []) rfl rfl ?_ rfl ⟨Nat.le_of_eq Y5.1.2.2.1, Nat.le_of_eq Y5.1.2.2.2⟩ ?_, ?_, ?_, ?_, ?_⟩
    · refine ⟨rfl, ?_, ?_⟩ <;> first | rfl | (dsimp only; simp [u0, u1, u2, hc, yI_same, yI_ne, yI_c, yR_I, yI_row, yR_row, yI_R, yR_ne, yR_same, yI_L, yR_L, vp_in, z_32] <;> rfl)
    · first | trivial | (dsimp only; simp [u0, u1, u2, hc, yI_same, yI_ne, yI_c, yR_I, yI_row, yR_row, yI_R, yR_ne, yR_same, yI_L, yR_L, vp_in, z_32]; done)
    · dsimp only
      (repeat (first | exact Y5.1 | (refine FYL.setI ?_ rfl) | (refine FYL.setC ?_ rfl) | (refine FYL.row ?_ rfl) | (refine FYL.setR ?_ rfl) | (refine FYL.setRv ?_ (by first | assumption | (simp [yR_I, yR_row, yR_ne]; done)) rfl)))
    · first | exact u0 | (dsimp only; simp [u0, u1, u2, hc, yI_same, yI_ne, yI_c, yR_I, yI_row, yR_row, yI_R, yR_ne, yR_same, yI_L, yR_L, vp_in, z_32]; done)
    · first | exact u1 | (dsimp only; simp [u0, u1, u2, hc, yI_same, yI_ne, yI_c, yR_I, yI_row, yR_row, yI_R, yR_ne, yR_same, yI_L, yR_L, vp_in, z_32]; done)
    · first | exact u2 | (dsimp only; simp [u0, u1, u2, hc, yI_same, yI_ne, yI_c, yR_I, yI_row, yR_row, yI_R, yR_ne, yR_same, yI_L, yR_L, vp_in, z_32]; done)
  exact ⟨h6, CX_ofT (by decide) rfl rfl ⟨trivial, Or.inl rfl⟩ ⟨_, _, _, rfl, rfl, rfl⟩ rfl ⟨Nat.le_of_eq Y6.1.2.2.1.symm, Nat.le_of_eq Y6.1.2.2.2.symm⟩ (t1.tr (t2.tr (t3.tr (t4.tr (t5.tr t6))))), Y6⟩

set_option maxRecDepth 100000 in
set_option maxHeartbeats 1000000 in
theorem p1_passT3 (l : Launch) (h : XH) (a d c : Int32) (Y : Y0 h a d c) (hc : c = 3) : ∃ h', CX l 12 474 false 98 [xf 11 59] h [] h' ∧ Y0 h' a d c := by
  obtain ⟨h1, t1, Y1⟩ : ∃ h', XT l 12 474 false 98 153 6051 0 [xf 11 59] [] h 1 [xf 11 59] [xf 11 59] h' ∧ Y0 h' a d c := by
    obtain ⟨-, u0, u1, u2⟩ := id Y
    refine ⟨_, XT_path (inl := []) (n' := 6) (sp := [1]) (o := []) rfl rfl ?_ rfl ⟨Nat.le_of_eq Y.1.2.2.1, Nat.le_of_eq Y.1.2.2.2⟩ ?_, ?_, ?_, ?_, ?_⟩
    · refine ⟨rfl, ?_, ?_⟩ <;> first | rfl | (dsimp only; simp [u0, u1, u2, hc, yI_same, yI_ne, yI_c, yR_I, yI_row, yR_row, yI_R, yR_ne, yR_same, yI_L, yR_L, vp_in, z_32] <;> rfl)
    · first | trivial | (dsimp only; simp [u0, u1, u2, hc, yI_same, yI_ne, yI_c, yR_I, yI_row, yR_row, yI_R, yR_ne, yR_same, yI_L, yR_L, vp_in, z_32]; done)
    · dsimp only
      (repeat (first | exact Y.1 | (refine FYL.setI ?_ rfl) | (refine FYL.setC ?_ rfl) | (refine FYL.row ?_ rfl) | (refine FYL.setR ?_ rfl) | (refine FYL.setRv ?_ (by first | assumption | (simp [yR_I, yR_row, yR_ne]; done)) rfl)))
    · first | exact u0 | (dsimp only; simp [u0, u1, u2, hc, yI_same, yI_ne, yI_c, yR_I, yI_row, yR_row, yI_R, yR_ne, yR_same, yI_L, yR_L, vp_in, z_32]; done)
    · first | exact u1 | (dsimp only; simp [u0, u1, u2, hc, yI_same, yI_ne, yI_c, yR_I, yI_row, yR_row, yI_R, yR_ne, yR_same, yI_L, yR_L, vp_in, z_32]; done)
    · first | exact u2 | (dsimp only; simp [u0, u1, u2, hc, yI_same, yI_ne, yI_c, yR_I, yI_row, yR_row, yI_R, yR_ne, yR_same, yI_L, yR_L, vp_in, z_32]; done)
  obtain ⟨h2, c2, Y2⟩ := p1_stretchT3 l h1 a d c Y1 hc
  have t2 : XT l 12 474 false 98 153 6051 1 [xf 11 59] [xf 11 59] h1 4 [xf 11 59] [xi 0] h2 := XT_call rfl rfl rfl (vs := [xf 11 59]) (rest := []) rfl rfl rfl c2 (by decide) (by decide) (by decide) ⟨Nat.le_of_eq Y2.1.2.2.1, Nat.le_of_eq Y2.1.2.2.2⟩
  obtain ⟨h3, t3, Y3⟩ : ∃ h', XT l 12 474 false 98 153 6051 4 [xf 11 59] [xi 0] h2 6 [xf 11 59] [xf 11 59] h' ∧ Y0 h' a d c := by
    obtain ⟨-, u0, u1, u2⟩ := id Y2
    refine ⟨_, XT_path (inl := []) (n' := 7) (sp := [6]) (o := []) rfl rfl ?_ rfl ⟨Nat.le_of_eq Y2.1.2.2.1, Nat.le_of_eq Y2.1.2.2.2⟩ ?_, ?_, ?_, ?_, ?_⟩
    · refine ⟨rfl, ?_, ?_⟩ <;> first | rfl | (dsimp only; simp [u0, u1, u2, hc, yI_same, yI_ne, yI_c, yR_I, yI_row, yR_row, yI_R, yR_ne, yR_same, yI_L, yR_L, vp_in, z_32] <;> rfl)
    · first | trivial | (dsimp only; simp [u0, u1, u2, hc, yI_same, yI_ne, yI_c, yR_I, yI_row, yR_row, yI_R, yR_ne, yR_same, yI_L, yR_L, vp_in, z_32]; done)
    · dsimp only
      (repeat (first | exact Y2.1 | (refine FYL.setI ?_ rfl) | (refine FYL.setC ?_ rfl) | (refine FYL.row ?_ rfl) | (refine FYL.setR ?_ rfl) | (refine FYL.setRv ?_ (by first | assumption | (simp [yR_I, yR_row, yR_ne]; done)) rfl)))
    · first | exact u0 | (dsimp only; simp [u0, u1, u2, hc, yI_same, yI_ne, yI_c, yR_I, yI_row, yR_row, yI_R, yR_ne, yR_same, yI_L, yR_L, vp_in, z_32]; done)
    · first | exact u1 | (dsimp only; simp [u0, u1, u2, hc, yI_same, yI_ne, yI_c, yR_I, yI_row, yR_row, yI_R, yR_ne, yR_same, yI_L, yR_L, vp_in, z_32]; done)
    · first | exact u2 | (dsimp only; simp [u0, u1, u2, hc, yI_same, yI_ne, yI_c, yR_I, yI_row, yR_row, yI_R, yR_ne, yR_same, yI_L, yR_L, vp_in, z_32]; done)
  obtain ⟨h4, c4, Y4⟩ := p1_reapT l h3 a d c Y3
  have t4 : XT l 12 474 false 98 153 6051 6 [xf 11 59] [xf 11 59] h3 9 [xf 11 59] [] h4 := XT_call rfl rfl rfl (vs := [xf 11 59]) (rest := []) rfl rfl rfl c4 (by decide) (by decide) (by decide) ⟨Nat.le_of_eq Y4.1.2.2.1, Nat.le_of_eq Y4.1.2.2.2⟩
  obtain ⟨h5, t5, Y5⟩ : ∃ h', XT l 12 474 false 98 153 6051 9 [xf 11 59] [] h4 10 [xf 11 59] [xf 11 59] h' ∧ Y0 h' a d c := by
    obtain ⟨-, u0, u1, u2⟩ := id Y4
    refine ⟨_, XT_path (inl := []) (n' := 6) (sp := [10]) (o := []) rfl rfl ?_ rfl ⟨Nat.le_of_eq Y4.1.2.2.1, Nat.le_of_eq Y4.1.2.2.2⟩ ?_, ?_, ?_, ?_, ?_⟩
    · refine ⟨rfl, ?_, ?_⟩ <;> first | rfl | (dsimp only; simp [u0, u1, u2, hc, yI_same, yI_ne, yI_c, yR_I, yI_row, yR_row, yI_R, yR_ne, yR_same, yI_L, yR_L, vp_in, z_32] <;> rfl)
    · first | trivial | (dsimp only; simp [u0, u1, u2, hc, yI_same, yI_ne, yI_c, yR_I, yI_row, yR_row, yI_R, yR_ne, yR_same, yI_L, yR_L, vp_in, z_32]; done)
    · dsimp only
      (repeat (first | exact Y4.1 | (refine FYL.setI ?_ rfl) | (refine FYL.setC ?_ rfl) | (refine FYL.row ?_ rfl) | (refine FYL.setR ?_ rfl) | (refine FYL.setRv ?_ (by first | assumption | (simp [yR_I, yR_row, yR_ne]; done)) rfl)))
    · first | exact u0 | (dsimp only; simp [u0, u1, u2, hc, yI_same, yI_ne, yI_c, yR_I, yI_row, yR_row, yI_R, yR_ne, yR_same, yI_L, yR_L, vp_in, z_32]; done)
    · first | exact u1 | (dsimp only; simp [u0, u1, u2, hc, yI_same, yI_ne, yI_c, yR_I, yI_row, yR_row, yI_R, yR_ne, yR_same, yI_L, yR_L, vp_in, z_32]; done)
    · first | exact u2 | (dsimp only; simp [u0, u1, u2, hc, yI_same, yI_ne, yI_c, yR_I, yI_row, yR_row, yI_R, yR_ne, yR_same, yI_L, yR_L, vp_in, z_32]; done)
  obtain ⟨h6, c6, Y6⟩ := p1_closeT l h5 a d c Y5
  have t6 : XT l 12 474 false 98 153 6051 10 [xf 11 59] [xf 11 59] h5 13 [xf 11 59] [] h6 := XT_call rfl rfl rfl (vs := [xf 11 59]) (rest := []) rfl rfl rfl c6 (by decide) (by decide) (by decide) ⟨Nat.le_of_eq Y6.1.2.2.1, Nat.le_of_eq Y6.1.2.2.2⟩
  exact ⟨h6, CX_ofT (by decide) rfl rfl trivial ⟨_, _, _, rfl, rfl, rfl⟩ rfl ⟨Nat.le_of_eq Y6.1.2.2.1.symm, Nat.le_of_eq Y6.1.2.2.2.symm⟩ (t1.tr (t2.tr (t3.tr (t4.tr (t5.tr t6))))), Y6⟩

set_option maxRecDepth 100000 in
set_option maxHeartbeats 1000000 in
theorem p1_goOn0 (l : Launch) (h : XH) (a d c : Int32) (Y : Y0 h a d c) : ∃ h', CX l 11 470 false 245 [xf 13 104, xi 0] h [] h' ∧ Y0 h' a (d + 1) c := by
  obtain ⟨h1, t1, Y1⟩ : ∃ h', XT l 11 470 false 245 153 6051 0 [xf 13 104, xi 0, xun, xun] [] h 30 [xf 13 104, xi 0, xi 0, xun] [] h' ∧ Y0 h' a d c := by
    have i0 : xI h 104 12 = 0 := Y.1.2.1 (104, 12, 0) (by decide)
    obtain ⟨-, u0, u1, u2⟩ := id Y
    refine ⟨_, XT_path (inl := []) (n' := 13) (sp := [30]) (o := [1]) rfl rfl ?_ rfl ⟨Nat.le_of_eq Y.1.2.2.1, Nat.le_of_eq Y.1.2.2.2⟩ ?_, ?_, ?_, ?_, ?_⟩
    · refine ⟨rfl, ?_, ?_⟩ <;> first | rfl | (dsimp only; simp [i0, u0, u1, u2, yI_same, yI_ne, yI_c, yR_I, yI_row, yR_row, yI_R, yR_ne, yR_same, yI_L, yR_L, vp_in, z_32] <;> rfl)
    · first | trivial | (dsimp only; simp [i0, u0, u1, u2, yI_same, yI_ne, yI_c, yR_I, yI_row, yR_row, yI_R, yR_ne, yR_same, yI_L, yR_L, vp_in, z_32]; done)
    · dsimp only
      (repeat (first | exact Y.1 | (refine FYL.setI ?_ rfl) | (refine FYL.setC ?_ rfl) | (refine FYL.row ?_ rfl) | (refine FYL.setR ?_ rfl) | (refine FYL.setRv ?_ (by first | assumption | (simp [i0, yR_I, yR_row, yR_ne]; done)) rfl)))
    · first | exact u0 | (dsimp only; simp [i0, u0, u1, u2, yI_same, yI_ne, yI_c, yR_I, yI_row, yR_row, yI_R, yR_ne, yR_same, yI_L, yR_L, vp_in, z_32]; done)
    · first | exact u1 | (dsimp only; simp [i0, u0, u1, u2, yI_same, yI_ne, yI_c, yR_I, yI_row, yR_row, yI_R, yR_ne, yR_same, yI_L, yR_L, vp_in, z_32]; done)
    · first | exact u2 | (dsimp only; simp [i0, u0, u1, u2, yI_same, yI_ne, yI_c, yR_I, yI_row, yR_row, yI_R, yR_ne, yR_same, yI_L, yR_L, vp_in, z_32]; done)
  obtain ⟨h2, t2, Y2⟩ : ∃ h', XT l 11 470 false 245 153 6051 30 [xf 13 104, xi 0, xi 0, xun] [] h1 77 [xf 13 104, xi 0, xi 0, xun] [] h' ∧ Y0 h' a d c := by
    have i0 : xI h1 104 12 = 0 := Y1.1.2.1 (104, 12, 0) (by decide)
    obtain ⟨-, u0, u1, u2⟩ := id Y1
    refine ⟨_, XT_path (inl := []) (n' := 11) (sp := [77]) (o := [1]) rfl rfl ?_ rfl ⟨Nat.le_of_eq Y1.1.2.2.1, Nat.le_of_eq Y1.1.2.2.2⟩ ?_, ?_, ?_, ?_, ?_⟩
    · refine ⟨rfl, ?_, ?_⟩ <;> first | rfl | (dsimp only; simp [i0, u0, u1, u2, yI_same, yI_ne, yI_c, yR_I, yI_row, yR_row, yI_R, yR_ne, yR_same, yI_L, yR_L, vp_in, z_32] <;> rfl)
    · first | trivial | (dsimp only; simp [i0, u0, u1, u2, yI_same, yI_ne, yI_c, yR_I, yI_row, yR_row, yI_R, yR_ne, yR_same, yI_L, yR_L, vp_in, z_32]; done)
    · dsimp only
      (repeat (first | exact Y1.1 | (refine FYL.setI ?_ rfl) | (refine FYL.setC ?_ rfl) | (refine FYL.row ?_ rfl) | (refine FYL.setR ?_ rfl) | (refine FYL.setRv ?_ (by first | assumption | (simp [i0, yR_I, yR_row, yR_ne]; done)) rfl)))
    · first | exact u0 | (dsimp only; simp [i0, u0, u1, u2, yI_same, yI_ne, yI_c, yR_I, yI_row, yR_row, yI_R, yR_ne, yR_same, yI_L, yR_L, vp_in, z_32]; done)
    · first | exact u1 | (dsimp only; simp [i0, u0, u1, u2, yI_same, yI_ne, yI_c, yR_I, yI_row, yR_row, yI_R, yR_ne, yR_same, yI_L, yR_L, vp_in, z_32]; done)
    · first | exact u2 | (dsimp only; simp [i0, u0, u1, u2, yI_same, yI_ne, yI_c, yR_I, yI_row, yR_row, yI_R, yR_ne, yR_same, yI_L, yR_L, vp_in, z_32]; done)
  obtain ⟨h3, t3, Y3⟩ : ∃ h', XT l 11 470 false 245 153 6051 77 [xf 13 104, xi 0, xi 0, xun] [] h2 115 [xf 13 104, xi 0, xi 0, xun] [] h' ∧ Y0 h' a d c := by
    have i0 : xI h2 104 12 = 0 := Y2.1.2.1 (104, 12, 0) (by decide)
    obtain ⟨-, u0, u1, u2⟩ := id Y2
    refine ⟨_, XT_path (inl := []) (n' := 11) (sp := [115]) (o := [1]) rfl rfl ?_ rfl ⟨Nat.le_of_eq Y2.1.2.2.1, Nat.le_of_eq Y2.1.2.2.2⟩ ?_, ?_, ?_, ?_, ?_⟩
    · refine ⟨rfl, ?_, ?_⟩ <;> first | rfl | (dsimp only; simp [i0, u0, u1, u2, yI_same, yI_ne, yI_c, yR_I, yI_row, yR_row, yI_R, yR_ne, yR_same, yI_L, yR_L, vp_in, z_32] <;> rfl)
    · first | trivial | (dsimp only; simp [i0, u0, u1, u2, yI_same, yI_ne, yI_c, yR_I, yI_row, yR_row, yI_R, yR_ne, yR_same, yI_L, yR_L, vp_in, z_32]; done)
    · dsimp only
      (repeat (first | exact Y2.1 | (refine FYL.setI ?_ rfl) | (refine FYL.setC ?_ rfl) | (refine FYL.row ?_ rfl) | (refine FYL.setR ?_ rfl) | (refine FYL.setRv ?_ (by first | assumption | (simp [i0, yR_I, yR_row, yR_ne]; done)) rfl)))
    · first | exact u0 | (dsimp only; simp [i0, u0, u1, u2, yI_same, yI_ne, yI_c, yR_I, yI_row, yR_row, yI_R, yR_ne, yR_same, yI_L, yR_L, vp_in, z_32]; done)
    · first | exact u1 | (dsimp only; simp [i0, u0, u1, u2, yI_same, yI_ne, yI_c, yR_I, yI_row, yR_row, yI_R, yR_ne, yR_same, yI_L, yR_L, vp_in, z_32]; done)
    · first | exact u2 | (dsimp only; simp [i0, u0, u1, u2, yI_same, yI_ne, yI_c, yR_I, yI_row, yR_row, yI_R, yR_ne, yR_same, yI_L, yR_L, vp_in, z_32]; done)
  obtain ⟨h4, t4, Y4⟩ : ∃ h', XT l 11 470 false 245 153 6051 115 [xf 13 104, xi 0, xi 0, xun] [] h3 201 [xf 13 104, xi 0, xi 0, xun] [] h' ∧ Y0 h' a (d + 1) c := by
    have r0 : xR h3 104 60 = 138 := Y3.1.1 (104, 60, 138) (by decide)
    have k0 : xfk 13 60 = 10002 := rfl
    have i0 : xI h3 104 14 = 0 := Y3.1.2.1 (104, 14, 0) (by decide)
    obtain ⟨-, u0, u1, u2⟩ := id Y3
    refine ⟨_, XT_path (inl := []) (n' := 17) (sp := [201]) (o := [1]) rfl rfl ?_ rfl ⟨Nat.le_of_eq Y3.1.2.2.1, Nat.le_of_eq Y3.1.2.2.2⟩ ?_, ?_, ?_, ?_, ?_⟩
    · refine ⟨rfl, ?_, ?_⟩ <;> first | rfl | (dsimp only; simp [r0, k0, i0, u0, u1, u2, yI_same, yI_ne, yI_c, yR_I, yI_row, yR_row, yI_R, yR_ne, yR_same, yI_L, yR_L, vp_in, z_32] <;> rfl)
    · first | trivial | (dsimp only; simp [r0, k0, i0, u0, u1, u2, yI_same, yI_ne, yI_c, yR_I, yI_row, yR_row, yI_R, yR_ne, yR_same, yI_L, yR_L, vp_in, z_32]; done)
    · dsimp only
      try simp [r0, yR_I, yR_row, yI_R, yR_ne, yR_same]
      (repeat (first | exact Y3.1 | (refine FYL.setI ?_ rfl) | (refine FYL.setC ?_ rfl) | (refine FYL.row ?_ rfl) | (refine FYL.setR ?_ rfl) | (refine FYL.setRv ?_ (by first | assumption | (simp [r0, k0, i0, yR_I, yR_row, yR_ne]; done)) rfl)))
    · first | exact u0 | (dsimp only; simp [r0, k0, i0, u0, u1, u2, yI_same, yI_ne, yI_c, yR_I, yI_row, yR_row, yI_R, yR_ne, yR_same, yI_L, yR_L, vp_in, z_32]; done)
    · first | exact u1 | (dsimp only; simp [r0, k0, i0, u0, u1, u2, yI_same, yI_ne, yI_c, yR_I, yI_row, yR_row, yI_R, yR_ne, yR_same, yI_L, yR_L, vp_in, z_32]; done)
    · first | exact u2 | (dsimp only; simp [r0, k0, i0, u0, u1, u2, yI_same, yI_ne, yI_c, yR_I, yI_row, yR_row, yI_R, yR_ne, yR_same, yI_L, yR_L, vp_in, z_32]; done)
  exact ⟨h4, CX_ofT (by decide) rfl rfl trivial ⟨_, _, _, rfl, rfl, rfl⟩ rfl ⟨Nat.le_of_eq Y4.1.2.2.1.symm, Nat.le_of_eq Y4.1.2.2.2.symm⟩ (t1.tr (t2.tr (t3.tr t4))), Y4⟩

set_option maxRecDepth 100000 in
set_option maxHeartbeats 1000000 in
theorem p1_goOn1 (l : Launch) (h : XH) (a d c : Int32) (Y : Y0 h a d c) : ∃ h', CX l 11 470 false 245 [xf 13 104, xi 1] h [] h' ∧ Y0 h' a d c := by
  obtain ⟨h1, t1, Y1⟩ : ∃ h', XT l 11 470 false 245 153 6051 0 [xf 13 104, xi 1, xun, xun] [] h 30 [xf 13 104, xi 1, xi 0, xun] [] h' ∧ Y0 h' a d c := by
    have i0 : xI h 104 12 = 0 := Y.1.2.1 (104, 12, 0) (by decide)
    obtain ⟨-, u0, u1, u2⟩ := id Y
    refine ⟨_, XT_path (inl := []) (n' := 13) (sp := [30]) (o := [1]) rfl rfl ?_ rfl ⟨Nat.le_of_eq Y.1.2.2.1, Nat.le_of_eq Y.1.2.2.2⟩ ?_, ?_, ?_, ?_, ?_⟩
    · refine ⟨rfl, ?_, ?_⟩ <;> first | rfl | (dsimp only; simp [i0, u0, u1, u2, yI_same, yI_ne, yI_c, yR_I, yI_row, yR_row, yI_R, yR_ne, yR_same, yI_L, yR_L, vp_in, z_32] <;> rfl)
    · first | trivial | (dsimp only; simp [i0, u0, u1, u2, yI_same, yI_ne, yI_c, yR_I, yI_row, yR_row, yI_R, yR_ne, yR_same, yI_L, yR_L, vp_in, z_32]; done)
    · dsimp only
      (repeat (first | exact Y.1 | (refine FYL.setI ?_ rfl) | (refine FYL.setC ?_ rfl) | (refine FYL.row ?_ rfl) | (refine FYL.setR ?_ rfl) | (refine FYL.setRv ?_ (by first | assumption | (simp [i0, yR_I, yR_row, yR_ne]; done)) rfl)))
    · first | exact u0 | (dsimp only; simp [i0, u0, u1, u2, yI_same, yI_ne, yI_c, yR_I, yI_row, yR_row, yI_R, yR_ne, yR_same, yI_L, yR_L, vp_in, z_32]; done)
    · first | exact u1 | (dsimp only; simp [i0, u0, u1, u2, yI_same, yI_ne, yI_c, yR_I, yI_row, yR_row, yI_R, yR_ne, yR_same, yI_L, yR_L, vp_in, z_32]; done)
    · first | exact u2 | (dsimp only; simp [i0, u0, u1, u2, yI_same, yI_ne, yI_c, yR_I, yI_row, yR_row, yI_R, yR_ne, yR_same, yI_L, yR_L, vp_in, z_32]; done)
  obtain ⟨h2, t2, Y2⟩ : ∃ h', XT l 11 470 false 245 153 6051 30 [xf 13 104, xi 1, xi 0, xun] [] h1 77 [xf 13 104, xi 1, xi 0, xun] [] h' ∧ Y0 h' a d c := by
    have i0 : xI h1 104 12 = 0 := Y1.1.2.1 (104, 12, 0) (by decide)
    obtain ⟨-, u0, u1, u2⟩ := id Y1
    refine ⟨_, XT_path (inl := []) (n' := 11) (sp := [77]) (o := [1]) rfl rfl ?_ rfl ⟨Nat.le_of_eq Y1.1.2.2.1, Nat.le_of_eq Y1.1.2.2.2⟩ ?_, ?_, ?_, ?_, ?_⟩
    · refine ⟨rfl, ?_, ?_⟩ <;> first | rfl | (dsimp only; simp [i0, u0, u1, u2, yI_same, yI_ne, yI_c, yR_I, yI_row, yR_row, yI_R, yR_ne, yR_same, yI_L, yR_L, vp_in, z_32] <;> rfl)
    · first | trivial | (dsimp only; simp [i0, u0, u1, u2, yI_same, yI_ne, yI_c, yR_I, yI_row, yR_row, yI_R, yR_ne, yR_same, yI_L, yR_L, vp_in, z_32]; done)
    · dsimp only
      (repeat (first | exact Y1.1 | (refine FYL.setI ?_ rfl) | (refine FYL.setC ?_ rfl) | (refine FYL.row ?_ rfl) | (refine FYL.setR ?_ rfl) | (refine FYL.setRv ?_ (by first | assumption | (simp [i0, yR_I, yR_row, yR_ne]; done)) rfl)))
    · first | exact u0 | (dsimp only; simp [i0, u0, u1, u2, yI_same, yI_ne, yI_c, yR_I, yI_row, yR_row, yI_R, yR_ne, yR_same, yI_L, yR_L, vp_in, z_32]; done)
    · first | exact u1 | (dsimp only; simp [i0, u0, u1, u2, yI_same, yI_ne, yI_c, yR_I, yI_row, yR_row, yI_R, yR_ne, yR_same, yI_L, yR_L, vp_in, z_32]; done)
    · first | exact u2 | (dsimp only; simp [i0, u0, u1, u2, yI_same, yI_ne, yI_c, yR_I, yI_row, yR_row, yI_R, yR_ne, yR_same, yI_L, yR_L, vp_in, z_32]; done)
  obtain ⟨h3, t3, Y3⟩ : ∃ h', XT l 11 470 false 245 153 6051 77 [xf 13 104, xi 1, xi 0, xun] [] h2 115 [xf 13 104, xi 1, xi 0, xun] [] h' ∧ Y0 h' a d c := by
    have i0 : xI h2 104 12 = 0 := Y2.1.2.1 (104, 12, 0) (by decide)
    obtain ⟨-, u0, u1, u2⟩ := id Y2
    refine ⟨_, XT_path (inl := []) (n' := 11) (sp := [115]) (o := [1]) rfl rfl ?_ rfl ⟨Nat.le_of_eq Y2.1.2.2.1, Nat.le_of_eq Y2.1.2.2.2⟩ ?_, ?_, ?_, ?_, ?_⟩
    · refine ⟨rfl, ?_, ?_⟩ <;> first | rfl | (dsimp only; simp [i0, u0, u1, u2, yI_same, yI_ne, yI_c, yR_I, yI_row, yR_row, yI_R, yR_ne, yR_same, yI_L, yR_L, vp_in, z_32] <;> rfl)
    · first | trivial | (dsimp only; simp [i0, u0, u1, u2, yI_same, yI_ne, yI_c, yR_I, yI_row, yR_row, yI_R, yR_ne, yR_same, yI_L, yR_L, vp_in, z_32]; done)
    · dsimp only
      (repeat (first | exact Y2.1 | (refine FYL.setI ?_ rfl) | (refine FYL.setC ?_ rfl) | (refine FYL.row ?_ rfl) | (refine FYL.setR ?_ rfl) | (refine FYL.setRv ?_ (by first | assumption | (simp [i0, yR_I, yR_row, yR_ne]; done)) rfl)))
    · first | exact u0 | (dsimp only; simp [i0, u0, u1, u2, yI_same, yI_ne, yI_c, yR_I, yI_row, yR_row, yI_R, yR_ne, yR_same, yI_L, yR_L, vp_in, z_32]; done)
    · first | exact u1 | (dsimp only; simp [i0, u0, u1, u2, yI_same, yI_ne, yI_c, yR_I, yI_row, yR_row, yI_R, yR_ne, yR_same, yI_L, yR_L, vp_in, z_32]; done)
    · first | exact u2 | (dsimp only; simp [i0, u0, u1, u2, yI_same, yI_ne, yI_c, yR_I, yI_row, yR_row, yI_R, yR_ne, yR_same, yI_L, yR_L, vp_in, z_32]; done)
  obtain ⟨h4, t4, Y4⟩ : ∃ h', XT l 11 470 false 245 153 6051 115 [xf 13 104, xi 1, xi 0, xun] [] h3 201 [xf 13 104, xi 1, xi 0, xun] [] h' ∧ Y0 h' a d c := by
    have r0 : xR h3 104 60 = 138 := Y3.1.1 (104, 60, 138) (by decide)
    have k0 : xfk 13 60 = 10002 := rfl
    have i0 : xI h3 104 14 = 0 := Y3.1.2.1 (104, 14, 0) (by decide)
    obtain ⟨-, u0, u1, u2⟩ := id Y3
    refine ⟨_, XT_path (inl := []) (n' := 17) (sp := [201]) (o := [1]) rfl rfl ?_ rfl ⟨Nat.le_of_eq Y3.1.2.2.1, Nat.le_of_eq Y3.1.2.2.2⟩ ?_, ?_, ?_, ?_, ?_⟩
    · refine ⟨rfl, ?_, ?_⟩ <;> first | rfl | (dsimp only; simp [r0, k0, i0, u0, u1, u2, yI_same, yI_ne, yI_c, yR_I, yI_row, yR_row, yI_R, yR_ne, yR_same, yI_L, yR_L, vp_in, z_32] <;> rfl)
    · first | trivial | (dsimp only; simp [r0, k0, i0, u0, u1, u2, yI_same, yI_ne, yI_c, yR_I, yI_row, yR_row, yI_R, yR_ne, yR_same, yI_L, yR_L, vp_in, z_32]; done)
    · dsimp only
      try simp [r0, yR_I, yR_row, yI_R, yR_ne, yR_same]
      (repeat (first | exact Y3.1 | (refine FYL.setI ?_ rfl) | (refine FYL.setC ?_ rfl) | (refine FYL.row ?_ rfl) | (refine FYL.setR ?_ rfl) | (refine FYL.setRv ?_ (by first | assumption | (simp [r0, k0, i0, yR_I, yR_row, yR_ne]; done)) rfl)))
    · first | exact u0 | (dsimp only; simp [r0, k0, i0, u0, u1, u2, yI_same, yI_ne, yI_c, yR_I, yI_row, yR_row, yI_R, yR_ne, yR_same, yI_L, yR_L, vp_in, z_32]; done)
    · first | exact u1 | (dsimp only; simp [r0, k0, i0, u0, u1, u2, yI_same, yI_ne, yI_c, yR_I, yI_row, yR_row, yI_R, yR_ne, yR_same, yI_L, yR_L, vp_in, z_32]; done)
    · first | exact u2 | (dsimp only; simp [r0, k0, i0, u0, u1, u2, yI_same, yI_ne, yI_c, yR_I, yI_row, yR_row, yI_R, yR_ne, yR_same, yI_L, yR_L, vp_in, z_32]; done)
  exact ⟨h4, CX_ofT (by decide) rfl rfl trivial ⟨_, _, _, rfl, rfl, rfl⟩ rfl ⟨Nat.le_of_eq Y4.1.2.2.1.symm, Nat.le_of_eq Y4.1.2.2.2.symm⟩ (t1.tr (t2.tr (t3.tr t4))), Y4⟩

set_option maxRecDepth 100000 in
set_option maxHeartbeats 1000000 in
theorem p1_copyT (l : Launch) (h : XH) (a d c : Int32) (Y : Y0 h a d c) : ∃ h', CX l 12 470 false 105 [xf 11 59, xf 11 48] h [] h' ∧ Y0 h' a d (-1) := by
  obtain ⟨h1, t1, Y1⟩ : ∃ h', XT l 12 470 false 105 153 6051 0 [xf 11 59, xf 11 48] [] h 74 [xf 11 59, xf 11 48] [xf 11 59, xi 0, xf 10009 51] h' ∧ Y0 h' a d c := by
    have r0 : xR h 48 0 = 3 := Y.1.1 (48, 0, 3) (by decide)
    have r1 : xR h 48 1 = 49 := Y.1.1 (48, 1, 49) (by decide)
    have r2 : xR h 48 2 = 50 := Y.1.1 (48, 2, 50) (by decide)
    have r3 : xR h 48 3 = 51 := Y.1.1 (48, 3, 51) (by decide)
    have r4 : xR h 48 8 = 55 := Y.1.1 (48, 8, 55) (by decide)
    have r5 : xR h 48 9 = 56 := Y.1.1 (48, 9, 56) (by decide)
    have r6 : xR h 59 1 = 60 := Y.1.1 (59, 1, 60) (by decide)
    have r7 : xR h 59 2 = 61 := Y.1.1 (59, 2, 61) (by decide)
    have r8 : xR h 59 8 = 66 := Y.1.1 (59, 8, 66) (by decide)
    have r9 : xR h 59 9 = 67 := Y.1.1 (59, 9, 67) (by decide)
    have k0 : xfk 11 0 = 8 := rfl
    have k1 : xfk 11 1 = 10006 := rfl
    have k2 : xfk 11 2 = 10006 := rfl
    have k3 : xfk 11 3 = 10009 := rfl
    have k4 : xfk 11 8 = 10006 := rfl
    have k5 : xfk 11 9 = 10006 := rfl
    obtain ⟨-, u0, u1, u2⟩ := id Y
    refine ⟨_, XT_path (inl := []) (n' := 45) (sp := [74]) (o := []) rfl rfl ?_ rfl ⟨Nat.le_of_eq Y.1.2.2.1, Nat.le_of_eq Y.1.2.2.2⟩ ?_, ?_, ?_, ?_, ?_⟩
    · refine ⟨rfl, ?_, ?_⟩ <;> first | rfl | (dsimp only; simp [r0, r1, r2, r3, r4, r5, r6, r7, r8, r9, k0, k1, k2, k3, k4, k5, u0, u1, u2, yI_same, yI_ne, yI_c, yR_I, yI_row, yR_row, yI_R, yR_ne, yR_same, yI_L, yR_L, vp_in, z_32] <;> rfl)
    · first | trivial | (dsimp only; simp [r0, r1, r2, r3, r4, r5, r6, r7, r8, r9, k0, k1, k2, k3, k4, k5, u0, u1, u2, yI_same, yI_ne, yI_c, yR_I, yI_row, yR_row, yI_R, yR_ne, yR_same, yI_L, yR_L, vp_in, z_32]; done)
    · dsimp only
      try simp [r0, r1, r2, r3, r4, r5, r6, r7, r8, r9, yR_I, yR_row, yI_R, yR_ne, yR_same]
      (repeat (first | exact Y.1 | (refine FYL.setI ?_ rfl) | (refine FYL.setC ?_ rfl) | (refine FYL.row ?_ rfl) | (refine FYL.setR ?_ rfl) | (refine FYL.setRv ?_ (by first | assumption | (simp [r0, r1, r2, r3, r4, r5, r6, r7, r8, r9, k0, k1, k2, k3, k4, k5, yR_I, yR_row, yR_ne]; done)) rfl)))
    · first | exact u0 | (dsimp only; simp [r0, r1, r2, r3, r4, r5, r6, r7, r8, r9, k0, k1, k2, k3, k4, k5, u0, u1, u2, yI_same, yI_ne, yI_c, yR_I, yI_row, yR_row, yI_R, yR_ne, yR_same, yI_L, yR_L, vp_in, z_32]; done)
    · first | exact u1 | (dsimp only; simp [r0, r1, r2, r3, r4, r5, r6, r7, r8, r9, k0, k1, k2, k3, k4, k5, u0, u1, u2, yI_same, yI_ne, yI_c, yR_I, yI_row, yR_row, yI_R, yR_ne, yR_same, yI_L, yR_L, vp_in, z_32]; done)
    · first | exact u2 | (dsimp only; simp [r0, r1, r2, r3, r4, r5, r6, r7, r8, r9, k0, k1, k2, k3, k4, k5, u0, u1, u2, yI_same, yI_ne, yI_c, yR_I, yI_row, yR_row, yI_R, yR_ne, yR_same, yI_L, yR_L, vp_in, z_32]; done)
  obtain ⟨h2, t2, Y2⟩ : ∃ h', XT l 12 470 false 105 153 6051 74 [xf 11 59, xf 11 48] [xf 11 59, xi 0, xf 10009 51] h1 141 [xf 11 59, xf 11 48] [] h' ∧ Y0 h' a d (-1) := by
    have r0 : xR h1 48 4 = 52 := Y1.1.1 (48, 4, 52) (by decide)
    have r1 : xR h1 48 5 = 53 := Y1.1.1 (48, 5, 53) (by decide)
    have r2 : xR h1 48 6 = 54 := Y1.1.1 (48, 6, 54) (by decide)
    have r3 : xR h1 59 3 = 62 := Y1.1.1 (59, 3, 62) (by decide)
    have r4 : xR h1 59 4 = 63 := Y1.1.1 (59, 4, 63) (by decide)
    have r5 : xR h1 59 5 = 64 := Y1.1.1 (59, 5, 64) (by decide)
    have r6 : xR h1 59 6 = 65 := Y1.1.1 (59, 6, 65) (by decide)
    have k0 : xfk 11 3 = 10009 := rfl
    have k1 : xfk 11 4 = 10008 := rfl
    have k2 : xfk 11 5 = 10008 := rfl
    have k3 : xfk 11 6 = 10008 := rfl
    obtain ⟨-, u0, u1, u2⟩ := id Y1
    refine ⟨_, XT_path (inl := []) (n' := 40) (sp := [141]) (o := []) rfl rfl ?_ rfl ⟨Nat.le_of_eq Y1.1.2.2.1, Nat.le_of_eq Y1.1.2.2.2⟩ ?_, ?_, ?_, ?_, ?_⟩
    · refine ⟨rfl, ?_, ?_⟩ <;> first | rfl | (dsimp only; simp [r0, r1, r2, r3, r4, r5, r6, k0, k1, k2, k3, u0, u1, u2, yI_same, yI_ne, yI_c, yR_I, yI_row, yR_row, yI_R, yR_ne, yR_same, yI_L, yR_L, vp_in, z_32] <;> rfl)
    · first | trivial | (dsimp only; simp [r0, r1, r2, r3, r4, r5, r6, k0, k1, k2, k3, u0, u1, u2, yI_same, yI_ne, yI_c, yR_I, yI_row, yR_row, yI_R, yR_ne, yR_same, yI_L, yR_L, vp_in, z_32]; done)
    · dsimp only
      try simp [r0, r1, r2, r3, r4, r5, r6, yR_I, yR_row, yI_R, yR_ne, yR_same]
      (repeat (first | exact Y1.1 | (refine FYL.setI ?_ rfl) | (refine FYL.setC ?_ rfl) | (refine FYL.row ?_ rfl) | (refine FYL.setR ?_ rfl) | (refine FYL.setRv ?_ (by first | assumption | (simp [r0, r1, r2, r3, r4, r5, r6, k0, k1, k2, k3, yR_I, yR_row, yR_ne]; done)) rfl)))
    · first | exact u0 | (dsimp only; simp [r0, r1, r2, r3, r4, r5, r6, k0, k1, k2, k3, u0, u1, u2, yI_same, yI_ne, yI_c, yR_I, yI_row, yR_row, yI_R, yR_ne, yR_same, yI_L, yR_L, vp_in, z_32]; done)
    · first | exact u1 | (dsimp only; simp [r0, r1, r2, r3, r4, r5, r6, k0, k1, k2, k3, u0, u1, u2, yI_same, yI_ne, yI_c, yR_I, yI_row, yR_row, yI_R, yR_ne, yR_same, yI_L, yR_L, vp_in, z_32]; done)
    · first | exact u2 | (dsimp only; simp [r0, r1, r2, r3, r4, r5, r6, k0, k1, k2, k3, u0, u1, u2, yI_same, yI_ne, yI_c, yR_I, yI_row, yR_row, yI_R, yR_ne, yR_same, yI_L, yR_L, vp_in, z_32]; done)
  exact ⟨h2, CX_ofT (by decide) rfl rfl trivial ⟨_, _, _, rfl, rfl, rfl⟩ rfl ⟨Nat.le_of_eq Y2.1.2.2.1.symm, Nat.le_of_eq Y2.1.2.2.2.symm⟩ (t1.tr t2), Y2⟩

set_option maxRecDepth 100000 in
set_option maxHeartbeats 1000000 in
theorem p1_lay (l : Launch) (h : XH) (a d c : Int32) (Y : Y0 h a d c) : ∃ h', CX l 12 470 false 248 [xf 13 104] h [] h' ∧ Y0 h' a d c := by
  obtain ⟨h1, t1, Y1⟩ : ∃ h', XT l 12 470 false 248 153 6051 0 [xf 13 104, xun] [] h 44 [xf 13 104, xi 6] [] h' ∧ Y0 h' a d c := by
    have r0 : xR h 104 55 = 133 := Y.1.1 (104, 55, 133) (by decide)
    have r1 : xR h 104 56 = 134 := Y.1.1 (104, 56, 134) (by decide)
    have k0 : xfk 13 55 = 10012 := rfl
    have k1 : xfk 13 56 = 10012 := rfl
    obtain ⟨-, u0, u1, u2⟩ := id Y
    refine ⟨_, XT_path (inl := []) (n' := 160) (sp := [44]) (o := [0, 0, 0, 0, 0, 0, 1]) rfl rfl ?_ rfl ⟨Nat.le_of_eq Y.1.2.2.1, Nat.le_of_eq Y.1.2.2.2⟩ ?_, ?_, ?_, ?_, ?_⟩
    · refine ⟨rfl, ?_, ?_⟩ <;> first | rfl | (dsimp only; simp [r0, r1, k0, k1, u0, u1, u2, yI_same, yI_ne, yI_c, yR_I, yI_row, yR_row, yI_R, yR_ne, yR_same, yI_L, yR_L, vp_in, z_32] <;> rfl)
    · first | trivial | (dsimp only; simp [r0, r1, k0, k1, u0, u1, u2, yI_same, yI_ne, yI_c, yR_I, yI_row, yR_row, yI_R, yR_ne, yR_same, yI_L, yR_L, vp_in, z_32]; done)
    · dsimp only
      try simp [r0, r1, yR_I, yR_row, yI_R, yR_ne, yR_same]
      (repeat (first | exact Y.1 | (refine FYL.setI ?_ rfl) | (refine FYL.setC ?_ rfl) | (refine FYL.row ?_ rfl) | (refine FYL.setR ?_ rfl) | (refine FYL.setRv ?_ (by first | assumption | (simp [r0, r1, k0, k1, yR_I, yR_row, yR_ne]; done)) rfl)))
    · first | exact u0 | (dsimp only; simp [r0, r1, k0, k1, u0, u1, u2, yI_same, yI_ne, yI_c, yR_I, yI_row, yR_row, yI_R, yR_ne, yR_same, yI_L, yR_L, vp_in, z_32]; done)
    · first | exact u1 | (dsimp only; simp [r0, r1, k0, k1, u0, u1, u2, yI_same, yI_ne, yI_c, yR_I, yI_row, yR_row, yI_R, yR_ne, yR_same, yI_L, yR_L, vp_in, z_32]; done)
    · first | exact u2 | (dsimp only; simp [r0, r1, k0, k1, u0, u1, u2, yI_same, yI_ne, yI_c, yR_I, yI_row, yR_row, yI_R, yR_ne, yR_same, yI_L, yR_L, vp_in, z_32]; done)
  obtain ⟨h2, t2, Y2⟩ : ∃ h', XT l 12 470 false 248 153 6051 44 [xf 13 104, xi 6] [] h1 103 [xf 13 104, xi 8] [] h' ∧ Y0 h' a d c := by
    have r0 : xR h1 104 57 = 135 := Y1.1.1 (104, 57, 135) (by decide)
    have r1 : xR h1 104 58 = 136 := Y1.1.1 (104, 58, 136) (by decide)
    have r2 : xR h1 104 59 = 137 := Y1.1.1 (104, 59, 137) (by decide)
    have k0 : xfk 13 57 = 10016 := rfl
    have k1 : xfk 13 58 = 10016 := rfl
    have k2 : xfk 13 59 = 10016 := rfl
    obtain ⟨-, u0, u1, u2⟩ := id Y1
    refine ⟨_, XT_path (inl := []) (n' := 290) (sp := [103]) (o := [0, 0, 0, 0, 0, 0, 0, 0, 1]) rfl rfl ?_ rfl ⟨Nat.le_of_eq Y1.1.2.2.1, Nat.le_of_eq Y1.1.2.2.2⟩ ?_, ?_, ?_, ?_, ?_⟩
    · refine ⟨rfl, ?_, ?_⟩ <;> first | rfl | (dsimp only; simp [r0, r1, r2, k0, k1, k2, u0, u1, u2, yI_same, yI_ne, yI_c, yR_I, yI_row, yR_row, yI_R, yR_ne, yR_same, yI_L, yR_L, vp_in, z_32] <;> rfl)
    · first | trivial | (dsimp only; simp [r0, r1, r2, k0, k1, k2, u0, u1, u2, yI_same, yI_ne, yI_c, yR_I, yI_row, yR_row, yI_R, yR_ne, yR_same, yI_L, yR_L, vp_in, z_32]; done)
    · dsimp only
      try simp [r0, r1, r2, yR_I, yR_row, yI_R, yR_ne, yR_same]
      (repeat (first | exact Y1.1 | (refine FYL.setI ?_ rfl) | (refine FYL.setC ?_ rfl) | (refine FYL.row ?_ rfl) | (refine FYL.setR ?_ rfl) | (refine FYL.setRv ?_ (by first | assumption | (simp [r0, r1, r2, k0, k1, k2, yR_I, yR_row, yR_ne]; done)) rfl)))
    · first | exact u0 | (dsimp only; simp [r0, r1, r2, k0, k1, k2, u0, u1, u2, yI_same, yI_ne, yI_c, yR_I, yI_row, yR_row, yI_R, yR_ne, yR_same, yI_L, yR_L, vp_in, z_32]; done)
    · first | exact u1 | (dsimp only; simp [r0, r1, r2, k0, k1, k2, u0, u1, u2, yI_same, yI_ne, yI_c, yR_I, yI_row, yR_row, yI_R, yR_ne, yR_same, yI_L, yR_L, vp_in, z_32]; done)
    · first | exact u2 | (dsimp only; simp [r0, r1, r2, k0, k1, k2, u0, u1, u2, yI_same, yI_ne, yI_c, yR_I, yI_row, yR_row, yI_R, yR_ne, yR_same, yI_L, yR_L, vp_in, z_32]; done)
  obtain ⟨h3, t3, Y3⟩ : ∃ h', XT l 12 470 false 248 153 6051 103 [xf 13 104, xi 8] [] h2 119 [xf 13 104, xi 8] [] h' ∧ Y0 h' a d c := by
    have r0 : xR h2 104 60 = 138 := Y2.1.1 (104, 60, 138) (by decide)
    have k0 : xfk 13 60 = 10002 := rfl
    obtain ⟨-, u0, u1, u2⟩ := id Y2
    refine ⟨_, XT_path (inl := [177]) (n' := 22) (sp := [119]) (o := []) rfl rfl ?_ rfl ⟨Nat.le_of_eq Y2.1.2.2.1, Nat.le_of_eq Y2.1.2.2.2⟩ ?_, ?_, ?_, ?_, ?_⟩
    · refine ⟨rfl, ?_, ?_⟩ <;> first | rfl | (dsimp only; simp [r0, k0, u0, u1, u2, yI_same, yI_ne, yI_c, yR_I, yI_row, yR_row, yI_R, yR_ne, yR_same, yI_L, yR_L, vp_in, z_32] <;> rfl)
    · first | trivial | (dsimp only; simp [r0, k0, u0, u1, u2, yI_same, yI_ne, yI_c, yR_I, yI_row, yR_row, yI_R, yR_ne, yR_same, yI_L, yR_L, vp_in, z_32]; done)
    · dsimp only
      try simp [r0, yR_I, yR_row, yI_R, yR_ne, yR_same]
      (repeat (first | exact Y2.1 | (refine FYL.setI ?_ rfl) | (refine FYL.setC ?_ rfl) | (refine FYL.row ?_ rfl) | (refine FYL.setR ?_ rfl) | (refine FYL.setRv ?_ (by first | assumption | (simp [r0, k0, yR_I, yR_row, yR_ne]; done)) rfl)))
    · first | exact u0 | (dsimp only; simp [r0, k0, u0, u1, u2, yI_same, yI_ne, yI_c, yR_I, yI_row, yR_row, yI_R, yR_ne, yR_same, yI_L, yR_L, vp_in, z_32]; done)
    · first | exact u1 | (dsimp only; simp [r0, k0, u0, u1, u2, yI_same, yI_ne, yI_c, yR_I, yI_row, yR_row, yI_R, yR_ne, yR_same, yI_L, yR_L, vp_in, z_32]; done)
    · first | exact u2 | (dsimp only; simp [r0, k0, u0, u1, u2, yI_same, yI_ne, yI_c, yR_I, yI_row, yR_row, yI_R, yR_ne, yR_same, yI_L, yR_L, vp_in, z_32]; done)
  exact ⟨h3, CX_ofT (by decide) rfl rfl trivial ⟨_, _, _, rfl, rfl, rfl⟩ rfl ⟨Nat.le_of_eq Y3.1.2.2.1.symm, Nat.le_of_eq Y3.1.2.2.2.symm⟩ (t1.tr (t2.tr t3)), Y3⟩

set_option maxRecDepth 100000 in
set_option maxHeartbeats 1000000 in
theorem p1_sloop (l : Launch) (n d c : Int32) (hn : n.toInt ≤ 99) : ∀ (m : Nat) (k : Int32) (h : XH), Y0 h k d c → 0 ≤ k.toInt → k.toInt + m = n.toInt → ∃ h', XT l 13 518 false 97 153 6051 29 [xf 12 2, xi n, xi k] [] h 47 [xf 12 2, xi n, xi n] [] h' ∧ Y0 h' n d c
  | 0, k, h, Y, g0, g1 => by
    have e : k = n := Int32.toInt_inj.mp (by omega)
    subst e
    refine ⟨_, XT_path (inl := []) (n' := 9) (sp := [47]) (o := [1]) rfl rfl ?_ rfl ⟨Nat.le_of_eq Y.1.2.2.1, Nat.le_of_eq Y.1.2.2.2⟩ ?_, ?_⟩
    · exact ⟨rfl, rfl, rfl⟩
    · exact ⟨trivial, Int32.le_iff_toInt_le.mpr (Int.le_refl _)⟩
    · exact Y
  | m + 1, k, h, Y, g0, g1 => by
    have hk : ¬ n ≤ k := fun z => by
      have := Int32.le_iff_toInt_le.mp z
      omega
    obtain ⟨h1, t1, Y1⟩ : ∃ h', XT l 13 518 false 97 153 6051 29 [xf 12 2, xi n, xi k] [] h 38 [xf 12 2, xi n, xi k] [xf 11 48] h' ∧ Y0 h' k d c := by
      have r0 : xR h 2 3 = 48 := Y.1.1 (2, 3, 48) (by decide)
      have k0 : xfk 12 3 = 11 := rfl
      obtain ⟨-, u0, u1, u2⟩ := id Y
      refine ⟨_, XT_path (inl := []) (n' := 10) (sp := [38]) (o := [0]) rfl rfl ?_ rfl ⟨Nat.le_of_eq Y.1.2.2.1, Nat.le_of_eq Y.1.2.2.2⟩ ?_, ?_, ?_, ?_, ?_⟩
      · refine ⟨rfl, ?_, ?_⟩ <;> first | rfl | (dsimp only; simp [r0, k0, u0, u1, u2, hk, yI_same, yI_ne, yI_c, yR_I, yI_row, yR_row, yI_R, yR_ne, yR_same, yI_L, yR_L, vp_in, z_32] <;> rfl)
      · first | trivial | (dsimp only; simp [r0, k0, u0, u1, u2, hk, yI_same, yI_ne, yI_c, yR_I, yI_row, yR_row, yI_R, yR_ne, yR_same, yI_L, yR_L, vp_in, z_32]; done)
      · dsimp only
        (repeat (first | exact Y.1 | (refine FYL.setI ?_ rfl) | (refine FYL.setC ?_ rfl) | (refine FYL.row ?_ rfl) | (refine FYL.setR ?_ rfl) | (refine FYL.setRv ?_ (by first | assumption | (simp [r0, k0, yR_I, yR_row, yR_ne]; done)) rfl)))
      · first | exact u0 | (dsimp only; simp [r0, k0, u0, u1, u2, hk, yI_same, yI_ne, yI_c, yR_I, yI_row, yR_row, yI_R, yR_ne, yR_same, yI_L, yR_L, vp_in, z_32]; done)
      · first | exact u1 | (dsimp only; simp [r0, k0, u0, u1, u2, hk, yI_same, yI_ne, yI_c, yR_I, yI_row, yR_row, yI_R, yR_ne, yR_same, yI_L, yR_L, vp_in, z_32]; done)
      · first | exact u2 | (dsimp only; simp [r0, k0, u0, u1, u2, hk, yI_same, yI_ne, yI_c, yR_I, yI_row, yR_row, yI_R, yR_ne, yR_same, yI_L, yR_L, vp_in, z_32]; done)
    obtain ⟨h2, c2, Y2⟩ := p1_passN l h1 k d c Y1
    have t2 : XT l 13 518 false 97 153 6051 38 [xf 12 2, xi n, xi k] [xf 11 48] h1 41 [xf 12 2, xi n, xi k] [] h2 := XT_call rfl rfl rfl (vs := [xf 11 48]) (rest := []) rfl rfl rfl c2 (by decide) (by decide) (by decide) ⟨Nat.le_of_eq Y2.1.2.2.1, Nat.le_of_eq Y2.1.2.2.2⟩
    obtain ⟨h3, t3, Y3⟩ : ∃ h', XT l 13 518 false 97 153 6051 41 [xf 12 2, xi n, xi k] [] h2 29 [xf 12 2, xi n, xi (k + 1)] [] h' ∧ Y0 h' (k + 1) d c := by
      obtain ⟨-, u0, u1, u2⟩ := id Y2
      refine ⟨_, XT_path (inl := []) (n' := 7) (sp := [29]) (o := []) rfl rfl ?_ rfl ⟨Nat.le_of_eq Y2.1.2.2.1, Nat.le_of_eq Y2.1.2.2.2⟩ ?_, ?_, ?_, ?_, ?_⟩
      · refine ⟨rfl, ?_, ?_⟩ <;> first | rfl | (dsimp only; simp [u0, u1, u2, hk, yI_same, yI_ne, yI_c, yR_I, yI_row, yR_row, yI_R, yR_ne, yR_same, yI_L, yR_L, vp_in, z_32] <;> rfl)
      · first | trivial | (dsimp only; simp [u0, u1, u2, hk, yI_same, yI_ne, yI_c, yR_I, yI_row, yR_row, yI_R, yR_ne, yR_same, yI_L, yR_L, vp_in, z_32]; done)
      · dsimp only
        (repeat (first | exact Y2.1 | (refine FYL.setI ?_ rfl) | (refine FYL.setC ?_ rfl) | (refine FYL.row ?_ rfl) | (refine FYL.setR ?_ rfl) | (refine FYL.setRv ?_ (by first | assumption | (simp [yR_I, yR_row, yR_ne]; done)) rfl)))
      · first | exact u0 | (dsimp only; simp [u0, u1, u2, hk, yI_same, yI_ne, yI_c, yR_I, yI_row, yR_row, yI_R, yR_ne, yR_same, yI_L, yR_L, vp_in, z_32]; done)
      · first | exact u1 | (dsimp only; simp [u0, u1, u2, hk, yI_same, yI_ne, yI_c, yR_I, yI_row, yR_row, yI_R, yR_ne, yR_same, yI_L, yR_L, vp_in, z_32]; done)
      · first | exact u2 | (dsimp only; simp [u0, u1, u2, hk, yI_same, yI_ne, yI_c, yR_I, yI_row, yR_row, yI_R, yR_ne, yR_same, yI_L, yR_L, vp_in, z_32]; done)
    have e := y_succ g0 (by omega)
    obtain ⟨h9, t9, Y9⟩ := p1_sloop l n d c hn m (k + 1) h3 Y3 (by omega) (by omega)
    exact ⟨h9, (t1.tr (t2.tr t3)).tr t9, Y9⟩

set_option maxRecDepth 100000 in
set_option maxHeartbeats 1000000 in
theorem p1_mloop (l : Launch) (n a c : Int32) (hn : n.toInt ≤ 99) : ∀ (m : Nat) (k : Int32) (h : XH), Y0 h a k c → 0 ≤ k.toInt → k.toInt + m = n.toInt → ∃ h', XT l 13 518 false 244 153 6051 37 [xf 13 104, xi n, xi k] [] h 53 [xf 13 104, xi n, xi n] [] h' ∧ Y0 h' a n c
  | 0, k, h, Y, g0, g1 => by
    have e : k = n := Int32.toInt_inj.mp (by omega)
    subst e
    refine ⟨_, XT_path (inl := []) (n' := 9) (sp := [53]) (o := [1]) rfl rfl ?_ rfl ⟨Nat.le_of_eq Y.1.2.2.1, Nat.le_of_eq Y.1.2.2.2⟩ ?_, ?_⟩
    · exact ⟨rfl, rfl, rfl⟩
    · exact ⟨trivial, Int32.le_iff_toInt_le.mpr (Int.le_refl _)⟩
    · exact Y
  | m + 1, k, h, Y, g0, g1 => by
    have hk : ¬ n ≤ k := fun z => by
      have := Int32.le_iff_toInt_le.mp z
      omega
    obtain ⟨h1, t1, Y1⟩ : ∃ h', XT l 13 518 false 244 153 6051 37 [xf 13 104, xi n, xi k] [] h 44 [xf 13 104, xi n, xi k] [xi 0, xf 13 104] h' ∧ Y0 h' a k c := by
      obtain ⟨-, u0, u1, u2⟩ := id Y
      refine ⟨_, XT_path (inl := []) (n' := 10) (sp := [44]) (o := [0]) rfl rfl ?_ rfl ⟨Nat.le_of_eq Y.1.2.2.1, Nat.le_of_eq Y.1.2.2.2⟩ ?_, ?_, ?_, ?_, ?_⟩
      · refine ⟨rfl, ?_, ?_⟩ <;> first | rfl | (dsimp only; simp [u0, u1, u2, hk, yI_same, yI_ne, yI_c, yR_I, yI_row, yR_row, yI_R, yR_ne, yR_same, yI_L, yR_L, vp_in, z_32] <;> rfl)
      · first | trivial | (dsimp only; simp [u0, u1, u2, hk, yI_same, yI_ne, yI_c, yR_I, yI_row, yR_row, yI_R, yR_ne, yR_same, yI_L, yR_L, vp_in, z_32]; done)
      · dsimp only
        (repeat (first | exact Y.1 | (refine FYL.setI ?_ rfl) | (refine FYL.setC ?_ rfl) | (refine FYL.row ?_ rfl) | (refine FYL.setR ?_ rfl) | (refine FYL.setRv ?_ (by first | assumption | (simp [yR_I, yR_row, yR_ne]; done)) rfl)))
      · first | exact u0 | (dsimp only; simp [u0, u1, u2, hk, yI_same, yI_ne, yI_c, yR_I, yI_row, yR_row, yI_R, yR_ne, yR_same, yI_L, yR_L, vp_in, z_32]; done)
      · first | exact u1 | (dsimp only; simp [u0, u1, u2, hk, yI_same, yI_ne, yI_c, yR_I, yI_row, yR_row, yI_R, yR_ne, yR_same, yI_L, yR_L, vp_in, z_32]; done)
      · first | exact u2 | (dsimp only; simp [u0, u1, u2, hk, yI_same, yI_ne, yI_c, yR_I, yI_row, yR_row, yI_R, yR_ne, yR_same, yI_L, yR_L, vp_in, z_32]; done)
    obtain ⟨h2, c2, Y2⟩ := p1_goOn0 l h1 a k c Y1
    have t2 : XT l 13 518 false 244 153 6051 44 [xf 13 104, xi n, xi k] [xi 0, xf 13 104] h1 47 [xf 13 104, xi n, xi k] [] h2 := XT_call rfl rfl rfl (vs := [xf 13 104, xi 0]) (rest := []) rfl rfl rfl c2 (by decide) (by decide) (by decide) ⟨Nat.le_of_eq Y2.1.2.2.1, Nat.le_of_eq Y2.1.2.2.2⟩
    obtain ⟨h3, t3, Y3⟩ : ∃ h', XT l 13 518 false 244 153 6051 47 [xf 13 104, xi n, xi k] [] h2 37 [xf 13 104, xi n, xi (k + 1)] [] h' ∧ Y0 h' a (k + 1) c := by
      obtain ⟨-, u0, u1, u2⟩ := id Y2
      refine ⟨_, XT_path (inl := []) (n' := 7) (sp := [37]) (o := []) rfl rfl ?_ rfl ⟨Nat.le_of_eq Y2.1.2.2.1, Nat.le_of_eq Y2.1.2.2.2⟩ ?_, ?_, ?_, ?_, ?_⟩
      · refine ⟨rfl, ?_, ?_⟩ <;> first | rfl | (dsimp only; simp [u0, u1, u2, hk, yI_same, yI_ne, yI_c, yR_I, yI_row, yR_row, yI_R, yR_ne, yR_same, yI_L, yR_L, vp_in, z_32] <;> rfl)
      · first | trivial | (dsimp only; simp [u0, u1, u2, hk, yI_same, yI_ne, yI_c, yR_I, yI_row, yR_row, yI_R, yR_ne, yR_same, yI_L, yR_L, vp_in, z_32]; done)
      · dsimp only
        (repeat (first | exact Y2.1 | (refine FYL.setI ?_ rfl) | (refine FYL.setC ?_ rfl) | (refine FYL.row ?_ rfl) | (refine FYL.setR ?_ rfl) | (refine FYL.setRv ?_ (by first | assumption | (simp [yR_I, yR_row, yR_ne]; done)) rfl)))
      · first | exact u0 | (dsimp only; simp [u0, u1, u2, hk, yI_same, yI_ne, yI_c, yR_I, yI_row, yR_row, yI_R, yR_ne, yR_same, yI_L, yR_L, vp_in, z_32]; done)
      · first | exact u1 | (dsimp only; simp [u0, u1, u2, hk, yI_same, yI_ne, yI_c, yR_I, yI_row, yR_row, yI_R, yR_ne, yR_same, yI_L, yR_L, vp_in, z_32]; done)
      · first | exact u2 | (dsimp only; simp [u0, u1, u2, hk, yI_same, yI_ne, yI_c, yR_I, yI_row, yR_row, yI_R, yR_ne, yR_same, yI_L, yR_L, vp_in, z_32]; done)
    have e := y_succ g0 (by omega)
    obtain ⟨h9, t9, Y9⟩ := p1_mloop l n a c hn m (k + 1) h3 Y3 (by omega) (by omega)
    exact ⟨h9, (t1.tr (t2.tr t3)).tr t9, Y9⟩

set_option maxRecDepth 100000 in
set_option maxHeartbeats 1000000 in
theorem p1_tloop (l : Launch) (n a d c : Int32) (w : Int32) (hc : ¬ c = 3) (hn : n.toInt ≤ 99) : ∀ (m : Nat) (k : Int32) (h : XH), Y0 h a d c → 0 ≤ k.toInt → k.toInt + m = n.toInt → ∃ h', XT l 13 516 false 159 153 6051 70 [xf 12 2, xi w, xi 0, xi n, xi k] [] h 89 [xf 12 2, xi w, xi 0, xi n, xi n] [] h' ∧ Y0 h' a d c
  | 0, k, h, Y, g0, g1 => by
    have e : k = n := Int32.toInt_inj.mp (by omega)
    subst e
    refine ⟨_, XT_path (inl := []) (n' := 9) (sp := [89]) (o := [1]) rfl rfl ?_ rfl ⟨Nat.le_of_eq Y.1.2.2.1, Nat.le_of_eq Y.1.2.2.2⟩ ?_, ?_⟩
    · exact ⟨rfl, rfl, rfl⟩
    · exact ⟨trivial, Int32.le_iff_toInt_le.mpr (Int.le_refl _)⟩
    · exact Y
  | m + 1, k, h, Y, g0, g1 => by
    have hk : ¬ n ≤ k := fun z => by
      have := Int32.le_iff_toInt_le.mp z
      omega
    obtain ⟨h1, t1, Y1⟩ : ∃ h', XT l 13 516 false 159 153 6051 70 [xf 12 2, xi w, xi 0, xi n, xi k] [] h 80 [xf 12 2, xi w, xi 0, xi n, xi k] [xf 11 59] h' ∧ Y0 h' a d c := by
      have r0 : xR h 2 4 = 59 := Y.1.1 (2, 4, 59) (by decide)
      have k0 : xfk 12 4 = 11 := rfl
      obtain ⟨-, u0, u1, u2⟩ := id Y
      refine ⟨_, XT_path (inl := []) (n' := 10) (sp := [80]) (o := [0]) rfl rfl ?_ rfl ⟨Nat.le_of_eq Y.1.2.2.1, Nat.le_of_eq Y.1.2.2.2⟩ ?_, ?_, ?_, ?_, ?_⟩
      · refine ⟨rfl, ?_, ?_⟩ <;> first | rfl | (dsimp only; simp [r0, k0, u0, u1, u2, hc, hk, yI_same, yI_ne, yI_c, yR_I, yI_row, yR_row, yI_R, yR_ne, yR_same, yI_L, yR_L, vp_in, z_32] <;> rfl)
      · first | trivial | (dsimp only; simp [r0, k0, u0, u1, u2, hc, hk, yI_same, yI_ne, yI_c, yR_I, yI_row, yR_row, yI_R, yR_ne, yR_same, yI_L, yR_L, vp_in, z_32]; done)
      · dsimp only
        (repeat (first | exact Y.1 | (refine FYL.setI ?_ rfl) | (refine FYL.setC ?_ rfl) | (refine FYL.row ?_ rfl) | (refine FYL.setR ?_ rfl) | (refine FYL.setRv ?_ (by first | assumption | (simp [r0, k0, yR_I, yR_row, yR_ne]; done)) rfl)))
      · first | exact u0 | (dsimp only; simp [r0, k0, u0, u1, u2, hc, hk, yI_same, yI_ne, yI_c, yR_I, yI_row, yR_row, yI_R, yR_ne, yR_same, yI_L, yR_L, vp_in, z_32]; done)
      · first | exact u1 | (dsimp only; simp [r0, k0, u0, u1, u2, hc, hk, yI_same, yI_ne, yI_c, yR_I, yI_row, yR_row, yI_R, yR_ne, yR_same, yI_L, yR_L, vp_in, z_32]; done)
      · first | exact u2 | (dsimp only; simp [r0, k0, u0, u1, u2, hc, hk, yI_same, yI_ne, yI_c, yR_I, yI_row, yR_row, yI_R, yR_ne, yR_same, yI_L, yR_L, vp_in, z_32]; done)
    obtain ⟨h2, c2, Y2⟩ := p1_passT l h1 a d c Y1 hc
    have t2 : XT l 13 516 false 159 153 6051 80 [xf 12 2, xi w, xi 0, xi n, xi k] [xf 11 59] h1 83 [xf 12 2, xi w, xi 0, xi n, xi k] [] h2 := XT_call rfl rfl rfl (vs := [xf 11 59]) (rest := []) rfl rfl rfl c2 (by decide) (by decide) (by decide) ⟨Nat.le_of_eq Y2.1.2.2.1, Nat.le_of_eq Y2.1.2.2.2⟩
    obtain ⟨h3, t3, Y3⟩ : ∃ h', XT l 13 516 false 159 153 6051 83 [xf 12 2, xi w, xi 0, xi n, xi k] [] h2 70 [xf 12 2, xi w, xi 0, xi n, xi (k + 1)] [] h' ∧ Y0 h' a d c := by
      obtain ⟨-, u0, u1, u2⟩ := id Y2
      refine ⟨_, XT_path (inl := []) (n' := 7) (sp := [70]) (o := []) rfl rfl ?_ rfl ⟨Nat.le_of_eq Y2.1.2.2.1, Nat.le_of_eq Y2.1.2.2.2⟩ ?_, ?_, ?_, ?_, ?_⟩
      · refine ⟨rfl, ?_, ?_⟩ <;> first | rfl | (dsimp only; simp [u0, u1, u2, hc, hk, yI_same, yI_ne, yI_c, yR_I, yI_row, yR_row, yI_R, yR_ne, yR_same, yI_L, yR_L, vp_in, z_32] <;> rfl)
      · first | trivial | (dsimp only; simp [u0, u1, u2, hc, hk, yI_same, yI_ne, yI_c, yR_I, yI_row, yR_row, yI_R, yR_ne, yR_same, yI_L, yR_L, vp_in, z_32]; done)
      · dsimp only
        (repeat (first | exact Y2.1 | (refine FYL.setI ?_ rfl) | (refine FYL.setC ?_ rfl) | (refine FYL.row ?_ rfl) | (refine FYL.setR ?_ rfl) | (refine FYL.setRv ?_ (by first | assumption | (simp [yR_I, yR_row, yR_ne]; done)) rfl)))
      · first | exact u0 | (dsimp only; simp [u0, u1, u2, hc, hk, yI_same, yI_ne, yI_c, yR_I, yI_row, yR_row, yI_R, yR_ne, yR_same, yI_L, yR_L, vp_in, z_32]; done)
      · first | exact u1 | (dsimp only; simp [u0, u1, u2, hc, hk, yI_same, yI_ne, yI_c, yR_I, yI_row, yR_row, yI_R, yR_ne, yR_same, yI_L, yR_L, vp_in, z_32]; done)
      · first | exact u2 | (dsimp only; simp [u0, u1, u2, hc, hk, yI_same, yI_ne, yI_c, yR_I, yI_row, yR_row, yI_R, yR_ne, yR_same, yI_L, yR_L, vp_in, z_32]; done)
    have e := y_succ g0 (by omega)
    obtain ⟨h9, t9, Y9⟩ := p1_tloop l n a d c w hc hn m (k + 1) h3 Y3 (by omega) (by omega)
    exact ⟨h9, (t1.tr (t2.tr t3)).tr t9, Y9⟩

set_option maxRecDepth 100000 in
set_option maxHeartbeats 1000000 in
theorem p1_tloop3 (l : Launch) (n a d c : Int32) (w : Int32) (hc : c = 3) (hn : n.toInt ≤ 99) : ∀ (m : Nat) (k : Int32) (h : XH), Y0 h a d c → 0 ≤ k.toInt → k.toInt + m = n.toInt → ∃ h', XT l 13 516 false 159 153 6051 70 [xf 12 2, xi w, xi 0, xi n, xi k] [] h 89 [xf 12 2, xi w, xi 0, xi n, xi n] [] h' ∧ Y0 h' a d c
  | 0, k, h, Y, g0, g1 => by
    have e : k = n := Int32.toInt_inj.mp (by omega)
    subst e
    refine ⟨_, XT_path (inl := []) (n' := 9) (sp := [89]) (o := [1]) rfl rfl ?_ rfl ⟨Nat.le_of_eq Y.1.2.2.1, Nat.le_of_eq Y.1.2.2.2⟩ ?_, ?_⟩
    · exact ⟨rfl, rfl, rfl⟩
    · exact ⟨trivial, Int32.le_iff_toInt_le.mpr (Int.le_refl _)⟩
    · exact Y
  | m + 1, k, h, Y, g0, g1 => by
    have hk : ¬ n ≤ k := fun z => by
      have := Int32.le_iff_toInt_le.mp z
      omega
    obtain ⟨h1, t1, Y1⟩ : ∃ h', XT l 13 516 false 159 153 6051 70 [xf 12 2, xi w, xi 0, xi n, xi k] [] h 80 [xf 12 2, xi w, xi 0, xi n, xi k] [xf 11 59] h' ∧ Y0 h' a d c := by
      have r0 : xR h 2 4 = 59 := Y.1.1 (2, 4, 59) (by decide)
      have k0 : xfk 12 4 = 11 := rfl
      obtain ⟨-, u0, u1, u2⟩ := id Y
      refine ⟨_, XT_path (inl := []) (n' := 10) (sp := [80]) (o := [0]) rfl rfl ?_ rfl ⟨Nat.le_of_eq Y.1.2.2.1, Nat.le_of_eq Y.1.2.2.2⟩ ?_, ?_, ?_, ?_, ?_⟩
      · refine ⟨rfl, ?_, ?_⟩ <;> first | rfl | (dsimp only; simp [r0, k0, u0, u1, u2, hc, hk, yI_same, yI_ne, yI_c, yR_I, yI_row, yR_row, yI_R, yR_ne, yR_same, yI_L, yR_L, vp_in, z_32] <;> rfl)
      · first | trivial | (dsimp only; simp [r0, k0, u0, u1, u2, hc, hk, yI_same, yI_ne, yI_c, yR_I, yI_row, yR_row, yI_R, yR_ne, yR_same, yI_L, yR_L, vp_in, z_32]; done)
      · dsimp only
        (repeat (first | exact Y.1 | (refine FYL.setI ?_ rfl) | (refine FYL.setC ?_ rfl) | (refine FYL.row ?_ rfl) | (refine FYL.setR ?_ rfl) | (refine FYL.setRv ?_ (by first | assumption | (simp [r0, k0, yR_I, yR_row, yR_ne]; done)) rfl)))
      · first | exact u0 | (dsimp only; simp [r0, k0, u0, u1, u2, hc, hk, yI_same, yI_ne, yI_c, yR_I, yI_row, yR_row, yI_R, yR_ne, yR_same, yI_L, yR_L, vp_in, z_32]; done)
      · first | exact u1 | (dsimp only; simp [r0, k0, u0, u1, u2, hc, hk, yI_same, yI_ne, yI_c, yR_I, yI_row, yR_row, yI_R, yR_ne, yR_same, yI_L, yR_L, vp_in, z_32]; done)
      · first | exact u2 | (dsimp only; simp [r0, k0, u0, u1, u2, hc, hk, yI_same, yI_ne, yI_c, yR_I, yI_row, yR_row, yI_R, yR_ne, yR_same, yI_L, yR_L, vp_in, z_32]; done)
    obtain ⟨h2, c2, Y2⟩ := p1_passT3 l h1 a d c Y1 hc
    have t2 : XT l 13 516 false 159 153 6051 80 [xf 12 2, xi w, xi 0, xi n, xi k] [xf 11 59] h1 83 [xf 12 2, xi w, xi 0, xi n, xi k] [] h2 := XT_call rfl rfl rfl (vs := [xf 11 59]) (rest := []) rfl rfl rfl c2 (by decide) (by decide) (by decide) ⟨Nat.le_of_eq Y2.1.2.2.1, Nat.le_of_eq Y2.1.2.2.2⟩
    obtain ⟨h3, t3, Y3⟩ : ∃ h', XT l 13 516 false 159 153 6051 83 [xf 12 2, xi w, xi 0, xi n, xi k] [] h2 70 [xf 12 2, xi w, xi 0, xi n, xi (k + 1)] [] h' ∧ Y0 h' a d c := by
      obtain ⟨-, u0, u1, u2⟩ := id Y2
      refine ⟨_, XT_path (inl := []) (n' := 7) (sp := [70]) (o := []) rfl rfl ?_ rfl ⟨Nat.le_of_eq Y2.1.2.2.1, Nat.le_of_eq Y2.1.2.2.2⟩ ?_, ?_, ?_, ?_, ?_⟩
      · refine ⟨rfl, ?_, ?_⟩ <;> first | rfl | (dsimp only; simp [u0, u1, u2, hc, hk, yI_same, yI_ne, yI_c, yR_I, yI_row, yR_row, yI_R, yR_ne, yR_same, yI_L, yR_L, vp_in, z_32] <;> rfl)
      · first | trivial | (dsimp only; simp [u0, u1, u2, hc, hk, yI_same, yI_ne, yI_c, yR_I, yI_row, yR_row, yI_R, yR_ne, yR_same, yI_L, yR_L, vp_in, z_32]; done)
      · dsimp only
        (repeat (first | exact Y2.1 | (refine FYL.setI ?_ rfl) | (refine FYL.setC ?_ rfl) | (refine FYL.row ?_ rfl) | (refine FYL.setR ?_ rfl) | (refine FYL.setRv ?_ (by first | assumption | (simp [yR_I, yR_row, yR_ne]; done)) rfl)))
      · first | exact u0 | (dsimp only; simp [u0, u1, u2, hc, hk, yI_same, yI_ne, yI_c, yR_I, yI_row, yR_row, yI_R, yR_ne, yR_same, yI_L, yR_L, vp_in, z_32]; done)
      · first | exact u1 | (dsimp only; simp [u0, u1, u2, hc, hk, yI_same, yI_ne, yI_c, yR_I, yI_row, yR_row, yI_R, yR_ne, yR_same, yI_L, yR_L, vp_in, z_32]; done)
      · first | exact u2 | (dsimp only; simp [u0, u1, u2, hc, hk, yI_same, yI_ne, yI_c, yR_I, yI_row, yR_row, yI_R, yR_ne, yR_same, yI_L, yR_L, vp_in, z_32]; done)
    have e := y_succ g0 (by omega)
    obtain ⟨h9, t9, Y9⟩ := p1_tloop3 l n a d c w hc hn m (k + 1) h3 Y3 (by omega) (by omega)
    exact ⟨h9, (t1.tr (t2.tr t3)).tr t9, Y9⟩

set_option maxRecDepth 100000 in
set_option maxHeartbeats 1000000 in
theorem p1_gloop (l : Launch) (n a d c : Int32) (hn : n.toInt ≤ 99) : ∀ (m : Nat) (k : Int32) (h : XH), Y0 h a d c → 0 ≤ k.toInt → k.toInt + m = n.toInt → ∃ h', XT l 12 493 false 249 153 6051 2 [xf 13 104, xi n, xi k] [] h 18 [xf 13 104, xi n, xi n] [] h' ∧ Y0 h' a d c
  | 0, k, h, Y, g0, g1 => by
    have e : k = n := Int32.toInt_inj.mp (by omega)
    subst e
    refine ⟨_, XT_path (inl := []) (n' := 9) (sp := [18]) (o := [1]) rfl rfl ?_ rfl ⟨Nat.le_of_eq Y.1.2.2.1, Nat.le_of_eq Y.1.2.2.2⟩ ?_, ?_⟩
    · exact ⟨rfl, rfl, rfl⟩
    · exact ⟨trivial, Int32.le_iff_toInt_le.mpr (Int.le_refl _)⟩
    · exact Y
  | m + 1, k, h, Y, g0, g1 => by
    have hk : ¬ n ≤ k := fun z => by
      have := Int32.le_iff_toInt_le.mp z
      omega
    obtain ⟨h1, t1, Y1⟩ : ∃ h', XT l 12 493 false 249 153 6051 2 [xf 13 104, xi n, xi k] [] h 9 [xf 13 104, xi n, xi k] [xi 1, xf 13 104] h' ∧ Y0 h' a d c := by
      obtain ⟨-, u0, u1, u2⟩ := id Y
      refine ⟨_, XT_path (inl := []) (n' := 10) (sp := [9]) (o := [0]) rfl rfl ?_ rfl ⟨Nat.le_of_eq Y.1.2.2.1, Nat.le_of_eq Y.1.2.2.2⟩ ?_, ?_, ?_, ?_, ?_⟩
      · refine ⟨rfl, ?_, ?_⟩ <;> first | rfl | (dsimp only; simp [u0, u1, u2, hk, yI_same, yI_ne, yI_c, yR_I, yI_row, yR_row, yI_R, yR_ne, yR_same, yI_L, yR_L, vp_in, z_32] <;> rfl)
      · first | trivial | (dsimp only; simp [u0, u1, u2, hk, yI_same, yI_ne, yI_c, yR_I, yI_row, yR_row, yI_R, yR_ne, yR_same, yI_L, yR_L, vp_in, z_32]; done)
      · dsimp only
        (repeat (first | exact Y.1 | (refine FYL.setI ?_ rfl) | (refine FYL.setC ?_ rfl) | (refine FYL.row ?_ rfl) | (refine FYL.setR ?_ rfl) | (refine FYL.setRv ?_ (by first | assumption | (simp [yR_I, yR_row, yR_ne]; done)) rfl)))
      · first | exact u0 | (dsimp only; simp [u0, u1, u2, hk, yI_same, yI_ne, yI_c, yR_I, yI_row, yR_row, yI_R, yR_ne, yR_same, yI_L, yR_L, vp_in, z_32]; done)
      · first | exact u1 | (dsimp only; simp [u0, u1, u2, hk, yI_same, yI_ne, yI_c, yR_I, yI_row, yR_row, yI_R, yR_ne, yR_same, yI_L, yR_L, vp_in, z_32]; done)
      · first | exact u2 | (dsimp only; simp [u0, u1, u2, hk, yI_same, yI_ne, yI_c, yR_I, yI_row, yR_row, yI_R, yR_ne, yR_same, yI_L, yR_L, vp_in, z_32]; done)
    obtain ⟨h2, c2, Y2⟩ := p1_goOn1 l h1 a d c Y1
    have t2 : XT l 12 493 false 249 153 6051 9 [xf 13 104, xi n, xi k] [xi 1, xf 13 104] h1 12 [xf 13 104, xi n, xi k] [] h2 := XT_call rfl rfl rfl (vs := [xf 13 104, xi 1]) (rest := []) rfl rfl rfl c2 (by decide) (by decide) (by decide) ⟨Nat.le_of_eq Y2.1.2.2.1, Nat.le_of_eq Y2.1.2.2.2⟩
    obtain ⟨h3, t3, Y3⟩ : ∃ h', XT l 12 493 false 249 153 6051 12 [xf 13 104, xi n, xi k] [] h2 2 [xf 13 104, xi n, xi (k + 1)] [] h' ∧ Y0 h' a d c := by
      obtain ⟨-, u0, u1, u2⟩ := id Y2
      refine ⟨_, XT_path (inl := []) (n' := 7) (sp := [2]) (o := []) rfl rfl ?_ rfl ⟨Nat.le_of_eq Y2.1.2.2.1, Nat.le_of_eq Y2.1.2.2.2⟩ ?_, ?_, ?_, ?_, ?_⟩
      · refine ⟨rfl, ?_, ?_⟩ <;> first | rfl | (dsimp only; simp [u0, u1, u2, hk, yI_same, yI_ne, yI_c, yR_I, yI_row, yR_row, yI_R, yR_ne, yR_same, yI_L, yR_L, vp_in, z_32] <;> rfl)
      · first | trivial | (dsimp only; simp [u0, u1, u2, hk, yI_same, yI_ne, yI_c, yR_I, yI_row, yR_row, yI_R, yR_ne, yR_same, yI_L, yR_L, vp_in, z_32]; done)
      · dsimp only
        (repeat (first | exact Y2.1 | (refine FYL.setI ?_ rfl) | (refine FYL.setC ?_ rfl) | (refine FYL.row ?_ rfl) | (refine FYL.setR ?_ rfl) | (refine FYL.setRv ?_ (by first | assumption | (simp [yR_I, yR_row, yR_ne]; done)) rfl)))
      · first | exact u0 | (dsimp only; simp [u0, u1, u2, hk, yI_same, yI_ne, yI_c, yR_I, yI_row, yR_row, yI_R, yR_ne, yR_same, yI_L, yR_L, vp_in, z_32]; done)
      · first | exact u1 | (dsimp only; simp [u0, u1, u2, hk, yI_same, yI_ne, yI_c, yR_I, yI_row, yR_row, yI_R, yR_ne, yR_same, yI_L, yR_L, vp_in, z_32]; done)
      · first | exact u2 | (dsimp only; simp [u0, u1, u2, hk, yI_same, yI_ne, yI_c, yR_I, yI_row, yR_row, yI_R, yR_ne, yR_same, yI_L, yR_L, vp_in, z_32]; done)
    have e := y_succ g0 (by omega)
    obtain ⟨h9, t9, Y9⟩ := p1_gloop l n a d c hn m (k + 1) h3 Y3 (by omega) (by omega)
    exact ⟨h9, (t1.tr (t2.tr t3)).tr t9, Y9⟩

set_option maxRecDepth 100000 in
set_option maxHeartbeats 1000000 in
theorem p1_seas_p (l : Launch) (h : XH) (n d c : Int32) (Y : Y0 h 0 d c) (hn0 : 0 ≤ n.toInt) (hn1 : n.toInt ≤ 99) (hz : ¬ n ≤ 0) : ∃ h', CX l 13 518 false 97 [xf 12 2, xi n] h [xi n] h' ∧ Y0 h' n d c := by
  have q0 : ¬ n < 0 := fun z => by
    have := Int32.lt_iff_toInt_lt.mp z
    have e0 : (0 : Int32).toInt = 0 := rfl
    omega
  have q1 : ¬ 99 < n := fun z => by
    have := Int32.lt_iff_toInt_lt.mp z
    have e0 : (99 : Int32).toInt = 99 := rfl
    omega
  have q2 : n ≤ 9999 := by
    refine Int32.le_iff_toInt_le.mpr ?_
    have e0 : (9999 : Int32).toInt = 9999 := rfl
    omega
  have q3 : ¬ 9999 < n := fun z => by
    have := Int32.lt_iff_toInt_lt.mp z
    have e0 : (9999 : Int32).toInt = 9999 := rfl
    omega
  have q4 : 0 ≤ n := Int32.le_iff_toInt_le.mpr hn0
  have q5 : n ≤ 99 := by
    refine Int32.le_iff_toInt_le.mpr ?_
    have e0 : (99 : Int32).toInt = 99 := rfl
    omega
  have hm : ((n.toInt.toNat : Nat) : Int) = n.toInt := Int.toNat_of_nonneg hn0
  obtain ⟨h1, t1, Y1⟩ : ∃ h', XT l 13 518 false 97 153 6051 0 [xf 12 2, xi n, xun] [] h 29 [xf 12 2, xi n, xi 0] [] h' ∧ Y0 h' 0 d c := by
    have r0 : xR h 2 3 = 48 := Y.1.1 (2, 3, 48) (by decide)
    have k0 : xfk 12 3 = 11 := rfl
    obtain ⟨-, u0, u1, u2⟩ := id Y
    refine ⟨_, XT_path (inl := []) (n' := 19) (sp := [29]) (o := [0, 0, 1]) rfl rfl ?_ rfl ⟨Nat.le_of_eq Y.1.2.2.1, Nat.le_of_eq Y.1.2.2.2⟩ ?_, ?_, ?_, ?_, ?_⟩
    · refine ⟨rfl, ?_, ?_⟩ <;> first | rfl | (dsimp only; simp [r0, k0, u0, u1, u2, q0, q1, q2, q3, q4, q5, hz, yI_same, yI_ne, yI_c, yR_I, yI_row, yR_row, yI_R, yR_ne, yR_same, yI_L, yR_L, vp_in, z_32] <;> rfl)
    · first | trivial | (dsimp only; simp [r0, k0, u0, u1, u2, q0, q1, q2, q3, q4, q5, hz, yI_same, yI_ne, yI_c, yR_I, yI_row, yR_row, yI_R, yR_ne, yR_same, yI_L, yR_L, vp_in, z_32]; done)
    · dsimp only
      (repeat (first | exact Y.1 | (refine FYL.setI ?_ rfl) | (refine FYL.setC ?_ rfl) | (refine FYL.row ?_ rfl) | (refine FYL.setR ?_ rfl) | (refine FYL.setRv ?_ (by first | assumption | (simp [r0, k0, yR_I, yR_row, yR_ne]; done)) rfl)))
    · first | exact u0 | (dsimp only; simp [r0, k0, u0, u1, u2, q0, q1, q2, q3, q4, q5, hz, yI_same, yI_ne, yI_c, yR_I, yI_row, yR_row, yI_R, yR_ne, yR_same, yI_L, yR_L, vp_in, z_32]; done)
    · first | exact u1 | (dsimp only; simp [r0, k0, u0, u1, u2, q0, q1, q2, q3, q4, q5, hz, yI_same, yI_ne, yI_c, yR_I, yI_row, yR_row, yI_R, yR_ne, yR_same, yI_L, yR_L, vp_in, z_32]; done)
    · first | exact u2 | (dsimp only; simp [r0, k0, u0, u1, u2, q0, q1, q2, q3, q4, q5, hz, yI_same, yI_ne, yI_c, yR_I, yI_row, yR_row, yI_R, yR_ne, yR_same, yI_L, yR_L, vp_in, z_32]; done)
  obtain ⟨h2, t2, Y2⟩ := p1_sloop l n d c hn1 n.toInt.toNat 0 h1 Y1 (by decide) (by rw [hm]; exact Int.zero_add _)
  obtain ⟨h3, t3, Y3⟩ : ∃ h', XT l 13 518 false 97 153 6051 47 [xf 12 2, xi n, xi n] [] h2 65 [xf 12 2, xi n, xi n] [xi n] h' ∧ Y0 h' n d c := by
    have r0 : xR h2 2 3 = 48 := Y2.1.1 (2, 3, 48) (by decide)
    have r1 : xR h2 2 7 = 81 := Y2.1.1 (2, 7, 81) (by decide)
    have k0 : xfk 12 3 = 11 := rfl
    have k1 : xfk 12 7 = 6 := rfl
    obtain ⟨-, u0, u1, u2⟩ := id Y2
    refine ⟨_, XT_path (inl := [67]) (n' := 17) (sp := [65]) (o := [0]) rfl rfl ?_ rfl ⟨Nat.le_of_eq Y2.1.2.2.1, Nat.le_of_eq Y2.1.2.2.2⟩ ?_, ?_, ?_, ?_, ?_⟩
    · refine ⟨rfl, ?_, ?_⟩ <;> first | rfl | (dsimp only; simp [r0, r1, k0, k1, u0, u1, u2, q0, q1, q2, q3, q4, q5, hz, yI_same, yI_ne, yI_c, yR_I, yI_row, yR_row, yI_R, yR_ne, yR_same, yI_L, yR_L, vp_in, z_32] <;> rfl)
    · first | trivial | (dsimp only; simp [r0, r1, k0, k1, u0, u1, u2, q0, q1, q2, q3, q4, q5, hz, yI_same, yI_ne, yI_c, yR_I, yI_row, yR_row, yI_R, yR_ne, yR_same, yI_L, yR_L, vp_in, z_32]; done)
    · dsimp only
      try simp [r0, r1, yR_I, yR_row, yI_R, yR_ne, yR_same]
      (repeat (first | exact Y2.1 | (refine FYL.setI ?_ rfl) | (refine FYL.setC ?_ rfl) | (refine FYL.row ?_ rfl) | (refine FYL.setR ?_ rfl) | (refine FYL.setRv ?_ (by first | assumption | (simp [r0, r1, k0, k1, yR_I, yR_row, yR_ne]; done)) rfl)))
    · first | exact u0 | (dsimp only; simp [r0, r1, k0, k1, u0, u1, u2, q0, q1, q2, q3, q4, q5, hz, yI_same, yI_ne, yI_c, yR_I, yI_row, yR_row, yI_R, yR_ne, yR_same, yI_L, yR_L, vp_in, z_32]; done)
    · first | exact u1 | (dsimp only; simp [r0, r1, k0, k1, u0, u1, u2, q0, q1, q2, q3, q4, q5, hz, yI_same, yI_ne, yI_c, yR_I, yI_row, yR_row, yI_R, yR_ne, yR_same, yI_L, yR_L, vp_in, z_32]; done)
    · first | exact u2 | (dsimp only; simp [r0, r1, k0, k1, u0, u1, u2, q0, q1, q2, q3, q4, q5, hz, yI_same, yI_ne, yI_c, yR_I, yI_row, yR_row, yI_R, yR_ne, yR_same, yI_L, yR_L, vp_in, z_32]; done)
  exact ⟨h3, CX_ofT (by decide) rfl rfl trivial ⟨_, _, _, rfl, rfl, rfl⟩ rfl ⟨Nat.le_of_eq Y3.1.2.2.1.symm, Nat.le_of_eq Y3.1.2.2.2.symm⟩ (t1.tr (t2.tr t3)), Y3⟩

set_option maxRecDepth 100000 in
set_option maxHeartbeats 1000000 in
theorem p1_mseas_p (l : Launch) (h : XH) (n a c : Int32) (Y : Y0 h a 0 c) (hn0 : 0 ≤ n.toInt) (hn1 : n.toInt ≤ 99) (hz : ¬ n ≤ 0) : ∃ h', CX l 13 518 false 244 [xf 13 104, xi n] h [xi n] h' ∧ Y0 h' a n c := by
  have q0 : ¬ n < 0 := fun z => by
    have := Int32.lt_iff_toInt_lt.mp z
    have e0 : (0 : Int32).toInt = 0 := rfl
    omega
  have q1 : ¬ 99 < n := fun z => by
    have := Int32.lt_iff_toInt_lt.mp z
    have e0 : (99 : Int32).toInt = 99 := rfl
    omega
  have q2 : n ≤ 9999 := by
    refine Int32.le_iff_toInt_le.mpr ?_
    have e0 : (9999 : Int32).toInt = 9999 := rfl
    omega
  have q3 : ¬ 9999 < n := fun z => by
    have := Int32.lt_iff_toInt_lt.mp z
    have e0 : (9999 : Int32).toInt = 9999 := rfl
    omega
  have q4 : 0 ≤ n := Int32.le_iff_toInt_le.mpr hn0
  have q5 : n ≤ 99 := by
    refine Int32.le_iff_toInt_le.mpr ?_
    have e0 : (99 : Int32).toInt = 99 := rfl
    omega
  have hm : ((n.toInt.toNat : Nat) : Int) = n.toInt := Int.toNat_of_nonneg hn0
  obtain ⟨h1, t1, Y1⟩ : ∃ h', XT l 13 518 false 244 153 6051 0 [xf 13 104, xi n, xun] [] h 37 [xf 13 104, xi n, xi 0] [] h' ∧ Y0 h' a 0 c := by
    have r0 : xR h 104 60 = 138 := Y.1.1 (104, 60, 138) (by decide)
    have k0 : xfk 13 60 = 10002 := rfl
    obtain ⟨-, u0, u1, u2⟩ := id Y
    refine ⟨_, XT_path (inl := [177, 193]) (n' := 41) (sp := [37]) (o := [0, 0, 0, 1]) rfl rfl ?_ rfl ⟨Nat.le_of_eq Y.1.2.2.1, Nat.le_of_eq Y.1.2.2.2⟩ ?_, ?_, ?_, ?_, ?_⟩
    · refine ⟨rfl, ?_, ?_⟩ <;> first | rfl | (dsimp only; simp [r0, k0, u0, u1, u2, q0, q1, q2, q3, q4, q5, hz, yI_same, yI_ne, yI_c, yR_I, yI_row, yR_row, yI_R, yR_ne, yR_same, yI_L, yR_L, vp_in, z_32] <;> rfl)
    · first | trivial | (dsimp only; simp [r0, k0, u0, u1, u2, q0, q1, q2, q3, q4, q5, hz, yI_same, yI_ne, yI_c, yR_I, yI_row, yR_row, yI_R, yR_ne, yR_same, yI_L, yR_L, vp_in, z_32]; done)
    · dsimp only
      try simp [r0, yR_I, yR_row, yI_R, yR_ne, yR_same]
      (repeat (first | exact Y.1 | (refine FYL.setI ?_ rfl) | (refine FYL.setC ?_ rfl) | (refine FYL.row ?_ rfl) | (refine FYL.setR ?_ rfl) | (refine FYL.setRv ?_ (by first | assumption | (simp [r0, k0, yR_I, yR_row, yR_ne]; done)) rfl)))
    · first | exact u0 | (dsimp only; simp [r0, k0, u0, u1, u2, q0, q1, q2, q3, q4, q5, hz, yI_same, yI_ne, yI_c, yR_I, yI_row, yR_row, yI_R, yR_ne, yR_same, yI_L, yR_L, vp_in, z_32]; done)
    · first | exact u1 | (dsimp only; simp [r0, k0, u0, u1, u2, q0, q1, q2, q3, q4, q5, hz, yI_same, yI_ne, yI_c, yR_I, yI_row, yR_row, yI_R, yR_ne, yR_same, yI_L, yR_L, vp_in, z_32]; done)
    · first | exact u2 | (dsimp only; simp [r0, k0, u0, u1, u2, q0, q1, q2, q3, q4, q5, hz, yI_same, yI_ne, yI_c, yR_I, yI_row, yR_row, yI_R, yR_ne, yR_same, yI_L, yR_L, vp_in, z_32]; done)
  obtain ⟨h2, t2, Y2⟩ := p1_mloop l n a c hn1 n.toInt.toNat 0 h1 Y1 (by decide) (by rw [hm]; exact Int.zero_add _)
  obtain ⟨h3, t3, Y3⟩ : ∃ h', XT l 13 518 false 244 153 6051 53 [xf 13 104, xi n, xi n] [] h2 75 [xf 13 104, xi n, xi n] [xi n] h' ∧ Y0 h' a n c := by
    have r0 : xR h2 104 60 = 138 := Y2.1.1 (104, 60, 138) (by decide)
    have k0 : xfk 13 60 = 10002 := rfl
    obtain ⟨-, u0, u1, u2⟩ := id Y2
    refine ⟨_, XT_path (inl := []) (n' := 15) (sp := [75]) (o := [0]) rfl rfl ?_ rfl ⟨Nat.le_of_eq Y2.1.2.2.1, Nat.le_of_eq Y2.1.2.2.2⟩ ?_, ?_, ?_, ?_, ?_⟩
    · refine ⟨rfl, ?_, ?_⟩ <;> first | rfl | (dsimp only; simp [r0, k0, u0, u1, u2, q0, q1, q2, q3, q4, q5, hz, yI_same, yI_ne, yI_c, yR_I, yI_row, yR_row, yI_R, yR_ne, yR_same, yI_L, yR_L, vp_in, z_32] <;> rfl)
    · first | trivial | (dsimp only; simp [r0, k0, u0, u1, u2, q0, q1, q2, q3, q4, q5, hz, yI_same, yI_ne, yI_c, yR_I, yI_row, yR_row, yI_R, yR_ne, yR_same, yI_L, yR_L, vp_in, z_32]; done)
    · dsimp only
      try simp [r0, yR_I, yR_row, yI_R, yR_ne, yR_same]
      (repeat (first | exact Y2.1 | (refine FYL.setI ?_ rfl) | (refine FYL.setC ?_ rfl) | (refine FYL.row ?_ rfl) | (refine FYL.setR ?_ rfl) | (refine FYL.setRv ?_ (by first | assumption | (simp [r0, k0, yR_I, yR_row, yR_ne]; done)) rfl)))
    · first | exact u0 | (dsimp only; simp [r0, k0, u0, u1, u2, q0, q1, q2, q3, q4, q5, hz, yI_same, yI_ne, yI_c, yR_I, yI_row, yR_row, yI_R, yR_ne, yR_same, yI_L, yR_L, vp_in, z_32]; done)
    · first | exact u1 | (dsimp only; simp [r0, k0, u0, u1, u2, q0, q1, q2, q3, q4, q5, hz, yI_same, yI_ne, yI_c, yR_I, yI_row, yR_row, yI_R, yR_ne, yR_same, yI_L, yR_L, vp_in, z_32]; done)
    · first | exact u2 | (dsimp only; simp [r0, k0, u0, u1, u2, q0, q1, q2, q3, q4, q5, hz, yI_same, yI_ne, yI_c, yR_I, yI_row, yR_row, yI_R, yR_ne, yR_same, yI_L, yR_L, vp_in, z_32]; done)
  exact ⟨h3, CX_ofT (by decide) rfl rfl trivial ⟨_, _, _, rfl, rfl, rfl⟩ rfl ⟨Nat.le_of_eq Y3.1.2.2.1.symm, Nat.le_of_eq Y3.1.2.2.2.symm⟩ (t1.tr (t2.tr t3)), Y3⟩

set_option maxRecDepth 100000 in
set_option maxHeartbeats 1000000 in
theorem p1_seas_z (l : Launch) (h : XH) (n d c : Int32) (Y : Y0 h 0 d c) (hn0 : 0 ≤ n.toInt) (hn1 : n.toInt ≤ 99) (hz : n ≤ 0) : ∃ h', CX l 13 518 false 97 [xf 12 2, xi n] h [xi n] h' ∧ Y0 h' n d c := by
  have q0 : ¬ n < 0 := fun z => by
    have := Int32.lt_iff_toInt_lt.mp z
    have e0 : (0 : Int32).toInt = 0 := rfl
    omega
  have q1 : ¬ 99 < n := fun z => by
    have := Int32.lt_iff_toInt_lt.mp z
    have e0 : (99 : Int32).toInt = 99 := rfl
    omega
  have q2 : n ≤ 9999 := by
    refine Int32.le_iff_toInt_le.mpr ?_
    have e0 : (9999 : Int32).toInt = 9999 := rfl
    omega
  have q3 : ¬ 9999 < n := fun z => by
    have := Int32.lt_iff_toInt_lt.mp z
    have e0 : (9999 : Int32).toInt = 9999 := rfl
    omega
  have q4 : 0 ≤ n := Int32.le_iff_toInt_le.mpr hn0
  have q5 : n ≤ 99 := by
    refine Int32.le_iff_toInt_le.mpr ?_
    have e0 : (99 : Int32).toInt = 99 := rfl
    omega
  have hm : ((n.toInt.toNat : Nat) : Int) = n.toInt := Int.toNat_of_nonneg hn0
  obtain ⟨h1, t1, Y1⟩ : ∃ h', XT l 13 518 false 97 153 6051 0 [xf 12 2, xi n, xun] [] h 29 [xf 12 2, xi n, xi 0] [] h' ∧ Y0 h' 0 d c := by
    have r0 : xR h 2 3 = 48 := Y.1.1 (2, 3, 48) (by decide)
    have k0 : xfk 12 3 = 11 := rfl
    obtain ⟨-, u0, u1, u2⟩ := id Y
    refine ⟨_, XT_path (inl := []) (n' := 19) (sp := [29]) (o := [0, 0, 1]) rfl rfl ?_ rfl ⟨Nat.le_of_eq Y.1.2.2.1, Nat.le_of_eq Y.1.2.2.2⟩ ?_, ?_, ?_, ?_, ?_⟩
    · refine ⟨rfl, ?_, ?_⟩ <;> first | rfl | (dsimp only; simp [r0, k0, u0, u1, u2, q0, q1, q2, q3, q4, q5, hz, yI_same, yI_ne, yI_c, yR_I, yI_row, yR_row, yI_R, yR_ne, yR_same, yI_L, yR_L, vp_in, z_32] <;> rfl)
    · first | trivial | (dsimp only; simp [r0, k0, u0, u1, u2, q0, q1, q2, q3, q4, q5, hz, yI_same, yI_ne, yI_c, yR_I, yI_row, yR_row, yI_R, yR_ne, yR_same, yI_L, yR_L, vp_in, z_32]; done)
    · dsimp only
      (repeat (first | exact Y.1 | (refine FYL.setI ?_ rfl) | (refine FYL.setC ?_ rfl) | (refine FYL.row ?_ rfl) | (refine FYL.setR ?_ rfl) | (refine FYL.setRv ?_ (by first | assumption | (simp [r0, k0, yR_I, yR_row, yR_ne]; done)) rfl)))
    · first | exact u0 | (dsimp only; simp [r0, k0, u0, u1, u2, q0, q1, q2, q3, q4, q5, hz, yI_same, yI_ne, yI_c, yR_I, yI_row, yR_row, yI_R, yR_ne, yR_same, yI_L, yR_L, vp_in, z_32]; done)
    · first | exact u1 | (dsimp only; simp [r0, k0, u0, u1, u2, q0, q1, q2, q3, q4, q5, hz, yI_same, yI_ne, yI_c, yR_I, yI_row, yR_row, yI_R, yR_ne, yR_same, yI_L, yR_L, vp_in, z_32]; done)
    · first | exact u2 | (dsimp only; simp [r0, k0, u0, u1, u2, q0, q1, q2, q3, q4, q5, hz, yI_same, yI_ne, yI_c, yR_I, yI_row, yR_row, yI_R, yR_ne, yR_same, yI_L, yR_L, vp_in, z_32]; done)
  obtain ⟨h2, t2, Y2⟩ := p1_sloop l n d c hn1 n.toInt.toNat 0 h1 Y1 (by decide) (by rw [hm]; exact Int.zero_add _)
  obtain ⟨h3, t3, Y3⟩ : ∃ h', XT l 13 518 false 97 153 6051 47 [xf 12 2, xi n, xi n] [] h2 65 [xf 12 2, xi n, xi n] [xi n] h' ∧ Y0 h' n d c := by
    have r0 : xR h2 2 3 = 48 := Y2.1.1 (2, 3, 48) (by decide)
    have k0 : xfk 12 3 = 11 := rfl
    obtain ⟨-, u0, u1, u2⟩ := id Y2
    refine ⟨_, XT_path (inl := []) (n' := 10) (sp := [65]) (o := [1]) rfl rfl ?_ rfl ⟨Nat.le_of_eq Y2.1.2.2.1, Nat.le_of_eq Y2.1.2.2.2⟩ ?_, ?_, ?_, ?_, ?_⟩
    · refine ⟨rfl, ?_, ?_⟩ <;> first | rfl | (dsimp only; simp [r0, k0, u0, u1, u2, q0, q1, q2, q3, q4, q5, hz, yI_same, yI_ne, yI_c, yR_I, yI_row, yR_row, yI_R, yR_ne, yR_same, yI_L, yR_L, vp_in, z_32] <;> rfl)
    · first | trivial | (dsimp only; simp [r0, k0, u0, u1, u2, q0, q1, q2, q3, q4, q5, hz, yI_same, yI_ne, yI_c, yR_I, yI_row, yR_row, yI_R, yR_ne, yR_same, yI_L, yR_L, vp_in, z_32]; done)
    · dsimp only
      (repeat (first | exact Y2.1 | (refine FYL.setI ?_ rfl) | (refine FYL.setC ?_ rfl) | (refine FYL.row ?_ rfl) | (refine FYL.setR ?_ rfl) | (refine FYL.setRv ?_ (by first | assumption | (simp [r0, k0, yR_I, yR_row, yR_ne]; done)) rfl)))
    · first | exact u0 | (dsimp only; simp [r0, k0, u0, u1, u2, q0, q1, q2, q3, q4, q5, hz, yI_same, yI_ne, yI_c, yR_I, yI_row, yR_row, yI_R, yR_ne, yR_same, yI_L, yR_L, vp_in, z_32]; done)
    · first | exact u1 | (dsimp only; simp [r0, k0, u0, u1, u2, q0, q1, q2, q3, q4, q5, hz, yI_same, yI_ne, yI_c, yR_I, yI_row, yR_row, yI_R, yR_ne, yR_same, yI_L, yR_L, vp_in, z_32]; done)
    · first | exact u2 | (dsimp only; simp [r0, k0, u0, u1, u2, q0, q1, q2, q3, q4, q5, hz, yI_same, yI_ne, yI_c, yR_I, yI_row, yR_row, yI_R, yR_ne, yR_same, yI_L, yR_L, vp_in, z_32]; done)
  exact ⟨h3, CX_ofT (by decide) rfl rfl trivial ⟨_, _, _, rfl, rfl, rfl⟩ rfl ⟨Nat.le_of_eq Y3.1.2.2.1.symm, Nat.le_of_eq Y3.1.2.2.2.symm⟩ (t1.tr (t2.tr t3)), Y3⟩

set_option maxRecDepth 100000 in
set_option maxHeartbeats 1000000 in
theorem p1_mseas_z (l : Launch) (h : XH) (n a c : Int32) (Y : Y0 h a 0 c) (hn0 : 0 ≤ n.toInt) (hn1 : n.toInt ≤ 99) (hz : n ≤ 0) : ∃ h', CX l 13 518 false 244 [xf 13 104, xi n] h [xi n] h' ∧ Y0 h' a n c := by
  have q0 : ¬ n < 0 := fun z => by
    have := Int32.lt_iff_toInt_lt.mp z
    have e0 : (0 : Int32).toInt = 0 := rfl
    omega
  have q1 : ¬ 99 < n := fun z => by
    have := Int32.lt_iff_toInt_lt.mp z
    have e0 : (99 : Int32).toInt = 99 := rfl
    omega
  have q2 : n ≤ 9999 := by
    refine Int32.le_iff_toInt_le.mpr ?_
    have e0 : (9999 : Int32).toInt = 9999 := rfl
    omega
  have q3 : ¬ 9999 < n := fun z => by
    have := Int32.lt_iff_toInt_lt.mp z
    have e0 : (9999 : Int32).toInt = 9999 := rfl
    omega
  have q4 : 0 ≤ n := Int32.le_iff_toInt_le.mpr hn0
  have q5 : n ≤ 99 := by
    refine Int32.le_iff_toInt_le.mpr ?_
    have e0 : (99 : Int32).toInt = 99 := rfl
    omega
  have hm : ((n.toInt.toNat : Nat) : Int) = n.toInt := Int.toNat_of_nonneg hn0
  obtain ⟨h1, t1, Y1⟩ : ∃ h', XT l 13 518 false 244 153 6051 0 [xf 13 104, xi n, xun] [] h 37 [xf 13 104, xi n, xi 0] [] h' ∧ Y0 h' a 0 c := by
    have r0 : xR h 104 60 = 138 := Y.1.1 (104, 60, 138) (by decide)
    have k0 : xfk 13 60 = 10002 := rfl
    obtain ⟨-, u0, u1, u2⟩ := id Y
    refine ⟨_, XT_path (inl := [177, 193]) (n' := 41) (sp := [37]) (o := [0, 0, 0, 1]) rfl rfl ?_ rfl ⟨Nat.le_of_eq Y.1.2.2.1, Nat.le_of_eq Y.1.2.2.2⟩ ?_, ?_, ?_, ?_, ?_⟩
    · refine ⟨rfl, ?_, ?_⟩ <;> first | rfl | (dsimp only; simp [r0, k0, u0, u1, u2, q0, q1, q2, q3, q4, q5, hz, yI_same, yI_ne, yI_c, yR_I, yI_row, yR_row, yI_R, yR_ne, yR_same, yI_L, yR_L, vp_in, z_32] <;> rfl)
    · first | trivial | (dsimp only; simp [r0, k0, u0, u1, u2, q0, q1, q2, q3, q4, q5, hz, yI_same, yI_ne, yI_c, yR_I, yI_row, yR_row, yI_R, yR_ne, yR_same, yI_L, yR_L, vp_in, z_32]; done)
    · dsimp only
      try simp [r0, yR_I, yR_row, yI_R, yR_ne, yR_same]
      (repeat (first | exact Y.1 | (refine FYL.setI ?_ rfl) | (refine FYL.setC ?_ rfl) | (refine FYL.row ?_ rfl) | (refine FYL.setR ?_ rfl) | (refine FYL.setRv ?_ (by first | assumption | (simp [r0, k0, yR_I, yR_row, yR_ne]; done)) rfl)))
    · first | exact u0 | (dsimp only; simp [r0, k0, u0, u1, u2, q0, q1, q2, q3, q4, q5, hz, yI_same, yI_ne, yI_c, yR_I, yI_row, yR_row, yI_R, yR_ne, yR_same, yI_L, yR_L, vp_in, z_32]; done)
    · first | exact u1 | (dsimp only; simp [r0, k0, u0, u1, u2, q0, q1, q2, q3, q4, q5, hz, yI_same, yI_ne, yI_c, yR_I, yI_row, yR_row, yI_R, yR_ne, yR_same, yI_L, yR_L, vp_in, z_32]; done)
    · first | exact u2 | (dsimp only; simp [r0, k0, u0, u1, u2, q0, q1, q2, q3, q4, q5, hz, yI_same, yI_ne, yI_c, yR_I, yI_row, yR_row, yI_R, yR_ne, yR_same, yI_L, yR_L, vp_in, z_32]; done)
  obtain ⟨h2, t2, Y2⟩ := p1_mloop l n a c hn1 n.toInt.toNat 0 h1 Y1 (by decide) (by rw [hm]; exact Int.zero_add _)
  obtain ⟨h3, t3, Y3⟩ : ∃ h', XT l 13 518 false 244 153 6051 53 [xf 13 104, xi n, xi n] [] h2 75 [xf 13 104, xi n, xi n] [xi n] h' ∧ Y0 h' a n c := by
    have r0 : xR h2 104 60 = 138 := Y2.1.1 (104, 60, 138) (by decide)
    have k0 : xfk 13 60 = 10002 := rfl
    obtain ⟨-, u0, u1, u2⟩ := id Y2
    refine ⟨_, XT_path (inl := []) (n' := 15) (sp := [75]) (o := [1]) rfl rfl ?_ rfl ⟨Nat.le_of_eq Y2.1.2.2.1, Nat.le_of_eq Y2.1.2.2.2⟩ ?_, ?_, ?_, ?_, ?_⟩
    · refine ⟨rfl, ?_, ?_⟩ <;> first | rfl | (dsimp only; simp [r0, k0, u0, u1, u2, q0, q1, q2, q3, q4, q5, hz, yI_same, yI_ne, yI_c, yR_I, yI_row, yR_row, yI_R, yR_ne, yR_same, yI_L, yR_L, vp_in, z_32] <;> rfl)
    · first | trivial | (dsimp only; simp [r0, k0, u0, u1, u2, q0, q1, q2, q3, q4, q5, hz, yI_same, yI_ne, yI_c, yR_I, yI_row, yR_row, yI_R, yR_ne, yR_same, yI_L, yR_L, vp_in, z_32]; done)
    · dsimp only
      try simp [r0, yR_I, yR_row, yI_R, yR_ne, yR_same]
      (repeat (first | exact Y2.1 | (refine FYL.setI ?_ rfl) | (refine FYL.setC ?_ rfl) | (refine FYL.row ?_ rfl) | (refine FYL.setR ?_ rfl) | (refine FYL.setRv ?_ (by first | assumption | (simp [r0, k0, yR_I, yR_row, yR_ne]; done)) rfl)))
    · first | exact u0 | (dsimp only; simp [r0, k0, u0, u1, u2, q0, q1, q2, q3, q4, q5, hz, yI_same, yI_ne, yI_c, yR_I, yI_row, yR_row, yI_R, yR_ne, yR_same, yI_L, yR_L, vp_in, z_32]; done)
    · first | exact u1 | (dsimp only; simp [r0, k0, u0, u1, u2, q0, q1, q2, q3, q4, q5, hz, yI_same, yI_ne, yI_c, yR_I, yI_row, yR_row, yI_R, yR_ne, yR_same, yI_L, yR_L, vp_in, z_32]; done)
    · first | exact u2 | (dsimp only; simp [r0, k0, u0, u1, u2, q0, q1, q2, q3, q4, q5, hz, yI_same, yI_ne, yI_c, yR_I, yI_row, yR_row, yI_R, yR_ne, yR_same, yI_L, yR_L, vp_in, z_32]; done)
  exact ⟨h3, CX_ofT (by decide) rfl rfl trivial ⟨_, _, _, rfl, rfl, rfl⟩ rfl ⟨Nat.le_of_eq Y3.1.2.2.1.symm, Nat.le_of_eq Y3.1.2.2.2.symm⟩ (t1.tr (t2.tr t3)), Y3⟩

set_option maxRecDepth 100000 in
set_option maxHeartbeats 1000000 in
theorem p1_goMany (l : Launch) (h : XH) (n a d c : Int32) (Y : Y0 h a d c) (hn0 : 0 ≤ n.toInt) (hn1 : n.toInt ≤ 99) : ∃ h', CX l 12 493 false 249 [xf 13 104, xi n] h [] h' ∧ Y0 h' a d c := by
  have q0 : ¬ n < 0 := fun z => by
    have := Int32.lt_iff_toInt_lt.mp z
    have e0 : (0 : Int32).toInt = 0 := rfl
    omega
  have q1 : ¬ 99 < n := fun z => by
    have := Int32.lt_iff_toInt_lt.mp z
    have e0 : (99 : Int32).toInt = 99 := rfl
    omega
  have q2 : n ≤ 9999 := by
    refine Int32.le_iff_toInt_le.mpr ?_
    have e0 : (9999 : Int32).toInt = 9999 := rfl
    omega
  have q3 : ¬ 9999 < n := fun z => by
    have := Int32.lt_iff_toInt_lt.mp z
    have e0 : (9999 : Int32).toInt = 9999 := rfl
    omega
  have q4 : 0 ≤ n := Int32.le_iff_toInt_le.mpr hn0
  have q5 : n ≤ 99 := by
    refine Int32.le_iff_toInt_le.mpr ?_
    have e0 : (99 : Int32).toInt = 99 := rfl
    omega
  have hm : ((n.toInt.toNat : Nat) : Int) = n.toInt := Int.toNat_of_nonneg hn0
  obtain ⟨h1, t1, Y1⟩ : ∃ h', XT l 12 493 false 249 153 6051 0 [xf 13 104, xi n, xun] [] h 2 [xf 13 104, xi n, xi 0] [] h' ∧ Y0 h' a d c := by
    obtain ⟨-, u0, u1, u2⟩ := id Y
    refine ⟨_, XT_path (inl := []) (n' := 7) (sp := [2]) (o := []) rfl rfl ?_ rfl ⟨Nat.le_of_eq Y.1.2.2.1, Nat.le_of_eq Y.1.2.2.2⟩ ?_, ?_, ?_, ?_, ?_⟩
    · refine ⟨rfl, ?_, ?_⟩ <;> first | rfl | (dsimp only; simp [u0, u1, u2, q0, q1, q2, q3, q4, q5, yI_same, yI_ne, yI_c, yR_I, yI_row, yR_row, yI_R, yR_ne, yR_same, yI_L, yR_L, vp_in, z_32] <;> rfl)
    · first | trivial | (dsimp only; simp [u0, u1, u2, q0, q1, q2, q3, q4, q5, yI_same, yI_ne, yI_c, yR_I, yI_row, yR_row, yI_R, yR_ne, yR_same, yI_L, yR_L, vp_in, z_32]; done)
    · dsimp only
      (repeat (first | exact Y.1 | (refine FYL.setI ?_ rfl) | (refine FYL.setC ?_ rfl) | (refine FYL.row ?_ rfl) | (refine FYL.setR ?_ rfl) | (refine FYL.setRv ?_ (by first | assumption | (simp [yR_I, yR_row, yR_ne]; done)) rfl)))
    · first | exact u0 | (dsimp only; simp [u0, u1, u2, q0, q1, q2, q3, q4, q5, yI_same, yI_ne, yI_c, yR_I, yI_row, yR_row, yI_R, yR_ne, yR_same, yI_L, yR_L, vp_in, z_32]; done)
    · first | exact u1 | (dsimp only; simp [u0, u1, u2, q0, q1, q2, q3, q4, q5, yI_same, yI_ne, yI_c, yR_I, yI_row, yR_row, yI_R, yR_ne, yR_same, yI_L, yR_L, vp_in, z_32]; done)
    · first | exact u2 | (dsimp only; simp [u0, u1, u2, q0, q1, q2, q3, q4, q5, yI_same, yI_ne, yI_c, yR_I, yI_row, yR_row, yI_R, yR_ne, yR_same, yI_L, yR_L, vp_in, z_32]; done)
  obtain ⟨h2, t2, Y2⟩ := p1_gloop l n a d c hn1 n.toInt.toNat 0 h1 Y1 (by decide) (by rw [hm]; exact Int.zero_add _)
  obtain ⟨h3, t3, Y3⟩ : ∃ h', XT l 12 493 false 249 153 6051 18 [xf 13 104, xi n, xi n] [] h2 18 [xf 13 104, xi n, xi n] [] h' ∧ Y0 h' a d c := by
    obtain ⟨-, u0, u1, u2⟩ := id Y2
    refine ⟨_, XT_path (inl := []) (n' := 5) (sp := [18]) (o := []) rfl rfl ?_ rfl ⟨Nat.le_of_eq Y2.1.2.2.1, Nat.le_of_eq Y2.1.2.2.2⟩ ?_, ?_, ?_, ?_, ?_⟩
    · refine ⟨rfl, ?_, ?_⟩ <;> first | rfl | (dsimp only; simp [u0, u1, u2, q0, q1, q2, q3, q4, q5, yI_same, yI_ne, yI_c, yR_I, yI_row, yR_row, yI_R, yR_ne, yR_same, yI_L, yR_L, vp_in, z_32] <;> rfl)
    · first | trivial | (dsimp only; simp [u0, u1, u2, q0, q1, q2, q3, q4, q5, yI_same, yI_ne, yI_c, yR_I, yI_row, yR_row, yI_R, yR_ne, yR_same, yI_L, yR_L, vp_in, z_32]; done)
    · dsimp only
      (repeat (first | exact Y2.1 | (refine FYL.setI ?_ rfl) | (refine FYL.setC ?_ rfl) | (refine FYL.row ?_ rfl) | (refine FYL.setR ?_ rfl) | (refine FYL.setRv ?_ (by first | assumption | (simp [yR_I, yR_row, yR_ne]; done)) rfl)))
    · first | exact u0 | (dsimp only; simp [u0, u1, u2, q0, q1, q2, q3, q4, q5, yI_same, yI_ne, yI_c, yR_I, yI_row, yR_row, yI_R, yR_ne, yR_same, yI_L, yR_L, vp_in, z_32]; done)
    · first | exact u1 | (dsimp only; simp [u0, u1, u2, q0, q1, q2, q3, q4, q5, yI_same, yI_ne, yI_c, yR_I, yI_row, yR_row, yI_R, yR_ne, yR_same, yI_L, yR_L, vp_in, z_32]; done)
    · first | exact u2 | (dsimp only; simp [u0, u1, u2, q0, q1, q2, q3, q4, q5, yI_same, yI_ne, yI_c, yR_I, yI_row, yR_row, yI_R, yR_ne, yR_same, yI_L, yR_L, vp_in, z_32]; done)
  exact ⟨h3, CX_ofT (by decide) rfl rfl trivial ⟨_, _, _, rfl, rfl, rfl⟩ rfl ⟨Nat.le_of_eq Y3.1.2.2.1.symm, Nat.le_of_eq Y3.1.2.2.2.symm⟩ (t1.tr (t2.tr t3)), Y3⟩

set_option maxRecDepth 100000 in
set_option maxHeartbeats 1000000 in
theorem p1_tri (l : Launch) (h : XH) (w n a d c : Int32) (Y : Y0 h a d c) (hn0 : 0 ≤ n.toInt) (hn1 : n.toInt ≤ 60) (hw0 : ¬ w < 0) (hw4 : ¬ 4 < w) (hw5 : 0 ≤ w) (hw6 : w ≤ 4) (hw2 : ¬ w = 2) (hc : ¬ w = 3) : ∃ h', CX l 13 516 false 159 [xf 12 2, xi w, xi 0, xi n] h [xi 0] h' ∧ Y0 h' a d w := by
  have q0 : ¬ n < 0 := fun z => by
    have := Int32.lt_iff_toInt_lt.mp z
    have e0 : (0 : Int32).toInt = 0 := rfl
    omega
  have q1 : ¬ 60 < n := fun z => by
    have := Int32.lt_iff_toInt_lt.mp z
    have e0 : (60 : Int32).toInt = 60 := rfl
    omega
  have q2 : n ≤ 9999 := by
    refine Int32.le_iff_toInt_le.mpr ?_
    have e0 : (9999 : Int32).toInt = 9999 := rfl
    omega
  have q3 : ¬ 9999 < n := fun z => by
    have := Int32.lt_iff_toInt_lt.mp z
    have e0 : (9999 : Int32).toInt = 9999 := rfl
    omega
  have q4 : 0 ≤ n := Int32.le_iff_toInt_le.mpr hn0
  have q5 : n ≤ 60 := by
    refine Int32.le_iff_toInt_le.mpr ?_
    have e0 : (60 : Int32).toInt = 60 := rfl
    omega
  have hm : ((n.toInt.toNat : Nat) : Int) = n.toInt := Int.toNat_of_nonneg hn0
  obtain ⟨h1, t1, Y1⟩ : ∃ h', XT l 13 516 false 159 153 6051 0 [xf 12 2, xi w, xi 0, xi n, xun] [] h 48 [xf 12 2, xi w, xi 0, xi n, xun] [xf 11 48, xf 11 59] h' ∧ Y0 h' a d c := by
    have r0 : xR h 2 3 = 48 := Y.1.1 (2, 3, 48) (by decide)
    have r1 : xR h 2 4 = 59 := Y.1.1 (2, 4, 59) (by decide)
    have k0 : xfk 12 3 = 11 := rfl
    have k1 : xfk 12 4 = 11 := rfl
    obtain ⟨-, u0, u1, u2⟩ := id Y
    refine ⟨_, XT_path (inl := [104]) (n' := 30) (sp := [48]) (o := [0, 0, 0, 0, 1, 1, 1]) rfl rfl ?_ rfl ⟨Nat.le_of_eq Y.1.2.2.1, Nat.le_of_eq Y.1.2.2.2⟩ ?_, ?_, ?_, ?_, ?_⟩
    · refine ⟨rfl, ?_, ?_⟩ <;> first | rfl | (dsimp only; simp [r0, r1, k0, k1, u0, u1, u2, q0, q1, q2, q3, q4, q5, hw0, hw4, hw5, hw6, hw2, hc, yI_same, yI_ne, yI_c, yR_I, yI_row, yR_row, yI_R, yR_ne, yR_same, yI_L, yR_L, vp_in, z_32] <;> rfl)
    · first | trivial | (dsimp only; simp [r0, r1, k0, k1, u0, u1, u2, q0, q1, q2, q3, q4, q5, hw0, hw4, hw5, hw6, hw2, hc, yI_same, yI_ne, yI_c, yR_I, yI_row, yR_row, yI_R, yR_ne, yR_same, yI_L, yR_L, vp_in, z_32]; done)
    · dsimp only
      (repeat (first | exact Y.1 | (refine FYL.setI ?_ rfl) | (refine FYL.setC ?_ rfl) | (refine FYL.row ?_ rfl) | (refine FYL.setR ?_ rfl) | (refine FYL.setRv ?_ (by first | assumption | (simp [r0, r1, k0, k1, yR_I, yR_row, yR_ne]; done)) rfl)))
    · first | exact u0 | (dsimp only; simp [r0, r1, k0, k1, u0, u1, u2, q0, q1, q2, q3, q4, q5, hw0, hw4, hw5, hw6, hw2, hc, yI_same, yI_ne, yI_c, yR_I, yI_row, yR_row, yI_R, yR_ne, yR_same, yI_L, yR_L, vp_in, z_32]; done)
    · first | exact u1 | (dsimp only; simp [r0, r1, k0, k1, u0, u1, u2, q0, q1, q2, q3, q4, q5, hw0, hw4, hw5, hw6, hw2, hc, yI_same, yI_ne, yI_c, yR_I, yI_row, yR_row, yI_R, yR_ne, yR_same, yI_L, yR_L, vp_in, z_32]; done)
    · first | exact u2 | (dsimp only; simp [r0, r1, k0, k1, u0, u1, u2, q0, q1, q2, q3, q4, q5, hw0, hw4, hw5, hw6, hw2, hc, yI_same, yI_ne, yI_c, yR_I, yI_row, yR_row, yI_R, yR_ne, yR_same, yI_L, yR_L, vp_in, z_32]; done)
  obtain ⟨h2, c2, Y2⟩ := p1_copyT l h1 a d c Y1
  have t2 : XT l 13 516 false 159 153 6051 48 [xf 12 2, xi w, xi 0, xi n, xun] [xf 11 48, xf 11 59] h1 51 [xf 12 2, xi w, xi 0, xi n, xun] [] h2 := XT_call rfl rfl rfl (vs := [xf 11 59, xf 11 48]) (rest := []) rfl rfl rfl c2 (by decide) (by decide) (by decide) ⟨Nat.le_of_eq Y2.1.2.2.1, Nat.le_of_eq Y2.1.2.2.2⟩
  obtain ⟨h3, t3, Y3⟩ : ∃ h', XT l 13 516 false 159 153 6051 51 [xf 12 2, xi w, xi 0, xi n, xun] [] h2 70 [xf 12 2, xi w, xi 0, xi n, xi 0] [] h' ∧ Y0 h' a d w := by
    have r0 : xR h2 2 4 = 59 := Y2.1.1 (2, 4, 59) (by decide)
    have k0 : xfk 12 4 = 11 := rfl
    obtain ⟨-, u0, u1, u2⟩ := id Y2
    refine ⟨_, XT_path (inl := []) (n' := 15) (sp := [70]) (o := []) rfl rfl ?_ rfl ⟨Nat.le_of_eq Y2.1.2.2.1, Nat.le_of_eq Y2.1.2.2.2⟩ ?_, ?_, ?_, ?_, ?_⟩
    · refine ⟨rfl, ?_, ?_⟩ <;> first | rfl | (dsimp only; simp [r0, k0, u0, u1, u2, q0, q1, q2, q3, q4, q5, hw0, hw4, hw5, hw6, hw2, hc, yI_same, yI_ne, yI_c, yR_I, yI_row, yR_row, yI_R, yR_ne, yR_same, yI_L, yR_L, vp_in, z_32] <;> rfl)
    · first | trivial | (dsimp only; simp [r0, k0, u0, u1, u2, q0, q1, q2, q3, q4, q5, hw0, hw4, hw5, hw6, hw2, hc, yI_same, yI_ne, yI_c, yR_I, yI_row, yR_row, yI_R, yR_ne, yR_same, yI_L, yR_L, vp_in, z_32]; done)
    · dsimp only
      try simp [r0, yR_I, yR_row, yI_R, yR_ne, yR_same]
      (repeat (first | exact Y2.1 | (refine FYL.setI ?_ rfl) | (refine FYL.setC ?_ rfl) | (refine FYL.row ?_ rfl) | (refine FYL.setR ?_ rfl) | (refine FYL.setRv ?_ (by first | assumption | (simp [r0, k0, yR_I, yR_row, yR_ne]; done)) rfl)))
    · first | exact u0 | (dsimp only; simp [r0, k0, u0, u1, u2, q0, q1, q2, q3, q4, q5, hw0, hw4, hw5, hw6, hw2, hc, yI_same, yI_ne, yI_c, yR_I, yI_row, yR_row, yI_R, yR_ne, yR_same, yI_L, yR_L, vp_in, z_32]; done)
    · first | exact u1 | (dsimp only; simp [r0, k0, u0, u1, u2, q0, q1, q2, q3, q4, q5, hw0, hw4, hw5, hw6, hw2, hc, yI_same, yI_ne, yI_c, yR_I, yI_row, yR_row, yI_R, yR_ne, yR_same, yI_L, yR_L, vp_in, z_32]; done)
    · first | exact u2 | (dsimp only; simp [r0, k0, u0, u1, u2, q0, q1, q2, q3, q4, q5, hw0, hw4, hw5, hw6, hw2, hc, yI_same, yI_ne, yI_c, yR_I, yI_row, yR_row, yI_R, yR_ne, yR_same, yI_L, yR_L, vp_in, z_32]; done)
  obtain ⟨h4, t4, Y4⟩ := p1_tloop l n a d w w hc (by omega) n.toInt.toNat 0 h3 Y3 (by decide) (by rw [hm]; exact Int.zero_add _)
  obtain ⟨h5, t5, Y5⟩ : ∃ h', XT l 13 516 false 159 153 6051 89 [xf 12 2, xi w, xi 0, xi n, xi n] [] h4 104 [xf 12 2, xi w, xi 0, xi n, xi n] [xi 0] h' ∧ Y0 h' a d w := by
    have r0 : xR h4 2 3 = 48 := Y4.1.1 (2, 3, 48) (by decide)
    have r1 : xR h4 2 4 = 59 := Y4.1.1 (2, 4, 59) (by decide)
    have r2 : xR h4 48 0 = 3 := Y4.1.1 (48, 0, 3) (by decide)
    have r3 : xR h4 59 0 = 3 := Y4.1.1 (59, 0, 3) (by decide)
    have k0 : xfk 11 0 = 8 := rfl
    have k1 : xfk 12 3 = 11 := rfl
    have k2 : xfk 12 4 = 11 := rfl
    have i0 : xI h4 3 0 = 0 := Y4.1.2.1 (3, 0, 0) (by decide)
    obtain ⟨-, u0, u1, u2⟩ := id Y4
    refine ⟨_, XT_path (inl := [160]) (n' := 34) (sp := [104]) (o := [1, 1]) rfl rfl ?_ rfl ⟨Nat.le_of_eq Y4.1.2.2.1, Nat.le_of_eq Y4.1.2.2.2⟩ ?_, ?_, ?_, ?_, ?_⟩
    · refine ⟨rfl, ?_, ?_⟩ <;> first | rfl | (dsimp only; simp [r0, r1, r2, r3, k0, k1, k2, i0, u0, u1, u2, q0, q1, q2, q3, q4, q5, hw0, hw4, hw5, hw6, hw2, hc, yI_same, yI_ne, yI_c, yR_I, yI_row, yR_row, yI_R, yR_ne, yR_same, yI_L, yR_L, vp_in, z_32] <;> rfl)
    · first | trivial | (dsimp only; simp [r0, r1, r2, r3, k0, k1, k2, i0, u0, u1, u2, q0, q1, q2, q3, q4, q5, hw0, hw4, hw5, hw6, hw2, hc, yI_same, yI_ne, yI_c, yR_I, yI_row, yR_row, yI_R, yR_ne, yR_same, yI_L, yR_L, vp_in, z_32]; done)
    · dsimp only
      (repeat (first | exact Y4.1 | (refine FYL.setI ?_ rfl) | (refine FYL.setC ?_ rfl) | (refine FYL.row ?_ rfl) | (refine FYL.setR ?_ rfl) | (refine FYL.setRv ?_ (by first | assumption | (simp [r0, r1, r2, r3, k0, k1, k2, i0, yR_I, yR_row, yR_ne]; done)) rfl)))
    · first | exact u0 | (dsimp only; simp [r0, r1, r2, r3, k0, k1, k2, i0, u0, u1, u2, q0, q1, q2, q3, q4, q5, hw0, hw4, hw5, hw6, hw2, hc, yI_same, yI_ne, yI_c, yR_I, yI_row, yR_row, yI_R, yR_ne, yR_same, yI_L, yR_L, vp_in, z_32]; done)
    · first | exact u1 | (dsimp only; simp [r0, r1, r2, r3, k0, k1, k2, i0, u0, u1, u2, q0, q1, q2, q3, q4, q5, hw0, hw4, hw5, hw6, hw2, hc, yI_same, yI_ne, yI_c, yR_I, yI_row, yR_row, yI_R, yR_ne, yR_same, yI_L, yR_L, vp_in, z_32]; done)
    · first | exact u2 | (dsimp only; simp [r0, r1, r2, r3, k0, k1, k2, i0, u0, u1, u2, q0, q1, q2, q3, q4, q5, hw0, hw4, hw5, hw6, hw2, hc, yI_same, yI_ne, yI_c, yR_I, yI_row, yR_row, yI_R, yR_ne, yR_same, yI_L, yR_L, vp_in, z_32]; done)
  exact ⟨h5, CX_ofT (by decide) rfl rfl trivial ⟨_, _, _, rfl, rfl, rfl⟩ rfl ⟨Nat.le_of_eq Y5.1.2.2.1.symm, Nat.le_of_eq Y5.1.2.2.2.symm⟩ (t1.tr (t2.tr (t3.tr (t4.tr t5)))), Y5⟩

set_option maxRecDepth 100000 in
set_option maxHeartbeats 1000000 in
theorem p1_tri3 (l : Launch) (h : XH) (w n a d c : Int32) (Y : Y0 h a d c) (hn0 : 0 ≤ n.toInt) (hn1 : n.toInt ≤ 60) (hw0 : ¬ w < 0) (hw4 : ¬ 4 < w) (hw5 : 0 ≤ w) (hw6 : w ≤ 4) (hw2 : ¬ w = 2) (hc : w = 3) : ∃ h', CX l 13 516 false 159 [xf 12 2, xi w, xi 0, xi n] h [xi 0] h' ∧ Y0 h' a d w := by
  have q0 : ¬ n < 0 := fun z => by
    have := Int32.lt_iff_toInt_lt.mp z
    have e0 : (0 : Int32).toInt = 0 := rfl
    omega
  have q1 : ¬ 60 < n := fun z => by
    have := Int32.lt_iff_toInt_lt.mp z
    have e0 : (60 : Int32).toInt = 60 := rfl
    omega
  have q2 : n ≤ 9999 := by
    refine Int32.le_iff_toInt_le.mpr ?_
    have e0 : (9999 : Int32).toInt = 9999 := rfl
    omega
  have q3 : ¬ 9999 < n := fun z => by
    have := Int32.lt_iff_toInt_lt.mp z
    have e0 : (9999 : Int32).toInt = 9999 := rfl
    omega
  have q4 : 0 ≤ n := Int32.le_iff_toInt_le.mpr hn0
  have q5 : n ≤ 60 := by
    refine Int32.le_iff_toInt_le.mpr ?_
    have e0 : (60 : Int32).toInt = 60 := rfl
    omega
  have hm : ((n.toInt.toNat : Nat) : Int) = n.toInt := Int.toNat_of_nonneg hn0
  obtain ⟨h1, t1, Y1⟩ : ∃ h', XT l 13 516 false 159 153 6051 0 [xf 12 2, xi w, xi 0, xi n, xun] [] h 48 [xf 12 2, xi w, xi 0, xi n, xun] [xf 11 48, xf 11 59] h' ∧ Y0 h' a d c := by
    have r0 : xR h 2 3 = 48 := Y.1.1 (2, 3, 48) (by decide)
    have r1 : xR h 2 4 = 59 := Y.1.1 (2, 4, 59) (by decide)
    have k0 : xfk 12 3 = 11 := rfl
    have k1 : xfk 12 4 = 11 := rfl
    obtain ⟨-, u0, u1, u2⟩ := id Y
    refine ⟨_, XT_path (inl := [104]) (n' := 30) (sp := [48]) (o := [0, 0, 0, 0, 1, 1, 1]) rfl rfl ?_ rfl ⟨Nat.le_of_eq Y.1.2.2.1, Nat.le_of_eq Y.1.2.2.2⟩ ?_, ?_, ?_, ?_, ?_⟩
    · refine ⟨rfl, ?_, ?_⟩ <;> first | rfl | (dsimp only; simp [r0, r1, k0, k1, u0, u1, u2, q0, q1, q2, q3, q4, q5, hw0, hw4, hw5, hw6, hw2, yI_same, yI_ne, yI_c, yR_I, yI_row, yR_row, yI_R, yR_ne, yR_same, yI_L, yR_L, vp_in, z_32] <;> rfl)
    · first | trivial | (dsimp only; simp [r0, r1, k0, k1, u0, u1, u2, q0, q1, q2, q3, q4, q5, hw0, hw4, hw5, hw6, hw2, yI_same, yI_ne, yI_c, yR_I, yI_row, yR_row, yI_R, yR_ne, yR_same, yI_L, yR_L, vp_in, z_32]; done)
    · dsimp only
      (repeat (first | exact Y.1 | (refine FYL.setI ?_ rfl) | (refine FYL.setC ?_ rfl) | (refine FYL.row ?_ rfl) | (refine FYL.setR ?_ rfl) | (refine FYL.setRv ?_ (by first | assumption | (simp [r0, r1, k0, k1, yR_I, yR_row, yR_ne]; done)) rfl)))
    · first | exact u0 | (dsimp only; simp [r0, r1, k0, k1, u0, u1, u2, q0, q1, q2, q3, q4, q5, hw0, hw4, hw5, hw6, hw2, yI_same, yI_ne, yI_c, yR_I, yI_row, yR_row, yI_R, yR_ne, yR_same, yI_L, yR_L, vp_in, z_32]; done)
    · first | exact u1 | (dsimp only; simp [r0, r1, k0, k1, u0, u1, u2, q0, q1, q2, q3, q4, q5, hw0, hw4, hw5, hw6, hw2, yI_same, yI_ne, yI_c, yR_I, yI_row, yR_row, yI_R, yR_ne, yR_same, yI_L, yR_L, vp_in, z_32]; done)
    · first | exact u2 | (dsimp only; simp [r0, r1, k0, k1, u0, u1, u2, q0, q1, q2, q3, q4, q5, hw0, hw4, hw5, hw6, hw2, yI_same, yI_ne, yI_c, yR_I, yI_row, yR_row, yI_R, yR_ne, yR_same, yI_L, yR_L, vp_in, z_32]; done)
  obtain ⟨h2, c2, Y2⟩ := p1_copyT l h1 a d c Y1
  have t2 : XT l 13 516 false 159 153 6051 48 [xf 12 2, xi w, xi 0, xi n, xun] [xf 11 48, xf 11 59] h1 51 [xf 12 2, xi w, xi 0, xi n, xun] [] h2 := XT_call rfl rfl rfl (vs := [xf 11 59, xf 11 48]) (rest := []) rfl rfl rfl c2 (by decide) (by decide) (by decide) ⟨Nat.le_of_eq Y2.1.2.2.1, Nat.le_of_eq Y2.1.2.2.2⟩
  obtain ⟨h3, t3, Y3⟩ : ∃ h', XT l 13 516 false 159 153 6051 51 [xf 12 2, xi w, xi 0, xi n, xun] [] h2 70 [xf 12 2, xi w, xi 0, xi n, xi 0] [] h' ∧ Y0 h' a d w := by
    have r0 : xR h2 2 4 = 59 := Y2.1.1 (2, 4, 59) (by decide)
    have k0 : xfk 12 4 = 11 := rfl
    obtain ⟨-, u0, u1, u2⟩ := id Y2
    refine ⟨_, XT_path (inl := []) (n' := 15) (sp := [70]) (o := []) rfl rfl ?_ rfl ⟨Nat.le_of_eq Y2.1.2.2.1, Nat.le_of_eq Y2.1.2.2.2⟩ ?_, ?_, ?_, ?_, ?_⟩
    · refine ⟨rfl, ?_, ?_⟩ <;> first | rfl | (dsimp only; simp [r0, k0, u0, u1, u2, q0, q1, q2, q3, q4, q5, hw0, hw4, hw5, hw6, hw2, yI_same, yI_ne, yI_c, yR_I, yI_row, yR_row, yI_R, yR_ne, yR_same, yI_L, yR_L, vp_in, z_32] <;> rfl)
    · first | trivial | (dsimp only; simp [r0, k0, u0, u1, u2, q0, q1, q2, q3, q4, q5, hw0, hw4, hw5, hw6, hw2, yI_same, yI_ne, yI_c, yR_I, yI_row, yR_row, yI_R, yR_ne, yR_same, yI_L, yR_L, vp_in, z_32]; done)
    · dsimp only
      try simp [r0, yR_I, yR_row, yI_R, yR_ne, yR_same]
      (repeat (first | exact Y2.1 | (refine FYL.setI ?_ rfl) | (refine FYL.setC ?_ rfl) | (refine FYL.row ?_ rfl) | (refine FYL.setR ?_ rfl) | (refine FYL.setRv ?_ (by first | assumption | (simp [r0, k0, yR_I, yR_row, yR_ne]; done)) rfl)))
    · first | exact u0 | (dsimp only; simp [r0, k0, u0, u1, u2, q0, q1, q2, q3, q4, q5, hw0, hw4, hw5, hw6, hw2, yI_same, yI_ne, yI_c, yR_I, yI_row, yR_row, yI_R, yR_ne, yR_same, yI_L, yR_L, vp_in, z_32]; done)
    · first | exact u1 | (dsimp only; simp [r0, k0, u0, u1, u2, q0, q1, q2, q3, q4, q5, hw0, hw4, hw5, hw6, hw2, yI_same, yI_ne, yI_c, yR_I, yI_row, yR_row, yI_R, yR_ne, yR_same, yI_L, yR_L, vp_in, z_32]; done)
    · first | exact u2 | (dsimp only; simp [r0, k0, u0, u1, u2, q0, q1, q2, q3, q4, q5, hw0, hw4, hw5, hw6, hw2, yI_same, yI_ne, yI_c, yR_I, yI_row, yR_row, yI_R, yR_ne, yR_same, yI_L, yR_L, vp_in, z_32]; done)
  obtain ⟨h4, t4, Y4⟩ := p1_tloop3 l n a d w w hc (by omega) n.toInt.toNat 0 h3 Y3 (by decide) (by rw [hm]; exact Int.zero_add _)
  obtain ⟨h5, t5, Y5⟩ : ∃ h', XT l 13 516 false 159 153 6051 89 [xf 12 2, xi w, xi 0, xi n, xi n] [] h4 104 [xf 12 2, xi w, xi 0, xi n, xi n] [xi 0] h' ∧ Y0 h' a d w := by
    have r0 : xR h4 2 3 = 48 := Y4.1.1 (2, 3, 48) (by decide)
    have r1 : xR h4 2 4 = 59 := Y4.1.1 (2, 4, 59) (by decide)
    have r2 : xR h4 48 0 = 3 := Y4.1.1 (48, 0, 3) (by decide)
    have r3 : xR h4 59 0 = 3 := Y4.1.1 (59, 0, 3) (by decide)
    have k0 : xfk 11 0 = 8 := rfl
    have k1 : xfk 12 3 = 11 := rfl
    have k2 : xfk 12 4 = 11 := rfl
    have i0 : xI h4 3 0 = 0 := Y4.1.2.1 (3, 0, 0) (by decide)
    obtain ⟨-, u0, u1, u2⟩ := id Y4
    refine ⟨_, XT_path (inl := [160]) (n' := 34) (sp := [104]) (o := [1, 1]) rfl rfl ?_ rfl ⟨Nat.le_of_eq Y4.1.2.2.1, Nat.le_of_eq Y4.1.2.2.2⟩ ?_, ?_, ?_, ?_, ?_⟩
    · refine ⟨rfl, ?_, ?_⟩ <;> first | rfl | (dsimp only; simp [r0, r1, r2, r3, k0, k1, k2, i0, u0, u1, u2, q0, q1, q2, q3, q4, q5, hw0, hw4, hw5, hw6, hw2, yI_same, yI_ne, yI_c, yR_I, yI_row, yR_row, yI_R, yR_ne, yR_same, yI_L, yR_L, vp_in, z_32] <;> rfl)
    · first | trivial | (dsimp only; simp [r0, r1, r2, r3, k0, k1, k2, i0, u0, u1, u2, q0, q1, q2, q3, q4, q5, hw0, hw4, hw5, hw6, hw2, yI_same, yI_ne, yI_c, yR_I, yI_row, yR_row, yI_R, yR_ne, yR_same, yI_L, yR_L, vp_in, z_32]; done)
    · dsimp only
      (repeat (first | exact Y4.1 | (refine FYL.setI ?_ rfl) | (refine FYL.setC ?_ rfl) | (refine FYL.row ?_ rfl) | (refine FYL.setR ?_ rfl) | (refine FYL.setRv ?_ (by first | assumption | (simp [r0, r1, r2, r3, k0, k1, k2, i0, yR_I, yR_row, yR_ne]; done)) rfl)))
    · first | exact u0 | (dsimp only; simp [r0, r1, r2, r3, k0, k1, k2, i0, u0, u1, u2, q0, q1, q2, q3, q4, q5, hw0, hw4, hw5, hw6, hw2, yI_same, yI_ne, yI_c, yR_I, yI_row, yR_row, yI_R, yR_ne, yR_same, yI_L, yR_L, vp_in, z_32]; done)
    · first | exact u1 | (dsimp only; simp [r0, r1, r2, r3, k0, k1, k2, i0, u0, u1, u2, q0, q1, q2, q3, q4, q5, hw0, hw4, hw5, hw6, hw2, yI_same, yI_ne, yI_c, yR_I, yI_row, yR_row, yI_R, yR_ne, yR_same, yI_L, yR_L, vp_in, z_32]; done)
    · first | exact u2 | (dsimp only; simp [r0, r1, r2, r3, k0, k1, k2, i0, u0, u1, u2, q0, q1, q2, q3, q4, q5, hw0, hw4, hw5, hw6, hw2, yI_same, yI_ne, yI_c, yR_I, yI_row, yR_row, yI_R, yR_ne, yR_same, yI_L, yR_L, vp_in, z_32]; done)
  exact ⟨h5, CX_ofT (by decide) rfl rfl trivial ⟨_, _, _, rfl, rfl, rfl⟩ rfl ⟨Nat.le_of_eq Y5.1.2.2.1.symm, Nat.le_of_eq Y5.1.2.2.2.symm⟩ (t1.tr (t2.tr (t3.tr (t4.tr t5)))), Y5⟩

set_option maxRecDepth 100000 in
set_option maxHeartbeats 1000000 in
theorem p1_mtri (l : Launch) (h : XH) (w n a d c : Int32) (Y : Y0 h a d c) (hn0 : 0 ≤ n.toInt) (hn1 : n.toInt ≤ 60) (hw0 : ¬ w < 0) (hw4 : ¬ 4 < w) (hw5 : 0 ≤ w) (hw6 : w ≤ 4) (hw2 : ¬ w = 2) : ∃ h', CX l 13 517 false 282 [xf 13 104, xi w, xi 0, xi n] h [xi 0] h' ∧ Y0 h' a d c := by
  have q0 : ¬ n < 0 := fun z => by
    have := Int32.lt_iff_toInt_lt.mp z
    have e0 : (0 : Int32).toInt = 0 := rfl
    omega
  have q1 : ¬ 60 < n := fun z => by
    have := Int32.lt_iff_toInt_lt.mp z
    have e0 : (60 : Int32).toInt = 60 := rfl
    omega
  have q2 : n ≤ 9999 := by
    refine Int32.le_iff_toInt_le.mpr ?_
    have e0 : (9999 : Int32).toInt = 9999 := rfl
    omega
  have q3 : ¬ 9999 < n := fun z => by
    have := Int32.lt_iff_toInt_lt.mp z
    have e0 : (9999 : Int32).toInt = 9999 := rfl
    omega
  have q4 : 0 ≤ n := Int32.le_iff_toInt_le.mpr hn0
  have q5 : n ≤ 60 := by
    refine Int32.le_iff_toInt_le.mpr ?_
    have e0 : (60 : Int32).toInt = 60 := rfl
    omega
  have hm : ((n.toInt.toNat : Nat) : Int) = n.toInt := Int.toNat_of_nonneg hn0
  obtain ⟨h1, t1, Y1⟩ : ∃ h', XT l 13 517 false 282 153 6051 0 [xf 13 104, xi w, xi 0, xi n] [] h 47 [xf 13 104, xi w, xi 0, xi n] [xf 13 104] h' ∧ Y0 h' a d c := by
    obtain ⟨-, u0, u1, u2⟩ := id Y
    refine ⟨_, XT_path (inl := [193]) (n' := 42) (sp := [47]) (o := [0, 0, 0, 0, 0, 0, 1, 1]) rfl rfl ?_ rfl ⟨Nat.le_of_eq Y.1.2.2.1, Nat.le_of_eq Y.1.2.2.2⟩ ?_, ?_, ?_, ?_, ?_⟩
    · refine ⟨rfl, ?_, ?_⟩ <;> first | rfl | (dsimp only; simp [u0, u1, u2, q0, q1, q2, q3, q4, q5, hw0, hw4, hw5, hw6, hw2, yI_same, yI_ne, yI_c, yR_I, yI_row, yR_row, yI_R, yR_ne, yR_same, yI_L, yR_L, vp_in, z_32] <;> rfl)
    · first | trivial | (dsimp only; simp [u0, u1, u2, q0, q1, q2, q3, q4, q5, hw0, hw4, hw5, hw6, hw2, yI_same, yI_ne, yI_c, yR_I, yI_row, yR_row, yI_R, yR_ne, yR_same, yI_L, yR_L, vp_in, z_32]; done)
    · dsimp only
      (repeat (first | exact Y.1 | (refine FYL.setI ?_ rfl) | (refine FYL.setC ?_ rfl) | (refine FYL.row ?_ rfl) | (refine FYL.setR ?_ rfl) | (refine FYL.setRv ?_ (by first | assumption | (simp [yR_I, yR_row, yR_ne]; done)) rfl)))
    · first | exact u0 | (dsimp only; simp [u0, u1, u2, q0, q1, q2, q3, q4, q5, hw0, hw4, hw5, hw6, hw2, yI_same, yI_ne, yI_c, yR_I, yI_row, yR_row, yI_R, yR_ne, yR_same, yI_L, yR_L, vp_in, z_32]; done)
    · first | exact u1 | (dsimp only; simp [u0, u1, u2, q0, q1, q2, q3, q4, q5, hw0, hw4, hw5, hw6, hw2, yI_same, yI_ne, yI_c, yR_I, yI_row, yR_row, yI_R, yR_ne, yR_same, yI_L, yR_L, vp_in, z_32]; done)
    · first | exact u2 | (dsimp only; simp [u0, u1, u2, q0, q1, q2, q3, q4, q5, hw0, hw4, hw5, hw6, hw2, yI_same, yI_ne, yI_c, yR_I, yI_row, yR_row, yI_R, yR_ne, yR_same, yI_L, yR_L, vp_in, z_32]; done)
  obtain ⟨h2, c2, Y2⟩ := p1_lay l h1 a d c Y1
  have t2 : XT l 13 517 false 282 153 6051 47 [xf 13 104, xi w, xi 0, xi n] [xf 13 104] h1 50 [xf 13 104, xi w, xi 0, xi n] [] h2 := XT_call rfl rfl rfl (vs := [xf 13 104]) (rest := []) rfl rfl rfl c2 (by decide) (by decide) (by decide) ⟨Nat.le_of_eq Y2.1.2.2.1, Nat.le_of_eq Y2.1.2.2.2⟩
  obtain ⟨h3, t3, Y3⟩ : ∃ h', XT l 13 517 false 282 153 6051 50 [xf 13 104, xi w, xi 0, xi n] [] h2 62 [xf 13 104, xi w, xi 0, xi n] [xi n, xf 13 104] h' ∧ Y0 h' a d c := by
    obtain ⟨-, u0, u1, u2⟩ := id Y2
    refine ⟨_, XT_path (inl := []) (n' := 13) (sp := [62]) (o := []) rfl rfl ?_ rfl ⟨Nat.le_of_eq Y2.1.2.2.1, Nat.le_of_eq Y2.1.2.2.2⟩ ?_, ?_, ?_, ?_, ?_⟩
    · refine ⟨rfl, ?_, ?_⟩ <;> first | rfl | (dsimp only; simp [u0, u1, u2, q0, q1, q2, q3, q4, q5, hw0, hw4, hw5, hw6, hw2, yI_same, yI_ne, yI_c, yR_I, yI_row, yR_row, yI_R, yR_ne, yR_same, yI_L, yR_L, vp_in, z_32] <;> rfl)
    · first | trivial | (dsimp only; simp [u0, u1, u2, q0, q1, q2, q3, q4, q5, hw0, hw4, hw5, hw6, hw2, yI_same, yI_ne, yI_c, yR_I, yI_row, yR_row, yI_R, yR_ne, yR_same, yI_L, yR_L, vp_in, z_32]; done)
    · dsimp only
      (repeat (first | exact Y2.1 | (refine FYL.setI ?_ rfl) | (refine FYL.setC ?_ rfl) | (refine FYL.row ?_ rfl) | (refine FYL.setR ?_ rfl) | (refine FYL.setRv ?_ (by first | assumption | (simp [yR_I, yR_row, yR_ne]; done)) rfl)))
    · first | exact u0 | (dsimp only; simp [u0, u1, u2, q0, q1, q2, q3, q4, q5, hw0, hw4, hw5, hw6, hw2, yI_same, yI_ne, yI_c, yR_I, yI_row, yR_row, yI_R, yR_ne, yR_same, yI_L, yR_L, vp_in, z_32]; done)
    · first | exact u1 | (dsimp only; simp [u0, u1, u2, q0, q1, q2, q3, q4, q5, hw0, hw4, hw5, hw6, hw2, yI_same, yI_ne, yI_c, yR_I, yI_row, yR_row, yI_R, yR_ne, yR_same, yI_L, yR_L, vp_in, z_32]; done)
    · first | exact u2 | (dsimp only; simp [u0, u1, u2, q0, q1, q2, q3, q4, q5, hw0, hw4, hw5, hw6, hw2, yI_same, yI_ne, yI_c, yR_I, yI_row, yR_row, yI_R, yR_ne, yR_same, yI_L, yR_L, vp_in, z_32]; done)
  obtain ⟨h4, c4, Y4⟩ := p1_goMany l h3 n a d c Y3 hn0 (by omega)
  have t4 : XT l 13 517 false 282 153 6051 62 [xf 13 104, xi w, xi 0, xi n] [xi n, xf 13 104] h3 65 [xf 13 104, xi w, xi 0, xi n] [] h4 := XT_call rfl rfl rfl (vs := [xf 13 104, xi n]) (rest := []) rfl rfl rfl c4 (by decide) (by decide) (by decide) ⟨Nat.le_of_eq Y4.1.2.2.1, Nat.le_of_eq Y4.1.2.2.2⟩
  obtain ⟨h5, t5, Y5⟩ : ∃ h', XT l 13 517 false 282 153 6051 65 [xf 13 104, xi w, xi 0, xi n] [] h4 80 [xf 13 104, xi w, xi 0, xi n] [xi 0] h' ∧ Y0 h' a d c := by
    have i0 : xI h4 104 12 = 0 := Y4.1.2.1 (104, 12, 0) (by decide)
    obtain ⟨-, u0, u1, u2⟩ := id Y4
    refine ⟨_, XT_path (inl := [177, 283]) (n' := 41) (sp := [80]) (o := [1, 1]) rfl rfl ?_ rfl ⟨Nat.le_of_eq Y4.1.2.2.1, Nat.le_of_eq Y4.1.2.2.2⟩ ?_, ?_, ?_, ?_, ?_⟩
    · refine ⟨rfl, ?_, ?_⟩ <;> first | rfl | (dsimp only; simp [i0, u0, u1, u2, q0, q1, q2, q3, q4, q5, hw0, hw4, hw5, hw6, hw2, yI_same, yI_ne, yI_c, yR_I, yI_row, yR_row, yI_R, yR_ne, yR_same, yI_L, yR_L, vp_in, z_32] <;> rfl)
    · first | trivial | (dsimp only; simp [i0, u0, u1, u2, q0, q1, q2, q3, q4, q5, hw0, hw4, hw5, hw6, hw2, yI_same, yI_ne, yI_c, yR_I, yI_row, yR_row, yI_R, yR_ne, yR_same, yI_L, yR_L, vp_in, z_32]; done)
    · dsimp only
      (repeat (first | exact Y4.1 | (refine FYL.setI ?_ rfl) | (refine FYL.setC ?_ rfl) | (refine FYL.row ?_ rfl) | (refine FYL.setR ?_ rfl) | (refine FYL.setRv ?_ (by first | assumption | (simp [i0, yR_I, yR_row, yR_ne]; done)) rfl)))
    · first | exact u0 | (dsimp only; simp [i0, u0, u1, u2, q0, q1, q2, q3, q4, q5, hw0, hw4, hw5, hw6, hw2, yI_same, yI_ne, yI_c, yR_I, yI_row, yR_row, yI_R, yR_ne, yR_same, yI_L, yR_L, vp_in, z_32]; done)
    · first | exact u1 | (dsimp only; simp [i0, u0, u1, u2, q0, q1, q2, q3, q4, q5, hw0, hw4, hw5, hw6, hw2, yI_same, yI_ne, yI_c, yR_I, yI_row, yR_row, yI_R, yR_ne, yR_same, yI_L, yR_L, vp_in, z_32]; done)
    · first | exact u2 | (dsimp only; simp [i0, u0, u1, u2, q0, q1, q2, q3, q4, q5, hw0, hw4, hw5, hw6, hw2, yI_same, yI_ne, yI_c, yR_I, yI_row, yR_row, yI_R, yR_ne, yR_same, yI_L, yR_L, vp_in, z_32]; done)
  exact ⟨h5, CX_ofT (by decide) rfl rfl trivial ⟨_, _, _, rfl, rfl, rfl⟩ rfl ⟨Nat.le_of_eq Y5.1.2.2.1.symm, Nat.le_of_eq Y5.1.2.2.2.symm⟩ (t1.tr (t2.tr (t3.tr (t4.tr t5)))), Y5⟩

set_option maxRecDepth 100000 in
set_option maxHeartbeats 1000000 in
theorem p1_ste (l : Launch) (h : XH) (n a d c : Int32) (Y : Y0 h a d c) (hn0 : 0 ≤ n.toInt) (hn1 : n.toInt ≤ 99) (hs0 : ¬ n < 1) (hs1 : 1 ≤ n) : ∃ h', CX l 13 518 false 106 [xf 12 2, xi n] h [xi 0] h' ∧ Y0 h' a d (-1) := by
  have q0 : ¬ n < 0 := fun z => by
    have := Int32.lt_iff_toInt_lt.mp z
    have e0 : (0 : Int32).toInt = 0 := rfl
    omega
  have q1 : ¬ 99 < n := fun z => by
    have := Int32.lt_iff_toInt_lt.mp z
    have e0 : (99 : Int32).toInt = 99 := rfl
    omega
  have q2 : n ≤ 9999 := by
    refine Int32.le_iff_toInt_le.mpr ?_
    have e0 : (9999 : Int32).toInt = 9999 := rfl
    omega
  have q3 : ¬ 9999 < n := fun z => by
    have := Int32.lt_iff_toInt_lt.mp z
    have e0 : (9999 : Int32).toInt = 9999 := rfl
    omega
  have q4 : 0 ≤ n := Int32.le_iff_toInt_le.mpr hn0
  have q5 : n ≤ 99 := by
    refine Int32.le_iff_toInt_le.mpr ?_
    have e0 : (99 : Int32).toInt = 99 := rfl
    omega
  have hm : ((n.toInt.toNat : Nat) : Int) = n.toInt := Int.toNat_of_nonneg hn0
  obtain ⟨h1, t1, Y1⟩ : ∃ h', XT l 13 518 false 106 153 6051 0 [xf 12 2, xi n, xun] [] h 21 [xf 12 2, xi n, xun] [xf 11 48, xf 11 59] h' ∧ Y0 h' a d c := by
    have r0 : xR h 2 3 = 48 := Y.1.1 (2, 3, 48) (by decide)
    have r1 : xR h 2 4 = 59 := Y.1.1 (2, 4, 59) (by decide)
    have k0 : xfk 12 3 = 11 := rfl
    have k1 : xfk 12 4 = 11 := rfl
    obtain ⟨-, u0, u1, u2⟩ := id Y
    refine ⟨_, XT_path (inl := []) (n' := 15) (sp := [21]) (o := [0, 1]) rfl rfl ?_ rfl ⟨Nat.le_of_eq Y.1.2.2.1, Nat.le_of_eq Y.1.2.2.2⟩ ?_, ?_, ?_, ?_, ?_⟩
    · refine ⟨rfl, ?_, ?_⟩ <;> first | rfl | (dsimp only; simp [r0, r1, k0, k1, u0, u1, u2, q0, q1, q2, q3, q4, q5, hs0, hs1, yI_same, yI_ne, yI_c, yR_I, yI_row, yR_row, yI_R, yR_ne, yR_same, yI_L, yR_L, vp_in, z_32] <;> rfl)
    · first | trivial | (dsimp only; simp [r0, r1, k0, k1, u0, u1, u2, q0, q1, q2, q3, q4, q5, hs0, hs1, yI_same, yI_ne, yI_c, yR_I, yI_row, yR_row, yI_R, yR_ne, yR_same, yI_L, yR_L, vp_in, z_32]; done)
    · dsimp only
      (repeat (first | exact Y.1 | (refine FYL.setI ?_ rfl) | (refine FYL.setC ?_ rfl) | (refine FYL.row ?_ rfl) | (refine FYL.setR ?_ rfl) | (refine FYL.setRv ?_ (by first | assumption | (simp [r0, r1, k0, k1, yR_I, yR_row, yR_ne]; done)) rfl)))
    · first | exact u0 | (dsimp only; simp [r0, r1, k0, k1, u0, u1, u2, q0, q1, q2, q3, q4, q5, hs0, hs1, yI_same, yI_ne, yI_c, yR_I, yI_row, yR_row, yI_R, yR_ne, yR_same, yI_L, yR_L, vp_in, z_32]; done)
    · first | exact u1 | (dsimp only; simp [r0, r1, k0, k1, u0, u1, u2, q0, q1, q2, q3, q4, q5, hs0, hs1, yI_same, yI_ne, yI_c, yR_I, yI_row, yR_row, yI_R, yR_ne, yR_same, yI_L, yR_L, vp_in, z_32]; done)
    · first | exact u2 | (dsimp only; simp [r0, r1, k0, k1, u0, u1, u2, q0, q1, q2, q3, q4, q5, hs0, hs1, yI_same, yI_ne, yI_c, yR_I, yI_row, yR_row, yI_R, yR_ne, yR_same, yI_L, yR_L, vp_in, z_32]; done)
  obtain ⟨h2, c2, Y2⟩ := p1_copyT l h1 a d c Y1
  have t2 : XT l 13 518 false 106 153 6051 21 [xf 12 2, xi n, xun] [xf 11 48, xf 11 59] h1 24 [xf 12 2, xi n, xun] [] h2 := XT_call rfl rfl rfl (vs := [xf 11 59, xf 11 48]) (rest := []) rfl rfl rfl c2 (by decide) (by decide) (by decide) ⟨Nat.le_of_eq Y2.1.2.2.1, Nat.le_of_eq Y2.1.2.2.2⟩
  obtain ⟨h3, t3, Y3⟩ : ∃ h', XT l 13 518 false 106 153 6051 24 [xf 12 2, xi n, xun] [] h2 35 [xf 12 2, xi n, xi 0] [xf 11 59] h' ∧ Y0 h' a d (-1) := by
    have r0 : xR h2 2 4 = 59 := Y2.1.1 (2, 4, 59) (by decide)
    have k0 : xfk 12 4 = 11 := rfl
    obtain ⟨-, u0, u1, u2⟩ := id Y2
    refine ⟨_, XT_path (inl := []) (n' := 12) (sp := [35]) (o := [0]) rfl rfl ?_ rfl ⟨Nat.le_of_eq Y2.1.2.2.1, Nat.le_of_eq Y2.1.2.2.2⟩ ?_, ?_, ?_, ?_, ?_⟩
    · refine ⟨rfl, ?_, ?_⟩ <;> first | rfl | (dsimp only; simp [r0, k0, u0, u1, u2, q0, q1, q2, q3, q4, q5, hs0, hs1, yI_same, yI_ne, yI_c, yR_I, yI_row, yR_row, yI_R, yR_ne, yR_same, yI_L, yR_L, vp_in, z_32] <;> rfl)
    · first | trivial | (dsimp only; simp [r0, k0, u0, u1, u2, q0, q1, q2, q3, q4, q5, hs0, hs1, yI_same, yI_ne, yI_c, yR_I, yI_row, yR_row, yI_R, yR_ne, yR_same, yI_L, yR_L, vp_in, z_32]; done)
    · dsimp only
      (repeat (first | exact Y2.1 | (refine FYL.setI ?_ rfl) | (refine FYL.setC ?_ rfl) | (refine FYL.row ?_ rfl) | (refine FYL.setR ?_ rfl) | (refine FYL.setRv ?_ (by first | assumption | (simp [r0, k0, yR_I, yR_row, yR_ne]; done)) rfl)))
    · first | exact u0 | (dsimp only; simp [r0, k0, u0, u1, u2, q0, q1, q2, q3, q4, q5, hs0, hs1, yI_same, yI_ne, yI_c, yR_I, yI_row, yR_row, yI_R, yR_ne, yR_same, yI_L, yR_L, vp_in, z_32]; done)
    · first | exact u1 | (dsimp only; simp [r0, k0, u0, u1, u2, q0, q1, q2, q3, q4, q5, hs0, hs1, yI_same, yI_ne, yI_c, yR_I, yI_row, yR_row, yI_R, yR_ne, yR_same, yI_L, yR_L, vp_in, z_32]; done)
    · first | exact u2 | (dsimp only; simp [r0, k0, u0, u1, u2, q0, q1, q2, q3, q4, q5, hs0, hs1, yI_same, yI_ne, yI_c, yR_I, yI_row, yR_row, yI_R, yR_ne, yR_same, yI_L, yR_L, vp_in, z_32]; done)
  obtain ⟨h4, c4, Y4⟩ := p1_stretchT l h3 a d (-1) Y3 (by decide)
  have t4 : XT l 13 518 false 106 153 6051 35 [xf 12 2, xi n, xi 0] [xf 11 59] h3 38 [xf 12 2, xi n, xi 0] [xi 0] h4 := XT_call rfl rfl rfl (vs := [xf 11 59]) (rest := []) rfl rfl rfl c4 (by decide) (by decide) (by decide) ⟨Nat.le_of_eq Y4.1.2.2.1, Nat.le_of_eq Y4.1.2.2.2⟩
  obtain ⟨h5, t5, Y5⟩ : ∃ h', XT l 13 518 false 106 153 6051 38 [xf 12 2, xi n, xi 0] [xi 0] h4 42 [xf 12 2, xi n, xi 0] [xi 0] h' ∧ Y0 h' a d (-1) := by
    obtain ⟨-, u0, u1, u2⟩ := id Y4
    refine ⟨_, XT_path (inl := []) (n' := 7) (sp := [42]) (o := [0]) rfl rfl ?_ rfl ⟨Nat.le_of_eq Y4.1.2.2.1, Nat.le_of_eq Y4.1.2.2.2⟩ ?_, ?_, ?_, ?_, ?_⟩
    · refine ⟨rfl, ?_, ?_⟩ <;> first | rfl | (dsimp only; simp [u0, u1, u2, q0, q1, q2, q3, q4, q5, hs0, hs1, yI_same, yI_ne, yI_c, yR_I, yI_row, yR_row, yI_R, yR_ne, yR_same, yI_L, yR_L, vp_in, z_32] <;> rfl)
    · first | trivial | (dsimp only; simp [u0, u1, u2, q0, q1, q2, q3, q4, q5, hs0, hs1, yI_same, yI_ne, yI_c, yR_I, yI_row, yR_row, yI_R, yR_ne, yR_same, yI_L, yR_L, vp_in, z_32]; done)
    · dsimp only
      (repeat (first | exact Y4.1 | (refine FYL.setI ?_ rfl) | (refine FYL.setC ?_ rfl) | (refine FYL.row ?_ rfl) | (refine FYL.setR ?_ rfl) | (refine FYL.setRv ?_ (by first | assumption | (simp [yR_I, yR_row, yR_ne]; done)) rfl)))
    · first | exact u0 | (dsimp only; simp [u0, u1, u2, q0, q1, q2, q3, q4, q5, hs0, hs1, yI_same, yI_ne, yI_c, yR_I, yI_row, yR_row, yI_R, yR_ne, yR_same, yI_L, yR_L, vp_in, z_32]; done)
    · first | exact u1 | (dsimp only; simp [u0, u1, u2, q0, q1, q2, q3, q4, q5, hs0, hs1, yI_same, yI_ne, yI_c, yR_I, yI_row, yR_row, yI_R, yR_ne, yR_same, yI_L, yR_L, vp_in, z_32]; done)
    · first | exact u2 | (dsimp only; simp [u0, u1, u2, q0, q1, q2, q3, q4, q5, hs0, hs1, yI_same, yI_ne, yI_c, yR_I, yI_row, yR_row, yI_R, yR_ne, yR_same, yI_L, yR_L, vp_in, z_32]; done)
  exact ⟨h5, CX_ofT (by decide) rfl rfl trivial ⟨_, _, _, rfl, rfl, rfl⟩ rfl ⟨Nat.le_of_eq Y5.1.2.2.1.symm, Nat.le_of_eq Y5.1.2.2.2.symm⟩ (t1.tr (t2.tr (t3.tr (t4.tr t5)))), Y5⟩

set_option maxRecDepth 100000 in
set_option maxHeartbeats 1000000 in
theorem p1_mste (l : Launch) (h : XH) (n a d c : Int32) (Y : Y0 h a d c) (hn0 : 0 ≤ n.toInt) (hn1 : n.toInt ≤ 99) (hs0 : ¬ n < 1) (hs1 : 1 ≤ n) : ∃ h', CX l 13 516 false 250 [xf 13 104, xi n] h [xi 0] h' ∧ Y0 h' a d c := by
  have q0 : ¬ n < 0 := fun z => by
    have := Int32.lt_iff_toInt_lt.mp z
    have e0 : (0 : Int32).toInt = 0 := rfl
    omega
  have q1 : ¬ 99 < n := fun z => by
    have := Int32.lt_iff_toInt_lt.mp z
    have e0 : (99 : Int32).toInt = 99 := rfl
    omega
  have q2 : n ≤ 9999 := by
    refine Int32.le_iff_toInt_le.mpr ?_
    have e0 : (9999 : Int32).toInt = 9999 := rfl
    omega
  have q3 : ¬ 9999 < n := fun z => by
    have := Int32.lt_iff_toInt_lt.mp z
    have e0 : (9999 : Int32).toInt = 9999 := rfl
    omega
  have q4 : 0 ≤ n := Int32.le_iff_toInt_le.mpr hn0
  have q5 : n ≤ 99 := by
    refine Int32.le_iff_toInt_le.mpr ?_
    have e0 : (99 : Int32).toInt = 99 := rfl
    omega
  have hm : ((n.toInt.toNat : Nat) : Int) = n.toInt := Int.toNat_of_nonneg hn0
  obtain ⟨h1, t1, Y1⟩ : ∃ h', XT l 13 516 false 250 153 6051 0 [xf 13 104, xi n, xun, xun, xun] [] h 18 [xf 13 104, xi n, xun, xun, xun] [xf 13 104] h' ∧ Y0 h' a d c := by
    obtain ⟨-, u0, u1, u2⟩ := id Y
    refine ⟨_, XT_path (inl := [193]) (n' := 23) (sp := [18]) (o := [0, 0, 1]) rfl rfl ?_ rfl ⟨Nat.le_of_eq Y.1.2.2.1, Nat.le_of_eq Y.1.2.2.2⟩ ?_, ?_, ?_, ?_, ?_⟩
    · refine ⟨rfl, ?_, ?_⟩ <;> first | rfl | (dsimp only; simp [u0, u1, u2, q0, q1, q2, q3, q4, q5, hs0, hs1, yI_same, yI_ne, yI_c, yR_I, yI_row, yR_row, yI_R, yR_ne, yR_same, yI_L, yR_L, vp_in, z_32] <;> rfl)
    · first | trivial | (dsimp only; simp [u0, u1, u2, q0, q1, q2, q3, q4, q5, hs0, hs1, yI_same, yI_ne, yI_c, yR_I, yI_row, yR_row, yI_R, yR_ne, yR_same, yI_L, yR_L, vp_in, z_32]; done)
    · dsimp only
      (repeat (first | exact Y.1 | (refine FYL.setI ?_ rfl) | (refine FYL.setC ?_ rfl) | (refine FYL.row ?_ rfl) | (refine FYL.setR ?_ rfl) | (refine FYL.setRv ?_ (by first | assumption | (simp [yR_I, yR_row, yR_ne]; done)) rfl)))
    · first | exact u0 | (dsimp only; simp [u0, u1, u2, q0, q1, q2, q3, q4, q5, hs0, hs1, yI_same, yI_ne, yI_c, yR_I, yI_row, yR_row, yI_R, yR_ne, yR_same, yI_L, yR_L, vp_in, z_32]; done)
    · first | exact u1 | (dsimp only; simp [u0, u1, u2, q0, q1, q2, q3, q4, q5, hs0, hs1, yI_same, yI_ne, yI_c, yR_I, yI_row, yR_row, yI_R, yR_ne, yR_same, yI_L, yR_L, vp_in, z_32]; done)
    · first | exact u2 | (dsimp only; simp [u0, u1, u2, q0, q1, q2, q3, q4, q5, hs0, hs1, yI_same, yI_ne, yI_c, yR_I, yI_row, yR_row, yI_R, yR_ne, yR_same, yI_L, yR_L, vp_in, z_32]; done)
  obtain ⟨h2, c2, Y2⟩ := p1_lay l h1 a d c Y1
  have t2 : XT l 13 516 false 250 153 6051 18 [xf 13 104, xi n, xun, xun, xun] [xf 13 104] h1 21 [xf 13 104, xi n, xun, xun, xun] [] h2 := XT_call rfl rfl rfl (vs := [xf 13 104]) (rest := []) rfl rfl rfl c2 (by decide) (by decide) (by decide) ⟨Nat.le_of_eq Y2.1.2.2.1, Nat.le_of_eq Y2.1.2.2.2⟩
  obtain ⟨h3, t3, Y3⟩ : ∃ h', XT l 13 516 false 250 153 6051 21 [xf 13 104, xi n, xun, xun, xun] [] h2 33 [xf 13 104, xi n, xi 0, xi 1, xi 0] [] h' ∧ Y0 h' a d c := by
    obtain ⟨-, u0, u1, u2⟩ := id Y2
    refine ⟨_, XT_path (inl := []) (n' := 14) (sp := [33]) (o := [0]) rfl rfl ?_ rfl ⟨Nat.le_of_eq Y2.1.2.2.1, Nat.le_of_eq Y2.1.2.2.2⟩ ?_, ?_, ?_, ?_, ?_⟩
    · refine ⟨rfl, ?_, ?_⟩ <;> first | rfl | (dsimp only; simp [u0, u1, u2, q0, q1, q2, q3, q4, q5, hs0, hs1, yI_same, yI_ne, yI_c, yR_I, yI_row, yR_row, yI_R, yR_ne, yR_same, yI_L, yR_L, vp_in, z_32] <;> rfl)
    · first | trivial | (dsimp only; simp [u0, u1, u2, q0, q1, q2, q3, q4, q5, hs0, hs1, yI_same, yI_ne, yI_c, yR_I, yI_row, yR_row, yI_R, yR_ne, yR_same, yI_L, yR_L, vp_in, z_32]; done)
    · dsimp only
      (repeat (first | exact Y2.1 | (refine FYL.setI ?_ rfl) | (refine FYL.setC ?_ rfl) | (refine FYL.row ?_ rfl) | (refine FYL.setR ?_ rfl) | (refine FYL.setRv ?_ (by first | assumption | (simp [yR_I, yR_row, yR_ne]; done)) rfl)))
    · first | exact u0 | (dsimp only; simp [u0, u1, u2, q0, q1, q2, q3, q4, q5, hs0, hs1, yI_same, yI_ne, yI_c, yR_I, yI_row, yR_row, yI_R, yR_ne, yR_same, yI_L, yR_L, vp_in, z_32]; done)
    · first | exact u1 | (dsimp only; simp [u0, u1, u2, q0, q1, q2, q3, q4, q5, hs0, hs1, yI_same, yI_ne, yI_c, yR_I, yI_row, yR_row, yI_R, yR_ne, yR_same, yI_L, yR_L, vp_in, z_32]; done)
    · first | exact u2 | (dsimp only; simp [u0, u1, u2, q0, q1, q2, q3, q4, q5, hs0, hs1, yI_same, yI_ne, yI_c, yR_I, yI_row, yR_row, yI_R, yR_ne, yR_same, yI_L, yR_L, vp_in, z_32]; done)
  obtain ⟨h4, t4, Y4⟩ : ∃ h', XT l 13 516 false 250 153 6051 33 [xf 13 104, xi n, xi 0, xi 1, xi 0] [] h3 96 [xf 13 104, xi n, xi 0, xi 1, xi 0] [xi 0] h' ∧ Y0 h' a d c := by
    have i0 : xI h3 104 12 = 0 := Y3.1.2.1 (104, 12, 0) (by decide)
    obtain ⟨-, u0, u1, u2⟩ := id Y3
    refine ⟨_, XT_path (inl := []) (n' := 12) (sp := [96]) (o := [1, 0]) rfl rfl ?_ rfl ⟨Nat.le_of_eq Y3.1.2.2.1, Nat.le_of_eq Y3.1.2.2.2⟩ ?_, ?_, ?_, ?_, ?_⟩
    · refine ⟨rfl, ?_, ?_⟩ <;> first | rfl | (dsimp only; simp [i0, u0, u1, u2, q0, q1, q2, q3, q4, q5, hs0, hs1, yI_same, yI_ne, yI_c, yR_I, yI_row, yR_row, yI_R, yR_ne, yR_same, yI_L, yR_L, vp_in, z_32] <;> rfl)
    · first | trivial | (dsimp only; simp [i0, u0, u1, u2, q0, q1, q2, q3, q4, q5, hs0, hs1, yI_same, yI_ne, yI_c, yR_I, yI_row, yR_row, yI_R, yR_ne, yR_same, yI_L, yR_L, vp_in, z_32]; done)
    · dsimp only
      (repeat (first | exact Y3.1 | (refine FYL.setI ?_ rfl) | (refine FYL.setC ?_ rfl) | (refine FYL.row ?_ rfl) | (refine FYL.setR ?_ rfl) | (refine FYL.setRv ?_ (by first | assumption | (simp [i0, yR_I, yR_row, yR_ne]; done)) rfl)))
    · first | exact u0 | (dsimp only; simp [i0, u0, u1, u2, q0, q1, q2, q3, q4, q5, hs0, hs1, yI_same, yI_ne, yI_c, yR_I, yI_row, yR_row, yI_R, yR_ne, yR_same, yI_L, yR_L, vp_in, z_32]; done)
    · first | exact u1 | (dsimp only; simp [i0, u0, u1, u2, q0, q1, q2, q3, q4, q5, hs0, hs1, yI_same, yI_ne, yI_c, yR_I, yI_row, yR_row, yI_R, yR_ne, yR_same, yI_L, yR_L, vp_in, z_32]; done)
    · first | exact u2 | (dsimp only; simp [i0, u0, u1, u2, q0, q1, q2, q3, q4, q5, hs0, hs1, yI_same, yI_ne, yI_c, yR_I, yI_row, yR_row, yI_R, yR_ne, yR_same, yI_L, yR_L, vp_in, z_32]; done)
  exact ⟨h4, CX_ofT (by decide) rfl rfl trivial ⟨_, _, _, rfl, rfl, rfl⟩ rfl ⟨Nat.le_of_eq Y4.1.2.2.1.symm, Nat.le_of_eq Y4.1.2.2.2.symm⟩ (t1.tr (t2.tr (t3.tr t4))), Y4⟩
