/-! p1: a turn of the law out of the contracts of its two calls; the closed cases. -/
theorem z0 : Int32.toNatClampNeg 0 = 0 := rfl
theorem z1 : (0 + Int32.ofInt 1).toNatClampNeg = 1 := rfl
theorem z2 : (0 + Int32.ofInt 2).toNatClampNeg = 2 := rfl
theorem z3 : (0 + Int32.ofInt 3).toNatClampNeg = 3 := rfl
theorem z4 : (0 + Int32.ofInt 4).toNatClampNeg = 4 := rfl
theorem z5 : (0 + Int32.ofInt 5).toNatClampNeg = 5 := rfl
noncomputable def xtwo (h : XH) (n loA KA : Nat) (vA : List XV) (loB KB : Nat) (vB : List XV) (v : Int32) : Bool :=
  match xev false n 13 loA [] false KA 0 (xent (xmx KA) vA) [] h with
  | some r => decide (r.2.2.1 = [xi v]) && ((Nat.ble (xN r.2.2.2) 153 && Nat.ble (xU r.2.2.2) 6051) && (match xev false n 13 loB [] false KB 0 (xent (xmx KB) vB) [] r.2.2.2 with
    | some q => decide (q.2.2.1 = [xi v]) && (Nat.ble (xN q.2.2.2) 153 && Nat.ble (xU q.2.2.2) 6051)
    | none => false))
  | none => false
theorem xtwo_ok {l : Launch} {h : XH} {n loA KA loB KB : Nat} {vA vB : List XV} {v : Int32} (hA : xca.elem KA = true) (lA : xlen (xent (xmx KA) vA) (xmx KA) = true) (hB : xca.elem KB = true) (lB : xlen (xent (xmx KB) vB) (xmx KB) = true) (hz : xtwo h n loA KA vA loB KB vB v = true) :
    ∃ gA gB, CX l 13 loA false KA vA h [xi v] gA ∧ CX l 13 loB false KB vB gA [xi v] gB ∧ (xN gA ≤ 153 ∧ xU gA ≤ 6051) ∧ (xN gB ≤ 153 ∧ xU gB ≤ 6051) := by
  unfold xtwo at hz
  split at hz
  · rename_i r hr
    simp only [Bool.and_eq_true] at hz
    obtain ⟨e1, ⟨e2, e3⟩, hz⟩ := hz
    split at hz
    · rename_i q hq
      simp only [Bool.and_eq_true] at hz
      obtain ⟨f1, f2, f3⟩ := hz
      have a1 := CX_ev (l := l) hA lA hr
      have b1 := CX_ev (l := l) hB lB hq
      rw [of_decide_eq_true e1] at a1
      rw [of_decide_eq_true f1] at b1
      exact ⟨_, _, a1, b1, ⟨Nat.le_of_ble_eq_true e2, Nat.le_of_ble_eq_true e3⟩, ⟨Nat.le_of_ble_eq_true f2, Nat.le_of_ble_eq_true f3⟩⟩
    · cases hz
  · cases hz

set_option maxRecDepth 100000 in
set_option maxHeartbeats 1000000 in
theorem p1_two0 (l : Launch) (xs : Nat → Int32) (h hA hB : XH) (v : Int32) (h0 : (xs 0 &&& 63).toInt = 0) (cA : CX l 13 515 false 13 [xf 12 2, xi (xs 1), xi (xs 2), xi (xs 3), xi (xs 4), xi (xs 5)] h [xi v] hA) (cB : CX l 13 513 false 179 [xf 13 104, xi (xs 1), xi (xs 2), xi (xs 3), xi (xs 4), xi (xs 5)] hA [xi v] hB) (n0 : xN h ≤ 153 ∧ xU h ≤ 6051) (nA : xN hA ≤ 153 ∧ xU hA ≤ 6051) (nB : xN hB ≤ 153 ∧ xU hB ≤ 6051) : XB l 6 xs 14 540 false 289 157 6079 (fun rs _ => rs = [xi 1]) 23 [xf 50 1, xf 12 2, xf 13 104, xf 40001 152, xi 0, xun, xun] [] h := by
  refine XB_path (sc := some (6, xs)) (inl := []) (n := 60) (sp := [231]) (o := [0, 1]) (xin_ok rfl) (Or.inr rfl) rfl rfl (by exact Nat.le_trans n0.1 (by decide)) (by exact Nat.le_trans n0.2 (by decide)) ?_ ?_
  · dsimp only
    simp [z0, z1, z2, z3, z4, z5, h0, vp_in]
  show XB l 6 xs 14 540 false 289 157 6079 (fun rs _ => rs = [xi 1]) 231 [xf 50 1, xf 12 2, xf 13 104, xf 40001 152, xi 0, xun, xun] [xi (xs 5), xi (xs 4), xi (xs 3), xi (xs 2), xi (xs 1), xf 12 2] h
  refine XB_call rfl rfl rfl (vs := [xf 12 2, xi (xs 1), xi (xs 2), xi (xs 3), xi (xs 4), xi (xs 5)]) (rest := []) rfl rfl rfl cA (by decide) (by decide) (by decide) ⟨Nat.le_trans nA.1 (by decide), Nat.le_trans nA.2 (by decide)⟩ ?_
  refine XB_path (sc := some (6, xs)) (inl := []) (n := 60) (sp := [265]) (o := []) (xin_ok rfl) (Or.inr rfl) rfl rfl (by exact Nat.le_trans nA.1 (by decide)) (by exact Nat.le_trans nA.2 (by decide)) ?_ ?_
  · first | trivial | (dsimp only; simp [z0, z1, z2, z3, z4, z5, vp_in]; done)
  show XB l 6 xs 14 540 false 289 157 6079 (fun rs _ => rs = [xi 1]) 265 [xf 50 1, xf 12 2, xf 13 104, xf 40001 152, xi 0, xun, xun] ([xi (xs 5), xi (xs 4), xi (xs 3), xi (xs 2), xi (xs 1), xf 13 104] ++ [xi v]) hA
  refine XB_call rfl rfl rfl (vs := [xf 13 104, xi (xs 1), xi (xs 2), xi (xs 3), xi (xs 4), xi (xs 5)]) (rest := [xi v]) rfl rfl rfl cB (by decide) (by decide) (show 1 ≤ 8 by decide) ⟨Nat.le_trans nB.1 (by decide), Nat.le_trans nB.2 (by decide)⟩ ?_
  refine XB_path (sc := some (6, xs)) (inl := []) (n := 30) (sp := []) (o := [1, 1]) (xin_ok rfl) (Or.inr rfl) rfl rfl (by exact Nat.le_trans nB.1 (by decide)) (by exact Nat.le_trans nB.2 (by decide)) ?_ (XB_ret ⟨_, _, _, rfl, rfl, rfl⟩ rfl rfl)
  dsimp only
  simp
  try decide

set_option maxRecDepth 100000 in
set_option maxHeartbeats 1000000 in
theorem p1_two1 (l : Launch) (xs : Nat → Int32) (h hA hB : XH) (v : Int32) (h0 : (xs 0 &&& 63).toInt = 1) (cA : CX l 13 517 false 15 [xf 12 2, xi (xs 1)] h [xi v] hA) (cB : CX l 13 518 false 180 [xf 13 104, xi (xs 1)] hA [xi v] hB) (n0 : xN h ≤ 153 ∧ xU h ≤ 6051) (nA : xN hA ≤ 153 ∧ xU hA ≤ 6051) (nB : xN hB ≤ 153 ∧ xU hB ≤ 6051) : XB l 6 xs 14 540 false 289 157 6079 (fun rs _ => rs = [xi 1]) 23 [xf 50 1, xf 12 2, xf 13 104, xf 40001 152, xi 0, xun, xun] [] h := by
  refine XB_path (sc := some (6, xs)) (inl := []) (n := 60) (sp := [280]) (o := [0, 2]) (xin_ok rfl) (Or.inr rfl) rfl rfl (by exact Nat.le_trans n0.1 (by decide)) (by exact Nat.le_trans n0.2 (by decide)) ?_ ?_
  · dsimp only
    simp [z0, z1, z2, z3, z4, z5, h0, vp_in]
  show XB l 6 xs 14 540 false 289 157 6079 (fun rs _ => rs = [xi 1]) 280 [xf 50 1, xf 12 2, xf 13 104, xf 40001 152, xi 0, xun, xun] [xi (xs 1), xf 12 2] h
  refine XB_call rfl rfl rfl (vs := [xf 12 2, xi (xs 1)]) (rest := []) rfl rfl rfl cA (by decide) (by decide) (by decide) ⟨Nat.le_trans nA.1 (by decide), Nat.le_trans nA.2 (by decide)⟩ ?_
  refine XB_path (sc := some (6, xs)) (inl := []) (n := 60) (sp := [290]) (o := []) (xin_ok rfl) (Or.inr rfl) rfl rfl (by exact Nat.le_trans nA.1 (by decide)) (by exact Nat.le_trans nA.2 (by decide)) ?_ ?_
  · first | trivial | (dsimp only; simp [z0, z1, z2, z3, z4, z5, vp_in]; done)
  show XB l 6 xs 14 540 false 289 157 6079 (fun rs _ => rs = [xi 1]) 290 [xf 50 1, xf 12 2, xf 13 104, xf 40001 152, xi 0, xun, xun] ([xi (xs 1), xf 13 104] ++ [xi v]) hA
  refine XB_call rfl rfl rfl (vs := [xf 13 104, xi (xs 1)]) (rest := [xi v]) rfl rfl rfl cB (by decide) (by decide) (show 1 ≤ 8 by decide) ⟨Nat.le_trans nB.1 (by decide), Nat.le_trans nB.2 (by decide)⟩ ?_
  refine XB_path (sc := some (6, xs)) (inl := []) (n := 30) (sp := []) (o := [1, 1]) (xin_ok rfl) (Or.inr rfl) rfl rfl (by exact Nat.le_trans nB.1 (by decide)) (by exact Nat.le_trans nB.2 (by decide)) ?_ (XB_ret ⟨_, _, _, rfl, rfl, rfl⟩ rfl rfl)
  dsimp only
  simp
  try decide

set_option maxRecDepth 100000 in
set_option maxHeartbeats 1000000 in
theorem p1_two12 (l : Launch) (xs : Nat → Int32) (h hA hB : XH) (v : Int32) (h0 : (xs 0 &&& 63).toInt = 12) (cA : CX l 13 518 false 97 [xf 12 2, xi (xs 1)] h [xi v] hA) (cB : CX l 13 518 false 244 [xf 13 104, xi (xs 1)] hA [xi v] hB) (n0 : xN h ≤ 153 ∧ xU h ≤ 6051) (nA : xN hA ≤ 153 ∧ xU hA ≤ 6051) (nB : xN hB ≤ 153 ∧ xU hB ≤ 6051) : XB l 6 xs 14 540 false 289 157 6079 (fun rs _ => rs = [xi 1]) 23 [xf 50 1, xf 12 2, xf 13 104, xf 40001 152, xi 0, xun, xun] [] h := by
  refine XB_path (sc := some (6, xs)) (inl := []) (n := 60) (sp := [707]) (o := [0, 13]) (xin_ok rfl) (Or.inr rfl) rfl rfl (by exact Nat.le_trans n0.1 (by decide)) (by exact Nat.le_trans n0.2 (by decide)) ?_ ?_
  · dsimp only
    simp [z0, z1, z2, z3, z4, z5, h0, vp_in]
  show XB l 6 xs 14 540 false 289 157 6079 (fun rs _ => rs = [xi 1]) 707 [xf 50 1, xf 12 2, xf 13 104, xf 40001 152, xi 0, xun, xun] [xi (xs 1), xf 12 2] h
  refine XB_call rfl rfl rfl (vs := [xf 12 2, xi (xs 1)]) (rest := []) rfl rfl rfl cA (by decide) (by decide) (by decide) ⟨Nat.le_trans nA.1 (by decide), Nat.le_trans nA.2 (by decide)⟩ ?_
  refine XB_path (sc := some (6, xs)) (inl := []) (n := 60) (sp := [717]) (o := []) (xin_ok rfl) (Or.inr rfl) rfl rfl (by exact Nat.le_trans nA.1 (by decide)) (by exact Nat.le_trans nA.2 (by decide)) ?_ ?_
  · first | trivial | (dsimp only; simp [z0, z1, z2, z3, z4, z5, vp_in]; done)
  show XB l 6 xs 14 540 false 289 157 6079 (fun rs _ => rs = [xi 1]) 717 [xf 50 1, xf 12 2, xf 13 104, xf 40001 152, xi 0, xun, xun] ([xi (xs 1), xf 13 104] ++ [xi v]) hA
  refine XB_call rfl rfl rfl (vs := [xf 13 104, xi (xs 1)]) (rest := [xi v]) rfl rfl rfl cB (by decide) (by decide) (show 1 ≤ 8 by decide) ⟨Nat.le_trans nB.1 (by decide), Nat.le_trans nB.2 (by decide)⟩ ?_
  refine XB_path (sc := some (6, xs)) (inl := []) (n := 30) (sp := []) (o := [1, 1]) (xin_ok rfl) (Or.inr rfl) rfl rfl (by exact Nat.le_trans nB.1 (by decide)) (by exact Nat.le_trans nB.2 (by decide)) ?_ (XB_ret ⟨_, _, _, rfl, rfl, rfl⟩ rfl rfl)
  dsimp only
  simp
  try decide

set_option maxRecDepth 100000 in
set_option maxHeartbeats 1000000 in
theorem p1_two14 (l : Launch) (xs : Nat → Int32) (h hA hB : XH) (v : Int32) (h0 : (xs 0 &&& 63).toInt = 14) (cA : CX l 13 518 false 106 [xf 12 2, xi (xs 1)] h [xi v] hA) (cB : CX l 13 516 false 250 [xf 13 104, xi (xs 1)] hA [xi v] hB) (n0 : xN h ≤ 153 ∧ xU h ≤ 6051) (nA : xN hA ≤ 153 ∧ xU hA ≤ 6051) (nB : xN hB ≤ 153 ∧ xU hB ≤ 6051) : XB l 6 xs 14 540 false 289 157 6079 (fun rs _ => rs = [xi 1]) 23 [xf 50 1, xf 12 2, xf 13 104, xf 40001 152, xi 0, xun, xun] [] h := by
  refine XB_path (sc := some (6, xs)) (inl := []) (n := 60) (sp := [781]) (o := [0, 15]) (xin_ok rfl) (Or.inr rfl) rfl rfl (by exact Nat.le_trans n0.1 (by decide)) (by exact Nat.le_trans n0.2 (by decide)) ?_ ?_
  · dsimp only
    simp [z0, z1, z2, z3, z4, z5, h0, vp_in]
  show XB l 6 xs 14 540 false 289 157 6079 (fun rs _ => rs = [xi 1]) 781 [xf 50 1, xf 12 2, xf 13 104, xf 40001 152, xi 0, xun, xun] [xi (xs 1), xf 12 2] h
  refine XB_call rfl rfl rfl (vs := [xf 12 2, xi (xs 1)]) (rest := []) rfl rfl rfl cA (by decide) (by decide) (by decide) ⟨Nat.le_trans nA.1 (by decide), Nat.le_trans nA.2 (by decide)⟩ ?_
  refine XB_path (sc := some (6, xs)) (inl := []) (n := 60) (sp := [791]) (o := []) (xin_ok rfl) (Or.inr rfl) rfl rfl (by exact Nat.le_trans nA.1 (by decide)) (by exact Nat.le_trans nA.2 (by decide)) ?_ ?_
  · first | trivial | (dsimp only; simp [z0, z1, z2, z3, z4, z5, vp_in]; done)
  show XB l 6 xs 14 540 false 289 157 6079 (fun rs _ => rs = [xi 1]) 791 [xf 50 1, xf 12 2, xf 13 104, xf 40001 152, xi 0, xun, xun] ([xi (xs 1), xf 13 104] ++ [xi v]) hA
  refine XB_call rfl rfl rfl (vs := [xf 13 104, xi (xs 1)]) (rest := [xi v]) rfl rfl rfl cB (by decide) (by decide) (show 1 ≤ 8 by decide) ⟨Nat.le_trans nB.1 (by decide), Nat.le_trans nB.2 (by decide)⟩ ?_
  refine XB_path (sc := some (6, xs)) (inl := []) (n := 30) (sp := []) (o := [1, 1]) (xin_ok rfl) (Or.inr rfl) rfl rfl (by exact Nat.le_trans nB.1 (by decide)) (by exact Nat.le_trans nB.2 (by decide)) ?_ (XB_ret ⟨_, _, _, rfl, rfl, rfl⟩ rfl rfl)
  dsimp only
  simp
  try decide

set_option maxRecDepth 100000 in
set_option maxHeartbeats 1000000 in
theorem p1_two17 (l : Launch) (xs : Nat → Int32) (h hA hB : XH) (v : Int32) (h0 : (xs 0 &&& 63).toInt = 17) (cA : CX l 13 519 false 115 [xf 12 2, xi (xs 1)] h [xi v] hA) (cB : CX l 13 510 false 256 [xf 13 104, xi (xs 1)] hA [xi v] hB) (n0 : xN h ≤ 153 ∧ xU h ≤ 6051) (nA : xN hA ≤ 153 ∧ xU hA ≤ 6051) (nB : xN hB ≤ 153 ∧ xU hB ≤ 6051) : XB l 6 xs 14 540 false 289 157 6079 (fun rs _ => rs = [xi 1]) 23 [xf 50 1, xf 12 2, xf 13 104, xf 40001 152, xi 0, xun, xun] [] h := by
  refine XB_path (sc := some (6, xs)) (inl := []) (n := 60) (sp := [884]) (o := [0, 18]) (xin_ok rfl) (Or.inr rfl) rfl rfl (by exact Nat.le_trans n0.1 (by decide)) (by exact Nat.le_trans n0.2 (by decide)) ?_ ?_
  · dsimp only
    simp [z0, z1, z2, z3, z4, z5, h0, vp_in]
  show XB l 6 xs 14 540 false 289 157 6079 (fun rs _ => rs = [xi 1]) 884 [xf 50 1, xf 12 2, xf 13 104, xf 40001 152, xi 0, xun, xun] [xi (xs 1), xf 12 2] h
  refine XB_call rfl rfl rfl (vs := [xf 12 2, xi (xs 1)]) (rest := []) rfl rfl rfl cA (by decide) (by decide) (by decide) ⟨Nat.le_trans nA.1 (by decide), Nat.le_trans nA.2 (by decide)⟩ ?_
  refine XB_path (sc := some (6, xs)) (inl := []) (n := 60) (sp := [894]) (o := []) (xin_ok rfl) (Or.inr rfl) rfl rfl (by exact Nat.le_trans nA.1 (by decide)) (by exact Nat.le_trans nA.2 (by decide)) ?_ ?_
  · first | trivial | (dsimp only; simp [z0, z1, z2, z3, z4, z5, vp_in]; done)
  show XB l 6 xs 14 540 false 289 157 6079 (fun rs _ => rs = [xi 1]) 894 [xf 50 1, xf 12 2, xf 13 104, xf 40001 152, xi 0, xun, xun] ([xi (xs 1), xf 13 104] ++ [xi v]) hA
  refine XB_call rfl rfl rfl (vs := [xf 13 104, xi (xs 1)]) (rest := [xi v]) rfl rfl rfl cB (by decide) (by decide) (show 1 ≤ 8 by decide) ⟨Nat.le_trans nB.1 (by decide), Nat.le_trans nB.2 (by decide)⟩ ?_
  refine XB_path (sc := some (6, xs)) (inl := []) (n := 30) (sp := []) (o := [1, 1]) (xin_ok rfl) (Or.inr rfl) rfl rfl (by exact Nat.le_trans nB.1 (by decide)) (by exact Nat.le_trans nB.2 (by decide)) ?_ (XB_ret ⟨_, _, _, rfl, rfl, rfl⟩ rfl rfl)
  dsimp only
  simp
  try decide

set_option maxRecDepth 100000 in
set_option maxHeartbeats 1000000 in
theorem p1_two31 (l : Launch) (xs : Nat → Int32) (h hA hB : XH) (v : Int32) (h0 : (xs 0 &&& 63).toInt = 31) (cA : CX l 13 516 false 159 [xf 12 2, xi (xs 1), xi (xs 2), xi (xs 3)] h [xi v] hA) (cB : CX l 13 517 false 282 [xf 13 104, xi (xs 1), xi (xs 2), xi (xs 3)] hA [xi v] hB) (n0 : xN h ≤ 153 ∧ xU h ≤ 6051) (nA : xN hA ≤ 153 ∧ xU hA ≤ 6051) (nB : xN hB ≤ 153 ∧ xU hB ≤ 6051) : XB l 6 xs 14 540 false 289 157 6079 (fun rs _ => rs = [xi 1]) 23 [xf 50 1, xf 12 2, xf 13 104, xf 40001 152, xi 0, xun, xun] [] h := by
  refine XB_path (sc := some (6, xs)) (inl := []) (n := 60) (sp := [1406]) (o := [0, 32]) (xin_ok rfl) (Or.inr rfl) rfl rfl (by exact Nat.le_trans n0.1 (by decide)) (by exact Nat.le_trans n0.2 (by decide)) ?_ ?_
  · dsimp only
    simp [z0, z1, z2, z3, z4, z5, h0, vp_in]
  show XB l 6 xs 14 540 false 289 157 6079 (fun rs _ => rs = [xi 1]) 1406 [xf 50 1, xf 12 2, xf 13 104, xf 40001 152, xi 0, xun, xun] [xi (xs 3), xi (xs 2), xi (xs 1), xf 12 2] h
  refine XB_call rfl rfl rfl (vs := [xf 12 2, xi (xs 1), xi (xs 2), xi (xs 3)]) (rest := []) rfl rfl rfl cA (by decide) (by decide) (by decide) ⟨Nat.le_trans nA.1 (by decide), Nat.le_trans nA.2 (by decide)⟩ ?_
  refine XB_path (sc := some (6, xs)) (inl := []) (n := 60) (sp := [1428]) (o := []) (xin_ok rfl) (Or.inr rfl) rfl rfl (by exact Nat.le_trans nA.1 (by decide)) (by exact Nat.le_trans nA.2 (by decide)) ?_ ?_
  · first | trivial | (dsimp only; simp [z0, z1, z2, z3, z4, z5, vp_in]; done)
  show XB l 6 xs 14 540 false 289 157 6079 (fun rs _ => rs = [xi 1]) 1428 [xf 50 1, xf 12 2, xf 13 104, xf 40001 152, xi 0, xun, xun] ([xi (xs 3), xi (xs 2), xi (xs 1), xf 13 104] ++ [xi v]) hA
  refine XB_call rfl rfl rfl (vs := [xf 13 104, xi (xs 1), xi (xs 2), xi (xs 3)]) (rest := [xi v]) rfl rfl rfl cB (by decide) (by decide) (show 1 ≤ 8 by decide) ⟨Nat.le_trans nB.1 (by decide), Nat.le_trans nB.2 (by decide)⟩ ?_
  refine XB_path (sc := some (6, xs)) (inl := []) (n := 30) (sp := []) (o := [1, 1]) (xin_ok rfl) (Or.inr rfl) rfl rfl (by exact Nat.le_trans nB.1 (by decide)) (by exact Nat.le_trans nB.2 (by decide)) ?_ (XB_ret ⟨_, _, _, rfl, rfl, rfl⟩ rfl rfl)
  dsimp only
  simp
  try decide

set_option maxRecDepth 100000 in
set_option maxHeartbeats 1000000 in
theorem p1_two33 (l : Launch) (xs : Nat → Int32) (h hA hB : XH) (v : Int32) (h0 : (xs 0 &&& 63).toInt = 33) (cA : CX l 13 520 false 163 [xf 12 2] h [xi v] hA) (cB : CX l 13 519 false 286 [xf 13 104] hA [xi v] hB) (n0 : xN h ≤ 153 ∧ xU h ≤ 6051) (nA : xN hA ≤ 153 ∧ xU hA ≤ 6051) (nB : xN hB ≤ 153 ∧ xU hB ≤ 6051) : XB l 6 xs 14 540 false 289 157 6079 (fun rs _ => rs = [xi 1]) 23 [xf 50 1, xf 12 2, xf 13 104, xf 40001 152, xi 0, xun, xun] [] h := by
  refine XB_path (sc := some (6, xs)) (inl := []) (n := 60) (sp := [1450]) (o := [0, 34]) (xin_ok rfl) (Or.inr rfl) rfl rfl (by exact Nat.le_trans n0.1 (by decide)) (by exact Nat.le_trans n0.2 (by decide)) ?_ ?_
  · dsimp only
    simp [z0, z1, z2, z3, z4, z5, h0, vp_in]
  show XB l 6 xs 14 540 false 289 157 6079 (fun rs _ => rs = [xi 1]) 1450 [xf 50 1, xf 12 2, xf 13 104, xf 40001 152, xi 0, xun, xun] [xf 12 2] h
  refine XB_call rfl rfl rfl (vs := [xf 12 2]) (rest := []) rfl rfl rfl cA (by decide) (by decide) (by decide) ⟨Nat.le_trans nA.1 (by decide), Nat.le_trans nA.2 (by decide)⟩ ?_
  refine XB_path (sc := some (6, xs)) (inl := []) (n := 60) (sp := [1454]) (o := []) (xin_ok rfl) (Or.inr rfl) rfl rfl (by exact Nat.le_trans nA.1 (by decide)) (by exact Nat.le_trans nA.2 (by decide)) ?_ ?_
  · first | trivial | (dsimp only; simp [z0, z1, z2, z3, z4, z5, vp_in]; done)
  show XB l 6 xs 14 540 false 289 157 6079 (fun rs _ => rs = [xi 1]) 1454 [xf 50 1, xf 12 2, xf 13 104, xf 40001 152, xi 0, xun, xun] ([xf 13 104] ++ [xi v]) hA
  refine XB_call rfl rfl rfl (vs := [xf 13 104]) (rest := [xi v]) rfl rfl rfl cB (by decide) (by decide) (show 1 ≤ 8 by decide) ⟨Nat.le_trans nB.1 (by decide), Nat.le_trans nB.2 (by decide)⟩ ?_
  refine XB_path (sc := some (6, xs)) (inl := []) (n := 30) (sp := []) (o := [1, 1]) (xin_ok rfl) (Or.inr rfl) rfl rfl (by exact Nat.le_trans nB.1 (by decide)) (by exact Nat.le_trans nB.2 (by decide)) ?_ (XB_ret ⟨_, _, _, rfl, rfl, rfl⟩ rfl rfl)
  dsimp only
  simp
  try decide
