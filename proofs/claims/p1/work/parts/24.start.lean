/-! p1: what the first objects hold, by one evaluation; the law's course from its entry. -/
noncomputable def FYLb (rR : List (Nat × Nat × Nat)) (rI : List (Nat × Nat × Int32)) (h : XH) : Bool := rR.all (fun e => Nat.beq (xR h e.1 e.2.1) e.2.2) && (rI.all (fun e => decide (xI h e.1 e.2.1 = e.2.2)) && (Nat.beq (xN h) 153 && Nat.beq (xU h) 6051))
theorem FYLb_ok {rR : List (Nat × Nat × Nat)} {rI : List (Nat × Nat × Int32)} {h : XH} (z : FYLb rR rI h = true) : FYL rR rI h := by
  unfold FYLb at z
  simp only [Bool.and_eq_true] at z
  obtain ⟨z1, z2, z3, z4⟩ := z
  exact ⟨fun e he => Nat.eq_of_beq_eq_true (List.all_eq_true.mp z1 e he), fun e he => of_decide_eq_true (List.all_eq_true.mp z2 e he), Nat.eq_of_beq_eq_true z3, Nat.eq_of_beq_eq_true z4⟩
noncomputable def xchkh (h : XH) : Bool := FYLb fxR fxI h && ((FYLb fyR fyI h && (decide (xI h 48 7 = 0) && (decide (xI h 138 0 = 0) && decide (xI h 59 10 = -1)))) && ((FYLb fzR fzI h && (decide (xI h 45 1 = 0) && decide (xI h 104 1 = 0))) && (xtwo1 h && (xtwo17 h && xtwo33 h))))
noncomputable def xfirst : Bool := match xpre with
  | some r => decide (r.1 = 23) && (decide (r.2.1 = xlh) && (decide (r.2.2.1 = []) && xchkh r.2.2.2))
  | none => false
set_option maxRecDepth 100000 in
theorem xfirst_ok : xfirst = true := by decide +kernel
theorem xchkh_ok {h : XH} (z : xchkh h = true) : PA h := by
  unfold xchkh at z
  simp only [Bool.and_eq_true] at z
  obtain ⟨a1, ⟨b1, b2, b3, b4⟩, ⟨c1, c2, c3⟩, d1, d2, d3⟩ := z
  exact ⟨FYLb_ok a1, ⟨FYLb_ok b1, of_decide_eq_true b2, of_decide_eq_true b3, of_decide_eq_true b4⟩, ⟨FYLb_ok c1, of_decide_eq_true c2, of_decide_eq_true c3⟩, d1, d2, d3⟩
/-- the course of the law's body, from its entry -/
theorem law_start (l : Launch) {L : Nat} {xs : Nat → Int32} (hL : L ≤ 6) : XB l L xs 14 540 false 289 157 6079 (fun rs _ => rs = [xi 1]) 0 [xf 50 1, xun, xun, xun, xun, xun, xun] [] xh0 := by
  have hc := xfirst_ok
  unfold xfirst at hc
  split at hc
  · rename_i r hr
    simp only [Bool.and_eq_true] at hc
    obtain ⟨e1, e2, e3, hc⟩ := hc
    have P := xchkh_ok hc
    refine XB_ev (r := r) hr rfl (by rw [P.1.2.2.1]; decide) (by rw [P.1.2.2.2]; decide) ?_
    rw [of_decide_eq_true e1, of_decide_eq_true e2, of_decide_eq_true e3]
    exact p1_any l hL _ P
  · cases hc
