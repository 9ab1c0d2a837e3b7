/-! CONTRACTS BY HAND: a realm cleared; the scales tried. -/
theorem sframe_set {W : SW} {h : XH} {c k : Nat} {v : Int32} (hw : swin W.1 c k = true) : sframe W h (xsetI h c k v) :=
  ⟨fun c' k' hc => yI_ne (eq_false (fun z => by rw [z.1, z.2, hw] at hc; cases hc)), fun _ _ _ => rfl⟩
theorem sframe_row {W : SW} {h : XH} {c : Nat} {g : Nat → Int32} (hw : ∀ k, swin W.1 c k = true) : sframe W h (xrowI h c g) :=
  ⟨fun c' k' hc => yI_row (eq_false (fun z => by rw [z, hw k'] at hc; cases hc)), fun _ _ _ => rfl⟩
/-- a good heap, within what may be written -/
def vG (W : SW) (h h' : XH) : Prop := sgood vT vR vE 153 6051 h' ∧ sframe W h h'
theorem vG.rf {W : SW} {h : XH} (hg : sgood vT vR vE 153 6051 h) : vG W h h := ⟨hg, sframe.rf⟩
theorem vG.set {W : SW} {h h' : XH} (a : vG W h h') {c k : Nat} {v : Int32} (hv : (vI c k).1 ≤ v.toInt ∧ v.toInt ≤ (vI c k).2) (h1 : stou vRC (c, k, false) = false) (h2 : vEC.all (fun q => !Nat.beq q.1 c) = true) (hw : swin W.1 c k = true) : vG W h (xsetI h' c k v) := ⟨vset0 a.1 hv h1 h2, a.2.tr (sframe_set hw)⟩
theorem vsetJ {h : XH} (hg : sgood vT vR vE 153 6051 h) {c : Nat} (hc : c = 3 ∨ c = 24) : sgood vT vR vE 153 6051 (xsetI h c 5 (Int32.ofInt (0))) := by
  have n1 : ∀ c' k', ¬ c' = c → xI (xsetI h c 5 (Int32.ofInt (0))) c' k' = xI h c' k' := fun c' k' z => yI_c (eq_false z)
  have zz : ∀ k : Nat, (k : Int) < (Int32.ofInt (0)).toInt → False := fun k hk => by
    have : (Int32.ofInt (0)).toInt = 0 := rfl
    omega
  refine ⟨sinv_setI hg.1 ?_, srw_setI hg.2.1 ?_, ⟨vEp_of ?_ ?_ ?_ hg.2.2.1.1, vEu_of ?_ ?_ ?_ hg.2.2.1.2.1, vEk_of ?_ hg.2.2.1.2.2.1, ?_⟩, hg.2.2.2⟩
  · rcases hc with rfl | rfl <;> decide
  · rcases hc with rfl | rfl <;> exact stou_no (by decide +kernel)
  · exact fun k => n1 _ _ (by omega)
  · exact fun k => n1 _ _ (by omega)
  · exact fun k => n1 _ _ (by omega)
  · exact fun k _ => n1 _ _ (by omega)
  · exact fun k => n1 _ _ (by omega)
  · exact fun k => n1 _ _ (by omega)
  · exact fun c' _ _ k => n1 _ _ (by omega)
  · rcases hc with rfl | rfl
    · refine ⟨fun k hk => ?_, vjo_fr (n1 _ _ (by decide)) (fun k => n1 _ _ (by decide)) (fun k => n1 _ _ (by decide)) hg.2.2.1.2.2.2.2⟩
      rw [yI_same] at hk
      exact (zz k hk).elim
    · refine ⟨vjo_fr (n1 _ _ (by decide)) (fun k => n1 _ _ (by decide)) (fun k => n1 _ _ (by decide)) hg.2.2.1.2.2.2.1, fun k hk => ?_⟩
      rw [yI_same] at hk
      exact (zz k hk).elim
theorem vjok {h : XH} (hg : sgood vT vR vE 153 6051 h) : vjo h 3 8 9 ∧ vjo h 24 29 30 := hg.2.2.1.2.2.2
theorem vb_all {a : Int} {x : Int32} {b : Int} (h : a ≤ -2147483648 ∧ 2147483647 ≤ b) : a ≤ x.toInt ∧ x.toInt ≤ b := ⟨Int.le_trans h.1 (i32r_of x).1, Int.le_trans (i32r_of x).2 h.2⟩
theorem vset324 {W : SW} {h h' : XH} (a : vG W h h') {k : Nat} {v : Int32} (hv : (vI 24 k).1 ≤ v.toInt ∧ v.toInt ≤ (vI 24 k).2) (h1 : vRC.all (fun q => !Nat.beq q.1 24) = true) (hk : k ≠ 5) (hw : swin W.1 24 k = true) : vG W h (xsetI h' 24 k v) := by
  refine ⟨⟨sinv_setI a.1.1 hv, srw_setI a.1.2.1 (stou_no h1), vE_fr h' _ (fun c' k' hck => yI_ne (eq_false (fun z => ?_))) a.1.2.2.1, a.1.2.2.2⟩, a.2.tr (sframe_set hw)⟩
  rw [z.1, z.2] at hck
  have hc : vEC.all (fun q => !Nat.beq q.1 24 || (Nat.beq q.2.1 5 && !q.2.2)) = true := by decide +kernel
  unfold swin at hck
  obtain ⟨q, hq, hz⟩ := List.any_eq_true.mp hck
  have y := List.all_eq_true.mp hc q hq
  rw [Bool.and_eq_true, Bool.or_eq_true] at hz
  rw [hz.1] at y
  have y : (Nat.beq q.2.1 5 && !q.2.2) = true := y
  rw [Bool.and_eq_true] at y
  rcases hz.2 with s | s
  · rw [s] at y
    exact absurd y.2 (by decide)
  · exact hk ((Nat.eq_of_beq_eq_true s).symm.trans (Nat.eq_of_beq_eq_true y.1))
set_option maxRecDepth 100000 in
set_option maxHeartbeats 2000000 in
theorem vh_clear24 (l : Launch) : scm l vT vR vE 153 6051 (17, 2, 80, [.inr (.inr (8, 24))], [], [], [([], [], none, [], [], [])], ([(24, 0, false), (24, 5, false), (24, 9, false), (24, 14, false), (24, 18, false), (39, 5, false), (39, 6, false), (42, 0, true), (43, 0, true)], []), []) := by
  intro vs h ha hg hR hW hP
  match vs, ha with
  | [.inr w], ha =>
    obtain rfl : w = (8, 24) := ha.1
    have t1 : XT l 2 80 false 17 153 6051 0 [xf 8 24] [] h 32 [xf 8 24] [] (xsetI (xsetI (xsetI (xsetI (xsetI (xsetI (xsetI (xsetI (xsetI (xsetI (xsetI (xsetI (xsetI h 24 0 (Int32.ofInt (0))) 24 5 (Int32.ofInt (0))) 24 9 (Int32.ofInt (0))) 24 14 (Int32.ofInt (0))) 24 18 (Int32.ofInt (2))) (xR h 24 19) 5 (Int32.ofInt (0))) (xR h 24 19) 6 (Int32.ofInt (0))) (xR h (xR h 24 19) 2) ((Int32.ofInt (0))).toNatClampNeg (Int32.ofInt (0))) (xR h (xR h 24 19) 2) (((Int32.ofInt (0)) + Int32.ofInt (1))).toNatClampNeg (Int32.ofInt (0))) (xR h (xR h 24 19) 2) ((((Int32.ofInt (0)) + Int32.ofInt (1)) + Int32.ofInt (1))).toNatClampNeg (Int32.ofInt (0))) (xR h (xR h 24 19) 3) ((Int32.ofInt (0))).toNatClampNeg (Int32.ofInt (0))) (xR h (xR h 24 19) 3) (((Int32.ofInt (0)) + Int32.ofInt (1))).toNatClampNeg (Int32.ofInt (0))) (xR h (xR h 24 19) 3) ((((Int32.ofInt (0)) + Int32.ofInt (1)) + Int32.ofInt (1))).toNatClampNeg (Int32.ofInt (0))) := XT_path (l := l) (fr := 2) (lo := 80) (full := false) (M := 17) (n := 153) (u := 6051) (pc := 0) (L := [xf 8 24]) (st := []) (h := h) (inl := [18, 5]) (n' := 200) (sp := [32]) (o := [0, 0, 0, 1, 0, 0, 0, 1]) rfl rfl ⟨rfl, rfl, rfl⟩ rfl ⟨Nat.le_of_eq hg.2.2.2.1, Nat.le_of_eq hg.2.2.2.2⟩ ⟨⟨⟨⟨⟨⟨⟨⟨⟨⟨⟨⟨⟨⟨⟨⟨⟨trivial, (vnn hg.1 (rfl : vRf 24 19 = [39]) (by decide))⟩, (show ¬ xR h (xR h 24 19) 2 = 0 from by rw [vref hg.1 (rfl : vRf 24 19 = [39])]; exact vnn hg.1 (rfl : vRf 39 2 = [42]) (by decide))⟩, (by decide)⟩, (vp_of (n := 3) (by decide) (by decide))⟩, (by decide)⟩, (vp_of (n := 3) (by decide) (by decide))⟩, (by decide)⟩, (vp_of (n := 3) (by decide) (by decide))⟩, (by decide)⟩, (show ¬ xR h (xR h 24 19) 3 = 0 from by rw [vref hg.1 (rfl : vRf 24 19 = [39])]; exact vnn hg.1 (rfl : vRf 39 3 = [43]) (by decide))⟩, (by decide)⟩, (vp_of (n := 3) (by decide) (by decide))⟩, (by decide)⟩, (vp_of (n := 3) (by decide) (by decide))⟩, (by decide)⟩, (vp_of (n := 3) (by decide) (by decide))⟩, (by decide)⟩
    rw [vref hg.1 (rfl : vRf 24 19 = [39]), vref hg.1 (rfl : vRf 39 2 = [42]), vref hg.1 (rfl : vRf 39 3 = [43])] at t1
    have g0 : vG ([(24, 0, false), (24, 5, false), (24, 9, false), (24, 14, false), (24, 18, false), (39, 5, false), (39, 6, false), (42, 0, true), (43, 0, true)], []) h h := vG.rf hg
    have g1 : vG ([(24, 0, false), (24, 5, false), (24, 9, false), (24, 14, false), (24, 18, false), (39, 5, false), (39, 6, false), (42, 0, true), (43, 0, true)], []) h (xsetI h 24 0 (Int32.ofInt (0))) := vset324 g0 (by decide) (by decide +kernel) (by decide) rfl
    have g2 : vG ([(24, 0, false), (24, 5, false), (24, 9, false), (24, 14, false), (24, 18, false), (39, 5, false), (39, 6, false), (42, 0, true), (43, 0, true)], []) h (xsetI (xsetI h 24 0 (Int32.ofInt (0))) 24 5 (Int32.ofInt (0))) := ⟨vsetJ g1.1 (by decide), g1.2.tr (sframe_set rfl)⟩
    have g3 : vG ([(24, 0, false), (24, 5, false), (24, 9, false), (24, 14, false), (24, 18, false), (39, 5, false), (39, 6, false), (42, 0, true), (43, 0, true)], []) h (xsetI (xsetI (xsetI h 24 0 (Int32.ofInt (0))) 24 5 (Int32.ofInt (0))) 24 9 (Int32.ofInt (0))) := vset324 g2 (by decide) (by decide +kernel) (by decide) rfl
    have g4 : vG ([(24, 0, false), (24, 5, false), (24, 9, false), (24, 14, false), (24, 18, false), (39, 5, false), (39, 6, false), (42, 0, true), (43, 0, true)], []) h (xsetI (xsetI (xsetI (xsetI h 24 0 (Int32.ofInt (0))) 24 5 (Int32.ofInt (0))) 24 9 (Int32.ofInt (0))) 24 14 (Int32.ofInt (0))) := vset324 g3 (by decide) (by decide +kernel) (by decide) rfl
    have g5 : vG ([(24, 0, false), (24, 5, false), (24, 9, false), (24, 14, false), (24, 18, false), (39, 5, false), (39, 6, false), (42, 0, true), (43, 0, true)], []) h (xsetI (xsetI (xsetI (xsetI (xsetI h 24 0 (Int32.ofInt (0))) 24 5 (Int32.ofInt (0))) 24 9 (Int32.ofInt (0))) 24 14 (Int32.ofInt (0))) 24 18 (Int32.ofInt (2))) := vset324 g4 (by decide) (by decide +kernel) (by decide) rfl
    have g6 : vG ([(24, 0, false), (24, 5, false), (24, 9, false), (24, 14, false), (24, 18, false), (39, 5, false), (39, 6, false), (42, 0, true), (43, 0, true)], []) h (xsetI (xsetI (xsetI (xsetI (xsetI (xsetI h 24 0 (Int32.ofInt (0))) 24 5 (Int32.ofInt (0))) 24 9 (Int32.ofInt (0))) 24 14 (Int32.ofInt (0))) 24 18 (Int32.ofInt (2))) 39 5 (Int32.ofInt (0))) := g5.set (by decide) (stou_no (by decide +kernel)) (by decide +kernel) rfl
    have g7 : vG ([(24, 0, false), (24, 5, false), (24, 9, false), (24, 14, false), (24, 18, false), (39, 5, false), (39, 6, false), (42, 0, true), (43, 0, true)], []) h (xsetI (xsetI (xsetI (xsetI (xsetI (xsetI (xsetI h 24 0 (Int32.ofInt (0))) 24 5 (Int32.ofInt (0))) 24 9 (Int32.ofInt (0))) 24 14 (Int32.ofInt (0))) 24 18 (Int32.ofInt (2))) 39 5 (Int32.ofInt (0))) 39 6 (Int32.ofInt (0))) := g6.set (by decide) (stou_no (by decide +kernel)) (by decide +kernel) rfl
    have g8 : vG ([(24, 0, false), (24, 5, false), (24, 9, false), (24, 14, false), (24, 18, false), (39, 5, false), (39, 6, false), (42, 0, true), (43, 0, true)], []) h (xsetI (xsetI (xsetI (xsetI (xsetI (xsetI (xsetI (xsetI h 24 0 (Int32.ofInt (0))) 24 5 (Int32.ofInt (0))) 24 9 (Int32.ofInt (0))) 24 14 (Int32.ofInt (0))) 24 18 (Int32.ofInt (2))) 39 5 (Int32.ofInt (0))) 39 6 (Int32.ofInt (0))) 42 ((Int32.ofInt (0))).toNatClampNeg (Int32.ofInt (0))) := g7.set (by decide) (stou_no (by decide +kernel)) (by decide +kernel) rfl
    have g9 : vG ([(24, 0, false), (24, 5, false), (24, 9, false), (24, 14, false), (24, 18, false), (39, 5, false), (39, 6, false), (42, 0, true), (43, 0, true)], []) h (xsetI (xsetI (xsetI (xsetI (xsetI (xsetI (xsetI (xsetI (xsetI h 24 0 (Int32.ofInt (0))) 24 5 (Int32.ofInt (0))) 24 9 (Int32.ofInt (0))) 24 14 (Int32.ofInt (0))) 24 18 (Int32.ofInt (2))) 39 5 (Int32.ofInt (0))) 39 6 (Int32.ofInt (0))) 42 ((Int32.ofInt (0))).toNatClampNeg (Int32.ofInt (0))) 42 (((Int32.ofInt (0)) + Int32.ofInt (1))).toNatClampNeg (Int32.ofInt (0))) := g8.set (by decide) (stou_no (by decide +kernel)) (by decide +kernel) rfl
    have g10 : vG ([(24, 0, false), (24, 5, false), (24, 9, false), (24, 14, false), (24, 18, false), (39, 5, false), (39, 6, false), (42, 0, true), (43, 0, true)], []) h (xsetI (xsetI (xsetI (xsetI (xsetI (xsetI (xsetI (xsetI (xsetI (xsetI h 24 0 (Int32.ofInt (0))) 24 5 (Int32.ofInt (0))) 24 9 (Int32.ofInt (0))) 24 14 (Int32.ofInt (0))) 24 18 (Int32.ofInt (2))) 39 5 (Int32.ofInt (0))) 39 6 (Int32.ofInt (0))) 42 ((Int32.ofInt (0))).toNatClampNeg (Int32.ofInt (0))) 42 (((Int32.ofInt (0)) + Int32.ofInt (1))).toNatClampNeg (Int32.ofInt (0))) 42 ((((Int32.ofInt (0)) + Int32.ofInt (1)) + Int32.ofInt (1))).toNatClampNeg (Int32.ofInt (0))) := g9.set (by decide) (stou_no (by decide +kernel)) (by decide +kernel) rfl
    have g11 : vG ([(24, 0, false), (24, 5, false), (24, 9, false), (24, 14, false), (24, 18, false), (39, 5, false), (39, 6, false), (42, 0, true), (43, 0, true)], []) h (xsetI (xsetI (xsetI (xsetI (xsetI (xsetI (xsetI (xsetI (xsetI (xsetI (xsetI h 24 0 (Int32.ofInt (0))) 24 5 (Int32.ofInt (0))) 24 9 (Int32.ofInt (0))) 24 14 (Int32.ofInt (0))) 24 18 (Int32.ofInt (2))) 39 5 (Int32.ofInt (0))) 39 6 (Int32.ofInt (0))) 42 ((Int32.ofInt (0))).toNatClampNeg (Int32.ofInt (0))) 42 (((Int32.ofInt (0)) + Int32.ofInt (1))).toNatClampNeg (Int32.ofInt (0))) 42 ((((Int32.ofInt (0)) + Int32.ofInt (1)) + Int32.ofInt (1))).toNatClampNeg (Int32.ofInt (0))) 43 ((Int32.ofInt (0))).toNatClampNeg (Int32.ofInt (0))) := g10.set (by decide) (stou_no (by decide +kernel)) (by decide +kernel) rfl
    have g12 : vG ([(24, 0, false), (24, 5, false), (24, 9, false), (24, 14, false), (24, 18, false), (39, 5, false), (39, 6, false), (42, 0, true), (43, 0, true)], []) h (xsetI (xsetI (xsetI (xsetI (xsetI (xsetI (xsetI (xsetI (xsetI (xsetI (xsetI (xsetI h 24 0 (Int32.ofInt (0))) 24 5 (Int32.ofInt (0))) 24 9 (Int32.ofInt (0))) 24 14 (Int32.ofInt (0))) 24 18 (Int32.ofInt (2))) 39 5 (Int32.ofInt (0))) 39 6 (Int32.ofInt (0))) 42 ((Int32.ofInt (0))).toNatClampNeg (Int32.ofInt (0))) 42 (((Int32.ofInt (0)) + Int32.ofInt (1))).toNatClampNeg (Int32.ofInt (0))) 42 ((((Int32.ofInt (0)) + Int32.ofInt (1)) + Int32.ofInt (1))).toNatClampNeg (Int32.ofInt (0))) 43 ((Int32.ofInt (0))).toNatClampNeg (Int32.ofInt (0))) 43 (((Int32.ofInt (0)) + Int32.ofInt (1))).toNatClampNeg (Int32.ofInt (0))) := g11.set (by decide) (stou_no (by decide +kernel)) (by decide +kernel) rfl
    have g13 : vG ([(24, 0, false), (24, 5, false), (24, 9, false), (24, 14, false), (24, 18, false), (39, 5, false), (39, 6, false), (42, 0, true), (43, 0, true)], []) h (xsetI (xsetI (xsetI (xsetI (xsetI (xsetI (xsetI (xsetI (xsetI (xsetI (xsetI (xsetI (xsetI h 24 0 (Int32.ofInt (0))) 24 5 (Int32.ofInt (0))) 24 9 (Int32.ofInt (0))) 24 14 (Int32.ofInt (0))) 24 18 (Int32.ofInt (2))) 39 5 (Int32.ofInt (0))) 39 6 (Int32.ofInt (0))) 42 ((Int32.ofInt (0))).toNatClampNeg (Int32.ofInt (0))) 42 (((Int32.ofInt (0)) + Int32.ofInt (1))).toNatClampNeg (Int32.ofInt (0))) 42 ((((Int32.ofInt (0)) + Int32.ofInt (1)) + Int32.ofInt (1))).toNatClampNeg (Int32.ofInt (0))) 43 ((Int32.ofInt (0))).toNatClampNeg (Int32.ofInt (0))) 43 (((Int32.ofInt (0)) + Int32.ofInt (1))).toNatClampNeg (Int32.ofInt (0))) 43 ((((Int32.ofInt (0)) + Int32.ofInt (1)) + Int32.ofInt (1))).toNatClampNeg (Int32.ofInt (0))) := g12.set (by decide) (stou_no (by decide +kernel)) (by decide +kernel) rfl
    exact ⟨fun _ => 0, [], _, ⟨trivial, fun i q hq => by cases hq⟩, CX_ofT (h' := (xsetI (xsetI (xsetI (xsetI (xsetI (xsetI (xsetI (xsetI (xsetI (xsetI (xsetI (xsetI (xsetI h 24 0 (Int32.ofInt (0))) 24 5 (Int32.ofInt (0))) 24 9 (Int32.ofInt (0))) 24 14 (Int32.ofInt (0))) 24 18 (Int32.ofInt (2))) 39 5 (Int32.ofInt (0))) 39 6 (Int32.ofInt (0))) 42 ((Int32.ofInt (0))).toNatClampNeg (Int32.ofInt (0))) 42 (((Int32.ofInt (0)) + Int32.ofInt (1))).toNatClampNeg (Int32.ofInt (0))) 42 ((((Int32.ofInt (0)) + Int32.ofInt (1)) + Int32.ofInt (1))).toNatClampNeg (Int32.ofInt (0))) 43 ((Int32.ofInt (0))).toNatClampNeg (Int32.ofInt (0))) 43 (((Int32.ofInt (0)) + Int32.ofInt (1))).toNatClampNeg (Int32.ofInt (0))) 43 ((((Int32.ofInt (0)) + Int32.ofInt (1)) + Int32.ofInt (1))).toNatClampNeg (Int32.ofInt (0)))) (by decide) rfl rfl trivial ⟨_, _, _, rfl, rfl, rfl⟩ rfl ⟨Nat.le_of_eq g13.1.2.2.2.1.symm, Nat.le_of_eq g13.1.2.2.2.2.symm⟩ t1, g13.1, g13.2, _, List.mem_singleton.mpr rfl, scas_one (fun i q hq => by cases hq) (fun i q hq => by cases hq) trivial⟩
theorem vset33 {W : SW} {h h' : XH} (a : vG W h h') {k : Nat} {v : Int32} (hv : (vI 3 k).1 ≤ v.toInt ∧ v.toInt ≤ (vI 3 k).2) (h1 : vRC.all (fun q => !Nat.beq q.1 3) = true) (hk : k ≠ 5) (hw : swin W.1 3 k = true) : vG W h (xsetI h' 3 k v) := by
  refine ⟨⟨sinv_setI a.1.1 hv, srw_setI a.1.2.1 (stou_no h1), vE_fr h' _ (fun c' k' hck => yI_ne (eq_false (fun z => ?_))) a.1.2.2.1, a.1.2.2.2⟩, a.2.tr (sframe_set hw)⟩
  rw [z.1, z.2] at hck
  have hc : vEC.all (fun q => !Nat.beq q.1 3 || (Nat.beq q.2.1 5 && !q.2.2)) = true := by decide +kernel
  unfold swin at hck
  obtain ⟨q, hq, hz⟩ := List.any_eq_true.mp hck
  have y := List.all_eq_true.mp hc q hq
  rw [Bool.and_eq_true, Bool.or_eq_true] at hz
  rw [hz.1] at y
  have y : (Nat.beq q.2.1 5 && !q.2.2) = true := y
  rw [Bool.and_eq_true] at y
  rcases hz.2 with s | s
  · rw [s] at y
    exact absurd y.2 (by decide)
  · exact hk ((Nat.eq_of_beq_eq_true s).symm.trans (Nat.eq_of_beq_eq_true y.1))
set_option maxRecDepth 100000 in
set_option maxHeartbeats 2000000 in
theorem vh_clear3 (l : Launch) : scm l vT vR vE 153 6051 (17, 2, 80, [.inr (.inr (8, 3))], [], [], [([], [], none, [], [], [])], ([(3, 0, false), (3, 5, false), (3, 9, false), (3, 14, false), (3, 18, false), (18, 5, false), (18, 6, false), (21, 0, true), (22, 0, true)], []), []) := by
  intro vs h ha hg hR hW hP
  match vs, ha with
  | [.inr w], ha =>
    obtain rfl : w = (8, 3) := ha.1
    have t1 : XT l 2 80 false 17 153 6051 0 [xf 8 3] [] h 32 [xf 8 3] [] (xsetI (xsetI (xsetI (xsetI (xsetI (xsetI (xsetI (xsetI (xsetI (xsetI (xsetI (xsetI (xsetI h 3 0 (Int32.ofInt (0))) 3 5 (Int32.ofInt (0))) 3 9 (Int32.ofInt (0))) 3 14 (Int32.ofInt (0))) 3 18 (Int32.ofInt (2))) (xR h 3 19) 5 (Int32.ofInt (0))) (xR h 3 19) 6 (Int32.ofInt (0))) (xR h (xR h 3 19) 2) ((Int32.ofInt (0))).toNatClampNeg (Int32.ofInt (0))) (xR h (xR h 3 19) 2) (((Int32.ofInt (0)) + Int32.ofInt (1))).toNatClampNeg (Int32.ofInt (0))) (xR h (xR h 3 19) 2) ((((Int32.ofInt (0)) + Int32.ofInt (1)) + Int32.ofInt (1))).toNatClampNeg (Int32.ofInt (0))) (xR h (xR h 3 19) 3) ((Int32.ofInt (0))).toNatClampNeg (Int32.ofInt (0))) (xR h (xR h 3 19) 3) (((Int32.ofInt (0)) + Int32.ofInt (1))).toNatClampNeg (Int32.ofInt (0))) (xR h (xR h 3 19) 3) ((((Int32.ofInt (0)) + Int32.ofInt (1)) + Int32.ofInt (1))).toNatClampNeg (Int32.ofInt (0))) := XT_path (l := l) (fr := 2) (lo := 80) (full := false) (M := 17) (n := 153) (u := 6051) (pc := 0) (L := [xf 8 3]) (st := []) (h := h) (inl := [18, 5]) (n' := 200) (sp := [32]) (o := [0, 0, 0, 1, 0, 0, 0, 1]) rfl rfl ⟨rfl, rfl, rfl⟩ rfl ⟨Nat.le_of_eq hg.2.2.2.1, Nat.le_of_eq hg.2.2.2.2⟩ ⟨⟨⟨⟨⟨⟨⟨⟨⟨⟨⟨⟨⟨⟨⟨⟨⟨trivial, (vnn hg.1 (rfl : vRf 3 19 = [18]) (by decide))⟩, (show ¬ xR h (xR h 3 19) 2 = 0 from by rw [vref hg.1 (rfl : vRf 3 19 = [18])]; exact vnn hg.1 (rfl : vRf 18 2 = [21]) (by decide))⟩, (by decide)⟩, (vp_of (n := 3) (by decide) (by decide))⟩, (by decide)⟩, (vp_of (n := 3) (by decide) (by decide))⟩, (by decide)⟩, (vp_of (n := 3) (by decide) (by decide))⟩, (by decide)⟩, (show ¬ xR h (xR h 3 19) 3 = 0 from by rw [vref hg.1 (rfl : vRf 3 19 = [18])]; exact vnn hg.1 (rfl : vRf 18 3 = [22]) (by decide))⟩, (by decide)⟩, (vp_of (n := 3) (by decide) (by decide))⟩, (by decide)⟩, (vp_of (n := 3) (by decide) (by decide))⟩, (by decide)⟩, (vp_of (n := 3) (by decide) (by decide))⟩, (by decide)⟩
    rw [vref hg.1 (rfl : vRf 3 19 = [18]), vref hg.1 (rfl : vRf 18 2 = [21]), vref hg.1 (rfl : vRf 18 3 = [22])] at t1
    have g0 : vG ([(3, 0, false), (3, 5, false), (3, 9, false), (3, 14, false), (3, 18, false), (18, 5, false), (18, 6, false), (21, 0, true), (22, 0, true)], []) h h := vG.rf hg
    have g1 : vG ([(3, 0, false), (3, 5, false), (3, 9, false), (3, 14, false), (3, 18, false), (18, 5, false), (18, 6, false), (21, 0, true), (22, 0, true)], []) h (xsetI h 3 0 (Int32.ofInt (0))) := vset33 g0 (by decide) (by decide +kernel) (by decide) rfl
    have g2 : vG ([(3, 0, false), (3, 5, false), (3, 9, false), (3, 14, false), (3, 18, false), (18, 5, false), (18, 6, false), (21, 0, true), (22, 0, true)], []) h (xsetI (xsetI h 3 0 (Int32.ofInt (0))) 3 5 (Int32.ofInt (0))) := ⟨vsetJ g1.1 (by decide), g1.2.tr (sframe_set rfl)⟩
    have g3 : vG ([(3, 0, false), (3, 5, false), (3, 9, false), (3, 14, false), (3, 18, false), (18, 5, false), (18, 6, false), (21, 0, true), (22, 0, true)], []) h (xsetI (xsetI (xsetI h 3 0 (Int32.ofInt (0))) 3 5 (Int32.ofInt (0))) 3 9 (Int32.ofInt (0))) := vset33 g2 (by decide) (by decide +kernel) (by decide) rfl
    have g4 : vG ([(3, 0, false), (3, 5, false), (3, 9, false), (3, 14, false), (3, 18, false), (18, 5, false), (18, 6, false), (21, 0, true), (22, 0, true)], []) h (xsetI (xsetI (xsetI (xsetI h 3 0 (Int32.ofInt (0))) 3 5 (Int32.ofInt (0))) 3 9 (Int32.ofInt (0))) 3 14 (Int32.ofInt (0))) := vset33 g3 (by decide) (by decide +kernel) (by decide) rfl
    have g5 : vG ([(3, 0, false), (3, 5, false), (3, 9, false), (3, 14, false), (3, 18, false), (18, 5, false), (18, 6, false), (21, 0, true), (22, 0, true)], []) h (xsetI (xsetI (xsetI (xsetI (xsetI h 3 0 (Int32.ofInt (0))) 3 5 (Int32.ofInt (0))) 3 9 (Int32.ofInt (0))) 3 14 (Int32.ofInt (0))) 3 18 (Int32.ofInt (2))) := vset33 g4 (by decide) (by decide +kernel) (by decide) rfl
    have g6 : vG ([(3, 0, false), (3, 5, false), (3, 9, false), (3, 14, false), (3, 18, false), (18, 5, false), (18, 6, false), (21, 0, true), (22, 0, true)], []) h (xsetI (xsetI (xsetI (xsetI (xsetI (xsetI h 3 0 (Int32.ofInt (0))) 3 5 (Int32.ofInt (0))) 3 9 (Int32.ofInt (0))) 3 14 (Int32.ofInt (0))) 3 18 (Int32.ofInt (2))) 18 5 (Int32.ofInt (0))) := g5.set (by decide) (stou_no (by decide +kernel)) (by decide +kernel) rfl
    have g7 : vG ([(3, 0, false), (3, 5, false), (3, 9, false), (3, 14, false), (3, 18, false), (18, 5, false), (18, 6, false), (21, 0, true), (22, 0, true)], []) h (xsetI (xsetI (xsetI (xsetI (xsetI (xsetI (xsetI h 3 0 (Int32.ofInt (0))) 3 5 (Int32.ofInt (0))) 3 9 (Int32.ofInt (0))) 3 14 (Int32.ofInt (0))) 3 18 (Int32.ofInt (2))) 18 5 (Int32.ofInt (0))) 18 6 (Int32.ofInt (0))) := g6.set (by decide) (stou_no (by decide +kernel)) (by decide +kernel) rfl
    have g8 : vG ([(3, 0, false), (3, 5, false), (3, 9, false), (3, 14, false), (3, 18, false), (18, 5, false), (18, 6, false), (21, 0, true), (22, 0, true)], []) h (xsetI (xsetI (xsetI (xsetI (xsetI (xsetI (xsetI (xsetI h 3 0 (Int32.ofInt (0))) 3 5 (Int32.ofInt (0))) 3 9 (Int32.ofInt (0))) 3 14 (Int32.ofInt (0))) 3 18 (Int32.ofInt (2))) 18 5 (Int32.ofInt (0))) 18 6 (Int32.ofInt (0))) 21 ((Int32.ofInt (0))).toNatClampNeg (Int32.ofInt (0))) := g7.set (by decide) (stou_no (by decide +kernel)) (by decide +kernel) rfl
    have g9 : vG ([(3, 0, false), (3, 5, false), (3, 9, false), (3, 14, false), (3, 18, false), (18, 5, false), (18, 6, false), (21, 0, true), (22, 0, true)], []) h (xsetI (xsetI (xsetI (xsetI (xsetI (xsetI (xsetI (xsetI (xsetI h 3 0 (Int32.ofInt (0))) 3 5 (Int32.ofInt (0))) 3 9 (Int32.ofInt (0))) 3 14 (Int32.ofInt (0))) 3 18 (Int32.ofInt (2))) 18 5 (Int32.ofInt (0))) 18 6 (Int32.ofInt (0))) 21 ((Int32.ofInt (0))).toNatClampNeg (Int32.ofInt (0))) 21 (((Int32.ofInt (0)) + Int32.ofInt (1))).toNatClampNeg (Int32.ofInt (0))) := g8.set (by decide) (stou_no (by decide +kernel)) (by decide +kernel) rfl
    have g10 : vG ([(3, 0, false), (3, 5, false), (3, 9, false), (3, 14, false), (3, 18, false), (18, 5, false), (18, 6, false), (21, 0, true), (22, 0, true)], []) h (xsetI (xsetI (xsetI (xsetI (xsetI (xsetI (xsetI (xsetI (xsetI (xsetI h 3 0 (Int32.ofInt (0))) 3 5 (Int32.ofInt (0))) 3 9 (Int32.ofInt (0))) 3 14 (Int32.ofInt (0))) 3 18 (Int32.ofInt (2))) 18 5 (Int32.ofInt (0))) 18 6 (Int32.ofInt (0))) 21 ((Int32.ofInt (0))).toNatClampNeg (Int32.ofInt (0))) 21 (((Int32.ofInt (0)) + Int32.ofInt (1))).toNatClampNeg (Int32.ofInt (0))) 21 ((((Int32.ofInt (0)) + Int32.ofInt (1)) + Int32.ofInt (1))).toNatClampNeg (Int32.ofInt (0))) := g9.set (by decide) (stou_no (by decide +kernel)) (by decide +kernel) rfl
    have g11 : vG ([(3, 0, false), (3, 5, false), (3, 9, false), (3, 14, false), (3, 18, false), (18, 5, false), (18, 6, false), (21, 0, true), (22, 0, true)], []) h (xsetI (xsetI (xsetI (xsetI (xsetI (xsetI (xsetI (xsetI (xsetI (xsetI (xsetI h 3 0 (Int32.ofInt (0))) 3 5 (Int32.ofInt (0))) 3 9 (Int32.ofInt (0))) 3 14 (Int32.ofInt (0))) 3 18 (Int32.ofInt (2))) 18 5 (Int32.ofInt (0))) 18 6 (Int32.ofInt (0))) 21 ((Int32.ofInt (0))).toNatClampNeg (Int32.ofInt (0))) 21 (((Int32.ofInt (0)) + Int32.ofInt (1))).toNatClampNeg (Int32.ofInt (0))) 21 ((((Int32.ofInt (0)) + Int32.ofInt (1)) + Int32.ofInt (1))).toNatClampNeg (Int32.ofInt (0))) 22 ((Int32.ofInt (0))).toNatClampNeg (Int32.ofInt (0))) := g10.set (by decide) (stou_no (by decide +kernel)) (by decide +kernel) rfl
    have g12 : vG ([(3, 0, false), (3, 5, false), (3, 9, false), (3, 14, false), (3, 18, false), (18, 5, false), (18, 6, false), (21, 0, true), (22, 0, true)], []) h (xsetI (xsetI (xsetI (xsetI (xsetI (xsetI (xsetI (xsetI (xsetI (xsetI (xsetI (xsetI h 3 0 (Int32.ofInt (0))) 3 5 (Int32.ofInt (0))) 3 9 (Int32.ofInt (0))) 3 14 (Int32.ofInt (0))) 3 18 (Int32.ofInt (2))) 18 5 (Int32.ofInt (0))) 18 6 (Int32.ofInt (0))) 21 ((Int32.ofInt (0))).toNatClampNeg (Int32.ofInt (0))) 21 (((Int32.ofInt (0)) + Int32.ofInt (1))).toNatClampNeg (Int32.ofInt (0))) 21 ((((Int32.ofInt (0)) + Int32.ofInt (1)) + Int32.ofInt (1))).toNatClampNeg (Int32.ofInt (0))) 22 ((Int32.ofInt (0))).toNatClampNeg (Int32.ofInt (0))) 22 (((Int32.ofInt (0)) + Int32.ofInt (1))).toNatClampNeg (Int32.ofInt (0))) := g11.set (by decide) (stou_no (by decide +kernel)) (by decide +kernel) rfl
    have g13 : vG ([(3, 0, false), (3, 5, false), (3, 9, false), (3, 14, false), (3, 18, false), (18, 5, false), (18, 6, false), (21, 0, true), (22, 0, true)], []) h (xsetI (xsetI (xsetI (xsetI (xsetI (xsetI (xsetI (xsetI (xsetI (xsetI (xsetI (xsetI (xsetI h 3 0 (Int32.ofInt (0))) 3 5 (Int32.ofInt (0))) 3 9 (Int32.ofInt (0))) 3 14 (Int32.ofInt (0))) 3 18 (Int32.ofInt (2))) 18 5 (Int32.ofInt (0))) 18 6 (Int32.ofInt (0))) 21 ((Int32.ofInt (0))).toNatClampNeg (Int32.ofInt (0))) 21 (((Int32.ofInt (0)) + Int32.ofInt (1))).toNatClampNeg (Int32.ofInt (0))) 21 ((((Int32.ofInt (0)) + Int32.ofInt (1)) + Int32.ofInt (1))).toNatClampNeg (Int32.ofInt (0))) 22 ((Int32.ofInt (0))).toNatClampNeg (Int32.ofInt (0))) 22 (((Int32.ofInt (0)) + Int32.ofInt (1))).toNatClampNeg (Int32.ofInt (0))) 22 ((((Int32.ofInt (0)) + Int32.ofInt (1)) + Int32.ofInt (1))).toNatClampNeg (Int32.ofInt (0))) := g12.set (by decide) (stou_no (by decide +kernel)) (by decide +kernel) rfl
    exact ⟨fun _ => 0, [], _, ⟨trivial, fun i q hq => by cases hq⟩, CX_ofT (h' := (xsetI (xsetI (xsetI (xsetI (xsetI (xsetI (xsetI (xsetI (xsetI (xsetI (xsetI (xsetI (xsetI h 3 0 (Int32.ofInt (0))) 3 5 (Int32.ofInt (0))) 3 9 (Int32.ofInt (0))) 3 14 (Int32.ofInt (0))) 3 18 (Int32.ofInt (2))) 18 5 (Int32.ofInt (0))) 18 6 (Int32.ofInt (0))) 21 ((Int32.ofInt (0))).toNatClampNeg (Int32.ofInt (0))) 21 (((Int32.ofInt (0)) + Int32.ofInt (1))).toNatClampNeg (Int32.ofInt (0))) 21 ((((Int32.ofInt (0)) + Int32.ofInt (1)) + Int32.ofInt (1))).toNatClampNeg (Int32.ofInt (0))) 22 ((Int32.ofInt (0))).toNatClampNeg (Int32.ofInt (0))) 22 (((Int32.ofInt (0)) + Int32.ofInt (1))).toNatClampNeg (Int32.ofInt (0))) 22 ((((Int32.ofInt (0)) + Int32.ofInt (1)) + Int32.ofInt (1))).toNatClampNeg (Int32.ofInt (0)))) (by decide) rfl rfl trivial ⟨_, _, _, rfl, rfl, rfl⟩ rfl ⟨Nat.le_of_eq g13.1.2.2.2.1.symm, Nat.le_of_eq g13.1.2.2.2.2.symm⟩ t1, g13.1, g13.2, _, List.mem_singleton.mpr rfl, scas_one (fun i q hq => by cases hq) (fun i q hq => by cases hq) trivial⟩
def S6 (f : Nat → Nat) : Nat := f 0 + f 1 + f 2 + f 3 + f 4 + f 5
theorem S6_up {f g : Nat → Nat} {b : Nat} (hb : b < 6) (h0 : f b = 0) (h1 : g b = 1) (hn : ∀ s, s ≠ b → g s = f s) : S6 g = S6 f + 1 := by
  unfold S6
  match b, hb with
  | 0, _ => rw [hn 1 (by decide), hn 2 (by decide), hn 3 (by decide), hn 4 (by decide), hn 5 (by decide)]; omega
  | 1, _ => rw [hn 0 (by decide), hn 2 (by decide), hn 3 (by decide), hn 4 (by decide), hn 5 (by decide)]; omega
  | 2, _ => rw [hn 0 (by decide), hn 1 (by decide), hn 3 (by decide), hn 4 (by decide), hn 5 (by decide)]; omega
  | 3, _ => rw [hn 0 (by decide), hn 1 (by decide), hn 2 (by decide), hn 4 (by decide), hn 5 (by decide)]; omega
  | 4, _ => rw [hn 0 (by decide), hn 1 (by decide), hn 2 (by decide), hn 3 (by decide), hn 5 (by decide)]; omega
  | 5, _ => rw [hn 0 (by decide), hn 1 (by decide), hn 2 (by decide), hn 3 (by decide), hn 4 (by decide)]; omega
theorem S6_5 {f : Nat → Nat} {b : Nat} (hb : b < 6) (h0 : f b = 0) (h1 : ∀ s, f s ≤ 1) : S6 f ≤ 5 := by
  unfold S6
  have := h1 0; have := h1 1; have := h1 2; have := h1 3; have := h1 4; have := h1 5
  match b, hb with
  | 0, _ => omega
  | 1, _ => omega
  | 2, _ => omega
  | 3, _ => omega
  | 4, _ => omega
  | 5, _ => omega
/-- who is joined with whom by the first k joins; how many tears there may be -/
def vB (h : XH) (a b : Nat) (h' : XH) (k : Nat) (B : Nat → Nat → Nat) : Prop := (∀ r s, B r s ≤ 1) ∧ (∀ r, B r r = 0) ∧ (∀ r s, B r s = 1 → ∃ i, i < k ∧ ((xI h a i).toInt = r ∧ (xI h b i).toInt = s ∨ (xI h a i).toInt = s ∧ (xI h b i).toInt = r)) ∧ (∀ r, r < 6 → 0 ≤ (xI h' 96 r).toInt ∧ (xI h' 96 r).toInt ≤ S6 (B r))
theorem vB_next {h h' : XH} {a b k : Nat} {B : Nat → Nat → Nat} (H : vB h a b h' k B) : vB h a b h' (k + 1) B :=
  ⟨H.1, H.2.1, fun r s e => by
    obtain ⟨i, h1, h2⟩ := H.2.2.1 r s e
    exact ⟨i, by omega, h2⟩, H.2.2.2⟩
theorem vB_torn {h h' h2 : XH} {a b k u v : Nat} {B : Nat → Nat → Nat} (H : vB h a b h' k B) (eu : (xI h a k).toInt = u) (ev : (xI h b k).toInt = v) (hu : u < 6) (hv : v < 6) (hne : u ≠ v) (hn : ∀ i, i < k → ¬ ((xI h a i).toInt = u ∧ (xI h b i).toInt = v) ∧ ¬ ((xI h a i).toInt = v ∧ (xI h b i).toInt = u)) (t1 : (xI h2 96 u).toInt = (xI h' 96 u).toInt + 1) (t2 : (xI h2 96 v).toInt = (xI h' 96 v).toInt + 1) (t3 : ∀ r, r ≠ u → r ≠ v → xI h2 96 r = xI h' 96 r) : ∃ B', vB h a b h2 (k + 1) B' := by
  have z1 : B u v = 0 := by
    have := H.1 u v
    by_cases e : B u v = 1
    · obtain ⟨i, h1, h2⟩ := H.2.2.1 u v e
      rcases h2 with h2 | h2
      · exact absurd h2 (hn i h1).1
      · exact absurd h2 (hn i h1).2
    · omega
  have z2 : B v u = 0 := by
    have := H.1 v u
    by_cases e : B v u = 1
    · obtain ⟨i, h1, h2⟩ := H.2.2.1 v u e
      rcases h2 with h2 | h2
      · exact absurd h2 (hn i h1).2
      · exact absurd h2 (hn i h1).1
    · omega
  refine ⟨fun r s => if (r = u ∧ s = v) ∨ (r = v ∧ s = u) then 1 else B r s, fun r s => ?_, fun r => ?_, fun r s e => ?_, fun r hr => ?_⟩
  · show (if _ then _ else _) ≤ 1
    split
    · exact Nat.le_refl _
    · exact H.1 r s
  · show (if _ then _ else _) = 0
    split
    · rename_i z
      omega
    · exact H.2.1 r
  · have e : (if (r = u ∧ s = v) ∨ (r = v ∧ s = u) then 1 else B r s) = 1 := e
    split at e
    · rename_i z
      refine ⟨k, by omega, ?_⟩
      rcases z with ⟨rfl, rfl⟩ | ⟨rfl, rfl⟩
      · exact Or.inl ⟨eu, ev⟩
      · exact Or.inr ⟨eu, ev⟩
    · obtain ⟨i, h1, h2⟩ := H.2.2.1 r s e
      exact ⟨i, by omega, h2⟩
  · have hb := H.2.2.2 r hr
    by_cases r1 : r = u
    · subst r1
      have e : S6 (fun s => if (r = r ∧ s = v) ∨ (r = v ∧ s = r) then 1 else B r s) = S6 (B r) + 1 := S6_up hv z1 (if_pos (Or.inl ⟨rfl, rfl⟩)) (fun s hs => if_neg (by omega))
      have e' : S6 ((fun r' s => if (r' = r ∧ s = v) ∨ (r' = v ∧ s = r) then 1 else B r' s) r) = S6 (B r) + 1 := e
      rw [e', t1]
      omega
    · by_cases r2 : r = v
      · subst r2
        have e : S6 (fun s => if (r = u ∧ s = r) ∨ (r = r ∧ s = u) then 1 else B r s) = S6 (B r) + 1 := S6_up hu z2 (if_pos (Or.inr ⟨rfl, rfl⟩)) (fun s hs => if_neg (by omega))
        have e' : S6 ((fun r' s => if (r' = u ∧ s = r) ∨ (r' = r ∧ s = u) then 1 else B r' s) r) = S6 (B r) + 1 := e
        rw [e', t2]
        omega
      · have e : (fun s => if (r = u ∧ s = v) ∨ (r = v ∧ s = u) then 1 else B r s) = B r := funext fun s => if_neg (by omega)
        have e' : S6 ((fun r' s => if (r' = u ∧ s = v) ∨ (r' = v ∧ s = u) then 1 else B r' s) r) = S6 (B r) := congrArg S6 e
        rw [e', t3 r r1 r2]
        exact hb
theorem vcell {r s t : Int32} (h1 : 0 ≤ r.toInt ∧ r.toInt ≤ 5) (h2 : 0 ≤ s.toInt ∧ s.toInt ≤ 9) (h3 : 0 ≤ t.toInt ∧ t.toInt ≤ 5) : vp_in ((r * Int32.ofInt (10) + s) * Int32.ofInt (6) + t) 360 := by
  have e1 : (r * Int32.ofInt (10)).toInt = r.toInt * 10 := by
    rw [Int32.toInt_mul, show (Int32.ofInt (10)).toInt = 10 from rfl]
    exact Int.bmod_eq_of_le (by omega) (by omega)
  have e2 : (r * Int32.ofInt (10) + s).toInt = r.toInt * 10 + s.toInt := by
    rw [Int32.toInt_add, e1]
    exact Int.bmod_eq_of_le (by omega) (by omega)
  have e3 : ((r * Int32.ofInt (10) + s) * Int32.ofInt (6)).toInt = (r.toInt * 10 + s.toInt) * 6 := by
    rw [Int32.toInt_mul, e2, show (Int32.ofInt (6)).toInt = 6 from rfl]
    exact Int.bmod_eq_of_le (by omega) (by omega)
  have e4 : ((r * Int32.ofInt (10) + s) * Int32.ofInt (6) + t).toInt = (r.toInt * 10 + s.toInt) * 6 + t.toInt := by
    rw [Int32.toInt_add, e3]
    exact Int.bmod_eq_of_le (by omega) (by omega)
  exact vp_of (by omega) (by omega)
theorem vcn_of {x : Int32} {n : Nat} (h : x.toInt = n) : x.toNatClampNeg = n := by
  show x.toInt.toNat = n
  omega
set_option maxRecDepth 100000 in
set_option maxHeartbeats 2000000 in
theorem vh_fill96L (l : Launch) (h : XH) : ∀ (m : Nat) (k : Int32) (h' : XH), vG ([(93, 0, false), (93, 2, false), (94, 0, true), (96, 0, true)], []) h h' → 0 ≤ k.toInt → k.toInt + m = 6 → (∀ r : Nat, (r : Int) < k.toInt → xI h' 96 r = Int32.ofInt (0)) → ∃ k' h'', XT l 0 0 false 5 153 6051 5 [xf 10006 96, xi (Int32.ofInt (0)), xi k, xi (Int32.ofNat (10006 - 10000))] [] h' 20 [xf 10006 96, xi (Int32.ofInt (0)), xi k', xi (Int32.ofNat (10006 - 10000))] [] h'' ∧ vG ([(93, 0, false), (93, 2, false), (94, 0, true), (96, 0, true)], []) h h'' ∧ (∀ r : Nat, r < 6 → xI h'' 96 r = Int32.ofInt (0))
  | 0, k, h', G, a1, a2, hz => by
    have e6 : (Int32.ofNat (10006 - 10000)).toInt = 6 := by decide
    have t1 : XT l 0 0 false 5 153 6051 5 [xf 10006 96, xi (Int32.ofInt (0)), xi k, xi (Int32.ofNat (10006 - 10000))] [] h' 20 [xf 10006 96, xi (Int32.ofInt (0)), xi k, xi (Int32.ofNat (10006 - 10000))] [] h' := XT_path (l := l) (fr := 0) (lo := 0) (full := false) (M := 5) (n := 153) (u := 6051) (pc := 5) (L := [xf 10006 96, xi (Int32.ofInt (0)), xi k, xi (Int32.ofNat (10006 - 10000))]) (st := []) (h := h') (inl := []) (n' := 80) (sp := [20]) (o := [1]) rfl rfl ⟨rfl, rfl, rfl⟩ rfl ⟨Nat.le_of_eq G.1.2.2.2.1, Nat.le_of_eq G.1.2.2.2.2⟩ ⟨trivial, (Int32.le_iff_toInt_le.mpr (by omega))⟩
    exact ⟨k, h', t1, G, fun r hr => hz r (by omega)⟩
  | m + 1, k, h', G, a1, a2, hz => by
    have e6 : (Int32.ofNat (10006 - 10000)).toInt = 6 := by decide
    have t2 : XT l 0 0 false 5 153 6051 5 [xf 10006 96, xi (Int32.ofInt (0)), xi k, xi (Int32.ofNat (10006 - 10000))] [] h' 5 [xf 10006 96, xi (Int32.ofInt (0)), xi (k + Int32.ofInt (1)), xi (Int32.ofNat (10006 - 10000))] [] (xsetI h' 96 (k).toNatClampNeg (Int32.ofInt (0))) := XT_path (l := l) (fr := 0) (lo := 0) (full := false) (M := 5) (n := 153) (u := 6051) (pc := 5) (L := [xf 10006 96, xi (Int32.ofInt (0)), xi k, xi (Int32.ofNat (10006 - 10000))]) (st := []) (h := h') (inl := []) (n' := 80) (sp := [5]) (o := [0]) rfl rfl ⟨rfl, rfl, rfl⟩ rfl ⟨Nat.le_of_eq G.1.2.2.2.1, Nat.le_of_eq G.1.2.2.2.2⟩ ⟨⟨trivial, (fun z => absurd (Int32.le_iff_toInt_le.mp z) (by omega))⟩, (vp_of (n := 6) (by omega) (by omega))⟩
    have ek : (k + Int32.ofInt (1)).toInt = k.toInt + 1 := y_succ (by omega) (by omega)
    have nk : k.toNatClampNeg = k.toInt.toNat := rfl
    obtain ⟨k', h2, z1, z2, z3⟩ := vh_fill96L l h m (k + Int32.ofInt (1)) (xsetI h' 96 (k).toNatClampNeg (Int32.ofInt (0))) (G.set (by rw [vI_u rfl (rfl : vRow 96 = sfull)]; exact vb_all (by decide)) (stou_no (by decide +kernel)) (by decide +kernel) rfl) (by omega) (by omega) (fun r hr => by
      by_cases e : r = k.toNatClampNeg
      · rw [e]; exact yI_same
      · rw [yI_ne (eq_false (fun z => e z.2))]; exact hz r (by omega))
    exact ⟨k', h2, t2.tr z1, z2, z3⟩
set_option maxRecDepth 100000 in
set_option maxHeartbeats 2000000 in
theorem vh_fill96 (l : Launch) (h : XH) (hg : sgood vT vR vE 153 6051 h) : ∃ h', CX l 0 0 false 5 [xf 10006 96, xi (Int32.ofInt (0))] h [] h' ∧ vG ([(93, 0, false), (93, 2, false), (94, 0, true), (96, 0, true)], []) h h' ∧ (∀ r : Nat, r < 6 → xI h' 96 r = Int32.ofInt (0)) := by
  have t3 : XT l 0 0 false 5 153 6051 0 [xf 10006 96, xi (Int32.ofInt (0)), xun, xun] [] h 5 [xf 10006 96, xi (Int32.ofInt (0)), xi (Int32.ofInt (0)), xi (Int32.ofNat (10006 - 10000))] [] h := XT_path (l := l) (fr := 0) (lo := 0) (full := false) (M := 5) (n := 153) (u := 6051) (pc := 0) (L := [xf 10006 96, xi (Int32.ofInt (0)), xun, xun]) (st := []) (h := h) (inl := []) (n' := 80) (sp := [5]) (o := []) rfl rfl ⟨rfl, rfl, rfl⟩ rfl ⟨Nat.le_of_eq hg.2.2.2.1, Nat.le_of_eq hg.2.2.2.2⟩ trivial
  obtain ⟨k', h2, z1, z2, z3⟩ := vh_fill96L l h 6 (Int32.ofInt (0)) h (vG.rf hg) (by decide) (by decide) (fun r hr => absurd hr (by rw [show (Int32.ofInt (0)).toInt = 0 from rfl]; omega))
  exact ⟨h2, CX_ofT (h' := h2) (by decide) rfl rfl trivial ⟨_, _, _, rfl, rfl, rfl⟩ rfl ⟨Nat.le_of_eq z2.1.2.2.2.1.symm, Nat.le_of_eq z2.1.2.2.2.2.symm⟩ (t3.tr z1), z2, z3⟩
theorem vGrow94 {h h' : XH} {s d n : Nat} (a : vG ([(93, 0, false), (93, 2, false), (94, 0, true), (96, 0, true)], []) h h') : vG ([(93, 0, false), (93, 2, false), (94, 0, true), (96, 0, true)], []) h (xrowI h' 94 (va_cpy (xI h' 95) (xI h' 94) s d n)) := by
  refine ⟨⟨sinv_row a.1.1 (fun k => ?_), srw_row a.1.2.1 (stou_no (by decide +kernel)), vE_fr h' _ (fun c' k' hck => yI_row (eq_false (fun z => ?_))) a.1.2.2.1, a.1.2.2.2⟩, a.2.tr (sframe_row (fun _ => rfl))⟩
  · rw [vI_u rfl (rfl : vRow 94 = (0, 9))]
    rcases va_cpy_cases (f := xI h' 95) (g := xI h' 94) (s := s) (d := d) (k := n) (i := k) with ⟨j, z⟩ | z
    · rw [z]
      have := vbnd a.1.1 95 j
      rw [vI_u rfl (rfl : vRow 95 = (0, 9))] at this
      exact this
    · rw [z]
      have := vbnd a.1.1 94 k
      rw [vI_u rfl (rfl : vRow 94 = (0, 9))] at this
      exact this
  · rw [z, vEC_no (by decide +kernel)] at hck
    cases hck
set_option maxRecDepth 100000 in
set_option maxHeartbeats 2000000 in
theorem vh_try1_24 (l : Launch) (h : XH) (hg : sgood vT vR vE 153 6051 h) : ∀ (m : Nat) (k : Int32) (x3 x4 : XV) (h' : XH), vG ([(93, 0, false), (93, 2, false), (94, 0, true), (96, 0, true)], []) h h' → 0 ≤ k.toInt → k.toInt + m = (xI h 24 5).toInt → (∃ B, vB h 29 30 h' k.toNatClampNeg B) → ∃ k' x3' x4' h'', XT l 2 60 false 119 153 6051 10 [xf 2 93, xf 8 24, xi k, x3, x4] [] h' 84 [xf 2 93, xf 8 24, xi k', x3', x4'] [] h'' ∧ vG ([(93, 0, false), (93, 2, false), (94, 0, true), (96, 0, true)], []) h h'' ∧ (∀ r, r < 6 → 0 ≤ (xI h'' 96 r).toInt ∧ (xI h'' 96 r).toInt ≤ 5)
  | 0, k, x3, x4, h', G, a1, a2, hB => by
    have g' := G.1
    have e5 : xI h' 24 5 = xI h 24 5 := G.2.1 _ _ rfl
    have b5 := vbnd G.1.1 24 5
    have b5 : 0 ≤ (xI h' 24 5).toInt ∧ (xI h' 24 5).toInt ≤ 9 := b5
    rw [← e5] at a2
    have nk : k.toNatClampNeg = k.toInt.toNat := rfl
    have t1 : XT l 2 60 false 119 153 6051 10 [xf 2 93, xf 8 24, xi k, x3, x4] [] h' 84 [xf 2 93, xf 8 24, xi k, x3, x4] [] h' := XT_path (l := l) (fr := 2) (lo := 60) (full := false) (M := 119) (n := 153) (u := 6051) (pc := 10) (L := [xf 2 93, xf 8 24, xi k, x3, x4]) (st := []) (h := h') (inl := [118]) (n' := 120) (sp := [84]) (o := [1]) rfl rfl ⟨rfl, rfl, rfl⟩ rfl ⟨Nat.le_of_eq G.1.2.2.2.1, Nat.le_of_eq G.1.2.2.2.2⟩ ⟨trivial, (Int32.le_iff_toInt_le.mpr (by omega))⟩
    obtain ⟨B, H⟩ := hB
    refine ⟨k, x3, x4, h', t1, G, fun r hr => ?_⟩
    have y1 := H.2.2.2 r hr
    have y2 := S6_5 hr (H.2.1 r) (H.1 r)
    omega
  | m + 1, k, x3, x4, h', G, a1, a2, hB => by
    have g' := G.1
    have e5 : xI h' 24 5 = xI h 24 5 := G.2.1 _ _ rfl
    have b5 := vbnd G.1.1 24 5
    have b5 : 0 ≤ (xI h' 24 5).toInt ∧ (xI h' 24 5).toInt ≤ 9 := b5
    rw [← e5] at a2
    have nk : k.toNatClampNeg = k.toInt.toNat := rfl
    have t2 : XT l 2 60 false 119 153 6051 10 [xf 2 93, xf 8 24, xi k, x3, x4] [] h' 33 [xf 2 93, xf 8 24, xi k, xi (xI h' (xR h' 24 6) (k).toNatClampNeg), xi (xI h' (xR h' 24 7) (k).toNatClampNeg)] [] h' := XT_path (l := l) (fr := 2) (lo := 60) (full := false) (M := 119) (n := 153) (u := 6051) (pc := 10) (L := [xf 2 93, xf 8 24, xi k, x3, x4]) (st := []) (h := h') (inl := [118]) (n' := 120) (sp := [33]) (o := [0]) rfl rfl ⟨rfl, rfl, rfl⟩ rfl ⟨Nat.le_of_eq G.1.2.2.2.1, Nat.le_of_eq G.1.2.2.2.2⟩ ⟨⟨⟨⟨⟨trivial, (fun z => absurd (Int32.le_iff_toInt_le.mp z) (by omega))⟩, (vnn G.1.1 (rfl : vRf 24 6 = [29]) (by decide))⟩, (vp_of (n := 9) (by omega) (by omega))⟩, (vnn G.1.1 (rfl : vRf 24 7 = [30]) (by decide))⟩, (vp_of (n := 9) (by omega) (by omega))⟩
    rw [vref G.1.1 (rfl : vRf 24 6 = [29]), vref G.1.1 (rfl : vRf 24 7 = [30])] at t2
    have qa := vbnd G.1.1 29 k.toNatClampNeg
    rw [vI_u rfl (rfl : vRow 29 = (0, 5))] at qa
    have qa : 0 ≤ (xI h' 29 k.toNatClampNeg).toInt ∧ (xI h' 29 k.toNatClampNeg).toInt ≤ 5 := qa
    have fa : ∀ i, xI h' 29 i = xI h 29 i := fun i => G.2.1 _ _ rfl
    obtain ⟨a, ea⟩ : ∃ a, a = xI h' 29 k.toNatClampNeg := ⟨_, rfl⟩
    rw [← ea] at qa t2
    have qb := vbnd G.1.1 30 k.toNatClampNeg
    rw [vI_u rfl (rfl : vRow 30 = (0, 5))] at qb
    have qb : 0 ≤ (xI h' 30 k.toNatClampNeg).toInt ∧ (xI h' 30 k.toNatClampNeg).toInt ≤ 5 := qb
    have fb : ∀ i, xI h' 30 i = xI h 30 i := fun i => G.2.1 _ _ rfl
    obtain ⟨b, eb⟩ : ∃ b, b = xI h' 30 k.toNatClampNeg := ⟨_, rfl⟩
    rw [← eb] at qb t2
    have hj : vjo h 24 29 30 := (vjok hg).2
    obtain ⟨j1, j2⟩ := hj k.toNatClampNeg (by rw [← e5]; omega)
    rw [← fa, ← fb, ← ea, ← eb] at j1
    have ab : a.toInt ≠ b.toInt := fun z => j1 (Int32.toInt_inj.mp z)
    have na : a.toNatClampNeg = a.toInt.toNat := rfl
    have nb : b.toNatClampNeg = b.toInt.toNat := rfl
    by_cases c3 : (if (0 : Int32) ≤ ((xI h' (xR h' 93 3) (a).toNatClampNeg) - (xI h' (xR h' 93 3) (b).toNatClampNeg)) then ((xI h' (xR h' 93 3) (a).toNatClampNeg) - (xI h' (xR h' 93 3) (b).toNatClampNeg)) else (0 : Int32) - ((xI h' (xR h' 93 3) (a).toNatClampNeg) - (xI h' (xR h' 93 3) (b).toNatClampNeg))) ≤ (xI h' 24 18)
    · have t4 : XT l 2 60 false 119 153 6051 33 [xf 2 93, xf 8 24, xi k, xi a, xi b] [] h' 78 [xf 2 93, xf 8 24, xi k, xi a, xi b] [] h' := XT_path (l := l) (fr := 2) (lo := 60) (full := false) (M := 119) (n := 153) (u := 6051) (pc := 33) (L := [xf 2 93, xf 8 24, xi k, xi a, xi b]) (st := []) (h := h') (inl := [118]) (n' := 120) (sp := [78]) (o := [1]) rfl rfl ⟨rfl, rfl, rfl⟩ rfl ⟨Nat.le_of_eq G.1.2.2.2.1, Nat.le_of_eq G.1.2.2.2.2⟩ ⟨⟨⟨⟨⟨trivial, (vnn G.1.1 (rfl : vRf 93 3 = [95]) (by decide))⟩, (vp_of (n := 6) (by omega) (by omega))⟩, (vnn G.1.1 (rfl : vRf 93 3 = [95]) (by decide))⟩, (vp_of (n := 6) (by omega) (by omega))⟩, c3⟩
      have t5 := t2.tr t4
      have ek : (k + Int32.ofInt (1)).toInt = k.toInt + 1 := y_succ (by omega) (by omega)
      have nk2 : (k + Int32.ofInt (1)).toNatClampNeg = k.toNatClampNeg + 1 := by
        show (k + Int32.ofInt (1)).toInt.toNat = _
        omega
      obtain ⟨B, H⟩ := hB
      have G2 : vG ([(93, 0, false), (93, 2, false), (94, 0, true), (96, 0, true)], []) h h' := G
      have HB : ∃ B, vB h 29 30 h' (k + Int32.ofInt (1)).toNatClampNeg B := ⟨B, by rw [nk2]; exact vB_next H⟩
      have t6 : XT l 2 60 false 119 153 6051 78 [xf 2 93, xf 8 24, xi k, xi a, xi b] [] h' 10 [xf 2 93, xf 8 24, xi (k + Int32.ofInt (1)), xi a, xi b] [] h' := XT_path (l := l) (fr := 2) (lo := 60) (full := false) (M := 119) (n := 153) (u := 6051) (pc := 78) (L := [xf 2 93, xf 8 24, xi k, xi a, xi b]) (st := []) (h := h') (inl := [118]) (n' := 120) (sp := [10]) (o := []) rfl rfl ⟨rfl, rfl, rfl⟩ rfl ⟨Nat.le_of_eq G2.1.2.2.2.1, Nat.le_of_eq G2.1.2.2.2.2⟩ trivial
      have t7 := t5.tr t6
      obtain ⟨k', x3', x4', h3, z1, z2, z3⟩ := vh_try1_24 l h hg m (k + Int32.ofInt (1)) (xi a) (xi b) h' G2 (by omega) (by rw [← e5]; omega) HB
      exact ⟨k', x3', x4', h3, t7.tr z1, z2, z3⟩
    · have t8 : XT l 2 60 false 119 153 6051 33 [xf 2 93, xf 8 24, xi k, xi a, xi b] [] h' 78 [xf 2 93, xf 8 24, xi k, xi a, xi b] [] (xsetI (xsetI h' (xR h' 93 4) (a).toNatClampNeg ((xI h' (xR h' 93 4) (a).toNatClampNeg) + (Int32.ofInt (1)))) (xR h' 93 4) (b).toNatClampNeg ((xI (xsetI h' (xR h' 93 4) (a).toNatClampNeg ((xI h' (xR h' 93 4) (a).toNatClampNeg) + (Int32.ofInt (1)))) (xR h' 93 4) (b).toNatClampNeg) + (Int32.ofInt (1)))) := XT_path (l := l) (fr := 2) (lo := 60) (full := false) (M := 119) (n := 153) (u := 6051) (pc := 33) (L := [xf 2 93, xf 8 24, xi k, xi a, xi b]) (st := []) (h := h') (inl := [118]) (n' := 120) (sp := [78]) (o := [0]) rfl rfl ⟨rfl, rfl, rfl⟩ rfl ⟨Nat.le_of_eq G.1.2.2.2.1, Nat.le_of_eq G.1.2.2.2.2⟩ ⟨⟨⟨⟨⟨⟨⟨⟨⟨⟨⟨trivial, (vnn G.1.1 (rfl : vRf 93 3 = [95]) (by decide))⟩, (vp_of (n := 6) (by omega) (by omega))⟩, (vnn G.1.1 (rfl : vRf 93 3 = [95]) (by decide))⟩, (vp_of (n := 6) (by omega) (by omega))⟩, c3⟩, (vnn G.1.1 (rfl : vRf 93 4 = [96]) (by decide))⟩, (vp_of (n := 6) (by omega) (by omega))⟩, (vp_of (n := 6) (by omega) (by omega))⟩, (vnn G.1.1 (rfl : vRf 93 4 = [96]) (by decide))⟩, (vp_of (n := 6) (by omega) (by omega))⟩, (vp_of (n := 6) (by omega) (by omega))⟩
      rw [vref G.1.1 (rfl : vRf 93 4 = [96])] at t8
      have t9 := t2.tr t8
      have ek : (k + Int32.ofInt (1)).toInt = k.toInt + 1 := y_succ (by omega) (by omega)
      have nk2 : (k + Int32.ofInt (1)).toNatClampNeg = k.toNatClampNeg + 1 := by
        show (k + Int32.ofInt (1)).toInt.toNat = _
        omega
      obtain ⟨B, H⟩ := hB
      have ya := (H.2.2.2 a.toNatClampNeg (by omega)).1
      have yb := (H.2.2.2 b.toNatClampNeg (by omega)).1
      have ya2 := (H.2.2.2 a.toNatClampNeg (by omega)).2
      have yb2 := (H.2.2.2 b.toNatClampNeg (by omega)).2
      have za := S6_5 (b := a.toNatClampNeg) (by omega) (H.2.1 _) (H.1 a.toNatClampNeg)
      have zb := S6_5 (b := b.toNatClampNeg) (by omega) (H.2.1 _) (H.1 b.toNatClampNeg)
      obtain ⟨h2, e2⟩ : ∃ x, x = (xsetI (xsetI h' 96 (a).toNatClampNeg ((xI h' 96 (a).toNatClampNeg) + (Int32.ofInt (1)))) 96 (b).toNatClampNeg ((xI (xsetI h' 96 (a).toNatClampNeg ((xI h' 96 (a).toNatClampNeg) + (Int32.ofInt (1)))) 96 (b).toNatClampNeg) + (Int32.ofInt (1)))) := ⟨_, rfl⟩
      rw [← e2] at t9
      have G2 : vG ([(93, 0, false), (93, 2, false), (94, 0, true), (96, 0, true)], []) h h2 := by rw [e2]; exact (G.set (by rw [vI_u rfl (rfl : vRow 96 = sfull)]; exact vb_all (by decide)) (stou_no (by decide +kernel)) (by decide +kernel) rfl).set (by rw [vI_u rfl (rfl : vRow 96 = sfull)]; exact vb_all (by decide)) (stou_no (by decide +kernel)) (by decide +kernel) rfl
      have nab : ¬ (96 = 96 ∧ b.toNatClampNeg = a.toNatClampNeg) := fun z => by have := z.2; omega
      have nba : ¬ (96 = 96 ∧ a.toNatClampNeg = b.toNatClampNeg) := fun z => by have := z.2; omega
      have t1 : (xI h2 96 a.toNatClampNeg).toInt = (xI h' 96 a.toNatClampNeg).toInt + 1 := by
        rw [e2, yI_ne (eq_false nba), yI_same]
        exact y_succ ya (by omega)
      have t2 : (xI h2 96 b.toNatClampNeg).toInt = (xI h' 96 b.toNatClampNeg).toInt + 1 := by
        rw [e2, yI_same, yI_ne (eq_false nab)]
        exact y_succ yb (by omega)
      have t3 : ∀ r, r ≠ a.toNatClampNeg → r ≠ b.toNatClampNeg → xI h2 96 r = xI h' 96 r := fun r r1 r2 => by
        rw [e2, yI_ne (eq_false (fun z => r2 z.2)), yI_ne (eq_false (fun z => r1 z.2))]
      have HB : ∃ B, vB h 29 30 h2 (k + Int32.ofInt (1)).toNatClampNeg B := by
        rw [nk2]
        refine vB_torn H (u := a.toNatClampNeg) (v := b.toNatClampNeg) (by rw [← fa, ← ea]; omega) (by rw [← fb, ← eb]; omega) (by omega) (by omega) (by omega) (fun i hi => ?_) t1 t2 t3
        obtain ⟨j3, j4⟩ := j2 i hi
        rw [← fa k.toNatClampNeg, ← fb k.toNatClampNeg, ← ea, ← eb] at j3 j4
        exact ⟨fun z => j3 ⟨Int32.toInt_inj.mp (by omega), Int32.toInt_inj.mp (by omega)⟩, fun z => j4 ⟨Int32.toInt_inj.mp (by omega), Int32.toInt_inj.mp (by omega)⟩⟩
      have t10 : XT l 2 60 false 119 153 6051 78 [xf 2 93, xf 8 24, xi k, xi a, xi b] [] h2 10 [xf 2 93, xf 8 24, xi (k + Int32.ofInt (1)), xi a, xi b] [] h2 := XT_path (l := l) (fr := 2) (lo := 60) (full := false) (M := 119) (n := 153) (u := 6051) (pc := 78) (L := [xf 2 93, xf 8 24, xi k, xi a, xi b]) (st := []) (h := h2) (inl := [118]) (n' := 120) (sp := [10]) (o := []) rfl rfl ⟨rfl, rfl, rfl⟩ rfl ⟨Nat.le_of_eq G2.1.2.2.2.1, Nat.le_of_eq G2.1.2.2.2.2⟩ trivial
      have t11 := t9.tr t10
      obtain ⟨k', x3', x4', h3, z1, z2, z3⟩ := vh_try1_24 l h hg m (k + Int32.ofInt (1)) (xi a) (xi b) h2 G2 (by omega) (by rw [← e5]; omega) HB
      exact ⟨k', x3', x4', h3, t11.tr z1, z2, z3⟩
set_option maxRecDepth 100000 in
set_option maxHeartbeats 2000000 in
theorem vh_try2_24 (l : Launch) (h' : XH) (g' : sgood vT vR vE 153 6051 h') (ht : ∀ r, r < 6 → 0 ≤ (xI h' 96 r).toInt ∧ (xI h' 96 r).toInt ≤ 5) : ∀ (m : Nat) (a s k : Int32), 0 ≤ k.toInt → k.toInt + m = (xI h' 24 0).toInt → ∃ a' s' k', XT l 2 60 false 119 153 6051 91 [xf 2 93, xf 8 24, xi a, xi s, xi k] [] h' 143 [xf 2 93, xf 8 24, xi a', xi s', xi k'] [] h'
  | 0, a, s, k, a1, a2 => by
    have b5 : 0 ≤ (xI h' 24 0).toInt ∧ (xI h' 24 0).toInt ≤ 6 := vbnd g'.1 24 0
    have nk : k.toNatClampNeg = k.toInt.toNat := rfl
    have t12 : XT l 2 60 false 119 153 6051 91 [xf 2 93, xf 8 24, xi a, xi s, xi k] [] h' 143 [xf 2 93, xf 8 24, xi a, xi s, xi k] [] h' := XT_path (l := l) (fr := 2) (lo := 60) (full := false) (M := 119) (n := 153) (u := 6051) (pc := 91) (L := [xf 2 93, xf 8 24, xi a, xi s, xi k]) (st := []) (h := h') (inl := [118]) (n' := 120) (sp := [143]) (o := [1]) rfl rfl ⟨rfl, rfl, rfl⟩ rfl ⟨Nat.le_of_eq g'.2.2.2.1, Nat.le_of_eq g'.2.2.2.2⟩ ⟨trivial, (Int32.le_iff_toInt_le.mpr (by omega))⟩
    exact ⟨a, s, k, t12⟩
  | m + 1, a, s, k, a1, a2 => by
    have b5 : 0 ≤ (xI h' 24 0).toInt ∧ (xI h' 24 0).toInt ≤ 6 := vbnd g'.1 24 0
    have nk : k.toNatClampNeg = k.toInt.toNat := rfl
    have q1 := vbnd g'.1 95 k.toNatClampNeg
    rw [vI_u rfl (rfl : vRow 95 = (0, 9))] at q1
    have q1 : 0 ≤ (xI h' 95 k.toNatClampNeg).toInt ∧ (xI h' 95 k.toNatClampNeg).toInt ≤ 9 := q1
    have q2 := ht k.toNatClampNeg (by omega)
    rw [← vref g'.1 (rfl : vRf 93 3 = [95])] at q1
    rw [← vref g'.1 (rfl : vRf 93 4 = [96])] at q2
    have t13 : XT l 2 60 false 119 153 6051 91 [xf 2 93, xf 8 24, xi a, xi s, xi k] [] h' 91 [xf 2 93, xf 8 24, xi (a + (xI h' (xR h' 93 5) (((((k * (Int32.ofInt (10))) + (xI h' (xR h' 93 3) (k).toNatClampNeg)) * (Int32.ofInt (6))) + (xI h' (xR h' 93 4) (k).toNatClampNeg))).toNatClampNeg)), xi (s + (xI h' (xR h' 93 3) (k).toNatClampNeg)), xi (k + Int32.ofInt (1))] [] h' := XT_path (l := l) (fr := 2) (lo := 60) (full := false) (M := 119) (n := 153) (u := 6051) (pc := 91) (L := [xf 2 93, xf 8 24, xi a, xi s, xi k]) (st := []) (h := h') (inl := [118]) (n' := 120) (sp := [91]) (o := [0]) rfl rfl ⟨rfl, rfl, rfl⟩ rfl ⟨Nat.le_of_eq g'.2.2.2.1, Nat.le_of_eq g'.2.2.2.2⟩ ⟨⟨⟨⟨⟨⟨⟨⟨⟨trivial, (fun z => absurd (Int32.le_iff_toInt_le.mp z) (by omega))⟩, (vnn g'.1 (rfl : vRf 93 5 = [97]) (by decide))⟩, (vnn g'.1 (rfl : vRf 93 3 = [95]) (by decide))⟩, (vp_of (n := 6) (by omega) (by omega))⟩, (vnn g'.1 (rfl : vRf 93 4 = [96]) (by decide))⟩, (vp_of (n := 6) (by omega) (by omega))⟩, (vcell ⟨a1, by omega⟩ q1 q2)⟩, (vnn g'.1 (rfl : vRf 93 3 = [95]) (by decide))⟩, (vp_of (n := 6) (by omega) (by omega))⟩
    rw [vref g'.1 (rfl : vRf 93 5 = [97]), vref g'.1 (rfl : vRf 93 3 = [95]), vref g'.1 (rfl : vRf 93 4 = [96])] at t13
    have ek : (k + Int32.ofInt (1)).toInt = k.toInt + 1 := y_succ (by omega) (by omega)
    obtain ⟨a', s', k', z⟩ := vh_try2_24 l h' g' ht m _ _ (k + Int32.ofInt (1)) (by omega) (by omega)
    exact ⟨a', s', k', t13.tr z⟩
set_option maxRecDepth 100000 in
set_option maxHeartbeats 2000000 in
theorem vh_try_24 (l : Launch) : scm l vT vR vE 153 6051 (119, 2, 60, [.inr (.inr (2, 93)), .inr (.inr (8, 24))], [], [], [([], [], none, [], [], [])], ([(93, 0, false), (93, 2, false), (94, 0, true), (96, 0, true)], []), []) := by
  intro vs h ha hg hR hW hP
  match vs, ha with
  | [.inr w, .inr w2], ha =>
    obtain rfl : w = (2, 93) := ha.1
    obtain rfl : w2 = (8, 24) := ha.2.1
    have t14 : XT l 2 60 false 119 153 6051 0 [xf 2 93, xf 8 24, xun, xun, xun] [] h 5 [xf 2 93, xf 8 24, xun, xun, xun] [xi (Int32.ofInt (0)), xf 10006 (xR h 93 4)] h := XT_path (l := l) (fr := 2) (lo := 60) (full := false) (M := 119) (n := 153) (u := 6051) (pc := 0) (L := [xf 2 93, xf 8 24, xun, xun, xun]) (st := []) (h := h) (inl := [118]) (n' := 120) (sp := [5]) (o := []) rfl rfl ⟨rfl, rfl, rfl⟩ rfl ⟨Nat.le_of_eq hg.2.2.2.1, Nat.le_of_eq hg.2.2.2.2⟩ ⟨trivial, (vnn hg.1 (rfl : vRf 93 4 = [96]) (by decide))⟩
    rw [vref hg.1 (rfl : vRf 93 4 = [96])] at t14
    obtain ⟨h1, c1, G1, z1⟩ := vh_fill96 l h hg
    have t15 : XT l 2 60 false 119 153 6051 5 [xf 2 93, xf 8 24, xun, xun, xun] [xi (Int32.ofInt (0)), xf 10006 96] h 8 [xf 2 93, xf 8 24, xun, xun, xun] [] h1 := XT_call (l := l) (fr := 2) (lo := 60) (full := false) (M := 119) (n := 153) (u := 6051) (pc := 5) (L := [xf 2 93, xf 8 24, xun, xun, xun]) (st := [xi (Int32.ofInt (0)), xf 10006 96]) (h := h) (i := .invokestatic 5) (aux := 2) (nx := 8) (K := 5) (vs := [xf 10006 96, xi (Int32.ofInt (0))]) (rs := []) (rest := []) rfl rfl rfl rfl rfl rfl c1 (by decide) (by decide) (Nat.le_of_ble_eq_true rfl) ⟨Nat.le_of_eq G1.1.2.2.2.1, Nat.le_of_eq G1.1.2.2.2.2⟩
    have t16 := t14.tr t15
    have t17 : XT l 2 60 false 119 153 6051 8 [xf 2 93, xf 8 24, xun, xun, xun] [] h1 10 [xf 2 93, xf 8 24, xi (Int32.ofInt (0)), xun, xun] [] h1 := XT_path (l := l) (fr := 2) (lo := 60) (full := false) (M := 119) (n := 153) (u := 6051) (pc := 8) (L := [xf 2 93, xf 8 24, xun, xun, xun]) (st := []) (h := h1) (inl := [118]) (n' := 120) (sp := [10]) (o := []) rfl rfl ⟨rfl, rfl, rfl⟩ rfl ⟨Nat.le_of_eq G1.1.2.2.2.1, Nat.le_of_eq G1.1.2.2.2.2⟩ trivial
    have t18 := t16.tr t17
    have b5 : 0 ≤ (xI h 24 5).toInt ∧ (xI h 24 5).toInt ≤ 9 := vbnd hg.1 24 5
    obtain ⟨k', x3, x4, h2, t2, G2, ht⟩ := vh_try1_24 l h hg (xI h 24 5).toInt.toNat (Int32.ofInt (0)) xun xun h1 G1 (by decide) (by rw [show (Int32.ofInt (0)).toInt = 0 from rfl]; omega) ⟨fun _ _ => 0, fun _ _ => Nat.zero_le _, fun _ => rfl, fun r s e => absurd (show (0 : Nat) = 1 from e) (by decide), fun r hr => by rw [z1 r hr]; exact ⟨by decide, Int.natCast_nonneg _⟩⟩
    have T2 := t18.tr t2
    have t19 : XT l 2 60 false 119 153 6051 84 [xf 2 93, xf 8 24, xi k', x3, x4] [] h2 91 [xf 2 93, xf 8 24, xi (Int32.ofInt (0)), xi (Int32.ofInt (0)), xi (Int32.ofInt (0))] [] h2 := XT_path (l := l) (fr := 2) (lo := 60) (full := false) (M := 119) (n := 153) (u := 6051) (pc := 84) (L := [xf 2 93, xf 8 24, xi k', x3, x4]) (st := []) (h := h2) (inl := [118]) (n' := 120) (sp := [91]) (o := []) rfl rfl ⟨rfl, rfl, rfl⟩ rfl ⟨Nat.le_of_eq G2.1.2.2.2.1, Nat.le_of_eq G2.1.2.2.2.2⟩ trivial
    have t20 := T2.tr t19
    have b6 : 0 ≤ (xI h2 24 0).toInt ∧ (xI h2 24 0).toInt ≤ 6 := vbnd G2.1.1 24 0
    obtain ⟨a, s, k, t3⟩ := vh_try2_24 l h2 G2.1 ht (xI h2 24 0).toInt.toNat (Int32.ofInt (0)) (Int32.ofInt (0)) (Int32.ofInt (0)) (by decide) (by rw [show (Int32.ofInt (0)).toInt = 0 from rfl]; omega)
    have T3 := t20.tr t3
    by_cases c21 : (xI h2 93 0) < a
    · have t22 : XT l 2 60 false 119 153 6051 143 [xf 2 93, xf 8 24, xi a, xi s, xi k] [] h2 192 [xf 2 93, xf 8 24, xi a, xi s, xi k] [] (xrowI (xsetI (xsetI h2 93 0 a) 93 2 s) (xR h2 93 1) (va_cpy (xI (xsetI (xsetI h2 93 0 a) 93 2 s) (xR h2 93 3)) (xI (xsetI (xsetI h2 93 0 a) 93 2 s) (xR h2 93 1)) ((Int32.ofInt (0))).toNatClampNeg ((Int32.ofInt (0))).toNatClampNeg ((Int32.ofInt (6))).toNatClampNeg)) := XT_path (l := l) (fr := 2) (lo := 60) (full := false) (M := 119) (n := 153) (u := 6051) (pc := 143) (L := [xf 2 93, xf 8 24, xi a, xi s, xi k]) (st := []) (h := h2) (inl := [118]) (n' := 120) (sp := [192]) (o := [1]) rfl rfl ⟨rfl, rfl, rfl⟩ rfl ⟨Nat.le_of_eq G2.1.2.2.2.1, Nat.le_of_eq G2.1.2.2.2.2⟩ ⟨⟨⟨⟨trivial, c21⟩, (vnn G2.1.1 (rfl : vRf 93 3 = [95]) (by decide))⟩, (vnn G2.1.1 (rfl : vRf 93 1 = [94]) (by decide))⟩, ⟨⟨by decide, by decide, by decide⟩, by decide, by decide⟩⟩
      rw [vref G2.1.1 (rfl : vRf 93 1 = [94]), vref G2.1.1 (rfl : vRf 93 3 = [95])] at t22
      have t23 := T3.tr t22
      have G3 : vG ([(93, 0, false), (93, 2, false), (94, 0, true), (96, 0, true)], []) h (xsetI (xsetI h2 93 0 a) 93 2 s) := (G2.set (vb_all (by decide +kernel)) (stou_no (by decide +kernel)) (by decide +kernel) rfl).set (vb_all (by decide +kernel)) (stou_no (by decide +kernel)) (by decide +kernel) rfl
      have G4 : vG ([(93, 0, false), (93, 2, false), (94, 0, true), (96, 0, true)], []) h (xrowI (xsetI (xsetI h2 93 0 a) 93 2 s) 94 (va_cpy (xI (xsetI (xsetI h2 93 0 a) 93 2 s) 95) (xI (xsetI (xsetI h2 93 0 a) 93 2 s) 94) ((Int32.ofInt (0))).toNatClampNeg ((Int32.ofInt (0))).toNatClampNeg ((Int32.ofInt (6))).toNatClampNeg)) := vGrow94 G3
      exact ⟨fun _ => 0, [], _, ⟨trivial, fun i q hq => by cases hq⟩, CX_ofT (h' := (xrowI (xsetI (xsetI h2 93 0 a) 93 2 s) 94 (va_cpy (xI (xsetI (xsetI h2 93 0 a) 93 2 s) 95) (xI (xsetI (xsetI h2 93 0 a) 93 2 s) 94) ((Int32.ofInt (0))).toNatClampNeg ((Int32.ofInt (0))).toNatClampNeg ((Int32.ofInt (6))).toNatClampNeg))) (by decide) rfl rfl trivial ⟨_, _, _, rfl, rfl, rfl⟩ rfl ⟨Nat.le_of_eq G4.1.2.2.2.1.symm, Nat.le_of_eq G4.1.2.2.2.2.symm⟩ t23, G4.1, G4.2, _, List.mem_singleton.mpr rfl, scas_one (fun i q hq => by cases hq) (fun i q hq => by cases hq) trivial⟩
    · by_cases c24 : a = (xI h2 93 0)
      · by_cases c25 : (xI h2 93 2) ≤ s
        · have t26 : XT l 2 60 false 119 153 6051 143 [xf 2 93, xf 8 24, xi a, xi s, xi k] [] h2 192 [xf 2 93, xf 8 24, xi a, xi s, xi k] [] h2 := XT_path (l := l) (fr := 2) (lo := 60) (full := false) (M := 119) (n := 153) (u := 6051) (pc := 143) (L := [xf 2 93, xf 8 24, xi a, xi s, xi k]) (st := []) (h := h2) (inl := [118]) (n' := 120) (sp := [192]) (o := [0, 0, 1]) rfl rfl ⟨rfl, rfl, rfl⟩ rfl ⟨Nat.le_of_eq G2.1.2.2.2.1, Nat.le_of_eq G2.1.2.2.2.2⟩ ⟨⟨⟨trivial, c21⟩, c24⟩, c25⟩
          have t27 := T3.tr t26
          exact ⟨fun _ => 0, [], _, ⟨trivial, fun i q hq => by cases hq⟩, CX_ofT (h' := h2) (by decide) rfl rfl trivial ⟨_, _, _, rfl, rfl, rfl⟩ rfl ⟨Nat.le_of_eq G2.1.2.2.2.1.symm, Nat.le_of_eq G2.1.2.2.2.2.symm⟩ t27, G2.1, G2.2, _, List.mem_singleton.mpr rfl, scas_one (fun i q hq => by cases hq) (fun i q hq => by cases hq) trivial⟩
        · have t28 : XT l 2 60 false 119 153 6051 143 [xf 2 93, xf 8 24, xi a, xi s, xi k] [] h2 192 [xf 2 93, xf 8 24, xi a, xi s, xi k] [] (xrowI (xsetI (xsetI h2 93 0 a) 93 2 s) (xR h2 93 1) (va_cpy (xI (xsetI (xsetI h2 93 0 a) 93 2 s) (xR h2 93 3)) (xI (xsetI (xsetI h2 93 0 a) 93 2 s) (xR h2 93 1)) ((Int32.ofInt (0))).toNatClampNeg ((Int32.ofInt (0))).toNatClampNeg ((Int32.ofInt (6))).toNatClampNeg)) := XT_path (l := l) (fr := 2) (lo := 60) (full := false) (M := 119) (n := 153) (u := 6051) (pc := 143) (L := [xf 2 93, xf 8 24, xi a, xi s, xi k]) (st := []) (h := h2) (inl := [118]) (n' := 120) (sp := [192]) (o := [0, 0, 0]) rfl rfl ⟨rfl, rfl, rfl⟩ rfl ⟨Nat.le_of_eq G2.1.2.2.2.1, Nat.le_of_eq G2.1.2.2.2.2⟩ ⟨⟨⟨⟨⟨⟨trivial, c21⟩, c24⟩, c25⟩, (vnn G2.1.1 (rfl : vRf 93 3 = [95]) (by decide))⟩, (vnn G2.1.1 (rfl : vRf 93 1 = [94]) (by decide))⟩, ⟨⟨by decide, by decide, by decide⟩, by decide, by decide⟩⟩
          rw [vref G2.1.1 (rfl : vRf 93 1 = [94]), vref G2.1.1 (rfl : vRf 93 3 = [95])] at t28
          have t29 := T3.tr t28
          have G3 : vG ([(93, 0, false), (93, 2, false), (94, 0, true), (96, 0, true)], []) h (xsetI (xsetI h2 93 0 a) 93 2 s) := (G2.set (vb_all (by decide +kernel)) (stou_no (by decide +kernel)) (by decide +kernel) rfl).set (vb_all (by decide +kernel)) (stou_no (by decide +kernel)) (by decide +kernel) rfl
          have G4 : vG ([(93, 0, false), (93, 2, false), (94, 0, true), (96, 0, true)], []) h (xrowI (xsetI (xsetI h2 93 0 a) 93 2 s) 94 (va_cpy (xI (xsetI (xsetI h2 93 0 a) 93 2 s) 95) (xI (xsetI (xsetI h2 93 0 a) 93 2 s) 94) ((Int32.ofInt (0))).toNatClampNeg ((Int32.ofInt (0))).toNatClampNeg ((Int32.ofInt (6))).toNatClampNeg)) := vGrow94 G3
          exact ⟨fun _ => 0, [], _, ⟨trivial, fun i q hq => by cases hq⟩, CX_ofT (h' := (xrowI (xsetI (xsetI h2 93 0 a) 93 2 s) 94 (va_cpy (xI (xsetI (xsetI h2 93 0 a) 93 2 s) 95) (xI (xsetI (xsetI h2 93 0 a) 93 2 s) 94) ((Int32.ofInt (0))).toNatClampNeg ((Int32.ofInt (0))).toNatClampNeg ((Int32.ofInt (6))).toNatClampNeg))) (by decide) rfl rfl trivial ⟨_, _, _, rfl, rfl, rfl⟩ rfl ⟨Nat.le_of_eq G4.1.2.2.2.1.symm, Nat.le_of_eq G4.1.2.2.2.2.symm⟩ t29, G4.1, G4.2, _, List.mem_singleton.mpr rfl, scas_one (fun i q hq => by cases hq) (fun i q hq => by cases hq) trivial⟩
      · have t30 : XT l 2 60 false 119 153 6051 143 [xf 2 93, xf 8 24, xi a, xi s, xi k] [] h2 192 [xf 2 93, xf 8 24, xi a, xi s, xi k] [] h2 := XT_path (l := l) (fr := 2) (lo := 60) (full := false) (M := 119) (n := 153) (u := 6051) (pc := 143) (L := [xf 2 93, xf 8 24, xi a, xi s, xi k]) (st := []) (h := h2) (inl := [118]) (n' := 120) (sp := [192]) (o := [0, 1]) rfl rfl ⟨rfl, rfl, rfl⟩ rfl ⟨Nat.le_of_eq G2.1.2.2.2.1, Nat.le_of_eq G2.1.2.2.2.2⟩ ⟨⟨trivial, c21⟩, c24⟩
        have t31 := T3.tr t30
        exact ⟨fun _ => 0, [], _, ⟨trivial, fun i q hq => by cases hq⟩, CX_ofT (h' := h2) (by decide) rfl rfl trivial ⟨_, _, _, rfl, rfl, rfl⟩ rfl ⟨Nat.le_of_eq G2.1.2.2.2.1.symm, Nat.le_of_eq G2.1.2.2.2.2.symm⟩ t31, G2.1, G2.2, _, List.mem_singleton.mpr rfl, scas_one (fun i q hq => by cases hq) (fun i q hq => by cases hq) trivial⟩
set_option maxRecDepth 100000 in
set_option maxHeartbeats 2000000 in
theorem vh_try1_3 (l : Launch) (h : XH) (hg : sgood vT vR vE 153 6051 h) : ∀ (m : Nat) (k : Int32) (x3 x4 : XV) (h' : XH), vG ([(93, 0, false), (93, 2, false), (94, 0, true), (96, 0, true)], []) h h' → 0 ≤ k.toInt → k.toInt + m = (xI h 3 5).toInt → (∃ B, vB h 8 9 h' k.toNatClampNeg B) → ∃ k' x3' x4' h'', XT l 2 60 false 119 153 6051 10 [xf 2 93, xf 8 3, xi k, x3, x4] [] h' 84 [xf 2 93, xf 8 3, xi k', x3', x4'] [] h'' ∧ vG ([(93, 0, false), (93, 2, false), (94, 0, true), (96, 0, true)], []) h h'' ∧ (∀ r, r < 6 → 0 ≤ (xI h'' 96 r).toInt ∧ (xI h'' 96 r).toInt ≤ 5)
  | 0, k, x3, x4, h', G, a1, a2, hB => by
    have g' := G.1
    have e5 : xI h' 3 5 = xI h 3 5 := G.2.1 _ _ rfl
    have b5 := vbnd G.1.1 3 5
    have b5 : 0 ≤ (xI h' 3 5).toInt ∧ (xI h' 3 5).toInt ≤ 9 := b5
    rw [← e5] at a2
    have nk : k.toNatClampNeg = k.toInt.toNat := rfl
    have t1 : XT l 2 60 false 119 153 6051 10 [xf 2 93, xf 8 3, xi k, x3, x4] [] h' 84 [xf 2 93, xf 8 3, xi k, x3, x4] [] h' := XT_path (l := l) (fr := 2) (lo := 60) (full := false) (M := 119) (n := 153) (u := 6051) (pc := 10) (L := [xf 2 93, xf 8 3, xi k, x3, x4]) (st := []) (h := h') (inl := [118]) (n' := 120) (sp := [84]) (o := [1]) rfl rfl ⟨rfl, rfl, rfl⟩ rfl ⟨Nat.le_of_eq G.1.2.2.2.1, Nat.le_of_eq G.1.2.2.2.2⟩ ⟨trivial, (Int32.le_iff_toInt_le.mpr (by omega))⟩
    obtain ⟨B, H⟩ := hB
    refine ⟨k, x3, x4, h', t1, G, fun r hr => ?_⟩
    have y1 := H.2.2.2 r hr
    have y2 := S6_5 hr (H.2.1 r) (H.1 r)
    omega
  | m + 1, k, x3, x4, h', G, a1, a2, hB => by
    have g' := G.1
    have e5 : xI h' 3 5 = xI h 3 5 := G.2.1 _ _ rfl
    have b5 := vbnd G.1.1 3 5
    have b5 : 0 ≤ (xI h' 3 5).toInt ∧ (xI h' 3 5).toInt ≤ 9 := b5
    rw [← e5] at a2
    have nk : k.toNatClampNeg = k.toInt.toNat := rfl
    have t2 : XT l 2 60 false 119 153 6051 10 [xf 2 93, xf 8 3, xi k, x3, x4] [] h' 33 [xf 2 93, xf 8 3, xi k, xi (xI h' (xR h' 3 6) (k).toNatClampNeg), xi (xI h' (xR h' 3 7) (k).toNatClampNeg)] [] h' := XT_path (l := l) (fr := 2) (lo := 60) (full := false) (M := 119) (n := 153) (u := 6051) (pc := 10) (L := [xf 2 93, xf 8 3, xi k, x3, x4]) (st := []) (h := h') (inl := [118]) (n' := 120) (sp := [33]) (o := [0]) rfl rfl ⟨rfl, rfl, rfl⟩ rfl ⟨Nat.le_of_eq G.1.2.2.2.1, Nat.le_of_eq G.1.2.2.2.2⟩ ⟨⟨⟨⟨⟨trivial, (fun z => absurd (Int32.le_iff_toInt_le.mp z) (by omega))⟩, (vnn G.1.1 (rfl : vRf 3 6 = [8]) (by decide))⟩, (vp_of (n := 9) (by omega) (by omega))⟩, (vnn G.1.1 (rfl : vRf 3 7 = [9]) (by decide))⟩, (vp_of (n := 9) (by omega) (by omega))⟩
    rw [vref G.1.1 (rfl : vRf 3 6 = [8]), vref G.1.1 (rfl : vRf 3 7 = [9])] at t2
    have qa := vbnd G.1.1 8 k.toNatClampNeg
    rw [vI_u rfl (rfl : vRow 8 = (0, 5))] at qa
    have qa : 0 ≤ (xI h' 8 k.toNatClampNeg).toInt ∧ (xI h' 8 k.toNatClampNeg).toInt ≤ 5 := qa
    have fa : ∀ i, xI h' 8 i = xI h 8 i := fun i => G.2.1 _ _ rfl
    obtain ⟨a, ea⟩ : ∃ a, a = xI h' 8 k.toNatClampNeg := ⟨_, rfl⟩
    rw [← ea] at qa t2
    have qb := vbnd G.1.1 9 k.toNatClampNeg
    rw [vI_u rfl (rfl : vRow 9 = (0, 5))] at qb
    have qb : 0 ≤ (xI h' 9 k.toNatClampNeg).toInt ∧ (xI h' 9 k.toNatClampNeg).toInt ≤ 5 := qb
    have fb : ∀ i, xI h' 9 i = xI h 9 i := fun i => G.2.1 _ _ rfl
    obtain ⟨b, eb⟩ : ∃ b, b = xI h' 9 k.toNatClampNeg := ⟨_, rfl⟩
    rw [← eb] at qb t2
    have hj : vjo h 3 8 9 := (vjok hg).1
    obtain ⟨j1, j2⟩ := hj k.toNatClampNeg (by rw [← e5]; omega)
    rw [← fa, ← fb, ← ea, ← eb] at j1
    have ab : a.toInt ≠ b.toInt := fun z => j1 (Int32.toInt_inj.mp z)
    have na : a.toNatClampNeg = a.toInt.toNat := rfl
    have nb : b.toNatClampNeg = b.toInt.toNat := rfl
    by_cases c3 : (if (0 : Int32) ≤ ((xI h' (xR h' 93 3) (a).toNatClampNeg) - (xI h' (xR h' 93 3) (b).toNatClampNeg)) then ((xI h' (xR h' 93 3) (a).toNatClampNeg) - (xI h' (xR h' 93 3) (b).toNatClampNeg)) else (0 : Int32) - ((xI h' (xR h' 93 3) (a).toNatClampNeg) - (xI h' (xR h' 93 3) (b).toNatClampNeg))) ≤ (xI h' 3 18)
    · have t4 : XT l 2 60 false 119 153 6051 33 [xf 2 93, xf 8 3, xi k, xi a, xi b] [] h' 78 [xf 2 93, xf 8 3, xi k, xi a, xi b] [] h' := XT_path (l := l) (fr := 2) (lo := 60) (full := false) (M := 119) (n := 153) (u := 6051) (pc := 33) (L := [xf 2 93, xf 8 3, xi k, xi a, xi b]) (st := []) (h := h') (inl := [118]) (n' := 120) (sp := [78]) (o := [1]) rfl rfl ⟨rfl, rfl, rfl⟩ rfl ⟨Nat.le_of_eq G.1.2.2.2.1, Nat.le_of_eq G.1.2.2.2.2⟩ ⟨⟨⟨⟨⟨trivial, (vnn G.1.1 (rfl : vRf 93 3 = [95]) (by decide))⟩, (vp_of (n := 6) (by omega) (by omega))⟩, (vnn G.1.1 (rfl : vRf 93 3 = [95]) (by decide))⟩, (vp_of (n := 6) (by omega) (by omega))⟩, c3⟩
      have t5 := t2.tr t4
      have ek : (k + Int32.ofInt (1)).toInt = k.toInt + 1 := y_succ (by omega) (by omega)
      have nk2 : (k + Int32.ofInt (1)).toNatClampNeg = k.toNatClampNeg + 1 := by
        show (k + Int32.ofInt (1)).toInt.toNat = _
        omega
      obtain ⟨B, H⟩ := hB
      have G2 : vG ([(93, 0, false), (93, 2, false), (94, 0, true), (96, 0, true)], []) h h' := G
      have HB : ∃ B, vB h 8 9 h' (k + Int32.ofInt (1)).toNatClampNeg B := ⟨B, by rw [nk2]; exact vB_next H⟩
      have t6 : XT l 2 60 false 119 153 6051 78 [xf 2 93, xf 8 3, xi k, xi a, xi b] [] h' 10 [xf 2 93, xf 8 3, xi (k + Int32.ofInt (1)), xi a, xi b] [] h' := XT_path (l := l) (fr := 2) (lo := 60) (full := false) (M := 119) (n := 153) (u := 6051) (pc := 78) (L := [xf 2 93, xf 8 3, xi k, xi a, xi b]) (st := []) (h := h') (inl := [118]) (n' := 120) (sp := [10]) (o := []) rfl rfl ⟨rfl, rfl, rfl⟩ rfl ⟨Nat.le_of_eq G2.1.2.2.2.1, Nat.le_of_eq G2.1.2.2.2.2⟩ trivial
      have t7 := t5.tr t6
      obtain ⟨k', x3', x4', h3, z1, z2, z3⟩ := vh_try1_3 l h hg m (k + Int32.ofInt (1)) (xi a) (xi b) h' G2 (by omega) (by rw [← e5]; omega) HB
      exact ⟨k', x3', x4', h3, t7.tr z1, z2, z3⟩
    · have t8 : XT l 2 60 false 119 153 6051 33 [xf 2 93, xf 8 3, xi k, xi a, xi b] [] h' 78 [xf 2 93, xf 8 3, xi k, xi a, xi b] [] (xsetI (xsetI h' (xR h' 93 4) (a).toNatClampNeg ((xI h' (xR h' 93 4) (a).toNatClampNeg) + (Int32.ofInt (1)))) (xR h' 93 4) (b).toNatClampNeg ((xI (xsetI h' (xR h' 93 4) (a).toNatClampNeg ((xI h' (xR h' 93 4) (a).toNatClampNeg) + (Int32.ofInt (1)))) (xR h' 93 4) (b).toNatClampNeg) + (Int32.ofInt (1)))) := XT_path (l := l) (fr := 2) (lo := 60) (full := false) (M := 119) (n := 153) (u := 6051) (pc := 33) (L := [xf 2 93, xf 8 3, xi k, xi a, xi b]) (st := []) (h := h') (inl := [118]) (n' := 120) (sp := [78]) (o := [0]) rfl rfl ⟨rfl, rfl, rfl⟩ rfl ⟨Nat.le_of_eq G.1.2.2.2.1, Nat.le_of_eq G.1.2.2.2.2⟩ ⟨⟨⟨⟨⟨⟨⟨⟨⟨⟨⟨trivial, (vnn G.1.1 (rfl : vRf 93 3 = [95]) (by decide))⟩, (vp_of (n := 6) (by omega) (by omega))⟩, (vnn G.1.1 (rfl : vRf 93 3 = [95]) (by decide))⟩, (vp_of (n := 6) (by omega) (by omega))⟩, c3⟩, (vnn G.1.1 (rfl : vRf 93 4 = [96]) (by decide))⟩, (vp_of (n := 6) (by omega) (by omega))⟩, (vp_of (n := 6) (by omega) (by omega))⟩, (vnn G.1.1 (rfl : vRf 93 4 = [96]) (by decide))⟩, (vp_of (n := 6) (by omega) (by omega))⟩, (vp_of (n := 6) (by omega) (by omega))⟩
      rw [vref G.1.1 (rfl : vRf 93 4 = [96])] at t8
      have t9 := t2.tr t8
      have ek : (k + Int32.ofInt (1)).toInt = k.toInt + 1 := y_succ (by omega) (by omega)
      have nk2 : (k + Int32.ofInt (1)).toNatClampNeg = k.toNatClampNeg + 1 := by
        show (k + Int32.ofInt (1)).toInt.toNat = _
        omega
      obtain ⟨B, H⟩ := hB
      have ya := (H.2.2.2 a.toNatClampNeg (by omega)).1
      have yb := (H.2.2.2 b.toNatClampNeg (by omega)).1
      have ya2 := (H.2.2.2 a.toNatClampNeg (by omega)).2
      have yb2 := (H.2.2.2 b.toNatClampNeg (by omega)).2
      have za := S6_5 (b := a.toNatClampNeg) (by omega) (H.2.1 _) (H.1 a.toNatClampNeg)
      have zb := S6_5 (b := b.toNatClampNeg) (by omega) (H.2.1 _) (H.1 b.toNatClampNeg)
      obtain ⟨h2, e2⟩ : ∃ x, x = (xsetI (xsetI h' 96 (a).toNatClampNeg ((xI h' 96 (a).toNatClampNeg) + (Int32.ofInt (1)))) 96 (b).toNatClampNeg ((xI (xsetI h' 96 (a).toNatClampNeg ((xI h' 96 (a).toNatClampNeg) + (Int32.ofInt (1)))) 96 (b).toNatClampNeg) + (Int32.ofInt (1)))) := ⟨_, rfl⟩
      rw [← e2] at t9
      have G2 : vG ([(93, 0, false), (93, 2, false), (94, 0, true), (96, 0, true)], []) h h2 := by rw [e2]; exact (G.set (by rw [vI_u rfl (rfl : vRow 96 = sfull)]; exact vb_all (by decide)) (stou_no (by decide +kernel)) (by decide +kernel) rfl).set (by rw [vI_u rfl (rfl : vRow 96 = sfull)]; exact vb_all (by decide)) (stou_no (by decide +kernel)) (by decide +kernel) rfl
      have nab : ¬ (96 = 96 ∧ b.toNatClampNeg = a.toNatClampNeg) := fun z => by have := z.2; omega
      have nba : ¬ (96 = 96 ∧ a.toNatClampNeg = b.toNatClampNeg) := fun z => by have := z.2; omega
      have t1 : (xI h2 96 a.toNatClampNeg).toInt = (xI h' 96 a.toNatClampNeg).toInt + 1 := by
        rw [e2, yI_ne (eq_false nba), yI_same]
        exact y_succ ya (by omega)
      have t2 : (xI h2 96 b.toNatClampNeg).toInt = (xI h' 96 b.toNatClampNeg).toInt + 1 := by
        rw [e2, yI_same, yI_ne (eq_false nab)]
        exact y_succ yb (by omega)
      have t3 : ∀ r, r ≠ a.toNatClampNeg → r ≠ b.toNatClampNeg → xI h2 96 r = xI h' 96 r := fun r r1 r2 => by
        rw [e2, yI_ne (eq_false (fun z => r2 z.2)), yI_ne (eq_false (fun z => r1 z.2))]
      have HB : ∃ B, vB h 8 9 h2 (k + Int32.ofInt (1)).toNatClampNeg B := by
        rw [nk2]
        refine vB_torn H (u := a.toNatClampNeg) (v := b.toNatClampNeg) (by rw [← fa, ← ea]; omega) (by rw [← fb, ← eb]; omega) (by omega) (by omega) (by omega) (fun i hi => ?_) t1 t2 t3
        obtain ⟨j3, j4⟩ := j2 i hi
        rw [← fa k.toNatClampNeg, ← fb k.toNatClampNeg, ← ea, ← eb] at j3 j4
        exact ⟨fun z => j3 ⟨Int32.toInt_inj.mp (by omega), Int32.toInt_inj.mp (by omega)⟩, fun z => j4 ⟨Int32.toInt_inj.mp (by omega), Int32.toInt_inj.mp (by omega)⟩⟩
      have t10 : XT l 2 60 false 119 153 6051 78 [xf 2 93, xf 8 3, xi k, xi a, xi b] [] h2 10 [xf 2 93, xf 8 3, xi (k + Int32.ofInt (1)), xi a, xi b] [] h2 := XT_path (l := l) (fr := 2) (lo := 60) (full := false) (M := 119) (n := 153) (u := 6051) (pc := 78) (L := [xf 2 93, xf 8 3, xi k, xi a, xi b]) (st := []) (h := h2) (inl := [118]) (n' := 120) (sp := [10]) (o := []) rfl rfl ⟨rfl, rfl, rfl⟩ rfl ⟨Nat.le_of_eq G2.1.2.2.2.1, Nat.le_of_eq G2.1.2.2.2.2⟩ trivial
      have t11 := t9.tr t10
      obtain ⟨k', x3', x4', h3, z1, z2, z3⟩ := vh_try1_3 l h hg m (k + Int32.ofInt (1)) (xi a) (xi b) h2 G2 (by omega) (by rw [← e5]; omega) HB
      exact ⟨k', x3', x4', h3, t11.tr z1, z2, z3⟩
set_option maxRecDepth 100000 in
set_option maxHeartbeats 2000000 in
theorem vh_try2_3 (l : Launch) (h' : XH) (g' : sgood vT vR vE 153 6051 h') (ht : ∀ r, r < 6 → 0 ≤ (xI h' 96 r).toInt ∧ (xI h' 96 r).toInt ≤ 5) : ∀ (m : Nat) (a s k : Int32), 0 ≤ k.toInt → k.toInt + m = (xI h' 3 0).toInt → ∃ a' s' k', XT l 2 60 false 119 153 6051 91 [xf 2 93, xf 8 3, xi a, xi s, xi k] [] h' 143 [xf 2 93, xf 8 3, xi a', xi s', xi k'] [] h'
  | 0, a, s, k, a1, a2 => by
    have b5 : 0 ≤ (xI h' 3 0).toInt ∧ (xI h' 3 0).toInt ≤ 6 := vbnd g'.1 3 0
    have nk : k.toNatClampNeg = k.toInt.toNat := rfl
    have t12 : XT l 2 60 false 119 153 6051 91 [xf 2 93, xf 8 3, xi a, xi s, xi k] [] h' 143 [xf 2 93, xf 8 3, xi a, xi s, xi k] [] h' := XT_path (l := l) (fr := 2) (lo := 60) (full := false) (M := 119) (n := 153) (u := 6051) (pc := 91) (L := [xf 2 93, xf 8 3, xi a, xi s, xi k]) (st := []) (h := h') (inl := [118]) (n' := 120) (sp := [143]) (o := [1]) rfl rfl ⟨rfl, rfl, rfl⟩ rfl ⟨Nat.le_of_eq g'.2.2.2.1, Nat.le_of_eq g'.2.2.2.2⟩ ⟨trivial, (Int32.le_iff_toInt_le.mpr (by omega))⟩
    exact ⟨a, s, k, t12⟩
  | m + 1, a, s, k, a1, a2 => by
    have b5 : 0 ≤ (xI h' 3 0).toInt ∧ (xI h' 3 0).toInt ≤ 6 := vbnd g'.1 3 0
    have nk : k.toNatClampNeg = k.toInt.toNat := rfl
    have q1 := vbnd g'.1 95 k.toNatClampNeg
    rw [vI_u rfl (rfl : vRow 95 = (0, 9))] at q1
    have q1 : 0 ≤ (xI h' 95 k.toNatClampNeg).toInt ∧ (xI h' 95 k.toNatClampNeg).toInt ≤ 9 := q1
    have q2 := ht k.toNatClampNeg (by omega)
    rw [← vref g'.1 (rfl : vRf 93 3 = [95])] at q1
    rw [← vref g'.1 (rfl : vRf 93 4 = [96])] at q2
    have t13 : XT l 2 60 false 119 153 6051 91 [xf 2 93, xf 8 3, xi a, xi s, xi k] [] h' 91 [xf 2 93, xf 8 3, xi (a + (xI h' (xR h' 93 5) (((((k * (Int32.ofInt (10))) + (xI h' (xR h' 93 3) (k).toNatClampNeg)) * (Int32.ofInt (6))) + (xI h' (xR h' 93 4) (k).toNatClampNeg))).toNatClampNeg)), xi (s + (xI h' (xR h' 93 3) (k).toNatClampNeg)), xi (k + Int32.ofInt (1))] [] h' := XT_path (l := l) (fr := 2) (lo := 60) (full := false) (M := 119) (n := 153) (u := 6051) (pc := 91) (L := [xf 2 93, xf 8 3, xi a, xi s, xi k]) (st := []) (h := h') (inl := [118]) (n' := 120) (sp := [91]) (o := [0]) rfl rfl ⟨rfl, rfl, rfl⟩ rfl ⟨Nat.le_of_eq g'.2.2.2.1, Nat.le_of_eq g'.2.2.2.2⟩ ⟨⟨⟨⟨⟨⟨⟨⟨⟨trivial, (fun z => absurd (Int32.le_iff_toInt_le.mp z) (by omega))⟩, (vnn g'.1 (rfl : vRf 93 5 = [97]) (by decide))⟩, (vnn g'.1 (rfl : vRf 93 3 = [95]) (by decide))⟩, (vp_of (n := 6) (by omega) (by omega))⟩, (vnn g'.1 (rfl : vRf 93 4 = [96]) (by decide))⟩, (vp_of (n := 6) (by omega) (by omega))⟩, (vcell ⟨a1, by omega⟩ q1 q2)⟩, (vnn g'.1 (rfl : vRf 93 3 = [95]) (by decide))⟩, (vp_of (n := 6) (by omega) (by omega))⟩
    rw [vref g'.1 (rfl : vRf 93 5 = [97]), vref g'.1 (rfl : vRf 93 3 = [95]), vref g'.1 (rfl : vRf 93 4 = [96])] at t13
    have ek : (k + Int32.ofInt (1)).toInt = k.toInt + 1 := y_succ (by omega) (by omega)
    obtain ⟨a', s', k', z⟩ := vh_try2_3 l h' g' ht m _ _ (k + Int32.ofInt (1)) (by omega) (by omega)
    exact ⟨a', s', k', t13.tr z⟩
set_option maxRecDepth 100000 in
set_option maxHeartbeats 2000000 in
theorem vh_try_3 (l : Launch) : scm l vT vR vE 153 6051 (119, 2, 60, [.inr (.inr (2, 93)), .inr (.inr (8, 3))], [], [], [([], [], none, [], [], [])], ([(93, 0, false), (93, 2, false), (94, 0, true), (96, 0, true)], []), []) := by
  intro vs h ha hg hR hW hP
  match vs, ha with
  | [.inr w, .inr w2], ha =>
    obtain rfl : w = (2, 93) := ha.1
    obtain rfl : w2 = (8, 3) := ha.2.1
    have t14 : XT l 2 60 false 119 153 6051 0 [xf 2 93, xf 8 3, xun, xun, xun] [] h 5 [xf 2 93, xf 8 3, xun, xun, xun] [xi (Int32.ofInt (0)), xf 10006 (xR h 93 4)] h := XT_path (l := l) (fr := 2) (lo := 60) (full := false) (M := 119) (n := 153) (u := 6051) (pc := 0) (L := [xf 2 93, xf 8 3, xun, xun, xun]) (st := []) (h := h) (inl := [118]) (n' := 120) (sp := [5]) (o := []) rfl rfl ⟨rfl, rfl, rfl⟩ rfl ⟨Nat.le_of_eq hg.2.2.2.1, Nat.le_of_eq hg.2.2.2.2⟩ ⟨trivial, (vnn hg.1 (rfl : vRf 93 4 = [96]) (by decide))⟩
    rw [vref hg.1 (rfl : vRf 93 4 = [96])] at t14
    obtain ⟨h1, c1, G1, z1⟩ := vh_fill96 l h hg
    have t15 : XT l 2 60 false 119 153 6051 5 [xf 2 93, xf 8 3, xun, xun, xun] [xi (Int32.ofInt (0)), xf 10006 96] h 8 [xf 2 93, xf 8 3, xun, xun, xun] [] h1 := XT_call (l := l) (fr := 2) (lo := 60) (full := false) (M := 119) (n := 153) (u := 6051) (pc := 5) (L := [xf 2 93, xf 8 3, xun, xun, xun]) (st := [xi (Int32.ofInt (0)), xf 10006 96]) (h := h) (i := .invokestatic 5) (aux := 2) (nx := 8) (K := 5) (vs := [xf 10006 96, xi (Int32.ofInt (0))]) (rs := []) (rest := []) rfl rfl rfl rfl rfl rfl c1 (by decide) (by decide) (Nat.le_of_ble_eq_true rfl) ⟨Nat.le_of_eq G1.1.2.2.2.1, Nat.le_of_eq G1.1.2.2.2.2⟩
    have t16 := t14.tr t15
    have t17 : XT l 2 60 false 119 153 6051 8 [xf 2 93, xf 8 3, xun, xun, xun] [] h1 10 [xf 2 93, xf 8 3, xi (Int32.ofInt (0)), xun, xun] [] h1 := XT_path (l := l) (fr := 2) (lo := 60) (full := false) (M := 119) (n := 153) (u := 6051) (pc := 8) (L := [xf 2 93, xf 8 3, xun, xun, xun]) (st := []) (h := h1) (inl := [118]) (n' := 120) (sp := [10]) (o := []) rfl rfl ⟨rfl, rfl, rfl⟩ rfl ⟨Nat.le_of_eq G1.1.2.2.2.1, Nat.le_of_eq G1.1.2.2.2.2⟩ trivial
    have t18 := t16.tr t17
    have b5 : 0 ≤ (xI h 3 5).toInt ∧ (xI h 3 5).toInt ≤ 9 := vbnd hg.1 3 5
    obtain ⟨k', x3, x4, h2, t2, G2, ht⟩ := vh_try1_3 l h hg (xI h 3 5).toInt.toNat (Int32.ofInt (0)) xun xun h1 G1 (by decide) (by rw [show (Int32.ofInt (0)).toInt = 0 from rfl]; omega) ⟨fun _ _ => 0, fun _ _ => Nat.zero_le _, fun _ => rfl, fun r s e => absurd (show (0 : Nat) = 1 from e) (by decide), fun r hr => by rw [z1 r hr]; exact ⟨by decide, Int.natCast_nonneg _⟩⟩
    have T2 := t18.tr t2
    have t19 : XT l 2 60 false 119 153 6051 84 [xf 2 93, xf 8 3, xi k', x3, x4] [] h2 91 [xf 2 93, xf 8 3, xi (Int32.ofInt (0)), xi (Int32.ofInt (0)), xi (Int32.ofInt (0))] [] h2 := XT_path (l := l) (fr := 2) (lo := 60) (full := false) (M := 119) (n := 153) (u := 6051) (pc := 84) (L := [xf 2 93, xf 8 3, xi k', x3, x4]) (st := []) (h := h2) (inl := [118]) (n' := 120) (sp := [91]) (o := []) rfl rfl ⟨rfl, rfl, rfl⟩ rfl ⟨Nat.le_of_eq G2.1.2.2.2.1, Nat.le_of_eq G2.1.2.2.2.2⟩ trivial
    have t20 := T2.tr t19
    have b6 : 0 ≤ (xI h2 3 0).toInt ∧ (xI h2 3 0).toInt ≤ 6 := vbnd G2.1.1 3 0
    obtain ⟨a, s, k, t3⟩ := vh_try2_3 l h2 G2.1 ht (xI h2 3 0).toInt.toNat (Int32.ofInt (0)) (Int32.ofInt (0)) (Int32.ofInt (0)) (by decide) (by rw [show (Int32.ofInt (0)).toInt = 0 from rfl]; omega)
    have T3 := t20.tr t3
    by_cases c21 : (xI h2 93 0) < a
    · have t22 : XT l 2 60 false 119 153 6051 143 [xf 2 93, xf 8 3, xi a, xi s, xi k] [] h2 192 [xf 2 93, xf 8 3, xi a, xi s, xi k] [] (xrowI (xsetI (xsetI h2 93 0 a) 93 2 s) (xR h2 93 1) (va_cpy (xI (xsetI (xsetI h2 93 0 a) 93 2 s) (xR h2 93 3)) (xI (xsetI (xsetI h2 93 0 a) 93 2 s) (xR h2 93 1)) ((Int32.ofInt (0))).toNatClampNeg ((Int32.ofInt (0))).toNatClampNeg ((Int32.ofInt (6))).toNatClampNeg)) := XT_path (l := l) (fr := 2) (lo := 60) (full := false) (M := 119) (n := 153) (u := 6051) (pc := 143) (L := [xf 2 93, xf 8 3, xi a, xi s, xi k]) (st := []) (h := h2) (inl := [118]) (n' := 120) (sp := [192]) (o := [1]) rfl rfl ⟨rfl, rfl, rfl⟩ rfl ⟨Nat.le_of_eq G2.1.2.2.2.1, Nat.le_of_eq G2.1.2.2.2.2⟩ ⟨⟨⟨⟨trivial, c21⟩, (vnn G2.1.1 (rfl : vRf 93 3 = [95]) (by decide))⟩, (vnn G2.1.1 (rfl : vRf 93 1 = [94]) (by decide))⟩, ⟨⟨by decide, by decide, by decide⟩, by decide, by decide⟩⟩
      rw [vref G2.1.1 (rfl : vRf 93 1 = [94]), vref G2.1.1 (rfl : vRf 93 3 = [95])] at t22
      have t23 := T3.tr t22
      have G3 : vG ([(93, 0, false), (93, 2, false), (94, 0, true), (96, 0, true)], []) h (xsetI (xsetI h2 93 0 a) 93 2 s) := (G2.set (vb_all (by decide +kernel)) (stou_no (by decide +kernel)) (by decide +kernel) rfl).set (vb_all (by decide +kernel)) (stou_no (by decide +kernel)) (by decide +kernel) rfl
      have G4 : vG ([(93, 0, false), (93, 2, false), (94, 0, true), (96, 0, true)], []) h (xrowI (xsetI (xsetI h2 93 0 a) 93 2 s) 94 (va_cpy (xI (xsetI (xsetI h2 93 0 a) 93 2 s) 95) (xI (xsetI (xsetI h2 93 0 a) 93 2 s) 94) ((Int32.ofInt (0))).toNatClampNeg ((Int32.ofInt (0))).toNatClampNeg ((Int32.ofInt (6))).toNatClampNeg)) := vGrow94 G3
      exact ⟨fun _ => 0, [], _, ⟨trivial, fun i q hq => by cases hq⟩, CX_ofT (h' := (xrowI (xsetI (xsetI h2 93 0 a) 93 2 s) 94 (va_cpy (xI (xsetI (xsetI h2 93 0 a) 93 2 s) 95) (xI (xsetI (xsetI h2 93 0 a) 93 2 s) 94) ((Int32.ofInt (0))).toNatClampNeg ((Int32.ofInt (0))).toNatClampNeg ((Int32.ofInt (6))).toNatClampNeg))) (by decide) rfl rfl trivial ⟨_, _, _, rfl, rfl, rfl⟩ rfl ⟨Nat.le_of_eq G4.1.2.2.2.1.symm, Nat.le_of_eq G4.1.2.2.2.2.symm⟩ t23, G4.1, G4.2, _, List.mem_singleton.mpr rfl, scas_one (fun i q hq => by cases hq) (fun i q hq => by cases hq) trivial⟩
    · by_cases c24 : a = (xI h2 93 0)
      · by_cases c25 : (xI h2 93 2) ≤ s
        · have t26 : XT l 2 60 false 119 153 6051 143 [xf 2 93, xf 8 3, xi a, xi s, xi k] [] h2 192 [xf 2 93, xf 8 3, xi a, xi s, xi k] [] h2 := XT_path (l := l) (fr := 2) (lo := 60) (full := false) (M := 119) (n := 153) (u := 6051) (pc := 143) (L := [xf 2 93, xf 8 3, xi a, xi s, xi k]) (st := []) (h := h2) (inl := [118]) (n' := 120) (sp := [192]) (o := [0, 0, 1]) rfl rfl ⟨rfl, rfl, rfl⟩ rfl ⟨Nat.le_of_eq G2.1.2.2.2.1, Nat.le_of_eq G2.1.2.2.2.2⟩ ⟨⟨⟨trivial, c21⟩, c24⟩, c25⟩
          have t27 := T3.tr t26
          exact ⟨fun _ => 0, [], _, ⟨trivial, fun i q hq => by cases hq⟩, CX_ofT (h' := h2) (by decide) rfl rfl trivial ⟨_, _, _, rfl, rfl, rfl⟩ rfl ⟨Nat.le_of_eq G2.1.2.2.2.1.symm, Nat.le_of_eq G2.1.2.2.2.2.symm⟩ t27, G2.1, G2.2, _, List.mem_singleton.mpr rfl, scas_one (fun i q hq => by cases hq) (fun i q hq => by cases hq) trivial⟩
        · have t28 : XT l 2 60 false 119 153 6051 143 [xf 2 93, xf 8 3, xi a, xi s, xi k] [] h2 192 [xf 2 93, xf 8 3, xi a, xi s, xi k] [] (xrowI (xsetI (xsetI h2 93 0 a) 93 2 s) (xR h2 93 1) (va_cpy (xI (xsetI (xsetI h2 93 0 a) 93 2 s) (xR h2 93 3)) (xI (xsetI (xsetI h2 93 0 a) 93 2 s) (xR h2 93 1)) ((Int32.ofInt (0))).toNatClampNeg ((Int32.ofInt (0))).toNatClampNeg ((Int32.ofInt (6))).toNatClampNeg)) := XT_path (l := l) (fr := 2) (lo := 60) (full := false) (M := 119) (n := 153) (u := 6051) (pc := 143) (L := [xf 2 93, xf 8 3, xi a, xi s, xi k]) (st := []) (h := h2) (inl := [118]) (n' := 120) (sp := [192]) (o := [0, 0, 0]) rfl rfl ⟨rfl, rfl, rfl⟩ rfl ⟨Nat.le_of_eq G2.1.2.2.2.1, Nat.le_of_eq G2.1.2.2.2.2⟩ ⟨⟨⟨⟨⟨⟨trivial, c21⟩, c24⟩, c25⟩, (vnn G2.1.1 (rfl : vRf 93 3 = [95]) (by decide))⟩, (vnn G2.1.1 (rfl : vRf 93 1 = [94]) (by decide))⟩, ⟨⟨by decide, by decide, by decide⟩, by decide, by decide⟩⟩
          rw [vref G2.1.1 (rfl : vRf 93 1 = [94]), vref G2.1.1 (rfl : vRf 93 3 = [95])] at t28
          have t29 := T3.tr t28
          have G3 : vG ([(93, 0, false), (93, 2, false), (94, 0, true), (96, 0, true)], []) h (xsetI (xsetI h2 93 0 a) 93 2 s) := (G2.set (vb_all (by decide +kernel)) (stou_no (by decide +kernel)) (by decide +kernel) rfl).set (vb_all (by decide +kernel)) (stou_no (by decide +kernel)) (by decide +kernel) rfl
          have G4 : vG ([(93, 0, false), (93, 2, false), (94, 0, true), (96, 0, true)], []) h (xrowI (xsetI (xsetI h2 93 0 a) 93 2 s) 94 (va_cpy (xI (xsetI (xsetI h2 93 0 a) 93 2 s) 95) (xI (xsetI (xsetI h2 93 0 a) 93 2 s) 94) ((Int32.ofInt (0))).toNatClampNeg ((Int32.ofInt (0))).toNatClampNeg ((Int32.ofInt (6))).toNatClampNeg)) := vGrow94 G3
          exact ⟨fun _ => 0, [], _, ⟨trivial, fun i q hq => by cases hq⟩, CX_ofT (h' := (xrowI (xsetI (xsetI h2 93 0 a) 93 2 s) 94 (va_cpy (xI (xsetI (xsetI h2 93 0 a) 93 2 s) 95) (xI (xsetI (xsetI h2 93 0 a) 93 2 s) 94) ((Int32.ofInt (0))).toNatClampNeg ((Int32.ofInt (0))).toNatClampNeg ((Int32.ofInt (6))).toNatClampNeg))) (by decide) rfl rfl trivial ⟨_, _, _, rfl, rfl, rfl⟩ rfl ⟨Nat.le_of_eq G4.1.2.2.2.1.symm, Nat.le_of_eq G4.1.2.2.2.2.symm⟩ t29, G4.1, G4.2, _, List.mem_singleton.mpr rfl, scas_one (fun i q hq => by cases hq) (fun i q hq => by cases hq) trivial⟩
      · have t30 : XT l 2 60 false 119 153 6051 143 [xf 2 93, xf 8 3, xi a, xi s, xi k] [] h2 192 [xf 2 93, xf 8 3, xi a, xi s, xi k] [] h2 := XT_path (l := l) (fr := 2) (lo := 60) (full := false) (M := 119) (n := 153) (u := 6051) (pc := 143) (L := [xf 2 93, xf 8 3, xi a, xi s, xi k]) (st := []) (h := h2) (inl := [118]) (n' := 120) (sp := [192]) (o := [0, 1]) rfl rfl ⟨rfl, rfl, rfl⟩ rfl ⟨Nat.le_of_eq G2.1.2.2.2.1, Nat.le_of_eq G2.1.2.2.2.2⟩ ⟨⟨trivial, c21⟩, c24⟩
        have t31 := T3.tr t30
        exact ⟨fun _ => 0, [], _, ⟨trivial, fun i q hq => by cases hq⟩, CX_ofT (h' := h2) (by decide) rfl rfl trivial ⟨_, _, _, rfl, rfl, rfl⟩ rfl ⟨Nat.le_of_eq G2.1.2.2.2.1.symm, Nat.le_of_eq G2.1.2.2.2.2.symm⟩ t31, G2.1, G2.2, _, List.mem_singleton.mpr rfl, scas_one (fun i q hq => by cases hq) (fun i q hq => by cases hq) trivial⟩
