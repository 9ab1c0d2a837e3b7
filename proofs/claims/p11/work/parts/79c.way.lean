/-! PAIRS BY HAND: a way, up to its first season. -/
def vWw (hs hO hO2 h h2 : XH) : Prop := sgood vT vR (vEs hs) 153 6051 h ∧ sgood vT vR (vEs hs) 153 6051 h2 ∧ sframe (cww vC_233) hO h ∧ sframe (cww vC_233) hO2 h2 ∧ sAg vDo (fun _ _ => True) h h2
theorem vECs140 (k : Nat) : swin vECs 140 k = false := by
  unfold swin
  refine List.any_eq_false.mpr fun q hq => ?_
  have z : vECs.all (fun q => !Nat.beq q.1 140) = true := by decide +kernel
  have := List.all_eq_true.mp z q hq
  intro y
  rw [Bool.and_eq_true] at y
  rw [y.1] at this
  cases this
theorem vWw.set {hs hO hO2 h h2 : XH} (H : vWw hs hO hO2 h h2) {k : Nat} {v : Int32} (hv : 0 ≤ v.toInt ∧ v.toInt ≤ 1) : vWw hs hO hO2 (xsetI h 140 k v) (xsetI h2 140 k v) :=
  ⟨sgS_set H.1 (by rw [vI_u rfl (rfl : vRow 140 = (0, 1))]; exact hv) (stou_no (by decide +kernel)) (vECs140 k), sgS_set H.2.1 (by rw [vI_u rfl (rfl : vRow 140 = (0, 1))]; exact hv) (stou_no (by decide +kernel)) (vECs140 k), H.2.2.1.tr (sframe_set rfl), H.2.2.2.1.tr (sframe_set rfl), sAg_setD H.2.2.2.2⟩
set_option maxRecDepth 100000 in
set_option maxHeartbeats 2000000 in
theorem vp_way0 (l : Launch) (hs hO hO2 : XH) (a b u : Int32) : ∀ (m : Nat) (i : Int32) (h h2 : XH), vWw hs hO hO2 h h2 → 0 ≤ i.toInt → i.toInt + m = 366 → (∀ j : Nat, (j : Int) < i.toInt → xI h 140 j = xI h2 140 j) → ∃ i' g g2, XT l 10 265 false 261 153 6051 3 [xf 13 104, xi a, xi b, xi u, xi i, xun, xun, xun] [] h 25 [xf 13 104, xi a, xi b, xi u, xi i', xun, xun, xun] [] g ∧ XT l 10 265 false 261 153 6051 3 [xf 13 104, xi a, xi b, xi u, xi i, xun, xun, xun] [] h2 25 [xf 13 104, xi a, xi b, xi u, xi i', xun, xun, xun] [] g2 ∧ vWw hs hO hO2 g g2 ∧ (∀ j : Nat, j < 366 → xI g 140 j = xI g2 140 j)
  | 0, i, h, h2, H, a1, a2, hv => by
    have hg := H.1
    have hg2 := H.2.1
    have en : (Int32.ofInt (366)).toInt = 366 := rfl
    have t1 : XT l 10 265 false 261 153 6051 3 [xf 13 104, xi a, xi b, xi u, xi i, xun, xun, xun] [] h 25 [xf 13 104, xi a, xi b, xi u, xi i, xun, xun, xun] [] h := XT_path (l := l) (fr := 10) (lo := 265) (full := false) (M := 261) (n := 153) (u := 6051) (pc := 3) (L := [xf 13 104, xi a, xi b, xi u, xi i, xun, xun, xun]) (st := []) (h := h) (inl := []) (n' := 80) (sp := [25]) (o := [1]) rfl rfl ⟨rfl, rfl, rfl⟩ rfl ⟨Nat.le_of_eq hg.2.2.2.1, Nat.le_of_eq hg.2.2.2.2⟩ ⟨trivial, (Int32.le_iff_toInt_le.mpr (by omega))⟩
    have t1' : XT l 10 265 false 261 153 6051 3 [xf 13 104, xi a, xi b, xi u, xi i, xun, xun, xun] [] h2 25 [xf 13 104, xi a, xi b, xi u, xi i, xun, xun, xun] [] h2 := XT_path (l := l) (fr := 10) (lo := 265) (full := false) (M := 261) (n := 153) (u := 6051) (pc := 3) (L := [xf 13 104, xi a, xi b, xi u, xi i, xun, xun, xun]) (st := []) (h := h2) (inl := []) (n' := 80) (sp := [25]) (o := [1]) rfl rfl ⟨rfl, rfl, rfl⟩ rfl ⟨Nat.le_of_eq hg2.2.2.2.1, Nat.le_of_eq hg2.2.2.2.2⟩ ⟨trivial, (Int32.le_iff_toInt_le.mpr (by omega))⟩
    exact ⟨i, h, h2, t1, t1', H, fun j hj => hv j (by omega)⟩
  | m + 1, i, h, h2, H, a1, a2, hv => by
    have hg := H.1
    have hg2 := H.2.1
    have en : (Int32.ofInt (366)).toInt = 366 := rfl
    have t2 : XT l 10 265 false 261 153 6051 3 [xf 13 104, xi a, xi b, xi u, xi i, xun, xun, xun] [] h 3 [xf 13 104, xi a, xi b, xi u, xi (i + Int32.ofInt (1)), xun, xun, xun] [] (xsetI h (xR h 104 65) (i).toNatClampNeg (vp_nar .boolean (Int32.ofInt (0)))) := XT_path (l := l) (fr := 10) (lo := 265) (full := false) (M := 261) (n := 153) (u := 6051) (pc := 3) (L := [xf 13 104, xi a, xi b, xi u, xi i, xun, xun, xun]) (st := []) (h := h) (inl := []) (n' := 80) (sp := [3]) (o := [0]) rfl rfl ⟨rfl, rfl, rfl⟩ rfl ⟨Nat.le_of_eq hg.2.2.2.1, Nat.le_of_eq hg.2.2.2.2⟩ ⟨⟨⟨trivial, (fun z => absurd (Int32.le_iff_toInt_le.mp z) (by omega))⟩, (vnn hg.1 (rfl : vRf 104 65 = [140]) (by decide))⟩, (vp_of (i := i) (n := 366) (by omega) (by omega))⟩
    rw [vref hg.1 (rfl : vRf 104 65 = [140])] at t2
    have t2' : XT l 10 265 false 261 153 6051 3 [xf 13 104, xi a, xi b, xi u, xi i, xun, xun, xun] [] h2 3 [xf 13 104, xi a, xi b, xi u, xi (i + Int32.ofInt (1)), xun, xun, xun] [] (xsetI h2 (xR h2 104 65) (i).toNatClampNeg (vp_nar .boolean (Int32.ofInt (0)))) := XT_path (l := l) (fr := 10) (lo := 265) (full := false) (M := 261) (n := 153) (u := 6051) (pc := 3) (L := [xf 13 104, xi a, xi b, xi u, xi i, xun, xun, xun]) (st := []) (h := h2) (inl := []) (n' := 80) (sp := [3]) (o := [0]) rfl rfl ⟨rfl, rfl, rfl⟩ rfl ⟨Nat.le_of_eq hg2.2.2.2.1, Nat.le_of_eq hg2.2.2.2.2⟩ ⟨⟨⟨trivial, (fun z => absurd (Int32.le_iff_toInt_le.mp z) (by omega))⟩, (vnn hg2.1 (rfl : vRf 104 65 = [140]) (by decide))⟩, (vp_of (i := i) (n := 366) (by omega) (by omega))⟩
    rw [vref hg2.1 (rfl : vRf 104 65 = [140])] at t2'
    have ei := y_suc1 a1 (by omega)
    have ni : i.toNatClampNeg = i.toInt.toNat := rfl
    have hv' : ∀ j : Nat, (j : Int) < (i + Int32.ofInt (1)).toInt → xI (xsetI h 140 (i).toNatClampNeg (vp_nar .boolean (Int32.ofInt (0)))) 140 j = xI (xsetI h2 140 (i).toNatClampNeg (vp_nar .boolean (Int32.ofInt (0)))) 140 j := fun j hj => by
      by_cases e : j = i.toNatClampNeg
      · rw [e, yI_same, yI_same]
      · rw [yI_ne (eq_false (fun z => e z.2)), yI_ne (eq_false (fun z => e z.2))]
        exact hv j (by omega)
    obtain ⟨i', g, g2, y1, y2, y3, y4⟩ := vp_way0 l hs hO hO2 a b u m (i + Int32.ofInt (1)) (xsetI h 140 (i).toNatClampNeg (vp_nar .boolean (Int32.ofInt (0)))) (xsetI h2 140 (i).toNatClampNeg (vp_nar .boolean (Int32.ofInt (0)))) (H.set (by decide)) (by omega) (by omega) hv'
    exact ⟨i', g, g2, t2.tr y1, t2'.tr y2, y3, y4⟩
def vA44 : SS := ([((0, 5), 0, 0), ((0, 5), 0, 0), ((0, 60), 0, 0), ((0, 61), 0, 0)], [], [sref 13 104, sint (1, 0), sint (2, 0), sint (3, 0), sint (4, 0), sany, sany, sany], [], ([], [(104, 65, 140)]))
theorem vA44_e : (vIt_233.getD 7 sit0).1.2.1 = vA44 := rfl
theorem vway_st {hs h : XH} (a b u : Int32) (B_a : 0 ≤ a.toInt ∧ a.toInt ≤ 5) (B_b : 0 ≤ b.toInt ∧ b.toInt ≤ 5) (B_u : 0 ≤ u.toInt ∧ u.toInt ≤ 60) (hg : sgood vT vR (vEs hs) 153 6051 h) : sst vT 153 6051 (fun n => match n with | 0 => a.toInt | 1 => b.toInt | 2 => u.toInt | _ => 0) (fun _ => 0) vA44 [xf 13 104, xi a, xi b, xi u, xi (Int32.ofInt (0)), xun, xun, xun] [] h := by
  unfold vA44
  refine ⟨fun s q hq => ?_, fun s q hq => ?_, ⟨rfl, fun i => ?_⟩, fun v hv => ?_, rfl, fun v hv => absurd hv List.not_mem_nil, hg.1, fun q hq => absurd hq List.not_mem_nil, fun q hq => ?_, hg.2.2.2⟩
  · match s, hq with
    | 0, hq => obtain rfl := Option.some.inj hq; exact ⟨B_a, fun b hb => by cases hb⟩
    | 1, hq => obtain rfl := Option.some.inj hq; exact ⟨B_b, fun b hb => by cases hb⟩
    | 2, hq => obtain rfl := Option.some.inj hq; exact ⟨B_u, fun b hb => by cases hb⟩
    | 3, hq => obtain rfl := Option.some.inj hq; exact ⟨⟨show (0 : Int) ≤ 0 by decide, show (0 : Int) ≤ 61 by decide⟩, fun b hb => by cases hb⟩
  · exact absurd hq (by simp)
  · have z : ∀ x : Int32, xi x = xi (Int32.ofInt (x.toInt + 0)) := fun x => by rw [Int.add_zero, i32_of]
    match i with
    | 0 => exact Or.inr rfl
    | 1 => exact Or.inr (z a)
    | 2 => exact Or.inr (z b)
    | 3 => exact Or.inr (z u)
    | 4 => exact Or.inr rfl
    | 5 => exact Or.inl rfl
    | 6 => exact Or.inl rfl
    | 7 => exact Or.inl rfl
    | k + 8 => exact Or.inr rfl
  · have r : ∀ x : Int32, i32r (x.toInt + 0) := fun x => by rw [Int.add_zero]; exact i32r_of x
    have hv : v ∈ [sref 13 104, sint (1, 0), sint (2, 0), sint (3, 0), sint (4, 0), sany, sany, sany] := hv
    simp only [List.mem_cons, List.not_mem_nil, or_false] at hv
    rcases hv with rfl | rfl | rfl | rfl | rfl | rfl | rfl | rfl
    · trivial
    · exact ⟨by decide, r a⟩
    · exact ⟨by decide, r b⟩
    · exact ⟨by decide, r u⟩
    · exact ⟨by decide, show (-2147483648 : Int) ≤ 0 + 0 by decide, show (0 : Int) + 0 ≤ 2147483647 by decide⟩
    · trivial
    · trivial
    · trivial
  · rw [List.mem_singleton.mp (show q ∈ [(104, 65, 140)] from hq)]
    exact vref hg.1 (rfl : vRf 104 65 = [140])
set_option maxRecDepth 100000 in
set_option maxHeartbeats 2000000 in
theorem vp_wayP (l : Launch) (hs : XH) (a b u : Int32) (B_a : 0 ≤ a.toInt ∧ a.toInt ≤ 5) (B_u : 0 ≤ u.toInt ∧ u.toInt ≤ 60) (h h2 : XH) (hg : sgood vT vR (vEs hs) 153 6051 h) (hg2 : sgood vT vR (vEs hs) 153 6051 h2) (ha : sAg vDo (fun _ _ => True) h h2) : ∃ g g2, XT l 10 265 false 261 153 6051 0 [xf 13 104, xi a, xi b, xi u, xun, xun, xun, xun] [] h 44 [xf 13 104, xi a, xi b, xi u, xi (Int32.ofInt (0)), xun, xun, xun] [] g ∧ XT l 10 265 false 261 153 6051 0 [xf 13 104, xi a, xi b, xi u, xun, xun, xun, xun] [] h2 44 [xf 13 104, xi a, xi b, xi u, xi (Int32.ofInt (0)), xun, xun, xun] [] g2 ∧ vWw hs h h2 g g2 ∧ sAg vD (fun _ _ => True) g g2 := by
  have H0 : vWw hs h h2 h h2 := ⟨hg, hg2, sframe.rf, sframe.rf, ha⟩
  have e6 : (Int32.ofInt (6)).toInt = 6 := rfl
  have x1 : ((Int32.ofInt (6)) * u).toInt = 6 * u.toInt := by
    rw [Int32.toInt_mul, e6]
    exact Int.bmod_eq_of_le (by omega) (by omega)
  have x2 : (((Int32.ofInt (6)) * u) + a).toInt = 6 * u.toInt + a.toInt := by
    rw [Int32.toInt_add, x1]
    exact Int.bmod_eq_of_le (by omega) (by omega)
  have t1 : XT l 10 265 false 261 153 6051 0 [xf 13 104, xi a, xi b, xi u, xun, xun, xun, xun] [] h 3 [xf 13 104, xi a, xi b, xi u, xi (Int32.ofInt (0)), xun, xun, xun] [] h := XT_path (l := l) (fr := 10) (lo := 265) (full := false) (M := 261) (n := 153) (u := 6051) (pc := 0) (L := [xf 13 104, xi a, xi b, xi u, xun, xun, xun, xun]) (st := []) (h := h) (inl := []) (n' := 80) (sp := [3]) (o := []) rfl rfl ⟨rfl, rfl, rfl⟩ rfl ⟨Nat.le_of_eq hg.2.2.2.1, Nat.le_of_eq hg.2.2.2.2⟩ trivial
  have t1' : XT l 10 265 false 261 153 6051 0 [xf 13 104, xi a, xi b, xi u, xun, xun, xun, xun] [] h2 3 [xf 13 104, xi a, xi b, xi u, xi (Int32.ofInt (0)), xun, xun, xun] [] h2 := XT_path (l := l) (fr := 10) (lo := 265) (full := false) (M := 261) (n := 153) (u := 6051) (pc := 0) (L := [xf 13 104, xi a, xi b, xi u, xun, xun, xun, xun]) (st := []) (h := h2) (inl := []) (n' := 80) (sp := [3]) (o := []) rfl rfl ⟨rfl, rfl, rfl⟩ rfl ⟨Nat.le_of_eq hg2.2.2.2.1, Nat.le_of_eq hg2.2.2.2.2⟩ trivial
  obtain ⟨iA, gA, gA2, yA, yA2, HA, vA⟩ := vp_way0 l hs h h2 a b u 366 (Int32.ofInt (0)) h h2 H0 (by decide) (by decide) (fun j hj => absurd hj (by rw [show (Int32.ofInt (0)).toInt = 0 from rfl]; omega))
  have TA := t1.tr yA
  have TA' := t1'.tr yA2
  have t2 : XT l 10 265 false 261 153 6051 25 [xf 13 104, xi a, xi b, xi u, xi iA, xun, xun, xun] [] gA 38 [xf 13 104, xi a, xi b, xi u, xi iA, xun, xun, xun] [xf 13 104] (xsetI gA (xR gA 104 65) ((((Int32.ofInt (6)) * u) + a)).toNatClampNeg (vp_nar .boolean (Int32.ofInt (1)))) := XT_path (l := l) (fr := 10) (lo := 265) (full := false) (M := 261) (n := 153) (u := 6051) (pc := 25) (L := [xf 13 104, xi a, xi b, xi u, xi iA, xun, xun, xun]) (st := []) (h := gA) (inl := []) (n' := 80) (sp := [38]) (o := []) rfl rfl ⟨rfl, rfl, rfl⟩ rfl ⟨Nat.le_of_eq HA.1.2.2.2.1, Nat.le_of_eq HA.1.2.2.2.2⟩ ⟨⟨trivial, (vnn HA.1.1 (rfl : vRf 104 65 = [140]) (by decide))⟩, (vp_of (i := (((Int32.ofInt (6)) * u) + a)) (n := 366) (by omega) (by omega))⟩
  rw [vref HA.1.1 (rfl : vRf 104 65 = [140])] at t2
  have t3 := TA.tr t2
  have t2' : XT l 10 265 false 261 153 6051 25 [xf 13 104, xi a, xi b, xi u, xi iA, xun, xun, xun] [] gA2 38 [xf 13 104, xi a, xi b, xi u, xi iA, xun, xun, xun] [xf 13 104] (xsetI gA2 (xR gA2 104 65) ((((Int32.ofInt (6)) * u) + a)).toNatClampNeg (vp_nar .boolean (Int32.ofInt (1)))) := XT_path (l := l) (fr := 10) (lo := 265) (full := false) (M := 261) (n := 153) (u := 6051) (pc := 25) (L := [xf 13 104, xi a, xi b, xi u, xi iA, xun, xun, xun]) (st := []) (h := gA2) (inl := []) (n' := 80) (sp := [38]) (o := []) rfl rfl ⟨rfl, rfl, rfl⟩ rfl ⟨Nat.le_of_eq HA.2.1.2.2.2.1, Nat.le_of_eq HA.2.1.2.2.2.2⟩ ⟨⟨trivial, (vnn HA.2.1.1 (rfl : vRf 104 65 = [140]) (by decide))⟩, (vp_of (i := (((Int32.ofInt (6)) * u) + a)) (n := 366) (by omega) (by omega))⟩
  rw [vref HA.2.1.1 (rfl : vRf 104 65 = [140])] at t2'
  have t3' := TA'.tr t2'
  have HB := HA.set (k := (((Int32.ofInt (6)) * u) + a).toNatClampNeg) (v := vp_nar .boolean (Int32.ofInt (1))) (by decide)
  obtain ⟨gB, eB⟩ : ∃ x, x = (xsetI gA 140 ((((Int32.ofInt (6)) * u) + a)).toNatClampNeg (vp_nar .boolean (Int32.ofInt (1)))) := ⟨_, rfl⟩
  obtain ⟨gB2, eB2⟩ : ∃ x, x = (xsetI gA2 140 ((((Int32.ofInt (6)) * u) + a)).toNatClampNeg (vp_nar .boolean (Int32.ofInt (1)))) := ⟨_, rfl⟩
  have TB := t3
  have TB' := t3'
  rw [← eB] at TB
  rw [← eB2] at TB'
  have HB : vWw hs h h2 gB gB2 := by rw [eB, eB2]; exact HB
  have vB : ∀ j : Nat, j < 366 → xI gB 140 j = xI gB2 140 j := fun j hj => by
    rw [eB, eB2]
    by_cases e : j = (((Int32.ofInt (6)) * u) + a).toNatClampNeg
    · rw [e, yI_same, yI_same]
    · rw [yI_ne (eq_false (fun z => e z.2)), yI_ne (eq_false (fun z => e z.2))]; exact vA j hj
  obtain ⟨gC, gC2, cC, cC2, gG, gG2, fC, fC2, aC⟩ := vp_lay l hs gB gB2 HB.1 HB.2.1 HB.2.2.2.2
  have t4 : XT l 10 265 false 261 153 6051 38 [xf 13 104, xi a, xi b, xi u, xi iA, xun, xun, xun] [xf 13 104] gB 41 [xf 13 104, xi a, xi b, xi u, xi iA, xun, xun, xun] [] gC := XT_call (l := l) (fr := 10) (lo := 265) (full := false) (M := 261) (n := 153) (u := 6051) (pc := 38) (L := [xf 13 104, xi a, xi b, xi u, xi iA, xun, xun, xun]) (st := [xf 13 104]) (h := gB) (i := .invokevirtual 247) (aux := 1) (nx := 41) (K := 247) (vs := [xf 13 104]) (rs := []) (rest := []) rfl rfl rfl rfl rfl rfl cC (by decide) (by decide) (Nat.le_of_ble_eq_true rfl) ⟨Nat.le_of_eq gG.2.2.2.1, Nat.le_of_eq gG.2.2.2.2⟩
  have t5 := TB.tr t4
  have t4' : XT l 10 265 false 261 153 6051 38 [xf 13 104, xi a, xi b, xi u, xi iA, xun, xun, xun] [xf 13 104] gB2 41 [xf 13 104, xi a, xi b, xi u, xi iA, xun, xun, xun] [] gC2 := XT_call (l := l) (fr := 10) (lo := 265) (full := false) (M := 261) (n := 153) (u := 6051) (pc := 38) (L := [xf 13 104, xi a, xi b, xi u, xi iA, xun, xun, xun]) (st := [xf 13 104]) (h := gB2) (i := .invokevirtual 247) (aux := 1) (nx := 41) (K := 247) (vs := [xf 13 104]) (rs := []) (rest := []) rfl rfl rfl rfl rfl rfl cC2 (by decide) (by decide) (Nat.le_of_ble_eq_true rfl) ⟨Nat.le_of_eq gG2.2.2.2.1, Nat.le_of_eq gG2.2.2.2.2⟩
  have t5' := TB'.tr t4'
  have t6 : XT l 10 265 false 261 153 6051 41 [xf 13 104, xi a, xi b, xi u, xi iA, xun, xun, xun] [] gC 44 [xf 13 104, xi a, xi b, xi u, xi (Int32.ofInt (0)), xun, xun, xun] [] gC := XT_path (l := l) (fr := 10) (lo := 265) (full := false) (M := 261) (n := 153) (u := 6051) (pc := 41) (L := [xf 13 104, xi a, xi b, xi u, xi iA, xun, xun, xun]) (st := []) (h := gC) (inl := []) (n' := 80) (sp := [44]) (o := []) rfl rfl ⟨rfl, rfl, rfl⟩ rfl ⟨Nat.le_of_eq gG.2.2.2.1, Nat.le_of_eq gG.2.2.2.2⟩ trivial
  have t7 := t5.tr t6
  have t6' : XT l 10 265 false 261 153 6051 41 [xf 13 104, xi a, xi b, xi u, xi iA, xun, xun, xun] [] gC2 44 [xf 13 104, xi a, xi b, xi u, xi (Int32.ofInt (0)), xun, xun, xun] [] gC2 := XT_path (l := l) (fr := 10) (lo := 265) (full := false) (M := 261) (n := 153) (u := 6051) (pc := 41) (L := [xf 13 104, xi a, xi b, xi u, xi iA, xun, xun, xun]) (st := []) (h := gC2) (inl := []) (n' := 80) (sp := [44]) (o := []) rfl rfl ⟨rfl, rfl, rfl⟩ rfl ⟨Nat.le_of_eq gG2.2.2.2.1, Nat.le_of_eq gG2.2.2.2.2⟩ trivial
  have t7' := t5'.tr t6'
  refine ⟨gC, gC2, t7, t7', ⟨gG, gG2, HB.2.2.1.tr (fC.mono (by decide +kernel) rfl), HB.2.2.2.1.tr (fC2.mono (by decide +kernel) rfl), ⟨fun c k hck hl => aC.1 c k ?_ hl, aC.2⟩⟩, fun c k hck hl => ?_, aC.2⟩
  · cases hi : swin vDi c k with
    | false => rfl
    | true =>
      have z : swsub vDi vDo = true := by decide +kernel
      rw [swsub_in z hck] at hi
      cases hi
  · by_cases e : c = 140
    · subst e
      rw [fC.1 140 k rfl, fC2.1 140 k rfl]
      exact vB k hl
    · refine aC.1 c k ?_ hl
      have z := vD_no hck
      cases hi : swin vDi c k with
      | false => rfl
      | true =>
        exfalso
        have y : ((Nat.beq 139 c && (true || Nat.beq 0 k)) || ((Nat.beq 140 c && (true || Nat.beq 0 k)) || ((Nat.beq 104 c && (false || Nat.beq 54 k)) || false))) = true := hi
        simp only [Bool.or_eq_true, Bool.and_eq_true, Bool.false_or, Bool.or_false] at y
        rcases y with ⟨y, -⟩ | ⟨y, -⟩ | ⟨y, y2⟩
        · exact z.1 (Nat.eq_of_beq_eq_true y).symm
        · exact e (Nat.eq_of_beq_eq_true y).symm
        · exact z.2 ⟨(Nat.eq_of_beq_eq_true y).symm, (Nat.eq_of_beq_eq_true y2).symm⟩
