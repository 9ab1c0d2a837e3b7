/-! PAIRS BY HAND: a season that is tried. -/
theorem vqp_104 (l : Launch) (hs : XH) (x0 : Int32) (x1 : Int32) (h h2 : XH) (hg : sgood vT vR (vEs hs) 153 6051 h) (hg2 : sgood vT vR (vEs hs) 153 6051 h2) (ha : sAg vD (fun _ _ => True) h h2) (a0 : 0 ≤ x0.toInt ∧ x0.toInt ≤ 1) (a1 : 0 ≤ x1.toInt ∧ x1.toInt ≤ 5) : ∃ (v : Int32) (n1 n2 : XH), CX l 8 218 false 232 [xf 13 104, xi x0, xi x1] h [xi v] n1 ∧ CX l 8 218 false 232 [xf 13 104, xi x0, xi x1] h2 [xi v] n2 ∧ sgood vT vR (vEs hs) 153 6051 n1 ∧ sgood vT vR (vEs hs) 153 6051 n2 ∧ sframe ([(104, 54, false)], []) h n1 ∧ sframe ([(104, 54, false)], []) h2 n2 ∧ sAg vD (fun _ _ => True) n1 n2 ∧ (((-2147483648) ≤ v.toInt ∧ v.toInt ≤ 2147483647)) := by
  obtain ⟨ρ, rs, n1, n2, hv, c1, c2, ⟨g1, f1, cs, hcs, k⟩, ⟨g2, f2, -⟩, ag⟩ := vp_104 l hs [xf 13 104, xi x0, xi x1] h h2 ⟨rfl, a0, a1, trivial⟩ hg hg2 ha (fun q hq => absurd hq List.not_mem_nil) (fun q hq => absurd hq List.not_mem_nil) (fun ρ hρ g hg' => absurd hg' List.not_mem_nil)
  rcases List.mem_cons.mp hcs with rfl | hcs
  · obtain ⟨v, rfl, kv⟩ := sres_i k.2.2.1
    exact ⟨v, n1, n2, c1, c2, g1, g2, f1, f2, ag, kv⟩
  exact absurd hcs List.not_mem_nil
theorem vqp_182 (l : Launch) (hs : XH) (x0 : Int32) (x1 : Int32) (h h2 : XH) (hg : sgood vT vR (vEs hs) 153 6051 h) (hg2 : sgood vT vR (vEs hs) 153 6051 h2) (P : XLP) (ha : sAg vD P h h2) (a0 : (-1) ≤ x0.toInt ∧ x0.toInt ≤ 10) (a1 : (-2147483648) ≤ x1.toInt ∧ x1.toInt ≤ 2147483647) : ∃ (v : Int32) (n1 n2 : XH), CX l 0 0 false 245 [xi x0, xi x1] h [xi v] n1 ∧ CX l 0 0 false 245 [xi x0, xi x1] h2 [xi v] n2 ∧ sgood vT vR (vEs hs) 153 6051 n1 ∧ sgood vT vR (vEs hs) 153 6051 n2 ∧ sframe ([], []) h n1 ∧ sframe ([], []) h2 n2 ∧ sAg vD P n1 n2 ∧ ((0 ≤ v.toInt ∧ v.toInt ≤ 10) ∨ ((-1) ≤ v.toInt ∧ v.toInt ≤ 10)) := by
  obtain ⟨ρ, rs, n1, n2, hv, c1, c2, ⟨g1, f1, cs, hcs, k⟩, ⟨g2, f2, -⟩, ag⟩ := vp_182 l hs P [xi x0, xi x1] h h2 ⟨a0, a1, trivial⟩ hg hg2 ha (fun q hq => absurd hq List.not_mem_nil) (fun q hq => absurd hq List.not_mem_nil) (fun ρ hρ g hg' => absurd hg' List.not_mem_nil)
  rcases List.mem_cons.mp hcs with rfl | hcs
  · obtain ⟨v, rfl, kv⟩ := sres_i k.2.2.1
    exact ⟨v, n1, n2, c1, c2, g1, g2, f1, f2, ag, Or.inl kv⟩
  rcases List.mem_cons.mp hcs with rfl | hcs
  · obtain ⟨v, rfl, kv⟩ := sres_i k.2.2.1
    exact ⟨v, n1, n2, c1, c2, g1, g2, f1, f2, ag, Or.inr (kv)⟩
  exact absurd hcs List.not_mem_nil
theorem vqp_106 (l : Launch) (hs : XH) (x0 : Int32) (x1 : Int32) (h h2 : XH) (hg : sgood vT vR (vEs hs) 153 6051 h) (hg2 : sgood vT vR (vEs hs) 153 6051 h2) (ha : sAg vD (fun _ _ => True) h h2) (a0 : 0 ≤ x0.toInt ∧ x0.toInt ≤ 1) (a1 : 0 ≤ x1.toInt ∧ x1.toInt ≤ 5) : ∃ (v : Int32) (n1 n2 : XH), CX l 5 146 false 234 [xf 13 104, xi x0, xi x1] h [xi v] n1 ∧ CX l 5 146 false 234 [xf 13 104, xi x0, xi x1] h2 [xi v] n2 ∧ sgood vT vR (vEs hs) 153 6051 n1 ∧ sgood vT vR (vEs hs) 153 6051 n2 ∧ sframe ([(104, 54, false)], []) h n1 ∧ sframe ([(104, 54, false)], []) h2 n2 ∧ sAg vD (fun _ _ => True) n1 n2 ∧ (((-33) ≤ v.toInt ∧ v.toInt ≤ 9999)) := by
  obtain ⟨ρ, rs, n1, n2, hv, c1, c2, ⟨g1, f1, cs, hcs, k⟩, ⟨g2, f2, -⟩, ag⟩ := vp_106 l hs [xf 13 104, xi x0, xi x1] h h2 ⟨rfl, a0, a1, trivial⟩ hg hg2 ha (fun q hq => absurd hq List.not_mem_nil) (fun q hq => absurd hq List.not_mem_nil) (fun ρ hρ g hg' => absurd hg' List.not_mem_nil)
  rcases List.mem_cons.mp hcs with rfl | hcs
  · obtain ⟨v, rfl, kv⟩ := sres_i k.2.2.1
    exact ⟨v, n1, n2, c1, c2, g1, g2, f1, f2, ag, kv⟩
  exact absurd hcs List.not_mem_nil
def vWG : SW := ([(104, 54, false), (133, 6, false), (133, 7, false), (133, 8, false), (133, 9, false), (133, 10, false), (133, 11, false), (134, 0, true), (136, 0, true), (137, 0, true), (138, 1, false), (139, 0, true)], [])
theorem sgS_set {hs h : XH} {c k : Nat} {v : Int32} (hg : sgood vT vR (vEs hs) 153 6051 h) (hv : (vI c k).1 ≤ v.toInt ∧ v.toInt ≤ (vI c k).2) (h1 : stou vRC (c, k, false) = false) (h2 : swin vECs c k = false) : sgood vT vR (vEs hs) 153 6051 (xsetI h c k v) :=
  ⟨sinv_setI hg.1 hv, srw_setI hg.2.1 h1, (vtabs hs).2.2.2 h _ (fun c' k' hck => yI_ne (eq_false (fun z => by rw [z.1, z.2, h2] at hck; cases hck))) hg.2.2.1, hg.2.2.2⟩
theorem sAg_set {P : XLP} {h h2 : XH} {c k : Nat} {v : Int32} (ha : sAg vD P h h2) : sAg vD P (xsetI h c k v) (xsetI h2 c k v) := by
  refine ⟨fun c' k' hck hl => ?_, ha.2.1, ha.2.2⟩
  by_cases e : c' = c ∧ k' = k
  · obtain ⟨rfl, rfl⟩ := e
    rw [yI_same, yI_same]
  · rw [yI_ne (eq_false e), yI_ne (eq_false e)]
    exact ha.1 c' k' hck hl
def vGo (hs hO hO2 h h2 : XH) : Prop := sgood vT vR (vEs hs) 153 6051 h ∧ sgood vT vR (vEs hs) 153 6051 h2 ∧ sframe vWG hO h ∧ sframe vWG hO2 h2 ∧ sAg vD (fun _ _ => True) h h2
theorem vGo.set {hs hO hO2 h h2 : XH} (H : vGo hs hO hO2 h h2) {c k : Nat} {v : Int32} (hv : (vI c k).1 ≤ v.toInt ∧ v.toInt ≤ (vI c k).2) (h1 : stou vRC (c, k, false) = false) (h2' : swin vECs c k = false) (hw : swin vWG.1 c k = true) : vGo hs hO hO2 (xsetI h c k v) (xsetI h2 c k v) :=
  ⟨sgS_set H.1 hv h1 h2', sgS_set H.2.1 hv h1 h2', H.2.2.1.tr (sframe_set hw), H.2.2.2.1.tr (sframe_set hw), sAg_set H.2.2.2.2⟩
theorem vECs139 (k : Nat) : swin vECs 139 k = false := by
  unfold swin
  refine List.any_eq_false.mpr fun q hq => ?_
  have z : vECs.all (fun q => !Nat.beq q.1 139) = true := by decide +kernel
  have := List.all_eq_true.mp z q hq
  intro y
  rw [Bool.and_eq_true] at y
  rw [y.1] at this
  cases this
set_option maxRecDepth 100000 in
set_option maxHeartbeats 2000000 in
theorem vp_goA (l : Launch) (hs hO hO2 : XH) : ∀ (m : Nat) (i : Int32) (x3 : XV) (h h2 : XH), vGo hs hO hO2 h h2 → 0 ≤ i.toInt → i.toInt + m = (xI hO 104 12).toInt → (∀ j : Nat, (j : Int) < i.toInt → xI h 139 j = xI h2 139 j) → ∃ i' g g2, XT l 9 242 false 244 153 6051 2 [xf 13 104, xi (Int32.ofInt (1)), xi i, x3] [] h 28 [xf 13 104, xi (Int32.ofInt (1)), xi i', x3] [] g ∧ XT l 9 242 false 244 153 6051 2 [xf 13 104, xi (Int32.ofInt (1)), xi i, x3] [] h2 28 [xf 13 104, xi (Int32.ofInt (1)), xi i', x3] [] g2 ∧ vGo hs hO hO2 g g2 ∧ (∀ j : Nat, (j : Int) < (xI hO 104 12).toInt → xI g 139 j = xI g2 139 j)
  | 0, i, x3, h, h2, H, a1, a2, hv => by
    have hg := H.1
    have hg2 := H.2.1
    have ha := H.2.2.2.2
    have e12 : xI h 104 12 = xI hO 104 12 := H.2.2.1.1 104 12 rfl
    have e122 : xI h2 104 12 = xI hO 104 12 := (ha.1 104 12 rfl (by decide)).symm.trans e12
    have b12 : 0 ≤ (xI h 104 12).toInt ∧ (xI h 104 12).toInt ≤ 6 := vbnd hg.1 104 12
    have d12 : (xI h2 104 12).toInt = (xI hO 104 12).toInt := by rw [e122]
    rw [← e12] at a2 d12
    have t1 : XT l 9 242 false 244 153 6051 2 [xf 13 104, xi (Int32.ofInt (1)), xi i, x3] [] h 28 [xf 13 104, xi (Int32.ofInt (1)), xi i, x3] [] h := XT_path (l := l) (fr := 9) (lo := 242) (full := false) (M := 244) (n := 153) (u := 6051) (pc := 2) (L := [xf 13 104, xi (Int32.ofInt (1)), xi i, x3]) (st := []) (h := h) (inl := []) (n' := 80) (sp := [28]) (o := [1]) rfl rfl ⟨rfl, rfl, rfl⟩ rfl ⟨Nat.le_of_eq hg.2.2.2.1, Nat.le_of_eq hg.2.2.2.2⟩ ⟨trivial, (Int32.le_iff_toInt_le.mpr (by omega))⟩
    have t1' : XT l 9 242 false 244 153 6051 2 [xf 13 104, xi (Int32.ofInt (1)), xi i, x3] [] h2 28 [xf 13 104, xi (Int32.ofInt (1)), xi i, x3] [] h2 := XT_path (l := l) (fr := 9) (lo := 242) (full := false) (M := 244) (n := 153) (u := 6051) (pc := 2) (L := [xf 13 104, xi (Int32.ofInt (1)), xi i, x3]) (st := []) (h := h2) (inl := []) (n' := 80) (sp := [28]) (o := [1]) rfl rfl ⟨rfl, rfl, rfl⟩ rfl ⟨Nat.le_of_eq hg2.2.2.2.1, Nat.le_of_eq hg2.2.2.2.2⟩ ⟨trivial, (Int32.le_iff_toInt_le.mpr (by omega))⟩
    exact ⟨i, h, h2, t1, t1', H, fun j hj => hv j (by rw [← e12] at hj; omega)⟩
  | m + 1, i, x3, h, h2, H, a1, a2, hv => by
    have hg := H.1
    have hg2 := H.2.1
    have ha := H.2.2.2.2
    have e12 : xI h 104 12 = xI hO 104 12 := H.2.2.1.1 104 12 rfl
    have e122 : xI h2 104 12 = xI hO 104 12 := (ha.1 104 12 rfl (by decide)).symm.trans e12
    have b12 : 0 ≤ (xI h 104 12).toInt ∧ (xI h 104 12).toInt ≤ 6 := vbnd hg.1 104 12
    have d12 : (xI h2 104 12).toInt = (xI hO 104 12).toInt := by rw [e122]
    rw [← e12] at a2 d12
    have t2 : XT l 9 242 false 244 153 6051 2 [xf 13 104, xi (Int32.ofInt (1)), xi i, x3] [] h 18 [xf 13 104, xi (Int32.ofInt (1)), xi i, x3] [xi i, xi (Int32.ofInt (1)), xf 13 104, xi i, xf 10006 (xR h 104 61)] h := XT_path (l := l) (fr := 9) (lo := 242) (full := false) (M := 244) (n := 153) (u := 6051) (pc := 2) (L := [xf 13 104, xi (Int32.ofInt (1)), xi i, x3]) (st := []) (h := h) (inl := []) (n' := 80) (sp := [18]) (o := [0]) rfl rfl ⟨rfl, rfl, rfl⟩ rfl ⟨Nat.le_of_eq hg.2.2.2.1, Nat.le_of_eq hg.2.2.2.2⟩ ⟨⟨trivial, (fun z => absurd (Int32.le_iff_toInt_le.mp z) (by omega))⟩, (vnn hg.1 (rfl : vRf 104 61 = [139]) (by decide))⟩
    rw [vref hg.1 (rfl : vRf 104 61 = [139])] at t2
    have t2' : XT l 9 242 false 244 153 6051 2 [xf 13 104, xi (Int32.ofInt (1)), xi i, x3] [] h2 18 [xf 13 104, xi (Int32.ofInt (1)), xi i, x3] [xi i, xi (Int32.ofInt (1)), xf 13 104, xi i, xf 10006 (xR h2 104 61)] h2 := XT_path (l := l) (fr := 9) (lo := 242) (full := false) (M := 244) (n := 153) (u := 6051) (pc := 2) (L := [xf 13 104, xi (Int32.ofInt (1)), xi i, x3]) (st := []) (h := h2) (inl := []) (n' := 80) (sp := [18]) (o := [0]) rfl rfl ⟨rfl, rfl, rfl⟩ rfl ⟨Nat.le_of_eq hg2.2.2.2.1, Nat.le_of_eq hg2.2.2.2.2⟩ ⟨⟨trivial, (fun z => absurd (Int32.le_iff_toInt_le.mp z) (by omega))⟩, (vnn hg2.1 (rfl : vRf 104 61 = [139]) (by decide))⟩
    rw [vref hg2.1 (rfl : vRf 104 61 = [139])] at t2'
    obtain ⟨v, k1, k2, c1, c2, gk, gk2, f1, f2, ak, -⟩ := vqp_104 l hs (Int32.ofInt (1)) i h h2 hg hg2 ha (by decide) (by omega)
    have t3 : XT l 9 242 false 244 153 6051 18 [xf 13 104, xi (Int32.ofInt (1)), xi i, x3] [xi i, xi (Int32.ofInt (1)), xf 13 104, xi i, xf 10006 139] h 21 [xf 13 104, xi (Int32.ofInt (1)), xi i, x3] [xi v, xi i, xf 10006 139] k1 := XT_call (l := l) (fr := 9) (lo := 242) (full := false) (M := 244) (n := 153) (u := 6051) (pc := 18) (L := [xf 13 104, xi (Int32.ofInt (1)), xi i, x3]) (st := [xi i, xi (Int32.ofInt (1)), xf 13 104, xi i, xf 10006 139]) (h := h) (i := .invokevirtual 232) (aux := 3) (nx := 21) (K := 232) (vs := [xf 13 104, xi (Int32.ofInt (1)), xi i]) (rs := [xi v]) (rest := [xi i, xf 10006 139]) rfl rfl rfl rfl rfl rfl c1 (by decide) (by decide) (Nat.le_of_ble_eq_true rfl) ⟨Nat.le_of_eq gk.2.2.2.1, Nat.le_of_eq gk.2.2.2.2⟩
    have t4 := t2.tr t3
    have t3' : XT l 9 242 false 244 153 6051 18 [xf 13 104, xi (Int32.ofInt (1)), xi i, x3] [xi i, xi (Int32.ofInt (1)), xf 13 104, xi i, xf 10006 139] h2 21 [xf 13 104, xi (Int32.ofInt (1)), xi i, x3] [xi v, xi i, xf 10006 139] k2 := XT_call (l := l) (fr := 9) (lo := 242) (full := false) (M := 244) (n := 153) (u := 6051) (pc := 18) (L := [xf 13 104, xi (Int32.ofInt (1)), xi i, x3]) (st := [xi i, xi (Int32.ofInt (1)), xf 13 104, xi i, xf 10006 139]) (h := h2) (i := .invokevirtual 232) (aux := 3) (nx := 21) (K := 232) (vs := [xf 13 104, xi (Int32.ofInt (1)), xi i]) (rs := [xi v]) (rest := [xi i, xf 10006 139]) rfl rfl rfl rfl rfl rfl c2 (by decide) (by decide) (Nat.le_of_ble_eq_true rfl) ⟨Nat.le_of_eq gk2.2.2.2.1, Nat.le_of_eq gk2.2.2.2.2⟩
    have t4' := t2'.tr t3'
    have t5 : XT l 9 242 false 244 153 6051 21 [xf 13 104, xi (Int32.ofInt (1)), xi i, x3] [xi v, xi i, xf 10006 139] k1 2 [xf 13 104, xi (Int32.ofInt (1)), xi (i + Int32.ofInt (1)), x3] [] (xsetI k1 139 (i).toNatClampNeg v) := XT_path (l := l) (fr := 9) (lo := 242) (full := false) (M := 244) (n := 153) (u := 6051) (pc := 21) (L := [xf 13 104, xi (Int32.ofInt (1)), xi i, x3]) (st := [xi v, xi i, xf 10006 139]) (h := k1) (inl := []) (n' := 80) (sp := [2]) (o := []) rfl rfl ⟨rfl, rfl, rfl⟩ rfl ⟨Nat.le_of_eq gk.2.2.2.1, Nat.le_of_eq gk.2.2.2.2⟩ ⟨trivial, (vp_of (i := i) (n := 6) (by omega) (by omega))⟩
    have t6 := t4.tr t5
    have t5' : XT l 9 242 false 244 153 6051 21 [xf 13 104, xi (Int32.ofInt (1)), xi i, x3] [xi v, xi i, xf 10006 139] k2 2 [xf 13 104, xi (Int32.ofInt (1)), xi (i + Int32.ofInt (1)), x3] [] (xsetI k2 139 (i).toNatClampNeg v) := XT_path (l := l) (fr := 9) (lo := 242) (full := false) (M := 244) (n := 153) (u := 6051) (pc := 21) (L := [xf 13 104, xi (Int32.ofInt (1)), xi i, x3]) (st := [xi v, xi i, xf 10006 139]) (h := k2) (inl := []) (n' := 80) (sp := [2]) (o := []) rfl rfl ⟨rfl, rfl, rfl⟩ rfl ⟨Nat.le_of_eq gk2.2.2.2.1, Nat.le_of_eq gk2.2.2.2.2⟩ ⟨trivial, (vp_of (i := i) (n := 6) (by omega) (by omega))⟩
    have t6' := t4'.tr t5'
    have HK : vGo hs hO hO2 k1 k2 := ⟨gk, gk2, H.2.2.1.tr (f1.mono rfl rfl), H.2.2.2.1.tr (f2.mono rfl rfl), ak⟩
    have HS : vGo hs hO hO2 (xsetI k1 139 (i).toNatClampNeg v) (xsetI k2 139 (i).toNatClampNeg v) := HK.set (by rw [vI_u rfl (rfl : vRow 139 = sfull)]; exact vb_all (by decide)) (stou_no (by decide +kernel)) (vECs139 _) rfl
    have ei := y_suc1 a1 (by omega)
    have ni : i.toNatClampNeg = i.toInt.toNat := rfl
    have hv' : ∀ j : Nat, (j : Int) < (i + Int32.ofInt (1)).toInt → xI (xsetI k1 139 (i).toNatClampNeg v) 139 j = xI (xsetI k2 139 (i).toNatClampNeg v) 139 j := fun j hj => by
      by_cases e : j = i.toNatClampNeg
      · rw [e, yI_same, yI_same]
      · rw [yI_ne (eq_false (fun z => e z.2)), yI_ne (eq_false (fun z => e z.2)), f1.1 139 j rfl, f2.1 139 j rfl]
        exact hv j (by omega)
    obtain ⟨i', g, g2, y1, y2, y3, y4⟩ := vp_goA l hs hO hO2 m (i + Int32.ofInt (1)) x3 _ _ HS (by omega) (by rw [← e12]; omega) hv'
    exact ⟨i', g, g2, t6.tr y1, t6'.tr y2, y3, y4⟩
set_option maxRecDepth 100000 in
set_option maxHeartbeats 2000000 in
theorem v133b : ∀ k, k < 12 → 6 ≤ k → vI 133 k = (-1, 10) ∧ stou vRC (133, k, false) = false ∧ swin vECs 133 k = false ∧ swin vWG.1 133 k = true := by decide +kernel
set_option maxRecDepth 100000 in
set_option maxHeartbeats 2000000 in
theorem vp_goB (l : Launch) (hs hO hO2 : XH) : ∀ (m : Nat) (i : Int32) (x3 : XV) (h h2 : XH), vGo hs hO hO2 h h2 → 0 ≤ i.toInt → i.toInt + m = (xI hO 104 12).toInt → (∀ j : Nat, (j : Int) < (xI hO 104 12).toInt → xI h 139 j = xI h2 139 j) → ∃ i' x3' g g2, XT l 9 242 false 244 153 6051 30 [xf 13 104, xi (Int32.ofInt (1)), xi i, x3] [] h 75 [xf 13 104, xi (Int32.ofInt (1)), xi i', x3'] [] g ∧ XT l 9 242 false 244 153 6051 30 [xf 13 104, xi (Int32.ofInt (1)), xi i, x3] [] h2 75 [xf 13 104, xi (Int32.ofInt (1)), xi i', x3'] [] g2 ∧ vGo hs hO hO2 g g2
  | 0, i, x3, h, h2, H, a1, a2, hv => by
    have hg := H.1
    have hg2 := H.2.1
    have ha := H.2.2.2.2
    have e12 : xI h 104 12 = xI hO 104 12 := H.2.2.1.1 104 12 rfl
    have e122 : xI h2 104 12 = xI hO 104 12 := (ha.1 104 12 rfl (by decide)).symm.trans e12
    have b12 : 0 ≤ (xI h 104 12).toInt ∧ (xI h 104 12).toInt ≤ 6 := vbnd hg.1 104 12
    have d12 : (xI h2 104 12).toInt = (xI hO 104 12).toInt := by rw [e122]
    rw [← e12] at a2 d12
    have t7 : XT l 9 242 false 244 153 6051 30 [xf 13 104, xi (Int32.ofInt (1)), xi i, x3] [] h 75 [xf 13 104, xi (Int32.ofInt (1)), xi i, x3] [] h := XT_path (l := l) (fr := 9) (lo := 242) (full := false) (M := 244) (n := 153) (u := 6051) (pc := 30) (L := [xf 13 104, xi (Int32.ofInt (1)), xi i, x3]) (st := []) (h := h) (inl := []) (n' := 80) (sp := [75]) (o := [1]) rfl rfl ⟨rfl, rfl, rfl⟩ rfl ⟨Nat.le_of_eq hg.2.2.2.1, Nat.le_of_eq hg.2.2.2.2⟩ ⟨trivial, (Int32.le_iff_toInt_le.mpr (by omega))⟩
    have t7' : XT l 9 242 false 244 153 6051 30 [xf 13 104, xi (Int32.ofInt (1)), xi i, x3] [] h2 75 [xf 13 104, xi (Int32.ofInt (1)), xi i, x3] [] h2 := XT_path (l := l) (fr := 9) (lo := 242) (full := false) (M := 244) (n := 153) (u := 6051) (pc := 30) (L := [xf 13 104, xi (Int32.ofInt (1)), xi i, x3]) (st := []) (h := h2) (inl := []) (n' := 80) (sp := [75]) (o := [1]) rfl rfl ⟨rfl, rfl, rfl⟩ rfl ⟨Nat.le_of_eq hg2.2.2.2.1, Nat.le_of_eq hg2.2.2.2.2⟩ ⟨trivial, (Int32.le_iff_toInt_le.mpr (by omega))⟩
    exact ⟨i, x3, h, h2, t7, t7', H⟩
  | m + 1, i, x3, h, h2, H, a1, a2, hv => by
    have hg := H.1
    have hg2 := H.2.1
    have ha := H.2.2.2.2
    have e12 : xI h 104 12 = xI hO 104 12 := H.2.2.1.1 104 12 rfl
    have e122 : xI h2 104 12 = xI hO 104 12 := (ha.1 104 12 rfl (by decide)).symm.trans e12
    have b12 : 0 ≤ (xI h 104 12).toInt ∧ (xI h 104 12).toInt ≤ 6 := vbnd hg.1 104 12
    have d12 : (xI h2 104 12).toInt = (xI hO 104 12).toInt := by rw [e122]
    rw [← e12] at a2 d12
    have e6 : ((Int32.ofInt (6)) * (Int32.ofInt (1))).toInt = 6 := rfl
    have ex : (((Int32.ofInt (6)) * (Int32.ofInt (1))) + i).toInt = 6 + i.toInt := by
      rw [Int32.toInt_add, e6]
      exact Int.bmod_eq_of_le (by omega) (by omega)
    have nx : (((Int32.ofInt (6)) * (Int32.ofInt (1))) + i).toNatClampNeg = (((Int32.ofInt (6)) * (Int32.ofInt (1))) + i).toInt.toNat := rfl
    have ni : i.toNatClampNeg = i.toInt.toNat := rfl
    have u1 : xI h2 133 (((Int32.ofInt (6)) * (Int32.ofInt (1))) + i).toNatClampNeg = xI h 133 (((Int32.ofInt (6)) * (Int32.ofInt (1))) + i).toNatClampNeg := (ha.1 _ _ rfl (by show (((Int32.ofInt (6)) * (Int32.ofInt (1))) + i).toInt.toNat < 12; omega)).symm
    have u2 : xI h2 139 i.toNatClampNeg = xI h 139 i.toNatClampNeg := (hv i.toNatClampNeg (by rw [← e12]; omega)).symm
    obtain ⟨w1, w2, w3, w4⟩ := v133b (((Int32.ofInt (6)) * (Int32.ofInt (1))) + i).toNatClampNeg (by omega) (by omega)
    have bs := vbnd hg.1 133 (((Int32.ofInt (6)) * (Int32.ofInt (1))) + i).toNatClampNeg
    rw [w1] at bs
    have bs : -1 ≤ (xI h 133 (((Int32.ofInt (6)) * (Int32.ofInt (1))) + i).toNatClampNeg).toInt ∧ (xI h 133 (((Int32.ofInt (6)) * (Int32.ofInt (1))) + i).toNatClampNeg).toInt ≤ 10 := bs
    have t8 : XT l 9 242 false 244 153 6051 30 [xf 13 104, xi (Int32.ofInt (1)), xi i, x3] [] h 65 [xf 13 104, xi (Int32.ofInt (1)), xi i, x3] [xi (xI h (xR h 104 61) (i).toNatClampNeg), xi (xI h (xR h 104 55) ((((Int32.ofInt (6)) * (Int32.ofInt (1))) + i)).toNatClampNeg), xi (((Int32.ofInt (6)) * (Int32.ofInt (1))) + i), xf 10012 (xR h 104 55)] h := XT_path (l := l) (fr := 9) (lo := 242) (full := false) (M := 244) (n := 153) (u := 6051) (pc := 30) (L := [xf 13 104, xi (Int32.ofInt (1)), xi i, x3]) (st := []) (h := h) (inl := []) (n' := 80) (sp := [65]) (o := [0]) rfl rfl ⟨rfl, rfl, rfl⟩ rfl ⟨Nat.le_of_eq hg.2.2.2.1, Nat.le_of_eq hg.2.2.2.2⟩ ⟨⟨⟨⟨⟨⟨trivial, (fun z => absurd (Int32.le_iff_toInt_le.mp z) (by omega))⟩, (vnn hg.1 (rfl : vRf 104 55 = [133]) (by decide))⟩, (vnn hg.1 (rfl : vRf 104 55 = [133]) (by decide))⟩, (vp_of (i := (((Int32.ofInt (6)) * (Int32.ofInt (1))) + i)) (n := 12) (by omega) (by omega))⟩, (vnn hg.1 (rfl : vRf 104 61 = [139]) (by decide))⟩, (vp_of (i := i) (n := 6) (by omega) (by omega))⟩
    rw [vref hg.1 (rfl : vRf 104 61 = [139]), vref hg.1 (rfl : vRf 104 55 = [133])] at t8
    have t8' : XT l 9 242 false 244 153 6051 30 [xf 13 104, xi (Int32.ofInt (1)), xi i, x3] [] h2 65 [xf 13 104, xi (Int32.ofInt (1)), xi i, x3] [xi (xI h2 (xR h2 104 61) (i).toNatClampNeg), xi (xI h2 (xR h2 104 55) ((((Int32.ofInt (6)) * (Int32.ofInt (1))) + i)).toNatClampNeg), xi (((Int32.ofInt (6)) * (Int32.ofInt (1))) + i), xf 10012 (xR h2 104 55)] h2 := XT_path (l := l) (fr := 9) (lo := 242) (full := false) (M := 244) (n := 153) (u := 6051) (pc := 30) (L := [xf 13 104, xi (Int32.ofInt (1)), xi i, x3]) (st := []) (h := h2) (inl := []) (n' := 80) (sp := [65]) (o := [0]) rfl rfl ⟨rfl, rfl, rfl⟩ rfl ⟨Nat.le_of_eq hg2.2.2.2.1, Nat.le_of_eq hg2.2.2.2.2⟩ ⟨⟨⟨⟨⟨⟨trivial, (fun z => absurd (Int32.le_iff_toInt_le.mp z) (by omega))⟩, (vnn hg2.1 (rfl : vRf 104 55 = [133]) (by decide))⟩, (vnn hg2.1 (rfl : vRf 104 55 = [133]) (by decide))⟩, (vp_of (i := (((Int32.ofInt (6)) * (Int32.ofInt (1))) + i)) (n := 12) (by omega) (by omega))⟩, (vnn hg2.1 (rfl : vRf 104 61 = [139]) (by decide))⟩, (vp_of (i := i) (n := 6) (by omega) (by omega))⟩
    rw [vref hg2.1 (rfl : vRf 104 61 = [139]), vref hg2.1 (rfl : vRf 104 55 = [133])] at t8'
    rw [u1, u2] at t8'
    obtain ⟨v, k1, k2, c1, c2, gk, gk2, f1, f2, ak, bv⟩ := vqp_182 l hs (xI h 133 ((((Int32.ofInt (6)) * (Int32.ofInt (1))) + i)).toNatClampNeg) (xI h 139 (i).toNatClampNeg) h h2 hg hg2 (fun _ _ => True) ha bs (vb_all (by decide))
    have t9 : XT l 9 242 false 244 153 6051 65 [xf 13 104, xi (Int32.ofInt (1)), xi i, x3] [xi (xI h 139 (i).toNatClampNeg), xi (xI h 133 ((((Int32.ofInt (6)) * (Int32.ofInt (1))) + i)).toNatClampNeg), xi (((Int32.ofInt (6)) * (Int32.ofInt (1))) + i), xf 10012 133] h 68 [xf 13 104, xi (Int32.ofInt (1)), xi i, x3] [xi v, xi (((Int32.ofInt (6)) * (Int32.ofInt (1))) + i), xf 10012 133] k1 := XT_call (l := l) (fr := 9) (lo := 242) (full := false) (M := 244) (n := 153) (u := 6051) (pc := 65) (L := [xf 13 104, xi (Int32.ofInt (1)), xi i, x3]) (st := [xi (xI h 139 (i).toNatClampNeg), xi (xI h 133 ((((Int32.ofInt (6)) * (Int32.ofInt (1))) + i)).toNatClampNeg), xi (((Int32.ofInt (6)) * (Int32.ofInt (1))) + i), xf 10012 133]) (h := h) (i := .invokestatic 245) (aux := 2) (nx := 68) (K := 245) (vs := [xi (xI h 133 ((((Int32.ofInt (6)) * (Int32.ofInt (1))) + i)).toNatClampNeg), xi (xI h 139 (i).toNatClampNeg)]) (rs := [xi v]) (rest := [xi (((Int32.ofInt (6)) * (Int32.ofInt (1))) + i), xf 10012 133]) rfl rfl rfl rfl rfl rfl c1 (by decide) (by decide) (Nat.le_of_ble_eq_true rfl) ⟨Nat.le_of_eq gk.2.2.2.1, Nat.le_of_eq gk.2.2.2.2⟩
    have t10 := t8.tr t9
    have t9' : XT l 9 242 false 244 153 6051 65 [xf 13 104, xi (Int32.ofInt (1)), xi i, x3] [xi (xI h 139 (i).toNatClampNeg), xi (xI h 133 ((((Int32.ofInt (6)) * (Int32.ofInt (1))) + i)).toNatClampNeg), xi (((Int32.ofInt (6)) * (Int32.ofInt (1))) + i), xf 10012 133] h2 68 [xf 13 104, xi (Int32.ofInt (1)), xi i, x3] [xi v, xi (((Int32.ofInt (6)) * (Int32.ofInt (1))) + i), xf 10012 133] k2 := XT_call (l := l) (fr := 9) (lo := 242) (full := false) (M := 244) (n := 153) (u := 6051) (pc := 65) (L := [xf 13 104, xi (Int32.ofInt (1)), xi i, x3]) (st := [xi (xI h 139 (i).toNatClampNeg), xi (xI h 133 ((((Int32.ofInt (6)) * (Int32.ofInt (1))) + i)).toNatClampNeg), xi (((Int32.ofInt (6)) * (Int32.ofInt (1))) + i), xf 10012 133]) (h := h2) (i := .invokestatic 245) (aux := 2) (nx := 68) (K := 245) (vs := [xi (xI h 133 ((((Int32.ofInt (6)) * (Int32.ofInt (1))) + i)).toNatClampNeg), xi (xI h 139 (i).toNatClampNeg)]) (rs := [xi v]) (rest := [xi (((Int32.ofInt (6)) * (Int32.ofInt (1))) + i), xf 10012 133]) rfl rfl rfl rfl rfl rfl c2 (by decide) (by decide) (Nat.le_of_ble_eq_true rfl) ⟨Nat.le_of_eq gk2.2.2.2.1, Nat.le_of_eq gk2.2.2.2.2⟩
    have t10' := t8'.tr t9'
    have t11 : XT l 9 242 false 244 153 6051 68 [xf 13 104, xi (Int32.ofInt (1)), xi i, x3] [xi v, xi (((Int32.ofInt (6)) * (Int32.ofInt (1))) + i), xf 10012 133] k1 30 [xf 13 104, xi (Int32.ofInt (1)), xi (i + Int32.ofInt (1)), x3] [] (xsetI k1 133 ((((Int32.ofInt (6)) * (Int32.ofInt (1))) + i)).toNatClampNeg v) := XT_path (l := l) (fr := 9) (lo := 242) (full := false) (M := 244) (n := 153) (u := 6051) (pc := 68) (L := [xf 13 104, xi (Int32.ofInt (1)), xi i, x3]) (st := [xi v, xi (((Int32.ofInt (6)) * (Int32.ofInt (1))) + i), xf 10012 133]) (h := k1) (inl := []) (n' := 80) (sp := [30]) (o := []) rfl rfl ⟨rfl, rfl, rfl⟩ rfl ⟨Nat.le_of_eq gk.2.2.2.1, Nat.le_of_eq gk.2.2.2.2⟩ ⟨trivial, (vp_of (i := (((Int32.ofInt (6)) * (Int32.ofInt (1))) + i)) (n := 12) (by omega) (by omega))⟩
    have t12 := t10.tr t11
    have t11' : XT l 9 242 false 244 153 6051 68 [xf 13 104, xi (Int32.ofInt (1)), xi i, x3] [xi v, xi (((Int32.ofInt (6)) * (Int32.ofInt (1))) + i), xf 10012 133] k2 30 [xf 13 104, xi (Int32.ofInt (1)), xi (i + Int32.ofInt (1)), x3] [] (xsetI k2 133 ((((Int32.ofInt (6)) * (Int32.ofInt (1))) + i)).toNatClampNeg v) := XT_path (l := l) (fr := 9) (lo := 242) (full := false) (M := 244) (n := 153) (u := 6051) (pc := 68) (L := [xf 13 104, xi (Int32.ofInt (1)), xi i, x3]) (st := [xi v, xi (((Int32.ofInt (6)) * (Int32.ofInt (1))) + i), xf 10012 133]) (h := k2) (inl := []) (n' := 80) (sp := [30]) (o := []) rfl rfl ⟨rfl, rfl, rfl⟩ rfl ⟨Nat.le_of_eq gk2.2.2.2.1, Nat.le_of_eq gk2.2.2.2.2⟩ ⟨trivial, (vp_of (i := (((Int32.ofInt (6)) * (Int32.ofInt (1))) + i)) (n := 12) (by omega) (by omega))⟩
    have t12' := t10'.tr t11'
    have HK : vGo hs hO hO2 k1 k2 := ⟨gk, gk2, H.2.2.1.tr (f1.mono rfl rfl), H.2.2.2.1.tr (f2.mono rfl rfl), ak⟩
    have HS : vGo hs hO hO2 (xsetI k1 133 ((((Int32.ofInt (6)) * (Int32.ofInt (1))) + i)).toNatClampNeg v) (xsetI k2 133 ((((Int32.ofInt (6)) * (Int32.ofInt (1))) + i)).toNatClampNeg v) := HK.set (by rw [w1]; show (-1 : Int) ≤ v.toInt ∧ v.toInt ≤ 10; omega) w2 w3 w4
    have ei := y_suc1 a1 (by omega)
    have hv' : ∀ j : Nat, (j : Int) < (xI hO 104 12).toInt → xI (xsetI k1 133 ((((Int32.ofInt (6)) * (Int32.ofInt (1))) + i)).toNatClampNeg v) 139 j = xI (xsetI k2 133 ((((Int32.ofInt (6)) * (Int32.ofInt (1))) + i)).toNatClampNeg v) 139 j := fun j hj => by
      rw [yI_c (by decide), yI_c (by decide), f1.1 139 j rfl, f2.1 139 j rfl]
      exact hv j hj
    obtain ⟨i', x3', g, g2, y1, y2, y3⟩ := vp_goB l hs hO hO2 m (i + Int32.ofInt (1)) x3 _ _ HS (by omega) (by rw [← e12]; omega) hv'
    exact ⟨i', x3', g, g2, t12.tr y1, t12'.tr y2, y3⟩
theorem v134b : ∀ k, k < 12 → 6 ≤ k → swin vECs 134 k = false := by decide +kernel
set_option maxRecDepth 100000 in
set_option maxHeartbeats 2000000 in
theorem vp_goC (l : Launch) (hs hO hO2 : XH) : ∀ (m : Nat) (i : Int32) (x3 : XV) (h h2 : XH), vGo hs hO hO2 h h2 → 0 ≤ i.toInt → i.toInt + m = (xI hO 104 12).toInt → ∃ i' x3' g g2, XT l 9 242 false 244 153 6051 77 [xf 13 104, xi (Int32.ofInt (1)), xi i, x3] [] h 113 [xf 13 104, xi (Int32.ofInt (1)), xi i', x3'] [] g ∧ XT l 9 242 false 244 153 6051 77 [xf 13 104, xi (Int32.ofInt (1)), xi i, x3] [] h2 113 [xf 13 104, xi (Int32.ofInt (1)), xi i', x3'] [] g2 ∧ vGo hs hO hO2 g g2
  | 0, i, x3, h, h2, H, a1, a2 => by
    have hg := H.1
    have hg2 := H.2.1
    have ha := H.2.2.2.2
    have e12 : xI h 104 12 = xI hO 104 12 := H.2.2.1.1 104 12 rfl
    have e122 : xI h2 104 12 = xI hO 104 12 := (ha.1 104 12 rfl (by decide)).symm.trans e12
    have b12 : 0 ≤ (xI h 104 12).toInt ∧ (xI h 104 12).toInt ≤ 6 := vbnd hg.1 104 12
    have d12 : (xI h2 104 12).toInt = (xI hO 104 12).toInt := by rw [e122]
    rw [← e12] at a2 d12
    have t13 : XT l 9 242 false 244 153 6051 77 [xf 13 104, xi (Int32.ofInt (1)), xi i, x3] [] h 113 [xf 13 104, xi (Int32.ofInt (1)), xi i, x3] [] h := XT_path (l := l) (fr := 9) (lo := 242) (full := false) (M := 244) (n := 153) (u := 6051) (pc := 77) (L := [xf 13 104, xi (Int32.ofInt (1)), xi i, x3]) (st := []) (h := h) (inl := []) (n' := 80) (sp := [113]) (o := [1]) rfl rfl ⟨rfl, rfl, rfl⟩ rfl ⟨Nat.le_of_eq hg.2.2.2.1, Nat.le_of_eq hg.2.2.2.2⟩ ⟨trivial, (Int32.le_iff_toInt_le.mpr (by omega))⟩
    have t13' : XT l 9 242 false 244 153 6051 77 [xf 13 104, xi (Int32.ofInt (1)), xi i, x3] [] h2 113 [xf 13 104, xi (Int32.ofInt (1)), xi i, x3] [] h2 := XT_path (l := l) (fr := 9) (lo := 242) (full := false) (M := 244) (n := 153) (u := 6051) (pc := 77) (L := [xf 13 104, xi (Int32.ofInt (1)), xi i, x3]) (st := []) (h := h2) (inl := []) (n' := 80) (sp := [113]) (o := [1]) rfl rfl ⟨rfl, rfl, rfl⟩ rfl ⟨Nat.le_of_eq hg2.2.2.2.1, Nat.le_of_eq hg2.2.2.2.2⟩ ⟨trivial, (Int32.le_iff_toInt_le.mpr (by omega))⟩
    exact ⟨i, x3, h, h2, t13, t13', H⟩
  | m + 1, i, x3, h, h2, H, a1, a2 => by
    have hg := H.1
    have hg2 := H.2.1
    have ha := H.2.2.2.2
    have e12 : xI h 104 12 = xI hO 104 12 := H.2.2.1.1 104 12 rfl
    have e122 : xI h2 104 12 = xI hO 104 12 := (ha.1 104 12 rfl (by decide)).symm.trans e12
    have b12 : 0 ≤ (xI h 104 12).toInt ∧ (xI h 104 12).toInt ≤ 6 := vbnd hg.1 104 12
    have d12 : (xI h2 104 12).toInt = (xI hO 104 12).toInt := by rw [e122]
    rw [← e12] at a2 d12
    have e6 : ((Int32.ofInt (6)) * (Int32.ofInt (1))).toInt = 6 := rfl
    have ex : (((Int32.ofInt (6)) * (Int32.ofInt (1))) + i).toInt = 6 + i.toInt := by
      rw [Int32.toInt_add, e6]
      exact Int.bmod_eq_of_le (by omega) (by omega)
    have nx : (((Int32.ofInt (6)) * (Int32.ofInt (1))) + i).toNatClampNeg = (((Int32.ofInt (6)) * (Int32.ofInt (1))) + i).toInt.toNat := rfl
    have t14 : XT l 9 242 false 244 153 6051 77 [xf 13 104, xi (Int32.ofInt (1)), xi i, x3] [] h 88 [xf 13 104, xi (Int32.ofInt (1)), xi i, x3] [xi i, xi (Int32.ofInt (1)), xf 13 104] h := XT_path (l := l) (fr := 9) (lo := 242) (full := false) (M := 244) (n := 153) (u := 6051) (pc := 77) (L := [xf 13 104, xi (Int32.ofInt (1)), xi i, x3]) (st := []) (h := h) (inl := []) (n' := 80) (sp := [88]) (o := [0]) rfl rfl ⟨rfl, rfl, rfl⟩ rfl ⟨Nat.le_of_eq hg.2.2.2.1, Nat.le_of_eq hg.2.2.2.2⟩ ⟨trivial, (fun z => absurd (Int32.le_iff_toInt_le.mp z) (by omega))⟩
    have t14' : XT l 9 242 false 244 153 6051 77 [xf 13 104, xi (Int32.ofInt (1)), xi i, x3] [] h2 88 [xf 13 104, xi (Int32.ofInt (1)), xi i, x3] [xi i, xi (Int32.ofInt (1)), xf 13 104] h2 := XT_path (l := l) (fr := 9) (lo := 242) (full := false) (M := 244) (n := 153) (u := 6051) (pc := 77) (L := [xf 13 104, xi (Int32.ofInt (1)), xi i, x3]) (st := []) (h := h2) (inl := []) (n' := 80) (sp := [88]) (o := [0]) rfl rfl ⟨rfl, rfl, rfl⟩ rfl ⟨Nat.le_of_eq hg2.2.2.2.1, Nat.le_of_eq hg2.2.2.2.2⟩ ⟨trivial, (fun z => absurd (Int32.le_iff_toInt_le.mp z) (by omega))⟩
    obtain ⟨v, k1, k2, c1, c2, gk, gk2, f1, f2, ak, -⟩ := vqp_106 l hs (Int32.ofInt (1)) i h h2 hg hg2 ha (by decide) (by omega)
    have t15 : XT l 9 242 false 244 153 6051 88 [xf 13 104, xi (Int32.ofInt (1)), xi i, x3] [xi i, xi (Int32.ofInt (1)), xf 13 104] h 91 [xf 13 104, xi (Int32.ofInt (1)), xi i, x3] [xi v] k1 := XT_call (l := l) (fr := 9) (lo := 242) (full := false) (M := 244) (n := 153) (u := 6051) (pc := 88) (L := [xf 13 104, xi (Int32.ofInt (1)), xi i, x3]) (st := [xi i, xi (Int32.ofInt (1)), xf 13 104]) (h := h) (i := .invokevirtual 234) (aux := 3) (nx := 91) (K := 234) (vs := [xf 13 104, xi (Int32.ofInt (1)), xi i]) (rs := [xi v]) (rest := []) rfl rfl rfl rfl rfl rfl c1 (by decide) (by decide) (Nat.le_of_ble_eq_true rfl) ⟨Nat.le_of_eq gk.2.2.2.1, Nat.le_of_eq gk.2.2.2.2⟩
    have t16 := t14.tr t15
    have t15' : XT l 9 242 false 244 153 6051 88 [xf 13 104, xi (Int32.ofInt (1)), xi i, x3] [xi i, xi (Int32.ofInt (1)), xf 13 104] h2 91 [xf 13 104, xi (Int32.ofInt (1)), xi i, x3] [xi v] k2 := XT_call (l := l) (fr := 9) (lo := 242) (full := false) (M := 244) (n := 153) (u := 6051) (pc := 88) (L := [xf 13 104, xi (Int32.ofInt (1)), xi i, x3]) (st := [xi i, xi (Int32.ofInt (1)), xf 13 104]) (h := h2) (i := .invokevirtual 234) (aux := 3) (nx := 91) (K := 234) (vs := [xf 13 104, xi (Int32.ofInt (1)), xi i]) (rs := [xi v]) (rest := []) rfl rfl rfl rfl rfl rfl c2 (by decide) (by decide) (Nat.le_of_ble_eq_true rfl) ⟨Nat.le_of_eq gk2.2.2.2.1, Nat.le_of_eq gk2.2.2.2.2⟩
    have t16' := t14'.tr t15'
    have t17 : XT l 9 242 false 244 153 6051 91 [xf 13 104, xi (Int32.ofInt (1)), xi i, x3] [xi v] k1 77 [xf 13 104, xi (Int32.ofInt (1)), xi (i + Int32.ofInt (1)), xi v] [] (xsetI k1 (xR k1 104 56) ((((Int32.ofInt (6)) * (Int32.ofInt (1))) + i)).toNatClampNeg ((xI k1 (xR k1 104 56) ((((Int32.ofInt (6)) * (Int32.ofInt (1))) + i)).toNatClampNeg) + v)) := XT_path (l := l) (fr := 9) (lo := 242) (full := false) (M := 244) (n := 153) (u := 6051) (pc := 91) (L := [xf 13 104, xi (Int32.ofInt (1)), xi i, x3]) (st := [xi v]) (h := k1) (inl := []) (n' := 80) (sp := [77]) (o := []) rfl rfl ⟨rfl, rfl, rfl⟩ rfl ⟨Nat.le_of_eq gk.2.2.2.1, Nat.le_of_eq gk.2.2.2.2⟩ ⟨⟨⟨trivial, (vnn gk.1 (rfl : vRf 104 56 = [134]) (by decide))⟩, (vp_of (i := (((Int32.ofInt (6)) * (Int32.ofInt (1))) + i)) (n := 12) (by omega) (by omega))⟩, (vp_of (i := (((Int32.ofInt (6)) * (Int32.ofInt (1))) + i)) (n := 12) (by omega) (by omega))⟩
    rw [vref gk.1 (rfl : vRf 104 56 = [134])] at t17
    have t18 := t16.tr t17
    have t17' : XT l 9 242 false 244 153 6051 91 [xf 13 104, xi (Int32.ofInt (1)), xi i, x3] [xi v] k2 77 [xf 13 104, xi (Int32.ofInt (1)), xi (i + Int32.ofInt (1)), xi v] [] (xsetI k2 (xR k2 104 56) ((((Int32.ofInt (6)) * (Int32.ofInt (1))) + i)).toNatClampNeg ((xI k2 (xR k2 104 56) ((((Int32.ofInt (6)) * (Int32.ofInt (1))) + i)).toNatClampNeg) + v)) := XT_path (l := l) (fr := 9) (lo := 242) (full := false) (M := 244) (n := 153) (u := 6051) (pc := 91) (L := [xf 13 104, xi (Int32.ofInt (1)), xi i, x3]) (st := [xi v]) (h := k2) (inl := []) (n' := 80) (sp := [77]) (o := []) rfl rfl ⟨rfl, rfl, rfl⟩ rfl ⟨Nat.le_of_eq gk2.2.2.2.1, Nat.le_of_eq gk2.2.2.2.2⟩ ⟨⟨⟨trivial, (vnn gk2.1 (rfl : vRf 104 56 = [134]) (by decide))⟩, (vp_of (i := (((Int32.ofInt (6)) * (Int32.ofInt (1))) + i)) (n := 12) (by omega) (by omega))⟩, (vp_of (i := (((Int32.ofInt (6)) * (Int32.ofInt (1))) + i)) (n := 12) (by omega) (by omega))⟩
    rw [vref gk2.1 (rfl : vRf 104 56 = [134])] at t17'
    have t18' := t16'.tr t17'
    have HK : vGo hs hO hO2 k1 k2 := ⟨gk, gk2, H.2.2.1.tr (f1.mono rfl rfl), H.2.2.2.1.tr (f2.mono rfl rfl), ak⟩
    have u3 : xI k2 134 (((Int32.ofInt (6)) * (Int32.ofInt (1))) + i).toNatClampNeg = xI k1 134 (((Int32.ofInt (6)) * (Int32.ofInt (1))) + i).toNatClampNeg := (ak.1 _ _ rfl (by show (((Int32.ofInt (6)) * (Int32.ofInt (1))) + i).toInt.toNat < 12; omega)).symm
    rw [u3] at t18'
    have HS := HK.set (c := 134) (k := (((Int32.ofInt (6)) * (Int32.ofInt (1))) + i).toNatClampNeg) (v := (xI k1 134 (((Int32.ofInt (6)) * (Int32.ofInt (1))) + i).toNatClampNeg) + v) (by rw [vI_u rfl (rfl : vRow 134 = sfull)]; exact vb_all (by decide)) (stou_no (by decide +kernel)) (v134b _ (by omega) (by omega)) rfl
    have ei := y_suc1 a1 (by omega)
    obtain ⟨i', x3', g, g2, y1, y2, y3⟩ := vp_goC l hs hO hO2 m (i + Int32.ofInt (1)) (xi v) _ _ HS (by omega) (by rw [← e12]; omega)
    exact ⟨i', x3', g, g2, t18.tr y1, t18'.tr y2, y3⟩
theorem v137b : ∀ k, k < 16 → 8 ≤ k → swin vECs 137 k = false ∧ swin vECs 136 k = false := by decide +kernel
set_option maxRecDepth 100000 in
set_option maxHeartbeats 2000000 in
theorem vp_goD (l : Launch) (hs hO hO2 : XH) : ∀ (m : Nat) (i : Int32) (x3 : XV) (h h2 : XH), vGo hs hO hO2 h h2 → 0 ≤ i.toInt → i.toInt + m = (xI hO 104 14).toInt → ∃ i' x3' g g2, XT l 9 242 false 244 153 6051 115 [xf 13 104, xi (Int32.ofInt (1)), xi i, x3] [] h 191 [xf 13 104, xi (Int32.ofInt (1)), xi i', x3'] [] g ∧ XT l 9 242 false 244 153 6051 115 [xf 13 104, xi (Int32.ofInt (1)), xi i, x3] [] h2 191 [xf 13 104, xi (Int32.ofInt (1)), xi i', x3'] [] g2 ∧ vGo hs hO hO2 g g2
  | 0, i, x3, h, h2, H, a1, a2 => by
    have hg := H.1
    have hg2 := H.2.1
    have ha := H.2.2.2.2
    have e12 : xI h 104 14 = xI hO 104 14 := H.2.2.1.1 104 14 rfl
    have e122 : xI h2 104 14 = xI hO 104 14 := (ha.1 104 14 rfl (by decide)).symm.trans e12
    have b12 : 0 ≤ (xI h 104 14).toInt ∧ (xI h 104 14).toInt ≤ 8 := vbnd hg.1 104 14
    have d12 : (xI h2 104 14).toInt = (xI hO 104 14).toInt := by rw [e122]
    rw [← e12] at a2 d12
    have t19 : XT l 9 242 false 244 153 6051 115 [xf 13 104, xi (Int32.ofInt (1)), xi i, x3] [] h 191 [xf 13 104, xi (Int32.ofInt (1)), xi i, x3] [] h := XT_path (l := l) (fr := 9) (lo := 242) (full := false) (M := 244) (n := 153) (u := 6051) (pc := 115) (L := [xf 13 104, xi (Int32.ofInt (1)), xi i, x3]) (st := []) (h := h) (inl := []) (n' := 80) (sp := [191]) (o := [1]) rfl rfl ⟨rfl, rfl, rfl⟩ rfl ⟨Nat.le_of_eq hg.2.2.2.1, Nat.le_of_eq hg.2.2.2.2⟩ ⟨trivial, (Int32.le_iff_toInt_le.mpr (by omega))⟩
    have t19' : XT l 9 242 false 244 153 6051 115 [xf 13 104, xi (Int32.ofInt (1)), xi i, x3] [] h2 191 [xf 13 104, xi (Int32.ofInt (1)), xi i, x3] [] h2 := XT_path (l := l) (fr := 9) (lo := 242) (full := false) (M := 244) (n := 153) (u := 6051) (pc := 115) (L := [xf 13 104, xi (Int32.ofInt (1)), xi i, x3]) (st := []) (h := h2) (inl := []) (n' := 80) (sp := [191]) (o := [1]) rfl rfl ⟨rfl, rfl, rfl⟩ rfl ⟨Nat.le_of_eq hg2.2.2.2.1, Nat.le_of_eq hg2.2.2.2.2⟩ ⟨trivial, (Int32.le_iff_toInt_le.mpr (by omega))⟩
    exact ⟨i, x3, h, h2, t19, t19', H⟩
  | m + 1, i, x3, h, h2, H, a1, a2 => by
    have hg := H.1
    have hg2 := H.2.1
    have ha := H.2.2.2.2
    have e12 : xI h 104 14 = xI hO 104 14 := H.2.2.1.1 104 14 rfl
    have e122 : xI h2 104 14 = xI hO 104 14 := (ha.1 104 14 rfl (by decide)).symm.trans e12
    have b12 : 0 ≤ (xI h 104 14).toInt ∧ (xI h 104 14).toInt ≤ 8 := vbnd hg.1 104 14
    have d12 : (xI h2 104 14).toInt = (xI hO 104 14).toInt := by rw [e122]
    rw [← e12] at a2 d12
    have e8 : ((Int32.ofInt (8)) * (Int32.ofInt (1))).toInt = 8 := rfl
    have e6 : ((Int32.ofInt (6)) * (Int32.ofInt (1))).toInt = 6 := rfl
    have ej : (((Int32.ofInt (8)) * (Int32.ofInt (1))) + i).toInt = 8 + i.toInt := by
      rw [Int32.toInt_add, e8]
      exact Int.bmod_eq_of_le (by omega) (by omega)
    have nj : (((Int32.ofInt (8)) * (Int32.ofInt (1))) + i).toNatClampNeg = (((Int32.ofInt (8)) * (Int32.ofInt (1))) + i).toInt.toNat := rfl
    have ni : i.toNatClampNeg = i.toInt.toNat := rfl
    have bp := vbnd hg.1 135 (((Int32.ofInt (8)) * (Int32.ofInt (1))) + i).toNatClampNeg
    rw [vI_u rfl (rfl : vRow 135 = (0, 5))] at bp
    have bp : 0 ≤ (xI h 135 (((Int32.ofInt (8)) * (Int32.ofInt (1))) + i).toNatClampNeg).toInt ∧ (xI h 135 (((Int32.ofInt (8)) * (Int32.ofInt (1))) + i).toNatClampNeg).toInt ≤ 5 := bp
    have r33 : xR h 104 33 = 118 := vref hg.1 rfl
    have s33 : xR h2 104 33 = 118 := vref hg2.1 rfl
    have r55 : xR h 104 55 = 133 := vref hg.1 rfl
    have s55 : xR h2 104 55 = 133 := vref hg2.1 rfl
    have r57 : xR h 104 57 = 135 := vref hg.1 rfl
    have s57 : xR h2 104 57 = 135 := vref hg2.1 rfl
    have ek : (((Int32.ofInt (6)) * (Int32.ofInt (1))) + (xI h 135 (((Int32.ofInt (8)) * (Int32.ofInt (1))) + i).toNatClampNeg)).toInt = 6 + (xI h 135 (((Int32.ofInt (8)) * (Int32.ofInt (1))) + i).toNatClampNeg).toInt := by
      rw [Int32.toInt_add, e6]
      exact Int.bmod_eq_of_le (by omega) (by omega)
    have q33 : xI h2 (xR h2 104 33) i.toNatClampNeg = xI h (xR h 104 33) i.toNatClampNeg := by rw [r33, s33]; exact (ha.1 _ _ rfl (by show i.toInt.toNat < 16; omega)).symm
    have q57 : xI h2 (xR h2 104 57) (((Int32.ofInt (8)) * (Int32.ofInt (1))) + i).toNatClampNeg = xI h (xR h 104 57) (((Int32.ofInt (8)) * (Int32.ofInt (1))) + i).toNatClampNeg := by rw [r57, s57]; exact (ha.1 _ _ rfl (by show (((Int32.ofInt (8)) * (Int32.ofInt (1))) + i).toInt.toNat < 16; omega)).symm
    have q55 : xI h2 (xR h2 104 55) (((Int32.ofInt (6)) * (Int32.ofInt (1))) + (xI h (xR h 104 57) (((Int32.ofInt (8)) * (Int32.ofInt (1))) + i).toNatClampNeg)).toNatClampNeg = xI h (xR h 104 55) (((Int32.ofInt (6)) * (Int32.ofInt (1))) + (xI h (xR h 104 57) (((Int32.ofInt (8)) * (Int32.ofInt (1))) + i).toNatClampNeg)).toNatClampNeg := by rw [r55, s55, r57]; exact (ha.1 _ _ rfl (by show (((Int32.ofInt (6)) * (Int32.ofInt (1))) + (xI h 135 (((Int32.ofInt (8)) * (Int32.ofInt (1))) + i).toNatClampNeg)).toInt.toNat < 12; omega)).symm
    have u7 : xI h2 137 (((Int32.ofInt (8)) * (Int32.ofInt (1))) + i).toNatClampNeg = xI h 137 (((Int32.ofInt (8)) * (Int32.ofInt (1))) + i).toNatClampNeg := (ha.1 _ _ rfl (by show (((Int32.ofInt (8)) * (Int32.ofInt (1))) + i).toInt.toNat < 16; omega)).symm
    by_cases c20 : (xI h (xR h 104 33) (i).toNatClampNeg) ≤ (xI h (xR h 104 55) ((((Int32.ofInt (6)) * (Int32.ofInt (1))) + (xI h (xR h 104 57) ((((Int32.ofInt (8)) * (Int32.ofInt (1))) + i)).toNatClampNeg))).toNatClampNeg)
    · have c20' : ((xI h2 (xR h2 104 33) (i).toNatClampNeg) ≤ (xI h2 (xR h2 104 55) ((((Int32.ofInt (6)) * (Int32.ofInt (1))) + (xI h2 (xR h2 104 57) ((((Int32.ofInt (8)) * (Int32.ofInt (1))) + i)).toNatClampNeg))).toNatClampNeg)) := by rw [q33, q57, q55]; exact c20
      have t21 : XT l 9 242 false 244 153 6051 115 [xf 13 104, xi (Int32.ofInt (1)), xi i, x3] [] h 172 [xf 13 104, xi (Int32.ofInt (1)), xi i, x3] [] (xsetI h (xR h 104 59) ((((Int32.ofInt (8)) * (Int32.ofInt (1))) + i)).toNatClampNeg ((xI h (xR h 104 59) ((((Int32.ofInt (8)) * (Int32.ofInt (1))) + i)).toNatClampNeg) + (Int32.ofInt (0)))) := XT_path (l := l) (fr := 9) (lo := 242) (full := false) (M := 244) (n := 153) (u := 6051) (pc := 115) (L := [xf 13 104, xi (Int32.ofInt (1)), xi i, x3]) (st := []) (h := h) (inl := []) (n' := 80) (sp := [172]) (o := [0, 1]) rfl rfl ⟨rfl, rfl, rfl⟩ rfl ⟨Nat.le_of_eq hg.2.2.2.1, Nat.le_of_eq hg.2.2.2.2⟩ ⟨⟨⟨⟨⟨⟨⟨⟨⟨⟨⟨trivial, (fun z => absurd (Int32.le_iff_toInt_le.mp z) (by omega))⟩, (vnn hg.1 (rfl : vRf 104 59 = [137]) (by decide))⟩, (vp_of (i := (((Int32.ofInt (8)) * (Int32.ofInt (1))) + i)) (n := 16) (by omega) (by omega))⟩, (vnn hg.1 (rfl : vRf 104 33 = [118]) (by decide))⟩, (vp_of (i := i) (n := 16) (by omega) (by omega))⟩, (vnn hg.1 (rfl : vRf 104 55 = [133]) (by decide))⟩, (vnn hg.1 (rfl : vRf 104 57 = [135]) (by decide))⟩, (vp_of (i := (((Int32.ofInt (8)) * (Int32.ofInt (1))) + i)) (n := 16) (by omega) (by omega))⟩, (by rw [r57]; exact vp_of (n := 12) (by omega) (by omega))⟩, c20⟩, (vp_of (i := (((Int32.ofInt (8)) * (Int32.ofInt (1))) + i)) (n := 16) (by omega) (by omega))⟩
      rw [vref hg.1 (rfl : vRf 104 59 = [137])] at t21
      have t21' : XT l 9 242 false 244 153 6051 115 [xf 13 104, xi (Int32.ofInt (1)), xi i, x3] [] h2 172 [xf 13 104, xi (Int32.ofInt (1)), xi i, x3] [] (xsetI h2 (xR h2 104 59) ((((Int32.ofInt (8)) * (Int32.ofInt (1))) + i)).toNatClampNeg ((xI h2 (xR h2 104 59) ((((Int32.ofInt (8)) * (Int32.ofInt (1))) + i)).toNatClampNeg) + (Int32.ofInt (0)))) := XT_path (l := l) (fr := 9) (lo := 242) (full := false) (M := 244) (n := 153) (u := 6051) (pc := 115) (L := [xf 13 104, xi (Int32.ofInt (1)), xi i, x3]) (st := []) (h := h2) (inl := []) (n' := 80) (sp := [172]) (o := [0, 1]) rfl rfl ⟨rfl, rfl, rfl⟩ rfl ⟨Nat.le_of_eq hg2.2.2.2.1, Nat.le_of_eq hg2.2.2.2.2⟩ ⟨⟨⟨⟨⟨⟨⟨⟨⟨⟨⟨trivial, (fun z => absurd (Int32.le_iff_toInt_le.mp z) (by omega))⟩, (vnn hg2.1 (rfl : vRf 104 59 = [137]) (by decide))⟩, (vp_of (i := (((Int32.ofInt (8)) * (Int32.ofInt (1))) + i)) (n := 16) (by omega) (by omega))⟩, (vnn hg2.1 (rfl : vRf 104 33 = [118]) (by decide))⟩, (vp_of (i := i) (n := 16) (by omega) (by omega))⟩, (vnn hg2.1 (rfl : vRf 104 55 = [133]) (by decide))⟩, (vnn hg2.1 (rfl : vRf 104 57 = [135]) (by decide))⟩, (vp_of (i := (((Int32.ofInt (8)) * (Int32.ofInt (1))) + i)) (n := 16) (by omega) (by omega))⟩, (by rw [q57, r57]; exact vp_of (n := 12) (by omega) (by omega))⟩, c20'⟩, (vp_of (i := (((Int32.ofInt (8)) * (Int32.ofInt (1))) + i)) (n := 16) (by omega) (by omega))⟩
      rw [vref hg2.1 (rfl : vRf 104 59 = [137])] at t21'
      rw [u7] at t21'
      have t22 : XT l 9 242 false 244 153 6051 172 [xf 13 104, xi (Int32.ofInt (1)), xi i, x3] [] (xsetI h 137 ((((Int32.ofInt (8)) * (Int32.ofInt (1))) + i)).toNatClampNeg ((xI h 137 ((((Int32.ofInt (8)) * (Int32.ofInt (1))) + i)).toNatClampNeg) + (Int32.ofInt (0)))) 115 [xf 13 104, xi (Int32.ofInt (1)), xi (i + Int32.ofInt (1)), x3] [] (xsetI (xsetI h 137 ((((Int32.ofInt (8)) * (Int32.ofInt (1))) + i)).toNatClampNeg ((xI h 137 ((((Int32.ofInt (8)) * (Int32.ofInt (1))) + i)).toNatClampNeg) + (Int32.ofInt (0)))) (xR h 104 58) ((((Int32.ofInt (8)) * (Int32.ofInt (1))) + i)).toNatClampNeg (Int32.ofInt (-2))) := XT_path (l := l) (fr := 9) (lo := 242) (full := false) (M := 244) (n := 153) (u := 6051) (pc := 172) (L := [xf 13 104, xi (Int32.ofInt (1)), xi i, x3]) (st := []) (h := (xsetI h 137 ((((Int32.ofInt (8)) * (Int32.ofInt (1))) + i)).toNatClampNeg ((xI h 137 ((((Int32.ofInt (8)) * (Int32.ofInt (1))) + i)).toNatClampNeg) + (Int32.ofInt (0))))) (inl := []) (n' := 80) (sp := [115]) (o := []) rfl rfl ⟨rfl, rfl, rfl⟩ rfl ⟨Nat.le_of_eq hg.2.2.2.1, Nat.le_of_eq hg.2.2.2.2⟩ ⟨⟨trivial, (vnn hg.1 (rfl : vRf 104 58 = [136]) (by decide))⟩, (vp_of (i := (((Int32.ofInt (8)) * (Int32.ofInt (1))) + i)) (n := 16) (by omega) (by omega))⟩
      rw [vref hg.1 (rfl : vRf 104 58 = [136])] at t22
      have t23 := t21.tr t22
      have t22' : XT l 9 242 false 244 153 6051 172 [xf 13 104, xi (Int32.ofInt (1)), xi i, x3] [] (xsetI h2 137 ((((Int32.ofInt (8)) * (Int32.ofInt (1))) + i)).toNatClampNeg ((xI h 137 ((((Int32.ofInt (8)) * (Int32.ofInt (1))) + i)).toNatClampNeg) + (Int32.ofInt (0)))) 115 [xf 13 104, xi (Int32.ofInt (1)), xi (i + Int32.ofInt (1)), x3] [] (xsetI (xsetI h2 137 ((((Int32.ofInt (8)) * (Int32.ofInt (1))) + i)).toNatClampNeg ((xI h 137 ((((Int32.ofInt (8)) * (Int32.ofInt (1))) + i)).toNatClampNeg) + (Int32.ofInt (0)))) (xR h2 104 58) ((((Int32.ofInt (8)) * (Int32.ofInt (1))) + i)).toNatClampNeg (Int32.ofInt (-2))) := XT_path (l := l) (fr := 9) (lo := 242) (full := false) (M := 244) (n := 153) (u := 6051) (pc := 172) (L := [xf 13 104, xi (Int32.ofInt (1)), xi i, x3]) (st := []) (h := (xsetI h2 137 ((((Int32.ofInt (8)) * (Int32.ofInt (1))) + i)).toNatClampNeg ((xI h 137 ((((Int32.ofInt (8)) * (Int32.ofInt (1))) + i)).toNatClampNeg) + (Int32.ofInt (0))))) (inl := []) (n' := 80) (sp := [115]) (o := []) rfl rfl ⟨rfl, rfl, rfl⟩ rfl ⟨Nat.le_of_eq hg2.2.2.2.1, Nat.le_of_eq hg2.2.2.2.2⟩ ⟨⟨trivial, (vnn hg2.1 (rfl : vRf 104 58 = [136]) (by decide))⟩, (vp_of (i := (((Int32.ofInt (8)) * (Int32.ofInt (1))) + i)) (n := 16) (by omega) (by omega))⟩
      rw [vref hg2.1 (rfl : vRf 104 58 = [136])] at t22'
      have t23' := t21'.tr t22'
      obtain ⟨w7, w6⟩ := v137b (((Int32.ofInt (8)) * (Int32.ofInt (1))) + i).toNatClampNeg (by omega) (by omega)
      have HS := (H.set (c := 137) (k := (((Int32.ofInt (8)) * (Int32.ofInt (1))) + i).toNatClampNeg) (v := ((xI h 137 ((((Int32.ofInt (8)) * (Int32.ofInt (1))) + i)).toNatClampNeg) + (Int32.ofInt (0)))) (by rw [vI_u rfl (rfl : vRow 137 = sfull)]; exact vb_all (by decide)) (stou_no (by decide +kernel)) w7 rfl).set (c := 136) (k := (((Int32.ofInt (8)) * (Int32.ofInt (1))) + i).toNatClampNeg) (v := Int32.ofInt (-2)) (by rw [vI_u rfl (rfl : vRow 136 = (-2, 1))]; decide) (stou_no (by decide +kernel)) w6 rfl
      have ei := y_suc1 a1 (by omega)
      obtain ⟨i', x3', g, g2, y1, y2, y3⟩ := vp_goD l hs hO hO2 m (i + Int32.ofInt (1)) x3 _ _ HS (by omega) (by rw [← e12]; omega)
      exact ⟨i', x3', g, g2, t23.tr y1, t23'.tr y2, y3⟩
    · have c20' : ¬ ((xI h2 (xR h2 104 33) (i).toNatClampNeg) ≤ (xI h2 (xR h2 104 55) ((((Int32.ofInt (6)) * (Int32.ofInt (1))) + (xI h2 (xR h2 104 57) ((((Int32.ofInt (8)) * (Int32.ofInt (1))) + i)).toNatClampNeg))).toNatClampNeg)) := by rw [q33, q57, q55]; exact c20
      have t24 : XT l 9 242 false 244 153 6051 115 [xf 13 104, xi (Int32.ofInt (1)), xi i, x3] [] h 172 [xf 13 104, xi (Int32.ofInt (1)), xi i, x3] [] (xsetI h (xR h 104 59) ((((Int32.ofInt (8)) * (Int32.ofInt (1))) + i)).toNatClampNeg ((xI h (xR h 104 59) ((((Int32.ofInt (8)) * (Int32.ofInt (1))) + i)).toNatClampNeg) + (Int32.ofInt (1)))) := XT_path (l := l) (fr := 9) (lo := 242) (full := false) (M := 244) (n := 153) (u := 6051) (pc := 115) (L := [xf 13 104, xi (Int32.ofInt (1)), xi i, x3]) (st := []) (h := h) (inl := []) (n' := 80) (sp := [172]) (o := [0, 0]) rfl rfl ⟨rfl, rfl, rfl⟩ rfl ⟨Nat.le_of_eq hg.2.2.2.1, Nat.le_of_eq hg.2.2.2.2⟩ ⟨⟨⟨⟨⟨⟨⟨⟨⟨⟨⟨trivial, (fun z => absurd (Int32.le_iff_toInt_le.mp z) (by omega))⟩, (vnn hg.1 (rfl : vRf 104 59 = [137]) (by decide))⟩, (vp_of (i := (((Int32.ofInt (8)) * (Int32.ofInt (1))) + i)) (n := 16) (by omega) (by omega))⟩, (vnn hg.1 (rfl : vRf 104 33 = [118]) (by decide))⟩, (vp_of (i := i) (n := 16) (by omega) (by omega))⟩, (vnn hg.1 (rfl : vRf 104 55 = [133]) (by decide))⟩, (vnn hg.1 (rfl : vRf 104 57 = [135]) (by decide))⟩, (vp_of (i := (((Int32.ofInt (8)) * (Int32.ofInt (1))) + i)) (n := 16) (by omega) (by omega))⟩, (by rw [r57]; exact vp_of (n := 12) (by omega) (by omega))⟩, c20⟩, (vp_of (i := (((Int32.ofInt (8)) * (Int32.ofInt (1))) + i)) (n := 16) (by omega) (by omega))⟩
      rw [vref hg.1 (rfl : vRf 104 59 = [137])] at t24
      have t24' : XT l 9 242 false 244 153 6051 115 [xf 13 104, xi (Int32.ofInt (1)), xi i, x3] [] h2 172 [xf 13 104, xi (Int32.ofInt (1)), xi i, x3] [] (xsetI h2 (xR h2 104 59) ((((Int32.ofInt (8)) * (Int32.ofInt (1))) + i)).toNatClampNeg ((xI h2 (xR h2 104 59) ((((Int32.ofInt (8)) * (Int32.ofInt (1))) + i)).toNatClampNeg) + (Int32.ofInt (1)))) := XT_path (l := l) (fr := 9) (lo := 242) (full := false) (M := 244) (n := 153) (u := 6051) (pc := 115) (L := [xf 13 104, xi (Int32.ofInt (1)), xi i, x3]) (st := []) (h := h2) (inl := []) (n' := 80) (sp := [172]) (o := [0, 0]) rfl rfl ⟨rfl, rfl, rfl⟩ rfl ⟨Nat.le_of_eq hg2.2.2.2.1, Nat.le_of_eq hg2.2.2.2.2⟩ ⟨⟨⟨⟨⟨⟨⟨⟨⟨⟨⟨trivial, (fun z => absurd (Int32.le_iff_toInt_le.mp z) (by omega))⟩, (vnn hg2.1 (rfl : vRf 104 59 = [137]) (by decide))⟩, (vp_of (i := (((Int32.ofInt (8)) * (Int32.ofInt (1))) + i)) (n := 16) (by omega) (by omega))⟩, (vnn hg2.1 (rfl : vRf 104 33 = [118]) (by decide))⟩, (vp_of (i := i) (n := 16) (by omega) (by omega))⟩, (vnn hg2.1 (rfl : vRf 104 55 = [133]) (by decide))⟩, (vnn hg2.1 (rfl : vRf 104 57 = [135]) (by decide))⟩, (vp_of (i := (((Int32.ofInt (8)) * (Int32.ofInt (1))) + i)) (n := 16) (by omega) (by omega))⟩, (by rw [q57, r57]; exact vp_of (n := 12) (by omega) (by omega))⟩, c20'⟩, (vp_of (i := (((Int32.ofInt (8)) * (Int32.ofInt (1))) + i)) (n := 16) (by omega) (by omega))⟩
      rw [vref hg2.1 (rfl : vRf 104 59 = [137])] at t24'
      rw [u7] at t24'
      have t25 : XT l 9 242 false 244 153 6051 172 [xf 13 104, xi (Int32.ofInt (1)), xi i, x3] [] (xsetI h 137 ((((Int32.ofInt (8)) * (Int32.ofInt (1))) + i)).toNatClampNeg ((xI h 137 ((((Int32.ofInt (8)) * (Int32.ofInt (1))) + i)).toNatClampNeg) + (Int32.ofInt (1)))) 115 [xf 13 104, xi (Int32.ofInt (1)), xi (i + Int32.ofInt (1)), x3] [] (xsetI (xsetI h 137 ((((Int32.ofInt (8)) * (Int32.ofInt (1))) + i)).toNatClampNeg ((xI h 137 ((((Int32.ofInt (8)) * (Int32.ofInt (1))) + i)).toNatClampNeg) + (Int32.ofInt (1)))) (xR h 104 58) ((((Int32.ofInt (8)) * (Int32.ofInt (1))) + i)).toNatClampNeg (Int32.ofInt (-2))) := XT_path (l := l) (fr := 9) (lo := 242) (full := false) (M := 244) (n := 153) (u := 6051) (pc := 172) (L := [xf 13 104, xi (Int32.ofInt (1)), xi i, x3]) (st := []) (h := (xsetI h 137 ((((Int32.ofInt (8)) * (Int32.ofInt (1))) + i)).toNatClampNeg ((xI h 137 ((((Int32.ofInt (8)) * (Int32.ofInt (1))) + i)).toNatClampNeg) + (Int32.ofInt (1))))) (inl := []) (n' := 80) (sp := [115]) (o := []) rfl rfl ⟨rfl, rfl, rfl⟩ rfl ⟨Nat.le_of_eq hg.2.2.2.1, Nat.le_of_eq hg.2.2.2.2⟩ ⟨⟨trivial, (vnn hg.1 (rfl : vRf 104 58 = [136]) (by decide))⟩, (vp_of (i := (((Int32.ofInt (8)) * (Int32.ofInt (1))) + i)) (n := 16) (by omega) (by omega))⟩
      rw [vref hg.1 (rfl : vRf 104 58 = [136])] at t25
      have t26 := t24.tr t25
      have t25' : XT l 9 242 false 244 153 6051 172 [xf 13 104, xi (Int32.ofInt (1)), xi i, x3] [] (xsetI h2 137 ((((Int32.ofInt (8)) * (Int32.ofInt (1))) + i)).toNatClampNeg ((xI h 137 ((((Int32.ofInt (8)) * (Int32.ofInt (1))) + i)).toNatClampNeg) + (Int32.ofInt (1)))) 115 [xf 13 104, xi (Int32.ofInt (1)), xi (i + Int32.ofInt (1)), x3] [] (xsetI (xsetI h2 137 ((((Int32.ofInt (8)) * (Int32.ofInt (1))) + i)).toNatClampNeg ((xI h 137 ((((Int32.ofInt (8)) * (Int32.ofInt (1))) + i)).toNatClampNeg) + (Int32.ofInt (1)))) (xR h2 104 58) ((((Int32.ofInt (8)) * (Int32.ofInt (1))) + i)).toNatClampNeg (Int32.ofInt (-2))) := XT_path (l := l) (fr := 9) (lo := 242) (full := false) (M := 244) (n := 153) (u := 6051) (pc := 172) (L := [xf 13 104, xi (Int32.ofInt (1)), xi i, x3]) (st := []) (h := (xsetI h2 137 ((((Int32.ofInt (8)) * (Int32.ofInt (1))) + i)).toNatClampNeg ((xI h 137 ((((Int32.ofInt (8)) * (Int32.ofInt (1))) + i)).toNatClampNeg) + (Int32.ofInt (1))))) (inl := []) (n' := 80) (sp := [115]) (o := []) rfl rfl ⟨rfl, rfl, rfl⟩ rfl ⟨Nat.le_of_eq hg2.2.2.2.1, Nat.le_of_eq hg2.2.2.2.2⟩ ⟨⟨trivial, (vnn hg2.1 (rfl : vRf 104 58 = [136]) (by decide))⟩, (vp_of (i := (((Int32.ofInt (8)) * (Int32.ofInt (1))) + i)) (n := 16) (by omega) (by omega))⟩
      rw [vref hg2.1 (rfl : vRf 104 58 = [136])] at t25'
      have t26' := t24'.tr t25'
      obtain ⟨w7, w6⟩ := v137b (((Int32.ofInt (8)) * (Int32.ofInt (1))) + i).toNatClampNeg (by omega) (by omega)
      have HS := (H.set (c := 137) (k := (((Int32.ofInt (8)) * (Int32.ofInt (1))) + i).toNatClampNeg) (v := ((xI h 137 ((((Int32.ofInt (8)) * (Int32.ofInt (1))) + i)).toNatClampNeg) + (Int32.ofInt (1)))) (by rw [vI_u rfl (rfl : vRow 137 = sfull)]; exact vb_all (by decide)) (stou_no (by decide +kernel)) w7 rfl).set (c := 136) (k := (((Int32.ofInt (8)) * (Int32.ofInt (1))) + i).toNatClampNeg) (v := Int32.ofInt (-2)) (by rw [vI_u rfl (rfl : vRow 136 = (-2, 1))]; decide) (stou_no (by decide +kernel)) w6 rfl
      have ei := y_suc1 a1 (by omega)
      obtain ⟨i', x3', g, g2, y1, y2, y3⟩ := vp_goD l hs hO hO2 m (i + Int32.ofInt (1)) x3 _ _ HS (by omega) (by rw [← e12]; omega)
      exact ⟨i', x3', g, g2, t26.tr y1, t26'.tr y2, y3⟩
set_option maxRecDepth 100000 in
set_option maxHeartbeats 2000000 in
theorem vp_183 (l : Launch) (hs : XH) : scmP l vT vR (vEs hs) 153 6051 vD (fun _ _ => True) vC_183 := by
  intro vs h h2 ha0 hg hg2 ha hR hW hP
  match vs, ha0 with
  | [.inr w, .inl (.inl b)], ha0 =>
    obtain rfl : w = (13, 104) := ha0.1
    have hb : (1 : Int) ≤ b.toInt ∧ b.toInt ≤ 1 := ha0.2.1
    obtain rfl : b = (Int32.ofInt (1)) := Int32.toInt_inj.mp (by rw [show ((Int32.ofInt (1))).toInt = 1 from rfl]; omega)
    have fin : ∀ (g g2 : XH), CX l 9 242 false 244 [xf 13 104, xi (Int32.ofInt (1))] h [] g → CX l 9 242 false 244 [xf 13 104, xi (Int32.ofInt (1))] h2 [] g2 → vGo hs h h2 g g2 → ∃ ρ rs h' h2', svals vC_183 [xf 13 104, xi (Int32.ofInt (1))] h ρ ∧ CX l 9 242 false 244 [xf 13 104, xi (Int32.ofInt (1))] h rs h' ∧ CX l 9 242 false 244 [xf 13 104, xi (Int32.ofInt (1))] h2 rs h2' ∧ spost vT vR (vEs hs) 153 6051 vC_183 ρ h rs h' ∧ spost vT vR (vEs hs) 153 6051 vC_183 ρ h2 rs h2' ∧ sAg vD (fun _ _ => True) h' h2' := fun g g2 c c2 G => by
      have sc : ∀ g : XH, scas vC_183 (fun _ => 1) ([(1, 1)], [], none, [], [], []) [] g := fun g => scas_one (fun i q hq => by
        match i, hq with
        | 0, hq => obtain rfl := Option.some.inj hq; exact ⟨Int.le_refl _, Int.le_refl _⟩) (fun i q hq => by cases hq) trivial
      exact ⟨fun _ => 1, [], g, g2, ⟨⟨rfl, trivial⟩, fun i q hq => by cases hq⟩, c, c2, ⟨G.1, G.2.2.1, _, List.mem_singleton.mpr rfl, sc g⟩, ⟨G.2.1, G.2.2.2.1, _, List.mem_singleton.mpr rfl, sc g2⟩, G.2.2.2.2⟩
    have b12 : 0 ≤ (xI h 104 12).toInt ∧ (xI h 104 12).toInt ≤ 6 := vbnd hg.1 104 12
    have b14 : 0 ≤ (xI h 104 14).toInt ∧ (xI h 104 14).toInt ≤ 8 := vbnd hg.1 104 14
    have H0 : vGo hs h h2 h h2 := ⟨hg, hg2, sframe.rf, sframe.rf, ha⟩
    have z0 : (Int32.ofInt (0)).toInt = 0 := rfl
    have t1 : XT l 9 242 false 244 153 6051 0 [xf 13 104, xi (Int32.ofInt (1)), xun, xun] [] h 2 [xf 13 104, xi (Int32.ofInt (1)), xi (Int32.ofInt (0)), xun] [] h := XT_path (l := l) (fr := 9) (lo := 242) (full := false) (M := 244) (n := 153) (u := 6051) (pc := 0) (L := [xf 13 104, xi (Int32.ofInt (1)), xun, xun]) (st := []) (h := h) (inl := []) (n' := 80) (sp := [2]) (o := []) rfl rfl ⟨rfl, rfl, rfl⟩ rfl ⟨Nat.le_of_eq hg.2.2.2.1, Nat.le_of_eq hg.2.2.2.2⟩ trivial
    have t1' : XT l 9 242 false 244 153 6051 0 [xf 13 104, xi (Int32.ofInt (1)), xun, xun] [] h2 2 [xf 13 104, xi (Int32.ofInt (1)), xi (Int32.ofInt (0)), xun] [] h2 := XT_path (l := l) (fr := 9) (lo := 242) (full := false) (M := 244) (n := 153) (u := 6051) (pc := 0) (L := [xf 13 104, xi (Int32.ofInt (1)), xun, xun]) (st := []) (h := h2) (inl := []) (n' := 80) (sp := [2]) (o := []) rfl rfl ⟨rfl, rfl, rfl⟩ rfl ⟨Nat.le_of_eq hg2.2.2.2.1, Nat.le_of_eq hg2.2.2.2.2⟩ trivial
    obtain ⟨iA, gA, gA2, yA, yA2, HA, vA⟩ := vp_goA l hs h h2 (xI h 104 12).toInt.toNat (Int32.ofInt (0)) (xun) h h2 H0 (by decide) (by rw [z0]; omega) (fun j hj => absurd hj (by omega))
    have TA := t1.tr yA
    have TA' := t1'.tr yA2
    have t2 : XT l 9 242 false 244 153 6051 28 [xf 13 104, xi (Int32.ofInt (1)), xi iA, xun] [] gA 30 [xf 13 104, xi (Int32.ofInt (1)), xi (Int32.ofInt (0)), xun] [] gA := XT_path (l := l) (fr := 9) (lo := 242) (full := false) (M := 244) (n := 153) (u := 6051) (pc := 28) (L := [xf 13 104, xi (Int32.ofInt (1)), xi iA, xun]) (st := []) (h := gA) (inl := []) (n' := 80) (sp := [30]) (o := []) rfl rfl ⟨rfl, rfl, rfl⟩ rfl ⟨Nat.le_of_eq HA.1.2.2.2.1, Nat.le_of_eq HA.1.2.2.2.2⟩ trivial
    have t3 := TA.tr t2
    have t2' : XT l 9 242 false 244 153 6051 28 [xf 13 104, xi (Int32.ofInt (1)), xi iA, xun] [] gA2 30 [xf 13 104, xi (Int32.ofInt (1)), xi (Int32.ofInt (0)), xun] [] gA2 := XT_path (l := l) (fr := 9) (lo := 242) (full := false) (M := 244) (n := 153) (u := 6051) (pc := 28) (L := [xf 13 104, xi (Int32.ofInt (1)), xi iA, xun]) (st := []) (h := gA2) (inl := []) (n' := 80) (sp := [30]) (o := []) rfl rfl ⟨rfl, rfl, rfl⟩ rfl ⟨Nat.le_of_eq HA.2.1.2.2.2.1, Nat.le_of_eq HA.2.1.2.2.2.2⟩ trivial
    have t3' := TA'.tr t2'
    obtain ⟨iB, xB, gB, gB2, yB, yB2, HB⟩ := vp_goB l hs h h2 (xI h 104 12).toInt.toNat (Int32.ofInt (0)) (xun) gA gA2 HA (by decide) (by rw [z0]; omega) vA
    have TB := t3.tr yB
    have TB' := t3'.tr yB2
    have t4 : XT l 9 242 false 244 153 6051 75 [xf 13 104, xi (Int32.ofInt (1)), xi iB, xB] [] gB 77 [xf 13 104, xi (Int32.ofInt (1)), xi (Int32.ofInt (0)), xB] [] gB := XT_path (l := l) (fr := 9) (lo := 242) (full := false) (M := 244) (n := 153) (u := 6051) (pc := 75) (L := [xf 13 104, xi (Int32.ofInt (1)), xi iB, xB]) (st := []) (h := gB) (inl := []) (n' := 80) (sp := [77]) (o := []) rfl rfl ⟨rfl, rfl, rfl⟩ rfl ⟨Nat.le_of_eq HB.1.2.2.2.1, Nat.le_of_eq HB.1.2.2.2.2⟩ trivial
    have t5 := TB.tr t4
    have t4' : XT l 9 242 false 244 153 6051 75 [xf 13 104, xi (Int32.ofInt (1)), xi iB, xB] [] gB2 77 [xf 13 104, xi (Int32.ofInt (1)), xi (Int32.ofInt (0)), xB] [] gB2 := XT_path (l := l) (fr := 9) (lo := 242) (full := false) (M := 244) (n := 153) (u := 6051) (pc := 75) (L := [xf 13 104, xi (Int32.ofInt (1)), xi iB, xB]) (st := []) (h := gB2) (inl := []) (n' := 80) (sp := [77]) (o := []) rfl rfl ⟨rfl, rfl, rfl⟩ rfl ⟨Nat.le_of_eq HB.2.1.2.2.2.1, Nat.le_of_eq HB.2.1.2.2.2.2⟩ trivial
    have t5' := TB'.tr t4'
    obtain ⟨iC, xC, gC, gC2, yC, yC2, HC⟩ := vp_goC l hs h h2 (xI h 104 12).toInt.toNat (Int32.ofInt (0)) (xB) gB gB2 HB (by decide) (by rw [z0]; omega)
    have TC := t5.tr yC
    have TC' := t5'.tr yC2
    have t6 : XT l 9 242 false 244 153 6051 113 [xf 13 104, xi (Int32.ofInt (1)), xi iC, xC] [] gC 115 [xf 13 104, xi (Int32.ofInt (1)), xi (Int32.ofInt (0)), xC] [] gC := XT_path (l := l) (fr := 9) (lo := 242) (full := false) (M := 244) (n := 153) (u := 6051) (pc := 113) (L := [xf 13 104, xi (Int32.ofInt (1)), xi iC, xC]) (st := []) (h := gC) (inl := []) (n' := 80) (sp := [115]) (o := []) rfl rfl ⟨rfl, rfl, rfl⟩ rfl ⟨Nat.le_of_eq HC.1.2.2.2.1, Nat.le_of_eq HC.1.2.2.2.2⟩ trivial
    have t7 := TC.tr t6
    have t6' : XT l 9 242 false 244 153 6051 113 [xf 13 104, xi (Int32.ofInt (1)), xi iC, xC] [] gC2 115 [xf 13 104, xi (Int32.ofInt (1)), xi (Int32.ofInt (0)), xC] [] gC2 := XT_path (l := l) (fr := 9) (lo := 242) (full := false) (M := 244) (n := 153) (u := 6051) (pc := 113) (L := [xf 13 104, xi (Int32.ofInt (1)), xi iC, xC]) (st := []) (h := gC2) (inl := []) (n' := 80) (sp := [115]) (o := []) rfl rfl ⟨rfl, rfl, rfl⟩ rfl ⟨Nat.le_of_eq HC.2.1.2.2.2.1, Nat.le_of_eq HC.2.1.2.2.2.2⟩ trivial
    have t7' := TC'.tr t6'
    obtain ⟨iD, xD, gD, gD2, yD, yD2, HD⟩ := vp_goD l hs h h2 (xI h 104 14).toInt.toNat (Int32.ofInt (0)) (xC) gC gC2 HC (by decide) (by rw [z0]; omega)
    have TD := t7.tr yD
    have TD' := t7'.tr yD2
    have t8 : XT l 9 242 false 244 153 6051 191 [xf 13 104, xi (Int32.ofInt (1)), xi iD, xD] [] gD 201 [xf 13 104, xi (Int32.ofInt (1)), xi iD, xD] [] (xsetI gD (xR gD 104 60) ((Int32.ofInt (1))).toNatClampNeg ((xI gD (xR gD 104 60) ((Int32.ofInt (1))).toNatClampNeg) + (Int32.ofInt (1)))) := XT_path (l := l) (fr := 9) (lo := 242) (full := false) (M := 244) (n := 153) (u := 6051) (pc := 191) (L := [xf 13 104, xi (Int32.ofInt (1)), xi iD, xD]) (st := []) (h := gD) (inl := []) (n' := 80) (sp := [201]) (o := []) rfl rfl ⟨rfl, rfl, rfl⟩ rfl ⟨Nat.le_of_eq HD.1.2.2.2.1, Nat.le_of_eq HD.1.2.2.2.2⟩ ⟨⟨⟨trivial, (vnn HD.1.1 (rfl : vRf 104 60 = [138]) (by decide))⟩, (vp_of (i := (Int32.ofInt (1))) (n := 2) (by decide) (by decide))⟩, (vp_of (i := (Int32.ofInt (1))) (n := 2) (by decide) (by decide))⟩
    rw [vref HD.1.1 (rfl : vRf 104 60 = [138])] at t8
    have t9 := TD.tr t8
    have t8' : XT l 9 242 false 244 153 6051 191 [xf 13 104, xi (Int32.ofInt (1)), xi iD, xD] [] gD2 201 [xf 13 104, xi (Int32.ofInt (1)), xi iD, xD] [] (xsetI gD2 (xR gD2 104 60) ((Int32.ofInt (1))).toNatClampNeg ((xI gD2 (xR gD2 104 60) ((Int32.ofInt (1))).toNatClampNeg) + (Int32.ofInt (1)))) := XT_path (l := l) (fr := 9) (lo := 242) (full := false) (M := 244) (n := 153) (u := 6051) (pc := 191) (L := [xf 13 104, xi (Int32.ofInt (1)), xi iD, xD]) (st := []) (h := gD2) (inl := []) (n' := 80) (sp := [201]) (o := []) rfl rfl ⟨rfl, rfl, rfl⟩ rfl ⟨Nat.le_of_eq HD.2.1.2.2.2.1, Nat.le_of_eq HD.2.1.2.2.2.2⟩ ⟨⟨⟨trivial, (vnn HD.2.1.1 (rfl : vRf 104 60 = [138]) (by decide))⟩, (vp_of (i := (Int32.ofInt (1))) (n := 2) (by decide) (by decide))⟩, (vp_of (i := (Int32.ofInt (1))) (n := 2) (by decide) (by decide))⟩
    rw [vref HD.2.1.1 (rfl : vRf 104 60 = [138])] at t8'
    have t9' := TD'.tr t8'
    have u8 : xI gD2 138 (Int32.ofInt (1)).toNatClampNeg = xI gD 138 (Int32.ofInt (1)).toNatClampNeg := (HD.2.2.2.2.1 _ _ rfl (by decide)).symm
    rw [u8] at t9'
    have HF := HD.set (c := 138) (k := (Int32.ofInt (1)).toNatClampNeg) (v := (xI gD 138 (Int32.ofInt (1)).toNatClampNeg) + Int32.ofInt (1)) (by rw [vI_u rfl (rfl : vRow 138 = sfull)]; exact vb_all (by decide)) (stou_no (by decide +kernel)) (by decide +kernel) (by decide +kernel)
    exact fin _ _ (CX_ofT (h' := (xsetI gD 138 ((Int32.ofInt (1))).toNatClampNeg ((xI gD 138 ((Int32.ofInt (1))).toNatClampNeg) + (Int32.ofInt (1))))) (by decide) rfl rfl trivial ⟨_, _, _, rfl, rfl, rfl⟩ rfl ⟨Nat.le_of_eq HF.1.2.2.2.1.symm, Nat.le_of_eq HF.1.2.2.2.2.symm⟩ t9) (CX_ofT (h' := (xsetI gD2 138 ((Int32.ofInt (1))).toNatClampNeg ((xI gD 138 ((Int32.ofInt (1))).toNatClampNeg) + (Int32.ofInt (1))))) (by decide) rfl rfl trivial ⟨_, _, _, rfl, rfl, rfl⟩ rfl ⟨Nat.le_of_eq HF.2.1.2.2.2.1.symm, Nat.le_of_eq HF.2.1.2.2.2.2.symm⟩ t9') HF
