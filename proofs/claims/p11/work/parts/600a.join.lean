/-! CONTRACTS BY HAND: a join read. -/
theorem sres_i {q : SI} {rs : List XV} (h : sres (some (.inl q)) rs) : ∃ v : Int32, rs = [xi v] ∧ q.1 ≤ v.toInt ∧ v.toInt ≤ q.2 := by
  match rs, h with
  | [.inl (.inl a)], h => exact ⟨a, rfl, h⟩
theorem sres_n {rs : List XV} (h : sres none rs) : rs = [] := by
  match rs, h with
  | [], _ => rfl
theorem sres_l {b : Bool} {rs : List XV} (h : sres (some (.inr b)) rs) : ∃ v : Int64, rs = [xl v] := by
  match rs, h with
  | [.inl (.inr a)], h => exact ⟨a, rfl⟩
theorem vq_11 (l : Launch)  (h : XH) (hg : sgood vT vR vE 153 6051 h)  : ∃ (h' : XH), CX l 6 197 false 19 [xf 7 45] h [] h' ∧ sgood vT vR vE 153 6051 h' ∧ sframe ([(45, 6, false), (45, 7, false), (45, 8, false), (45, 9, false)], []) h h' ∧ ((True)) := by
  have ha : sargs (cap vC_11) [xf 7 45] := ⟨rfl, trivial⟩
  obtain ⟨ρ, rs, h', ⟨hv, hw⟩, c, g, f, cs, hcs, k1, k2, k3, k4, k5, k6⟩ := vc_11 l [xf 7 45] h ha hg (fun q hq => absurd hq List.not_mem_nil) (fun q hq => absurd hq List.not_mem_nil) (fun ρ hρ g hg' => absurd hg' List.not_mem_nil)
  rcases List.mem_cons.mp hcs with rfl | hcs
  · obtain rfl := sres_n k3
    exact ⟨h', c, g, f, trivial⟩
  exact absurd hcs List.not_mem_nil
theorem vq_13 (l : Launch) (x0 : Int32) (h : XH) (hg : sgood vT vR vE 153 6051 h) (a0 : (-2147483648) ≤ x0.toInt ∧ x0.toInt ≤ 2147483647) : ∃ (v : Int32) (h' : XH), CX l 0 0 false 40 [xf 8 24, xi x0] h [xi v] h' ∧ sgood vT vR vE 153 6051 h' ∧ sframe ([], []) h h' ∧ (((0 ≤ v.toInt ∧ v.toInt ≤ 5)) ∨ (((-1) ≤ v.toInt ∧ v.toInt ≤ (-1)))) := by
  have ha : sargs (cap vC_13) [xf 8 24, xi x0] := ⟨rfl, a0, trivial⟩
  obtain ⟨ρ, rs, h', ⟨hv, hw⟩, c, g, f, cs, hcs, k1, k2, k3, k4, k5, k6⟩ := vc_13 l [xf 8 24, xi x0] h ha hg (fun q hq => absurd hq List.not_mem_nil) (fun q hq => absurd hq List.not_mem_nil) (fun ρ hρ g hg' => absurd hg' List.not_mem_nil)
  have e0 : ρ 0 = x0.toInt := hv.1
  rcases List.mem_cons.mp hcs with rfl | hcs
  · obtain ⟨v, rfl, kv⟩ := sres_i k3
    exact ⟨v, h', c, g, f, Or.inl kv⟩
  rcases List.mem_cons.mp hcs with rfl | hcs
  · obtain ⟨v, rfl, kv⟩ := sres_i k3
    exact ⟨v, h', c, g, f, Or.inr (kv)⟩
  exact absurd hcs List.not_mem_nil
theorem vq_14 (l : Launch) (x0 : Int32) (h : XH) (hg : sgood vT vR vE 153 6051 h) (a0 : (-2147483648) ≤ x0.toInt ∧ x0.toInt ≤ 2147483647) : ∃ (v : Int32) (h' : XH), CX l 0 0 false 40 [xf 8 3, xi x0] h [xi v] h' ∧ sgood vT vR vE 153 6051 h' ∧ sframe ([], []) h h' ∧ (((0 ≤ v.toInt ∧ v.toInt ≤ 5)) ∨ (((-1) ≤ v.toInt ∧ v.toInt ≤ (-1)))) := by
  have ha : sargs (cap vC_14) [xf 8 3, xi x0] := ⟨rfl, a0, trivial⟩
  obtain ⟨ρ, rs, h', ⟨hv, hw⟩, c, g, f, cs, hcs, k1, k2, k3, k4, k5, k6⟩ := vc_14 l [xf 8 3, xi x0] h ha hg (fun q hq => absurd hq List.not_mem_nil) (fun q hq => absurd hq List.not_mem_nil) (fun ρ hρ g hg' => absurd hg' List.not_mem_nil)
  have e0 : ρ 0 = x0.toInt := hv.1
  rcases List.mem_cons.mp hcs with rfl | hcs
  · obtain ⟨v, rfl, kv⟩ := sres_i k3
    exact ⟨v, h', c, g, f, Or.inl kv⟩
  rcases List.mem_cons.mp hcs with rfl | hcs
  · obtain ⟨v, rfl, kv⟩ := sres_i k3
    exact ⟨v, h', c, g, f, Or.inr (kv)⟩
  exact absurd hcs List.not_mem_nil
theorem vq_18 (l : Launch) (x0 : Int32) (x1 : Int32) (h : XH) (hg : sgood vT vR vE 153 6051 h) (a0 : 1 ≤ x0.toInt ∧ x0.toInt ≤ 1) (a1 : 9 ≤ x1.toInt ∧ x1.toInt ≤ 9) (w0 : 0 ≤ (xI h 45 2).toInt ∧ (xI h 45 2).toInt ≤ 5) : ∃ (v : Int32) (h' : XH), CX l 7 218 false 42 [xf 7 45, xi x0, xi x1] h [xi v] h' ∧ sgood vT vR vE 153 6051 h' ∧ sframe ([(45, 2, false), (45, 3, false), (45, 6, false), (45, 7, false), (45, 8, false), (45, 9, false)], []) h h' ∧ ((((-2147483648) ≤ v.toInt ∧ v.toInt ≤ 2147483647) ∧ (1 ≤ (xI h' 45 2).toInt ∧ (xI h' 45 2).toInt ≤ 5)) ∨ ((1 ≤ v.toInt ∧ v.toInt ≤ 2147483647) ∧ (1 ≤ (xI h' 45 2).toInt ∧ (xI h' 45 2).toInt ≤ 5)) ∨ ((0 ≤ (xI h 45 2).toInt ∧ (xI h 45 2).toInt ≤ 0) ∧ (1 ≤ v.toInt ∧ v.toInt ≤ 9) ∧ (0 ≤ (xI h' 45 2).toInt ∧ (xI h' 45 2).toInt ≤ 0))) := by
  have ha : sargs (cap vC_18) [xf 7 45, xi x0, xi x1] := ⟨rfl, a0, a1, trivial⟩
  obtain ⟨ρ, rs, h', ⟨hv, hw⟩, c, g, f, cs, hcs, k1, k2, k3, k4, k5, k6⟩ := vc_18 l [xf 7 45, xi x0, xi x1] h ha hg (fun q hq => absurd hq List.not_mem_nil) (fun q hq => by
    rcases List.mem_cons.mp hq with rfl | hq
    · exact w0
    exact absurd hq List.not_mem_nil) (fun ρ hρ g hg' => absurd hg' List.not_mem_nil)
  have e0 : ρ 0 = x0.toInt := hv.1
  have e1 : ρ 1 = x1.toInt := hv.2.1
  have f0 : ρ 2 = (xI h 45 2).toInt := hw 0 _ rfl
  rcases List.mem_cons.mp hcs with rfl | hcs
  · obtain ⟨v, rfl, kv⟩ := sres_i k3
    exact ⟨v, h', c, g, f, Or.inl ⟨kv, (k4 _ List.mem_cons_self)⟩⟩
  rcases List.mem_cons.mp hcs with rfl | hcs
  · obtain ⟨v, rfl, kv⟩ := sres_i k3
    exact ⟨v, h', c, g, f, Or.inr (Or.inl ⟨kv, (k4 _ List.mem_cons_self)⟩)⟩
  rcases List.mem_cons.mp hcs with rfl | hcs
  · obtain ⟨v, rfl, kv⟩ := sres_i k3
    exact ⟨v, h', c, g, f, Or.inr (Or.inr (⟨(by have z := k2 0 _ rfl; rw [show sarn (cap vC_18) + 0 = 2 from rfl, f0] at z; exact z), kv, (k4 _ List.mem_cons_self)⟩))⟩
  exact absurd hcs List.not_mem_nil
theorem vf2 {h : XH} {v w : Int32} (hv : ¬ v = 0) : ¬ xI (xsetI (xsetI h 45 2 v) 45 3 w) 45 2 = 0 := by
  rw [yI_ne (by decide), yI_same]
  exact hv
theorem vGf {W : SW} {h h' : XH} (a : vG W h h') {v w : Int32} (hv : 0 ≤ v.toInt ∧ v.toInt ≤ 5) (hw : w = xI (xsetI h' 45 2 v) 45 8) (w1 : swin W.1 45 2 = true) (w2 : swin W.1 45 3 = true) : vG W h (xsetI (xsetI h' 45 2 v) 45 3 w) := by
  refine (a.set (c := 45) (k := 2) hv (stou_no (by decide +kernel)) (by decide +kernel) w1).set ?_ (stou_no (by decide +kernel)) (by decide +kernel) w2
  rw [hw, yI_ne (by decide)]
  have b : 0 ≤ (xI h' 45 8).toInt ∧ (xI h' 45 8).toInt ≤ 700 := vbnd a.1.1 45 8
  show -1 ≤ (xI h' 45 8).toInt ∧ (xI h' 45 8).toInt ≤ 700
  omega
theorem sframe.mono {V W : SW} {h h' : XH} (a : sframe V h h') (h1 : swsub V.1 W.1 = true) (h2 : V.2 = []) : sframe W h h' :=
  ⟨fun c k hc => a.1 c k (swsub_in h1 hc), fun c k _ => a.2 c k (by rw [h2]; rfl)⟩
set_option maxRecDepth 100000 in
set_option maxHeartbeats 2000000 in
theorem vh_told (l : Launch) (b : Int32) (h : XH) (hg : sgood vT vR vE 153 6051 h) : ∃ h', CX l 7 218 false 44 [xf 7 45, xi b] h [xi b] h' ∧ vG ([(45, 2, false), (45, 3, false), (45, 6, false), (45, 7, false), (45, 8, false), (45, 9, false)], []) h h' ∧ (xI h' 45 2 = 0 → xI h 45 2 = 0 ∧ xI h 45 7 = Int32.ofInt (3) ∧ ¬ b = Int32.ofInt (-1)) := by
  by_cases c1 : (xI h 45 7) = (Int32.ofInt (3))
  · by_cases c2 : b = (Int32.ofInt (-1))
    · by_cases c3 : (xI h 45 2) = 0
      · have t4 : XT l 7 218 false 44 153 6051 0 [xf 7 45, xi b] [] h 38 [xf 7 45, xi b] [xi b] (xsetI (xsetI h 45 2 (Int32.ofInt (4))) 45 3 (xI (xsetI h 45 2 (Int32.ofInt (4))) 45 8)) := XT_path (l := l) (fr := 7) (lo := 218) (full := false) (M := 44) (n := 153) (u := 6051) (pc := 0) (L := [xf 7 45, xi b]) (st := []) (h := h) (inl := [39]) (n' := 80) (sp := [38]) (o := [1, 0, 0, 1]) rfl rfl ⟨rfl, rfl, rfl⟩ rfl ⟨Nat.le_of_eq hg.2.2.2.1, Nat.le_of_eq hg.2.2.2.2⟩ ⟨⟨⟨⟨trivial, c1⟩, c2⟩, c3⟩, (vf2 (by decide))⟩
        have G : vG ([(45, 2, false), (45, 3, false), (45, 6, false), (45, 7, false), (45, 8, false), (45, 9, false)], []) h (xsetI (xsetI h 45 2 (Int32.ofInt (4))) 45 3 (xI (xsetI h 45 2 (Int32.ofInt (4))) 45 8)) := vGf (vG.rf hg) (by decide) rfl rfl rfl
        exact ⟨_, CX_ofT (h' := (xsetI (xsetI h 45 2 (Int32.ofInt (4))) 45 3 (xI (xsetI h 45 2 (Int32.ofInt (4))) 45 8))) (by decide) rfl rfl trivial ⟨_, _, _, rfl, rfl, rfl⟩ rfl ⟨Nat.le_of_eq G.1.2.2.2.1.symm, Nat.le_of_eq G.1.2.2.2.2.symm⟩ t4, G, fun e => absurd e (vf2 (by decide))⟩
      · have t5 : XT l 7 218 false 44 153 6051 0 [xf 7 45, xi b] [] h 38 [xf 7 45, xi b] [xi b] h := XT_path (l := l) (fr := 7) (lo := 218) (full := false) (M := 44) (n := 153) (u := 6051) (pc := 0) (L := [xf 7 45, xi b]) (st := []) (h := h) (inl := [39]) (n' := 80) (sp := [38]) (o := [1, 0, 1, 1]) rfl rfl ⟨rfl, rfl, rfl⟩ rfl ⟨Nat.le_of_eq hg.2.2.2.1, Nat.le_of_eq hg.2.2.2.2⟩ ⟨⟨⟨⟨trivial, c1⟩, c2⟩, c3⟩, c3⟩
        exact ⟨h, CX_ofT (h' := h) (by decide) rfl rfl trivial ⟨_, _, _, rfl, rfl, rfl⟩ rfl ⟨Nat.le_of_eq hg.2.2.2.1.symm, Nat.le_of_eq hg.2.2.2.2.symm⟩ t5, vG.rf hg, fun e => absurd e c3⟩
    · by_cases c6 : (xI h 45 2) = 0
      · have t7 : XT l 7 218 false 44 153 6051 0 [xf 7 45, xi b] [] h 34 [xf 7 45, xi b] [xf 7 45] h := XT_path (l := l) (fr := 7) (lo := 218) (full := false) (M := 44) (n := 153) (u := 6051) (pc := 0) (L := [xf 7 45, xi b]) (st := []) (h := h) (inl := [39]) (n' := 80) (sp := [34]) (o := [1, 1, 0]) rfl rfl ⟨rfl, rfl, rfl⟩ rfl ⟨Nat.le_of_eq hg.2.2.2.1, Nat.le_of_eq hg.2.2.2.2⟩ ⟨⟨⟨trivial, c1⟩, c2⟩, c6⟩
        obtain ⟨h1, x1, g1, f1, -⟩ := vq_11 l h hg
        have t8 : XT l 7 218 false 44 153 6051 34 [xf 7 45, xi b] [xf 7 45] h 37 [xf 7 45, xi b] [] h1 := XT_call (l := l) (fr := 7) (lo := 218) (full := false) (M := 44) (n := 153) (u := 6051) (pc := 34) (L := [xf 7 45, xi b]) (st := [xf 7 45]) (h := h) (i := .invokevirtual 19) (aux := 1) (nx := 37) (K := 19) (vs := [xf 7 45]) (rs := []) (rest := []) rfl rfl rfl rfl rfl rfl x1 (by decide) (by decide) (Nat.le_of_ble_eq_true rfl) ⟨Nat.le_of_eq g1.2.2.2.1, Nat.le_of_eq g1.2.2.2.2⟩
        have t9 := t7.tr t8
        have t10 : XT l 7 218 false 44 153 6051 37 [xf 7 45, xi b] [] h1 38 [xf 7 45, xi b] [xi b] h1 := XT_path (l := l) (fr := 7) (lo := 218) (full := false) (M := 44) (n := 153) (u := 6051) (pc := 37) (L := [xf 7 45, xi b]) (st := []) (h := h1) (inl := [39]) (n' := 80) (sp := [38]) (o := []) rfl rfl ⟨rfl, rfl, rfl⟩ rfl ⟨Nat.le_of_eq g1.2.2.2.1, Nat.le_of_eq g1.2.2.2.2⟩ trivial
        have t11 := t9.tr t10
        have G : vG ([(45, 2, false), (45, 3, false), (45, 6, false), (45, 7, false), (45, 8, false), (45, 9, false)], []) h h1 := ⟨g1, f1.mono rfl rfl⟩
        exact ⟨h1, CX_ofT (h' := h1) (by decide) rfl rfl trivial ⟨_, _, _, rfl, rfl, rfl⟩ rfl ⟨Nat.le_of_eq g1.2.2.2.1.symm, Nat.le_of_eq g1.2.2.2.2.symm⟩ t11, G, fun e => ⟨(f1.1 45 2 rfl).symm.trans e, c1, c2⟩⟩
      · have t12 : XT l 7 218 false 44 153 6051 0 [xf 7 45, xi b] [] h 38 [xf 7 45, xi b] [xi b] h := XT_path (l := l) (fr := 7) (lo := 218) (full := false) (M := 44) (n := 153) (u := 6051) (pc := 0) (L := [xf 7 45, xi b]) (st := []) (h := h) (inl := [39]) (n' := 80) (sp := [38]) (o := [1, 1, 1]) rfl rfl ⟨rfl, rfl, rfl⟩ rfl ⟨Nat.le_of_eq hg.2.2.2.1, Nat.le_of_eq hg.2.2.2.2⟩ ⟨⟨⟨trivial, c1⟩, c2⟩, c6⟩
        exact ⟨h, CX_ofT (h' := h) (by decide) rfl rfl trivial ⟨_, _, _, rfl, rfl, rfl⟩ rfl ⟨Nat.le_of_eq hg.2.2.2.1.symm, Nat.le_of_eq hg.2.2.2.2.symm⟩ t12, vG.rf hg, fun e => absurd e c6⟩
  · by_cases c13 : (xI h 45 2) = 0
    · have t14 : XT l 7 218 false 44 153 6051 0 [xf 7 45, xi b] [] h 38 [xf 7 45, xi b] [xi b] (xsetI (xsetI h 45 2 (Int32.ofInt (1))) 45 3 (xI (xsetI h 45 2 (Int32.ofInt (1))) 45 8)) := XT_path (l := l) (fr := 7) (lo := 218) (full := false) (M := 44) (n := 153) (u := 6051) (pc := 0) (L := [xf 7 45, xi b]) (st := []) (h := h) (inl := [39]) (n' := 80) (sp := [38]) (o := [0, 0, 1]) rfl rfl ⟨rfl, rfl, rfl⟩ rfl ⟨Nat.le_of_eq hg.2.2.2.1, Nat.le_of_eq hg.2.2.2.2⟩ ⟨⟨⟨trivial, c1⟩, c13⟩, (vf2 (by decide))⟩
      have G : vG ([(45, 2, false), (45, 3, false), (45, 6, false), (45, 7, false), (45, 8, false), (45, 9, false)], []) h (xsetI (xsetI h 45 2 (Int32.ofInt (1))) 45 3 (xI (xsetI h 45 2 (Int32.ofInt (1))) 45 8)) := vGf (vG.rf hg) (by decide) rfl rfl rfl
      exact ⟨_, CX_ofT (h' := (xsetI (xsetI h 45 2 (Int32.ofInt (1))) 45 3 (xI (xsetI h 45 2 (Int32.ofInt (1))) 45 8))) (by decide) rfl rfl trivial ⟨_, _, _, rfl, rfl, rfl⟩ rfl ⟨Nat.le_of_eq G.1.2.2.2.1.symm, Nat.le_of_eq G.1.2.2.2.2.symm⟩ t14, G, fun e => absurd e (vf2 (by decide))⟩
    · have t15 : XT l 7 218 false 44 153 6051 0 [xf 7 45, xi b] [] h 38 [xf 7 45, xi b] [xi b] h := XT_path (l := l) (fr := 7) (lo := 218) (full := false) (M := 44) (n := 153) (u := 6051) (pc := 0) (L := [xf 7 45, xi b]) (st := []) (h := h) (inl := [39]) (n' := 80) (sp := [38]) (o := [0, 1, 1]) rfl rfl ⟨rfl, rfl, rfl⟩ rfl ⟨Nat.le_of_eq hg.2.2.2.1, Nat.le_of_eq hg.2.2.2.2⟩ ⟨⟨⟨trivial, c1⟩, c13⟩, c13⟩
      exact ⟨h, CX_ofT (h' := h) (by decide) rfl rfl trivial ⟨_, _, _, rfl, rfl, rfl⟩ rfl ⟨Nat.le_of_eq hg.2.2.2.1.symm, Nat.le_of_eq hg.2.2.2.2.symm⟩ t15, vG.rf hg, fun e => absurd e c13⟩
set_option maxRecDepth 100000 in
set_option maxHeartbeats 2000000 in
theorem vh_joinL24 (l : Launch) (h : XH) (hg : sgood vT vR vE 153 6051 h) (a b : Int32) : ∀ (m : Nat) (i : Int32) (x4 x5 : XV), 0 ≤ i.toInt → i.toInt + m = (xI h 24 5).toInt → (∀ j : Nat, (j : Int) < i.toInt → ¬ (xI h 29 j = a ∧ xI h 30 j = b) ∧ ¬ (xI h 29 j = b ∧ xI h 30 j = a)) → ∃ v pc L', XT l 0 0 false 45 153 6051 2 [xf 8 24, xi a, xi b, xi i, x4, x5] [] h pc L' [xi v] h ∧ XE 45 pc [xi v] ∧ L'.length = 6 ∧ (v = Int32.ofInt (-1) → ∀ j : Nat, (j : Int) < (xI h 24 5).toInt → ¬ (xI h 29 j = a ∧ xI h 30 j = b) ∧ ¬ (xI h 29 j = b ∧ xI h 30 j = a))
  | 0, i, x4, x5, a1, a2, hn => by
    have b5 : 0 ≤ (xI h 24 5).toInt ∧ (xI h 24 5).toInt ≤ 9 := vbnd hg.1 24 5
    have t1 : XT l 0 0 false 45 153 6051 2 [xf 8 24, xi a, xi b, xi i, x4, x5] [] h 83 [xf 8 24, xi a, xi b, xi i, x4, x5] [xi (Int32.ofInt (-1))] h := XT_path (l := l) (fr := 0) (lo := 0) (full := false) (M := 45) (n := 153) (u := 6051) (pc := 2) (L := [xf 8 24, xi a, xi b, xi i, x4, x5]) (st := []) (h := h) (inl := []) (n' := 80) (sp := [83]) (o := [1]) rfl rfl ⟨rfl, rfl, rfl⟩ rfl ⟨Nat.le_of_eq hg.2.2.2.1, Nat.le_of_eq hg.2.2.2.2⟩ ⟨trivial, (Int32.le_iff_toInt_le.mpr (by omega))⟩
    exact ⟨_, _, _, t1, ⟨_, _, _, rfl, rfl, rfl⟩, rfl, fun _ j hj => hn j (by omega)⟩
  | m + 1, i, x4, x5, a1, a2, hn => by
    have b5 : 0 ≤ (xI h 24 5).toInt ∧ (xI h 24 5).toInt ≤ 9 := vbnd hg.1 24 5
    by_cases c2 : (xI h (xR h 24 6) (i).toNatClampNeg) = a
    · by_cases c3 : (xI h (xR h 24 7) (i).toNatClampNeg) = b
      · by_cases c4 : (xI h (xR h 24 6) (i).toNatClampNeg) = b
        · by_cases c5 : (xI h (xR h 24 7) (i).toNatClampNeg) = a
          · have t6 : XT l 0 0 false 45 153 6051 2 [xf 8 24, xi a, xi b, xi i, x4, x5] [] h 75 [xf 8 24, xi a, xi b, xi i, xi (Int32.ofInt (1)), xi (Int32.ofInt (1))] [xi i] h := XT_path (l := l) (fr := 0) (lo := 0) (full := false) (M := 45) (n := 153) (u := 6051) (pc := 2) (L := [xf 8 24, xi a, xi b, xi i, x4, x5]) (st := []) (h := h) (inl := []) (n' := 80) (sp := [75]) (o := [0, 0, 0, 0, 0, 1]) rfl rfl ⟨rfl, rfl, rfl⟩ rfl ⟨Nat.le_of_eq hg.2.2.2.1, Nat.le_of_eq hg.2.2.2.2⟩ ⟨⟨⟨⟨⟨⟨⟨⟨⟨⟨⟨⟨⟨⟨trivial, (fun z => absurd (Int32.le_iff_toInt_le.mp z) (by omega))⟩, (vnn hg.1 (rfl : vRf 24 6 = [29]) (by decide))⟩, (vp_of (n := 9) (by omega) (by omega))⟩, c2⟩, (vnn hg.1 (rfl : vRf 24 7 = [30]) (by decide))⟩, (vp_of (n := 9) (by omega) (by omega))⟩, c3⟩, (vnn hg.1 (rfl : vRf 24 6 = [29]) (by decide))⟩, (vp_of (n := 9) (by omega) (by omega))⟩, c4⟩, (vnn hg.1 (rfl : vRf 24 7 = [30]) (by decide))⟩, (vp_of (n := 9) (by omega) (by omega))⟩, c5⟩, (by decide)⟩
            exact ⟨_, _, _, t6, ⟨_, _, _, rfl, rfl, rfl⟩, rfl, fun e => absurd (congrArg Int32.toInt e) (by rw [show (Int32.ofInt (-1)).toInt = -1 from rfl]; omega)⟩
          · have t7 : XT l 0 0 false 45 153 6051 2 [xf 8 24, xi a, xi b, xi i, x4, x5] [] h 75 [xf 8 24, xi a, xi b, xi i, xi (Int32.ofInt (1)), xi (Int32.ofInt (0))] [xi i] h := XT_path (l := l) (fr := 0) (lo := 0) (full := false) (M := 45) (n := 153) (u := 6051) (pc := 2) (L := [xf 8 24, xi a, xi b, xi i, x4, x5]) (st := []) (h := h) (inl := []) (n' := 80) (sp := [75]) (o := [0, 0, 0, 0, 1, 1]) rfl rfl ⟨rfl, rfl, rfl⟩ rfl ⟨Nat.le_of_eq hg.2.2.2.1, Nat.le_of_eq hg.2.2.2.2⟩ ⟨⟨⟨⟨⟨⟨⟨⟨⟨⟨⟨⟨⟨⟨trivial, (fun z => absurd (Int32.le_iff_toInt_le.mp z) (by omega))⟩, (vnn hg.1 (rfl : vRf 24 6 = [29]) (by decide))⟩, (vp_of (n := 9) (by omega) (by omega))⟩, c2⟩, (vnn hg.1 (rfl : vRf 24 7 = [30]) (by decide))⟩, (vp_of (n := 9) (by omega) (by omega))⟩, c3⟩, (vnn hg.1 (rfl : vRf 24 6 = [29]) (by decide))⟩, (vp_of (n := 9) (by omega) (by omega))⟩, c4⟩, (vnn hg.1 (rfl : vRf 24 7 = [30]) (by decide))⟩, (vp_of (n := 9) (by omega) (by omega))⟩, c5⟩, (by decide)⟩
            exact ⟨_, _, _, t7, ⟨_, _, _, rfl, rfl, rfl⟩, rfl, fun e => absurd (congrArg Int32.toInt e) (by rw [show (Int32.ofInt (-1)).toInt = -1 from rfl]; omega)⟩
        · have t8 : XT l 0 0 false 45 153 6051 2 [xf 8 24, xi a, xi b, xi i, x4, x5] [] h 75 [xf 8 24, xi a, xi b, xi i, xi (Int32.ofInt (1)), xi (Int32.ofInt (0))] [xi i] h := XT_path (l := l) (fr := 0) (lo := 0) (full := false) (M := 45) (n := 153) (u := 6051) (pc := 2) (L := [xf 8 24, xi a, xi b, xi i, x4, x5]) (st := []) (h := h) (inl := []) (n' := 80) (sp := [75]) (o := [0, 0, 0, 1, 1]) rfl rfl ⟨rfl, rfl, rfl⟩ rfl ⟨Nat.le_of_eq hg.2.2.2.1, Nat.le_of_eq hg.2.2.2.2⟩ ⟨⟨⟨⟨⟨⟨⟨⟨⟨⟨⟨trivial, (fun z => absurd (Int32.le_iff_toInt_le.mp z) (by omega))⟩, (vnn hg.1 (rfl : vRf 24 6 = [29]) (by decide))⟩, (vp_of (n := 9) (by omega) (by omega))⟩, c2⟩, (vnn hg.1 (rfl : vRf 24 7 = [30]) (by decide))⟩, (vp_of (n := 9) (by omega) (by omega))⟩, c3⟩, (vnn hg.1 (rfl : vRf 24 6 = [29]) (by decide))⟩, (vp_of (n := 9) (by omega) (by omega))⟩, c4⟩, (by decide)⟩
          exact ⟨_, _, _, t8, ⟨_, _, _, rfl, rfl, rfl⟩, rfl, fun e => absurd (congrArg Int32.toInt e) (by rw [show (Int32.ofInt (-1)).toInt = -1 from rfl]; omega)⟩
      · by_cases c9 : (xI h (xR h 24 6) (i).toNatClampNeg) = b
        · by_cases c10 : (xI h (xR h 24 7) (i).toNatClampNeg) = a
          · have t11 : XT l 0 0 false 45 153 6051 2 [xf 8 24, xi a, xi b, xi i, x4, x5] [] h 75 [xf 8 24, xi a, xi b, xi i, xi (Int32.ofInt (0)), xi (Int32.ofInt (1))] [xi i] h := XT_path (l := l) (fr := 0) (lo := 0) (full := false) (M := 45) (n := 153) (u := 6051) (pc := 2) (L := [xf 8 24, xi a, xi b, xi i, x4, x5]) (st := []) (h := h) (inl := []) (n' := 80) (sp := [75]) (o := [0, 0, 1, 0, 0, 0, 0]) rfl rfl ⟨rfl, rfl, rfl⟩ rfl ⟨Nat.le_of_eq hg.2.2.2.1, Nat.le_of_eq hg.2.2.2.2⟩ ⟨⟨⟨⟨⟨⟨⟨⟨⟨⟨⟨⟨⟨⟨⟨trivial, (fun z => absurd (Int32.le_iff_toInt_le.mp z) (by omega))⟩, (vnn hg.1 (rfl : vRf 24 6 = [29]) (by decide))⟩, (vp_of (n := 9) (by omega) (by omega))⟩, c2⟩, (vnn hg.1 (rfl : vRf 24 7 = [30]) (by decide))⟩, (vp_of (n := 9) (by omega) (by omega))⟩, c3⟩, (vnn hg.1 (rfl : vRf 24 6 = [29]) (by decide))⟩, (vp_of (n := 9) (by omega) (by omega))⟩, c9⟩, (vnn hg.1 (rfl : vRf 24 7 = [30]) (by decide))⟩, (vp_of (n := 9) (by omega) (by omega))⟩, c10⟩, rfl⟩, (by decide)⟩
            exact ⟨_, _, _, t11, ⟨_, _, _, rfl, rfl, rfl⟩, rfl, fun e => absurd (congrArg Int32.toInt e) (by rw [show (Int32.ofInt (-1)).toInt = -1 from rfl]; omega)⟩
          · have t12 : XT l 0 0 false 45 153 6051 2 [xf 8 24, xi a, xi b, xi i, x4, x5] [] h 2 [xf 8 24, xi a, xi b, xi (i + Int32.ofInt (1)), xi (Int32.ofInt (0)), xi (Int32.ofInt (0))] [] h := XT_path (l := l) (fr := 0) (lo := 0) (full := false) (M := 45) (n := 153) (u := 6051) (pc := 2) (L := [xf 8 24, xi a, xi b, xi i, x4, x5]) (st := []) (h := h) (inl := []) (n' := 80) (sp := [2]) (o := [0, 0, 1, 0, 1, 0, 1]) rfl rfl ⟨rfl, rfl, rfl⟩ rfl ⟨Nat.le_of_eq hg.2.2.2.1, Nat.le_of_eq hg.2.2.2.2⟩ ⟨⟨⟨⟨⟨⟨⟨⟨⟨⟨⟨⟨⟨⟨⟨trivial, (fun z => absurd (Int32.le_iff_toInt_le.mp z) (by omega))⟩, (vnn hg.1 (rfl : vRf 24 6 = [29]) (by decide))⟩, (vp_of (n := 9) (by omega) (by omega))⟩, c2⟩, (vnn hg.1 (rfl : vRf 24 7 = [30]) (by decide))⟩, (vp_of (n := 9) (by omega) (by omega))⟩, c3⟩, (vnn hg.1 (rfl : vRf 24 6 = [29]) (by decide))⟩, (vp_of (n := 9) (by omega) (by omega))⟩, c9⟩, (vnn hg.1 (rfl : vRf 24 7 = [30]) (by decide))⟩, (vp_of (n := 9) (by omega) (by omega))⟩, c10⟩, rfl⟩, rfl⟩
            have ei : (i + Int32.ofInt (1)).toInt = i.toInt + 1 := y_succ (by omega) (by omega)
            have ni : i.toNatClampNeg = i.toInt.toNat := rfl
            have r6 : xR h 24 6 = 29 := vref hg.1 rfl
            have r7 : xR h 24 7 = 30 := vref hg.1 rfl
            rw [r6] at c2
            rw [r7] at c3
            rw [r6] at c9
            rw [r7] at c10
            have hh : ∀ j : Nat, (j : Int) < (i + Int32.ofInt (1)).toInt → ¬ (xI h 29 j = a ∧ xI h 30 j = b) ∧ ¬ (xI h 29 j = b ∧ xI h 30 j = a) := fun j hj => by
              by_cases e : (j : Int) < i.toInt
              · exact hn j e
              · obtain rfl : j = i.toNatClampNeg := by omega
                exact ⟨fun z => c3 z.2, fun z => c10 z.2⟩
            obtain ⟨v, pc, L', z1, z2, z3, z4⟩ := vh_joinL24 l h hg a b m (i + Int32.ofInt (1)) (xi (Int32.ofInt (0))) (xi (Int32.ofInt (0))) (by omega) (by omega) hh
            exact ⟨v, pc, L', t12.tr z1, z2, z3, z4⟩
        · have t13 : XT l 0 0 false 45 153 6051 2 [xf 8 24, xi a, xi b, xi i, x4, x5] [] h 2 [xf 8 24, xi a, xi b, xi (i + Int32.ofInt (1)), xi (Int32.ofInt (0)), xi (Int32.ofInt (0))] [] h := XT_path (l := l) (fr := 0) (lo := 0) (full := false) (M := 45) (n := 153) (u := 6051) (pc := 2) (L := [xf 8 24, xi a, xi b, xi i, x4, x5]) (st := []) (h := h) (inl := []) (n' := 80) (sp := [2]) (o := [0, 0, 1, 1, 0, 1]) rfl rfl ⟨rfl, rfl, rfl⟩ rfl ⟨Nat.le_of_eq hg.2.2.2.1, Nat.le_of_eq hg.2.2.2.2⟩ ⟨⟨⟨⟨⟨⟨⟨⟨⟨⟨⟨⟨trivial, (fun z => absurd (Int32.le_iff_toInt_le.mp z) (by omega))⟩, (vnn hg.1 (rfl : vRf 24 6 = [29]) (by decide))⟩, (vp_of (n := 9) (by omega) (by omega))⟩, c2⟩, (vnn hg.1 (rfl : vRf 24 7 = [30]) (by decide))⟩, (vp_of (n := 9) (by omega) (by omega))⟩, c3⟩, (vnn hg.1 (rfl : vRf 24 6 = [29]) (by decide))⟩, (vp_of (n := 9) (by omega) (by omega))⟩, c9⟩, rfl⟩, rfl⟩
          have ei : (i + Int32.ofInt (1)).toInt = i.toInt + 1 := y_succ (by omega) (by omega)
          have ni : i.toNatClampNeg = i.toInt.toNat := rfl
          have r6 : xR h 24 6 = 29 := vref hg.1 rfl
          have r7 : xR h 24 7 = 30 := vref hg.1 rfl
          rw [r6] at c2
          rw [r7] at c3
          rw [r6] at c9
          have hh : ∀ j : Nat, (j : Int) < (i + Int32.ofInt (1)).toInt → ¬ (xI h 29 j = a ∧ xI h 30 j = b) ∧ ¬ (xI h 29 j = b ∧ xI h 30 j = a) := fun j hj => by
            by_cases e : (j : Int) < i.toInt
            · exact hn j e
            · obtain rfl : j = i.toNatClampNeg := by omega
              exact ⟨fun z => c3 z.2, fun z => c9 z.1⟩
          obtain ⟨v, pc, L', z1, z2, z3, z4⟩ := vh_joinL24 l h hg a b m (i + Int32.ofInt (1)) (xi (Int32.ofInt (0))) (xi (Int32.ofInt (0))) (by omega) (by omega) hh
          exact ⟨v, pc, L', t13.tr z1, z2, z3, z4⟩
    · by_cases c14 : (xI h (xR h 24 6) (i).toNatClampNeg) = b
      · by_cases c15 : (xI h (xR h 24 7) (i).toNatClampNeg) = a
        · have t16 : XT l 0 0 false 45 153 6051 2 [xf 8 24, xi a, xi b, xi i, x4, x5] [] h 75 [xf 8 24, xi a, xi b, xi i, xi (Int32.ofInt (0)), xi (Int32.ofInt (1))] [xi i] h := XT_path (l := l) (fr := 0) (lo := 0) (full := false) (M := 45) (n := 153) (u := 6051) (pc := 2) (L := [xf 8 24, xi a, xi b, xi i, x4, x5]) (st := []) (h := h) (inl := []) (n' := 80) (sp := [75]) (o := [0, 1, 0, 0, 0, 0]) rfl rfl ⟨rfl, rfl, rfl⟩ rfl ⟨Nat.le_of_eq hg.2.2.2.1, Nat.le_of_eq hg.2.2.2.2⟩ ⟨⟨⟨⟨⟨⟨⟨⟨⟨⟨⟨⟨trivial, (fun z => absurd (Int32.le_iff_toInt_le.mp z) (by omega))⟩, (vnn hg.1 (rfl : vRf 24 6 = [29]) (by decide))⟩, (vp_of (n := 9) (by omega) (by omega))⟩, c2⟩, (vnn hg.1 (rfl : vRf 24 6 = [29]) (by decide))⟩, (vp_of (n := 9) (by omega) (by omega))⟩, c14⟩, (vnn hg.1 (rfl : vRf 24 7 = [30]) (by decide))⟩, (vp_of (n := 9) (by omega) (by omega))⟩, c15⟩, rfl⟩, (by decide)⟩
          exact ⟨_, _, _, t16, ⟨_, _, _, rfl, rfl, rfl⟩, rfl, fun e => absurd (congrArg Int32.toInt e) (by rw [show (Int32.ofInt (-1)).toInt = -1 from rfl]; omega)⟩
        · have t17 : XT l 0 0 false 45 153 6051 2 [xf 8 24, xi a, xi b, xi i, x4, x5] [] h 2 [xf 8 24, xi a, xi b, xi (i + Int32.ofInt (1)), xi (Int32.ofInt (0)), xi (Int32.ofInt (0))] [] h := XT_path (l := l) (fr := 0) (lo := 0) (full := false) (M := 45) (n := 153) (u := 6051) (pc := 2) (L := [xf 8 24, xi a, xi b, xi i, x4, x5]) (st := []) (h := h) (inl := []) (n' := 80) (sp := [2]) (o := [0, 1, 0, 1, 0, 1]) rfl rfl ⟨rfl, rfl, rfl⟩ rfl ⟨Nat.le_of_eq hg.2.2.2.1, Nat.le_of_eq hg.2.2.2.2⟩ ⟨⟨⟨⟨⟨⟨⟨⟨⟨⟨⟨⟨trivial, (fun z => absurd (Int32.le_iff_toInt_le.mp z) (by omega))⟩, (vnn hg.1 (rfl : vRf 24 6 = [29]) (by decide))⟩, (vp_of (n := 9) (by omega) (by omega))⟩, c2⟩, (vnn hg.1 (rfl : vRf 24 6 = [29]) (by decide))⟩, (vp_of (n := 9) (by omega) (by omega))⟩, c14⟩, (vnn hg.1 (rfl : vRf 24 7 = [30]) (by decide))⟩, (vp_of (n := 9) (by omega) (by omega))⟩, c15⟩, rfl⟩, rfl⟩
          have ei : (i + Int32.ofInt (1)).toInt = i.toInt + 1 := y_succ (by omega) (by omega)
          have ni : i.toNatClampNeg = i.toInt.toNat := rfl
          have r6 : xR h 24 6 = 29 := vref hg.1 rfl
          have r7 : xR h 24 7 = 30 := vref hg.1 rfl
          rw [r6] at c2
          rw [r6] at c14
          rw [r7] at c15
          have hh : ∀ j : Nat, (j : Int) < (i + Int32.ofInt (1)).toInt → ¬ (xI h 29 j = a ∧ xI h 30 j = b) ∧ ¬ (xI h 29 j = b ∧ xI h 30 j = a) := fun j hj => by
            by_cases e : (j : Int) < i.toInt
            · exact hn j e
            · obtain rfl : j = i.toNatClampNeg := by omega
              exact ⟨fun z => c2 z.1, fun z => c15 z.2⟩
          obtain ⟨v, pc, L', z1, z2, z3, z4⟩ := vh_joinL24 l h hg a b m (i + Int32.ofInt (1)) (xi (Int32.ofInt (0))) (xi (Int32.ofInt (0))) (by omega) (by omega) hh
          exact ⟨v, pc, L', t17.tr z1, z2, z3, z4⟩
      · have t18 : XT l 0 0 false 45 153 6051 2 [xf 8 24, xi a, xi b, xi i, x4, x5] [] h 2 [xf 8 24, xi a, xi b, xi (i + Int32.ofInt (1)), xi (Int32.ofInt (0)), xi (Int32.ofInt (0))] [] h := XT_path (l := l) (fr := 0) (lo := 0) (full := false) (M := 45) (n := 153) (u := 6051) (pc := 2) (L := [xf 8 24, xi a, xi b, xi i, x4, x5]) (st := []) (h := h) (inl := []) (n' := 80) (sp := [2]) (o := [0, 1, 1, 0, 1]) rfl rfl ⟨rfl, rfl, rfl⟩ rfl ⟨Nat.le_of_eq hg.2.2.2.1, Nat.le_of_eq hg.2.2.2.2⟩ ⟨⟨⟨⟨⟨⟨⟨⟨⟨trivial, (fun z => absurd (Int32.le_iff_toInt_le.mp z) (by omega))⟩, (vnn hg.1 (rfl : vRf 24 6 = [29]) (by decide))⟩, (vp_of (n := 9) (by omega) (by omega))⟩, c2⟩, (vnn hg.1 (rfl : vRf 24 6 = [29]) (by decide))⟩, (vp_of (n := 9) (by omega) (by omega))⟩, c14⟩, rfl⟩, rfl⟩
        have ei : (i + Int32.ofInt (1)).toInt = i.toInt + 1 := y_succ (by omega) (by omega)
        have ni : i.toNatClampNeg = i.toInt.toNat := rfl
        have r6 : xR h 24 6 = 29 := vref hg.1 rfl
        have r7 : xR h 24 7 = 30 := vref hg.1 rfl
        rw [r6] at c2
        rw [r6] at c14
        have hh : ∀ j : Nat, (j : Int) < (i + Int32.ofInt (1)).toInt → ¬ (xI h 29 j = a ∧ xI h 30 j = b) ∧ ¬ (xI h 29 j = b ∧ xI h 30 j = a) := fun j hj => by
          by_cases e : (j : Int) < i.toInt
          · exact hn j e
          · obtain rfl : j = i.toNatClampNeg := by omega
            exact ⟨fun z => c2 z.1, fun z => c14 z.1⟩
        obtain ⟨v, pc, L', z1, z2, z3, z4⟩ := vh_joinL24 l h hg a b m (i + Int32.ofInt (1)) (xi (Int32.ofInt (0))) (xi (Int32.ofInt (0))) (by omega) (by omega) hh
        exact ⟨v, pc, L', t18.tr z1, z2, z3, z4⟩
set_option maxRecDepth 100000 in
set_option maxHeartbeats 2000000 in
theorem vh_joinOf24 (l : Launch) (h : XH) (hg : sgood vT vR vE 153 6051 h) (a b : Int32) : ∃ v, CX l 0 0 false 45 [xf 8 24, xi a, xi b] h [xi v] h ∧ (v = Int32.ofInt (-1) → ∀ j : Nat, (j : Int) < (xI h 24 5).toInt → ¬ (xI h 29 j = a ∧ xI h 30 j = b) ∧ ¬ (xI h 29 j = b ∧ xI h 30 j = a)) := by
  have t19 : XT l 0 0 false 45 153 6051 0 [xf 8 24, xi a, xi b, xun, xun, xun] [] h 2 [xf 8 24, xi a, xi b, xi (Int32.ofInt (0)), xun, xun] [] h := XT_path (l := l) (fr := 0) (lo := 0) (full := false) (M := 45) (n := 153) (u := 6051) (pc := 0) (L := [xf 8 24, xi a, xi b, xun, xun, xun]) (st := []) (h := h) (inl := []) (n' := 80) (sp := [2]) (o := []) rfl rfl ⟨rfl, rfl, rfl⟩ rfl ⟨Nat.le_of_eq hg.2.2.2.1, Nat.le_of_eq hg.2.2.2.2⟩ trivial
  have b5 : 0 ≤ (xI h 24 5).toInt ∧ (xI h 24 5).toInt ≤ 9 := vbnd hg.1 24 5
  have e0 : (Int32.ofInt (0)).toInt = 0 := rfl
  obtain ⟨v, pc, L', z1, z2, z3, z4⟩ := vh_joinL24 l h hg a b (xI h 24 5).toInt.toNat (Int32.ofInt (0)) xun xun (by decide) (by omega) (fun j hj => absurd hj (by omega))
  exact ⟨v, CX_ofT (by decide) rfl rfl trivial z2 z3 ⟨Nat.le_of_eq hg.2.2.2.1.symm, Nat.le_of_eq hg.2.2.2.2.symm⟩ (t19.tr z1), z4⟩
set_option maxRecDepth 100000 in
set_option maxHeartbeats 2000000 in
theorem vh_joinL3 (l : Launch) (h : XH) (hg : sgood vT vR vE 153 6051 h) (a b : Int32) : ∀ (m : Nat) (i : Int32) (x4 x5 : XV), 0 ≤ i.toInt → i.toInt + m = (xI h 3 5).toInt → (∀ j : Nat, (j : Int) < i.toInt → ¬ (xI h 8 j = a ∧ xI h 9 j = b) ∧ ¬ (xI h 8 j = b ∧ xI h 9 j = a)) → ∃ v pc L', XT l 0 0 false 45 153 6051 2 [xf 8 3, xi a, xi b, xi i, x4, x5] [] h pc L' [xi v] h ∧ XE 45 pc [xi v] ∧ L'.length = 6 ∧ (v = Int32.ofInt (-1) → ∀ j : Nat, (j : Int) < (xI h 3 5).toInt → ¬ (xI h 8 j = a ∧ xI h 9 j = b) ∧ ¬ (xI h 8 j = b ∧ xI h 9 j = a))
  | 0, i, x4, x5, a1, a2, hn => by
    have b5 : 0 ≤ (xI h 3 5).toInt ∧ (xI h 3 5).toInt ≤ 9 := vbnd hg.1 3 5
    have t1 : XT l 0 0 false 45 153 6051 2 [xf 8 3, xi a, xi b, xi i, x4, x5] [] h 83 [xf 8 3, xi a, xi b, xi i, x4, x5] [xi (Int32.ofInt (-1))] h := XT_path (l := l) (fr := 0) (lo := 0) (full := false) (M := 45) (n := 153) (u := 6051) (pc := 2) (L := [xf 8 3, xi a, xi b, xi i, x4, x5]) (st := []) (h := h) (inl := []) (n' := 80) (sp := [83]) (o := [1]) rfl rfl ⟨rfl, rfl, rfl⟩ rfl ⟨Nat.le_of_eq hg.2.2.2.1, Nat.le_of_eq hg.2.2.2.2⟩ ⟨trivial, (Int32.le_iff_toInt_le.mpr (by omega))⟩
    exact ⟨_, _, _, t1, ⟨_, _, _, rfl, rfl, rfl⟩, rfl, fun _ j hj => hn j (by omega)⟩
  | m + 1, i, x4, x5, a1, a2, hn => by
    have b5 : 0 ≤ (xI h 3 5).toInt ∧ (xI h 3 5).toInt ≤ 9 := vbnd hg.1 3 5
    by_cases c2 : (xI h (xR h 3 6) (i).toNatClampNeg) = a
    · by_cases c3 : (xI h (xR h 3 7) (i).toNatClampNeg) = b
      · by_cases c4 : (xI h (xR h 3 6) (i).toNatClampNeg) = b
        · by_cases c5 : (xI h (xR h 3 7) (i).toNatClampNeg) = a
          · have t6 : XT l 0 0 false 45 153 6051 2 [xf 8 3, xi a, xi b, xi i, x4, x5] [] h 75 [xf 8 3, xi a, xi b, xi i, xi (Int32.ofInt (1)), xi (Int32.ofInt (1))] [xi i] h := XT_path (l := l) (fr := 0) (lo := 0) (full := false) (M := 45) (n := 153) (u := 6051) (pc := 2) (L := [xf 8 3, xi a, xi b, xi i, x4, x5]) (st := []) (h := h) (inl := []) (n' := 80) (sp := [75]) (o := [0, 0, 0, 0, 0, 1]) rfl rfl ⟨rfl, rfl, rfl⟩ rfl ⟨Nat.le_of_eq hg.2.2.2.1, Nat.le_of_eq hg.2.2.2.2⟩ ⟨⟨⟨⟨⟨⟨⟨⟨⟨⟨⟨⟨⟨⟨trivial, (fun z => absurd (Int32.le_iff_toInt_le.mp z) (by omega))⟩, (vnn hg.1 (rfl : vRf 3 6 = [8]) (by decide))⟩, (vp_of (n := 9) (by omega) (by omega))⟩, c2⟩, (vnn hg.1 (rfl : vRf 3 7 = [9]) (by decide))⟩, (vp_of (n := 9) (by omega) (by omega))⟩, c3⟩, (vnn hg.1 (rfl : vRf 3 6 = [8]) (by decide))⟩, (vp_of (n := 9) (by omega) (by omega))⟩, c4⟩, (vnn hg.1 (rfl : vRf 3 7 = [9]) (by decide))⟩, (vp_of (n := 9) (by omega) (by omega))⟩, c5⟩, (by decide)⟩
            exact ⟨_, _, _, t6, ⟨_, _, _, rfl, rfl, rfl⟩, rfl, fun e => absurd (congrArg Int32.toInt e) (by rw [show (Int32.ofInt (-1)).toInt = -1 from rfl]; omega)⟩
          · have t7 : XT l 0 0 false 45 153 6051 2 [xf 8 3, xi a, xi b, xi i, x4, x5] [] h 75 [xf 8 3, xi a, xi b, xi i, xi (Int32.ofInt (1)), xi (Int32.ofInt (0))] [xi i] h := XT_path (l := l) (fr := 0) (lo := 0) (full := false) (M := 45) (n := 153) (u := 6051) (pc := 2) (L := [xf 8 3, xi a, xi b, xi i, x4, x5]) (st := []) (h := h) (inl := []) (n' := 80) (sp := [75]) (o := [0, 0, 0, 0, 1, 1]) rfl rfl ⟨rfl, rfl, rfl⟩ rfl ⟨Nat.le_of_eq hg.2.2.2.1, Nat.le_of_eq hg.2.2.2.2⟩ ⟨⟨⟨⟨⟨⟨⟨⟨⟨⟨⟨⟨⟨⟨trivial, (fun z => absurd (Int32.le_iff_toInt_le.mp z) (by omega))⟩, (vnn hg.1 (rfl : vRf 3 6 = [8]) (by decide))⟩, (vp_of (n := 9) (by omega) (by omega))⟩, c2⟩, (vnn hg.1 (rfl : vRf 3 7 = [9]) (by decide))⟩, (vp_of (n := 9) (by omega) (by omega))⟩, c3⟩, (vnn hg.1 (rfl : vRf 3 6 = [8]) (by decide))⟩, (vp_of (n := 9) (by omega) (by omega))⟩, c4⟩, (vnn hg.1 (rfl : vRf 3 7 = [9]) (by decide))⟩, (vp_of (n := 9) (by omega) (by omega))⟩, c5⟩, (by decide)⟩
            exact ⟨_, _, _, t7, ⟨_, _, _, rfl, rfl, rfl⟩, rfl, fun e => absurd (congrArg Int32.toInt e) (by rw [show (Int32.ofInt (-1)).toInt = -1 from rfl]; omega)⟩
        · have t8 : XT l 0 0 false 45 153 6051 2 [xf 8 3, xi a, xi b, xi i, x4, x5] [] h 75 [xf 8 3, xi a, xi b, xi i, xi (Int32.ofInt (1)), xi (Int32.ofInt (0))] [xi i] h := XT_path (l := l) (fr := 0) (lo := 0) (full := false) (M := 45) (n := 153) (u := 6051) (pc := 2) (L := [xf 8 3, xi a, xi b, xi i, x4, x5]) (st := []) (h := h) (inl := []) (n' := 80) (sp := [75]) (o := [0, 0, 0, 1, 1]) rfl rfl ⟨rfl, rfl, rfl⟩ rfl ⟨Nat.le_of_eq hg.2.2.2.1, Nat.le_of_eq hg.2.2.2.2⟩ ⟨⟨⟨⟨⟨⟨⟨⟨⟨⟨⟨trivial, (fun z => absurd (Int32.le_iff_toInt_le.mp z) (by omega))⟩, (vnn hg.1 (rfl : vRf 3 6 = [8]) (by decide))⟩, (vp_of (n := 9) (by omega) (by omega))⟩, c2⟩, (vnn hg.1 (rfl : vRf 3 7 = [9]) (by decide))⟩, (vp_of (n := 9) (by omega) (by omega))⟩, c3⟩, (vnn hg.1 (rfl : vRf 3 6 = [8]) (by decide))⟩, (vp_of (n := 9) (by omega) (by omega))⟩, c4⟩, (by decide)⟩
          exact ⟨_, _, _, t8, ⟨_, _, _, rfl, rfl, rfl⟩, rfl, fun e => absurd (congrArg Int32.toInt e) (by rw [show (Int32.ofInt (-1)).toInt = -1 from rfl]; omega)⟩
      · by_cases c9 : (xI h (xR h 3 6) (i).toNatClampNeg) = b
        · by_cases c10 : (xI h (xR h 3 7) (i).toNatClampNeg) = a
          · have t11 : XT l 0 0 false 45 153 6051 2 [xf 8 3, xi a, xi b, xi i, x4, x5] [] h 75 [xf 8 3, xi a, xi b, xi i, xi (Int32.ofInt (0)), xi (Int32.ofInt (1))] [xi i] h := XT_path (l := l) (fr := 0) (lo := 0) (full := false) (M := 45) (n := 153) (u := 6051) (pc := 2) (L := [xf 8 3, xi a, xi b, xi i, x4, x5]) (st := []) (h := h) (inl := []) (n' := 80) (sp := [75]) (o := [0, 0, 1, 0, 0, 0, 0]) rfl rfl ⟨rfl, rfl, rfl⟩ rfl ⟨Nat.le_of_eq hg.2.2.2.1, Nat.le_of_eq hg.2.2.2.2⟩ ⟨⟨⟨⟨⟨⟨⟨⟨⟨⟨⟨⟨⟨⟨⟨trivial, (fun z => absurd (Int32.le_iff_toInt_le.mp z) (by omega))⟩, (vnn hg.1 (rfl : vRf 3 6 = [8]) (by decide))⟩, (vp_of (n := 9) (by omega) (by omega))⟩, c2⟩, (vnn hg.1 (rfl : vRf 3 7 = [9]) (by decide))⟩, (vp_of (n := 9) (by omega) (by omega))⟩, c3⟩, (vnn hg.1 (rfl : vRf 3 6 = [8]) (by decide))⟩, (vp_of (n := 9) (by omega) (by omega))⟩, c9⟩, (vnn hg.1 (rfl : vRf 3 7 = [9]) (by decide))⟩, (vp_of (n := 9) (by omega) (by omega))⟩, c10⟩, rfl⟩, (by decide)⟩
            exact ⟨_, _, _, t11, ⟨_, _, _, rfl, rfl, rfl⟩, rfl, fun e => absurd (congrArg Int32.toInt e) (by rw [show (Int32.ofInt (-1)).toInt = -1 from rfl]; omega)⟩
          · have t12 : XT l 0 0 false 45 153 6051 2 [xf 8 3, xi a, xi b, xi i, x4, x5] [] h 2 [xf 8 3, xi a, xi b, xi (i + Int32.ofInt (1)), xi (Int32.ofInt (0)), xi (Int32.ofInt (0))] [] h := XT_path (l := l) (fr := 0) (lo := 0) (full := false) (M := 45) (n := 153) (u := 6051) (pc := 2) (L := [xf 8 3, xi a, xi b, xi i, x4, x5]) (st := []) (h := h) (inl := []) (n' := 80) (sp := [2]) (o := [0, 0, 1, 0, 1, 0, 1]) rfl rfl ⟨rfl, rfl, rfl⟩ rfl ⟨Nat.le_of_eq hg.2.2.2.1, Nat.le_of_eq hg.2.2.2.2⟩ ⟨⟨⟨⟨⟨⟨⟨⟨⟨⟨⟨⟨⟨⟨⟨trivial, (fun z => absurd (Int32.le_iff_toInt_le.mp z) (by omega))⟩, (vnn hg.1 (rfl : vRf 3 6 = [8]) (by decide))⟩, (vp_of (n := 9) (by omega) (by omega))⟩, c2⟩, (vnn hg.1 (rfl : vRf 3 7 = [9]) (by decide))⟩, (vp_of (n := 9) (by omega) (by omega))⟩, c3⟩, (vnn hg.1 (rfl : vRf 3 6 = [8]) (by decide))⟩, (vp_of (n := 9) (by omega) (by omega))⟩, c9⟩, (vnn hg.1 (rfl : vRf 3 7 = [9]) (by decide))⟩, (vp_of (n := 9) (by omega) (by omega))⟩, c10⟩, rfl⟩, rfl⟩
            have ei : (i + Int32.ofInt (1)).toInt = i.toInt + 1 := y_succ (by omega) (by omega)
            have ni : i.toNatClampNeg = i.toInt.toNat := rfl
            have r6 : xR h 3 6 = 8 := vref hg.1 rfl
            have r7 : xR h 3 7 = 9 := vref hg.1 rfl
            rw [r6] at c2
            rw [r7] at c3
            rw [r6] at c9
            rw [r7] at c10
            have hh : ∀ j : Nat, (j : Int) < (i + Int32.ofInt (1)).toInt → ¬ (xI h 8 j = a ∧ xI h 9 j = b) ∧ ¬ (xI h 8 j = b ∧ xI h 9 j = a) := fun j hj => by
              by_cases e : (j : Int) < i.toInt
              · exact hn j e
              · obtain rfl : j = i.toNatClampNeg := by omega
                exact ⟨fun z => c3 z.2, fun z => c10 z.2⟩
            obtain ⟨v, pc, L', z1, z2, z3, z4⟩ := vh_joinL3 l h hg a b m (i + Int32.ofInt (1)) (xi (Int32.ofInt (0))) (xi (Int32.ofInt (0))) (by omega) (by omega) hh
            exact ⟨v, pc, L', t12.tr z1, z2, z3, z4⟩
        · have t13 : XT l 0 0 false 45 153 6051 2 [xf 8 3, xi a, xi b, xi i, x4, x5] [] h 2 [xf 8 3, xi a, xi b, xi (i + Int32.ofInt (1)), xi (Int32.ofInt (0)), xi (Int32.ofInt (0))] [] h := XT_path (l := l) (fr := 0) (lo := 0) (full := false) (M := 45) (n := 153) (u := 6051) (pc := 2) (L := [xf 8 3, xi a, xi b, xi i, x4, x5]) (st := []) (h := h) (inl := []) (n' := 80) (sp := [2]) (o := [0, 0, 1, 1, 0, 1]) rfl rfl ⟨rfl, rfl, rfl⟩ rfl ⟨Nat.le_of_eq hg.2.2.2.1, Nat.le_of_eq hg.2.2.2.2⟩ ⟨⟨⟨⟨⟨⟨⟨⟨⟨⟨⟨⟨trivial, (fun z => absurd (Int32.le_iff_toInt_le.mp z) (by omega))⟩, (vnn hg.1 (rfl : vRf 3 6 = [8]) (by decide))⟩, (vp_of (n := 9) (by omega) (by omega))⟩, c2⟩, (vnn hg.1 (rfl : vRf 3 7 = [9]) (by decide))⟩, (vp_of (n := 9) (by omega) (by omega))⟩, c3⟩, (vnn hg.1 (rfl : vRf 3 6 = [8]) (by decide))⟩, (vp_of (n := 9) (by omega) (by omega))⟩, c9⟩, rfl⟩, rfl⟩
          have ei : (i + Int32.ofInt (1)).toInt = i.toInt + 1 := y_succ (by omega) (by omega)
          have ni : i.toNatClampNeg = i.toInt.toNat := rfl
          have r6 : xR h 3 6 = 8 := vref hg.1 rfl
          have r7 : xR h 3 7 = 9 := vref hg.1 rfl
          rw [r6] at c2
          rw [r7] at c3
          rw [r6] at c9
          have hh : ∀ j : Nat, (j : Int) < (i + Int32.ofInt (1)).toInt → ¬ (xI h 8 j = a ∧ xI h 9 j = b) ∧ ¬ (xI h 8 j = b ∧ xI h 9 j = a) := fun j hj => by
            by_cases e : (j : Int) < i.toInt
            · exact hn j e
            · obtain rfl : j = i.toNatClampNeg := by omega
              exact ⟨fun z => c3 z.2, fun z => c9 z.1⟩
          obtain ⟨v, pc, L', z1, z2, z3, z4⟩ := vh_joinL3 l h hg a b m (i + Int32.ofInt (1)) (xi (Int32.ofInt (0))) (xi (Int32.ofInt (0))) (by omega) (by omega) hh
          exact ⟨v, pc, L', t13.tr z1, z2, z3, z4⟩
    · by_cases c14 : (xI h (xR h 3 6) (i).toNatClampNeg) = b
      · by_cases c15 : (xI h (xR h 3 7) (i).toNatClampNeg) = a
        · have t16 : XT l 0 0 false 45 153 6051 2 [xf 8 3, xi a, xi b, xi i, x4, x5] [] h 75 [xf 8 3, xi a, xi b, xi i, xi (Int32.ofInt (0)), xi (Int32.ofInt (1))] [xi i] h := XT_path (l := l) (fr := 0) (lo := 0) (full := false) (M := 45) (n := 153) (u := 6051) (pc := 2) (L := [xf 8 3, xi a, xi b, xi i, x4, x5]) (st := []) (h := h) (inl := []) (n' := 80) (sp := [75]) (o := [0, 1, 0, 0, 0, 0]) rfl rfl ⟨rfl, rfl, rfl⟩ rfl ⟨Nat.le_of_eq hg.2.2.2.1, Nat.le_of_eq hg.2.2.2.2⟩ ⟨⟨⟨⟨⟨⟨⟨⟨⟨⟨⟨⟨trivial, (fun z => absurd (Int32.le_iff_toInt_le.mp z) (by omega))⟩, (vnn hg.1 (rfl : vRf 3 6 = [8]) (by decide))⟩, (vp_of (n := 9) (by omega) (by omega))⟩, c2⟩, (vnn hg.1 (rfl : vRf 3 6 = [8]) (by decide))⟩, (vp_of (n := 9) (by omega) (by omega))⟩, c14⟩, (vnn hg.1 (rfl : vRf 3 7 = [9]) (by decide))⟩, (vp_of (n := 9) (by omega) (by omega))⟩, c15⟩, rfl⟩, (by decide)⟩
          exact ⟨_, _, _, t16, ⟨_, _, _, rfl, rfl, rfl⟩, rfl, fun e => absurd (congrArg Int32.toInt e) (by rw [show (Int32.ofInt (-1)).toInt = -1 from rfl]; omega)⟩
        · have t17 : XT l 0 0 false 45 153 6051 2 [xf 8 3, xi a, xi b, xi i, x4, x5] [] h 2 [xf 8 3, xi a, xi b, xi (i + Int32.ofInt (1)), xi (Int32.ofInt (0)), xi (Int32.ofInt (0))] [] h := XT_path (l := l) (fr := 0) (lo := 0) (full := false) (M := 45) (n := 153) (u := 6051) (pc := 2) (L := [xf 8 3, xi a, xi b, xi i, x4, x5]) (st := []) (h := h) (inl := []) (n' := 80) (sp := [2]) (o := [0, 1, 0, 1, 0, 1]) rfl rfl ⟨rfl, rfl, rfl⟩ rfl ⟨Nat.le_of_eq hg.2.2.2.1, Nat.le_of_eq hg.2.2.2.2⟩ ⟨⟨⟨⟨⟨⟨⟨⟨⟨⟨⟨⟨trivial, (fun z => absurd (Int32.le_iff_toInt_le.mp z) (by omega))⟩, (vnn hg.1 (rfl : vRf 3 6 = [8]) (by decide))⟩, (vp_of (n := 9) (by omega) (by omega))⟩, c2⟩, (vnn hg.1 (rfl : vRf 3 6 = [8]) (by decide))⟩, (vp_of (n := 9) (by omega) (by omega))⟩, c14⟩, (vnn hg.1 (rfl : vRf 3 7 = [9]) (by decide))⟩, (vp_of (n := 9) (by omega) (by omega))⟩, c15⟩, rfl⟩, rfl⟩
          have ei : (i + Int32.ofInt (1)).toInt = i.toInt + 1 := y_succ (by omega) (by omega)
          have ni : i.toNatClampNeg = i.toInt.toNat := rfl
          have r6 : xR h 3 6 = 8 := vref hg.1 rfl
          have r7 : xR h 3 7 = 9 := vref hg.1 rfl
          rw [r6] at c2
          rw [r6] at c14
          rw [r7] at c15
          have hh : ∀ j : Nat, (j : Int) < (i + Int32.ofInt (1)).toInt → ¬ (xI h 8 j = a ∧ xI h 9 j = b) ∧ ¬ (xI h 8 j = b ∧ xI h 9 j = a) := fun j hj => by
            by_cases e : (j : Int) < i.toInt
            · exact hn j e
            · obtain rfl : j = i.toNatClampNeg := by omega
              exact ⟨fun z => c2 z.1, fun z => c15 z.2⟩
          obtain ⟨v, pc, L', z1, z2, z3, z4⟩ := vh_joinL3 l h hg a b m (i + Int32.ofInt (1)) (xi (Int32.ofInt (0))) (xi (Int32.ofInt (0))) (by omega) (by omega) hh
          exact ⟨v, pc, L', t17.tr z1, z2, z3, z4⟩
      · have t18 : XT l 0 0 false 45 153 6051 2 [xf 8 3, xi a, xi b, xi i, x4, x5] [] h 2 [xf 8 3, xi a, xi b, xi (i + Int32.ofInt (1)), xi (Int32.ofInt (0)), xi (Int32.ofInt (0))] [] h := XT_path (l := l) (fr := 0) (lo := 0) (full := false) (M := 45) (n := 153) (u := 6051) (pc := 2) (L := [xf 8 3, xi a, xi b, xi i, x4, x5]) (st := []) (h := h) (inl := []) (n' := 80) (sp := [2]) (o := [0, 1, 1, 0, 1]) rfl rfl ⟨rfl, rfl, rfl⟩ rfl ⟨Nat.le_of_eq hg.2.2.2.1, Nat.le_of_eq hg.2.2.2.2⟩ ⟨⟨⟨⟨⟨⟨⟨⟨⟨trivial, (fun z => absurd (Int32.le_iff_toInt_le.mp z) (by omega))⟩, (vnn hg.1 (rfl : vRf 3 6 = [8]) (by decide))⟩, (vp_of (n := 9) (by omega) (by omega))⟩, c2⟩, (vnn hg.1 (rfl : vRf 3 6 = [8]) (by decide))⟩, (vp_of (n := 9) (by omega) (by omega))⟩, c14⟩, rfl⟩, rfl⟩
        have ei : (i + Int32.ofInt (1)).toInt = i.toInt + 1 := y_succ (by omega) (by omega)
        have ni : i.toNatClampNeg = i.toInt.toNat := rfl
        have r6 : xR h 3 6 = 8 := vref hg.1 rfl
        have r7 : xR h 3 7 = 9 := vref hg.1 rfl
        rw [r6] at c2
        rw [r6] at c14
        have hh : ∀ j : Nat, (j : Int) < (i + Int32.ofInt (1)).toInt → ¬ (xI h 8 j = a ∧ xI h 9 j = b) ∧ ¬ (xI h 8 j = b ∧ xI h 9 j = a) := fun j hj => by
          by_cases e : (j : Int) < i.toInt
          · exact hn j e
          · obtain rfl : j = i.toNatClampNeg := by omega
            exact ⟨fun z => c2 z.1, fun z => c14 z.1⟩
        obtain ⟨v, pc, L', z1, z2, z3, z4⟩ := vh_joinL3 l h hg a b m (i + Int32.ofInt (1)) (xi (Int32.ofInt (0))) (xi (Int32.ofInt (0))) (by omega) (by omega) hh
        exact ⟨v, pc, L', t18.tr z1, z2, z3, z4⟩
set_option maxRecDepth 100000 in
set_option maxHeartbeats 2000000 in
theorem vh_joinOf3 (l : Launch) (h : XH) (hg : sgood vT vR vE 153 6051 h) (a b : Int32) : ∃ v, CX l 0 0 false 45 [xf 8 3, xi a, xi b] h [xi v] h ∧ (v = Int32.ofInt (-1) → ∀ j : Nat, (j : Int) < (xI h 3 5).toInt → ¬ (xI h 8 j = a ∧ xI h 9 j = b) ∧ ¬ (xI h 8 j = b ∧ xI h 9 j = a)) := by
  have t19 : XT l 0 0 false 45 153 6051 0 [xf 8 3, xi a, xi b, xun, xun, xun] [] h 2 [xf 8 3, xi a, xi b, xi (Int32.ofInt (0)), xun, xun] [] h := XT_path (l := l) (fr := 0) (lo := 0) (full := false) (M := 45) (n := 153) (u := 6051) (pc := 0) (L := [xf 8 3, xi a, xi b, xun, xun, xun]) (st := []) (h := h) (inl := []) (n' := 80) (sp := [2]) (o := []) rfl rfl ⟨rfl, rfl, rfl⟩ rfl ⟨Nat.le_of_eq hg.2.2.2.1, Nat.le_of_eq hg.2.2.2.2⟩ trivial
  have b5 : 0 ≤ (xI h 3 5).toInt ∧ (xI h 3 5).toInt ≤ 9 := vbnd hg.1 3 5
  have e0 : (Int32.ofInt (0)).toInt = 0 := rfl
  obtain ⟨v, pc, L', z1, z2, z3, z4⟩ := vh_joinL3 l h hg a b (xI h 3 5).toInt.toNat (Int32.ofInt (0)) xun xun (by decide) (by omega) (fun j hj => absurd hj (by omega))
  exact ⟨v, CX_ofT (by decide) rfl rfl trivial z2 z3 ⟨Nat.le_of_eq hg.2.2.2.1.symm, Nat.le_of_eq hg.2.2.2.2.symm⟩ (t19.tr z1), z4⟩
theorem vjo_add {h h' : XH} {c a b : Nat} {k : Nat} (H : vjo h c a b) (hk : (xI h c 5).toInt = k) (h1 : (xI h' c 5).toInt = k + 1) (ea : ∀ i, i ≠ k → xI h' a i = xI h a i) (eb : ∀ i, i ≠ k → xI h' b i = xI h b i) (hn : xI h' a k ≠ xI h' b k) (hd : ∀ i, i < k → ¬ (xI h a i = xI h' a k ∧ xI h b i = xI h' b k) ∧ ¬ (xI h a i = xI h' b k ∧ xI h b i = xI h' a k)) : vjo h' c a b := by
  intro j hj
  rw [h1] at hj
  by_cases e : j = k
  · subst e
    refine ⟨hn, fun i hi => ?_⟩
    rw [ea i (by omega), eb i (by omega)]
    exact hd i hi
  · have h2 := H j (by omega)
    rw [ea j e, eb j e]
    refine ⟨h2.1, fun i hi => ?_⟩
    rw [ea i (by omega), eb i (by omega)]
    exact h2.2 i hi
set_option maxRecDepth 100000 in
set_option maxHeartbeats 2000000 in
theorem vjadd24 {h : XH} (hg : sgood vT vR vE 153 6051 h) {k : Nat} {u v w n : Int32} (hk : (xI h 24 5).toInt = k) (k9 : k < 9) (hn : n.toInt = k + 1) (hu : 0 ≤ u.toInt ∧ u.toInt ≤ 5) (hv : 0 ≤ v.toInt ∧ v.toInt ≤ 5) (hw : 0 ≤ w.toInt ∧ w.toInt ≤ 9) (huv : ¬ u = v) (hd : ∀ j : Nat, (j : Int) < (xI h 24 5).toInt → ¬ (xI h 29 j = u ∧ xI h 30 j = v) ∧ ¬ (xI h 29 j = v ∧ xI h 30 j = u)) : vG ([(3, 5, false), (8, 0, true), (9, 0, true), (10, 0, true), (24, 5, false), (29, 0, true), (30, 0, true), (31, 0, true), (45, 2, false), (45, 3, false), (45, 6, false), (45, 7, false), (45, 8, false), (45, 9, false)], []) h (xsetI (xsetI (xsetI (xsetI h 29 k u) 30 k v) 31 k w) 24 5 n) := by
  have E : ∀ c' k', c' ≠ 29 → c' ≠ 30 → c' ≠ 31 → ¬ (c' = 24 ∧ k' = 5) → xI (xsetI (xsetI (xsetI (xsetI h 29 k u) 30 k v) 31 k w) 24 5 n) c' k' = xI h c' k' := fun c' k' z1 z2 z3 z4 => by
    rw [yI_ne (eq_false z4), yI_c (eq_false z3), yI_c (eq_false z2), yI_c (eq_false z1)]
  have ea : xI (xsetI (xsetI (xsetI (xsetI h 29 k u) 30 k v) 31 k w) 24 5 n) 29 k = u := by
    rw [yI_c (by decide), yI_c (by decide), yI_c (by decide), yI_same]
  have eb : xI (xsetI (xsetI (xsetI (xsetI h 29 k u) 30 k v) 31 k w) 24 5 n) 30 k = v := by
    rw [yI_c (by decide), yI_c (by decide), yI_same]
  have ea2 : ∀ i, i ≠ k → xI (xsetI (xsetI (xsetI (xsetI h 29 k u) 30 k v) 31 k w) 24 5 n) 29 i = xI h 29 i := fun i hi => by
    rw [yI_c (by decide), yI_c (by decide), yI_c (by decide), yI_ne (eq_false (fun z => hi z.2))]
  have eb2 : ∀ i, i ≠ k → xI (xsetI (xsetI (xsetI (xsetI h 29 k u) 30 k v) 31 k w) 24 5 n) 30 i = xI h 30 i := fun i hi => by
    rw [yI_c (by decide), yI_c (by decide), yI_ne (eq_false (fun z => hi z.2)), yI_c (by decide)]
  have s1 := sinv_setI hg.1 (c := 29) (k := k) (v := u) (by rw [vI_u rfl (rfl : vRow 29 = (0, 5))]; exact hu)
  have s2 := sinv_setI s1 (c := 30) (k := k) (v := v) (by rw [vI_u rfl (rfl : vRow 30 = (0, 5))]; exact hv)
  have s3 := sinv_setI s2 (c := 31) (k := k) (v := w) (by rw [vI_u rfl (rfl : vRow 31 = (0, 9))]; exact hw)
  have s4 := sinv_setI s3 (c := 24) (k := 5) (v := n) (by show (0 : Int) ≤ n.toInt ∧ n.toInt ≤ 9; omega)
  have q1 := srw_setI hg.2.1 (c := 29) (k := k) (v := u) (stou_no (by decide +kernel))
  have q2 := srw_setI q1 (c := 30) (k := k) (v := v) (stou_no (by decide +kernel))
  have q3 := srw_setI q2 (c := 31) (k := k) (v := w) (stou_no (by decide +kernel))
  have q4 := srw_setI q3 (c := 24) (k := 5) (v := n) (stou_no (by decide +kernel))
  have jn : vjo (xsetI (xsetI (xsetI (xsetI h 29 k u) 30 k v) 31 k w) 24 5 n) 24 29 30 := vjo_add (vjok hg).2 hk (by rw [yI_same]; exact hn) ea2 eb2 (by rw [ea, eb]; exact huv) (fun i hi => by rw [ea, eb]; exact hd i (by omega))
  have jo : vjo (xsetI (xsetI (xsetI (xsetI h 29 k u) 30 k v) 31 k w) 24 5 n) 3 8 9 := vjo_fr (E _ _ (by decide) (by decide) (by decide) (by decide)) (fun k => E _ _ (by decide) (by decide) (by decide) (fun z => absurd z.1 (by decide))) (fun k => E _ _ (by decide) (by decide) (by decide) (fun z => absurd z.1 (by decide))) (vjok hg).1
  refine ⟨⟨s4, q4, ⟨vEp_of (fun k => E _ _ (by decide) (by decide) (by decide) (by omega)) (fun k => E _ _ (by decide) (by decide) (by decide) (by omega)) (fun k => E _ _ (by decide) (by decide) (by decide) (by omega)) hg.2.2.1.1, vEu_of (fun k _ => E _ _ (by decide) (by decide) (by decide) (by omega)) (fun k => E _ _ (by decide) (by decide) (by decide) (by omega)) (fun k => E _ _ (by decide) (by decide) (by decide) (by omega)) hg.2.2.1.2.1, vEk_of (fun c' y1 y2 k => E _ _ (by omega) (by omega) (by omega) (by omega)) hg.2.2.1.2.2.1, jo, jn⟩, hg.2.2.2⟩, ?_⟩
  exact (((sframe_set rfl).tr (sframe_set rfl)).tr (sframe_set rfl)).tr (sframe_set rfl)
set_option maxRecDepth 100000 in
set_option maxHeartbeats 2000000 in
theorem vjadd3 {h : XH} (hg : sgood vT vR vE 153 6051 h) {k : Nat} {u v w n : Int32} (hk : (xI h 3 5).toInt = k) (k9 : k < 9) (hn : n.toInt = k + 1) (hu : 0 ≤ u.toInt ∧ u.toInt ≤ 5) (hv : 0 ≤ v.toInt ∧ v.toInt ≤ 5) (hw : 0 ≤ w.toInt ∧ w.toInt ≤ 9) (huv : ¬ u = v) (hd : ∀ j : Nat, (j : Int) < (xI h 3 5).toInt → ¬ (xI h 8 j = u ∧ xI h 9 j = v) ∧ ¬ (xI h 8 j = v ∧ xI h 9 j = u)) : vG ([(3, 5, false), (8, 0, true), (9, 0, true), (10, 0, true), (24, 5, false), (29, 0, true), (30, 0, true), (31, 0, true), (45, 2, false), (45, 3, false), (45, 6, false), (45, 7, false), (45, 8, false), (45, 9, false)], []) h (xsetI (xsetI (xsetI (xsetI h 8 k u) 9 k v) 10 k w) 3 5 n) := by
  have E : ∀ c' k', c' ≠ 8 → c' ≠ 9 → c' ≠ 10 → ¬ (c' = 3 ∧ k' = 5) → xI (xsetI (xsetI (xsetI (xsetI h 8 k u) 9 k v) 10 k w) 3 5 n) c' k' = xI h c' k' := fun c' k' z1 z2 z3 z4 => by
    rw [yI_ne (eq_false z4), yI_c (eq_false z3), yI_c (eq_false z2), yI_c (eq_false z1)]
  have ea : xI (xsetI (xsetI (xsetI (xsetI h 8 k u) 9 k v) 10 k w) 3 5 n) 8 k = u := by
    rw [yI_c (by decide), yI_c (by decide), yI_c (by decide), yI_same]
  have eb : xI (xsetI (xsetI (xsetI (xsetI h 8 k u) 9 k v) 10 k w) 3 5 n) 9 k = v := by
    rw [yI_c (by decide), yI_c (by decide), yI_same]
  have ea2 : ∀ i, i ≠ k → xI (xsetI (xsetI (xsetI (xsetI h 8 k u) 9 k v) 10 k w) 3 5 n) 8 i = xI h 8 i := fun i hi => by
    rw [yI_c (by decide), yI_c (by decide), yI_c (by decide), yI_ne (eq_false (fun z => hi z.2))]
  have eb2 : ∀ i, i ≠ k → xI (xsetI (xsetI (xsetI (xsetI h 8 k u) 9 k v) 10 k w) 3 5 n) 9 i = xI h 9 i := fun i hi => by
    rw [yI_c (by decide), yI_c (by decide), yI_ne (eq_false (fun z => hi z.2)), yI_c (by decide)]
  have s1 := sinv_setI hg.1 (c := 8) (k := k) (v := u) (by rw [vI_u rfl (rfl : vRow 8 = (0, 5))]; exact hu)
  have s2 := sinv_setI s1 (c := 9) (k := k) (v := v) (by rw [vI_u rfl (rfl : vRow 9 = (0, 5))]; exact hv)
  have s3 := sinv_setI s2 (c := 10) (k := k) (v := w) (by rw [vI_u rfl (rfl : vRow 10 = (0, 9))]; exact hw)
  have s4 := sinv_setI s3 (c := 3) (k := 5) (v := n) (by show (0 : Int) ≤ n.toInt ∧ n.toInt ≤ 9; omega)
  have q1 := srw_setI hg.2.1 (c := 8) (k := k) (v := u) (stou_no (by decide +kernel))
  have q2 := srw_setI q1 (c := 9) (k := k) (v := v) (stou_no (by decide +kernel))
  have q3 := srw_setI q2 (c := 10) (k := k) (v := w) (stou_no (by decide +kernel))
  have q4 := srw_setI q3 (c := 3) (k := 5) (v := n) (stou_no (by decide +kernel))
  have jn : vjo (xsetI (xsetI (xsetI (xsetI h 8 k u) 9 k v) 10 k w) 3 5 n) 3 8 9 := vjo_add (vjok hg).1 hk (by rw [yI_same]; exact hn) ea2 eb2 (by rw [ea, eb]; exact huv) (fun i hi => by rw [ea, eb]; exact hd i (by omega))
  have jo : vjo (xsetI (xsetI (xsetI (xsetI h 8 k u) 9 k v) 10 k w) 3 5 n) 24 29 30 := vjo_fr (E _ _ (by decide) (by decide) (by decide) (by decide)) (fun k => E _ _ (by decide) (by decide) (by decide) (fun z => absurd z.1 (by decide))) (fun k => E _ _ (by decide) (by decide) (by decide) (fun z => absurd z.1 (by decide))) (vjok hg).2
  refine ⟨⟨s4, q4, ⟨vEp_of (fun k => E _ _ (by decide) (by decide) (by decide) (by omega)) (fun k => E _ _ (by decide) (by decide) (by decide) (by omega)) (fun k => E _ _ (by decide) (by decide) (by decide) (by omega)) hg.2.2.1.1, vEu_of (fun k _ => E _ _ (by decide) (by decide) (by decide) (by omega)) (fun k => E _ _ (by decide) (by decide) (by decide) (by omega)) (fun k => E _ _ (by decide) (by decide) (by decide) (by omega)) hg.2.2.1.2.1, vEk_of (fun c' y1 y2 k => E _ _ (by omega) (by omega) (by omega) (by omega)) hg.2.2.1.2.2.1, jn, jo⟩, hg.2.2.2⟩, ?_⟩
  exact (((sframe_set rfl).tr (sframe_set rfl)).tr (sframe_set rfl)).tr (sframe_set rfl)
set_option maxRecDepth 100000 in
set_option maxHeartbeats 2000000 in
theorem vh_readJoin (l : Launch) : scm l vT vR vE 153 6051 (43, 8, 260, [.inr (.inr (7, 45))], [], [], [([], [], none, [], [], [])], ([(3, 5, false), (8, 0, true), (9, 0, true), (10, 0, true), (24, 5, false), (29, 0, true), (30, 0, true), (31, 0, true), (45, 2, false), (45, 3, false), (45, 6, false), (45, 7, false), (45, 8, false), (45, 9, false)], []), []) := by
  intro vs h ha hg hR hW hP
  match vs, ha with
  | [.inr w], ha =>
    obtain rfl : w = (7, 45) := ha.1
    have fin : ∀ h', CX l 8 260 false 43 [.inr (7, 45)] h [] h' → vG ([(3, 5, false), (8, 0, true), (9, 0, true), (10, 0, true), (24, 5, false), (29, 0, true), (30, 0, true), (31, 0, true), (45, 2, false), (45, 3, false), (45, 6, false), (45, 7, false), (45, 8, false), (45, 9, false)], []) h h' → ∃ ρ rs h', svals (43, 8, 260, [.inr (.inr (7, 45))], [], [], [([], [], none, [], [], [])], ([(3, 5, false), (8, 0, true), (9, 0, true), (10, 0, true), (24, 5, false), (29, 0, true), (30, 0, true), (31, 0, true), (45, 2, false), (45, 3, false), (45, 6, false), (45, 7, false), (45, 8, false), (45, 9, false)], []), []) [.inr (7, 45)] h ρ ∧ CX l 8 260 false 43 [.inr (7, 45)] h rs h' ∧ spost vT vR vE 153 6051 (43, 8, 260, [.inr (.inr (7, 45))], [], [], [([], [], none, [], [], [])], ([(3, 5, false), (8, 0, true), (9, 0, true), (10, 0, true), (24, 5, false), (29, 0, true), (30, 0, true), (31, 0, true), (45, 2, false), (45, 3, false), (45, 6, false), (45, 7, false), (45, 8, false), (45, 9, false)], []), []) ρ h rs h' := fun h' c g => ⟨fun _ => 0, [], h', ⟨trivial, fun i q hq => by cases hq⟩, c, g.1, g.2, _, List.mem_singleton.mpr rfl, scas_one (fun i q hq => by cases hq) (fun i q hq => by cases hq) trivial⟩
    have hr : xR h 45 4 = 3 ∨ xR h 45 4 = 24 := by
      have z : xR h 45 4 ∈ [3, 24] := hg.1.2 45 4 (by decide)
      rcases List.mem_cons.mp z with z | z
      · exact Or.inl z
      · exact Or.inr (List.mem_singleton.mp z)
    rcases hr with hr | hr
    · have b5 : 0 ≤ (xI h 3 5).toInt ∧ (xI h 3 5).toInt ≤ 9 := vbnd hg.1 3 5
      have e9 : (Int32.ofInt (9)).toInt = 9 := rfl
      by_cases c1 : (xI h (xR h 45 4) 5) < (Int32.ofInt (9))
      · have l9' := Int32.lt_iff_toInt_lt.mp c1
        rw [hr] at l9'
        have t2 : XT l 8 260 false 43 153 6051 0 [xf 7 45, xun, xun, xun, xun] [] h 21 [xf 7 45, xi (xI h (xR h 45 4) 5), xun, xun, xun] [xf 7 45] h := XT_path (l := l) (fr := 8) (lo := 260) (full := false) (M := 43) (n := 153) (u := 6051) (pc := 0) (L := [xf 7 45, xun, xun, xun, xun]) (st := []) (h := h) (inl := [39]) (n' := 80) (sp := [21]) (o := [1]) rfl rfl ⟨rfl, rfl, rfl⟩ rfl ⟨Nat.le_of_eq hg.2.2.2.1, Nat.le_of_eq hg.2.2.2.2⟩ ⟨⟨trivial, (show ¬ xR h 45 4 = 0 from by rw [hr]; decide)⟩, c1⟩
        rw [hr] at t2
        obtain ⟨h1, x1, g1, f1, -⟩ := vq_11 l h hg
        have G1 : vG ([(3, 5, false), (8, 0, true), (9, 0, true), (10, 0, true), (24, 5, false), (29, 0, true), (30, 0, true), (31, 0, true), (45, 2, false), (45, 3, false), (45, 6, false), (45, 7, false), (45, 8, false), (45, 9, false)], []) h h1 := ⟨g1, f1.mono rfl rfl⟩
        have r1 : xR h1 45 4 = 3 := (f1.2 45 4 rfl).trans hr
        have t3 : XT l 8 260 false 43 153 6051 21 [xf 7 45, xi (xI h 3 5), xun, xun, xun] [xf 7 45] h 24 [xf 7 45, xi (xI h 3 5), xun, xun, xun] [] h1 := XT_call (l := l) (fr := 8) (lo := 260) (full := false) (M := 43) (n := 153) (u := 6051) (pc := 21) (L := [xf 7 45, xi (xI h 3 5), xun, xun, xun]) (st := [xf 7 45]) (h := h) (i := .invokevirtual 19) (aux := 1) (nx := 24) (K := 19) (vs := [xf 7 45]) (rs := []) (rest := []) rfl rfl rfl rfl rfl rfl x1 (by decide) (by decide) (Nat.le_of_ble_eq_true rfl) ⟨Nat.le_of_eq g1.2.2.2.1, Nat.le_of_eq g1.2.2.2.2⟩
        have t4 := t2.tr t3
        have t5 : XT l 8 260 false 43 153 6051 24 [xf 7 45, xi (xI h 3 5), xun, xun, xun] [] h1 33 [xf 7 45, xi (xI h 3 5), xun, xun, xun] [xi (xI h1 45 9), xf 8 (xR h1 45 4), xf 7 45] h1 := XT_path (l := l) (fr := 8) (lo := 260) (full := false) (M := 43) (n := 153) (u := 6051) (pc := 24) (L := [xf 7 45, xi (xI h 3 5), xun, xun, xun]) (st := []) (h := h1) (inl := [39]) (n' := 80) (sp := [33]) (o := []) rfl rfl ⟨rfl, rfl, rfl⟩ rfl ⟨Nat.le_of_eq g1.2.2.2.1, Nat.le_of_eq g1.2.2.2.2⟩ ⟨trivial, (show ¬ xR h1 45 4 = 0 from by rw [r1]; decide)⟩
        rw [r1] at t5
        have t6 := t4.tr t5
        obtain ⟨u0, h1', x2, g2, f2, o2⟩ := vq_14 l (xI h1 45 9) h1 g1 (vb_all (by decide))
        have r2 : xR h1' 45 4 = 3 := (f2.2 45 4 rfl).trans r1
        have t7 : XT l 8 260 false 43 153 6051 33 [xf 7 45, xi (xI h 3 5), xun, xun, xun] [xi (xI h1 45 9), xf 8 3, xf 7 45] h1 36 [xf 7 45, xi (xI h 3 5), xun, xun, xun] [xi u0, xf 7 45] h1' := XT_call (l := l) (fr := 8) (lo := 260) (full := false) (M := 43) (n := 153) (u := 6051) (pc := 33) (L := [xf 7 45, xi (xI h 3 5), xun, xun, xun]) (st := [xi (xI h1 45 9), xf 8 3, xf 7 45]) (h := h1) (i := .invokevirtual 40) (aux := 2) (nx := 36) (K := 40) (vs := [xf 8 3, xi (xI h1 45 9)]) (rs := [xi u0]) (rest := [xf 7 45]) rfl rfl rfl rfl rfl rfl x2 (by decide) (by decide) (Nat.le_of_ble_eq_true rfl) ⟨Nat.le_of_eq g2.2.2.2.1, Nat.le_of_eq g2.2.2.2.2⟩
        have t8 := t6.tr t7
        obtain ⟨h2, x3, G3, d3⟩ := vh_told l u0 h1' g2
        have r3 : xR h2 45 4 = 3 := (G3.2.2 45 4 rfl).trans r2
        have t9 : XT l 8 260 false 43 153 6051 36 [xf 7 45, xi (xI h 3 5), xun, xun, xun] [xi u0, xf 7 45] h1' 39 [xf 7 45, xi (xI h 3 5), xun, xun, xun] [xi u0] h2 := XT_call (l := l) (fr := 8) (lo := 260) (full := false) (M := 43) (n := 153) (u := 6051) (pc := 36) (L := [xf 7 45, xi (xI h 3 5), xun, xun, xun]) (st := [xi u0, xf 7 45]) (h := h1') (i := .invokevirtual 44) (aux := 2) (nx := 39) (K := 44) (vs := [xf 7 45, xi u0]) (rs := [xi u0]) (rest := []) rfl rfl rfl rfl rfl rfl x3 (by decide) (by decide) (Nat.le_of_ble_eq_true rfl) ⟨Nat.le_of_eq G3.1.2.2.2.1, Nat.le_of_eq G3.1.2.2.2.2⟩
        have t10 := t8.tr t9
        have t11 : XT l 8 260 false 43 153 6051 39 [xf 7 45, xi (xI h 3 5), xun, xun, xun] [xi u0] h2 48 [xf 7 45, xi (xI h 3 5), xi u0, xun, xun] [xi (xI h2 45 9), xf 8 (xR h2 45 4)] h2 := XT_path (l := l) (fr := 8) (lo := 260) (full := false) (M := 43) (n := 153) (u := 6051) (pc := 39) (L := [xf 7 45, xi (xI h 3 5), xun, xun, xun]) (st := [xi u0]) (h := h2) (inl := [39]) (n' := 80) (sp := [48]) (o := []) rfl rfl ⟨rfl, rfl, rfl⟩ rfl ⟨Nat.le_of_eq G3.1.2.2.2.1, Nat.le_of_eq G3.1.2.2.2.2⟩ ⟨trivial, (show ¬ xR h2 45 4 = 0 from by rw [r3]; decide)⟩
        rw [r3] at t11
        have t12 := t10.tr t11
        obtain ⟨v0, h2', x4, g4, f4, o4⟩ := vq_14 l (xI h2 45 9) h2 G3.1 (vb_all (by decide))
        have r5 : xR h2' 45 4 = 3 := (f4.2 45 4 rfl).trans r3
        have F4 : vG ([(3, 5, false), (8, 0, true), (9, 0, true), (10, 0, true), (24, 5, false), (29, 0, true), (30, 0, true), (31, 0, true), (45, 2, false), (45, 3, false), (45, 6, false), (45, 7, false), (45, 8, false), (45, 9, false)], []) h h2' := ⟨g4, ((G1.2.tr (f2.mono rfl rfl)).tr (G3.2.mono rfl rfl)).tr (f4.mono rfl rfl)⟩
        have k4 : xI h2' 45 2 = 0 → ¬ u0 = Int32.ofInt (-1) := fun e => (d3 ((f4.1 45 2 rfl).symm.trans e)).2.2
        have j4 : ∀ i, xI h2' 8 i = xI h 8 i := fun i => ((f4.1 8 i rfl).trans (G3.2.1 8 i rfl)).trans ((f2.1 8 i rfl).trans (f1.1 8 i rfl))
        have j5 : ∀ i, xI h2' 9 i = xI h 9 i := fun i => ((f4.1 9 i rfl).trans (G3.2.1 9 i rfl)).trans ((f2.1 9 i rfl).trans (f1.1 9 i rfl))
        have j6 : xI h2' 3 5 = xI h 3 5 := ((f4.1 3 5 rfl).trans (G3.2.1 3 5 rfl)).trans ((f2.1 3 5 rfl).trans (f1.1 3 5 rfl))
        have t13 : XT l 8 260 false 43 153 6051 48 [xf 7 45, xi (xI h 3 5), xi u0, xun, xun] [xi (xI h2 45 9), xf 8 3] h2 51 [xf 7 45, xi (xI h 3 5), xi u0, xun, xun] [xi v0] h2' := XT_call (l := l) (fr := 8) (lo := 260) (full := false) (M := 43) (n := 153) (u := 6051) (pc := 48) (L := [xf 7 45, xi (xI h 3 5), xi u0, xun, xun]) (st := [xi (xI h2 45 9), xf 8 3]) (h := h2) (i := .invokevirtual 40) (aux := 2) (nx := 51) (K := 40) (vs := [xf 8 3, xi (xI h2 45 9)]) (rs := [xi v0]) (rest := []) rfl rfl rfl rfl rfl rfl x4 (by decide) (by decide) (Nat.le_of_ble_eq_true rfl) ⟨Nat.le_of_eq g4.2.2.2.1, Nat.le_of_eq g4.2.2.2.2⟩
        have t14 := t12.tr t13
        have key : ∃ h3, XT l 8 260 false 43 153 6051 0 [xf 7 45, xun, xun, xun, xun] [] h 103 [xf 7 45, xi (xI h 3 5), xi u0, xi v0, xun] [] h3 ∧ vG ([(3, 5, false), (8, 0, true), (9, 0, true), (10, 0, true), (24, 5, false), (29, 0, true), (30, 0, true), (31, 0, true), (45, 2, false), (45, 3, false), (45, 6, false), (45, 7, false), (45, 8, false), (45, 9, false)], []) h h3 ∧ xR h3 45 4 = 3 ∧ (∀ i, xI h3 8 i = xI h 8 i) ∧ (∀ i, xI h3 9 i = xI h 9 i) ∧ xI h3 3 5 = xI h 3 5 ∧ (xI h3 45 2 = 0 → ¬ u0 = Int32.ofInt (-1) ∧ (xI h3 45 7 = Int32.ofInt (3) → ¬ v0 = Int32.ofInt (-1) → ¬ u0 = v0 ∧ ∀ j : Nat, (j : Int) < (xI h 3 5).toInt → ¬ (xI h 8 j = u0 ∧ xI h 9 j = v0) ∧ ¬ (xI h 8 j = v0 ∧ xI h 9 j = u0))) := by
          by_cases c15 : (xI h2' 45 2) = 0
          · by_cases c16 : (xI h2' 45 7) = (Int32.ofInt (3))
            · by_cases c17 : v0 = (Int32.ofInt (-1))
              · have t18 : XT l 8 260 false 43 153 6051 51 [xf 7 45, xi (xI h 3 5), xi u0, xun, xun] [xi v0] h2' 103 [xf 7 45, xi (xI h 3 5), xi u0, xi v0, xun] [] h2' := XT_path (l := l) (fr := 8) (lo := 260) (full := false) (M := 43) (n := 153) (u := 6051) (pc := 51) (L := [xf 7 45, xi (xI h 3 5), xi u0, xun, xun]) (st := [xi v0]) (h := h2') (inl := [39]) (n' := 80) (sp := [103]) (o := [0, 0, 1]) rfl rfl ⟨rfl, rfl, rfl⟩ rfl ⟨Nat.le_of_eq g4.2.2.2.1, Nat.le_of_eq g4.2.2.2.2⟩ ⟨⟨⟨trivial, c15⟩, c16⟩, c17⟩
                have t19 := t14.tr t18
                exact ⟨_, t19, F4, r5, j4, j5, j6, fun e => ⟨k4 e, fun _ z => absurd c17 z⟩⟩
              · have t20 : XT l 8 260 false 43 153 6051 51 [xf 7 45, xi (xI h 3 5), xi u0, xun, xun] [xi v0] h2' 78 [xf 7 45, xi (xI h 3 5), xi u0, xi v0, xun] [xi v0, xi u0, xf 8 (xR h2' 45 4)] h2' := XT_path (l := l) (fr := 8) (lo := 260) (full := false) (M := 43) (n := 153) (u := 6051) (pc := 51) (L := [xf 7 45, xi (xI h 3 5), xi u0, xun, xun]) (st := [xi v0]) (h := h2') (inl := [39]) (n' := 80) (sp := [78]) (o := [0, 0, 0]) rfl rfl ⟨rfl, rfl, rfl⟩ rfl ⟨Nat.le_of_eq g4.2.2.2.1, Nat.le_of_eq g4.2.2.2.2⟩ ⟨⟨⟨⟨trivial, c15⟩, c16⟩, c17⟩, (show ¬ xR h2' 45 4 = 0 from by rw [r5]; decide)⟩
                rw [r5] at t20
                have t21 := t14.tr t20
                obtain ⟨jv, x5, d5⟩ := vh_joinOf3 l h2' g4 u0 v0
                have t22 : XT l 8 260 false 43 153 6051 78 [xf 7 45, xi (xI h 3 5), xi u0, xi v0, xun] [xi v0, xi u0, xf 8 3] h2' 81 [xf 7 45, xi (xI h 3 5), xi u0, xi v0, xun] [xi jv] h2' := XT_call (l := l) (fr := 8) (lo := 260) (full := false) (M := 43) (n := 153) (u := 6051) (pc := 78) (L := [xf 7 45, xi (xI h 3 5), xi u0, xi v0, xun]) (st := [xi v0, xi u0, xf 8 3]) (h := h2') (i := .invokevirtual 45) (aux := 3) (nx := 81) (K := 45) (vs := [xf 8 3, xi u0, xi v0]) (rs := [xi jv]) (rest := []) rfl rfl rfl rfl rfl rfl x5 (by decide) (by decide) (Nat.le_of_ble_eq_true rfl) ⟨Nat.le_of_eq g4.2.2.2.1, Nat.le_of_eq g4.2.2.2.2⟩
                have t23 := t21.tr t22
                by_cases c24 : jv = (Int32.ofInt (-1))
                · by_cases c25 : u0 = v0
                  · have t26 : XT l 8 260 false 43 153 6051 81 [xf 7 45, xi (xI h 3 5), xi u0, xi v0, xun] [xi jv] h2' 103 [xf 7 45, xi (xI h 3 5), xi u0, xi v0, xun] [] (xsetI (xsetI h2' 45 2 (Int32.ofInt (5))) 45 3 (xI (xsetI h2' 45 2 (Int32.ofInt (5))) 45 8)) := XT_path (l := l) (fr := 8) (lo := 260) (full := false) (M := 43) (n := 153) (u := 6051) (pc := 81) (L := [xf 7 45, xi (xI h 3 5), xi u0, xi v0, xun]) (st := [xi jv]) (h := h2') (inl := [39]) (n' := 80) (sp := [103]) (o := [1, 0, 0]) rfl rfl ⟨rfl, rfl, rfl⟩ rfl ⟨Nat.le_of_eq g4.2.2.2.1, Nat.le_of_eq g4.2.2.2.2⟩ ⟨⟨⟨trivial, c24⟩, c25⟩, c15⟩
                    have t27 := t23.tr t26
                    exact ⟨_, t27, vGf F4 (by decide) rfl rfl rfl, r5, fun i => (yI_c (by decide)).trans ((yI_c (by decide)).trans (j4 i)), fun i => (yI_c (by decide)).trans ((yI_c (by decide)).trans (j5 i)), (yI_c (by decide)).trans ((yI_c (by decide)).trans j6), fun e => absurd e (vf2 (by decide))⟩
                  · have t28 : XT l 8 260 false 43 153 6051 81 [xf 7 45, xi (xI h 3 5), xi u0, xi v0, xun] [xi jv] h2' 103 [xf 7 45, xi (xI h 3 5), xi u0, xi v0, xun] [] h2' := XT_path (l := l) (fr := 8) (lo := 260) (full := false) (M := 43) (n := 153) (u := 6051) (pc := 81) (L := [xf 7 45, xi (xI h 3 5), xi u0, xi v0, xun]) (st := [xi jv]) (h := h2') (inl := [39]) (n' := 80) (sp := [103]) (o := [1, 1]) rfl rfl ⟨rfl, rfl, rfl⟩ rfl ⟨Nat.le_of_eq g4.2.2.2.1, Nat.le_of_eq g4.2.2.2.2⟩ ⟨⟨trivial, c24⟩, c25⟩
                    have t29 := t23.tr t28
                    exact ⟨_, t29, F4, r5, j4, j5, j6, fun e => ⟨k4 e, fun _ _ => ⟨c25, fun j hj => by have z := d5 c24 j (by rw [j6]; exact hj); rw [j4, j5] at z; exact z⟩⟩⟩
                · have t30 : XT l 8 260 false 43 153 6051 81 [xf 7 45, xi (xI h 3 5), xi u0, xi v0, xun] [xi jv] h2' 103 [xf 7 45, xi (xI h 3 5), xi u0, xi v0, xun] [] (xsetI (xsetI h2' 45 2 (Int32.ofInt (3))) 45 3 (xI (xsetI h2' 45 2 (Int32.ofInt (3))) 45 8)) := XT_path (l := l) (fr := 8) (lo := 260) (full := false) (M := 43) (n := 153) (u := 6051) (pc := 81) (L := [xf 7 45, xi (xI h 3 5), xi u0, xi v0, xun]) (st := [xi jv]) (h := h2') (inl := [39]) (n' := 80) (sp := [103]) (o := [0, 0]) rfl rfl ⟨rfl, rfl, rfl⟩ rfl ⟨Nat.le_of_eq g4.2.2.2.1, Nat.le_of_eq g4.2.2.2.2⟩ ⟨⟨trivial, c24⟩, c15⟩
                  have t31 := t23.tr t30
                  exact ⟨_, t31, vGf F4 (by decide) rfl rfl rfl, r5, fun i => (yI_c (by decide)).trans ((yI_c (by decide)).trans (j4 i)), fun i => (yI_c (by decide)).trans ((yI_c (by decide)).trans (j5 i)), (yI_c (by decide)).trans ((yI_c (by decide)).trans j6), fun e => absurd e (vf2 (by decide))⟩
            · have t32 : XT l 8 260 false 43 153 6051 51 [xf 7 45, xi (xI h 3 5), xi u0, xun, xun] [xi v0] h2' 103 [xf 7 45, xi (xI h 3 5), xi u0, xi v0, xun] [] h2' := XT_path (l := l) (fr := 8) (lo := 260) (full := false) (M := 43) (n := 153) (u := 6051) (pc := 51) (L := [xf 7 45, xi (xI h 3 5), xi u0, xun, xun]) (st := [xi v0]) (h := h2') (inl := [39]) (n' := 80) (sp := [103]) (o := [0, 1]) rfl rfl ⟨rfl, rfl, rfl⟩ rfl ⟨Nat.le_of_eq g4.2.2.2.1, Nat.le_of_eq g4.2.2.2.2⟩ ⟨⟨trivial, c15⟩, c16⟩
              have t33 := t14.tr t32
              exact ⟨_, t33, F4, r5, j4, j5, j6, fun e => ⟨k4 e, fun z => absurd z c16⟩⟩
          · have t34 : XT l 8 260 false 43 153 6051 51 [xf 7 45, xi (xI h 3 5), xi u0, xun, xun] [xi v0] h2' 103 [xf 7 45, xi (xI h 3 5), xi u0, xi v0, xun] [] h2' := XT_path (l := l) (fr := 8) (lo := 260) (full := false) (M := 43) (n := 153) (u := 6051) (pc := 51) (L := [xf 7 45, xi (xI h 3 5), xi u0, xun, xun]) (st := [xi v0]) (h := h2') (inl := [39]) (n' := 80) (sp := [103]) (o := [1]) rfl rfl ⟨rfl, rfl, rfl⟩ rfl ⟨Nat.le_of_eq g4.2.2.2.1, Nat.le_of_eq g4.2.2.2.2⟩ ⟨trivial, c15⟩
            have t35 := t14.tr t34
            exact ⟨_, t35, F4, r5, j4, j5, j6, fun e => absurd e c15⟩
        obtain ⟨h3, T3, F3, r6, J1, J2, J3, D3⟩ := key
        have t36 : XT l 8 260 false 43 153 6051 103 [xf 7 45, xi (xI h 3 5), xi u0, xi v0, xun] [] h3 105 [xf 7 45, xi (xI h 3 5), xi u0, xi v0, xun] [xi v0, xf 7 45] h3 := XT_path (l := l) (fr := 8) (lo := 260) (full := false) (M := 43) (n := 153) (u := 6051) (pc := 103) (L := [xf 7 45, xi (xI h 3 5), xi u0, xi v0, xun]) (st := []) (h := h3) (inl := [39]) (n' := 80) (sp := [105]) (o := []) rfl rfl ⟨rfl, rfl, rfl⟩ rfl ⟨Nat.le_of_eq F3.1.2.2.2.1, Nat.le_of_eq F3.1.2.2.2.2⟩ trivial
        have t37 := T3.tr t36
        obtain ⟨h4, x6, G6, d6⟩ := vh_told l v0 h3 F3.1
        have r7 : xR h4 45 4 = 3 := (G6.2.2 45 4 rfl).trans r6
        have t38 : XT l 8 260 false 43 153 6051 105 [xf 7 45, xi (xI h 3 5), xi u0, xi v0, xun] [xi v0, xf 7 45] h3 108 [xf 7 45, xi (xI h 3 5), xi u0, xi v0, xun] [xi v0] h4 := XT_call (l := l) (fr := 8) (lo := 260) (full := false) (M := 43) (n := 153) (u := 6051) (pc := 105) (L := [xf 7 45, xi (xI h 3 5), xi u0, xi v0, xun]) (st := [xi v0, xf 7 45]) (h := h3) (i := .invokevirtual 44) (aux := 2) (nx := 108) (K := 44) (vs := [xf 7 45, xi v0]) (rs := [xi v0]) (rest := []) rfl rfl rfl rfl rfl rfl x6 (by decide) (by decide) (Nat.le_of_ble_eq_true rfl) ⟨Nat.le_of_eq G6.1.2.2.2.1, Nat.le_of_eq G6.1.2.2.2.2⟩
        have t39 := t37.tr t38
        have t40 : XT l 8 260 false 43 153 6051 108 [xf 7 45, xi (xI h 3 5), xi u0, xi v0, xun] [xi v0] h4 113 [xf 7 45, xi (xI h 3 5), xi u0, xi v0, xun] [xi (Int32.ofInt (9)), xi (Int32.ofInt (1)), xf 7 45] h4 := XT_path (l := l) (fr := 8) (lo := 260) (full := false) (M := 43) (n := 153) (u := 6051) (pc := 108) (L := [xf 7 45, xi (xI h 3 5), xi u0, xi v0, xun]) (st := [xi v0]) (h := h4) (inl := [39]) (n' := 80) (sp := [113]) (o := []) rfl rfl ⟨rfl, rfl, rfl⟩ rfl ⟨Nat.le_of_eq G6.1.2.2.2.1, Nat.le_of_eq G6.1.2.2.2.2⟩ trivial
        have t41 := t39.tr t40
        have w4 : (0 : Int) ≤ (xI h4 45 2).toInt ∧ (xI h4 45 2).toInt ≤ 5 := vbnd G6.1.1 45 2
        obtain ⟨w0, h5, x7, g7, f7, o7⟩ := vq_18 l (Int32.ofInt (1)) (Int32.ofInt (9)) h4 G6.1 (by decide) (by decide) w4
        have r8 : xR h5 45 4 = 3 := (f7.2 45 4 rfl).trans r7
        have F5 : vG ([(3, 5, false), (8, 0, true), (9, 0, true), (10, 0, true), (24, 5, false), (29, 0, true), (30, 0, true), (31, 0, true), (45, 2, false), (45, 3, false), (45, 6, false), (45, 7, false), (45, 8, false), (45, 9, false)], []) h h5 := ⟨g7, (F3.2.tr (G6.2.mono rfl rfl)).tr (f7.mono rfl rfl)⟩
        have t42 : XT l 8 260 false 43 153 6051 113 [xf 7 45, xi (xI h 3 5), xi u0, xi v0, xun] [xi (Int32.ofInt (9)), xi (Int32.ofInt (1)), xf 7 45] h4 116 [xf 7 45, xi (xI h 3 5), xi u0, xi v0, xun] [xi w0] h5 := XT_call (l := l) (fr := 8) (lo := 260) (full := false) (M := 43) (n := 153) (u := 6051) (pc := 113) (L := [xf 7 45, xi (xI h 3 5), xi u0, xi v0, xun]) (st := [xi (Int32.ofInt (9)), xi (Int32.ofInt (1)), xf 7 45]) (h := h4) (i := .invokevirtual 42) (aux := 3) (nx := 116) (K := 42) (vs := [xf 7 45, xi (Int32.ofInt (1)), xi (Int32.ofInt (9))]) (rs := [xi w0]) (rest := []) rfl rfl rfl rfl rfl rfl x7 (by decide) (by decide) (Nat.le_of_ble_eq_true rfl) ⟨Nat.le_of_eq g7.2.2.2.1, Nat.le_of_eq g7.2.2.2.2⟩
        have t43 := t41.tr t42
        have y1 : ∀ i, xI h5 8 i = xI h 8 i := fun i => ((f7.1 8 i rfl).trans (G6.2.1 8 i rfl)).trans (J1 i)
        have y2 : ∀ i, xI h5 9 i = xI h 9 i := fun i => ((f7.1 9 i rfl).trans (G6.2.1 9 i rfl)).trans (J2 i)
        have y3 : xI h5 3 5 = xI h 3 5 := ((f7.1 3 5 rfl).trans (G6.2.1 3 5 rfl)).trans J3
        by_cases c44 : (xI h5 45 2) = 0
        · have t45 : XT l 8 260 false 43 153 6051 116 [xf 7 45, xi (xI h 3 5), xi u0, xi v0, xun] [xi w0] h5 169 [xf 7 45, xi (xI h 3 5), xi u0, xi v0, xi w0] [] (xsetI (xsetI (xsetI (xsetI h5 (xR h5 (xR h5 45 4) 6) ((xI h 3 5)).toNatClampNeg u0) (xR h5 (xR h5 45 4) 7) ((xI h 3 5)).toNatClampNeg v0) (xR h5 (xR h5 45 4) 8) ((xI h 3 5)).toNatClampNeg w0) (xR h5 45 4) 5 ((xI (xsetI (xsetI (xsetI h5 (xR h5 (xR h5 45 4) 6) ((xI h 3 5)).toNatClampNeg u0) (xR h5 (xR h5 45 4) 7) ((xI h 3 5)).toNatClampNeg v0) (xR h5 (xR h5 45 4) 8) ((xI h 3 5)).toNatClampNeg w0) (xR h5 45 4) 5) + (Int32.ofInt (1)))) := XT_path (l := l) (fr := 8) (lo := 260) (full := false) (M := 43) (n := 153) (u := 6051) (pc := 116) (L := [xf 7 45, xi (xI h 3 5), xi u0, xi v0, xun]) (st := [xi w0]) (h := h5) (inl := [39]) (n' := 80) (sp := [169]) (o := [0]) rfl rfl ⟨rfl, rfl, rfl⟩ rfl ⟨Nat.le_of_eq g7.2.2.2.1, Nat.le_of_eq g7.2.2.2.2⟩ ⟨⟨⟨⟨⟨⟨⟨⟨⟨⟨⟨trivial, c44⟩, (show ¬ xR h5 45 4 = 0 from by rw [r8]; decide)⟩, (show ¬ xR h5 (xR h5 45 4) 6 = 0 from by rw [r8]; exact vnn g7.1 (rfl : vRf 3 6 = [8]) (by decide))⟩, (vp_of (n := 9) (by omega) (by omega))⟩, (show ¬ xR h5 45 4 = 0 from by rw [r8]; decide)⟩, (show ¬ xR h5 (xR h5 45 4) 7 = 0 from by rw [r8]; exact vnn g7.1 (rfl : vRf 3 7 = [9]) (by decide))⟩, (vp_of (n := 9) (by omega) (by omega))⟩, (show ¬ xR h5 45 4 = 0 from by rw [r8]; decide)⟩, (show ¬ xR h5 (xR h5 45 4) 8 = 0 from by rw [r8]; exact vnn g7.1 (rfl : vRf 3 8 = [10]) (by decide))⟩, (vp_of (n := 9) (by omega) (by omega))⟩, (show ¬ xR h5 45 4 = 0 from by rw [r8]; decide)⟩
          rw [r8, vref g7.1 (rfl : vRf 3 6 = [8]), vref g7.1 (rfl : vRf 3 7 = [9]), vref g7.1 (rfl : vRf 3 8 = [10])] at t45
          have t46 := t43.tr t45
          have i1 : xI h4 45 2 = 0 := by
            have z5 := veq0 c44
            have z4 : (xI h4 45 2).toInt = 0 := by
              rcases o7 with o | o | o
              · have := o.2; omega
              · have := o.2; omega
              · have := o.1; omega
            exact Int32.toInt_inj.mp (z4.trans rfl)
          have z5 := veq0 c44
          have i2 : (1 : Int) ≤ w0.toInt ∧ w0.toInt ≤ 9 := by
            rcases o7 with o | o | o
            · have := o.2; omega
            · have := o.2; omega
            · exact o.2.1
          obtain ⟨m1, m2, m3⟩ := d6 i1
          obtain ⟨m4, m5⟩ := D3 m1
          obtain ⟨m6, m7⟩ := m5 m2 m3
          have m8 := vne m4
          have m9 := vne m3
          have nk : (xI h 3 5).toNatClampNeg = (xI h 3 5).toInt.toNat := rfl
          have l9 := l9'
          obtain ⟨hf, ef⟩ : ∃ x, x = (xsetI (xsetI (xsetI (xsetI h5 8 ((xI h 3 5)).toNatClampNeg u0) 9 ((xI h 3 5)).toNatClampNeg v0) 10 ((xI h 3 5)).toNatClampNeg w0) 3 5 ((xI (xsetI (xsetI (xsetI h5 8 ((xI h 3 5)).toNatClampNeg u0) 9 ((xI h 3 5)).toNatClampNeg v0) 10 ((xI h 3 5)).toNatClampNeg w0) 3 5) + (Int32.ofInt (1)))) := ⟨_, rfl⟩
          rw [← ef] at t46
          have en : xI (xsetI (xsetI (xsetI h5 8 (xI h 3 5).toNatClampNeg u0) 9 (xI h 3 5).toNatClampNeg v0) 10 (xI h 3 5).toNatClampNeg w0) 3 5 = xI h 3 5 := by rw [yI_c (by decide), yI_c (by decide), yI_c (by decide)]; exact y3
          have ad := vjadd3 g7 (k := (xI h 3 5).toNatClampNeg) (u := u0) (v := v0) (w := w0) (n := xI (xsetI (xsetI (xsetI h5 8 (xI h 3 5).toNatClampNeg u0) 9 (xI h 3 5).toNatClampNeg v0) 10 (xI h 3 5).toNatClampNeg w0) 3 5 + Int32.ofInt (1)) (by rw [y3]; omega) (by omega) (by rw [en, show (xI h 3 5 + Int32.ofInt (1)).toInt = (xI h 3 5).toInt + 1 from y_succ (by omega) (by omega)]; omega) (by rcases o2 with o | o <;> omega) (by rcases o4 with o | o <;> omega) (by omega) m6 (fun j hj => by rw [y1, y2]; exact m7 j (by rw [← y3]; exact hj))
          rw [← ef] at ad
          exact fin hf (CX_ofT (h' := hf) (by decide) rfl rfl trivial ⟨_, _, _, rfl, rfl, rfl⟩ rfl ⟨Nat.le_of_eq ad.1.2.2.2.1.symm, Nat.le_of_eq ad.1.2.2.2.2.symm⟩ t46) ⟨ad.1, F5.2.tr ad.2⟩
        · have t47 : XT l 8 260 false 43 153 6051 116 [xf 7 45, xi (xI h 3 5), xi u0, xi v0, xun] [xi w0] h5 169 [xf 7 45, xi (xI h 3 5), xi u0, xi v0, xi w0] [] h5 := XT_path (l := l) (fr := 8) (lo := 260) (full := false) (M := 43) (n := 153) (u := 6051) (pc := 116) (L := [xf 7 45, xi (xI h 3 5), xi u0, xi v0, xun]) (st := [xi w0]) (h := h5) (inl := [39]) (n' := 80) (sp := [169]) (o := [1]) rfl rfl ⟨rfl, rfl, rfl⟩ rfl ⟨Nat.le_of_eq g7.2.2.2.1, Nat.le_of_eq g7.2.2.2.2⟩ ⟨trivial, c44⟩
          have t48 := t43.tr t47
          exact fin h5 (CX_ofT (h' := h5) (by decide) rfl rfl trivial ⟨_, _, _, rfl, rfl, rfl⟩ rfl ⟨Nat.le_of_eq g7.2.2.2.1.symm, Nat.le_of_eq g7.2.2.2.2.symm⟩ t48) F5
      · by_cases c49 : (xI h 45 2) = 0
        · have t50 : XT l 8 260 false 43 153 6051 0 [xf 7 45, xun, xun, xun, xun] [] h 19 [xf 7 45, xi (xI h (xR h 45 4) 5), xun, xun, xun] [] (xsetI (xsetI h 45 2 (Int32.ofInt (2))) 45 3 (xI (xsetI h 45 2 (Int32.ofInt (2))) 45 8)) := XT_path (l := l) (fr := 8) (lo := 260) (full := false) (M := 43) (n := 153) (u := 6051) (pc := 0) (L := [xf 7 45, xun, xun, xun, xun]) (st := []) (h := h) (inl := [39]) (n' := 80) (sp := [19]) (o := [0, 0]) rfl rfl ⟨rfl, rfl, rfl⟩ rfl ⟨Nat.le_of_eq hg.2.2.2.1, Nat.le_of_eq hg.2.2.2.2⟩ ⟨⟨⟨trivial, (show ¬ xR h 45 4 = 0 from by rw [hr]; decide)⟩, c1⟩, c49⟩
          rw [hr] at t50
          have G0 : vG ([(3, 5, false), (8, 0, true), (9, 0, true), (10, 0, true), (24, 5, false), (29, 0, true), (30, 0, true), (31, 0, true), (45, 2, false), (45, 3, false), (45, 6, false), (45, 7, false), (45, 8, false), (45, 9, false)], []) h (xsetI (xsetI h 45 2 (Int32.ofInt (2))) 45 3 (xI (xsetI h 45 2 (Int32.ofInt (2))) 45 8)) := vGf (vG.rf hg) (by decide) rfl rfl rfl
          exact fin _ (CX_ofT (h' := (xsetI (xsetI h 45 2 (Int32.ofInt (2))) 45 3 (xI (xsetI h 45 2 (Int32.ofInt (2))) 45 8))) (by decide) rfl rfl trivial ⟨_, _, _, rfl, rfl, rfl⟩ rfl ⟨Nat.le_of_eq G0.1.2.2.2.1.symm, Nat.le_of_eq G0.1.2.2.2.2.symm⟩ t50) G0
        · have t51 : XT l 8 260 false 43 153 6051 0 [xf 7 45, xun, xun, xun, xun] [] h 19 [xf 7 45, xi (xI h (xR h 45 4) 5), xun, xun, xun] [] h := XT_path (l := l) (fr := 8) (lo := 260) (full := false) (M := 43) (n := 153) (u := 6051) (pc := 0) (L := [xf 7 45, xun, xun, xun, xun]) (st := []) (h := h) (inl := [39]) (n' := 80) (sp := [19]) (o := [0, 1]) rfl rfl ⟨rfl, rfl, rfl⟩ rfl ⟨Nat.le_of_eq hg.2.2.2.1, Nat.le_of_eq hg.2.2.2.2⟩ ⟨⟨⟨trivial, (show ¬ xR h 45 4 = 0 from by rw [hr]; decide)⟩, c1⟩, c49⟩
          rw [hr] at t51
          exact fin h (CX_ofT (h' := h) (by decide) rfl rfl trivial ⟨_, _, _, rfl, rfl, rfl⟩ rfl ⟨Nat.le_of_eq hg.2.2.2.1.symm, Nat.le_of_eq hg.2.2.2.2.symm⟩ t51) (vG.rf hg)
    · have b5 : 0 ≤ (xI h 24 5).toInt ∧ (xI h 24 5).toInt ≤ 9 := vbnd hg.1 24 5
      have e9 : (Int32.ofInt (9)).toInt = 9 := rfl
      by_cases c1 : (xI h (xR h 45 4) 5) < (Int32.ofInt (9))
      · have l9' := Int32.lt_iff_toInt_lt.mp c1
        rw [hr] at l9'
        have t2 : XT l 8 260 false 43 153 6051 0 [xf 7 45, xun, xun, xun, xun] [] h 21 [xf 7 45, xi (xI h (xR h 45 4) 5), xun, xun, xun] [xf 7 45] h := XT_path (l := l) (fr := 8) (lo := 260) (full := false) (M := 43) (n := 153) (u := 6051) (pc := 0) (L := [xf 7 45, xun, xun, xun, xun]) (st := []) (h := h) (inl := [39]) (n' := 80) (sp := [21]) (o := [1]) rfl rfl ⟨rfl, rfl, rfl⟩ rfl ⟨Nat.le_of_eq hg.2.2.2.1, Nat.le_of_eq hg.2.2.2.2⟩ ⟨⟨trivial, (show ¬ xR h 45 4 = 0 from by rw [hr]; decide)⟩, c1⟩
        rw [hr] at t2
        obtain ⟨h1, x1, g1, f1, -⟩ := vq_11 l h hg
        have G1 : vG ([(3, 5, false), (8, 0, true), (9, 0, true), (10, 0, true), (24, 5, false), (29, 0, true), (30, 0, true), (31, 0, true), (45, 2, false), (45, 3, false), (45, 6, false), (45, 7, false), (45, 8, false), (45, 9, false)], []) h h1 := ⟨g1, f1.mono rfl rfl⟩
        have r1 : xR h1 45 4 = 24 := (f1.2 45 4 rfl).trans hr
        have t3 : XT l 8 260 false 43 153 6051 21 [xf 7 45, xi (xI h 24 5), xun, xun, xun] [xf 7 45] h 24 [xf 7 45, xi (xI h 24 5), xun, xun, xun] [] h1 := XT_call (l := l) (fr := 8) (lo := 260) (full := false) (M := 43) (n := 153) (u := 6051) (pc := 21) (L := [xf 7 45, xi (xI h 24 5), xun, xun, xun]) (st := [xf 7 45]) (h := h) (i := .invokevirtual 19) (aux := 1) (nx := 24) (K := 19) (vs := [xf 7 45]) (rs := []) (rest := []) rfl rfl rfl rfl rfl rfl x1 (by decide) (by decide) (Nat.le_of_ble_eq_true rfl) ⟨Nat.le_of_eq g1.2.2.2.1, Nat.le_of_eq g1.2.2.2.2⟩
        have t4 := t2.tr t3
        have t5 : XT l 8 260 false 43 153 6051 24 [xf 7 45, xi (xI h 24 5), xun, xun, xun] [] h1 33 [xf 7 45, xi (xI h 24 5), xun, xun, xun] [xi (xI h1 45 9), xf 8 (xR h1 45 4), xf 7 45] h1 := XT_path (l := l) (fr := 8) (lo := 260) (full := false) (M := 43) (n := 153) (u := 6051) (pc := 24) (L := [xf 7 45, xi (xI h 24 5), xun, xun, xun]) (st := []) (h := h1) (inl := [39]) (n' := 80) (sp := [33]) (o := []) rfl rfl ⟨rfl, rfl, rfl⟩ rfl ⟨Nat.le_of_eq g1.2.2.2.1, Nat.le_of_eq g1.2.2.2.2⟩ ⟨trivial, (show ¬ xR h1 45 4 = 0 from by rw [r1]; decide)⟩
        rw [r1] at t5
        have t6 := t4.tr t5
        obtain ⟨u0, h1', x2, g2, f2, o2⟩ := vq_13 l (xI h1 45 9) h1 g1 (vb_all (by decide))
        have r2 : xR h1' 45 4 = 24 := (f2.2 45 4 rfl).trans r1
        have t7 : XT l 8 260 false 43 153 6051 33 [xf 7 45, xi (xI h 24 5), xun, xun, xun] [xi (xI h1 45 9), xf 8 24, xf 7 45] h1 36 [xf 7 45, xi (xI h 24 5), xun, xun, xun] [xi u0, xf 7 45] h1' := XT_call (l := l) (fr := 8) (lo := 260) (full := false) (M := 43) (n := 153) (u := 6051) (pc := 33) (L := [xf 7 45, xi (xI h 24 5), xun, xun, xun]) (st := [xi (xI h1 45 9), xf 8 24, xf 7 45]) (h := h1) (i := .invokevirtual 40) (aux := 2) (nx := 36) (K := 40) (vs := [xf 8 24, xi (xI h1 45 9)]) (rs := [xi u0]) (rest := [xf 7 45]) rfl rfl rfl rfl rfl rfl x2 (by decide) (by decide) (Nat.le_of_ble_eq_true rfl) ⟨Nat.le_of_eq g2.2.2.2.1, Nat.le_of_eq g2.2.2.2.2⟩
        have t8 := t6.tr t7
        obtain ⟨h2, x3, G3, d3⟩ := vh_told l u0 h1' g2
        have r3 : xR h2 45 4 = 24 := (G3.2.2 45 4 rfl).trans r2
        have t9 : XT l 8 260 false 43 153 6051 36 [xf 7 45, xi (xI h 24 5), xun, xun, xun] [xi u0, xf 7 45] h1' 39 [xf 7 45, xi (xI h 24 5), xun, xun, xun] [xi u0] h2 := XT_call (l := l) (fr := 8) (lo := 260) (full := false) (M := 43) (n := 153) (u := 6051) (pc := 36) (L := [xf 7 45, xi (xI h 24 5), xun, xun, xun]) (st := [xi u0, xf 7 45]) (h := h1') (i := .invokevirtual 44) (aux := 2) (nx := 39) (K := 44) (vs := [xf 7 45, xi u0]) (rs := [xi u0]) (rest := []) rfl rfl rfl rfl rfl rfl x3 (by decide) (by decide) (Nat.le_of_ble_eq_true rfl) ⟨Nat.le_of_eq G3.1.2.2.2.1, Nat.le_of_eq G3.1.2.2.2.2⟩
        have t10 := t8.tr t9
        have t11 : XT l 8 260 false 43 153 6051 39 [xf 7 45, xi (xI h 24 5), xun, xun, xun] [xi u0] h2 48 [xf 7 45, xi (xI h 24 5), xi u0, xun, xun] [xi (xI h2 45 9), xf 8 (xR h2 45 4)] h2 := XT_path (l := l) (fr := 8) (lo := 260) (full := false) (M := 43) (n := 153) (u := 6051) (pc := 39) (L := [xf 7 45, xi (xI h 24 5), xun, xun, xun]) (st := [xi u0]) (h := h2) (inl := [39]) (n' := 80) (sp := [48]) (o := []) rfl rfl ⟨rfl, rfl, rfl⟩ rfl ⟨Nat.le_of_eq G3.1.2.2.2.1, Nat.le_of_eq G3.1.2.2.2.2⟩ ⟨trivial, (show ¬ xR h2 45 4 = 0 from by rw [r3]; decide)⟩
        rw [r3] at t11
        have t12 := t10.tr t11
        obtain ⟨v0, h2', x4, g4, f4, o4⟩ := vq_13 l (xI h2 45 9) h2 G3.1 (vb_all (by decide))
        have r5 : xR h2' 45 4 = 24 := (f4.2 45 4 rfl).trans r3
        have F4 : vG ([(3, 5, false), (8, 0, true), (9, 0, true), (10, 0, true), (24, 5, false), (29, 0, true), (30, 0, true), (31, 0, true), (45, 2, false), (45, 3, false), (45, 6, false), (45, 7, false), (45, 8, false), (45, 9, false)], []) h h2' := ⟨g4, ((G1.2.tr (f2.mono rfl rfl)).tr (G3.2.mono rfl rfl)).tr (f4.mono rfl rfl)⟩
        have k4 : xI h2' 45 2 = 0 → ¬ u0 = Int32.ofInt (-1) := fun e => (d3 ((f4.1 45 2 rfl).symm.trans e)).2.2
        have j4 : ∀ i, xI h2' 29 i = xI h 29 i := fun i => ((f4.1 29 i rfl).trans (G3.2.1 29 i rfl)).trans ((f2.1 29 i rfl).trans (f1.1 29 i rfl))
        have j5 : ∀ i, xI h2' 30 i = xI h 30 i := fun i => ((f4.1 30 i rfl).trans (G3.2.1 30 i rfl)).trans ((f2.1 30 i rfl).trans (f1.1 30 i rfl))
        have j6 : xI h2' 24 5 = xI h 24 5 := ((f4.1 24 5 rfl).trans (G3.2.1 24 5 rfl)).trans ((f2.1 24 5 rfl).trans (f1.1 24 5 rfl))
        have t13 : XT l 8 260 false 43 153 6051 48 [xf 7 45, xi (xI h 24 5), xi u0, xun, xun] [xi (xI h2 45 9), xf 8 24] h2 51 [xf 7 45, xi (xI h 24 5), xi u0, xun, xun] [xi v0] h2' := XT_call (l := l) (fr := 8) (lo := 260) (full := false) (M := 43) (n := 153) (u := 6051) (pc := 48) (L := [xf 7 45, xi (xI h 24 5), xi u0, xun, xun]) (st := [xi (xI h2 45 9), xf 8 24]) (h := h2) (i := .invokevirtual 40) (aux := 2) (nx := 51) (K := 40) (vs := [xf 8 24, xi (xI h2 45 9)]) (rs := [xi v0]) (rest := []) rfl rfl rfl rfl rfl rfl x4 (by decide) (by decide) (Nat.le_of_ble_eq_true rfl) ⟨Nat.le_of_eq g4.2.2.2.1, Nat.le_of_eq g4.2.2.2.2⟩
        have t14 := t12.tr t13
        have key : ∃ h3, XT l 8 260 false 43 153 6051 0 [xf 7 45, xun, xun, xun, xun] [] h 103 [xf 7 45, xi (xI h 24 5), xi u0, xi v0, xun] [] h3 ∧ vG ([(3, 5, false), (8, 0, true), (9, 0, true), (10, 0, true), (24, 5, false), (29, 0, true), (30, 0, true), (31, 0, true), (45, 2, false), (45, 3, false), (45, 6, false), (45, 7, false), (45, 8, false), (45, 9, false)], []) h h3 ∧ xR h3 45 4 = 24 ∧ (∀ i, xI h3 29 i = xI h 29 i) ∧ (∀ i, xI h3 30 i = xI h 30 i) ∧ xI h3 24 5 = xI h 24 5 ∧ (xI h3 45 2 = 0 → ¬ u0 = Int32.ofInt (-1) ∧ (xI h3 45 7 = Int32.ofInt (3) → ¬ v0 = Int32.ofInt (-1) → ¬ u0 = v0 ∧ ∀ j : Nat, (j : Int) < (xI h 24 5).toInt → ¬ (xI h 29 j = u0 ∧ xI h 30 j = v0) ∧ ¬ (xI h 29 j = v0 ∧ xI h 30 j = u0))) := by
          by_cases c15 : (xI h2' 45 2) = 0
          · by_cases c16 : (xI h2' 45 7) = (Int32.ofInt (3))
            · by_cases c17 : v0 = (Int32.ofInt (-1))
              · have t18 : XT l 8 260 false 43 153 6051 51 [xf 7 45, xi (xI h 24 5), xi u0, xun, xun] [xi v0] h2' 103 [xf 7 45, xi (xI h 24 5), xi u0, xi v0, xun] [] h2' := XT_path (l := l) (fr := 8) (lo := 260) (full := false) (M := 43) (n := 153) (u := 6051) (pc := 51) (L := [xf 7 45, xi (xI h 24 5), xi u0, xun, xun]) (st := [xi v0]) (h := h2') (inl := [39]) (n' := 80) (sp := [103]) (o := [0, 0, 1]) rfl rfl ⟨rfl, rfl, rfl⟩ rfl ⟨Nat.le_of_eq g4.2.2.2.1, Nat.le_of_eq g4.2.2.2.2⟩ ⟨⟨⟨trivial, c15⟩, c16⟩, c17⟩
                have t19 := t14.tr t18
                exact ⟨_, t19, F4, r5, j4, j5, j6, fun e => ⟨k4 e, fun _ z => absurd c17 z⟩⟩
              · have t20 : XT l 8 260 false 43 153 6051 51 [xf 7 45, xi (xI h 24 5), xi u0, xun, xun] [xi v0] h2' 78 [xf 7 45, xi (xI h 24 5), xi u0, xi v0, xun] [xi v0, xi u0, xf 8 (xR h2' 45 4)] h2' := XT_path (l := l) (fr := 8) (lo := 260) (full := false) (M := 43) (n := 153) (u := 6051) (pc := 51) (L := [xf 7 45, xi (xI h 24 5), xi u0, xun, xun]) (st := [xi v0]) (h := h2') (inl := [39]) (n' := 80) (sp := [78]) (o := [0, 0, 0]) rfl rfl ⟨rfl, rfl, rfl⟩ rfl ⟨Nat.le_of_eq g4.2.2.2.1, Nat.le_of_eq g4.2.2.2.2⟩ ⟨⟨⟨⟨trivial, c15⟩, c16⟩, c17⟩, (show ¬ xR h2' 45 4 = 0 from by rw [r5]; decide)⟩
                rw [r5] at t20
                have t21 := t14.tr t20
                obtain ⟨jv, x5, d5⟩ := vh_joinOf24 l h2' g4 u0 v0
                have t22 : XT l 8 260 false 43 153 6051 78 [xf 7 45, xi (xI h 24 5), xi u0, xi v0, xun] [xi v0, xi u0, xf 8 24] h2' 81 [xf 7 45, xi (xI h 24 5), xi u0, xi v0, xun] [xi jv] h2' := XT_call (l := l) (fr := 8) (lo := 260) (full := false) (M := 43) (n := 153) (u := 6051) (pc := 78) (L := [xf 7 45, xi (xI h 24 5), xi u0, xi v0, xun]) (st := [xi v0, xi u0, xf 8 24]) (h := h2') (i := .invokevirtual 45) (aux := 3) (nx := 81) (K := 45) (vs := [xf 8 24, xi u0, xi v0]) (rs := [xi jv]) (rest := []) rfl rfl rfl rfl rfl rfl x5 (by decide) (by decide) (Nat.le_of_ble_eq_true rfl) ⟨Nat.le_of_eq g4.2.2.2.1, Nat.le_of_eq g4.2.2.2.2⟩
                have t23 := t21.tr t22
                by_cases c24 : jv = (Int32.ofInt (-1))
                · by_cases c25 : u0 = v0
                  · have t26 : XT l 8 260 false 43 153 6051 81 [xf 7 45, xi (xI h 24 5), xi u0, xi v0, xun] [xi jv] h2' 103 [xf 7 45, xi (xI h 24 5), xi u0, xi v0, xun] [] (xsetI (xsetI h2' 45 2 (Int32.ofInt (5))) 45 3 (xI (xsetI h2' 45 2 (Int32.ofInt (5))) 45 8)) := XT_path (l := l) (fr := 8) (lo := 260) (full := false) (M := 43) (n := 153) (u := 6051) (pc := 81) (L := [xf 7 45, xi (xI h 24 5), xi u0, xi v0, xun]) (st := [xi jv]) (h := h2') (inl := [39]) (n' := 80) (sp := [103]) (o := [1, 0, 0]) rfl rfl ⟨rfl, rfl, rfl⟩ rfl ⟨Nat.le_of_eq g4.2.2.2.1, Nat.le_of_eq g4.2.2.2.2⟩ ⟨⟨⟨trivial, c24⟩, c25⟩, c15⟩
                    have t27 := t23.tr t26
                    exact ⟨_, t27, vGf F4 (by decide) rfl rfl rfl, r5, fun i => (yI_c (by decide)).trans ((yI_c (by decide)).trans (j4 i)), fun i => (yI_c (by decide)).trans ((yI_c (by decide)).trans (j5 i)), (yI_c (by decide)).trans ((yI_c (by decide)).trans j6), fun e => absurd e (vf2 (by decide))⟩
                  · have t28 : XT l 8 260 false 43 153 6051 81 [xf 7 45, xi (xI h 24 5), xi u0, xi v0, xun] [xi jv] h2' 103 [xf 7 45, xi (xI h 24 5), xi u0, xi v0, xun] [] h2' := XT_path (l := l) (fr := 8) (lo := 260) (full := false) (M := 43) (n := 153) (u := 6051) (pc := 81) (L := [xf 7 45, xi (xI h 24 5), xi u0, xi v0, xun]) (st := [xi jv]) (h := h2') (inl := [39]) (n' := 80) (sp := [103]) (o := [1, 1]) rfl rfl ⟨rfl, rfl, rfl⟩ rfl ⟨Nat.le_of_eq g4.2.2.2.1, Nat.le_of_eq g4.2.2.2.2⟩ ⟨⟨trivial, c24⟩, c25⟩
                    have t29 := t23.tr t28
                    exact ⟨_, t29, F4, r5, j4, j5, j6, fun e => ⟨k4 e, fun _ _ => ⟨c25, fun j hj => by have z := d5 c24 j (by rw [j6]; exact hj); rw [j4, j5] at z; exact z⟩⟩⟩
                · have t30 : XT l 8 260 false 43 153 6051 81 [xf 7 45, xi (xI h 24 5), xi u0, xi v0, xun] [xi jv] h2' 103 [xf 7 45, xi (xI h 24 5), xi u0, xi v0, xun] [] (xsetI (xsetI h2' 45 2 (Int32.ofInt (3))) 45 3 (xI (xsetI h2' 45 2 (Int32.ofInt (3))) 45 8)) := XT_path (l := l) (fr := 8) (lo := 260) (full := false) (M := 43) (n := 153) (u := 6051) (pc := 81) (L := [xf 7 45, xi (xI h 24 5), xi u0, xi v0, xun]) (st := [xi jv]) (h := h2') (inl := [39]) (n' := 80) (sp := [103]) (o := [0, 0]) rfl rfl ⟨rfl, rfl, rfl⟩ rfl ⟨Nat.le_of_eq g4.2.2.2.1, Nat.le_of_eq g4.2.2.2.2⟩ ⟨⟨trivial, c24⟩, c15⟩
                  have t31 := t23.tr t30
                  exact ⟨_, t31, vGf F4 (by decide) rfl rfl rfl, r5, fun i => (yI_c (by decide)).trans ((yI_c (by decide)).trans (j4 i)), fun i => (yI_c (by decide)).trans ((yI_c (by decide)).trans (j5 i)), (yI_c (by decide)).trans ((yI_c (by decide)).trans j6), fun e => absurd e (vf2 (by decide))⟩
            · have t32 : XT l 8 260 false 43 153 6051 51 [xf 7 45, xi (xI h 24 5), xi u0, xun, xun] [xi v0] h2' 103 [xf 7 45, xi (xI h 24 5), xi u0, xi v0, xun] [] h2' := XT_path (l := l) (fr := 8) (lo := 260) (full := false) (M := 43) (n := 153) (u := 6051) (pc := 51) (L := [xf 7 45, xi (xI h 24 5), xi u0, xun, xun]) (st := [xi v0]) (h := h2') (inl := [39]) (n' := 80) (sp := [103]) (o := [0, 1]) rfl rfl ⟨rfl, rfl, rfl⟩ rfl ⟨Nat.le_of_eq g4.2.2.2.1, Nat.le_of_eq g4.2.2.2.2⟩ ⟨⟨trivial, c15⟩, c16⟩
              have t33 := t14.tr t32
              exact ⟨_, t33, F4, r5, j4, j5, j6, fun e => ⟨k4 e, fun z => absurd z c16⟩⟩
          · have t34 : XT l 8 260 false 43 153 6051 51 [xf 7 45, xi (xI h 24 5), xi u0, xun, xun] [xi v0] h2' 103 [xf 7 45, xi (xI h 24 5), xi u0, xi v0, xun] [] h2' := XT_path (l := l) (fr := 8) (lo := 260) (full := false) (M := 43) (n := 153) (u := 6051) (pc := 51) (L := [xf 7 45, xi (xI h 24 5), xi u0, xun, xun]) (st := [xi v0]) (h := h2') (inl := [39]) (n' := 80) (sp := [103]) (o := [1]) rfl rfl ⟨rfl, rfl, rfl⟩ rfl ⟨Nat.le_of_eq g4.2.2.2.1, Nat.le_of_eq g4.2.2.2.2⟩ ⟨trivial, c15⟩
            have t35 := t14.tr t34
            exact ⟨_, t35, F4, r5, j4, j5, j6, fun e => absurd e c15⟩
        obtain ⟨h3, T3, F3, r6, J1, J2, J3, D3⟩ := key
        have t36 : XT l 8 260 false 43 153 6051 103 [xf 7 45, xi (xI h 24 5), xi u0, xi v0, xun] [] h3 105 [xf 7 45, xi (xI h 24 5), xi u0, xi v0, xun] [xi v0, xf 7 45] h3 := XT_path (l := l) (fr := 8) (lo := 260) (full := false) (M := 43) (n := 153) (u := 6051) (pc := 103) (L := [xf 7 45, xi (xI h 24 5), xi u0, xi v0, xun]) (st := []) (h := h3) (inl := [39]) (n' := 80) (sp := [105]) (o := []) rfl rfl ⟨rfl, rfl, rfl⟩ rfl ⟨Nat.le_of_eq F3.1.2.2.2.1, Nat.le_of_eq F3.1.2.2.2.2⟩ trivial
        have t37 := T3.tr t36
        obtain ⟨h4, x6, G6, d6⟩ := vh_told l v0 h3 F3.1
        have r7 : xR h4 45 4 = 24 := (G6.2.2 45 4 rfl).trans r6
        have t38 : XT l 8 260 false 43 153 6051 105 [xf 7 45, xi (xI h 24 5), xi u0, xi v0, xun] [xi v0, xf 7 45] h3 108 [xf 7 45, xi (xI h 24 5), xi u0, xi v0, xun] [xi v0] h4 := XT_call (l := l) (fr := 8) (lo := 260) (full := false) (M := 43) (n := 153) (u := 6051) (pc := 105) (L := [xf 7 45, xi (xI h 24 5), xi u0, xi v0, xun]) (st := [xi v0, xf 7 45]) (h := h3) (i := .invokevirtual 44) (aux := 2) (nx := 108) (K := 44) (vs := [xf 7 45, xi v0]) (rs := [xi v0]) (rest := []) rfl rfl rfl rfl rfl rfl x6 (by decide) (by decide) (Nat.le_of_ble_eq_true rfl) ⟨Nat.le_of_eq G6.1.2.2.2.1, Nat.le_of_eq G6.1.2.2.2.2⟩
        have t39 := t37.tr t38
        have t40 : XT l 8 260 false 43 153 6051 108 [xf 7 45, xi (xI h 24 5), xi u0, xi v0, xun] [xi v0] h4 113 [xf 7 45, xi (xI h 24 5), xi u0, xi v0, xun] [xi (Int32.ofInt (9)), xi (Int32.ofInt (1)), xf 7 45] h4 := XT_path (l := l) (fr := 8) (lo := 260) (full := false) (M := 43) (n := 153) (u := 6051) (pc := 108) (L := [xf 7 45, xi (xI h 24 5), xi u0, xi v0, xun]) (st := [xi v0]) (h := h4) (inl := [39]) (n' := 80) (sp := [113]) (o := []) rfl rfl ⟨rfl, rfl, rfl⟩ rfl ⟨Nat.le_of_eq G6.1.2.2.2.1, Nat.le_of_eq G6.1.2.2.2.2⟩ trivial
        have t41 := t39.tr t40
        have w4 : (0 : Int) ≤ (xI h4 45 2).toInt ∧ (xI h4 45 2).toInt ≤ 5 := vbnd G6.1.1 45 2
        obtain ⟨w0, h5, x7, g7, f7, o7⟩ := vq_18 l (Int32.ofInt (1)) (Int32.ofInt (9)) h4 G6.1 (by decide) (by decide) w4
        have r8 : xR h5 45 4 = 24 := (f7.2 45 4 rfl).trans r7
        have F5 : vG ([(3, 5, false), (8, 0, true), (9, 0, true), (10, 0, true), (24, 5, false), (29, 0, true), (30, 0, true), (31, 0, true), (45, 2, false), (45, 3, false), (45, 6, false), (45, 7, false), (45, 8, false), (45, 9, false)], []) h h5 := ⟨g7, (F3.2.tr (G6.2.mono rfl rfl)).tr (f7.mono rfl rfl)⟩
        have t42 : XT l 8 260 false 43 153 6051 113 [xf 7 45, xi (xI h 24 5), xi u0, xi v0, xun] [xi (Int32.ofInt (9)), xi (Int32.ofInt (1)), xf 7 45] h4 116 [xf 7 45, xi (xI h 24 5), xi u0, xi v0, xun] [xi w0] h5 := XT_call (l := l) (fr := 8) (lo := 260) (full := false) (M := 43) (n := 153) (u := 6051) (pc := 113) (L := [xf 7 45, xi (xI h 24 5), xi u0, xi v0, xun]) (st := [xi (Int32.ofInt (9)), xi (Int32.ofInt (1)), xf 7 45]) (h := h4) (i := .invokevirtual 42) (aux := 3) (nx := 116) (K := 42) (vs := [xf 7 45, xi (Int32.ofInt (1)), xi (Int32.ofInt (9))]) (rs := [xi w0]) (rest := []) rfl rfl rfl rfl rfl rfl x7 (by decide) (by decide) (Nat.le_of_ble_eq_true rfl) ⟨Nat.le_of_eq g7.2.2.2.1, Nat.le_of_eq g7.2.2.2.2⟩
        have t43 := t41.tr t42
        have y1 : ∀ i, xI h5 29 i = xI h 29 i := fun i => ((f7.1 29 i rfl).trans (G6.2.1 29 i rfl)).trans (J1 i)
        have y2 : ∀ i, xI h5 30 i = xI h 30 i := fun i => ((f7.1 30 i rfl).trans (G6.2.1 30 i rfl)).trans (J2 i)
        have y3 : xI h5 24 5 = xI h 24 5 := ((f7.1 24 5 rfl).trans (G6.2.1 24 5 rfl)).trans J3
        by_cases c44 : (xI h5 45 2) = 0
        · have t45 : XT l 8 260 false 43 153 6051 116 [xf 7 45, xi (xI h 24 5), xi u0, xi v0, xun] [xi w0] h5 169 [xf 7 45, xi (xI h 24 5), xi u0, xi v0, xi w0] [] (xsetI (xsetI (xsetI (xsetI h5 (xR h5 (xR h5 45 4) 6) ((xI h 24 5)).toNatClampNeg u0) (xR h5 (xR h5 45 4) 7) ((xI h 24 5)).toNatClampNeg v0) (xR h5 (xR h5 45 4) 8) ((xI h 24 5)).toNatClampNeg w0) (xR h5 45 4) 5 ((xI (xsetI (xsetI (xsetI h5 (xR h5 (xR h5 45 4) 6) ((xI h 24 5)).toNatClampNeg u0) (xR h5 (xR h5 45 4) 7) ((xI h 24 5)).toNatClampNeg v0) (xR h5 (xR h5 45 4) 8) ((xI h 24 5)).toNatClampNeg w0) (xR h5 45 4) 5) + (Int32.ofInt (1)))) := XT_path (l := l) (fr := 8) (lo := 260) (full := false) (M := 43) (n := 153) (u := 6051) (pc := 116) (L := [xf 7 45, xi (xI h 24 5), xi u0, xi v0, xun]) (st := [xi w0]) (h := h5) (inl := [39]) (n' := 80) (sp := [169]) (o := [0]) rfl rfl ⟨rfl, rfl, rfl⟩ rfl ⟨Nat.le_of_eq g7.2.2.2.1, Nat.le_of_eq g7.2.2.2.2⟩ ⟨⟨⟨⟨⟨⟨⟨⟨⟨⟨⟨trivial, c44⟩, (show ¬ xR h5 45 4 = 0 from by rw [r8]; decide)⟩, (show ¬ xR h5 (xR h5 45 4) 6 = 0 from by rw [r8]; exact vnn g7.1 (rfl : vRf 24 6 = [29]) (by decide))⟩, (vp_of (n := 9) (by omega) (by omega))⟩, (show ¬ xR h5 45 4 = 0 from by rw [r8]; decide)⟩, (show ¬ xR h5 (xR h5 45 4) 7 = 0 from by rw [r8]; exact vnn g7.1 (rfl : vRf 24 7 = [30]) (by decide))⟩, (vp_of (n := 9) (by omega) (by omega))⟩, (show ¬ xR h5 45 4 = 0 from by rw [r8]; decide)⟩, (show ¬ xR h5 (xR h5 45 4) 8 = 0 from by rw [r8]; exact vnn g7.1 (rfl : vRf 24 8 = [31]) (by decide))⟩, (vp_of (n := 9) (by omega) (by omega))⟩, (show ¬ xR h5 45 4 = 0 from by rw [r8]; decide)⟩
          rw [r8, vref g7.1 (rfl : vRf 24 6 = [29]), vref g7.1 (rfl : vRf 24 7 = [30]), vref g7.1 (rfl : vRf 24 8 = [31])] at t45
          have t46 := t43.tr t45
          have i1 : xI h4 45 2 = 0 := by
            have z5 := veq0 c44
            have z4 : (xI h4 45 2).toInt = 0 := by
              rcases o7 with o | o | o
              · have := o.2; omega
              · have := o.2; omega
              · have := o.1; omega
            exact Int32.toInt_inj.mp (z4.trans rfl)
          have z5 := veq0 c44
          have i2 : (1 : Int) ≤ w0.toInt ∧ w0.toInt ≤ 9 := by
            rcases o7 with o | o | o
            · have := o.2; omega
            · have := o.2; omega
            · exact o.2.1
          obtain ⟨m1, m2, m3⟩ := d6 i1
          obtain ⟨m4, m5⟩ := D3 m1
          obtain ⟨m6, m7⟩ := m5 m2 m3
          have m8 := vne m4
          have m9 := vne m3
          have nk : (xI h 24 5).toNatClampNeg = (xI h 24 5).toInt.toNat := rfl
          have l9 := l9'
          obtain ⟨hf, ef⟩ : ∃ x, x = (xsetI (xsetI (xsetI (xsetI h5 29 ((xI h 24 5)).toNatClampNeg u0) 30 ((xI h 24 5)).toNatClampNeg v0) 31 ((xI h 24 5)).toNatClampNeg w0) 24 5 ((xI (xsetI (xsetI (xsetI h5 29 ((xI h 24 5)).toNatClampNeg u0) 30 ((xI h 24 5)).toNatClampNeg v0) 31 ((xI h 24 5)).toNatClampNeg w0) 24 5) + (Int32.ofInt (1)))) := ⟨_, rfl⟩
          rw [← ef] at t46
          have en : xI (xsetI (xsetI (xsetI h5 29 (xI h 24 5).toNatClampNeg u0) 30 (xI h 24 5).toNatClampNeg v0) 31 (xI h 24 5).toNatClampNeg w0) 24 5 = xI h 24 5 := by rw [yI_c (by decide), yI_c (by decide), yI_c (by decide)]; exact y3
          have ad := vjadd24 g7 (k := (xI h 24 5).toNatClampNeg) (u := u0) (v := v0) (w := w0) (n := xI (xsetI (xsetI (xsetI h5 29 (xI h 24 5).toNatClampNeg u0) 30 (xI h 24 5).toNatClampNeg v0) 31 (xI h 24 5).toNatClampNeg w0) 24 5 + Int32.ofInt (1)) (by rw [y3]; omega) (by omega) (by rw [en, show (xI h 24 5 + Int32.ofInt (1)).toInt = (xI h 24 5).toInt + 1 from y_succ (by omega) (by omega)]; omega) (by rcases o2 with o | o <;> omega) (by rcases o4 with o | o <;> omega) (by omega) m6 (fun j hj => by rw [y1, y2]; exact m7 j (by rw [← y3]; exact hj))
          rw [← ef] at ad
          exact fin hf (CX_ofT (h' := hf) (by decide) rfl rfl trivial ⟨_, _, _, rfl, rfl, rfl⟩ rfl ⟨Nat.le_of_eq ad.1.2.2.2.1.symm, Nat.le_of_eq ad.1.2.2.2.2.symm⟩ t46) ⟨ad.1, F5.2.tr ad.2⟩
        · have t47 : XT l 8 260 false 43 153 6051 116 [xf 7 45, xi (xI h 24 5), xi u0, xi v0, xun] [xi w0] h5 169 [xf 7 45, xi (xI h 24 5), xi u0, xi v0, xi w0] [] h5 := XT_path (l := l) (fr := 8) (lo := 260) (full := false) (M := 43) (n := 153) (u := 6051) (pc := 116) (L := [xf 7 45, xi (xI h 24 5), xi u0, xi v0, xun]) (st := [xi w0]) (h := h5) (inl := [39]) (n' := 80) (sp := [169]) (o := [1]) rfl rfl ⟨rfl, rfl, rfl⟩ rfl ⟨Nat.le_of_eq g7.2.2.2.1, Nat.le_of_eq g7.2.2.2.2⟩ ⟨trivial, c44⟩
          have t48 := t43.tr t47
          exact fin h5 (CX_ofT (h' := h5) (by decide) rfl rfl trivial ⟨_, _, _, rfl, rfl, rfl⟩ rfl ⟨Nat.le_of_eq g7.2.2.2.1.symm, Nat.le_of_eq g7.2.2.2.2.symm⟩ t48) F5
      · by_cases c49 : (xI h 45 2) = 0
        · have t50 : XT l 8 260 false 43 153 6051 0 [xf 7 45, xun, xun, xun, xun] [] h 19 [xf 7 45, xi (xI h (xR h 45 4) 5), xun, xun, xun] [] (xsetI (xsetI h 45 2 (Int32.ofInt (2))) 45 3 (xI (xsetI h 45 2 (Int32.ofInt (2))) 45 8)) := XT_path (l := l) (fr := 8) (lo := 260) (full := false) (M := 43) (n := 153) (u := 6051) (pc := 0) (L := [xf 7 45, xun, xun, xun, xun]) (st := []) (h := h) (inl := [39]) (n' := 80) (sp := [19]) (o := [0, 0]) rfl rfl ⟨rfl, rfl, rfl⟩ rfl ⟨Nat.le_of_eq hg.2.2.2.1, Nat.le_of_eq hg.2.2.2.2⟩ ⟨⟨⟨trivial, (show ¬ xR h 45 4 = 0 from by rw [hr]; decide)⟩, c1⟩, c49⟩
          rw [hr] at t50
          have G0 : vG ([(3, 5, false), (8, 0, true), (9, 0, true), (10, 0, true), (24, 5, false), (29, 0, true), (30, 0, true), (31, 0, true), (45, 2, false), (45, 3, false), (45, 6, false), (45, 7, false), (45, 8, false), (45, 9, false)], []) h (xsetI (xsetI h 45 2 (Int32.ofInt (2))) 45 3 (xI (xsetI h 45 2 (Int32.ofInt (2))) 45 8)) := vGf (vG.rf hg) (by decide) rfl rfl rfl
          exact fin _ (CX_ofT (h' := (xsetI (xsetI h 45 2 (Int32.ofInt (2))) 45 3 (xI (xsetI h 45 2 (Int32.ofInt (2))) 45 8))) (by decide) rfl rfl trivial ⟨_, _, _, rfl, rfl, rfl⟩ rfl ⟨Nat.le_of_eq G0.1.2.2.2.1.symm, Nat.le_of_eq G0.1.2.2.2.2.symm⟩ t50) G0
        · have t51 : XT l 8 260 false 43 153 6051 0 [xf 7 45, xun, xun, xun, xun] [] h 19 [xf 7 45, xi (xI h (xR h 45 4) 5), xun, xun, xun] [] h := XT_path (l := l) (fr := 8) (lo := 260) (full := false) (M := 43) (n := 153) (u := 6051) (pc := 0) (L := [xf 7 45, xun, xun, xun, xun]) (st := []) (h := h) (inl := [39]) (n' := 80) (sp := [19]) (o := [0, 1]) rfl rfl ⟨rfl, rfl, rfl⟩ rfl ⟨Nat.le_of_eq hg.2.2.2.1, Nat.le_of_eq hg.2.2.2.2⟩ ⟨⟨⟨trivial, (show ¬ xR h 45 4 = 0 from by rw [hr]; decide)⟩, c1⟩, c49⟩
          rw [hr] at t51
          exact fin h (CX_ofT (h' := h) (by decide) rfl rfl trivial ⟨_, _, _, rfl, rfl, rfl⟩ rfl ⟨Nat.le_of_eq hg.2.2.2.1.symm, Nat.le_of_eq hg.2.2.2.2.symm⟩ t51) (vG.rf hg)
