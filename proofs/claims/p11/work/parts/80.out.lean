/-! WHEN TO SET OUT: the first way and the last are the same run. -/
theorem met_two {l : Launch} {y : MethodName} {ws : List Cond} {rm : Room} {Pc : Array Value → State → Prop} {Q1 Q2 Q : Array Value → State → Outcome → State → Prop} {mc ms : Nat} {free : Addr → Prop} (h1 : Met l y ws rm Pc Q1 mc ms free) (h2 : Met l y ws rm Pc Q2 mc ms free) (hf : ∀ a s o t, Q1 a s o t → Q2 a s o t → Q a s o t) : Met l y ws rm Pc Q mc ms free := by
  intro p e ha f1 f2 s m args below e1 e2 e3 e4
  obtain ⟨n1, o1, w1, r1, d1, q1, L1, z1⟩ := h1 p e ha f1 f2 s m args below e1 e2 e3 e4
  obtain ⟨n2, o2, w2, r2, d2, q2, -⟩ := h2 p e ha f1 f2 s m args below e1 e2 e3 e4
  obtain rfl : n1 = n2 := by
    rcases Nat.lt_trichotomy n1 n2 with z | z | z
    · exact absurd (w2 n1 z) (Ended.not_within d1)
    · exact z
    · exact absurd (w1 n2 z) (Ended.not_within d2)
  obtain rfl := Ended.outcome_unique d1 d2
  exact ⟨n1, o1, w1, r1, d1, hf _ _ _ _ q1 q2, L1, z1⟩
theorem CX_two {l : Launch} {fr lo : Nat} {full : Bool} {K : Nat} {vs rs : List XV} {h g g' : XH} {v v' : Int32} (c1 : CX l fr lo full K vs h [xi v] g) (c2 : CX l fr lo full K vs h [xi v'] g') (hv : v ≠ v') (hn : xN g = xN h ∧ xU g = xU h) (hn' : xN g' = xN h ∧ xU g' = xU h) (hr : rs.length ≤ 1) : CX l fr lo full K vs h rs h := by
  refine ⟨⟨⟨Nat.le_refl _, Nat.le_refl _, fun _ _ z => z⟩, hr⟩, fun D cA base b Ls xs ads => ?_⟩
  have m1 := c1.2 D cA base b Ls xs ads
  have m2 := c2.2 D cA base b Ls xs ads
  rw [hn.1, hn.2] at m1
  rw [hn'.1, hn'.2] at m2
  refine met_two m1 m2 (fun a s o t q1 q2 => ?_)
  obtain ⟨a1, e1, -⟩ := q1
  obtain ⟨a2, e2, -⟩ := q2
  have e : Outcome.returned (some (Value.int v)) = Outcome.returned (some (Value.int v')) := e1.symm.trans e2
  injection e with e
  injection e with e
  injection e with e
  exact absurd e hv
theorem vWd : (cww vC_233).1.all (fun q => (List.range (vlen q.1)).all (fun k => !(q.2.2 || Nat.beq q.2.1 k) || (swin vDo q.1 k || ((Nat.beq q.1 134 && Nat.blt k 6) || ((Nat.beq q.1 136 && Nat.blt k 8) || (Nat.beq q.1 137 && Nat.blt k 8)))))) = true := by decide +kernel
theorem vso_ag {hs h : XH} (hg : sgood vT vR (vEs hs) 153 6051 h) (hf : sframe (cww vC_233) hs h) : sAg vDo (fun _ _ => True) hs h := by
  refine ⟨fun c k hd hl => ?_, fun c k => (hf.2 c k rfl).symm, trivial⟩
  cases hw : swin (cww vC_233).1 c k with
  | false => exact (hf.1 c k hw).symm
  | true =>
    unfold swin at hw
    obtain ⟨q, hq, z⟩ := List.any_eq_true.mp hw
    rw [Bool.and_eq_true] at z
    obtain rfl := Nat.eq_of_beq_eq_true z.1
    have y := List.all_eq_true.mp (List.all_eq_true.mp vWd q hq) k (List.mem_range.mpr hl)
    rw [z.2, hd] at y
    have y : ((Nat.beq q.1 134 && Nat.blt k 6) || ((Nat.beq q.1 136 && Nat.blt k 8) || (Nat.beq q.1 137 && Nat.blt k 8))) = true := y
    rw [Bool.or_eq_true, Bool.or_eq_true, Bool.and_eq_true, Bool.and_eq_true, Bool.and_eq_true] at y
    rcases y with ⟨y1, y2⟩ | ⟨y1, y2⟩ | ⟨y1, y2⟩
    · rw [Nat.eq_of_beq_eq_true y1]; exact (hg.2.2.1.2.1 k (Nat.le_of_ble_eq_true y2)).symm
    · rw [Nat.eq_of_beq_eq_true y1]; exact (hg.2.2.1.2.2.1 k (Nat.le_of_ble_eq_true y2)).symm
    · rw [Nat.eq_of_beq_eq_true y1]; exact (hg.2.2.1.2.2.2 k (Nat.le_of_ble_eq_true y2)).symm
set_option maxRecDepth 100000 in
set_option maxHeartbeats 2000000 in
theorem vso_loop (l : Launch) (hs : XH) (a b n : Int32) (B_a : 0 ≤ a.toInt ∧ a.toInt ≤ 5) (B_b : 0 ≤ b.toInt ∧ b.toInt ≤ 5) (hgs : sgood vT vR (vEs hs) 153 6051 hs) (hn : ∀ v g, CX l 10 265 false 261 [xf 13 104, xi a, xi b, xi (Int32.ofInt (0))] hs [xi v] g → sgood vT vR (vEs hs) 153 6051 g → v = n) : ∀ (m : Nat) (u : Int32) (h : XH), sgood vT vR (vEs hs) 153 6051 h → sframe (cww vC_233) hs h → u.toInt = m → m ≤ 20 → ∃ u' g, XT l 11 300 false 263 153 6051 42 [xf 13 104, xi a, xi b, xi n, xi u] [] h 60 [xf 13 104, xi a, xi b, xi n, xi u'] [] g ∧ sgood vT vR (vEs hs) 153 6051 g ∧ sframe (cww vC_233) hs g
  | 0, u, h, hg, hf, hu, hm => by
    have t1 : XT l 11 300 false 263 153 6051 42 [xf 13 104, xi a, xi b, xi n, xi u] [] h 47 [xf 13 104, xi a, xi b, xi n, xi u] [xi u, xi b, xi a, xf 13 104] h := XT_path (l := l) (fr := 11) (lo := 300) (full := false) (M := 263) (n := 153) (u := 6051) (pc := 42) (L := [xf 13 104, xi a, xi b, xi n, xi u]) (st := []) (h := h) (inl := []) (n' := 80) (sp := [47]) (o := []) rfl rfl ⟨rfl, rfl, rfl⟩ rfl ⟨Nat.le_of_eq hg.2.2.2.1, Nat.le_of_eq hg.2.2.2.2⟩ trivial
    obtain rfl : u = Int32.ofInt (0) := Int32.toInt_inj.mp (by rw [hu]; rfl)
    obtain ⟨v, g0, g, c0, cD, gg0, gD, -, fD, -⟩ := vp_way l hs a b (Int32.ofInt (0)) B_a B_b (by decide) hs h hgs hg (vso_ag hg hf)
    have ev := hn v g0 c0 gg0
    rw [ev] at cD
    have t2 : XT l 11 300 false 263 153 6051 47 [xf 13 104, xi a, xi b, xi n, xi (Int32.ofInt (0))] [xi (Int32.ofInt (0)), xi b, xi a, xf 13 104] h 50 [xf 13 104, xi a, xi b, xi n, xi (Int32.ofInt (0))] [xi n] g := XT_call (l := l) (fr := 11) (lo := 300) (full := false) (M := 263) (n := 153) (u := 6051) (pc := 47) (L := [xf 13 104, xi a, xi b, xi n, xi (Int32.ofInt (0))]) (st := [xi (Int32.ofInt (0)), xi b, xi a, xf 13 104]) (h := h) (i := .invokevirtual 261) (aux := 4) (nx := 50) (K := 261) (vs := [xf 13 104, xi a, xi b, xi (Int32.ofInt (0))]) (rs := [xi n]) (rest := []) rfl rfl rfl rfl rfl rfl cD (by decide) (by decide) (Nat.le_of_ble_eq_true rfl) ⟨Nat.le_of_eq gD.2.2.2.1, Nat.le_of_eq gD.2.2.2.2⟩
    have t3 := t1.tr t2
    have t4 : XT l 11 300 false 263 153 6051 50 [xf 13 104, xi a, xi b, xi n, xi (Int32.ofInt (0))] [xi n] g 60 [xf 13 104, xi a, xi b, xi n, xi (Int32.ofInt (0))] [] g := XT_path (l := l) (fr := 11) (lo := 300) (full := false) (M := 263) (n := 153) (u := 6051) (pc := 50) (L := [xf 13 104, xi a, xi b, xi n, xi (Int32.ofInt (0))]) (st := [xi n]) (h := g) (inl := []) (n' := 80) (sp := [60]) (o := [1]) rfl rfl ⟨rfl, rfl, rfl⟩ rfl ⟨Nat.le_of_eq gD.2.2.2.1, Nat.le_of_eq gD.2.2.2.2⟩ ⟨trivial, rfl⟩
    have t5 := t3.tr t4
    exact ⟨_, g, t5, gD, hf.tr fD⟩
  | m + 1, u, h, hg, hf, hu, hm => by
    have t6 : XT l 11 300 false 263 153 6051 42 [xf 13 104, xi a, xi b, xi n, xi u] [] h 47 [xf 13 104, xi a, xi b, xi n, xi u] [xi u, xi b, xi a, xf 13 104] h := XT_path (l := l) (fr := 11) (lo := 300) (full := false) (M := 263) (n := 153) (u := 6051) (pc := 42) (L := [xf 13 104, xi a, xi b, xi n, xi u]) (st := []) (h := h) (inl := []) (n' := 80) (sp := [47]) (o := []) rfl rfl ⟨rfl, rfl, rfl⟩ rfl ⟨Nat.le_of_eq hg.2.2.2.1, Nat.le_of_eq hg.2.2.2.2⟩ trivial
    obtain ⟨v, g0, g, c0, cD, gg0, gD, -, fD, -⟩ := vp_way l hs a b u B_a B_b (by omega) hs h hgs hg (vso_ag hg hf)
    have t7 : XT l 11 300 false 263 153 6051 47 [xf 13 104, xi a, xi b, xi n, xi u] [xi u, xi b, xi a, xf 13 104] h 50 [xf 13 104, xi a, xi b, xi n, xi u] [xi v] g := XT_call (l := l) (fr := 11) (lo := 300) (full := false) (M := 263) (n := 153) (u := 6051) (pc := 47) (L := [xf 13 104, xi a, xi b, xi n, xi u]) (st := [xi u, xi b, xi a, xf 13 104]) (h := h) (i := .invokevirtual 261) (aux := 4) (nx := 50) (K := 261) (vs := [xf 13 104, xi a, xi b, xi u]) (rs := [xi v]) (rest := []) rfl rfl rfl rfl rfl rfl cD (by decide) (by decide) (Nat.le_of_ble_eq_true rfl) ⟨Nat.le_of_eq gD.2.2.2.1, Nat.le_of_eq gD.2.2.2.2⟩
    have t8 := t6.tr t7
    by_cases c9 : v = n
    · have t10 : XT l 11 300 false 263 153 6051 50 [xf 13 104, xi a, xi b, xi n, xi u] [xi v] g 60 [xf 13 104, xi a, xi b, xi n, xi u] [] g := XT_path (l := l) (fr := 11) (lo := 300) (full := false) (M := 263) (n := 153) (u := 6051) (pc := 50) (L := [xf 13 104, xi a, xi b, xi n, xi u]) (st := [xi v]) (h := g) (inl := []) (n' := 80) (sp := [60]) (o := [1]) rfl rfl ⟨rfl, rfl, rfl⟩ rfl ⟨Nat.le_of_eq gD.2.2.2.1, Nat.le_of_eq gD.2.2.2.2⟩ ⟨trivial, c9⟩
      have t11 := t8.tr t10
      exact ⟨_, g, t11, gD, hf.tr fD⟩
    · have t12 : XT l 11 300 false 263 153 6051 50 [xf 13 104, xi a, xi b, xi n, xi u] [xi v] g 42 [xf 13 104, xi a, xi b, xi n, xi (u + Int32.ofInt (-1))] [] g := XT_path (l := l) (fr := 11) (lo := 300) (full := false) (M := 263) (n := 153) (u := 6051) (pc := 50) (L := [xf 13 104, xi a, xi b, xi n, xi u]) (st := [xi v]) (h := g) (inl := []) (n' := 80) (sp := [42]) (o := [0]) rfl rfl ⟨rfl, rfl, rfl⟩ rfl ⟨Nat.le_of_eq gD.2.2.2.1, Nat.le_of_eq gD.2.2.2.2⟩ ⟨trivial, c9⟩
      have t13 := t8.tr t12
      have eu : (u + Int32.ofInt (-1)).toInt = m := by
        rw [Int32.toInt_add, hu, show (Int32.ofInt (-1)).toInt = -1 from rfl]
        exact (Int.bmod_eq_of_le (by omega) (by omega)).trans (by omega)
      obtain ⟨u', k, y, gk, fk⟩ := vso_loop l hs a b n B_a B_b hgs hn m (u + Int32.ofInt (-1)) g gD (hf.tr fD) eu (by omega)
      exact ⟨u', k, t13.tr y, gk, fk⟩
theorem vq_102 (l : Launch) (x0 : Int32) (h : XH) (hg : sgood vT vR vE 153 6051 h) (a0 : (-2147483648) ≤ x0.toInt ∧ x0.toInt ≤ 2147483647) (w0 : 0 ≤ (xI h 104 12).toInt ∧ (xI h 104 12).toInt ≤ 6) : ∃ (v : Int32) (h' : XH), CX l 0 0 false 231 [xf 13 104, xi x0] h [xi v] h' ∧ sgood vT vR vE 153 6051 h' ∧ sframe ([], []) h h' ∧ (((0 ≤ x0.toInt ∧ x0.toInt ≤ 5) ∧ (1 ≤ (xI h 104 12).toInt ∧ (xI h 104 12).toInt ≤ 6) ∧ (1 ≤ v.toInt ∧ v.toInt ≤ 1) ∧ (x0.toInt + 1 ≤ (xI h 104 12).toInt)) ∨ ((0 ≤ v.toInt ∧ v.toInt ≤ 0))) := by
  have ha : sargs (cap vC_102) [xf 13 104, xi x0] := ⟨rfl, a0, trivial⟩
  obtain ⟨ρ, rs, h', ⟨hv, hw⟩, c, g, f, cs, hcs, k1, k2, k3, k4, k5, k6⟩ := vc_102 l [xf 13 104, xi x0] h ha hg (fun q hq => absurd hq List.not_mem_nil) (fun q hq => by
    rcases List.mem_cons.mp hq with rfl | hq
    · exact w0
    exact absurd hq List.not_mem_nil) (fun ρ hρ g hg' => absurd hg' List.not_mem_nil)
  have e0 : ρ 0 = x0.toInt := hv.1
  have f0 : ρ 1 = (xI h 104 12).toInt := hw 0 _ rfl
  rcases List.mem_cons.mp hcs with rfl | hcs
  · obtain ⟨v, rfl, kv⟩ := sres_i k3
    exact ⟨v, h', c, g, f, Or.inl ⟨(by have z := k1 0 _ rfl; rw [e0] at z; exact z), (by have z := k2 0 _ rfl; rw [show sarn (cap vC_102) + 0 = 1 from rfl, f0] at z; exact z), kv, (by have z := k6 _ List.mem_cons_self; rw [e0, f0] at z; exact z)⟩⟩
  rcases List.mem_cons.mp hcs with rfl | hcs
  · obtain ⟨v, rfl, kv⟩ := sres_i k3
    exact ⟨v, h', c, g, f, Or.inr (kv)⟩
  exact absurd hcs List.not_mem_nil
set_option maxRecDepth 100000 in
set_option maxHeartbeats 2000000 in
theorem vh_setOut (l : Launch) (a b : Int32) (h : XH) (hg : sgood vT vR vE 153 6051 h) : ∃ v h', CX l 11 300 false 263 [xf 13 104, xi a, xi b] h [xi v] h' ∧ vG ([(104, 2, false), (104, 54, false), (104, 63, false), (104, 64, false), (133, 6, false), (133, 7, false), (133, 8, false), (133, 9, false), (133, 10, false), (133, 11, false), (134, 0, true), (135, 8, false), (135, 9, false), (135, 10, false), (135, 11, false), (135, 12, false), (135, 13, false), (135, 14, false), (135, 15, false), (136, 0, true), (137, 0, true), (138, 1, false), (139, 0, true), (140, 0, true)], []) h h' := by
  have gA : sgood vT vR vE 153 6051 (xsetI h 104 2 (Int32.ofInt (0))) := vset0 hg ⟨by decide, by decide⟩ (by decide +kernel) (by decide +kernel)
  have fA : sframe ([(104, 2, false), (104, 54, false), (104, 63, false), (104, 64, false), (133, 6, false), (133, 7, false), (133, 8, false), (133, 9, false), (133, 10, false), (133, 11, false), (134, 0, true), (135, 8, false), (135, 9, false), (135, 10, false), (135, 11, false), (135, 12, false), (135, 13, false), (135, 14, false), (135, 15, false), (136, 0, true), (137, 0, true), (138, 1, false), (139, 0, true), (140, 0, true)], []) h (xsetI h 104 2 (Int32.ofInt (0))) := sframe_set rfl
  have t1 : XT l 11 300 false 263 153 6051 0 [xf 13 104, xi a, xi b, xun, xun] [] h 7 [xf 13 104, xi a, xi b, xun, xun] [xi a, xf 13 104] (xsetI h 104 2 (Int32.ofInt (0))) := XT_path (l := l) (fr := 11) (lo := 300) (full := false) (M := 263) (n := 153) (u := 6051) (pc := 0) (L := [xf 13 104, xi a, xi b, xun, xun]) (st := []) (h := h) (inl := []) (n' := 80) (sp := [7]) (o := []) rfl rfl ⟨rfl, rfl, rfl⟩ rfl ⟨Nat.le_of_eq hg.2.2.2.1, Nat.le_of_eq hg.2.2.2.2⟩ trivial
  obtain ⟨v1, h1, k1, g1, fr1, d1⟩ := vq_102 l a (xsetI h 104 2 (Int32.ofInt (0))) gA (i32r_of a) (vbnd gA.1 104 12)
  have f1 : sframe ([(104, 2, false), (104, 54, false), (104, 63, false), (104, 64, false), (133, 6, false), (133, 7, false), (133, 8, false), (133, 9, false), (133, 10, false), (133, 11, false), (134, 0, true), (135, 8, false), (135, 9, false), (135, 10, false), (135, 11, false), (135, 12, false), (135, 13, false), (135, 14, false), (135, 15, false), (136, 0, true), (137, 0, true), (138, 1, false), (139, 0, true), (140, 0, true)], []) h h1 := fA.tr (fr1.mono rfl rfl)
  have t2 : XT l 11 300 false 263 153 6051 7 [xf 13 104, xi a, xi b, xun, xun] [xi a, xf 13 104] (xsetI h 104 2 (Int32.ofInt (0))) 10 [xf 13 104, xi a, xi b, xun, xun] [xi v1] h1 := XT_call (l := l) (fr := 11) (lo := 300) (full := false) (M := 263) (n := 153) (u := 6051) (pc := 7) (L := [xf 13 104, xi a, xi b, xun, xun]) (st := [xi a, xf 13 104]) (h := (xsetI h 104 2 (Int32.ofInt (0)))) (i := .invokevirtual 231) (aux := 2) (nx := 10) (K := 231) (vs := [xf 13 104, xi a]) (rs := [xi v1]) (rest := []) rfl rfl rfl rfl rfl rfl k1 (by decide) (by decide) (Nat.le_of_ble_eq_true rfl) ⟨Nat.le_of_eq g1.2.2.2.1, Nat.le_of_eq g1.2.2.2.2⟩
  have t3 := t1.tr t2
  by_cases c4 : v1 = 0
  · have t5 : XT l 11 300 false 263 153 6051 10 [xf 13 104, xi a, xi b, xun, xun] [xi v1] h1 22 [xf 13 104, xi a, xi b, xun, xun] [xi (Int32.ofInt (-1))] h1 := XT_path (l := l) (fr := 11) (lo := 300) (full := false) (M := 263) (n := 153) (u := 6051) (pc := 10) (L := [xf 13 104, xi a, xi b, xun, xun]) (st := [xi v1]) (h := h1) (inl := []) (n' := 80) (sp := [22]) (o := [1]) rfl rfl ⟨rfl, rfl, rfl⟩ rfl ⟨Nat.le_of_eq g1.2.2.2.1, Nat.le_of_eq g1.2.2.2.2⟩ ⟨trivial, c4⟩
    have t6 := t3.tr t5
    exact ⟨_, _, CX_ofT (h' := h1) (by decide) rfl rfl trivial ⟨_, _, _, rfl, rfl, rfl⟩ rfl ⟨Nat.le_of_eq g1.2.2.2.1.symm, Nat.le_of_eq g1.2.2.2.2.symm⟩ t6, g1, f1⟩
  · have t7 : XT l 11 300 false 263 153 6051 10 [xf 13 104, xi a, xi b, xun, xun] [xi v1] h1 15 [xf 13 104, xi a, xi b, xun, xun] [xi b, xf 13 104] h1 := XT_path (l := l) (fr := 11) (lo := 300) (full := false) (M := 263) (n := 153) (u := 6051) (pc := 10) (L := [xf 13 104, xi a, xi b, xun, xun]) (st := [xi v1]) (h := h1) (inl := []) (n' := 80) (sp := [15]) (o := [0]) rfl rfl ⟨rfl, rfl, rfl⟩ rfl ⟨Nat.le_of_eq g1.2.2.2.1, Nat.le_of_eq g1.2.2.2.2⟩ ⟨trivial, c4⟩
    have t8 := t3.tr t7
    obtain ⟨v2, h2, k2, g2, fr2, d2⟩ := vq_102 l b h1 g1 (i32r_of b) (vbnd g1.1 104 12)
    have f2 : sframe ([(104, 2, false), (104, 54, false), (104, 63, false), (104, 64, false), (133, 6, false), (133, 7, false), (133, 8, false), (133, 9, false), (133, 10, false), (133, 11, false), (134, 0, true), (135, 8, false), (135, 9, false), (135, 10, false), (135, 11, false), (135, 12, false), (135, 13, false), (135, 14, false), (135, 15, false), (136, 0, true), (137, 0, true), (138, 1, false), (139, 0, true), (140, 0, true)], []) h h2 := f1.tr (fr2.mono rfl rfl)
    have t9 : XT l 11 300 false 263 153 6051 15 [xf 13 104, xi a, xi b, xun, xun] [xi b, xf 13 104] h1 18 [xf 13 104, xi a, xi b, xun, xun] [xi v2] h2 := XT_call (l := l) (fr := 11) (lo := 300) (full := false) (M := 263) (n := 153) (u := 6051) (pc := 15) (L := [xf 13 104, xi a, xi b, xun, xun]) (st := [xi b, xf 13 104]) (h := h1) (i := .invokevirtual 231) (aux := 2) (nx := 18) (K := 231) (vs := [xf 13 104, xi b]) (rs := [xi v2]) (rest := []) rfl rfl rfl rfl rfl rfl k2 (by decide) (by decide) (Nat.le_of_ble_eq_true rfl) ⟨Nat.le_of_eq g2.2.2.2.1, Nat.le_of_eq g2.2.2.2.2⟩
    have t10 := t8.tr t9
    by_cases c11 : v2 = 0
    · have t12 : XT l 11 300 false 263 153 6051 18 [xf 13 104, xi a, xi b, xun, xun] [xi v2] h2 22 [xf 13 104, xi a, xi b, xun, xun] [xi (Int32.ofInt (-1))] h2 := XT_path (l := l) (fr := 11) (lo := 300) (full := false) (M := 263) (n := 153) (u := 6051) (pc := 18) (L := [xf 13 104, xi a, xi b, xun, xun]) (st := [xi v2]) (h := h2) (inl := []) (n' := 80) (sp := [22]) (o := [0]) rfl rfl ⟨rfl, rfl, rfl⟩ rfl ⟨Nat.le_of_eq g2.2.2.2.1, Nat.le_of_eq g2.2.2.2.2⟩ ⟨trivial, c11⟩
      have t13 := t10.tr t12
      exact ⟨_, _, CX_ofT (h' := h2) (by decide) rfl rfl trivial ⟨_, _, _, rfl, rfl, rfl⟩ rfl ⟨Nat.le_of_eq g2.2.2.2.1.symm, Nat.le_of_eq g2.2.2.2.2.symm⟩ t13, g2, f2⟩
    · have t14 : XT l 11 300 false 263 153 6051 18 [xf 13 104, xi a, xi b, xun, xun] [xi v2] h2 27 [xf 13 104, xi a, xi b, xun, xun] [xi (Int32.ofInt (0)), xi b, xi a, xf 13 104] h2 := XT_path (l := l) (fr := 11) (lo := 300) (full := false) (M := 263) (n := 153) (u := 6051) (pc := 18) (L := [xf 13 104, xi a, xi b, xun, xun]) (st := [xi v2]) (h := h2) (inl := []) (n' := 80) (sp := [27]) (o := [1]) rfl rfl ⟨rfl, rfl, rfl⟩ rfl ⟨Nat.le_of_eq g2.2.2.2.1, Nat.le_of_eq g2.2.2.2.2⟩ ⟨trivial, c11⟩
      have t15 := t10.tr t14
      have B_a : 0 ≤ a.toInt ∧ a.toInt ≤ 5 := by
        rcases d1 with d1 | d1
        · omega
        · exact absurd (Int32.toInt_inj.mp (show v1.toInt = (0 : Int32).toInt from by rw [show (0 : Int32).toInt = 0 from rfl]; omega)) c4
      have B_b : 0 ≤ b.toInt ∧ b.toInt ≤ 5 := by
        rcases d2 with d2 | d2
        · omega
        · exact absurd (Int32.toInt_inj.mp (show v2.toInt = (0 : Int32).toInt from by rw [show (0 : Int32).toInt = 0 from rfl]; omega)) c11
      have gS : sgood vT vR (vEs h2) 153 6051 h2 := ⟨g2.1, g2.2.1, ⟨g2.2.2.1, fun _ _ => rfl, fun _ _ => rfl, fun _ _ => rfl⟩, g2.2.2.2⟩
      have TT := t15
      by_cases U : ∃ v v' g g', CX l 10 265 false 261 [xf 13 104, xi a, xi b, xi (Int32.ofInt (0))] h2 [xi v] g ∧ CX l 10 265 false 261 [xf 13 104, xi a, xi b, xi (Int32.ofInt (0))] h2 [xi v'] g' ∧ v ≠ v' ∧ sgood vT vR (vEs h2) 153 6051 g ∧ sgood vT vR (vEs h2) 153 6051 g'
      · obtain ⟨v, v', g, g', y1, y2, y3, y4, y5⟩ := U
        have eN := g2.2.2.2
        have cU : CX l 10 265 false 261 [xf 13 104, xi a, xi b, xi (Int32.ofInt (0))] h2 [xi (Int32.ofInt (-2))] h2 := CX_two y1 y2 y3 ⟨y4.2.2.2.1.trans eN.1.symm, y4.2.2.2.2.trans eN.2.symm⟩ ⟨y5.2.2.2.1.trans eN.1.symm, y5.2.2.2.2.trans eN.2.symm⟩ (by decide)
        have t16 : XT l 11 300 false 263 153 6051 27 [xf 13 104, xi a, xi b, xun, xun] [xi (Int32.ofInt (0)), xi b, xi a, xf 13 104] h2 30 [xf 13 104, xi a, xi b, xun, xun] [xi (Int32.ofInt (-2))] h2 := XT_call (l := l) (fr := 11) (lo := 300) (full := false) (M := 263) (n := 153) (u := 6051) (pc := 27) (L := [xf 13 104, xi a, xi b, xun, xun]) (st := [xi (Int32.ofInt (0)), xi b, xi a, xf 13 104]) (h := h2) (i := .invokevirtual 261) (aux := 4) (nx := 30) (K := 261) (vs := [xf 13 104, xi a, xi b, xi (Int32.ofInt (0))]) (rs := [xi (Int32.ofInt (-2))]) (rest := []) rfl rfl rfl rfl rfl rfl cU (by decide) (by decide) (Nat.le_of_ble_eq_true rfl) ⟨Nat.le_of_eq g2.2.2.2.1, Nat.le_of_eq g2.2.2.2.2⟩
        have t17 := TT.tr t16
        have t18 : XT l 11 300 false 263 153 6051 30 [xf 13 104, xi a, xi b, xun, xun] [xi (Int32.ofInt (-2))] h2 37 [xf 13 104, xi a, xi b, xi (Int32.ofInt (-2)), xun] [xi (Int32.ofInt (-2))] h2 := XT_path (l := l) (fr := 11) (lo := 300) (full := false) (M := 263) (n := 153) (u := 6051) (pc := 30) (L := [xf 13 104, xi a, xi b, xun, xun]) (st := [xi (Int32.ofInt (-2))]) (h := h2) (inl := []) (n' := 80) (sp := [37]) (o := [0]) rfl rfl ⟨rfl, rfl, rfl⟩ rfl ⟨Nat.le_of_eq g2.2.2.2.1, Nat.le_of_eq g2.2.2.2.2⟩ ⟨trivial, (by decide)⟩
        have t19 := t17.tr t18
        exact ⟨_, _, CX_ofT (h' := h2) (by decide) rfl rfl trivial ⟨_, _, _, rfl, rfl, rfl⟩ rfl ⟨Nat.le_of_eq g2.2.2.2.1.symm, Nat.le_of_eq g2.2.2.2.2.symm⟩ t19, g2, f2⟩
      · obtain ⟨v3, g0, h3, c0, k3, gg0, g3, -, fr3, B3⟩ := vp_way l h2 a b (Int32.ofInt (0)) B_a B_b (by decide) h2 h2 gS gS ⟨fun _ _ _ _ => rfl, fun _ _ => rfl, trivial⟩
        have hn : ∀ v g, CX l 10 265 false 261 [xf 13 104, xi a, xi b, xi (Int32.ofInt (0))] h2 [xi v] g → sgood vT vR (vEs h2) 153 6051 g → v = v3 := fun v g y1 y2 => Classical.byContradiction fun z => U ⟨v, v3, g, g0, y1, c0, z, y2, gg0⟩
        have f3 : sframe ([(104, 2, false), (104, 54, false), (104, 63, false), (104, 64, false), (133, 6, false), (133, 7, false), (133, 8, false), (133, 9, false), (133, 10, false), (133, 11, false), (134, 0, true), (135, 8, false), (135, 9, false), (135, 10, false), (135, 11, false), (135, 12, false), (135, 13, false), (135, 14, false), (135, 15, false), (136, 0, true), (137, 0, true), (138, 1, false), (139, 0, true), (140, 0, true)], []) h h3 := f2.tr (fr3.mono (by decide +kernel) rfl)
        have t20 : XT l 11 300 false 263 153 6051 27 [xf 13 104, xi a, xi b, xun, xun] [xi (Int32.ofInt (0)), xi b, xi a, xf 13 104] h2 30 [xf 13 104, xi a, xi b, xun, xun] [xi v3] h3 := XT_call (l := l) (fr := 11) (lo := 300) (full := false) (M := 263) (n := 153) (u := 6051) (pc := 27) (L := [xf 13 104, xi a, xi b, xun, xun]) (st := [xi (Int32.ofInt (0)), xi b, xi a, xf 13 104]) (h := h2) (i := .invokevirtual 261) (aux := 4) (nx := 30) (K := 261) (vs := [xf 13 104, xi a, xi b, xi (Int32.ofInt (0))]) (rs := [xi v3]) (rest := []) rfl rfl rfl rfl rfl rfl k3 (by decide) (by decide) (Nat.le_of_ble_eq_true rfl) ⟨Nat.le_of_eq g3.2.2.2.1, Nat.le_of_eq g3.2.2.2.2⟩
        have t21 := TT.tr t20
        by_cases c22 : (0 : Int32) ≤ v3
        · have t23 : XT l 11 300 false 263 153 6051 30 [xf 13 104, xi a, xi b, xun, xun] [xi v3] h3 42 [xf 13 104, xi a, xi b, xi v3, xi (Int32.ofInt (20))] [] h3 := XT_path (l := l) (fr := 11) (lo := 300) (full := false) (M := 263) (n := 153) (u := 6051) (pc := 30) (L := [xf 13 104, xi a, xi b, xun, xun]) (st := [xi v3]) (h := h3) (inl := []) (n' := 80) (sp := [42]) (o := [1]) rfl rfl ⟨rfl, rfl, rfl⟩ rfl ⟨Nat.le_of_eq g3.2.2.2.1, Nat.le_of_eq g3.2.2.2.2⟩ ⟨trivial, c22⟩
          have t24 := t21.tr t23
          obtain ⟨u', h4, y4, g4, fr4⟩ := vso_loop l h2 a b v3 B_a B_b gS hn 20 (Int32.ofInt (20)) h3 g3 fr3 rfl (by decide)
          have f4 : sframe ([(104, 2, false), (104, 54, false), (104, 63, false), (104, 64, false), (133, 6, false), (133, 7, false), (133, 8, false), (133, 9, false), (133, 10, false), (133, 11, false), (134, 0, true), (135, 8, false), (135, 9, false), (135, 10, false), (135, 11, false), (135, 12, false), (135, 13, false), (135, 14, false), (135, 15, false), (136, 0, true), (137, 0, true), (138, 1, false), (139, 0, true), (140, 0, true)], []) h h4 := f2.tr (fr4.mono (by decide +kernel) rfl)
          have T4 := t24.tr y4
          have t25 : XT l 11 300 false 263 153 6051 60 [xf 13 104, xi a, xi b, xi v3, xi u'] [] h4 62 [xf 13 104, xi a, xi b, xi v3, xi u'] [xi u'] h4 := XT_path (l := l) (fr := 11) (lo := 300) (full := false) (M := 263) (n := 153) (u := 6051) (pc := 60) (L := [xf 13 104, xi a, xi b, xi v3, xi u']) (st := []) (h := h4) (inl := []) (n' := 80) (sp := [62]) (o := []) rfl rfl ⟨rfl, rfl, rfl⟩ rfl ⟨Nat.le_of_eq g4.2.2.2.1, Nat.le_of_eq g4.2.2.2.2⟩ trivial
          have t26 := T4.tr t25
          exact ⟨_, _, CX_ofT (h' := h4) (by decide) rfl rfl trivial ⟨_, _, _, rfl, rfl, rfl⟩ rfl ⟨Nat.le_of_eq g4.2.2.2.1.symm, Nat.le_of_eq g4.2.2.2.2.symm⟩ t26, (sgS_E g4), f4⟩
        · have t27 : XT l 11 300 false 263 153 6051 30 [xf 13 104, xi a, xi b, xun, xun] [xi v3] h3 37 [xf 13 104, xi a, xi b, xi v3, xun] [xi (Int32.ofInt (-2))] h3 := XT_path (l := l) (fr := 11) (lo := 300) (full := false) (M := 263) (n := 153) (u := 6051) (pc := 30) (L := [xf 13 104, xi a, xi b, xun, xun]) (st := [xi v3]) (h := h3) (inl := []) (n' := 80) (sp := [37]) (o := [0]) rfl rfl ⟨rfl, rfl, rfl⟩ rfl ⟨Nat.le_of_eq g3.2.2.2.1, Nat.le_of_eq g3.2.2.2.2⟩ ⟨trivial, c22⟩
          have t28 := t21.tr t27
          exact ⟨_, _, CX_ofT (h' := h3) (by decide) rfl rfl trivial ⟨_, _, _, rfl, rfl, rfl⟩ rfl ⟨Nat.le_of_eq g3.2.2.2.1.symm, Nat.le_of_eq g3.2.2.2.2.symm⟩ t28, (sgS_E g3), f3⟩
