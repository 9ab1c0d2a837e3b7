/-! SEASONS: which one it is. -/
def zyr (n s : Int32) : Int32 × Int32 := if 0 ≤ n.toInt ∧ n.toInt ≤ 99 ∧ (s + n).toInt ≤ 9999 then (s + n, s + n) else (Int32.ofInt (-1), s)
theorem zyr_y {n s : Int32} (h : 0 ≤ n.toInt ∧ n.toInt ≤ 99 ∧ (s + n).toInt ≤ 9999) : zyr n s = (s + n, s + n) := if_pos h
theorem zyr_n {n s : Int32} (h : ¬ (0 ≤ n.toInt ∧ n.toInt ≤ 99 ∧ (s + n).toInt ≤ 9999)) : zyr n s = (Int32.ofInt (-1), s) := if_neg h
theorem vt_fill53 (l : Launch) (x0 : Int32) (h : XH) (hg : sgood vT vR vE 153 6051 h) (a0 : 2 ≤ x0.toInt ∧ x0.toInt ≤ 2) : ∃ (h' : XH), CX l 0 0 false 5 [xf 10008 53, xi x0] h [] h' ∧ sgood vT vR vE 153 6051 h' ∧ sframe ([(53, 0, true)], []) h h' ∧ ((True)) := by
  have ha : sargs (cap vC_58) [xf 10008 53, xi x0] := ⟨rfl, a0, trivial⟩
  obtain ⟨ρ, rs, h', ⟨hv, hw⟩, c, g, f, cs, hcs, k1, k2, k3, k4, k5, k6⟩ := vc_58 l [xf 10008 53, xi x0] h ha hg (fun q hq => absurd hq List.not_mem_nil) (fun q hq => absurd hq List.not_mem_nil) (fun ρ hρ g hg' => absurd hg' List.not_mem_nil)
  have e0 : ρ 0 = x0.toInt := hv.1
  rcases List.mem_cons.mp hcs with rfl | hcs
  · obtain rfl := sres_n k3
    exact ⟨h', c, g, f, trivial⟩
  exact absurd hcs List.not_mem_nil
theorem vt_str48 (l : Launch)  (h : XH) (hg : sgood vT vR vE 153 6051 h)  : ∃ (v : Int32) (h' : XH), CX l 5 122 false 99 [xf 11 48] h [xi v] h' ∧ sgood vT vR vE 153 6051 h' ∧ sframe ([(49, 0, true), (51, 0, true), (55, 0, true), (57, 0, true)], []) h h' ∧ (((0 ≤ v.toInt ∧ v.toInt ≤ 0)) ∨ ((1 ≤ v.toInt ∧ v.toInt ≤ 1))) := by
  have ha : sargs (cap vC_154) [xf 11 48] := ⟨rfl, trivial⟩
  obtain ⟨ρ, rs, h', ⟨hv, hw⟩, c, g, f, cs, hcs, k1, k2, k3, k4, k5, k6⟩ := vc_154 l [xf 11 48] h ha hg (fun q hq => absurd hq List.not_mem_nil) (fun q hq => absurd hq List.not_mem_nil) (fun ρ hρ g hg' => absurd hg' List.not_mem_nil)
  rcases List.mem_cons.mp hcs with rfl | hcs
  · obtain ⟨v, rfl, kv⟩ := sres_i k3
    exact ⟨v, h', c, g, f, Or.inl kv⟩
  rcases List.mem_cons.mp hcs with rfl | hcs
  · obtain ⟨v, rfl, kv⟩ := sres_i k3
    exact ⟨v, h', c, g, f, Or.inr (kv)⟩
  exact absurd hcs List.not_mem_nil
theorem vt_reap48 (l : Launch)  (h : XH) (hg : sgood vT vR vE 153 6051 h)  : ∃ (h' : XH), CX l 5 118 false 101 [xf 11 48] h [] h' ∧ sgood vT vR vE 153 6051 h' ∧ sframe ([(50, 0, true), (54, 0, true)], []) h h' ∧ ((True)) := by
  have ha : sargs (cap vC_150) [xf 11 48] := ⟨rfl, trivial⟩
  obtain ⟨ρ, rs, h', ⟨hv, hw⟩, c, g, f, cs, hcs, k1, k2, k3, k4, k5, k6⟩ := vc_150 l [xf 11 48] h ha hg (fun q hq => absurd hq List.not_mem_nil) (fun q hq => absurd hq List.not_mem_nil) (fun ρ hρ g hg' => absurd hg' List.not_mem_nil)
  rcases List.mem_cons.mp hcs with rfl | hcs
  · obtain rfl := sres_n k3
    exact ⟨h', c, g, f, trivial⟩
  exact absurd hcs List.not_mem_nil
set_option maxRecDepth 100000 in
set_option maxHeartbeats 4000000 in
theorem ck_close (l : Launch) (h : XH) (hg : sgood vT vR vE 153 6051 h) : ∃ h', CX l 1 23 false 102 [xf 11 48] h [] h' ∧ vG ([(48, 7, false), (53, 0, true)], []) h h' ∧ xI h' 48 7 = xI h 48 7 + (Int32.ofInt (1)) := by
  have t1 : XT l 1 23 false 102 153 6051 0 [xf 11 48] [] h 5 [xf 11 48] [xi (Int32.ofInt (2)), xf 10008 (xR h 48 5)] h := XT_path (l := l) (fr := 1) (lo := 23) (full := false) (M := 102) (n := 153) (u := 6051) (pc := 0) (L := [xf 11 48]) (st := []) (h := h) (inl := []) (n' := 80) (sp := [5]) (o := []) rfl rfl ⟨rfl, rfl, rfl⟩ rfl ⟨Nat.le_of_eq hg.2.2.2.1, Nat.le_of_eq hg.2.2.2.2⟩ ⟨trivial, (vnn hg.1 (rfl : vRf 48 5 = [53]) (by decide))⟩
  rw [vref hg.1 (rfl : vRf 48 5 = [53])] at t1
  obtain ⟨h1, c1, g1, f1, -⟩ := vt_fill53 l (Int32.ofInt (2)) h hg ⟨by decide, by decide⟩
  have G1 : vG ([(48, 7, false), (53, 0, true)], []) h h1 := ⟨g1, f1.mono rfl rfl⟩
  have t2 : XT l 1 23 false 102 153 6051 5 [xf 11 48] [xi (Int32.ofInt (2)), xf 10008 53] h 8 [xf 11 48] [] h1 := XT_call (l := l) (fr := 1) (lo := 23) (full := false) (M := 102) (n := 153) (u := 6051) (pc := 5) (L := [xf 11 48]) (st := [xi (Int32.ofInt (2)), xf 10008 53]) (h := h) (i := .invokestatic 5) (aux := 2) (nx := 8) (K := 5) (vs := [xf 10008 53, xi (Int32.ofInt (2))]) (rs := []) (rest := []) rfl rfl rfl rfl rfl rfl c1 (by decide) (by decide) (Nat.le_of_ble_eq_true rfl) ⟨Nat.le_of_eq g1.2.2.2.1, Nat.le_of_eq g1.2.2.2.2⟩
  have t3 := t1.tr t2
  have t4 : XT l 1 23 false 102 153 6051 8 [xf 11 48] [] h1 18 [xf 11 48] [] (xsetI h1 48 7 ((xI h1 48 7) + (Int32.ofInt (1)))) := XT_path (l := l) (fr := 1) (lo := 23) (full := false) (M := 102) (n := 153) (u := 6051) (pc := 8) (L := [xf 11 48]) (st := []) (h := h1) (inl := []) (n' := 80) (sp := [18]) (o := []) rfl rfl ⟨rfl, rfl, rfl⟩ rfl ⟨Nat.le_of_eq g1.2.2.2.1, Nat.le_of_eq g1.2.2.2.2⟩ trivial
  have t5 := t3.tr t4
  have G : vG ([(48, 7, false), (53, 0, true)], []) h (xsetI h1 48 7 ((xI h1 48 7) + (Int32.ofInt (1)))) := (G1 : vG ([(48, 7, false), (53, 0, true)], []) h h1).set (c := 48) (k := 7) (v := ((xI h1 48 7) + (Int32.ofInt (1)))) (show (-2147483648 : Int) ≤ _ ∧ _ ≤ 2147483647 from i32r_of _) (by decide +kernel) (by decide +kernel) rfl
  exact ⟨_, CX_ofT (h' := (xsetI h1 48 7 ((xI h1 48 7) + (Int32.ofInt (1))))) (by decide) rfl rfl trivial ⟨_, _, _, rfl, rfl, rfl⟩ rfl ⟨Nat.le_of_eq g1.2.2.2.1.symm, Nat.le_of_eq g1.2.2.2.2.symm⟩ t5, G, by rw [yI_same, f1.1 48 7 rfl]⟩
set_option maxRecDepth 100000 in
set_option maxHeartbeats 4000000 in
theorem ck_pass (l : Launch) (h : XH) (hg : sgood vT vR vE 153 6051 h) : ∃ h', CX l 6 145 false 98 [xf 11 48] h [] h' ∧ vG ([(48, 7, false), (49, 0, true), (50, 0, true), (51, 0, true), (53, 0, true), (54, 0, true), (55, 0, true), (57, 0, true)], []) h h' ∧ xI h' 48 7 = xI h 48 7 + (Int32.ofInt (1)) := by
  have t1 : XT l 6 145 false 98 153 6051 0 [xf 11 48] [] h 1 [xf 11 48] [xf 11 48] h := XT_path (l := l) (fr := 6) (lo := 145) (full := false) (M := 98) (n := 153) (u := 6051) (pc := 0) (L := [xf 11 48]) (st := []) (h := h) (inl := []) (n' := 80) (sp := [1]) (o := []) rfl rfl ⟨rfl, rfl, rfl⟩ rfl ⟨Nat.le_of_eq hg.2.2.2.1, Nat.le_of_eq hg.2.2.2.2⟩ trivial
  obtain ⟨v, h1, c1, g1, f1, -⟩ := vt_str48 l h hg
  have G1 : vG ([(48, 7, false), (49, 0, true), (50, 0, true), (51, 0, true), (53, 0, true), (54, 0, true), (55, 0, true), (57, 0, true)], []) h h1 := ⟨g1, f1.mono rfl rfl⟩
  have t2 : XT l 6 145 false 98 153 6051 1 [xf 11 48] [xf 11 48] h 4 [xf 11 48] [xi v] h1 := XT_call (l := l) (fr := 6) (lo := 145) (full := false) (M := 98) (n := 153) (u := 6051) (pc := 1) (L := [xf 11 48]) (st := [xf 11 48]) (h := h) (i := .invokevirtual 99) (aux := 1) (nx := 4) (K := 99) (vs := [xf 11 48]) (rs := [xi v]) (rest := []) rfl rfl rfl rfl rfl rfl c1 (by decide) (by decide) (Nat.le_of_ble_eq_true rfl) ⟨Nat.le_of_eq G1.1.2.2.2.1, Nat.le_of_eq G1.1.2.2.2.2⟩
  have t3 := t1.tr t2
  have t4 : XT l 6 145 false 98 153 6051 4 [xf 11 48] [xi v] h1 6 [xf 11 48] [xf 11 48] h1 := XT_path (l := l) (fr := 6) (lo := 145) (full := false) (M := 98) (n := 153) (u := 6051) (pc := 4) (L := [xf 11 48]) (st := [xi v]) (h := h1) (inl := []) (n' := 80) (sp := [6]) (o := []) rfl rfl ⟨rfl, rfl, rfl⟩ rfl ⟨Nat.le_of_eq G1.1.2.2.2.1, Nat.le_of_eq G1.1.2.2.2.2⟩ trivial
  have t5 := t3.tr t4
  obtain ⟨h2, c2, g2, f2, -⟩ := vt_reap48 l h1 G1.1
  have G2 : vG ([(48, 7, false), (49, 0, true), (50, 0, true), (51, 0, true), (53, 0, true), (54, 0, true), (55, 0, true), (57, 0, true)], []) h h2 := G1.tr ⟨g2, f2.mono rfl rfl⟩
  have t6 : XT l 6 145 false 98 153 6051 6 [xf 11 48] [xf 11 48] h1 9 [xf 11 48] [] h2 := XT_call (l := l) (fr := 6) (lo := 145) (full := false) (M := 98) (n := 153) (u := 6051) (pc := 6) (L := [xf 11 48]) (st := [xf 11 48]) (h := h1) (i := .invokevirtual 101) (aux := 1) (nx := 9) (K := 101) (vs := [xf 11 48]) (rs := []) (rest := []) rfl rfl rfl rfl rfl rfl c2 (by decide) (by decide) (Nat.le_of_ble_eq_true rfl) ⟨Nat.le_of_eq G2.1.2.2.2.1, Nat.le_of_eq G2.1.2.2.2.2⟩
  have t7 := t5.tr t6
  have t8 : XT l 6 145 false 98 153 6051 9 [xf 11 48] [] h2 10 [xf 11 48] [xf 11 48] h2 := XT_path (l := l) (fr := 6) (lo := 145) (full := false) (M := 98) (n := 153) (u := 6051) (pc := 9) (L := [xf 11 48]) (st := []) (h := h2) (inl := []) (n' := 80) (sp := [10]) (o := []) rfl rfl ⟨rfl, rfl, rfl⟩ rfl ⟨Nat.le_of_eq G2.1.2.2.2.1, Nat.le_of_eq G2.1.2.2.2.2⟩ trivial
  have t9 := t7.tr t8
  obtain ⟨h3, c3, g3, s3⟩ := ck_close l h2 G2.1
  have G3 : vG ([(48, 7, false), (49, 0, true), (50, 0, true), (51, 0, true), (53, 0, true), (54, 0, true), (55, 0, true), (57, 0, true)], []) h h3 := G2.tr ⟨g3.1, g3.2.mono rfl rfl⟩
  have t10 : XT l 6 145 false 98 153 6051 10 [xf 11 48] [xf 11 48] h2 13 [xf 11 48] [] h3 := XT_call (l := l) (fr := 6) (lo := 145) (full := false) (M := 98) (n := 153) (u := 6051) (pc := 10) (L := [xf 11 48]) (st := [xf 11 48]) (h := h2) (i := .invokevirtual 102) (aux := 1) (nx := 13) (K := 102) (vs := [xf 11 48]) (rs := []) (rest := []) rfl rfl rfl rfl rfl rfl c3 (by decide) (by decide) (Nat.le_of_ble_eq_true rfl) ⟨Nat.le_of_eq G3.1.2.2.2.1, Nat.le_of_eq G3.1.2.2.2.2⟩
  have t11 := t9.tr t10
  exact ⟨_, CX_ofT (h' := h3) (by decide) rfl rfl trivial ⟨_, _, _, rfl, rfl, rfl⟩ rfl ⟨Nat.le_of_eq G3.1.2.2.2.1.symm, Nat.le_of_eq G3.1.2.2.2.2.symm⟩ t11, G3, by rw [s3, f2.1 48 7 rfl, f1.1 48 7 rfl]⟩
set_option maxRecDepth 100000 in
set_option maxHeartbeats 4000000 in
theorem ck_seaL (l : Launch) (n : Int32) (n9 : n.toInt ≤ 99) (h : XH) : ∀ (m : Nat) (i : Int32) (h' : XH), vG ([(48, 7, false), (49, 0, true), (50, 0, true), (51, 0, true), (53, 0, true), (54, 0, true), (55, 0, true), (57, 0, true), (81, 0, false)], []) h h' → 0 ≤ i.toInt → i.toInt + m = n.toInt → xI h' 48 7 = xI h 48 7 + i → ∃ i' h'', XT l 7 165 false 97 153 6051 29 [xf 12 2, xi n, xi i] [] h' 47 [xf 12 2, xi n, xi i'] [] h'' ∧ vG ([(48, 7, false), (49, 0, true), (50, 0, true), (51, 0, true), (53, 0, true), (54, 0, true), (55, 0, true), (57, 0, true), (81, 0, false)], []) h h'' ∧ xI h'' 48 7 = xI h 48 7 + n
  | 0, i, h', G, i0, im, e => by
    have t1 : XT l 7 165 false 97 153 6051 29 [xf 12 2, xi n, xi i] [] h' 47 [xf 12 2, xi n, xi i] [] h' := XT_path (l := l) (fr := 7) (lo := 165) (full := false) (M := 97) (n := 153) (u := 6051) (pc := 29) (L := [xf 12 2, xi n, xi i]) (st := []) (h := h') (inl := []) (n' := 80) (sp := [47]) (o := [1]) rfl rfl ⟨rfl, rfl, rfl⟩ rfl ⟨Nat.le_of_eq G.1.2.2.2.1, Nat.le_of_eq G.1.2.2.2.2⟩ ⟨trivial, (Int32.le_iff_toInt_le.mpr (by omega))⟩
    have ei : i = n := Int32.toInt_inj.mp (by omega)
    exact ⟨i, h', t1, G, by rw [e, ei]⟩
  | m + 1, i, h', G, i0, im, e => by
    have ej := y_suc1 i0 (by omega)
    have t1 : XT l 7 165 false 97 153 6051 29 [xf 12 2, xi n, xi i] [] h' 38 [xf 12 2, xi n, xi i] [xf 11 (xR h' 2 3)] h' := XT_path (l := l) (fr := 7) (lo := 165) (full := false) (M := 97) (n := 153) (u := 6051) (pc := 29) (L := [xf 12 2, xi n, xi i]) (st := []) (h := h') (inl := []) (n' := 80) (sp := [38]) (o := [0]) rfl rfl ⟨rfl, rfl, rfl⟩ rfl ⟨Nat.le_of_eq G.1.2.2.2.1, Nat.le_of_eq G.1.2.2.2.2⟩ ⟨⟨trivial, (fun z => absurd (Int32.le_iff_toInt_le.mp z) (by omega))⟩, (vnn G.1.1 (rfl : vRf 2 3 = [48]) (by decide))⟩
    rw [vref G.1.1 (rfl : vRf 2 3 = [48])] at t1
    obtain ⟨h1, c1, g1, s1⟩ := ck_pass l h' G.1
    have G1 : vG ([(48, 7, false), (49, 0, true), (50, 0, true), (51, 0, true), (53, 0, true), (54, 0, true), (55, 0, true), (57, 0, true), (81, 0, false)], []) h h1 := G.tr ⟨g1.1, g1.2.mono rfl rfl⟩
    have t2 : XT l 7 165 false 97 153 6051 38 [xf 12 2, xi n, xi i] [xf 11 48] h' 41 [xf 12 2, xi n, xi i] [] h1 := XT_call (l := l) (fr := 7) (lo := 165) (full := false) (M := 97) (n := 153) (u := 6051) (pc := 38) (L := [xf 12 2, xi n, xi i]) (st := [xf 11 48]) (h := h') (i := .invokevirtual 98) (aux := 1) (nx := 41) (K := 98) (vs := [xf 11 48]) (rs := []) (rest := []) rfl rfl rfl rfl rfl rfl c1 (by decide) (by decide) (Nat.le_of_ble_eq_true rfl) ⟨Nat.le_of_eq G1.1.2.2.2.1, Nat.le_of_eq G1.1.2.2.2.2⟩
    have t3 := t1.tr t2
    have t4 : XT l 7 165 false 97 153 6051 41 [xf 12 2, xi n, xi i] [] h1 29 [xf 12 2, xi n, xi (i + Int32.ofInt (1))] [] h1 := XT_path (l := l) (fr := 7) (lo := 165) (full := false) (M := 97) (n := 153) (u := 6051) (pc := 41) (L := [xf 12 2, xi n, xi i]) (st := []) (h := h1) (inl := []) (n' := 80) (sp := [29]) (o := []) rfl rfl ⟨rfl, rfl, rfl⟩ rfl ⟨Nat.le_of_eq G1.1.2.2.2.1, Nat.le_of_eq G1.1.2.2.2.2⟩ trivial
    have t5 := t3.tr t4
    obtain ⟨i', h2, z1, z2, z3⟩ := ck_seaL l n n9 h m (i + (Int32.ofInt (1))) h1 G1 (by omega) (by omega) (by rw [s1, e, Int32.add_assoc])
    exact ⟨i', h2, t5.tr z1, z2, z3⟩
set_option maxRecDepth 100000 in
set_option maxHeartbeats 4000000 in
theorem ck_seasons (l : Launch) (n : Int32) (h : XH) (hg : sgood vT vR vE 153 6051 h) : ∃ v h', CX l 7 165 false 97 [xf 12 2, xi n] h [xi v] h' ∧ vG ([(48, 7, false), (49, 0, true), (50, 0, true), (51, 0, true), (53, 0, true), (54, 0, true), (55, 0, true), (57, 0, true), (81, 0, false)], []) h h' ∧ v = (zyr n (xI h 48 7)).1 ∧ xI h' 48 7 = (zyr n (xI h 48 7)).2 := by
  have e_0 : (0 : Int32).toInt = 0 := rfl
  by_cases cb1 : n < 0
  · have e_0 : (0 : Int32).toInt = 0 := rfl
    have dcb1 : (n).toInt < (0 : Int32).toInt := Int32.lt_iff_toInt_lt.mp cb1
    have t2 : XT l 7 165 false 97 153 6051 0 [xf 12 2, xi n, xun] [] h 26 [xf 12 2, xi n, xun] [xi (Int32.ofInt (-1))] h := XT_path (l := l) (fr := 7) (lo := 165) (full := false) (M := 97) (n := 153) (u := 6051) (pc := 0) (L := [xf 12 2, xi n, xun]) (st := []) (h := h) (inl := [67]) (n' := 80) (sp := [26]) (o := [1]) rfl rfl ⟨rfl, rfl, rfl⟩ rfl ⟨Nat.le_of_eq hg.2.2.2.1, Nat.le_of_eq hg.2.2.2.2⟩ ⟨trivial, cb1⟩
    have no : ¬ (0 ≤ n.toInt ∧ n.toInt ≤ 99 ∧ (xI h 48 7 + n).toInt ≤ 9999) := by omega
    rw [zyr_n no]
    exact ⟨_, _, CX_ofT (h' := h) (by decide) rfl rfl trivial ⟨_, _, _, rfl, rfl, rfl⟩ rfl ⟨Nat.le_of_eq hg.2.2.2.1.symm, Nat.le_of_eq hg.2.2.2.2.symm⟩ t2, vG.rf hg, rfl, rfl⟩
  · have e_0 : (0 : Int32).toInt = 0 := rfl
    have dcb1 : (0 : Int32).toInt ≤ (n).toInt := Int32.le_iff_toInt_le.mp (Int32.not_lt.mp cb1)
    by_cases cb3 : (Int32.ofInt (99)) < n
    · have e_99 : (Int32.ofInt (99)).toInt = 99 := rfl
      have dcb3 : (Int32.ofInt (99)).toInt < (n).toInt := Int32.lt_iff_toInt_lt.mp cb3
      have t4 : XT l 7 165 false 97 153 6051 0 [xf 12 2, xi n, xun] [] h 26 [xf 12 2, xi n, xun] [xi (Int32.ofInt (-1))] h := XT_path (l := l) (fr := 7) (lo := 165) (full := false) (M := 97) (n := 153) (u := 6051) (pc := 0) (L := [xf 12 2, xi n, xun]) (st := []) (h := h) (inl := [67]) (n' := 80) (sp := [26]) (o := [0, 1]) rfl rfl ⟨rfl, rfl, rfl⟩ rfl ⟨Nat.le_of_eq hg.2.2.2.1, Nat.le_of_eq hg.2.2.2.2⟩ ⟨⟨trivial, cb1⟩, cb3⟩
      have no : ¬ (0 ≤ n.toInt ∧ n.toInt ≤ 99 ∧ (xI h 48 7 + n).toInt ≤ 9999) := by omega
      rw [zyr_n no]
      exact ⟨_, _, CX_ofT (h' := h) (by decide) rfl rfl trivial ⟨_, _, _, rfl, rfl, rfl⟩ rfl ⟨Nat.le_of_eq hg.2.2.2.1.symm, Nat.le_of_eq hg.2.2.2.2.symm⟩ t4, vG.rf hg, rfl, rfl⟩
    · have e_99 : (Int32.ofInt (99)).toInt = 99 := rfl
      have dcb3 : (n).toInt ≤ (Int32.ofInt (99)).toInt := Int32.le_iff_toInt_le.mp (Int32.not_lt.mp cb3)
      by_cases cb5 : ((xI h (xR h 2 3) 7) + n) ≤ (Int32.ofInt (9999))
      · have e_9999 : (Int32.ofInt (9999)).toInt = 9999 := rfl
        have cb5r := cb5
        rw [vref hg.1 (rfl : vRf 2 3 = [48])] at cb5r
        have dcb5 : ((xI h 48 7) + n).toInt ≤ (Int32.ofInt (9999)).toInt := Int32.le_iff_toInt_le.mp cb5r
        have t6 : XT l 7 165 false 97 153 6051 0 [xf 12 2, xi n, xun] [] h 29 [xf 12 2, xi n, xi (Int32.ofInt (0))] [] h := XT_path (l := l) (fr := 7) (lo := 165) (full := false) (M := 97) (n := 153) (u := 6051) (pc := 0) (L := [xf 12 2, xi n, xun]) (st := []) (h := h) (inl := [67]) (n' := 80) (sp := [29]) (o := [0, 0, 1]) rfl rfl ⟨rfl, rfl, rfl⟩ rfl ⟨Nat.le_of_eq hg.2.2.2.1, Nat.le_of_eq hg.2.2.2.2⟩ ⟨⟨⟨⟨trivial, cb1⟩, cb3⟩, (vnn hg.1 (rfl : vRf 2 3 = [48]) (by decide))⟩, cb5⟩
        have ok : 0 ≤ n.toInt ∧ n.toInt ≤ 99 ∧ (xI h 48 7 + n).toInt ≤ 9999 := by omega
        rw [zyr_y ok]
        obtain ⟨i', h1, z1, G1, s1⟩ := ck_seaL l n ok.2.1 h n.toInt.toNat (Int32.ofInt (0)) h (vG.rf hg) (by decide) (by rw [show (Int32.ofInt (0)).toInt = 0 from rfl]; omega) (by rw [show (Int32.ofInt (0)) = (0 : Int32) from rfl, Int32.add_zero])
        have T1 := t6.tr z1
        by_cases cb7 : n ≤ 0
        · have e_0 : (0 : Int32).toInt = 0 := rfl
          have dcb7 : (n).toInt ≤ (0 : Int32).toInt := Int32.le_iff_toInt_le.mp cb7
          have t8 : XT l 7 165 false 97 153 6051 47 [xf 12 2, xi n, xi i'] [] h1 65 [xf 12 2, xi n, xi i'] [xi (xI h1 (xR h1 2 3) 7)] h1 := XT_path (l := l) (fr := 7) (lo := 165) (full := false) (M := 97) (n := 153) (u := 6051) (pc := 47) (L := [xf 12 2, xi n, xi i']) (st := []) (h := h1) (inl := [67]) (n' := 80) (sp := [65]) (o := [1]) rfl rfl ⟨rfl, rfl, rfl⟩ rfl ⟨Nat.le_of_eq G1.1.2.2.2.1, Nat.le_of_eq G1.1.2.2.2.2⟩ ⟨⟨trivial, cb7⟩, (vnn G1.1.1 (rfl : vRf 2 3 = [48]) (by decide))⟩
          rw [vref G1.1.1 (rfl : vRf 2 3 = [48])] at t8
          have t9 := T1.tr t8
          have G : vG ([(48, 7, false), (49, 0, true), (50, 0, true), (51, 0, true), (53, 0, true), (54, 0, true), (55, 0, true), (57, 0, true), (81, 0, false)], []) h h1 := G1
          exact ⟨_, _, CX_ofT (h' := h1) (by decide) rfl rfl trivial ⟨_, _, _, rfl, rfl, rfl⟩ rfl ⟨Nat.le_of_eq G1.1.2.2.2.1.symm, Nat.le_of_eq G1.1.2.2.2.2.symm⟩ t9, G, s1, s1⟩
        · have e_0 : (0 : Int32).toInt = 0 := rfl
          have dcb7 : (0 : Int32).toInt < (n).toInt := Int32.lt_iff_toInt_lt.mp (Int32.not_le.mp cb7)
          have t10 : XT l 7 165 false 97 153 6051 47 [xf 12 2, xi n, xi i'] [] h1 65 [xf 12 2, xi n, xi i'] [xi (xI (xsetI h1 (xR h1 2 7) 0 (Int32.ofInt (0))) (xR h1 2 3) 7)] (xsetI h1 (xR h1 2 7) 0 (Int32.ofInt (0))) := XT_path (l := l) (fr := 7) (lo := 165) (full := false) (M := 97) (n := 153) (u := 6051) (pc := 47) (L := [xf 12 2, xi n, xi i']) (st := []) (h := h1) (inl := [67]) (n' := 80) (sp := [65]) (o := [0]) rfl rfl ⟨rfl, rfl, rfl⟩ rfl ⟨Nat.le_of_eq G1.1.2.2.2.1, Nat.le_of_eq G1.1.2.2.2.2⟩ ⟨⟨⟨trivial, cb7⟩, (vnn G1.1.1 (rfl : vRf 2 7 = [81]) (by decide))⟩, (vnn G1.1.1 (rfl : vRf 2 3 = [48]) (by decide))⟩
          rw [vref G1.1.1 (rfl : vRf 2 7 = [81]), vref G1.1.1 (rfl : vRf 2 3 = [48])] at t10
          have t11 : XT l 7 165 false 97 153 6051 47 [xf 12 2, xi n, xi i'] [] h1 65 [xf 12 2, xi n, xi i'] [xi (xI h1 48 7)] (xsetI h1 81 0 (Int32.ofInt (0))) := t10
          have t12 := T1.tr t11
          have G : vG ([(48, 7, false), (49, 0, true), (50, 0, true), (51, 0, true), (53, 0, true), (54, 0, true), (55, 0, true), (57, 0, true), (81, 0, false)], []) h (xsetI h1 81 0 (Int32.ofInt (0))) := (G1 : vG ([(48, 7, false), (49, 0, true), (50, 0, true), (51, 0, true), (53, 0, true), (54, 0, true), (55, 0, true), (57, 0, true), (81, 0, false)], []) h h1).set (c := 81) (k := 0) (v := (Int32.ofInt (0))) (show (0 : Int) ≤ _ ∧ _ ≤ 20 from (by decide)) (by decide +kernel) (by decide +kernel) rfl
          exact ⟨_, _, CX_ofT (h' := (xsetI h1 81 0 (Int32.ofInt (0)))) (by decide) rfl rfl trivial ⟨_, _, _, rfl, rfl, rfl⟩ rfl ⟨Nat.le_of_eq G1.1.2.2.2.1.symm, Nat.le_of_eq G1.1.2.2.2.2.symm⟩ t12, G, s1, by rw [yI_c (by decide)]; exact s1⟩
      · have e_9999 : (Int32.ofInt (9999)).toInt = 9999 := rfl
        have cb5r := cb5
        rw [vref hg.1 (rfl : vRf 2 3 = [48])] at cb5r
        have dcb5 : (Int32.ofInt (9999)).toInt < ((xI h 48 7) + n).toInt := Int32.lt_iff_toInt_lt.mp (Int32.not_le.mp cb5r)
        have t13 : XT l 7 165 false 97 153 6051 0 [xf 12 2, xi n, xun] [] h 26 [xf 12 2, xi n, xun] [xi (Int32.ofInt (-1))] h := XT_path (l := l) (fr := 7) (lo := 165) (full := false) (M := 97) (n := 153) (u := 6051) (pc := 0) (L := [xf 12 2, xi n, xun]) (st := []) (h := h) (inl := [67]) (n' := 80) (sp := [26]) (o := [0, 0, 0]) rfl rfl ⟨rfl, rfl, rfl⟩ rfl ⟨Nat.le_of_eq hg.2.2.2.1, Nat.le_of_eq hg.2.2.2.2⟩ ⟨⟨⟨⟨trivial, cb1⟩, cb3⟩, (vnn hg.1 (rfl : vRf 2 3 = [48]) (by decide))⟩, cb5⟩
        have no : ¬ (0 ≤ n.toInt ∧ n.toInt ≤ 99 ∧ (xI h 48 7 + n).toInt ≤ 9999) := by omega
        rw [zyr_n no]
        exact ⟨_, _, CX_ofT (h' := h) (by decide) rfl rfl trivial ⟨_, _, _, rfl, rfl, rfl⟩ rfl ⟨Nat.le_of_eq hg.2.2.2.1.symm, Nat.le_of_eq hg.2.2.2.2.symm⟩ t13, vG.rf hg, rfl, rfl⟩
theorem vt_vote0 (l : Launch) (x0 : Int32) (x1 : Int32) (h : XH) (hg : sgood vT vR vE 153 6051 h) (a0 : 0 ≤ x0.toInt ∧ x0.toInt ≤ 1) (a1 : 0 ≤ x1.toInt ∧ x1.toInt ≤ 5) : ∃ (v : Int32) (h' : XH), CX l 8 218 false 232 [xf 13 104, xi x0, xi x1] h [xi v] h' ∧ sgood vT vR vE 153 6051 h' ∧ sframe ([(104, 54, false)], []) h h' ∧ ((((-2147483648) ≤ v.toInt ∧ v.toInt ≤ 2147483647))) := by
  have ha : sargs (cap vC_104) [xf 13 104, xi x0, xi x1] := ⟨rfl, a0, a1, trivial⟩
  obtain ⟨ρ, rs, h', ⟨hv, hw⟩, c, g, f, cs, hcs, k1, k2, k3, k4, k5, k6⟩ := vc_104 l [xf 13 104, xi x0, xi x1] h ha hg (fun q hq => absurd hq List.not_mem_nil) (fun q hq => absurd hq List.not_mem_nil) (fun ρ hρ g hg' => absurd hg' List.not_mem_nil)
  have e0 : ρ 0 = x0.toInt := hv.1
  have e1 : ρ 1 = x1.toInt := hv.2.1
  rcases List.mem_cons.mp hcs with rfl | hcs
  · obtain ⟨v, rfl, kv⟩ := sres_i k3
    exact ⟨v, h', c, g, f, kv⟩
  exact absurd hcs List.not_mem_nil
theorem vt_yield0 (l : Launch) (x0 : Int32) (x1 : Int32) (h : XH) (hg : sgood vT vR vE 153 6051 h) (a0 : 0 ≤ x0.toInt ∧ x0.toInt ≤ 1) (a1 : 0 ≤ x1.toInt ∧ x1.toInt ≤ 5) : ∃ (v : Int32) (h' : XH), CX l 5 146 false 234 [xf 13 104, xi x0, xi x1] h [xi v] h' ∧ sgood vT vR vE 153 6051 h' ∧ sframe ([(104, 54, false)], []) h h' ∧ ((((-33) ≤ v.toInt ∧ v.toInt ≤ 9999))) := by
  have ha : sargs (cap vC_106) [xf 13 104, xi x0, xi x1] := ⟨rfl, a0, a1, trivial⟩
  obtain ⟨ρ, rs, h', ⟨hv, hw⟩, c, g, f, cs, hcs, k1, k2, k3, k4, k5, k6⟩ := vc_106 l [xf 13 104, xi x0, xi x1] h ha hg (fun q hq => absurd hq List.not_mem_nil) (fun q hq => absurd hq List.not_mem_nil) (fun ρ hρ g hg' => absurd hg' List.not_mem_nil)
  have e0 : ρ 0 = x0.toInt := hv.1
  have e1 : ρ 1 = x1.toInt := hv.2.1
  rcases List.mem_cons.mp hcs with rfl | hcs
  · obtain ⟨v, rfl, kv⟩ := sres_i k3
    exact ⟨v, h', c, g, f, kv⟩
  exact absurd hcs List.not_mem_nil
set_option maxRecDepth 100000 in
set_option maxHeartbeats 4000000 in
theorem jk_goA (l : Launch) (h : XH) : ∀ (m : Nat) (i : Int32) (x3 : XV) (h' : XH), vG ([(104, 54, false), (133, 0, true), (134, 0, true), (136, 0, true), (137, 0, true), (139, 0, true)], []) h h' → 0 ≤ i.toInt → i.toInt + m = (xI h 104 12).toInt → ∃ i' x3' h'', XT l 9 242 false 244 153 6051 2 [xf 13 104, xi (Int32.ofInt (0)), xi i, x3] [] h' 28 [xf 13 104, xi (Int32.ofInt (0)), xi i', x3'] [] h'' ∧ vG ([(104, 54, false), (133, 0, true), (134, 0, true), (136, 0, true), (137, 0, true), (139, 0, true)], []) h h''
  | 0, i, x3, h', G, i0, im => by
    have eb : xI h' 104 12 = xI h 104 12 := G.2.1 104 12 rfl
    have t1 : XT l 9 242 false 244 153 6051 2 [xf 13 104, xi (Int32.ofInt (0)), xi i, x3] [] h' 28 [xf 13 104, xi (Int32.ofInt (0)), xi i, x3] [] h' := XT_path (l := l) (fr := 9) (lo := 242) (full := false) (M := 244) (n := 153) (u := 6051) (pc := 2) (L := [xf 13 104, xi (Int32.ofInt (0)), xi i, x3]) (st := []) (h := h') (inl := [245]) (n' := 120) (sp := [28]) (o := [1]) rfl rfl ⟨rfl, rfl, rfl⟩ rfl ⟨Nat.le_of_eq G.1.2.2.2.1, Nat.le_of_eq G.1.2.2.2.2⟩ ⟨trivial, (Int32.le_iff_toInt_le.mpr (by rw [eb]; omega))⟩
    exact ⟨i, x3, h', t1, G⟩
  | m + 1, i, x3, h', G, i0, im => by
    have eb : xI h' 104 12 = xI h 104 12 := G.2.1 104 12 rfl
    have b0 : 0 ≤ (xI h 104 12).toInt ∧ (xI h 104 12).toInt ≤ 6 := by have z := vbnd G.1.1 104 12; rw [eb] at z; exact z
    have ej := y_suc1 i0 (by omega)
    have ni : i.toNatClampNeg = i.toInt.toNat := rfl
    have t1 : XT l 9 242 false 244 153 6051 2 [xf 13 104, xi (Int32.ofInt (0)), xi i, x3] [] h' 18 [xf 13 104, xi (Int32.ofInt (0)), xi i, x3] [xi i, xi (Int32.ofInt (0)), xf 13 104, xi i, xf 10006 (xR h' 104 61)] h' := XT_path (l := l) (fr := 9) (lo := 242) (full := false) (M := 244) (n := 153) (u := 6051) (pc := 2) (L := [xf 13 104, xi (Int32.ofInt (0)), xi i, x3]) (st := []) (h := h') (inl := [245]) (n' := 120) (sp := [18]) (o := [0]) rfl rfl ⟨rfl, rfl, rfl⟩ rfl ⟨Nat.le_of_eq G.1.2.2.2.1, Nat.le_of_eq G.1.2.2.2.2⟩ ⟨⟨trivial, (fun z => absurd (Int32.le_iff_toInt_le.mp z) (by rw [eb]; omega))⟩, (vnn G.1.1 (rfl : vRf 104 61 = [139]) (by decide))⟩
    rw [vref G.1.1 (rfl : vRf 104 61 = [139])] at t1
    obtain ⟨v, h1, c1, g1, f1, -⟩ := vt_vote0 l (Int32.ofInt (0)) i h' G.1 ⟨by decide, by decide⟩ ⟨by omega, by omega⟩
    have G1 : vG ([(104, 54, false), (133, 0, true), (134, 0, true), (136, 0, true), (137, 0, true), (139, 0, true)], []) h h1 := G.tr ⟨g1, f1.mono rfl rfl⟩
    have t2 : XT l 9 242 false 244 153 6051 18 [xf 13 104, xi (Int32.ofInt (0)), xi i, x3] [xi i, xi (Int32.ofInt (0)), xf 13 104, xi i, xf 10006 139] h' 21 [xf 13 104, xi (Int32.ofInt (0)), xi i, x3] [xi v, xi i, xf 10006 139] h1 := XT_call (l := l) (fr := 9) (lo := 242) (full := false) (M := 244) (n := 153) (u := 6051) (pc := 18) (L := [xf 13 104, xi (Int32.ofInt (0)), xi i, x3]) (st := [xi i, xi (Int32.ofInt (0)), xf 13 104, xi i, xf 10006 139]) (h := h') (i := .invokevirtual 232) (aux := 3) (nx := 21) (K := 232) (vs := [xf 13 104, xi (Int32.ofInt (0)), xi i]) (rs := [xi v]) (rest := [xi i, xf 10006 139]) rfl rfl rfl rfl rfl rfl c1 (by decide) (by decide) (Nat.le_of_ble_eq_true rfl) ⟨Nat.le_of_eq G1.1.2.2.2.1, Nat.le_of_eq G1.1.2.2.2.2⟩
    have t3 := t1.tr t2
    have t4 : XT l 9 242 false 244 153 6051 21 [xf 13 104, xi (Int32.ofInt (0)), xi i, x3] [xi v, xi i, xf 10006 139] h1 2 [xf 13 104, xi (Int32.ofInt (0)), xi (i + Int32.ofInt (1)), x3] [] (xsetI h1 139 (i).toNatClampNeg v) := XT_path (l := l) (fr := 9) (lo := 242) (full := false) (M := 244) (n := 153) (u := 6051) (pc := 21) (L := [xf 13 104, xi (Int32.ofInt (0)), xi i, x3]) (st := [xi v, xi i, xf 10006 139]) (h := h1) (inl := [245]) (n' := 120) (sp := [2]) (o := []) rfl rfl ⟨rfl, rfl, rfl⟩ rfl ⟨Nat.le_of_eq G1.1.2.2.2.1, Nat.le_of_eq G1.1.2.2.2.2⟩ ⟨trivial, (vp_of (i := i) (n := 6) (by omega) (by omega))⟩
    have t5 := t3.tr t4
    have G2 : vG ([(104, 54, false), (133, 0, true), (134, 0, true), (136, 0, true), (137, 0, true), (139, 0, true)], []) h (xsetI h1 139 (i).toNatClampNeg v) := (G1 : vG ([(104, 54, false), (133, 0, true), (134, 0, true), (136, 0, true), (137, 0, true), (139, 0, true)], []) h h1).set (c := 139) (k := (i).toNatClampNeg) (v := v) (by rw [vI_u (c := 139) (q := (-2147483648, 2147483647)) (by decide +kernel) (by decide +kernel)]; exact i32r_of _) rfl (by decide +kernel) rfl
    obtain ⟨i', x3', h2, z1, z2⟩ := jk_goA l h m (i + (Int32.ofInt (1))) _ _ G2 (by omega) (by omega)
    exact ⟨i', x3', h2, t5.tr z1, z2⟩
set_option maxRecDepth 100000 in
set_option maxHeartbeats 4000000 in
theorem jk_goB (l : Launch) (h : XH) : ∀ (m : Nat) (i : Int32) (x3 : XV) (h' : XH), vG ([(104, 54, false), (133, 0, true), (134, 0, true), (136, 0, true), (137, 0, true), (139, 0, true)], []) h h' → 0 ≤ i.toInt → i.toInt + m = (xI h 104 12).toInt → ∃ i' x3' h'', XT l 9 242 false 244 153 6051 30 [xf 13 104, xi (Int32.ofInt (0)), xi i, x3] [] h' 75 [xf 13 104, xi (Int32.ofInt (0)), xi i', x3'] [] h'' ∧ vG ([(104, 54, false), (133, 0, true), (134, 0, true), (136, 0, true), (137, 0, true), (139, 0, true)], []) h h''
  | 0, i, x3, h', G, i0, im => by
    have eb : xI h' 104 12 = xI h 104 12 := G.2.1 104 12 rfl
    have t1 : XT l 9 242 false 244 153 6051 30 [xf 13 104, xi (Int32.ofInt (0)), xi i, x3] [] h' 75 [xf 13 104, xi (Int32.ofInt (0)), xi i, x3] [] h' := XT_path (l := l) (fr := 9) (lo := 242) (full := false) (M := 244) (n := 153) (u := 6051) (pc := 30) (L := [xf 13 104, xi (Int32.ofInt (0)), xi i, x3]) (st := []) (h := h') (inl := [245]) (n' := 120) (sp := [75]) (o := [1]) rfl rfl ⟨rfl, rfl, rfl⟩ rfl ⟨Nat.le_of_eq G.1.2.2.2.1, Nat.le_of_eq G.1.2.2.2.2⟩ ⟨trivial, (Int32.le_iff_toInt_le.mpr (by rw [eb]; omega))⟩
    exact ⟨i, x3, h', t1, G⟩
  | m + 1, i, x3, h', G, i0, im => by
    have eb : xI h' 104 12 = xI h 104 12 := G.2.1 104 12 rfl
    have b0 : 0 ≤ (xI h 104 12).toInt ∧ (xI h 104 12).toInt ≤ 6 := by have z := vbnd G.1.1 104 12; rw [eb] at z; exact z
    have ej := y_suc1 i0 (by omega)
    have ni : i.toNatClampNeg = i.toInt.toNat := rfl
    have e0A : ((Int32.ofInt (6)) * (Int32.ofInt (0))).toInt = 0 := rfl
    have eiA : (((Int32.ofInt (6)) * (Int32.ofInt (0))) + i).toInt = i.toInt := by
      rw [Int32.toInt_add, e0A, Int.bmod_eq_of_le (by omega) (by omega)]
      omega
    have nxA : (((Int32.ofInt (6)) * (Int32.ofInt (0))) + i).toNatClampNeg < 6 := by
      show (((Int32.ofInt (6)) * (Int32.ofInt (0))) + i).toInt.toNat < 6
      omega
    have q1 : 0 ≤ (xI h' 133 (((Int32.ofInt (6)) * (Int32.ofInt (0))) + i).toNatClampNeg).toInt ∧ (xI h' 133 (((Int32.ofInt (6)) * (Int32.ofInt (0))) + i).toNatClampNeg).toInt ≤ 9 := by have z := vbnd G.1.1 133 (((Int32.ofInt (6)) * (Int32.ofInt (0))) + i).toNatClampNeg; rw [v133 _ nxA] at z; exact z
    have q2 := y_suc1 (k := xI h' 133 (((Int32.ofInt (6)) * (Int32.ofInt (0))) + i).toNatClampNeg) (by omega) (by omega)
    have q3 : 1 ≤ (xI h' 133 (((Int32.ofInt (6)) * (Int32.ofInt (0))) + i).toNatClampNeg).toInt → (xI h' 133 (((Int32.ofInt (6)) * (Int32.ofInt (0))) + i).toNatClampNeg - (Int32.ofInt (1))).toInt = (xI h' 133 (((Int32.ofInt (6)) * (Int32.ofInt (0))) + i).toNatClampNeg).toInt - 1 := fun z => y_pred (by omega) (by omega)
    by_cases cb1 : (xI h' (xR h' 104 61) (i).toNatClampNeg) ≤ 0
    · have e_0 : (0 : Int32).toInt = 0 := rfl
      have cb1r := cb1
      rw [vref G.1.1 (rfl : vRf 104 61 = [139])] at cb1r
      have dcb1 : (xI h' 139 (i).toNatClampNeg).toInt ≤ (0 : Int32).toInt := Int32.le_iff_toInt_le.mp cb1r
      by_cases cb2 : (0 : Int32) ≤ (xI h' (xR h' 104 61) (i).toNatClampNeg)
      · have e_0 : (0 : Int32).toInt = 0 := rfl
        have cb2r := cb2
        rw [vref G.1.1 (rfl : vRf 104 61 = [139])] at cb2r
        have dcb2 : (0 : Int32).toInt ≤ (xI h' 139 (i).toNatClampNeg).toInt := Int32.le_iff_toInt_le.mp cb2r
        have t3 : XT l 9 242 false 244 153 6051 30 [xf 13 104, xi (Int32.ofInt (0)), xi i, x3] [] h' 30 [xf 13 104, xi (Int32.ofInt (0)), xi (i + Int32.ofInt (1)), x3] [] (xsetI h' (xR h' 104 55) ((((Int32.ofInt (6)) * (Int32.ofInt (0))) + i)).toNatClampNeg (xI h' (xR h' 104 55) ((((Int32.ofInt (6)) * (Int32.ofInt (0))) + i)).toNatClampNeg)) := XT_path (l := l) (fr := 9) (lo := 242) (full := false) (M := 244) (n := 153) (u := 6051) (pc := 30) (L := [xf 13 104, xi (Int32.ofInt (0)), xi i, x3]) (st := []) (h := h') (inl := [245]) (n' := 120) (sp := [30]) (o := [0, 1, 1]) rfl rfl ⟨rfl, rfl, rfl⟩ rfl ⟨Nat.le_of_eq G.1.2.2.2.1, Nat.le_of_eq G.1.2.2.2.2⟩ ⟨⟨⟨⟨⟨⟨⟨⟨⟨trivial, (fun z => absurd (Int32.le_iff_toInt_le.mp z) (by rw [eb]; omega))⟩, (vnn G.1.1 (rfl : vRf 104 55 = [133]) (by decide))⟩, (vnn G.1.1 (rfl : vRf 104 55 = [133]) (by decide))⟩, (vp_of (i := (((Int32.ofInt (6)) * (Int32.ofInt (0))) + i)) (n := 12) (by omega) (by omega))⟩, (vnn G.1.1 (rfl : vRf 104 61 = [139]) (by decide))⟩, (vp_of (i := i) (n := 6) (by omega) (by omega))⟩, cb1⟩, cb2⟩, (vp_of (i := (((Int32.ofInt (6)) * (Int32.ofInt (0))) + i)) (n := 12) (by omega) (by omega))⟩
        rw [vref G.1.1 (rfl : vRf 104 55 = [133])] at t3
        have G2 : vG ([(104, 54, false), (133, 0, true), (134, 0, true), (136, 0, true), (137, 0, true), (139, 0, true)], []) h (xsetI h' 133 ((((Int32.ofInt (6)) * (Int32.ofInt (0))) + i)).toNatClampNeg (xI h' 133 ((((Int32.ofInt (6)) * (Int32.ofInt (0))) + i)).toNatClampNeg)) := (G : vG ([(104, 54, false), (133, 0, true), (134, 0, true), (136, 0, true), (137, 0, true), (139, 0, true)], []) h h').set (c := 133) (k := ((((Int32.ofInt (6)) * (Int32.ofInt (0))) + i)).toNatClampNeg) (v := (xI h' 133 ((((Int32.ofInt (6)) * (Int32.ofInt (0))) + i)).toNatClampNeg)) (by rw [v133 _ nxA]; exact (show (0 : Int) ≤ _ ∧ _ ≤ (9 : Int) from ⟨by omega, by omega⟩)) rfl (by decide +kernel) rfl
        obtain ⟨i', x3', h2, z1, z2⟩ := jk_goB l h m (i + (Int32.ofInt (1))) _ _ G2 (by omega) (by omega)
        exact ⟨i', x3', h2, t3.tr z1, z2⟩
      · have e_0 : (0 : Int32).toInt = 0 := rfl
        have cb2r := cb2
        rw [vref G.1.1 (rfl : vRf 104 61 = [139])] at cb2r
        have dcb2 : (xI h' 139 (i).toNatClampNeg).toInt < (0 : Int32).toInt := Int32.lt_iff_toInt_lt.mp (Int32.not_le.mp cb2r)
        by_cases cb4 : (xI h' (xR h' 104 55) ((((Int32.ofInt (6)) * (Int32.ofInt (0))) + i)).toNatClampNeg) ≤ (Int32.ofInt (1))
        · have e_0 : (Int32.ofInt (0)).toInt = 0 := rfl
          have e_1 : (Int32.ofInt (1)).toInt = 1 := rfl
          have e_6 : (Int32.ofInt (6)).toInt = 6 := rfl
          have cb4r := cb4
          rw [vref G.1.1 (rfl : vRf 104 55 = [133])] at cb4r
          have dcb4 : (xI h' 133 ((((Int32.ofInt (6)) * (Int32.ofInt (0))) + i)).toNatClampNeg).toInt ≤ (Int32.ofInt (1)).toInt := Int32.le_iff_toInt_le.mp cb4r
          have t5 : XT l 9 242 false 244 153 6051 30 [xf 13 104, xi (Int32.ofInt (0)), xi i, x3] [] h' 30 [xf 13 104, xi (Int32.ofInt (0)), xi (i + Int32.ofInt (1)), x3] [] (xsetI h' (xR h' 104 55) ((((Int32.ofInt (6)) * (Int32.ofInt (0))) + i)).toNatClampNeg (xI h' (xR h' 104 55) ((((Int32.ofInt (6)) * (Int32.ofInt (0))) + i)).toNatClampNeg)) := XT_path (l := l) (fr := 9) (lo := 242) (full := false) (M := 244) (n := 153) (u := 6051) (pc := 30) (L := [xf 13 104, xi (Int32.ofInt (0)), xi i, x3]) (st := []) (h := h') (inl := [245]) (n' := 120) (sp := [30]) (o := [0, 1, 0, 1]) rfl rfl ⟨rfl, rfl, rfl⟩ rfl ⟨Nat.le_of_eq G.1.2.2.2.1, Nat.le_of_eq G.1.2.2.2.2⟩ ⟨⟨⟨⟨⟨⟨⟨⟨⟨⟨trivial, (fun z => absurd (Int32.le_iff_toInt_le.mp z) (by rw [eb]; omega))⟩, (vnn G.1.1 (rfl : vRf 104 55 = [133]) (by decide))⟩, (vnn G.1.1 (rfl : vRf 104 55 = [133]) (by decide))⟩, (vp_of (i := (((Int32.ofInt (6)) * (Int32.ofInt (0))) + i)) (n := 12) (by omega) (by omega))⟩, (vnn G.1.1 (rfl : vRf 104 61 = [139]) (by decide))⟩, (vp_of (i := i) (n := 6) (by omega) (by omega))⟩, cb1⟩, cb2⟩, cb4⟩, (vp_of (i := (((Int32.ofInt (6)) * (Int32.ofInt (0))) + i)) (n := 12) (by omega) (by omega))⟩
          rw [vref G.1.1 (rfl : vRf 104 55 = [133])] at t5
          have G2 : vG ([(104, 54, false), (133, 0, true), (134, 0, true), (136, 0, true), (137, 0, true), (139, 0, true)], []) h (xsetI h' 133 ((((Int32.ofInt (6)) * (Int32.ofInt (0))) + i)).toNatClampNeg (xI h' 133 ((((Int32.ofInt (6)) * (Int32.ofInt (0))) + i)).toNatClampNeg)) := (G : vG ([(104, 54, false), (133, 0, true), (134, 0, true), (136, 0, true), (137, 0, true), (139, 0, true)], []) h h').set (c := 133) (k := ((((Int32.ofInt (6)) * (Int32.ofInt (0))) + i)).toNatClampNeg) (v := (xI h' 133 ((((Int32.ofInt (6)) * (Int32.ofInt (0))) + i)).toNatClampNeg)) (by rw [v133 _ nxA]; exact (show (0 : Int) ≤ _ ∧ _ ≤ (9 : Int) from ⟨by omega, by omega⟩)) rfl (by decide +kernel) rfl
          obtain ⟨i', x3', h2, z1, z2⟩ := jk_goB l h m (i + (Int32.ofInt (1))) _ _ G2 (by omega) (by omega)
          exact ⟨i', x3', h2, t5.tr z1, z2⟩
        · have e_0 : (Int32.ofInt (0)).toInt = 0 := rfl
          have e_1 : (Int32.ofInt (1)).toInt = 1 := rfl
          have e_6 : (Int32.ofInt (6)).toInt = 6 := rfl
          have cb4r := cb4
          rw [vref G.1.1 (rfl : vRf 104 55 = [133])] at cb4r
          have dcb4 : (Int32.ofInt (1)).toInt < (xI h' 133 ((((Int32.ofInt (6)) * (Int32.ofInt (0))) + i)).toNatClampNeg).toInt := Int32.lt_iff_toInt_lt.mp (Int32.not_le.mp cb4r)
          have t6 : XT l 9 242 false 244 153 6051 30 [xf 13 104, xi (Int32.ofInt (0)), xi i, x3] [] h' 30 [xf 13 104, xi (Int32.ofInt (0)), xi (i + Int32.ofInt (1)), x3] [] (xsetI h' (xR h' 104 55) ((((Int32.ofInt (6)) * (Int32.ofInt (0))) + i)).toNatClampNeg ((xI h' (xR h' 104 55) ((((Int32.ofInt (6)) * (Int32.ofInt (0))) + i)).toNatClampNeg) - (Int32.ofInt (1)))) := XT_path (l := l) (fr := 9) (lo := 242) (full := false) (M := 244) (n := 153) (u := 6051) (pc := 30) (L := [xf 13 104, xi (Int32.ofInt (0)), xi i, x3]) (st := []) (h := h') (inl := [245]) (n' := 120) (sp := [30]) (o := [0, 1, 0, 0]) rfl rfl ⟨rfl, rfl, rfl⟩ rfl ⟨Nat.le_of_eq G.1.2.2.2.1, Nat.le_of_eq G.1.2.2.2.2⟩ ⟨⟨⟨⟨⟨⟨⟨⟨⟨⟨trivial, (fun z => absurd (Int32.le_iff_toInt_le.mp z) (by rw [eb]; omega))⟩, (vnn G.1.1 (rfl : vRf 104 55 = [133]) (by decide))⟩, (vnn G.1.1 (rfl : vRf 104 55 = [133]) (by decide))⟩, (vp_of (i := (((Int32.ofInt (6)) * (Int32.ofInt (0))) + i)) (n := 12) (by omega) (by omega))⟩, (vnn G.1.1 (rfl : vRf 104 61 = [139]) (by decide))⟩, (vp_of (i := i) (n := 6) (by omega) (by omega))⟩, cb1⟩, cb2⟩, cb4⟩, (vp_of (i := (((Int32.ofInt (6)) * (Int32.ofInt (0))) + i)) (n := 12) (by omega) (by omega))⟩
          rw [vref G.1.1 (rfl : vRf 104 55 = [133])] at t6
          have G2 : vG ([(104, 54, false), (133, 0, true), (134, 0, true), (136, 0, true), (137, 0, true), (139, 0, true)], []) h (xsetI h' 133 ((((Int32.ofInt (6)) * (Int32.ofInt (0))) + i)).toNatClampNeg ((xI h' 133 ((((Int32.ofInt (6)) * (Int32.ofInt (0))) + i)).toNatClampNeg) - (Int32.ofInt (1)))) := (G : vG ([(104, 54, false), (133, 0, true), (134, 0, true), (136, 0, true), (137, 0, true), (139, 0, true)], []) h h').set (c := 133) (k := ((((Int32.ofInt (6)) * (Int32.ofInt (0))) + i)).toNatClampNeg) (v := ((xI h' 133 ((((Int32.ofInt (6)) * (Int32.ofInt (0))) + i)).toNatClampNeg) - (Int32.ofInt (1)))) (by rw [v133 _ nxA]; exact (show (0 : Int) ≤ _ ∧ _ ≤ (9 : Int) from ⟨by omega, by omega⟩)) rfl (by decide +kernel) rfl
          obtain ⟨i', x3', h2, z1, z2⟩ := jk_goB l h m (i + (Int32.ofInt (1))) _ _ G2 (by omega) (by omega)
          exact ⟨i', x3', h2, t6.tr z1, z2⟩
    · have e_0 : (0 : Int32).toInt = 0 := rfl
      have cb1r := cb1
      rw [vref G.1.1 (rfl : vRf 104 61 = [139])] at cb1r
      have dcb1 : (0 : Int32).toInt < (xI h' 139 (i).toNatClampNeg).toInt := Int32.lt_iff_toInt_lt.mp (Int32.not_le.mp cb1r)
      by_cases cb7 : (Int32.ofInt (9)) ≤ (xI h' (xR h' 104 55) ((((Int32.ofInt (6)) * (Int32.ofInt (0))) + i)).toNatClampNeg)
      · have e_0 : (Int32.ofInt (0)).toInt = 0 := rfl
        have e_6 : (Int32.ofInt (6)).toInt = 6 := rfl
        have e_9 : (Int32.ofInt (9)).toInt = 9 := rfl
        have cb7r := cb7
        rw [vref G.1.1 (rfl : vRf 104 55 = [133])] at cb7r
        have dcb7 : (Int32.ofInt (9)).toInt ≤ (xI h' 133 ((((Int32.ofInt (6)) * (Int32.ofInt (0))) + i)).toNatClampNeg).toInt := Int32.le_iff_toInt_le.mp cb7r
        by_cases cb8 : (0 : Int32) ≤ (xI h' (xR h' 104 61) (i).toNatClampNeg)
        · have e_0 : (0 : Int32).toInt = 0 := rfl
          have cb8r := cb8
          rw [vref G.1.1 (rfl : vRf 104 61 = [139])] at cb8r
          have dcb8 : (0 : Int32).toInt ≤ (xI h' 139 (i).toNatClampNeg).toInt := Int32.le_iff_toInt_le.mp cb8r
          have t9 : XT l 9 242 false 244 153 6051 30 [xf 13 104, xi (Int32.ofInt (0)), xi i, x3] [] h' 30 [xf 13 104, xi (Int32.ofInt (0)), xi (i + Int32.ofInt (1)), x3] [] (xsetI h' (xR h' 104 55) ((((Int32.ofInt (6)) * (Int32.ofInt (0))) + i)).toNatClampNeg (xI h' (xR h' 104 55) ((((Int32.ofInt (6)) * (Int32.ofInt (0))) + i)).toNatClampNeg)) := XT_path (l := l) (fr := 9) (lo := 242) (full := false) (M := 244) (n := 153) (u := 6051) (pc := 30) (L := [xf 13 104, xi (Int32.ofInt (0)), xi i, x3]) (st := []) (h := h') (inl := [245]) (n' := 120) (sp := [30]) (o := [0, 0, 1, 1]) rfl rfl ⟨rfl, rfl, rfl⟩ rfl ⟨Nat.le_of_eq G.1.2.2.2.1, Nat.le_of_eq G.1.2.2.2.2⟩ ⟨⟨⟨⟨⟨⟨⟨⟨⟨⟨trivial, (fun z => absurd (Int32.le_iff_toInt_le.mp z) (by rw [eb]; omega))⟩, (vnn G.1.1 (rfl : vRf 104 55 = [133]) (by decide))⟩, (vnn G.1.1 (rfl : vRf 104 55 = [133]) (by decide))⟩, (vp_of (i := (((Int32.ofInt (6)) * (Int32.ofInt (0))) + i)) (n := 12) (by omega) (by omega))⟩, (vnn G.1.1 (rfl : vRf 104 61 = [139]) (by decide))⟩, (vp_of (i := i) (n := 6) (by omega) (by omega))⟩, cb1⟩, cb7⟩, cb8⟩, (vp_of (i := (((Int32.ofInt (6)) * (Int32.ofInt (0))) + i)) (n := 12) (by omega) (by omega))⟩
          rw [vref G.1.1 (rfl : vRf 104 55 = [133])] at t9
          have G2 : vG ([(104, 54, false), (133, 0, true), (134, 0, true), (136, 0, true), (137, 0, true), (139, 0, true)], []) h (xsetI h' 133 ((((Int32.ofInt (6)) * (Int32.ofInt (0))) + i)).toNatClampNeg (xI h' 133 ((((Int32.ofInt (6)) * (Int32.ofInt (0))) + i)).toNatClampNeg)) := (G : vG ([(104, 54, false), (133, 0, true), (134, 0, true), (136, 0, true), (137, 0, true), (139, 0, true)], []) h h').set (c := 133) (k := ((((Int32.ofInt (6)) * (Int32.ofInt (0))) + i)).toNatClampNeg) (v := (xI h' 133 ((((Int32.ofInt (6)) * (Int32.ofInt (0))) + i)).toNatClampNeg)) (by rw [v133 _ nxA]; exact (show (0 : Int) ≤ _ ∧ _ ≤ (9 : Int) from ⟨by omega, by omega⟩)) rfl (by decide +kernel) rfl
          obtain ⟨i', x3', h2, z1, z2⟩ := jk_goB l h m (i + (Int32.ofInt (1))) _ _ G2 (by omega) (by omega)
          exact ⟨i', x3', h2, t9.tr z1, z2⟩
        · have e_0 : (0 : Int32).toInt = 0 := rfl
          have cb8r := cb8
          rw [vref G.1.1 (rfl : vRf 104 61 = [139])] at cb8r
          have dcb8 : (xI h' 139 (i).toNatClampNeg).toInt < (0 : Int32).toInt := Int32.lt_iff_toInt_lt.mp (Int32.not_le.mp cb8r)
          by_cases cb10 : (xI h' (xR h' 104 55) ((((Int32.ofInt (6)) * (Int32.ofInt (0))) + i)).toNatClampNeg) ≤ (Int32.ofInt (1))
          · have e_0 : (Int32.ofInt (0)).toInt = 0 := rfl
            have e_1 : (Int32.ofInt (1)).toInt = 1 := rfl
            have e_6 : (Int32.ofInt (6)).toInt = 6 := rfl
            have cb10r := cb10
            rw [vref G.1.1 (rfl : vRf 104 55 = [133])] at cb10r
            have dcb10 : (xI h' 133 ((((Int32.ofInt (6)) * (Int32.ofInt (0))) + i)).toNatClampNeg).toInt ≤ (Int32.ofInt (1)).toInt := Int32.le_iff_toInt_le.mp cb10r
            have t11 : XT l 9 242 false 244 153 6051 30 [xf 13 104, xi (Int32.ofInt (0)), xi i, x3] [] h' 30 [xf 13 104, xi (Int32.ofInt (0)), xi (i + Int32.ofInt (1)), x3] [] (xsetI h' (xR h' 104 55) ((((Int32.ofInt (6)) * (Int32.ofInt (0))) + i)).toNatClampNeg (xI h' (xR h' 104 55) ((((Int32.ofInt (6)) * (Int32.ofInt (0))) + i)).toNatClampNeg)) := XT_path (l := l) (fr := 9) (lo := 242) (full := false) (M := 244) (n := 153) (u := 6051) (pc := 30) (L := [xf 13 104, xi (Int32.ofInt (0)), xi i, x3]) (st := []) (h := h') (inl := [245]) (n' := 120) (sp := [30]) (o := [0, 0, 1, 0, 1]) rfl rfl ⟨rfl, rfl, rfl⟩ rfl ⟨Nat.le_of_eq G.1.2.2.2.1, Nat.le_of_eq G.1.2.2.2.2⟩ ⟨⟨⟨⟨⟨⟨⟨⟨⟨⟨⟨trivial, (fun z => absurd (Int32.le_iff_toInt_le.mp z) (by rw [eb]; omega))⟩, (vnn G.1.1 (rfl : vRf 104 55 = [133]) (by decide))⟩, (vnn G.1.1 (rfl : vRf 104 55 = [133]) (by decide))⟩, (vp_of (i := (((Int32.ofInt (6)) * (Int32.ofInt (0))) + i)) (n := 12) (by omega) (by omega))⟩, (vnn G.1.1 (rfl : vRf 104 61 = [139]) (by decide))⟩, (vp_of (i := i) (n := 6) (by omega) (by omega))⟩, cb1⟩, cb7⟩, cb8⟩, cb10⟩, (vp_of (i := (((Int32.ofInt (6)) * (Int32.ofInt (0))) + i)) (n := 12) (by omega) (by omega))⟩
            rw [vref G.1.1 (rfl : vRf 104 55 = [133])] at t11
            have G2 : vG ([(104, 54, false), (133, 0, true), (134, 0, true), (136, 0, true), (137, 0, true), (139, 0, true)], []) h (xsetI h' 133 ((((Int32.ofInt (6)) * (Int32.ofInt (0))) + i)).toNatClampNeg (xI h' 133 ((((Int32.ofInt (6)) * (Int32.ofInt (0))) + i)).toNatClampNeg)) := (G : vG ([(104, 54, false), (133, 0, true), (134, 0, true), (136, 0, true), (137, 0, true), (139, 0, true)], []) h h').set (c := 133) (k := ((((Int32.ofInt (6)) * (Int32.ofInt (0))) + i)).toNatClampNeg) (v := (xI h' 133 ((((Int32.ofInt (6)) * (Int32.ofInt (0))) + i)).toNatClampNeg)) (by rw [v133 _ nxA]; exact (show (0 : Int) ≤ _ ∧ _ ≤ (9 : Int) from ⟨by omega, by omega⟩)) rfl (by decide +kernel) rfl
            obtain ⟨i', x3', h2, z1, z2⟩ := jk_goB l h m (i + (Int32.ofInt (1))) _ _ G2 (by omega) (by omega)
            exact ⟨i', x3', h2, t11.tr z1, z2⟩
          · have e_0 : (Int32.ofInt (0)).toInt = 0 := rfl
            have e_1 : (Int32.ofInt (1)).toInt = 1 := rfl
            have e_6 : (Int32.ofInt (6)).toInt = 6 := rfl
            have cb10r := cb10
            rw [vref G.1.1 (rfl : vRf 104 55 = [133])] at cb10r
            have dcb10 : (Int32.ofInt (1)).toInt < (xI h' 133 ((((Int32.ofInt (6)) * (Int32.ofInt (0))) + i)).toNatClampNeg).toInt := Int32.lt_iff_toInt_lt.mp (Int32.not_le.mp cb10r)
            have t12 : XT l 9 242 false 244 153 6051 30 [xf 13 104, xi (Int32.ofInt (0)), xi i, x3] [] h' 30 [xf 13 104, xi (Int32.ofInt (0)), xi (i + Int32.ofInt (1)), x3] [] (xsetI h' (xR h' 104 55) ((((Int32.ofInt (6)) * (Int32.ofInt (0))) + i)).toNatClampNeg ((xI h' (xR h' 104 55) ((((Int32.ofInt (6)) * (Int32.ofInt (0))) + i)).toNatClampNeg) - (Int32.ofInt (1)))) := XT_path (l := l) (fr := 9) (lo := 242) (full := false) (M := 244) (n := 153) (u := 6051) (pc := 30) (L := [xf 13 104, xi (Int32.ofInt (0)), xi i, x3]) (st := []) (h := h') (inl := [245]) (n' := 120) (sp := [30]) (o := [0, 0, 1, 0, 0]) rfl rfl ⟨rfl, rfl, rfl⟩ rfl ⟨Nat.le_of_eq G.1.2.2.2.1, Nat.le_of_eq G.1.2.2.2.2⟩ ⟨⟨⟨⟨⟨⟨⟨⟨⟨⟨⟨trivial, (fun z => absurd (Int32.le_iff_toInt_le.mp z) (by rw [eb]; omega))⟩, (vnn G.1.1 (rfl : vRf 104 55 = [133]) (by decide))⟩, (vnn G.1.1 (rfl : vRf 104 55 = [133]) (by decide))⟩, (vp_of (i := (((Int32.ofInt (6)) * (Int32.ofInt (0))) + i)) (n := 12) (by omega) (by omega))⟩, (vnn G.1.1 (rfl : vRf 104 61 = [139]) (by decide))⟩, (vp_of (i := i) (n := 6) (by omega) (by omega))⟩, cb1⟩, cb7⟩, cb8⟩, cb10⟩, (vp_of (i := (((Int32.ofInt (6)) * (Int32.ofInt (0))) + i)) (n := 12) (by omega) (by omega))⟩
            rw [vref G.1.1 (rfl : vRf 104 55 = [133])] at t12
            have G2 : vG ([(104, 54, false), (133, 0, true), (134, 0, true), (136, 0, true), (137, 0, true), (139, 0, true)], []) h (xsetI h' 133 ((((Int32.ofInt (6)) * (Int32.ofInt (0))) + i)).toNatClampNeg ((xI h' 133 ((((Int32.ofInt (6)) * (Int32.ofInt (0))) + i)).toNatClampNeg) - (Int32.ofInt (1)))) := (G : vG ([(104, 54, false), (133, 0, true), (134, 0, true), (136, 0, true), (137, 0, true), (139, 0, true)], []) h h').set (c := 133) (k := ((((Int32.ofInt (6)) * (Int32.ofInt (0))) + i)).toNatClampNeg) (v := ((xI h' 133 ((((Int32.ofInt (6)) * (Int32.ofInt (0))) + i)).toNatClampNeg) - (Int32.ofInt (1)))) (by rw [v133 _ nxA]; exact (show (0 : Int) ≤ _ ∧ _ ≤ (9 : Int) from ⟨by omega, by omega⟩)) rfl (by decide +kernel) rfl
            obtain ⟨i', x3', h2, z1, z2⟩ := jk_goB l h m (i + (Int32.ofInt (1))) _ _ G2 (by omega) (by omega)
            exact ⟨i', x3', h2, t12.tr z1, z2⟩
      · have e_0 : (Int32.ofInt (0)).toInt = 0 := rfl
        have e_6 : (Int32.ofInt (6)).toInt = 6 := rfl
        have e_9 : (Int32.ofInt (9)).toInt = 9 := rfl
        have cb7r := cb7
        rw [vref G.1.1 (rfl : vRf 104 55 = [133])] at cb7r
        have dcb7 : (xI h' 133 ((((Int32.ofInt (6)) * (Int32.ofInt (0))) + i)).toNatClampNeg).toInt < (Int32.ofInt (9)).toInt := Int32.lt_iff_toInt_lt.mp (Int32.not_le.mp cb7r)
        have t13 : XT l 9 242 false 244 153 6051 30 [xf 13 104, xi (Int32.ofInt (0)), xi i, x3] [] h' 30 [xf 13 104, xi (Int32.ofInt (0)), xi (i + Int32.ofInt (1)), x3] [] (xsetI h' (xR h' 104 55) ((((Int32.ofInt (6)) * (Int32.ofInt (0))) + i)).toNatClampNeg ((xI h' (xR h' 104 55) ((((Int32.ofInt (6)) * (Int32.ofInt (0))) + i)).toNatClampNeg) + (Int32.ofInt (1)))) := XT_path (l := l) (fr := 9) (lo := 242) (full := false) (M := 244) (n := 153) (u := 6051) (pc := 30) (L := [xf 13 104, xi (Int32.ofInt (0)), xi i, x3]) (st := []) (h := h') (inl := [245]) (n' := 120) (sp := [30]) (o := [0, 0, 0]) rfl rfl ⟨rfl, rfl, rfl⟩ rfl ⟨Nat.le_of_eq G.1.2.2.2.1, Nat.le_of_eq G.1.2.2.2.2⟩ ⟨⟨⟨⟨⟨⟨⟨⟨⟨trivial, (fun z => absurd (Int32.le_iff_toInt_le.mp z) (by rw [eb]; omega))⟩, (vnn G.1.1 (rfl : vRf 104 55 = [133]) (by decide))⟩, (vnn G.1.1 (rfl : vRf 104 55 = [133]) (by decide))⟩, (vp_of (i := (((Int32.ofInt (6)) * (Int32.ofInt (0))) + i)) (n := 12) (by omega) (by omega))⟩, (vnn G.1.1 (rfl : vRf 104 61 = [139]) (by decide))⟩, (vp_of (i := i) (n := 6) (by omega) (by omega))⟩, cb1⟩, cb7⟩, (vp_of (i := (((Int32.ofInt (6)) * (Int32.ofInt (0))) + i)) (n := 12) (by omega) (by omega))⟩
        rw [vref G.1.1 (rfl : vRf 104 55 = [133])] at t13
        have G2 : vG ([(104, 54, false), (133, 0, true), (134, 0, true), (136, 0, true), (137, 0, true), (139, 0, true)], []) h (xsetI h' 133 ((((Int32.ofInt (6)) * (Int32.ofInt (0))) + i)).toNatClampNeg ((xI h' 133 ((((Int32.ofInt (6)) * (Int32.ofInt (0))) + i)).toNatClampNeg) + (Int32.ofInt (1)))) := (G : vG ([(104, 54, false), (133, 0, true), (134, 0, true), (136, 0, true), (137, 0, true), (139, 0, true)], []) h h').set (c := 133) (k := ((((Int32.ofInt (6)) * (Int32.ofInt (0))) + i)).toNatClampNeg) (v := ((xI h' 133 ((((Int32.ofInt (6)) * (Int32.ofInt (0))) + i)).toNatClampNeg) + (Int32.ofInt (1)))) (by rw [v133 _ nxA]; exact (show (0 : Int) ≤ _ ∧ _ ≤ (9 : Int) from ⟨by omega, by omega⟩)) rfl (by decide +kernel) rfl
        obtain ⟨i', x3', h2, z1, z2⟩ := jk_goB l h m (i + (Int32.ofInt (1))) _ _ G2 (by omega) (by omega)
        exact ⟨i', x3', h2, t13.tr z1, z2⟩
set_option maxRecDepth 100000 in
set_option maxHeartbeats 4000000 in
theorem jk_goC (l : Launch) (h : XH) : ∀ (m : Nat) (i : Int32) (x3 : XV) (h' : XH), vG ([(104, 54, false), (133, 0, true), (134, 0, true), (136, 0, true), (137, 0, true), (139, 0, true)], []) h h' → 0 ≤ i.toInt → i.toInt + m = (xI h 104 12).toInt → ∃ i' x3' h'', XT l 9 242 false 244 153 6051 77 [xf 13 104, xi (Int32.ofInt (0)), xi i, x3] [] h' 113 [xf 13 104, xi (Int32.ofInt (0)), xi i', x3'] [] h'' ∧ vG ([(104, 54, false), (133, 0, true), (134, 0, true), (136, 0, true), (137, 0, true), (139, 0, true)], []) h h''
  | 0, i, x3, h', G, i0, im => by
    have eb : xI h' 104 12 = xI h 104 12 := G.2.1 104 12 rfl
    have t1 : XT l 9 242 false 244 153 6051 77 [xf 13 104, xi (Int32.ofInt (0)), xi i, x3] [] h' 113 [xf 13 104, xi (Int32.ofInt (0)), xi i, x3] [] h' := XT_path (l := l) (fr := 9) (lo := 242) (full := false) (M := 244) (n := 153) (u := 6051) (pc := 77) (L := [xf 13 104, xi (Int32.ofInt (0)), xi i, x3]) (st := []) (h := h') (inl := [245]) (n' := 120) (sp := [113]) (o := [1]) rfl rfl ⟨rfl, rfl, rfl⟩ rfl ⟨Nat.le_of_eq G.1.2.2.2.1, Nat.le_of_eq G.1.2.2.2.2⟩ ⟨trivial, (Int32.le_iff_toInt_le.mpr (by rw [eb]; omega))⟩
    exact ⟨i, x3, h', t1, G⟩
  | m + 1, i, x3, h', G, i0, im => by
    have eb : xI h' 104 12 = xI h 104 12 := G.2.1 104 12 rfl
    have b0 : 0 ≤ (xI h 104 12).toInt ∧ (xI h 104 12).toInt ≤ 6 := by have z := vbnd G.1.1 104 12; rw [eb] at z; exact z
    have ej := y_suc1 i0 (by omega)
    have ni : i.toNatClampNeg = i.toInt.toNat := rfl
    have e0A : ((Int32.ofInt (6)) * (Int32.ofInt (0))).toInt = 0 := rfl
    have eiA : (((Int32.ofInt (6)) * (Int32.ofInt (0))) + i).toInt = i.toInt := by
      rw [Int32.toInt_add, e0A, Int.bmod_eq_of_le (by omega) (by omega)]
      omega
    have nxA : (((Int32.ofInt (6)) * (Int32.ofInt (0))) + i).toNatClampNeg < 6 := by
      show (((Int32.ofInt (6)) * (Int32.ofInt (0))) + i).toInt.toNat < 6
      omega
    have t1 : XT l 9 242 false 244 153 6051 77 [xf 13 104, xi (Int32.ofInt (0)), xi i, x3] [] h' 88 [xf 13 104, xi (Int32.ofInt (0)), xi i, x3] [xi i, xi (Int32.ofInt (0)), xf 13 104] h' := XT_path (l := l) (fr := 9) (lo := 242) (full := false) (M := 244) (n := 153) (u := 6051) (pc := 77) (L := [xf 13 104, xi (Int32.ofInt (0)), xi i, x3]) (st := []) (h := h') (inl := [245]) (n' := 120) (sp := [88]) (o := [0]) rfl rfl ⟨rfl, rfl, rfl⟩ rfl ⟨Nat.le_of_eq G.1.2.2.2.1, Nat.le_of_eq G.1.2.2.2.2⟩ ⟨trivial, (fun z => absurd (Int32.le_iff_toInt_le.mp z) (by rw [eb]; omega))⟩
    obtain ⟨v, h1, c1, g1, f1, -⟩ := vt_yield0 l (Int32.ofInt (0)) i h' G.1 ⟨by decide, by decide⟩ ⟨by omega, by omega⟩
    have G1 : vG ([(104, 54, false), (133, 0, true), (134, 0, true), (136, 0, true), (137, 0, true), (139, 0, true)], []) h h1 := G.tr ⟨g1, f1.mono rfl rfl⟩
    have t2 : XT l 9 242 false 244 153 6051 88 [xf 13 104, xi (Int32.ofInt (0)), xi i, x3] [xi i, xi (Int32.ofInt (0)), xf 13 104] h' 91 [xf 13 104, xi (Int32.ofInt (0)), xi i, x3] [xi v] h1 := XT_call (l := l) (fr := 9) (lo := 242) (full := false) (M := 244) (n := 153) (u := 6051) (pc := 88) (L := [xf 13 104, xi (Int32.ofInt (0)), xi i, x3]) (st := [xi i, xi (Int32.ofInt (0)), xf 13 104]) (h := h') (i := .invokevirtual 234) (aux := 3) (nx := 91) (K := 234) (vs := [xf 13 104, xi (Int32.ofInt (0)), xi i]) (rs := [xi v]) (rest := []) rfl rfl rfl rfl rfl rfl c1 (by decide) (by decide) (Nat.le_of_ble_eq_true rfl) ⟨Nat.le_of_eq G1.1.2.2.2.1, Nat.le_of_eq G1.1.2.2.2.2⟩
    have t3 := t1.tr t2
    have t4 : XT l 9 242 false 244 153 6051 91 [xf 13 104, xi (Int32.ofInt (0)), xi i, x3] [xi v] h1 77 [xf 13 104, xi (Int32.ofInt (0)), xi (i + Int32.ofInt (1)), xi v] [] (xsetI h1 (xR h1 104 56) ((((Int32.ofInt (6)) * (Int32.ofInt (0))) + i)).toNatClampNeg ((xI h1 (xR h1 104 56) ((((Int32.ofInt (6)) * (Int32.ofInt (0))) + i)).toNatClampNeg) + v)) := XT_path (l := l) (fr := 9) (lo := 242) (full := false) (M := 244) (n := 153) (u := 6051) (pc := 91) (L := [xf 13 104, xi (Int32.ofInt (0)), xi i, x3]) (st := [xi v]) (h := h1) (inl := [245]) (n' := 120) (sp := [77]) (o := []) rfl rfl ⟨rfl, rfl, rfl⟩ rfl ⟨Nat.le_of_eq G1.1.2.2.2.1, Nat.le_of_eq G1.1.2.2.2.2⟩ ⟨⟨⟨trivial, (vnn G1.1.1 (rfl : vRf 104 56 = [134]) (by decide))⟩, (vp_of (i := (((Int32.ofInt (6)) * (Int32.ofInt (0))) + i)) (n := 12) (by omega) (by omega))⟩, (vp_of (i := (((Int32.ofInt (6)) * (Int32.ofInt (0))) + i)) (n := 12) (by omega) (by omega))⟩
    rw [vref G1.1.1 (rfl : vRf 104 56 = [134])] at t4
    have t5 := t3.tr t4
    have G2 : vG ([(104, 54, false), (133, 0, true), (134, 0, true), (136, 0, true), (137, 0, true), (139, 0, true)], []) h (xsetI h1 134 ((((Int32.ofInt (6)) * (Int32.ofInt (0))) + i)).toNatClampNeg ((xI h1 134 ((((Int32.ofInt (6)) * (Int32.ofInt (0))) + i)).toNatClampNeg) + v)) := (G1 : vG ([(104, 54, false), (133, 0, true), (134, 0, true), (136, 0, true), (137, 0, true), (139, 0, true)], []) h h1).set (c := 134) (k := ((((Int32.ofInt (6)) * (Int32.ofInt (0))) + i)).toNatClampNeg) (v := ((xI h1 134 ((((Int32.ofInt (6)) * (Int32.ofInt (0))) + i)).toNatClampNeg) + v)) (by rw [vI_u (c := 134) (q := (-2147483648, 2147483647)) (by decide +kernel) (by decide +kernel)]; exact i32r_of _) rfl (by decide +kernel) rfl
    obtain ⟨i', x3', h2, z1, z2⟩ := jk_goC l h m (i + (Int32.ofInt (1))) _ _ G2 (by omega) (by omega)
    exact ⟨i', x3', h2, t5.tr z1, z2⟩
set_option maxRecDepth 100000 in
set_option maxHeartbeats 4000000 in
theorem jk_goD (l : Launch) (h : XH) : ∀ (m : Nat) (i : Int32) (x3 : XV) (h' : XH), vG ([(104, 54, false), (133, 0, true), (134, 0, true), (136, 0, true), (137, 0, true), (139, 0, true)], []) h h' → 0 ≤ i.toInt → i.toInt + m = (xI h 104 14).toInt → ∃ i' x3' h'', XT l 9 242 false 244 153 6051 115 [xf 13 104, xi (Int32.ofInt (0)), xi i, x3] [] h' 191 [xf 13 104, xi (Int32.ofInt (0)), xi i', x3'] [] h'' ∧ vG ([(104, 54, false), (133, 0, true), (134, 0, true), (136, 0, true), (137, 0, true), (139, 0, true)], []) h h''
  | 0, i, x3, h', G, i0, im => by
    have eb : xI h' 104 14 = xI h 104 14 := G.2.1 104 14 rfl
    have t1 : XT l 9 242 false 244 153 6051 115 [xf 13 104, xi (Int32.ofInt (0)), xi i, x3] [] h' 191 [xf 13 104, xi (Int32.ofInt (0)), xi i, x3] [] h' := XT_path (l := l) (fr := 9) (lo := 242) (full := false) (M := 244) (n := 153) (u := 6051) (pc := 115) (L := [xf 13 104, xi (Int32.ofInt (0)), xi i, x3]) (st := []) (h := h') (inl := [245]) (n' := 120) (sp := [191]) (o := [1]) rfl rfl ⟨rfl, rfl, rfl⟩ rfl ⟨Nat.le_of_eq G.1.2.2.2.1, Nat.le_of_eq G.1.2.2.2.2⟩ ⟨trivial, (Int32.le_iff_toInt_le.mpr (by rw [eb]; omega))⟩
    exact ⟨i, x3, h', t1, G⟩
  | m + 1, i, x3, h', G, i0, im => by
    have eb : xI h' 104 14 = xI h 104 14 := G.2.1 104 14 rfl
    have b0 : 0 ≤ (xI h 104 14).toInt ∧ (xI h 104 14).toInt ≤ 8 := by have z := vbnd G.1.1 104 14; rw [eb] at z; exact z
    have ej := y_suc1 i0 (by omega)
    have ni : i.toNatClampNeg = i.toInt.toNat := rfl
    have e0B : ((Int32.ofInt (8)) * (Int32.ofInt (0))).toInt = 0 := rfl
    have eiB : (((Int32.ofInt (8)) * (Int32.ofInt (0))) + i).toInt = i.toInt := by
      rw [Int32.toInt_add, e0B, Int.bmod_eq_of_le (by omega) (by omega)]
      omega
    have nxB : (((Int32.ofInt (8)) * (Int32.ofInt (0))) + i).toNatClampNeg < 8 := by
      show (((Int32.ofInt (8)) * (Int32.ofInt (0))) + i).toInt.toNat < 8
      omega
    have e0A : ((Int32.ofInt (6)) * (Int32.ofInt (0))).toInt = 0 := rfl
    have q1 : 0 ≤ (xI h' 135 (((Int32.ofInt (8)) * (Int32.ofInt (0))) + i).toNatClampNeg).toInt ∧ (xI h' 135 (((Int32.ofInt (8)) * (Int32.ofInt (0))) + i).toNatClampNeg).toInt ≤ 5 := by have z := vbnd G.1.1 135 (((Int32.ofInt (8)) * (Int32.ofInt (0))) + i).toNatClampNeg; rw [vI_u rfl (rfl : vRow 135 = (0, 5))] at z; exact z
    have ea : (((Int32.ofInt (6)) * (Int32.ofInt (0))) + xI h' 135 (((Int32.ofInt (8)) * (Int32.ofInt (0))) + i).toNatClampNeg).toInt = (xI h' 135 (((Int32.ofInt (8)) * (Int32.ofInt (0))) + i).toNatClampNeg).toInt := by
      rw [Int32.toInt_add, e0A, Int.bmod_eq_of_le (by omega) (by omega)]
      omega
    by_cases cb1 : (xI h' (xR h' 104 33) (i).toNatClampNeg) ≤ (xI h' (xR h' 104 55) ((((Int32.ofInt (6)) * (Int32.ofInt (0))) + (xI h' (xR h' 104 57) ((((Int32.ofInt (8)) * (Int32.ofInt (0))) + i)).toNatClampNeg))).toNatClampNeg)
    · have e_0 : (Int32.ofInt (0)).toInt = 0 := rfl
      have e_6 : (Int32.ofInt (6)).toInt = 6 := rfl
      have e_8 : (Int32.ofInt (8)).toInt = 8 := rfl
      have cb1r := cb1
      rw [vref G.1.1 (rfl : vRf 104 33 = [118]), vref G.1.1 (rfl : vRf 104 55 = [133]), vref G.1.1 (rfl : vRf 104 57 = [135])] at cb1r
      have dcb1 : (xI h' 118 (i).toNatClampNeg).toInt ≤ (xI h' 133 ((((Int32.ofInt (6)) * (Int32.ofInt (0))) + (xI h' 135 ((((Int32.ofInt (8)) * (Int32.ofInt (0))) + i)).toNatClampNeg))).toNatClampNeg).toInt := Int32.le_iff_toInt_le.mp cb1r
      have t2 : XT l 9 242 false 244 153 6051 115 [xf 13 104, xi (Int32.ofInt (0)), xi i, x3] [] h' 115 [xf 13 104, xi (Int32.ofInt (0)), xi (i + Int32.ofInt (1)), x3] [] (xsetI (xsetI h' (xR h' 104 59) ((((Int32.ofInt (8)) * (Int32.ofInt (0))) + i)).toNatClampNeg ((xI h' (xR h' 104 59) ((((Int32.ofInt (8)) * (Int32.ofInt (0))) + i)).toNatClampNeg) + (Int32.ofInt (0)))) (xR h' 104 58) ((((Int32.ofInt (8)) * (Int32.ofInt (0))) + i)).toNatClampNeg (Int32.ofInt (-2))) := XT_path (l := l) (fr := 9) (lo := 242) (full := false) (M := 244) (n := 153) (u := 6051) (pc := 115) (L := [xf 13 104, xi (Int32.ofInt (0)), xi i, x3]) (st := []) (h := h') (inl := [245]) (n' := 120) (sp := [115]) (o := [0, 1]) rfl rfl ⟨rfl, rfl, rfl⟩ rfl ⟨Nat.le_of_eq G.1.2.2.2.1, Nat.le_of_eq G.1.2.2.2.2⟩ ⟨⟨⟨⟨⟨⟨⟨⟨⟨⟨⟨⟨⟨trivial, (fun z => absurd (Int32.le_iff_toInt_le.mp z) (by rw [eb]; omega))⟩, (vnn G.1.1 (rfl : vRf 104 59 = [137]) (by decide))⟩, (vp_of (i := (((Int32.ofInt (8)) * (Int32.ofInt (0))) + i)) (n := 16) (by omega) (by omega))⟩, (vnn G.1.1 (rfl : vRf 104 33 = [118]) (by decide))⟩, (vp_of (i := i) (n := 16) (by omega) (by omega))⟩, (vnn G.1.1 (rfl : vRf 104 55 = [133]) (by decide))⟩, (vnn G.1.1 (rfl : vRf 104 57 = [135]) (by decide))⟩, (vp_of (i := (((Int32.ofInt (8)) * (Int32.ofInt (0))) + i)) (n := 16) (by omega) (by omega))⟩, (show vp_in ((((Int32.ofInt (6)) * (Int32.ofInt (0))) + (xI h' (xR h' 104 57) ((((Int32.ofInt (8)) * (Int32.ofInt (0))) + i)).toNatClampNeg))) (12) from (by rw [vref G.1.1 (rfl : vRf 104 57 = [135])]; exact (vp_of (i := (((Int32.ofInt (6)) * (Int32.ofInt (0))) + (xI h' 135 ((((Int32.ofInt (8)) * (Int32.ofInt (0))) + i)).toNatClampNeg))) (n := 12) (by omega) (by omega) : vp_in ((((Int32.ofInt (6)) * (Int32.ofInt (0))) + (xI h' 135 ((((Int32.ofInt (8)) * (Int32.ofInt (0))) + i)).toNatClampNeg))) (12))))⟩, cb1⟩, (vp_of (i := (((Int32.ofInt (8)) * (Int32.ofInt (0))) + i)) (n := 16) (by omega) (by omega))⟩, (vnn G.1.1 (rfl : vRf 104 58 = [136]) (by decide))⟩, (vp_of (i := (((Int32.ofInt (8)) * (Int32.ofInt (0))) + i)) (n := 16) (by omega) (by omega))⟩
      rw [vref G.1.1 (rfl : vRf 104 59 = [137]), vref G.1.1 (rfl : vRf 104 58 = [136])] at t2
      have w3 : vG ([(104, 54, false), (133, 0, true), (134, 0, true), (136, 0, true), (137, 0, true), (139, 0, true)], []) h (xsetI h' 137 ((((Int32.ofInt (8)) * (Int32.ofInt (0))) + i)).toNatClampNeg ((xI h' 137 ((((Int32.ofInt (8)) * (Int32.ofInt (0))) + i)).toNatClampNeg) + (Int32.ofInt (0)))) := (G : vG ([(104, 54, false), (133, 0, true), (134, 0, true), (136, 0, true), (137, 0, true), (139, 0, true)], []) h h').set (c := 137) (k := ((((Int32.ofInt (8)) * (Int32.ofInt (0))) + i)).toNatClampNeg) (v := ((xI h' 137 ((((Int32.ofInt (8)) * (Int32.ofInt (0))) + i)).toNatClampNeg) + (Int32.ofInt (0)))) (by rw [vI_u rfl (rfl : vRow 137 = sfull)]; exact i32r_of _) rfl (by decide +kernel) rfl
      have G2 : vG ([(104, 54, false), (133, 0, true), (134, 0, true), (136, 0, true), (137, 0, true), (139, 0, true)], []) h (xsetI (xsetI h' 137 ((((Int32.ofInt (8)) * (Int32.ofInt (0))) + i)).toNatClampNeg ((xI h' 137 ((((Int32.ofInt (8)) * (Int32.ofInt (0))) + i)).toNatClampNeg) + (Int32.ofInt (0)))) 136 ((((Int32.ofInt (8)) * (Int32.ofInt (0))) + i)).toNatClampNeg (Int32.ofInt (-2))) := (w3 : vG ([(104, 54, false), (133, 0, true), (134, 0, true), (136, 0, true), (137, 0, true), (139, 0, true)], []) h (xsetI h' 137 ((((Int32.ofInt (8)) * (Int32.ofInt (0))) + i)).toNatClampNeg ((xI h' 137 ((((Int32.ofInt (8)) * (Int32.ofInt (0))) + i)).toNatClampNeg) + (Int32.ofInt (0))))).set (c := 136) (k := ((((Int32.ofInt (8)) * (Int32.ofInt (0))) + i)).toNatClampNeg) (v := (Int32.ofInt (-2))) (by rw [vI_u rfl (rfl : vRow 136 = (-2, 1))]; exact (by decide)) rfl (by decide +kernel) rfl
      obtain ⟨i', x3', h2, z1, z2⟩ := jk_goD l h m (i + (Int32.ofInt (1))) _ _ G2 (by omega) (by omega)
      exact ⟨i', x3', h2, t2.tr z1, z2⟩
    · have e_0 : (Int32.ofInt (0)).toInt = 0 := rfl
      have e_6 : (Int32.ofInt (6)).toInt = 6 := rfl
      have e_8 : (Int32.ofInt (8)).toInt = 8 := rfl
      have cb1r := cb1
      rw [vref G.1.1 (rfl : vRf 104 33 = [118]), vref G.1.1 (rfl : vRf 104 55 = [133]), vref G.1.1 (rfl : vRf 104 57 = [135])] at cb1r
      have dcb1 : (xI h' 133 ((((Int32.ofInt (6)) * (Int32.ofInt (0))) + (xI h' 135 ((((Int32.ofInt (8)) * (Int32.ofInt (0))) + i)).toNatClampNeg))).toNatClampNeg).toInt < (xI h' 118 (i).toNatClampNeg).toInt := Int32.lt_iff_toInt_lt.mp (Int32.not_le.mp cb1r)
      have t4 : XT l 9 242 false 244 153 6051 115 [xf 13 104, xi (Int32.ofInt (0)), xi i, x3] [] h' 115 [xf 13 104, xi (Int32.ofInt (0)), xi (i + Int32.ofInt (1)), x3] [] (xsetI (xsetI h' (xR h' 104 59) ((((Int32.ofInt (8)) * (Int32.ofInt (0))) + i)).toNatClampNeg ((xI h' (xR h' 104 59) ((((Int32.ofInt (8)) * (Int32.ofInt (0))) + i)).toNatClampNeg) + (Int32.ofInt (1)))) (xR h' 104 58) ((((Int32.ofInt (8)) * (Int32.ofInt (0))) + i)).toNatClampNeg (Int32.ofInt (-2))) := XT_path (l := l) (fr := 9) (lo := 242) (full := false) (M := 244) (n := 153) (u := 6051) (pc := 115) (L := [xf 13 104, xi (Int32.ofInt (0)), xi i, x3]) (st := []) (h := h') (inl := [245]) (n' := 120) (sp := [115]) (o := [0, 0]) rfl rfl ⟨rfl, rfl, rfl⟩ rfl ⟨Nat.le_of_eq G.1.2.2.2.1, Nat.le_of_eq G.1.2.2.2.2⟩ ⟨⟨⟨⟨⟨⟨⟨⟨⟨⟨⟨⟨⟨trivial, (fun z => absurd (Int32.le_iff_toInt_le.mp z) (by rw [eb]; omega))⟩, (vnn G.1.1 (rfl : vRf 104 59 = [137]) (by decide))⟩, (vp_of (i := (((Int32.ofInt (8)) * (Int32.ofInt (0))) + i)) (n := 16) (by omega) (by omega))⟩, (vnn G.1.1 (rfl : vRf 104 33 = [118]) (by decide))⟩, (vp_of (i := i) (n := 16) (by omega) (by omega))⟩, (vnn G.1.1 (rfl : vRf 104 55 = [133]) (by decide))⟩, (vnn G.1.1 (rfl : vRf 104 57 = [135]) (by decide))⟩, (vp_of (i := (((Int32.ofInt (8)) * (Int32.ofInt (0))) + i)) (n := 16) (by omega) (by omega))⟩, (show vp_in ((((Int32.ofInt (6)) * (Int32.ofInt (0))) + (xI h' (xR h' 104 57) ((((Int32.ofInt (8)) * (Int32.ofInt (0))) + i)).toNatClampNeg))) (12) from (by rw [vref G.1.1 (rfl : vRf 104 57 = [135])]; exact (vp_of (i := (((Int32.ofInt (6)) * (Int32.ofInt (0))) + (xI h' 135 ((((Int32.ofInt (8)) * (Int32.ofInt (0))) + i)).toNatClampNeg))) (n := 12) (by omega) (by omega) : vp_in ((((Int32.ofInt (6)) * (Int32.ofInt (0))) + (xI h' 135 ((((Int32.ofInt (8)) * (Int32.ofInt (0))) + i)).toNatClampNeg))) (12))))⟩, cb1⟩, (vp_of (i := (((Int32.ofInt (8)) * (Int32.ofInt (0))) + i)) (n := 16) (by omega) (by omega))⟩, (vnn G.1.1 (rfl : vRf 104 58 = [136]) (by decide))⟩, (vp_of (i := (((Int32.ofInt (8)) * (Int32.ofInt (0))) + i)) (n := 16) (by omega) (by omega))⟩
      rw [vref G.1.1 (rfl : vRf 104 59 = [137]), vref G.1.1 (rfl : vRf 104 58 = [136])] at t4
      have w5 : vG ([(104, 54, false), (133, 0, true), (134, 0, true), (136, 0, true), (137, 0, true), (139, 0, true)], []) h (xsetI h' 137 ((((Int32.ofInt (8)) * (Int32.ofInt (0))) + i)).toNatClampNeg ((xI h' 137 ((((Int32.ofInt (8)) * (Int32.ofInt (0))) + i)).toNatClampNeg) + (Int32.ofInt (1)))) := (G : vG ([(104, 54, false), (133, 0, true), (134, 0, true), (136, 0, true), (137, 0, true), (139, 0, true)], []) h h').set (c := 137) (k := ((((Int32.ofInt (8)) * (Int32.ofInt (0))) + i)).toNatClampNeg) (v := ((xI h' 137 ((((Int32.ofInt (8)) * (Int32.ofInt (0))) + i)).toNatClampNeg) + (Int32.ofInt (1)))) (by rw [vI_u rfl (rfl : vRow 137 = sfull)]; exact i32r_of _) rfl (by decide +kernel) rfl
      have G2 : vG ([(104, 54, false), (133, 0, true), (134, 0, true), (136, 0, true), (137, 0, true), (139, 0, true)], []) h (xsetI (xsetI h' 137 ((((Int32.ofInt (8)) * (Int32.ofInt (0))) + i)).toNatClampNeg ((xI h' 137 ((((Int32.ofInt (8)) * (Int32.ofInt (0))) + i)).toNatClampNeg) + (Int32.ofInt (1)))) 136 ((((Int32.ofInt (8)) * (Int32.ofInt (0))) + i)).toNatClampNeg (Int32.ofInt (-2))) := (w5 : vG ([(104, 54, false), (133, 0, true), (134, 0, true), (136, 0, true), (137, 0, true), (139, 0, true)], []) h (xsetI h' 137 ((((Int32.ofInt (8)) * (Int32.ofInt (0))) + i)).toNatClampNeg ((xI h' 137 ((((Int32.ofInt (8)) * (Int32.ofInt (0))) + i)).toNatClampNeg) + (Int32.ofInt (1))))).set (c := 136) (k := ((((Int32.ofInt (8)) * (Int32.ofInt (0))) + i)).toNatClampNeg) (v := (Int32.ofInt (-2))) (by rw [vI_u rfl (rfl : vRow 136 = (-2, 1))]; exact (by decide)) rfl (by decide +kernel) rfl
      obtain ⟨i', x3', h2, z1, z2⟩ := jk_goD l h m (i + (Int32.ofInt (1))) _ _ G2 (by omega) (by omega)
      exact ⟨i', x3', h2, t4.tr z1, z2⟩
set_option maxRecDepth 100000 in
set_option maxHeartbeats 4000000 in
theorem jk_goOn0 (l : Launch) (h : XH) (hg : sgood vT vR vE 153 6051 h) : ∃ h', CX l 9 242 false 244 [xf 13 104, xi (Int32.ofInt (0))] h [] h' ∧ vG ([(104, 54, false), (133, 0, true), (134, 0, true), (136, 0, true), (137, 0, true), (138, 0, false), (139, 0, true)], []) h h' ∧ xI h' 138 0 = xI h 138 0 + (Int32.ofInt (1)) := by
  have b12 : 0 ≤ (xI h 104 12).toInt ∧ (xI h 104 12).toInt ≤ 6 := vbnd hg.1 104 12
  have b14 : 0 ≤ (xI h 104 14).toInt ∧ (xI h 104 14).toInt ≤ 8 := vbnd hg.1 104 14
  have z0 : (Int32.ofInt (0)).toInt = 0 := rfl
  have t1 : XT l 9 242 false 244 153 6051 0 [xf 13 104, xi (Int32.ofInt (0)), xun, xun] [] h 2 [xf 13 104, xi (Int32.ofInt (0)), xi (Int32.ofInt (0)), xun] [] h := XT_path (l := l) (fr := 9) (lo := 242) (full := false) (M := 244) (n := 153) (u := 6051) (pc := 0) (L := [xf 13 104, xi (Int32.ofInt (0)), xun, xun]) (st := []) (h := h) (inl := []) (n' := 80) (sp := [2]) (o := []) rfl rfl ⟨rfl, rfl, rfl⟩ rfl ⟨Nat.le_of_eq hg.2.2.2.1, Nat.le_of_eq hg.2.2.2.2⟩ trivial
  obtain ⟨i1, y1, k1, T1, G1⟩ := jk_goA l h (xI h 104 12).toInt.toNat (Int32.ofInt (0)) xun h (vG.rf hg) (by decide) (by rw [z0]; omega)
  have U1 := t1.tr T1
  have t2 : XT l 9 242 false 244 153 6051 28 [xf 13 104, xi (Int32.ofInt (0)), xi i1, y1] [] k1 30 [xf 13 104, xi (Int32.ofInt (0)), xi (Int32.ofInt (0)), y1] [] k1 := XT_path (l := l) (fr := 9) (lo := 242) (full := false) (M := 244) (n := 153) (u := 6051) (pc := 28) (L := [xf 13 104, xi (Int32.ofInt (0)), xi i1, y1]) (st := []) (h := k1) (inl := []) (n' := 80) (sp := [30]) (o := []) rfl rfl ⟨rfl, rfl, rfl⟩ rfl ⟨Nat.le_of_eq G1.1.2.2.2.1, Nat.le_of_eq G1.1.2.2.2.2⟩ trivial
  have t3 := U1.tr t2
  obtain ⟨i2, y2, k2, T2, G2⟩ := jk_goB l h (xI h 104 12).toInt.toNat (Int32.ofInt (0)) y1 k1 G1 (by decide) (by rw [z0]; omega)
  have U2 := t3.tr T2
  have t4 : XT l 9 242 false 244 153 6051 75 [xf 13 104, xi (Int32.ofInt (0)), xi i2, y2] [] k2 77 [xf 13 104, xi (Int32.ofInt (0)), xi (Int32.ofInt (0)), y2] [] k2 := XT_path (l := l) (fr := 9) (lo := 242) (full := false) (M := 244) (n := 153) (u := 6051) (pc := 75) (L := [xf 13 104, xi (Int32.ofInt (0)), xi i2, y2]) (st := []) (h := k2) (inl := []) (n' := 80) (sp := [77]) (o := []) rfl rfl ⟨rfl, rfl, rfl⟩ rfl ⟨Nat.le_of_eq G2.1.2.2.2.1, Nat.le_of_eq G2.1.2.2.2.2⟩ trivial
  have t5 := U2.tr t4
  obtain ⟨i3, y3, k3, T3, G3⟩ := jk_goC l h (xI h 104 12).toInt.toNat (Int32.ofInt (0)) y2 k2 G2 (by decide) (by rw [z0]; omega)
  have U3 := t5.tr T3
  have t6 : XT l 9 242 false 244 153 6051 113 [xf 13 104, xi (Int32.ofInt (0)), xi i3, y3] [] k3 115 [xf 13 104, xi (Int32.ofInt (0)), xi (Int32.ofInt (0)), y3] [] k3 := XT_path (l := l) (fr := 9) (lo := 242) (full := false) (M := 244) (n := 153) (u := 6051) (pc := 113) (L := [xf 13 104, xi (Int32.ofInt (0)), xi i3, y3]) (st := []) (h := k3) (inl := []) (n' := 80) (sp := [115]) (o := []) rfl rfl ⟨rfl, rfl, rfl⟩ rfl ⟨Nat.le_of_eq G3.1.2.2.2.1, Nat.le_of_eq G3.1.2.2.2.2⟩ trivial
  have t7 := U3.tr t6
  obtain ⟨i4, y4, k4, T4, G4⟩ := jk_goD l h (xI h 104 14).toInt.toNat (Int32.ofInt (0)) y3 k3 G3 (by decide) (by rw [z0]; omega)
  have U4 := t7.tr T4
  have t8 : XT l 9 242 false 244 153 6051 191 [xf 13 104, xi (Int32.ofInt (0)), xi i4, y4] [] k4 201 [xf 13 104, xi (Int32.ofInt (0)), xi i4, y4] [] (xsetI k4 (xR k4 104 60) ((Int32.ofInt (0))).toNatClampNeg ((xI k4 (xR k4 104 60) ((Int32.ofInt (0))).toNatClampNeg) + (Int32.ofInt (1)))) := XT_path (l := l) (fr := 9) (lo := 242) (full := false) (M := 244) (n := 153) (u := 6051) (pc := 191) (L := [xf 13 104, xi (Int32.ofInt (0)), xi i4, y4]) (st := []) (h := k4) (inl := []) (n' := 80) (sp := [201]) (o := []) rfl rfl ⟨rfl, rfl, rfl⟩ rfl ⟨Nat.le_of_eq G4.1.2.2.2.1, Nat.le_of_eq G4.1.2.2.2.2⟩ ⟨⟨⟨trivial, (vnn G4.1.1 (rfl : vRf 104 60 = [138]) (by decide))⟩, (vp_of (i := (Int32.ofInt (0))) (n := 2) (by decide) (by decide))⟩, (vp_of (i := (Int32.ofInt (0))) (n := 2) (by decide) (by decide))⟩
  rw [vref G4.1.1 (rfl : vRf 104 60 = [138])] at t8
  have t9 := U4.tr t8
  have e138 : xI k4 138 0 = xI h 138 0 := G4.2.1 138 0 rfl
  have G4e : vG ([(104, 54, false), (133, 0, true), (134, 0, true), (136, 0, true), (137, 0, true), (138, 0, false), (139, 0, true)], []) h k4 := ⟨G4.1, G4.2.mono rfl rfl⟩
  have G5 : vG ([(104, 54, false), (133, 0, true), (134, 0, true), (136, 0, true), (137, 0, true), (138, 0, false), (139, 0, true)], []) h (xsetI k4 138 ((Int32.ofInt (0))).toNatClampNeg ((xI k4 138 ((Int32.ofInt (0))).toNatClampNeg) + (Int32.ofInt (1)))) := (G4e : vG ([(104, 54, false), (133, 0, true), (134, 0, true), (136, 0, true), (137, 0, true), (138, 0, false), (139, 0, true)], []) h k4).set (c := 138) (k := ((Int32.ofInt (0))).toNatClampNeg) (v := ((xI k4 138 ((Int32.ofInt (0))).toNatClampNeg) + (Int32.ofInt (1)))) (by rw [vI_u (c := 138) (q := (-2147483648, 2147483647)) (by decide +kernel) (by decide +kernel)]; exact i32r_of _) rfl (by decide +kernel) rfl
  exact ⟨_, CX_ofT (h' := (xsetI k4 138 ((Int32.ofInt (0))).toNatClampNeg ((xI k4 138 ((Int32.ofInt (0))).toNatClampNeg) + (Int32.ofInt (1))))) (by decide) rfl rfl trivial ⟨_, _, _, rfl, rfl, rfl⟩ rfl ⟨Nat.le_of_eq G4.1.2.2.2.1.symm, Nat.le_of_eq G4.1.2.2.2.2.symm⟩ t9, G5, by rw [show xI (xsetI k4 138 ((Int32.ofInt (0))).toNatClampNeg ((xI k4 138 ((Int32.ofInt (0))).toNatClampNeg) + (Int32.ofInt (1)))) 138 0 = _ from yI_same]; exact congrArg (· + (Int32.ofInt (1))) e138⟩
set_option maxRecDepth 100000 in
set_option maxHeartbeats 4000000 in
theorem jk_seaL (l : Launch) (n : Int32) (n9 : n.toInt ≤ 99) (h : XH) : ∀ (m : Nat) (i : Int32) (h' : XH), vG ([(104, 2, false), (104, 54, false), (104, 63, false), (104, 64, false), (104, 76, false), (133, 0, true), (134, 0, true), (136, 0, true), (137, 0, true), (138, 0, true), (139, 0, true)], []) h h' → 0 ≤ i.toInt → i.toInt + m = n.toInt → xI h' 138 0 = xI h 138 0 + i → ∃ i' h'', XT l 10 265 false 243 153 6051 37 [xf 13 104, xi n, xi i] [] h' 53 [xf 13 104, xi n, xi i'] [] h'' ∧ vG ([(104, 2, false), (104, 54, false), (104, 63, false), (104, 64, false), (104, 76, false), (133, 0, true), (134, 0, true), (136, 0, true), (137, 0, true), (138, 0, true), (139, 0, true)], []) h h'' ∧ xI h'' 138 0 = xI h 138 0 + n
  | 0, i, h', G, i0, im, e => by
    have t1 : XT l 10 265 false 243 153 6051 37 [xf 13 104, xi n, xi i] [] h' 53 [xf 13 104, xi n, xi i] [] h' := XT_path (l := l) (fr := 10) (lo := 265) (full := false) (M := 243) (n := 153) (u := 6051) (pc := 37) (L := [xf 13 104, xi n, xi i]) (st := []) (h := h') (inl := []) (n' := 80) (sp := [53]) (o := [1]) rfl rfl ⟨rfl, rfl, rfl⟩ rfl ⟨Nat.le_of_eq G.1.2.2.2.1, Nat.le_of_eq G.1.2.2.2.2⟩ ⟨trivial, (Int32.le_iff_toInt_le.mpr (by omega))⟩
    have ei : i = n := Int32.toInt_inj.mp (by omega)
    exact ⟨i, h', t1, G, by rw [e, ei]⟩
  | m + 1, i, h', G, i0, im, e => by
    have ej := y_suc1 i0 (by omega)
    have t1 : XT l 10 265 false 243 153 6051 37 [xf 13 104, xi n, xi i] [] h' 44 [xf 13 104, xi n, xi i] [xi (Int32.ofInt (0)), xf 13 104] h' := XT_path (l := l) (fr := 10) (lo := 265) (full := false) (M := 243) (n := 153) (u := 6051) (pc := 37) (L := [xf 13 104, xi n, xi i]) (st := []) (h := h') (inl := []) (n' := 80) (sp := [44]) (o := [0]) rfl rfl ⟨rfl, rfl, rfl⟩ rfl ⟨Nat.le_of_eq G.1.2.2.2.1, Nat.le_of_eq G.1.2.2.2.2⟩ ⟨trivial, (fun z => absurd (Int32.le_iff_toInt_le.mp z) (by omega))⟩
    obtain ⟨h1, c1, g1, s1⟩ := jk_goOn0 l h' G.1
    have G1 : vG ([(104, 2, false), (104, 54, false), (104, 63, false), (104, 64, false), (104, 76, false), (133, 0, true), (134, 0, true), (136, 0, true), (137, 0, true), (138, 0, true), (139, 0, true)], []) h h1 := G.tr ⟨g1.1, g1.2.mono rfl rfl⟩
    have t2 : XT l 10 265 false 243 153 6051 44 [xf 13 104, xi n, xi i] [xi (Int32.ofInt (0)), xf 13 104] h' 47 [xf 13 104, xi n, xi i] [] h1 := XT_call (l := l) (fr := 10) (lo := 265) (full := false) (M := 243) (n := 153) (u := 6051) (pc := 44) (L := [xf 13 104, xi n, xi i]) (st := [xi (Int32.ofInt (0)), xf 13 104]) (h := h') (i := .invokevirtual 244) (aux := 2) (nx := 47) (K := 244) (vs := [xf 13 104, xi (Int32.ofInt (0))]) (rs := []) (rest := []) rfl rfl rfl rfl rfl rfl c1 (by decide) (by decide) (Nat.le_of_ble_eq_true rfl) ⟨Nat.le_of_eq G1.1.2.2.2.1, Nat.le_of_eq G1.1.2.2.2.2⟩
    have t3 := t1.tr t2
    have t4 : XT l 10 265 false 243 153 6051 47 [xf 13 104, xi n, xi i] [] h1 37 [xf 13 104, xi n, xi (i + Int32.ofInt (1))] [] h1 := XT_path (l := l) (fr := 10) (lo := 265) (full := false) (M := 243) (n := 153) (u := 6051) (pc := 47) (L := [xf 13 104, xi n, xi i]) (st := []) (h := h1) (inl := []) (n' := 80) (sp := [37]) (o := []) rfl rfl ⟨rfl, rfl, rfl⟩ rfl ⟨Nat.le_of_eq G1.1.2.2.2.1, Nat.le_of_eq G1.1.2.2.2.2⟩ trivial
    have t5 := t3.tr t4
    obtain ⟨i', h2, z1, z2, z3⟩ := jk_seaL l n n9 h m (i + (Int32.ofInt (1))) h1 G1 (by omega) (by omega) (by rw [s1, e, Int32.add_assoc])
    exact ⟨i', h2, t5.tr z1, z2, z3⟩
theorem zse_y {n s : Int32} (a : (Int32.ofInt (0)).toInt ≤ n.toInt) (b : n.toInt ≤ ((Int32.ofInt (99))).toInt) (c : (s + n).toInt ≤ ((Int32.ofInt (9999))).toInt) : 0 ≤ n.toInt ∧ n.toInt ≤ 99 ∧ (s + n).toInt ≤ 9999 := ⟨a, b, c⟩
theorem zse_n1 {n s : Int32} (a : 0 ≤ n.toInt) (b : n.toInt ≤ 99) (c : (s + n).toInt ≤ 9999) : ¬ n.toInt < (Int32.ofInt (0)).toInt := fun z => by have e : (Int32.ofInt (0)).toInt = 0 := rfl; omega
theorem zse_n2 {n s : Int32} (a : 0 ≤ n.toInt) (b : n.toInt ≤ 99) (c : (s + n).toInt ≤ 9999) : ¬ ((Int32.ofInt (99))).toInt < n.toInt := fun z => by have e : ((Int32.ofInt (99))).toInt = 99 := rfl; omega
theorem zse_n3 {n s : Int32} (a : 0 ≤ n.toInt) (b : n.toInt ≤ 99) (c : (s + n).toInt ≤ 9999) : ¬ ((Int32.ofInt (9999))).toInt < (s + n).toInt := fun z => by have e : ((Int32.ofInt (9999))).toInt = 9999 := rfl; omega
set_option maxRecDepth 100000 in
set_option maxHeartbeats 4000000 in
theorem jk_seasons (l : Launch) (n : Int32) (h : XH) (hg : sgood vT vR vE 153 6051 h) : ∃ v h', CX l 10 265 false 243 [xf 13 104, xi n] h [xi v] h' ∧ vG ([(104, 2, false), (104, 54, false), (104, 63, false), (104, 64, false), (104, 76, false), (133, 0, true), (134, 0, true), (136, 0, true), (137, 0, true), (138, 0, true), (139, 0, true)], []) h h' ∧ v = (zyr n (xI h 138 0)).1 ∧ xI h' 138 0 = (zyr n (xI h 138 0)).2 := by
  have e_0 : (0 : Int32).toInt = 0 := rfl
  have n0_ : ((Int32.ofInt (0))).toNatClampNeg = 0 := rfl
  by_cases cb1 : n < (Int32.ofInt (0))
  · have e_0 : (Int32.ofInt (0)).toInt = 0 := rfl
    have dcb1 : (n).toInt < (Int32.ofInt (0)).toInt := Int32.lt_iff_toInt_lt.mp cb1
    have t2 : XT l 10 265 false 243 153 6051 0 [xf 13 104, xi n, xun] [] h 30 [xf 13 104, xi n, xun] [xi (Int32.ofInt (-1))] (xsetI h 104 2 (Int32.ofInt (0))) := XT_path (l := l) (fr := 10) (lo := 265) (full := false) (M := 243) (n := 153) (u := 6051) (pc := 0) (L := [xf 13 104, xi n, xun]) (st := []) (h := h) (inl := [192, 177]) (n' := 120) (sp := [30]) (o := [1, 1]) rfl rfl ⟨rfl, rfl, rfl⟩ rfl ⟨Nat.le_of_eq hg.2.2.2.1, Nat.le_of_eq hg.2.2.2.2⟩ ⟨⟨⟨trivial, cb1⟩, (Or.inl rfl)⟩, rfl⟩
    have G : vG ([(104, 2, false), (104, 54, false), (104, 63, false), (104, 64, false), (104, 76, false), (133, 0, true), (134, 0, true), (136, 0, true), (137, 0, true), (138, 0, true), (139, 0, true)], []) h (xsetI h 104 2 (Int32.ofInt (0))) := ((vG.rf hg) : vG ([(104, 2, false), (104, 54, false), (104, 63, false), (104, 64, false), (104, 76, false), (133, 0, true), (134, 0, true), (136, 0, true), (137, 0, true), (138, 0, true), (139, 0, true)], []) h h).set (c := 104) (k := 2) (v := (Int32.ofInt (0))) (show (0 : Int) ≤ _ ∧ _ ≤ 2 from (by decide)) (by decide +kernel) (by decide +kernel) rfl
    have no : ¬ (0 ≤ n.toInt ∧ n.toInt ≤ 99 ∧ (xI h 138 0 + n).toInt ≤ 9999) := fun z => by obtain ⟨z1, z2, z3⟩ := z; revert dcb1; exact zse_n1 z1 z2 z3
    rw [zyr_n no]
    exact ⟨_, _, CX_ofT (h' := (xsetI h 104 2 (Int32.ofInt (0)))) (by decide) rfl rfl trivial ⟨_, _, _, rfl, rfl, rfl⟩ rfl ⟨Nat.le_of_eq hg.2.2.2.1.symm, Nat.le_of_eq hg.2.2.2.2.symm⟩ t2, G, rfl, yI_c (by decide)⟩
  · have e_0 : (Int32.ofInt (0)).toInt = 0 := rfl
    have dcb1 : (Int32.ofInt (0)).toInt ≤ (n).toInt := Int32.le_iff_toInt_le.mp (Int32.not_lt.mp cb1)
    by_cases cb3 : (Int32.ofInt (99)) < n
    · have e_99 : (Int32.ofInt (99)).toInt = 99 := rfl
      have dcb3 : (Int32.ofInt (99)).toInt < (n).toInt := Int32.lt_iff_toInt_lt.mp cb3
      have t4 : XT l 10 265 false 243 153 6051 0 [xf 13 104, xi n, xun] [] h 30 [xf 13 104, xi n, xun] [xi (Int32.ofInt (-1))] (xsetI h 104 2 (Int32.ofInt (0))) := XT_path (l := l) (fr := 10) (lo := 265) (full := false) (M := 243) (n := 153) (u := 6051) (pc := 0) (L := [xf 13 104, xi n, xun]) (st := []) (h := h) (inl := [192, 177]) (n' := 120) (sp := [30]) (o := [0, 1, 1]) rfl rfl ⟨rfl, rfl, rfl⟩ rfl ⟨Nat.le_of_eq hg.2.2.2.1, Nat.le_of_eq hg.2.2.2.2⟩ ⟨⟨⟨⟨trivial, cb1⟩, cb3⟩, (Or.inl rfl)⟩, rfl⟩
      have G : vG ([(104, 2, false), (104, 54, false), (104, 63, false), (104, 64, false), (104, 76, false), (133, 0, true), (134, 0, true), (136, 0, true), (137, 0, true), (138, 0, true), (139, 0, true)], []) h (xsetI h 104 2 (Int32.ofInt (0))) := ((vG.rf hg) : vG ([(104, 2, false), (104, 54, false), (104, 63, false), (104, 64, false), (104, 76, false), (133, 0, true), (134, 0, true), (136, 0, true), (137, 0, true), (138, 0, true), (139, 0, true)], []) h h).set (c := 104) (k := 2) (v := (Int32.ofInt (0))) (show (0 : Int) ≤ _ ∧ _ ≤ 2 from (by decide)) (by decide +kernel) (by decide +kernel) rfl
      have no : ¬ (0 ≤ n.toInt ∧ n.toInt ≤ 99 ∧ (xI h 138 0 + n).toInt ≤ 9999) := fun z => by obtain ⟨z1, z2, z3⟩ := z; revert dcb3; exact zse_n2 z1 z2 z3
      rw [zyr_n no]
      exact ⟨_, _, CX_ofT (h' := (xsetI h 104 2 (Int32.ofInt (0)))) (by decide) rfl rfl trivial ⟨_, _, _, rfl, rfl, rfl⟩ rfl ⟨Nat.le_of_eq hg.2.2.2.1.symm, Nat.le_of_eq hg.2.2.2.2.symm⟩ t4, G, rfl, yI_c (by decide)⟩
    · have e_99 : (Int32.ofInt (99)).toInt = 99 := rfl
      have dcb3 : (n).toInt ≤ (Int32.ofInt (99)).toInt := Int32.le_iff_toInt_le.mp (Int32.not_lt.mp cb3)
      by_cases cb5 : ((xI (xsetI h 104 2 (Int32.ofInt (0))) (xR h 104 60) ((Int32.ofInt (0))).toNatClampNeg) + n) ≤ (Int32.ofInt (9999))
      · have e_0 : (Int32.ofInt (0)).toInt = 0 := rfl
        have e_9999 : (Int32.ofInt (9999)).toInt = 9999 := rfl
        have cb5r := cb5
        rw [vref hg.1 (rfl : vRf 104 60 = [138])] at cb5r
        have dcb5 : ((xI h 138 ((Int32.ofInt (0))).toNatClampNeg) + n).toInt ≤ (Int32.ofInt (9999)).toInt := Int32.le_iff_toInt_le.mp cb5r
        have t6 : XT l 10 265 false 243 153 6051 0 [xf 13 104, xi n, xun] [] h 37 [xf 13 104, xi n, xi (Int32.ofInt (0))] [] (xsetI (xsetI (xsetI h 104 2 (Int32.ofInt (0))) 104 63 (Int32.ofInt (-1))) 104 64 (Int32.ofInt (-1))) := XT_path (l := l) (fr := 10) (lo := 265) (full := false) (M := 243) (n := 153) (u := 6051) (pc := 0) (L := [xf 13 104, xi n, xun]) (st := []) (h := h) (inl := [192, 177]) (n' := 120) (sp := [37]) (o := [0, 0, 0, 1]) rfl rfl ⟨rfl, rfl, rfl⟩ rfl ⟨Nat.le_of_eq hg.2.2.2.1, Nat.le_of_eq hg.2.2.2.2⟩ ⟨⟨⟨⟨⟨⟨⟨trivial, cb1⟩, cb3⟩, (Or.inr rfl)⟩, (show ¬ (Int32.ofInt (1)) = 0 from by decide)⟩, (vnn hg.1 (rfl : vRf 104 60 = [138]) (by decide))⟩, (vp_of (i := (Int32.ofInt (0))) (n := 2) (by decide) (by decide))⟩, cb5⟩
        have w7 : vG ([(104, 2, false), (104, 54, false), (104, 63, false), (104, 64, false), (104, 76, false), (133, 0, true), (134, 0, true), (136, 0, true), (137, 0, true), (138, 0, true), (139, 0, true)], []) h (xsetI h 104 2 (Int32.ofInt (0))) := ((vG.rf hg) : vG ([(104, 2, false), (104, 54, false), (104, 63, false), (104, 64, false), (104, 76, false), (133, 0, true), (134, 0, true), (136, 0, true), (137, 0, true), (138, 0, true), (139, 0, true)], []) h h).set (c := 104) (k := 2) (v := (Int32.ofInt (0))) (show (0 : Int) ≤ _ ∧ _ ≤ 2 from (by decide)) (by decide +kernel) (by decide +kernel) rfl
        have w8 : vG ([(104, 2, false), (104, 54, false), (104, 63, false), (104, 64, false), (104, 76, false), (133, 0, true), (134, 0, true), (136, 0, true), (137, 0, true), (138, 0, true), (139, 0, true)], []) h (xsetI (xsetI h 104 2 (Int32.ofInt (0))) 104 63 (Int32.ofInt (-1))) := (w7 : vG ([(104, 2, false), (104, 54, false), (104, 63, false), (104, 64, false), (104, 76, false), (133, 0, true), (134, 0, true), (136, 0, true), (137, 0, true), (138, 0, true), (139, 0, true)], []) h (xsetI h 104 2 (Int32.ofInt (0)))).set (c := 104) (k := 63) (v := (Int32.ofInt (-1))) (show (-1 : Int) ≤ _ ∧ _ ≤ 4 from (by decide)) (by decide +kernel) (by decide +kernel) rfl
        have G0 : vG ([(104, 2, false), (104, 54, false), (104, 63, false), (104, 64, false), (104, 76, false), (133, 0, true), (134, 0, true), (136, 0, true), (137, 0, true), (138, 0, true), (139, 0, true)], []) h (xsetI (xsetI (xsetI h 104 2 (Int32.ofInt (0))) 104 63 (Int32.ofInt (-1))) 104 64 (Int32.ofInt (-1))) := (w8 : vG ([(104, 2, false), (104, 54, false), (104, 63, false), (104, 64, false), (104, 76, false), (133, 0, true), (134, 0, true), (136, 0, true), (137, 0, true), (138, 0, true), (139, 0, true)], []) h (xsetI (xsetI h 104 2 (Int32.ofInt (0))) 104 63 (Int32.ofInt (-1)))).set (c := 104) (k := 64) (v := (Int32.ofInt (-1))) (show (-2147483648 : Int) ≤ _ ∧ _ ≤ 2147483647 from (by decide)) (by decide +kernel) (by decide +kernel) rfl
        have ok : 0 ≤ n.toInt ∧ n.toInt ≤ 99 ∧ (xI h 138 0 + n).toInt ≤ 9999 := zse_y dcb1 dcb3 dcb5
        rw [zyr_y ok]
        have e138 : xI (xsetI (xsetI (xsetI h 104 2 (Int32.ofInt (0))) 104 63 (Int32.ofInt (-1))) 104 64 (Int32.ofInt (-1))) 138 0 = xI h 138 0 := (yI_c (by decide)).trans ((yI_c (by decide)).trans (yI_c (by decide)))
        obtain ⟨i', h1, z1, G1, s1⟩ := jk_seaL l n ok.2.1 (xsetI (xsetI (xsetI h 104 2 (Int32.ofInt (0))) 104 63 (Int32.ofInt (-1))) 104 64 (Int32.ofInt (-1))) n.toInt.toNat (Int32.ofInt (0)) (xsetI (xsetI (xsetI h 104 2 (Int32.ofInt (0))) 104 63 (Int32.ofInt (-1))) 104 64 (Int32.ofInt (-1))) (vG.rf G0.1) (by decide) (by rw [show (Int32.ofInt (0)).toInt = 0 from rfl]; omega) (by rw [show (Int32.ofInt (0)) = (0 : Int32) from rfl, Int32.add_zero])
        rw [e138] at s1
        have G2 : vG ([(104, 2, false), (104, 54, false), (104, 63, false), (104, 64, false), (104, 76, false), (133, 0, true), (134, 0, true), (136, 0, true), (137, 0, true), (138, 0, true), (139, 0, true)], []) h h1 := G0.tr G1
        have T1 := t6.tr z1
        by_cases cb9 : n ≤ 0
        · have e_0 : (0 : Int32).toInt = 0 := rfl
          have dcb9 : (n).toInt ≤ (0 : Int32).toInt := Int32.le_iff_toInt_le.mp cb9
          have t10 : XT l 10 265 false 243 153 6051 53 [xf 13 104, xi n, xi i'] [] h1 75 [xf 13 104, xi n, xi i'] [xi (xI (xsetI h1 104 76 (xI h1 104 76)) (xR h1 104 60) ((Int32.ofInt (0))).toNatClampNeg)] (xsetI h1 104 76 (xI h1 104 76)) := XT_path (l := l) (fr := 10) (lo := 265) (full := false) (M := 243) (n := 153) (u := 6051) (pc := 53) (L := [xf 13 104, xi n, xi i']) (st := []) (h := h1) (inl := [192, 177]) (n' := 120) (sp := [75]) (o := [1]) rfl rfl ⟨rfl, rfl, rfl⟩ rfl ⟨Nat.le_of_eq G1.1.2.2.2.1, Nat.le_of_eq G1.1.2.2.2.2⟩ ⟨⟨⟨trivial, cb9⟩, (vnn G1.1.1 (rfl : vRf 104 60 = [138]) (by decide))⟩, (vp_of (i := (Int32.ofInt (0))) (n := 2) (by decide) (by decide))⟩
          rw [vref G1.1.1 (rfl : vRf 104 60 = [138])] at t10
          have t11 : XT l 10 265 false 243 153 6051 53 [xf 13 104, xi n, xi i'] [] h1 75 [xf 13 104, xi n, xi i'] [xi (xI h1 138 ((Int32.ofInt (0))).toNatClampNeg)] (xsetI h1 104 76 (xI h1 104 76)) := t10
          have t12 := T1.tr t11
          have b76 : 0 ≤ (xI h1 104 76).toInt ∧ (xI h1 104 76).toInt ≤ 20 := vbnd G2.1.1 104 76
          have G : vG ([(104, 2, false), (104, 54, false), (104, 63, false), (104, 64, false), (104, 76, false), (133, 0, true), (134, 0, true), (136, 0, true), (137, 0, true), (138, 0, true), (139, 0, true)], []) h (xsetI h1 104 76 (xI h1 104 76)) := (G2 : vG ([(104, 2, false), (104, 54, false), (104, 63, false), (104, 64, false), (104, 76, false), (133, 0, true), (134, 0, true), (136, 0, true), (137, 0, true), (138, 0, true), (139, 0, true)], []) h h1).set (c := 104) (k := 76) (v := (xI h1 104 76)) (show (0 : Int) ≤ _ ∧ _ ≤ 20 from ⟨by omega, by omega⟩) (by decide +kernel) (by decide +kernel) rfl
          have k1 : xI (xsetI h1 104 76 (xI h1 104 76)) 138 0 = xI h 138 0 + n := (yI_c (by decide)).trans s1
          exact ⟨_, _, CX_ofT (h' := (xsetI h1 104 76 (xI h1 104 76))) (by decide) rfl rfl trivial ⟨_, _, _, rfl, rfl, rfl⟩ rfl ⟨Nat.le_of_eq G1.1.2.2.2.1.symm, Nat.le_of_eq G1.1.2.2.2.2.symm⟩ t12, G, k1, k1⟩
        · have e_0 : (0 : Int32).toInt = 0 := rfl
          have dcb9 : (0 : Int32).toInt < (n).toInt := Int32.lt_iff_toInt_lt.mp (Int32.not_le.mp cb9)
          have t13 : XT l 10 265 false 243 153 6051 53 [xf 13 104, xi n, xi i'] [] h1 75 [xf 13 104, xi n, xi i'] [xi (xI (xsetI h1 104 76 (Int32.ofInt (0))) (xR h1 104 60) ((Int32.ofInt (0))).toNatClampNeg)] (xsetI h1 104 76 (Int32.ofInt (0))) := XT_path (l := l) (fr := 10) (lo := 265) (full := false) (M := 243) (n := 153) (u := 6051) (pc := 53) (L := [xf 13 104, xi n, xi i']) (st := []) (h := h1) (inl := [192, 177]) (n' := 120) (sp := [75]) (o := [0]) rfl rfl ⟨rfl, rfl, rfl⟩ rfl ⟨Nat.le_of_eq G1.1.2.2.2.1, Nat.le_of_eq G1.1.2.2.2.2⟩ ⟨⟨⟨trivial, cb9⟩, (vnn G1.1.1 (rfl : vRf 104 60 = [138]) (by decide))⟩, (vp_of (i := (Int32.ofInt (0))) (n := 2) (by decide) (by decide))⟩
          rw [vref G1.1.1 (rfl : vRf 104 60 = [138])] at t13
          have t14 : XT l 10 265 false 243 153 6051 53 [xf 13 104, xi n, xi i'] [] h1 75 [xf 13 104, xi n, xi i'] [xi (xI h1 138 ((Int32.ofInt (0))).toNatClampNeg)] (xsetI h1 104 76 (Int32.ofInt (0))) := t13
          have t15 := T1.tr t14
          have b76 : 0 ≤ (xI h1 104 76).toInt ∧ (xI h1 104 76).toInt ≤ 20 := vbnd G2.1.1 104 76
          have G : vG ([(104, 2, false), (104, 54, false), (104, 63, false), (104, 64, false), (104, 76, false), (133, 0, true), (134, 0, true), (136, 0, true), (137, 0, true), (138, 0, true), (139, 0, true)], []) h (xsetI h1 104 76 (Int32.ofInt (0))) := (G2 : vG ([(104, 2, false), (104, 54, false), (104, 63, false), (104, 64, false), (104, 76, false), (133, 0, true), (134, 0, true), (136, 0, true), (137, 0, true), (138, 0, true), (139, 0, true)], []) h h1).set (c := 104) (k := 76) (v := (Int32.ofInt (0))) (show (0 : Int) ≤ _ ∧ _ ≤ 20 from (by decide)) (by decide +kernel) (by decide +kernel) rfl
          have k1 : xI (xsetI h1 104 76 (Int32.ofInt (0))) 138 0 = xI h 138 0 + n := (yI_c (by decide)).trans s1
          exact ⟨_, _, CX_ofT (h' := (xsetI h1 104 76 (Int32.ofInt (0)))) (by decide) rfl rfl trivial ⟨_, _, _, rfl, rfl, rfl⟩ rfl ⟨Nat.le_of_eq G1.1.2.2.2.1.symm, Nat.le_of_eq G1.1.2.2.2.2.symm⟩ t15, G, k1, k1⟩
      · have e_0 : (Int32.ofInt (0)).toInt = 0 := rfl
        have e_9999 : (Int32.ofInt (9999)).toInt = 9999 := rfl
        have cb5r := cb5
        rw [vref hg.1 (rfl : vRf 104 60 = [138])] at cb5r
        have dcb5 : (Int32.ofInt (9999)).toInt < ((xI h 138 ((Int32.ofInt (0))).toNatClampNeg) + n).toInt := Int32.lt_iff_toInt_lt.mp (Int32.not_le.mp cb5r)
        have t16 : XT l 10 265 false 243 153 6051 0 [xf 13 104, xi n, xun] [] h 30 [xf 13 104, xi n, xun] [xi (Int32.ofInt (-1))] (xsetI h 104 2 (Int32.ofInt (0))) := XT_path (l := l) (fr := 10) (lo := 265) (full := false) (M := 243) (n := 153) (u := 6051) (pc := 0) (L := [xf 13 104, xi n, xun]) (st := []) (h := h) (inl := [192, 177]) (n' := 120) (sp := [30]) (o := [0, 0, 0, 0]) rfl rfl ⟨rfl, rfl, rfl⟩ rfl ⟨Nat.le_of_eq hg.2.2.2.1, Nat.le_of_eq hg.2.2.2.2⟩ ⟨⟨⟨⟨⟨⟨⟨trivial, cb1⟩, cb3⟩, (Or.inr rfl)⟩, (show ¬ (Int32.ofInt (1)) = 0 from by decide)⟩, (vnn hg.1 (rfl : vRf 104 60 = [138]) (by decide))⟩, (vp_of (i := (Int32.ofInt (0))) (n := 2) (by decide) (by decide))⟩, cb5⟩
        have G : vG ([(104, 2, false), (104, 54, false), (104, 63, false), (104, 64, false), (104, 76, false), (133, 0, true), (134, 0, true), (136, 0, true), (137, 0, true), (138, 0, true), (139, 0, true)], []) h (xsetI h 104 2 (Int32.ofInt (0))) := ((vG.rf hg) : vG ([(104, 2, false), (104, 54, false), (104, 63, false), (104, 64, false), (104, 76, false), (133, 0, true), (134, 0, true), (136, 0, true), (137, 0, true), (138, 0, true), (139, 0, true)], []) h h).set (c := 104) (k := 2) (v := (Int32.ofInt (0))) (show (0 : Int) ≤ _ ∧ _ ≤ 2 from (by decide)) (by decide +kernel) (by decide +kernel) rfl
        have no : ¬ (0 ≤ n.toInt ∧ n.toInt ≤ 99 ∧ (xI h 138 0 + n).toInt ≤ 9999) := fun z => by obtain ⟨z1, z2, z3⟩ := z; revert dcb5; exact zse_n3 z1 z2 z3
        rw [zyr_n no]
        exact ⟨_, _, CX_ofT (h' := (xsetI h 104 2 (Int32.ofInt (0)))) (by decide) rfl rfl trivial ⟨_, _, _, rfl, rfl, rfl⟩ rfl ⟨Nat.le_of_eq hg.2.2.2.1.symm, Nat.le_of_eq hg.2.2.2.2.symm⟩ t16, G, rfl, yI_c (by decide)⟩
