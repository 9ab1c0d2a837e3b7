/-! PAIRS BY HAND: names laid, what is gained, yielded, how long a way takes. -/
theorem vqp_77 (l : Launch) (hs : XH) (x0 : Int32) (x1 : Int32) (h h2 : XH) (hg : sgood vT vR (vEs hs) 153 6051 h) (hg2 : sgood vT vR (vEs hs) 153 6051 h2) (P : XLP) (ha : sAg vD P h h2) (a0 : 0 ≤ x0.toInt ∧ x0.toInt ≤ 1) (a1 : 0 ≤ x1.toInt ∧ x1.toInt ≤ 5) : ∃ (v : Int32) (n1 n2 : XH), CX l 0 0 false 220 [xf 13 104, xi x0, xi x1] h [xi v] n1 ∧ CX l 0 0 false 220 [xf 13 104, xi x0, xi x1] h2 [xi v] n2 ∧ sgood vT vR (vEs hs) 153 6051 n1 ∧ sgood vT vR (vEs hs) 153 6051 n2 ∧ sframe ([], []) h n1 ∧ sframe ([], []) h2 n2 ∧ sAg vD P n1 n2 ∧ (((-2147483648) ≤ v.toInt ∧ v.toInt ≤ 2147483647)) := by
  obtain ⟨ρ, rs, n1, n2, hv, c1, c2, ⟨g1, f1, cs, hcs, k⟩, ⟨g2, f2, -⟩, ag⟩ := vp_77 l hs P [xf 13 104, xi x0, xi x1] h h2 ⟨rfl, a0, a1, trivial⟩ hg hg2 ha (fun q hq => absurd hq List.not_mem_nil) (fun q hq => absurd hq List.not_mem_nil) (fun ρ hρ g hg' => absurd hg' List.not_mem_nil)
  rcases List.mem_cons.mp hcs with rfl | hcs
  · obtain ⟨v, rfl, kv⟩ := sres_i k.2.2.1
    exact ⟨v, n1, n2, c1, c2, g1, g2, f1, f2, ag, kv⟩
  exact absurd hcs List.not_mem_nil
theorem vqp_80 (l : Launch) (hs : XH) (x0 : Int32) (x1 : Int32) (h h2 : XH) (hg : sgood vT vR (vEs hs) 153 6051 h) (hg2 : sgood vT vR (vEs hs) 153 6051 h2) (P : XLP) (ha : sAg vD P h h2) (a0 : 0 ≤ x0.toInt ∧ x0.toInt ≤ 1) (a1 : 0 ≤ x1.toInt ∧ x1.toInt ≤ 5) : ∃ (v : Int32) (n1 n2 : XH), CX l 2 45 false 221 [xf 13 104, xi x0, xi x1] h [xi v] n1 ∧ CX l 2 45 false 221 [xf 13 104, xi x0, xi x1] h2 [xi v] n2 ∧ sgood vT vR (vEs hs) 153 6051 n1 ∧ sgood vT vR (vEs hs) 153 6051 n2 ∧ sframe ([], []) h n1 ∧ sframe ([], []) h2 n2 ∧ sAg vD P n1 n2 ∧ (((-2147483648) ≤ v.toInt ∧ v.toInt ≤ 2147483647)) := by
  obtain ⟨ρ, rs, n1, n2, hv, c1, c2, ⟨g1, f1, cs, hcs, k⟩, ⟨g2, f2, -⟩, ag⟩ := vp_80 l hs P [xf 13 104, xi x0, xi x1] h h2 ⟨rfl, a0, a1, trivial⟩ hg hg2 ha (fun q hq => absurd hq List.not_mem_nil) (fun q hq => absurd hq List.not_mem_nil) (fun ρ hρ g hg' => absurd hg' List.not_mem_nil)
  rcases List.mem_cons.mp hcs with rfl | hcs
  · obtain ⟨v, rfl, kv⟩ := sres_i k.2.2.1
    exact ⟨v, n1, n2, c1, c2, g1, g2, f1, f2, ag, kv⟩
  exact absurd hcs List.not_mem_nil
theorem sgS_L {hs h : XH} {c k : Nat} {v : Int64} (hg : sgood vT vR (vEs hs) 153 6051 h) : sgood vT vR (vEs hs) 153 6051 (xsetL h c k v) := ⟨hg.1, hg.2.1, (vtabs hs).2.2.2 h _ (fun _ _ _ => rfl) hg.2.2.1, hg.2.2.2⟩
theorem sAg_P {D : SWl} {P Q : XLP} {h h2 : XH} (ha : sAg D P h h2) (hq : Q (xL h) (xL h2)) : sAg D Q h h2 := ⟨ha.1, ha.2.1, hq⟩
theorem sAg_L {D : SWl} {P Q : XLP} {h h2 : XH} {c k c' k' : Nat} {v w : Int64} (ha : sAg D P h h2) (hq : Q (xL (xsetL h c k v)) (xL (xsetL h2 c' k' w))) : sAg D Q (xsetL h c k v) (xsetL h2 c' k' w) := ⟨ha.1, ha.2.1, hq⟩
/-- ints and references as they were -/
def vSm2 (h g : XH) : Prop := (∀ c k, xI g c k = xI h c k) ∧ (∀ c k, xR g c k = xR h c k)
theorem vSm2_f {h g : XH} (f : sframe ([], []) h g) : vSm2 h g := ⟨fun c k => f.1 c k rfl, fun c k => f.2 c k rfl⟩
/-- the names that two heaps have in common, up to n -/
def vNu (n : Nat) : XLP := fun a b => ∀ j, j < n → a 131 j = b 131 j
theorem vNu_s {n : Nat} {h h2 : XH} {v : Int64} (H : vNu n (xL h) (xL h2)) : vNu (n + 1) (xL (xsetL h 131 n v)) (xL (xsetL h2 131 n v)) := fun j hj => by
  by_cases e : j = n
  · rw [e, yL_same, yL_same]
  · rw [yL_ne (eq_false (fun z => e z.2)), yL_ne (eq_false (fun z => e z.2))]
    exact H j (by omega)
set_option maxRecDepth 100000 in
set_option maxHeartbeats 2000000 in
theorem vp_names (l : Launch) (hs : XH) (b r s1 sz ar ln : Int32) (h h2 : XH) (hg : sgood vT vR (vEs hs) 153 6051 h) (hg2 : sgood vT vR (vEs hs) 153 6051 h2) (ha : sAg vD (fun _ _ => True) h h2) (b0 : 0 ≤ b.toInt ∧ b.toInt ≤ 1) (r0 : 0 ≤ r.toInt ∧ r.toInt ≤ 5) : ∃ g g2, CX l 3 69 false 219 [xf 13 104, xi b, xi r, xi s1, xi sz, xi ar, xi ln] h [] g ∧ CX l 3 69 false 219 [xf 13 104, xi b, xi r, xi s1, xi sz, xi ar, xi ln] h2 [] g2 ∧ sgood vT vR (vEs hs) 153 6051 g ∧ sgood vT vR (vEs hs) 153 6051 g2 ∧ vSm2 h g ∧ vSm2 h2 g2 ∧ sAg vD (vNu 7) g g2 := by
  have t1 : XT l 3 69 false 219 153 6051 0 [xf 13 104, xi b, xi r, xi s1, xi sz, xi ar, xi ln] [] h 43 [xf 13 104, xi b, xi r, xi s1, xi sz, xi ar, xi ln] [xi r, xi b, xf 13 104, xi (Int32.ofInt (4)), xf 40007 (xR h 104 52)] (xsetL (xsetL (xsetL (xsetL h (xR h 104 52) ((Int32.ofInt (0))).toNatClampNeg (s1).toInt64) (xR h 104 52) ((Int32.ofInt (1))).toNatClampNeg (sz).toInt64) (xR h 104 52) ((Int32.ofInt (2))).toNatClampNeg (ar).toInt64) (xR h 104 52) ((Int32.ofInt (3))).toNatClampNeg (ln).toInt64) := XT_path (l := l) (fr := 3) (lo := 69) (full := false) (M := 219) (n := 153) (u := 6051) (pc := 0) (L := [xf 13 104, xi b, xi r, xi s1, xi sz, xi ar, xi ln]) (st := []) (h := h) (inl := []) (n' := 80) (sp := [43]) (o := []) rfl rfl ⟨rfl, rfl, rfl⟩ rfl ⟨Nat.le_of_eq hg.2.2.2.1, Nat.le_of_eq hg.2.2.2.2⟩ ⟨⟨⟨⟨⟨⟨⟨⟨⟨trivial, (vnn hg.1 (rfl : vRf 104 52 = [131]) (by decide))⟩, (vp_of (i := (Int32.ofInt (0))) (n := 7) (by decide) (by decide))⟩, (vnn hg.1 (rfl : vRf 104 52 = [131]) (by decide))⟩, (vp_of (i := (Int32.ofInt (1))) (n := 7) (by decide) (by decide))⟩, (vnn hg.1 (rfl : vRf 104 52 = [131]) (by decide))⟩, (vp_of (i := (Int32.ofInt (2))) (n := 7) (by decide) (by decide))⟩, (vnn hg.1 (rfl : vRf 104 52 = [131]) (by decide))⟩, (vp_of (i := (Int32.ofInt (3))) (n := 7) (by decide) (by decide))⟩, (vnn hg.1 (rfl : vRf 104 52 = [131]) (by decide))⟩
  rw [vref hg.1 (rfl : vRf 104 52 = [131])] at t1
  have t1' : XT l 3 69 false 219 153 6051 0 [xf 13 104, xi b, xi r, xi s1, xi sz, xi ar, xi ln] [] h2 43 [xf 13 104, xi b, xi r, xi s1, xi sz, xi ar, xi ln] [xi r, xi b, xf 13 104, xi (Int32.ofInt (4)), xf 40007 (xR h2 104 52)] (xsetL (xsetL (xsetL (xsetL h2 (xR h2 104 52) ((Int32.ofInt (0))).toNatClampNeg (s1).toInt64) (xR h2 104 52) ((Int32.ofInt (1))).toNatClampNeg (sz).toInt64) (xR h2 104 52) ((Int32.ofInt (2))).toNatClampNeg (ar).toInt64) (xR h2 104 52) ((Int32.ofInt (3))).toNatClampNeg (ln).toInt64) := XT_path (l := l) (fr := 3) (lo := 69) (full := false) (M := 219) (n := 153) (u := 6051) (pc := 0) (L := [xf 13 104, xi b, xi r, xi s1, xi sz, xi ar, xi ln]) (st := []) (h := h2) (inl := []) (n' := 80) (sp := [43]) (o := []) rfl rfl ⟨rfl, rfl, rfl⟩ rfl ⟨Nat.le_of_eq hg2.2.2.2.1, Nat.le_of_eq hg2.2.2.2.2⟩ ⟨⟨⟨⟨⟨⟨⟨⟨⟨trivial, (vnn hg2.1 (rfl : vRf 104 52 = [131]) (by decide))⟩, (vp_of (i := (Int32.ofInt (0))) (n := 7) (by decide) (by decide))⟩, (vnn hg2.1 (rfl : vRf 104 52 = [131]) (by decide))⟩, (vp_of (i := (Int32.ofInt (1))) (n := 7) (by decide) (by decide))⟩, (vnn hg2.1 (rfl : vRf 104 52 = [131]) (by decide))⟩, (vp_of (i := (Int32.ofInt (2))) (n := 7) (by decide) (by decide))⟩, (vnn hg2.1 (rfl : vRf 104 52 = [131]) (by decide))⟩, (vp_of (i := (Int32.ofInt (3))) (n := 7) (by decide) (by decide))⟩, (vnn hg2.1 (rfl : vRf 104 52 = [131]) (by decide))⟩
  rw [vref hg2.1 (rfl : vRf 104 52 = [131])] at t1'
  obtain ⟨kA, eA⟩ : ∃ x, x = (xsetL (xsetL (xsetL (xsetL h 131 ((Int32.ofInt (0))).toNatClampNeg (s1).toInt64) 131 ((Int32.ofInt (1))).toNatClampNeg (sz).toInt64) 131 ((Int32.ofInt (2))).toNatClampNeg (ar).toInt64) 131 ((Int32.ofInt (3))).toNatClampNeg (ln).toInt64) := ⟨_, rfl⟩
  rw [← eA] at t1
  obtain ⟨kA2, eA2⟩ : ∃ x, x = (xsetL (xsetL (xsetL (xsetL h2 131 ((Int32.ofInt (0))).toNatClampNeg (s1).toInt64) 131 ((Int32.ofInt (1))).toNatClampNeg (sz).toInt64) 131 ((Int32.ofInt (2))).toNatClampNeg (ar).toInt64) 131 ((Int32.ofInt (3))).toNatClampNeg (ln).toInt64) := ⟨_, rfl⟩
  rw [← eA2] at t1'
  have gA : sgood vT vR (vEs hs) 153 6051 kA := by rw [eA]; exact sgS_L (sgS_L (sgS_L (sgS_L hg)))
  have gA2 : sgood vT vR (vEs hs) 153 6051 kA2 := by rw [eA2]; exact sgS_L (sgS_L (sgS_L (sgS_L hg2)))
  have mA : vSm2 h kA := by rw [eA]; exact ⟨fun _ _ => rfl, fun _ _ => rfl⟩
  have mA2 : vSm2 h2 kA2 := by rw [eA2]; exact ⟨fun _ _ => rfl, fun _ _ => rfl⟩
  have aA : sAg vD (vNu 4) kA kA2 := by rw [eA, eA2]; exact ⟨ha.1, ha.2.1, vNu_s (n := 3) (vNu_s (n := 2) (vNu_s (n := 1) (vNu_s (n := 0) (fun j hj => absurd hj (Nat.not_lt_zero j)))))⟩
  obtain ⟨c, kB, kB2, cB, cB2, gB, gB2, fB, fB2, aB, -⟩ := vqp_77 l hs b r kA kA2 gA gA2 (vNu 4) aA b0 r0
  have t2 : XT l 3 69 false 219 153 6051 43 [xf 13 104, xi b, xi r, xi s1, xi sz, xi ar, xi ln] [xi r, xi b, xf 13 104, xi (Int32.ofInt (4)), xf 40007 131] kA 46 [xf 13 104, xi b, xi r, xi s1, xi sz, xi ar, xi ln] [xi c, xi (Int32.ofInt (4)), xf 40007 131] kB := XT_call (l := l) (fr := 3) (lo := 69) (full := false) (M := 219) (n := 153) (u := 6051) (pc := 43) (L := [xf 13 104, xi b, xi r, xi s1, xi sz, xi ar, xi ln]) (st := [xi r, xi b, xf 13 104, xi (Int32.ofInt (4)), xf 40007 131]) (h := kA) (i := .invokevirtual 220) (aux := 3) (nx := 46) (K := 220) (vs := [xf 13 104, xi b, xi r]) (rs := [xi c]) (rest := [xi (Int32.ofInt (4)), xf 40007 131]) rfl rfl rfl rfl rfl rfl cB (by decide) (by decide) (Nat.le_of_ble_eq_true rfl) ⟨Nat.le_of_eq gB.2.2.2.1, Nat.le_of_eq gB.2.2.2.2⟩
  have t3 := t1.tr t2
  have t2' : XT l 3 69 false 219 153 6051 43 [xf 13 104, xi b, xi r, xi s1, xi sz, xi ar, xi ln] [xi r, xi b, xf 13 104, xi (Int32.ofInt (4)), xf 40007 131] kA2 46 [xf 13 104, xi b, xi r, xi s1, xi sz, xi ar, xi ln] [xi c, xi (Int32.ofInt (4)), xf 40007 131] kB2 := XT_call (l := l) (fr := 3) (lo := 69) (full := false) (M := 219) (n := 153) (u := 6051) (pc := 43) (L := [xf 13 104, xi b, xi r, xi s1, xi sz, xi ar, xi ln]) (st := [xi r, xi b, xf 13 104, xi (Int32.ofInt (4)), xf 40007 131]) (h := kA2) (i := .invokevirtual 220) (aux := 3) (nx := 46) (K := 220) (vs := [xf 13 104, xi b, xi r]) (rs := [xi c]) (rest := [xi (Int32.ofInt (4)), xf 40007 131]) rfl rfl rfl rfl rfl rfl cB2 (by decide) (by decide) (Nat.le_of_ble_eq_true rfl) ⟨Nat.le_of_eq gB2.2.2.2.1, Nat.le_of_eq gB2.2.2.2.2⟩
  have t3' := t1'.tr t2'
  have t4 : XT l 3 69 false 219 153 6051 46 [xf 13 104, xi b, xi r, xi s1, xi sz, xi ar, xi ln] [xi c, xi (Int32.ofInt (4)), xf 40007 131] kB 56 [xf 13 104, xi b, xi r, xi s1, xi sz, xi ar, xi ln] [xi r, xi b, xf 13 104, xi (Int32.ofInt (5)), xf 40007 (xR kB 104 52)] (xsetL kB 131 ((Int32.ofInt (4))).toNatClampNeg (c).toInt64) := XT_path (l := l) (fr := 3) (lo := 69) (full := false) (M := 219) (n := 153) (u := 6051) (pc := 46) (L := [xf 13 104, xi b, xi r, xi s1, xi sz, xi ar, xi ln]) (st := [xi c, xi (Int32.ofInt (4)), xf 40007 131]) (h := kB) (inl := []) (n' := 80) (sp := [56]) (o := []) rfl rfl ⟨rfl, rfl, rfl⟩ rfl ⟨Nat.le_of_eq gB.2.2.2.1, Nat.le_of_eq gB.2.2.2.2⟩ ⟨⟨trivial, (vp_of (i := (Int32.ofInt (4))) (n := 7) (by decide) (by decide))⟩, (vnn gB.1 (rfl : vRf 104 52 = [131]) (by decide))⟩
  rw [vref gB.1 (rfl : vRf 104 52 = [131])] at t4
  have t5 := t3.tr t4
  have t4' : XT l 3 69 false 219 153 6051 46 [xf 13 104, xi b, xi r, xi s1, xi sz, xi ar, xi ln] [xi c, xi (Int32.ofInt (4)), xf 40007 131] kB2 56 [xf 13 104, xi b, xi r, xi s1, xi sz, xi ar, xi ln] [xi r, xi b, xf 13 104, xi (Int32.ofInt (5)), xf 40007 (xR kB2 104 52)] (xsetL kB2 131 ((Int32.ofInt (4))).toNatClampNeg (c).toInt64) := XT_path (l := l) (fr := 3) (lo := 69) (full := false) (M := 219) (n := 153) (u := 6051) (pc := 46) (L := [xf 13 104, xi b, xi r, xi s1, xi sz, xi ar, xi ln]) (st := [xi c, xi (Int32.ofInt (4)), xf 40007 131]) (h := kB2) (inl := []) (n' := 80) (sp := [56]) (o := []) rfl rfl ⟨rfl, rfl, rfl⟩ rfl ⟨Nat.le_of_eq gB2.2.2.2.1, Nat.le_of_eq gB2.2.2.2.2⟩ ⟨⟨trivial, (vp_of (i := (Int32.ofInt (4))) (n := 7) (by decide) (by decide))⟩, (vnn gB2.1 (rfl : vRf 104 52 = [131]) (by decide))⟩
  rw [vref gB2.1 (rfl : vRf 104 52 = [131])] at t4'
  have t5' := t3'.tr t4'
  obtain ⟨kC, eC⟩ : ∃ x, x = (xsetL kB 131 ((Int32.ofInt (4))).toNatClampNeg (c).toInt64) := ⟨_, rfl⟩
  rw [← eC] at t5
  obtain ⟨kC2, eC2⟩ : ∃ x, x = (xsetL kB2 131 ((Int32.ofInt (4))).toNatClampNeg (c).toInt64) := ⟨_, rfl⟩
  rw [← eC2] at t5'
  have gC : sgood vT vR (vEs hs) 153 6051 kC := by rw [eC]; exact sgS_L gB
  have gC2 : sgood vT vR (vEs hs) 153 6051 kC2 := by rw [eC2]; exact sgS_L gB2
  have mC : vSm2 h kC := by rw [eC]; exact ⟨fun c k => ((vSm2_f fB).1 c k).trans (mA.1 c k), fun c k => ((vSm2_f fB).2 c k).trans (mA.2 c k)⟩
  have mC2 : vSm2 h2 kC2 := by rw [eC2]; exact ⟨fun c k => ((vSm2_f fB2).1 c k).trans (mA2.1 c k), fun c k => ((vSm2_f fB2).2 c k).trans (mA2.2 c k)⟩
  have aC : sAg vD (vNu 5) kC kC2 := by rw [eC, eC2]; exact ⟨aB.1, aB.2.1, vNu_s (n := 4) aB.2.2⟩
  obtain ⟨d, kD, kD2, cD, cD2, gD, gD2, fD, fD2, aD, -⟩ := vqp_80 l hs b r kC kC2 gC gC2 (vNu 5) aC b0 r0
  have t6 : XT l 3 69 false 219 153 6051 56 [xf 13 104, xi b, xi r, xi s1, xi sz, xi ar, xi ln] [xi r, xi b, xf 13 104, xi (Int32.ofInt (5)), xf 40007 131] kC 59 [xf 13 104, xi b, xi r, xi s1, xi sz, xi ar, xi ln] [xi d, xi (Int32.ofInt (5)), xf 40007 131] kD := XT_call (l := l) (fr := 3) (lo := 69) (full := false) (M := 219) (n := 153) (u := 6051) (pc := 56) (L := [xf 13 104, xi b, xi r, xi s1, xi sz, xi ar, xi ln]) (st := [xi r, xi b, xf 13 104, xi (Int32.ofInt (5)), xf 40007 131]) (h := kC) (i := .invokevirtual 221) (aux := 3) (nx := 59) (K := 221) (vs := [xf 13 104, xi b, xi r]) (rs := [xi d]) (rest := [xi (Int32.ofInt (5)), xf 40007 131]) rfl rfl rfl rfl rfl rfl cD (by decide) (by decide) (Nat.le_of_ble_eq_true rfl) ⟨Nat.le_of_eq gD.2.2.2.1, Nat.le_of_eq gD.2.2.2.2⟩
  have t7 := t5.tr t6
  have t6' : XT l 3 69 false 219 153 6051 56 [xf 13 104, xi b, xi r, xi s1, xi sz, xi ar, xi ln] [xi r, xi b, xf 13 104, xi (Int32.ofInt (5)), xf 40007 131] kC2 59 [xf 13 104, xi b, xi r, xi s1, xi sz, xi ar, xi ln] [xi d, xi (Int32.ofInt (5)), xf 40007 131] kD2 := XT_call (l := l) (fr := 3) (lo := 69) (full := false) (M := 219) (n := 153) (u := 6051) (pc := 56) (L := [xf 13 104, xi b, xi r, xi s1, xi sz, xi ar, xi ln]) (st := [xi r, xi b, xf 13 104, xi (Int32.ofInt (5)), xf 40007 131]) (h := kC2) (i := .invokevirtual 221) (aux := 3) (nx := 59) (K := 221) (vs := [xf 13 104, xi b, xi r]) (rs := [xi d]) (rest := [xi (Int32.ofInt (5)), xf 40007 131]) rfl rfl rfl rfl rfl rfl cD2 (by decide) (by decide) (Nat.le_of_ble_eq_true rfl) ⟨Nat.le_of_eq gD2.2.2.2.1, Nat.le_of_eq gD2.2.2.2.2⟩
  have t7' := t5'.tr t6'
  have t8 : XT l 3 69 false 219 153 6051 59 [xf 13 104, xi b, xi r, xi s1, xi sz, xi ar, xi ln] [xi d, xi (Int32.ofInt (5)), xf 40007 131] kD 75 [xf 13 104, xi b, xi r, xi s1, xi sz, xi ar, xi ln] [] (xsetL (xsetL kD 131 ((Int32.ofInt (5))).toNatClampNeg (d).toInt64) (xR kD 104 52) ((Int32.ofInt (6))).toNatClampNeg ((xI (xsetL kD 131 ((Int32.ofInt (5))).toNatClampNeg (d).toInt64) (xR kD 104 60) (b).toNatClampNeg)).toInt64) := XT_path (l := l) (fr := 3) (lo := 69) (full := false) (M := 219) (n := 153) (u := 6051) (pc := 59) (L := [xf 13 104, xi b, xi r, xi s1, xi sz, xi ar, xi ln]) (st := [xi d, xi (Int32.ofInt (5)), xf 40007 131]) (h := kD) (inl := []) (n' := 80) (sp := [75]) (o := []) rfl rfl ⟨rfl, rfl, rfl⟩ rfl ⟨Nat.le_of_eq gD.2.2.2.1, Nat.le_of_eq gD.2.2.2.2⟩ ⟨⟨⟨⟨⟨trivial, (vp_of (i := (Int32.ofInt (5))) (n := 7) (by decide) (by decide))⟩, (vnn gD.1 (rfl : vRf 104 52 = [131]) (by decide))⟩, (vnn gD.1 (rfl : vRf 104 60 = [138]) (by decide))⟩, (vp_of (i := b) (n := 2) (by omega) (by omega))⟩, (vp_of (i := (Int32.ofInt (6))) (n := 7) (by decide) (by decide))⟩
  rw [vref gD.1 (rfl : vRf 104 52 = [131]), vref gD.1 (rfl : vRf 104 60 = [138])] at t8
  have t9 := t7.tr t8
  have t8' : XT l 3 69 false 219 153 6051 59 [xf 13 104, xi b, xi r, xi s1, xi sz, xi ar, xi ln] [xi d, xi (Int32.ofInt (5)), xf 40007 131] kD2 75 [xf 13 104, xi b, xi r, xi s1, xi sz, xi ar, xi ln] [] (xsetL (xsetL kD2 131 ((Int32.ofInt (5))).toNatClampNeg (d).toInt64) (xR kD2 104 52) ((Int32.ofInt (6))).toNatClampNeg ((xI (xsetL kD2 131 ((Int32.ofInt (5))).toNatClampNeg (d).toInt64) (xR kD2 104 60) (b).toNatClampNeg)).toInt64) := XT_path (l := l) (fr := 3) (lo := 69) (full := false) (M := 219) (n := 153) (u := 6051) (pc := 59) (L := [xf 13 104, xi b, xi r, xi s1, xi sz, xi ar, xi ln]) (st := [xi d, xi (Int32.ofInt (5)), xf 40007 131]) (h := kD2) (inl := []) (n' := 80) (sp := [75]) (o := []) rfl rfl ⟨rfl, rfl, rfl⟩ rfl ⟨Nat.le_of_eq gD2.2.2.2.1, Nat.le_of_eq gD2.2.2.2.2⟩ ⟨⟨⟨⟨⟨trivial, (vp_of (i := (Int32.ofInt (5))) (n := 7) (by decide) (by decide))⟩, (vnn gD2.1 (rfl : vRf 104 52 = [131]) (by decide))⟩, (vnn gD2.1 (rfl : vRf 104 60 = [138]) (by decide))⟩, (vp_of (i := b) (n := 2) (by omega) (by omega))⟩, (vp_of (i := (Int32.ofInt (6))) (n := 7) (by decide) (by decide))⟩
  rw [vref gD2.1 (rfl : vRf 104 52 = [131]), vref gD2.1 (rfl : vRf 104 60 = [138])] at t8'
  have t9' := t7'.tr t8'
  obtain ⟨kF, eF⟩ : ∃ x, x = (xsetL (xsetL kD 131 ((Int32.ofInt (5))).toNatClampNeg (d).toInt64) 131 ((Int32.ofInt (6))).toNatClampNeg ((xI (xsetL kD 131 ((Int32.ofInt (5))).toNatClampNeg (d).toInt64) 138 (b).toNatClampNeg)).toInt64) := ⟨_, rfl⟩
  rw [← eF] at t9
  obtain ⟨kF2, eF2⟩ : ∃ x, x = (xsetL (xsetL kD2 131 ((Int32.ofInt (5))).toNatClampNeg (d).toInt64) 131 ((Int32.ofInt (6))).toNatClampNeg ((xI (xsetL kD2 131 ((Int32.ofInt (5))).toNatClampNeg (d).toInt64) 138 (b).toNatClampNeg)).toInt64) := ⟨_, rfl⟩
  rw [← eF2] at t9'
  have gF : sgood vT vR (vEs hs) 153 6051 kF := by rw [eF]; exact sgS_L (sgS_L gD)
  have gF2 : sgood vT vR (vEs hs) 153 6051 kF2 := by rw [eF2]; exact sgS_L (sgS_L gD2)
  have e6 : xI kD 138 b.toNatClampNeg = xI kD2 138 b.toNatClampNeg := aD.1 _ _ rfl (by show b.toInt.toNat < 2; omega)
  have aF : sAg vD (vNu 7) kF kF2 := by
    rw [eF, eF2]
    refine ⟨aD.1, aD.2.1, ?_⟩
    have z := vNu_s (n := 6) (v := (xI kD 138 b.toNatClampNeg).toInt64) (vNu_s (n := 5) (v := d.toInt64) aD.2.2)
    intro j hj
    refine (z j hj).trans ?_
    rw [e6]
    rfl
  have mF : vSm2 h kF := by rw [eF]; exact ⟨fun c k => ((vSm2_f fD).1 c k).trans (mC.1 c k), fun c k => ((vSm2_f fD).2 c k).trans (mC.2 c k)⟩
  have mF2 : vSm2 h2 kF2 := by rw [eF2]; exact ⟨fun c k => ((vSm2_f fD2).1 c k).trans (mC2.1 c k), fun c k => ((vSm2_f fD2).2 c k).trans (mC2.2 c k)⟩
  exact ⟨kF, kF2, CX_ofT (h' := kF) (by decide) rfl rfl trivial ⟨_, _, _, rfl, rfl, rfl⟩ rfl ⟨Nat.le_of_eq gF.2.2.2.1.symm, Nat.le_of_eq gF.2.2.2.2.symm⟩ t9, CX_ofT (h' := kF2) (by decide) rfl rfl trivial ⟨_, _, _, rfl, rfl, rfl⟩ rfl ⟨Nat.le_of_eq gF2.2.2.2.1.symm, Nat.le_of_eq gF2.2.2.2.2.symm⟩ t9', gF, gF2, mF, mF2, aF⟩
theorem sgS_E {hs h : XH} (hg : sgood vT vR (vEs hs) 153 6051 h) : sgood vT vR vE 153 6051 h := ⟨hg.1, hg.2.1, hg.2.2.1.1, hg.2.2.2⟩
theorem sgS_O {hs h g : XH} (hg : sgood vT vR (vEs hs) 153 6051 h) (o : vO h g) : sgood vT vR (vEs hs) 153 6051 g := ⟨o.1.1, o.1.2.1, ⟨o.1.2.2.1, fun k hk => (o.2.1 _ _ (by omega)).trans (hg.2.2.1.2.1 k hk), fun k hk => (o.2.1 _ _ (by omega)).trans (hg.2.2.1.2.2.1 k hk), fun k hk => (o.2.1 _ _ (by omega)).trans (hg.2.2.1.2.2.2 k hk)⟩, o.1.2.2.2⟩
theorem vO_fr {h g : XH} (o : vO h g) : sframe ([(104, 54, false)], []) h g := ⟨fun c k hck => o.2.1 c k (fun z => by rw [z.1, z.2] at hck; cases hck), fun c k _ => o.2.2 c k⟩
theorem vSm2_fr {h g : XH} {W : SW} (m : vSm2 h g) : sframe W h g := ⟨fun c k _ => m.1 c k, fun c k _ => m.2 c k⟩
theorem vD_no {c k : Nat} (h : swin vD c k = false) : c ≠ 139 ∧ ¬ (c = 104 ∧ k = 54) := by
  refine ⟨fun e => ?_, fun e => ?_⟩
  · rw [e] at h
    cases h
  · rw [e.1, e.2] at h
    cases h
theorem sAg_O {P : XLP} {h h2 g g2 : XH} (ha : sAg vD P h h2) (o : vO h g) (o2 : vO h2 g2) : sAg vD (fun _ _ => True) g g2 :=
  ⟨fun c k hck hl => by rw [o.2.1 c k (vD_no hck).2, o2.2.1 c k (vD_no hck).2]; exact ha.1 c k hck hl, fun c k => by rw [o.2.2, o2.2.2]; exact ha.2.1 c k, trivial⟩
theorem sAg_k {P : XLP} {h h2 : XH} (ha : sAg vD P h h2) : ∀ c, 123 ≤ c → c ≤ 128 → ∀ j, j < vlen c → xI h c j = xI h2 c j := fun c c1 c2 j hj => ha.1 c j (by rcases (by omega : c = 123 ∨ c = 124 ∨ c = 125 ∨ c = 126 ∨ c = 127 ∨ c = 128) with rfl | rfl | rfl | rfl | rfl | rfl <;> rfl) hj
theorem i32_mulS {a s : Int32} (h1 : 0 ≤ a.toInt ∧ a.toInt ≤ 99) (h2 : -1 ≤ s.toInt ∧ s.toInt ≤ 10) : (a * s).toInt = a.toInt * s.toInt ∧ -a.toInt ≤ (a * s).toInt ∧ (a * s).toInt ≤ 10 * a.toInt := by
  have e : (a * s).toInt = a.toInt * s.toInt := by
    rw [Int32.toInt_mul]
    have : s.toInt = -1 ∨ s.toInt = 0 ∨ s.toInt = 1 ∨ s.toInt = 2 ∨ s.toInt = 3 ∨ s.toInt = 4 ∨ s.toInt = 5 ∨ s.toInt = 6 ∨ s.toInt = 7 ∨ s.toInt = 8 ∨ s.toInt = 9 ∨ s.toInt = 10 := by omega
    rcases this with z | z | z | z | z | z | z | z | z | z | z | z <;> (rw [z]; exact Int.bmod_eq_of_le (by omega) (by omega))
  refine ⟨e, ?_, ?_⟩
  · rw [e]
    have : s.toInt = -1 ∨ s.toInt = 0 ∨ s.toInt = 1 ∨ s.toInt = 2 ∨ s.toInt = 3 ∨ s.toInt = 4 ∨ s.toInt = 5 ∨ s.toInt = 6 ∨ s.toInt = 7 ∨ s.toInt = 8 ∨ s.toInt = 9 ∨ s.toInt = 10 := by omega
    rcases this with z | z | z | z | z | z | z | z | z | z | z | z <;> (rw [z]; omega)
  · rw [e]
    have : s.toInt = -1 ∨ s.toInt = 0 ∨ s.toInt = 1 ∨ s.toInt = 2 ∨ s.toInt = 3 ∨ s.toInt = 4 ∨ s.toInt = 5 ∨ s.toInt = 6 ∨ s.toInt = 7 ∨ s.toInt = 8 ∨ s.toInt = 9 ∨ s.toInt = 10 := by omega
    rcases this with z | z | z | z | z | z | z | z | z | z | z | z <;> (rw [z]; omega)
theorem i32_quo {x : Int32} {d a b : Int} (hd : 0 < d ∧ d ≤ 100) (h1 : -((a + 1) * d) < x.toInt ∧ x.toInt ≤ b * d) (ha : 0 ≤ a ∧ a ≤ 1000) (hb : 0 ≤ b ∧ b ≤ 1000) : -a ≤ (x / Int32.ofInt d).toInt ∧ (x / Int32.ofInt d).toInt ≤ b := by
  have ed : (Int32.ofInt d).toInt = d := i32r_to ⟨by omega, by omega⟩
  have q : -a ≤ x.toInt.tdiv d ∧ x.toInt.tdiv d ≤ b := by
    by_cases hx : 0 ≤ x.toInt
    · rw [Int.tdiv_eq_ediv_of_nonneg hx]
      refine ⟨Int.le_trans (by omega) (Int.ediv_nonneg hx (by omega)), ?_⟩
      exact Int.le_trans (Int.ediv_le_ediv hd.1 h1.2) (Int.le_of_eq (Int.mul_ediv_cancel b (by omega)))
    · have e : x.toInt.tdiv d = -((-x.toInt) / d) := by
        rw [← Int.tdiv_eq_ediv_of_nonneg (by omega), Int.neg_tdiv, Int.neg_neg]
      rw [e]
      have z1 : 0 ≤ (-x.toInt) / d := Int.ediv_nonneg (by omega) (by omega)
      have z2 : (-x.toInt) / d < a + 1 := Int.ediv_lt_of_lt_mul hd.1 (by have := h1.1; omega)
      omega
  rw [Int32.toInt_div, ed, Int.bmod_eq_of_le (by omega) (by omega)]
  exact q
set_option maxRecDepth 100000 in
set_option maxHeartbeats 2000000 in
theorem vp_84 (l : Launch) (hs : XH) : scmP l vT vR (vEs hs) 153 6051 vD (fun _ _ => True) vC_84 := by
  intro vs h h2 ha0 hg hg2 ha hR hW hP
  match vs, ha0 with
  | [.inr w, .inl (.inl b), .inl (.inl p), .inl (.inl r), .inl (.inl s)], ha0 =>
    obtain rfl : w = (13, 104) := ha0.1
    have B_b : 0 ≤ b.toInt ∧ b.toInt ≤ 1 := ha0.2.1
    have B_p : 0 ≤ p.toInt ∧ p.toInt ≤ 7 := ha0.2.2.1
    have B_r : 0 ≤ r.toInt ∧ r.toInt ≤ 5 := ha0.2.2.2.1
    have B_s : (-1) ≤ s.toInt ∧ s.toInt ≤ 10 := ha0.2.2.2.2.1
    have fin : ∀ (v : Int32) (g g2 : XH), CX l 5 146 false 218 [xf 13 104, xi b, xi p, xi r, xi s] h [xi v] g → CX l 5 146 false 218 [xf 13 104, xi b, xi p, xi r, xi s] h2 [xi v] g2 → sgood vT vR (vEs hs) 153 6051 g → sgood vT vR (vEs hs) 153 6051 g2 → sframe ([(104, 54, false)], []) h g → sframe ([(104, 54, false)], []) h2 g2 → sAg vD (fun _ _ => True) g g2 → (-99) ≤ v.toInt → v.toInt ≤ 99 → ∃ ρ rs h' h2', svals vC_84 [xf 13 104, xi b, xi p, xi r, xi s] h ρ ∧ CX l 5 146 false 218 [xf 13 104, xi b, xi p, xi r, xi s] h rs h' ∧ CX l 5 146 false 218 [xf 13 104, xi b, xi p, xi r, xi s] h2 rs h2' ∧ spost vT vR (vEs hs) 153 6051 vC_84 ρ h rs h' ∧ spost vT vR (vEs hs) 153 6051 vC_84 ρ h2 rs h2' ∧ sAg vD (fun _ _ => True) h' h2' := fun v g g2 c c2 G G2 F F2 ag q1 q2 => by
      have sc : ∀ g : XH, scas vC_84 (fun n => match n with | 0 => b.toInt | 1 => p.toInt | 2 => r.toInt | _ => s.toInt) ([(0, 1), (0, 7), (0, 5), ((-1), 10)], [], some (.inl ((-99), 99)), [], [], []) [xi v] g := fun g => scas_one (fun i q hq => by
        match i, hq with
        | 0, hq => obtain rfl := Option.some.inj hq; exact B_b
        | 1, hq => obtain rfl := Option.some.inj hq; exact B_p
        | 2, hq => obtain rfl := Option.some.inj hq; exact B_r
        | 3, hq => obtain rfl := Option.some.inj hq; exact B_s) (fun i q hq => by cases hq) ⟨q1, q2⟩
      exact ⟨_, _, g, g2, ⟨⟨rfl, rfl, rfl, rfl, trivial⟩, fun i q hq => by cases hq⟩, c, c2, ⟨G, F, _, List.mem_singleton.mpr rfl, sc g⟩, ⟨G2, F2, _, List.mem_singleton.mpr rfl, sc g2⟩, ag⟩
    have b1 := vbnd hg.1 118 p.toNatClampNeg
    rw [vI_u rfl (rfl : vRow 118 = (0, 9))] at b1
    have b1 : 0 ≤ (xI h 118 p.toNatClampNeg).toInt ∧ (xI h 118 p.toNatClampNeg).toInt ≤ 9 := b1
    have b2 := vbnd hg.1 111 r.toNatClampNeg
    rw [vI_u rfl (rfl : vRow 111 = (0, 99))] at b2
    have b2 : 0 ≤ (xI h 111 r.toNatClampNeg).toInt ∧ (xI h 111 r.toNatClampNeg).toInt ≤ 99 := b2
    have u1 : xI h2 118 p.toNatClampNeg = xI h 118 p.toNatClampNeg := (ha.1 _ _ rfl (by show p.toInt.toNat < 16; omega)).symm
    have u2 : xI h2 111 r.toNatClampNeg = xI h 111 r.toNatClampNeg := (ha.1 _ _ rfl (by show r.toInt.toNat < 12; omega)).symm
    have t1 : XT l 5 146 false 218 153 6051 0 [xf 13 104, xi b, xi p, xi r, xi s, xun] [] h 29 [xf 13 104, xi b, xi p, xi r, xi s, xi (s - (xI h (xR h 104 33) (p).toNatClampNeg))] [xi (Int32.ofInt (0)), xi (xI h (xR h 104 26) (r).toNatClampNeg), xi (xI h (xR h 104 33) (p).toNatClampNeg), xi s, xi r, xi b, xf 13 104] h := XT_path (l := l) (fr := 5) (lo := 146) (full := false) (M := 218) (n := 153) (u := 6051) (pc := 0) (L := [xf 13 104, xi b, xi p, xi r, xi s, xun]) (st := []) (h := h) (inl := []) (n' := 80) (sp := [29]) (o := []) rfl rfl ⟨rfl, rfl, rfl⟩ rfl ⟨Nat.le_of_eq hg.2.2.2.1, Nat.le_of_eq hg.2.2.2.2⟩ ⟨⟨⟨⟨⟨⟨trivial, (vnn hg.1 (rfl : vRf 104 33 = [118]) (by decide))⟩, (vp_of (i := p) (n := 16) (by omega) (by omega))⟩, (vnn hg.1 (rfl : vRf 104 33 = [118]) (by decide))⟩, (vp_of (i := p) (n := 16) (by omega) (by omega))⟩, (vnn hg.1 (rfl : vRf 104 26 = [111]) (by decide))⟩, (vp_of (i := r) (n := 12) (by omega) (by omega))⟩
    rw [vref hg.1 (rfl : vRf 104 33 = [118]), vref hg.1 (rfl : vRf 104 26 = [111])] at t1
    have t1' : XT l 5 146 false 218 153 6051 0 [xf 13 104, xi b, xi p, xi r, xi s, xun] [] h2 29 [xf 13 104, xi b, xi p, xi r, xi s, xi (s - (xI h2 (xR h2 104 33) (p).toNatClampNeg))] [xi (Int32.ofInt (0)), xi (xI h2 (xR h2 104 26) (r).toNatClampNeg), xi (xI h2 (xR h2 104 33) (p).toNatClampNeg), xi s, xi r, xi b, xf 13 104] h2 := XT_path (l := l) (fr := 5) (lo := 146) (full := false) (M := 218) (n := 153) (u := 6051) (pc := 0) (L := [xf 13 104, xi b, xi p, xi r, xi s, xun]) (st := []) (h := h2) (inl := []) (n' := 80) (sp := [29]) (o := []) rfl rfl ⟨rfl, rfl, rfl⟩ rfl ⟨Nat.le_of_eq hg2.2.2.2.1, Nat.le_of_eq hg2.2.2.2.2⟩ ⟨⟨⟨⟨⟨⟨trivial, (vnn hg2.1 (rfl : vRf 104 33 = [118]) (by decide))⟩, (vp_of (i := p) (n := 16) (by omega) (by omega))⟩, (vnn hg2.1 (rfl : vRf 104 33 = [118]) (by decide))⟩, (vp_of (i := p) (n := 16) (by omega) (by omega))⟩, (vnn hg2.1 (rfl : vRf 104 26 = [111]) (by decide))⟩, (vp_of (i := r) (n := 12) (by omega) (by omega))⟩
    rw [vref hg2.1 (rfl : vRf 104 33 = [118]), vref hg2.1 (rfl : vRf 104 26 = [111])] at t1'
    rw [u1, u2] at t1'
    obtain ⟨sz, es⟩ : ∃ a, a = xI h 118 p.toNatClampNeg := ⟨_, rfl⟩
    rw [← es] at t1 t1' b1
    obtain ⟨ar, ea⟩ : ∃ a, a = xI h 111 r.toNatClampNeg := ⟨_, rfl⟩
    rw [← ea] at t1 t1' b2
    have en : (s - sz).toInt = s.toInt - sz.toInt := by
      rw [Int32.toInt_sub]
      exact Int.bmod_eq_of_le (by omega) (by omega)
    obtain ⟨n, ew⟩ : ∃ a, a = s - sz := ⟨_, rfl⟩
    rw [← ew] at t1 t1' en
    obtain ⟨g, g2, cN, cN2, gG, gG2, mN, mN2, aN⟩ := vp_names l hs b r s sz ar (Int32.ofInt (0)) h h2 hg hg2 ha (by omega) (by omega)
    have t2 : XT l 5 146 false 218 153 6051 29 [xf 13 104, xi b, xi p, xi r, xi s, xi n] [xi (Int32.ofInt (0)), xi ar, xi sz, xi s, xi r, xi b, xf 13 104] h 32 [xf 13 104, xi b, xi p, xi r, xi s, xi n] [] g := XT_call (l := l) (fr := 5) (lo := 146) (full := false) (M := 218) (n := 153) (u := 6051) (pc := 29) (L := [xf 13 104, xi b, xi p, xi r, xi s, xi n]) (st := [xi (Int32.ofInt (0)), xi ar, xi sz, xi s, xi r, xi b, xf 13 104]) (h := h) (i := .invokevirtual 219) (aux := 7) (nx := 32) (K := 219) (vs := [xf 13 104, xi b, xi r, xi s, xi sz, xi ar, xi (Int32.ofInt (0))]) (rs := []) (rest := []) rfl rfl rfl rfl rfl rfl cN (by decide) (by decide) (Nat.le_of_ble_eq_true rfl) ⟨Nat.le_of_eq gG.2.2.2.1, Nat.le_of_eq gG.2.2.2.2⟩
    have t3 := t1.tr t2
    have t2' : XT l 5 146 false 218 153 6051 29 [xf 13 104, xi b, xi p, xi r, xi s, xi n] [xi (Int32.ofInt (0)), xi ar, xi sz, xi s, xi r, xi b, xf 13 104] h2 32 [xf 13 104, xi b, xi p, xi r, xi s, xi n] [] g2 := XT_call (l := l) (fr := 5) (lo := 146) (full := false) (M := 218) (n := 153) (u := 6051) (pc := 29) (L := [xf 13 104, xi b, xi p, xi r, xi s, xi n]) (st := [xi (Int32.ofInt (0)), xi ar, xi sz, xi s, xi r, xi b, xf 13 104]) (h := h2) (i := .invokevirtual 219) (aux := 7) (nx := 32) (K := 219) (vs := [xf 13 104, xi b, xi r, xi s, xi sz, xi ar, xi (Int32.ofInt (0))]) (rs := []) (rest := []) rfl rfl rfl rfl rfl rfl cN2 (by decide) (by decide) (Nat.le_of_ble_eq_true rfl) ⟨Nat.le_of_eq gG2.2.2.2.1, Nat.le_of_eq gG2.2.2.2.2⟩
    have t3' := t1'.tr t2'
    by_cases c4 : (0 : Int32) ≤ n
    · have c4' := c4
      have t5 : XT l 5 146 false 218 153 6051 32 [xf 13 104, xi b, xi p, xi r, xi s, xi n] [] g 56 [xf 13 104, xi b, xi p, xi r, xi s, xi n] [xi (Int32.ofInt (99)), xi (Int32.ofInt (-99)), xi ((Int32.ofInt (9)) - n), xi (Int32.ofInt (0)), xf 13 104] g := XT_path (l := l) (fr := 5) (lo := 146) (full := false) (M := 218) (n := 153) (u := 6051) (pc := 32) (L := [xf 13 104, xi b, xi p, xi r, xi s, xi n]) (st := []) (h := g) (inl := []) (n' := 80) (sp := [56]) (o := [1]) rfl rfl ⟨rfl, rfl, rfl⟩ rfl ⟨Nat.le_of_eq gG.2.2.2.1, Nat.le_of_eq gG.2.2.2.2⟩ ⟨trivial, c4⟩
      have t6 := t3.tr t5
      have t5' : XT l 5 146 false 218 153 6051 32 [xf 13 104, xi b, xi p, xi r, xi s, xi n] [] g2 56 [xf 13 104, xi b, xi p, xi r, xi s, xi n] [xi (Int32.ofInt (99)), xi (Int32.ofInt (-99)), xi ((Int32.ofInt (9)) - n), xi (Int32.ofInt (0)), xf 13 104] g2 := XT_path (l := l) (fr := 5) (lo := 146) (full := false) (M := 218) (n := 153) (u := 6051) (pc := 32) (L := [xf 13 104, xi b, xi p, xi r, xi s, xi n]) (st := []) (h := g2) (inl := []) (n' := 80) (sp := [56]) (o := [1]) rfl rfl ⟨rfl, rfl, rfl⟩ rfl ⟨Nat.le_of_eq gG2.2.2.2.1, Nat.le_of_eq gG2.2.2.2.2⟩ ⟨trivial, c4'⟩
      have t6' := t3'.tr t5'
      have e9 : (Int32.ofInt (9)).toInt = 9 := rfl
      have e0 : (0 : Int32).toInt = 0 := rfl
      have d := Int32.le_iff_toInt_le.mp c4
      have ey : ((Int32.ofInt (9)) - n).toInt = 9 - n.toInt := by
        rw [Int32.toInt_sub, e9]
        exact Int.bmod_eq_of_le (by omega) (by omega)
      obtain ⟨v, m1, m2, cB, cB2, oB, oB2, q1, q2⟩ := vp_bound l (Int32.ofInt (0)) ((Int32.ofInt (9)) - n) (Int32.ofInt (-99)) (Int32.ofInt (99)) (by decide) (by decide) (A := (-99)) (B := 99) (by decide) (by decide) ⟨by omega, by decide⟩ ⟨by omega, by decide⟩ ⟨by decide, by decide⟩ g g2 (sgS_E gG) (sgS_E gG2) (sAg_k aN) aN.2.2
      have gM := sgS_O gG oB
      have gM2 := sgS_O gG2 oB2
      have t7 : XT l 5 146 false 218 153 6051 56 [xf 13 104, xi b, xi p, xi r, xi s, xi n] [xi (Int32.ofInt (99)), xi (Int32.ofInt (-99)), xi ((Int32.ofInt (9)) - n), xi (Int32.ofInt (0)), xf 13 104] g 59 [xf 13 104, xi b, xi p, xi r, xi s, xi n] [xi v] m1 := XT_call (l := l) (fr := 5) (lo := 146) (full := false) (M := 218) (n := 153) (u := 6051) (pc := 56) (L := [xf 13 104, xi b, xi p, xi r, xi s, xi n]) (st := [xi (Int32.ofInt (99)), xi (Int32.ofInt (-99)), xi ((Int32.ofInt (9)) - n), xi (Int32.ofInt (0)), xf 13 104]) (h := g) (i := .invokevirtual 224) (aux := 5) (nx := 59) (K := 224) (vs := [xf 13 104, xi (Int32.ofInt (0)), xi ((Int32.ofInt (9)) - n), xi (Int32.ofInt (-99)), xi (Int32.ofInt (99))]) (rs := [xi v]) (rest := []) rfl rfl rfl rfl rfl rfl cB (by decide) (by decide) (Nat.le_of_ble_eq_true rfl) ⟨Nat.le_of_eq gM.2.2.2.1, Nat.le_of_eq gM.2.2.2.2⟩
      have t8 := t6.tr t7
      have t7' : XT l 5 146 false 218 153 6051 56 [xf 13 104, xi b, xi p, xi r, xi s, xi n] [xi (Int32.ofInt (99)), xi (Int32.ofInt (-99)), xi ((Int32.ofInt (9)) - n), xi (Int32.ofInt (0)), xf 13 104] g2 59 [xf 13 104, xi b, xi p, xi r, xi s, xi n] [xi v] m2 := XT_call (l := l) (fr := 5) (lo := 146) (full := false) (M := 218) (n := 153) (u := 6051) (pc := 56) (L := [xf 13 104, xi b, xi p, xi r, xi s, xi n]) (st := [xi (Int32.ofInt (99)), xi (Int32.ofInt (-99)), xi ((Int32.ofInt (9)) - n), xi (Int32.ofInt (0)), xf 13 104]) (h := g2) (i := .invokevirtual 224) (aux := 5) (nx := 59) (K := 224) (vs := [xf 13 104, xi (Int32.ofInt (0)), xi ((Int32.ofInt (9)) - n), xi (Int32.ofInt (-99)), xi (Int32.ofInt (99))]) (rs := [xi v]) (rest := []) rfl rfl rfl rfl rfl rfl cB2 (by decide) (by decide) (Nat.le_of_ble_eq_true rfl) ⟨Nat.le_of_eq gM2.2.2.2.1, Nat.le_of_eq gM2.2.2.2.2⟩
      have t8' := t6'.tr t7'
      exact fin v m1 m2 (CX_ofT (h' := m1) (by decide) rfl rfl trivial ⟨_, _, _, rfl, rfl, rfl⟩ rfl ⟨Nat.le_of_eq gM.2.2.2.1.symm, Nat.le_of_eq gM.2.2.2.2.symm⟩ t8) (CX_ofT (h' := m2) (by decide) rfl rfl trivial ⟨_, _, _, rfl, rfl, rfl⟩ rfl ⟨Nat.le_of_eq gM2.2.2.2.1.symm, Nat.le_of_eq gM2.2.2.2.2.symm⟩ t8') gM gM2 ((vSm2_fr mN).tr (vO_fr oB)) ((vSm2_fr mN2).tr (vO_fr oB2)) (sAg_O aN oB oB2) q1 q2
    · have c4' := c4
      have t9 : XT l 5 146 false 218 153 6051 32 [xf 13 104, xi b, xi p, xi r, xi s, xi n] [] g 56 [xf 13 104, xi b, xi p, xi r, xi s, xi n] [xi (Int32.ofInt (99)), xi (Int32.ofInt (-99)), xi ((Int32.ofInt (9)) + n), xi (Int32.ofInt (0)), xf 13 104] g := XT_path (l := l) (fr := 5) (lo := 146) (full := false) (M := 218) (n := 153) (u := 6051) (pc := 32) (L := [xf 13 104, xi b, xi p, xi r, xi s, xi n]) (st := []) (h := g) (inl := []) (n' := 80) (sp := [56]) (o := [0]) rfl rfl ⟨rfl, rfl, rfl⟩ rfl ⟨Nat.le_of_eq gG.2.2.2.1, Nat.le_of_eq gG.2.2.2.2⟩ ⟨trivial, c4⟩
      have t10 := t3.tr t9
      have t9' : XT l 5 146 false 218 153 6051 32 [xf 13 104, xi b, xi p, xi r, xi s, xi n] [] g2 56 [xf 13 104, xi b, xi p, xi r, xi s, xi n] [xi (Int32.ofInt (99)), xi (Int32.ofInt (-99)), xi ((Int32.ofInt (9)) + n), xi (Int32.ofInt (0)), xf 13 104] g2 := XT_path (l := l) (fr := 5) (lo := 146) (full := false) (M := 218) (n := 153) (u := 6051) (pc := 32) (L := [xf 13 104, xi b, xi p, xi r, xi s, xi n]) (st := []) (h := g2) (inl := []) (n' := 80) (sp := [56]) (o := [0]) rfl rfl ⟨rfl, rfl, rfl⟩ rfl ⟨Nat.le_of_eq gG2.2.2.2.1, Nat.le_of_eq gG2.2.2.2.2⟩ ⟨trivial, c4'⟩
      have t10' := t3'.tr t9'
      have e9 : (Int32.ofInt (9)).toInt = 9 := rfl
      have e0 : (0 : Int32).toInt = 0 := rfl
      have d : ¬ (0 : Int32).toInt ≤ n.toInt := fun z => c4 (Int32.le_iff_toInt_le.mpr z)
      have ey : ((Int32.ofInt (9)) + n).toInt = 9 + n.toInt := by
        rw [Int32.toInt_add, e9]
        exact Int.bmod_eq_of_le (by omega) (by omega)
      obtain ⟨v, m1, m2, cB, cB2, oB, oB2, q1, q2⟩ := vp_bound l (Int32.ofInt (0)) ((Int32.ofInt (9)) + n) (Int32.ofInt (-99)) (Int32.ofInt (99)) (by decide) (by decide) (A := (-99)) (B := 99) (by decide) (by decide) ⟨by omega, by decide⟩ ⟨by omega, by decide⟩ ⟨by decide, by decide⟩ g g2 (sgS_E gG) (sgS_E gG2) (sAg_k aN) aN.2.2
      have gM := sgS_O gG oB
      have gM2 := sgS_O gG2 oB2
      have t11 : XT l 5 146 false 218 153 6051 56 [xf 13 104, xi b, xi p, xi r, xi s, xi n] [xi (Int32.ofInt (99)), xi (Int32.ofInt (-99)), xi ((Int32.ofInt (9)) + n), xi (Int32.ofInt (0)), xf 13 104] g 59 [xf 13 104, xi b, xi p, xi r, xi s, xi n] [xi v] m1 := XT_call (l := l) (fr := 5) (lo := 146) (full := false) (M := 218) (n := 153) (u := 6051) (pc := 56) (L := [xf 13 104, xi b, xi p, xi r, xi s, xi n]) (st := [xi (Int32.ofInt (99)), xi (Int32.ofInt (-99)), xi ((Int32.ofInt (9)) + n), xi (Int32.ofInt (0)), xf 13 104]) (h := g) (i := .invokevirtual 224) (aux := 5) (nx := 59) (K := 224) (vs := [xf 13 104, xi (Int32.ofInt (0)), xi ((Int32.ofInt (9)) + n), xi (Int32.ofInt (-99)), xi (Int32.ofInt (99))]) (rs := [xi v]) (rest := []) rfl rfl rfl rfl rfl rfl cB (by decide) (by decide) (Nat.le_of_ble_eq_true rfl) ⟨Nat.le_of_eq gM.2.2.2.1, Nat.le_of_eq gM.2.2.2.2⟩
      have t12 := t10.tr t11
      have t11' : XT l 5 146 false 218 153 6051 56 [xf 13 104, xi b, xi p, xi r, xi s, xi n] [xi (Int32.ofInt (99)), xi (Int32.ofInt (-99)), xi ((Int32.ofInt (9)) + n), xi (Int32.ofInt (0)), xf 13 104] g2 59 [xf 13 104, xi b, xi p, xi r, xi s, xi n] [xi v] m2 := XT_call (l := l) (fr := 5) (lo := 146) (full := false) (M := 218) (n := 153) (u := 6051) (pc := 56) (L := [xf 13 104, xi b, xi p, xi r, xi s, xi n]) (st := [xi (Int32.ofInt (99)), xi (Int32.ofInt (-99)), xi ((Int32.ofInt (9)) + n), xi (Int32.ofInt (0)), xf 13 104]) (h := g2) (i := .invokevirtual 224) (aux := 5) (nx := 59) (K := 224) (vs := [xf 13 104, xi (Int32.ofInt (0)), xi ((Int32.ofInt (9)) + n), xi (Int32.ofInt (-99)), xi (Int32.ofInt (99))]) (rs := [xi v]) (rest := []) rfl rfl rfl rfl rfl rfl cB2 (by decide) (by decide) (Nat.le_of_ble_eq_true rfl) ⟨Nat.le_of_eq gM2.2.2.2.1, Nat.le_of_eq gM2.2.2.2.2⟩
      have t12' := t10'.tr t11'
      exact fin v m1 m2 (CX_ofT (h' := m1) (by decide) rfl rfl trivial ⟨_, _, _, rfl, rfl, rfl⟩ rfl ⟨Nat.le_of_eq gM.2.2.2.1.symm, Nat.le_of_eq gM.2.2.2.2.symm⟩ t12) (CX_ofT (h' := m2) (by decide) rfl rfl trivial ⟨_, _, _, rfl, rfl, rfl⟩ rfl ⟨Nat.le_of_eq gM2.2.2.2.1.symm, Nat.le_of_eq gM2.2.2.2.2.symm⟩ t12') gM gM2 ((vSm2_fr mN).tr (vO_fr oB)) ((vSm2_fr mN2).tr (vO_fr oB2)) (sAg_O aN oB oB2) q1 q2
set_option maxRecDepth 100000 in
set_option maxHeartbeats 2000000 in
theorem vp_106 (l : Launch) (hs : XH) : scmP l vT vR (vEs hs) 153 6051 vD (fun _ _ => True) vC_106 := by
  intro vs h h2 ha0 hg hg2 ha hR hW hP
  match vs, ha0 with
  | [.inr w, .inl (.inl b), .inl (.inl r)], ha0 =>
    obtain rfl : w = (13, 104) := ha0.1
    have B_b : 0 ≤ b.toInt ∧ b.toInt ≤ 1 := ha0.2.1
    have B_r : 0 ≤ r.toInt ∧ r.toInt ≤ 5 := ha0.2.2.1
    have fin : ∀ (v : Int32) (g g2 : XH), CX l 5 146 false 234 [xf 13 104, xi b, xi r] h [xi v] g → CX l 5 146 false 234 [xf 13 104, xi b, xi r] h2 [xi v] g2 → sgood vT vR (vEs hs) 153 6051 g → sgood vT vR (vEs hs) 153 6051 g2 → sframe ([(104, 54, false)], []) h g → sframe ([(104, 54, false)], []) h2 g2 → sAg vD (fun _ _ => True) g g2 → (-33) ≤ v.toInt → v.toInt ≤ 9999 → ∃ ρ rs h' h2', svals vC_106 [xf 13 104, xi b, xi r] h ρ ∧ CX l 5 146 false 234 [xf 13 104, xi b, xi r] h rs h' ∧ CX l 5 146 false 234 [xf 13 104, xi b, xi r] h2 rs h2' ∧ spost vT vR (vEs hs) 153 6051 vC_106 ρ h rs h' ∧ spost vT vR (vEs hs) 153 6051 vC_106 ρ h2 rs h2' ∧ sAg vD (fun _ _ => True) h' h2' := fun v g g2 c c2 G G2 F F2 ag q1 q2 => by
      have sc : ∀ g : XH, scas vC_106 (fun n => match n with | 0 => b.toInt | _ => r.toInt) ([(0, 1), (0, 5)], [], some (.inl ((-33), 9999)), [], [], []) [xi v] g := fun g => scas_one (fun i q hq => by
        match i, hq with
        | 0, hq => obtain rfl := Option.some.inj hq; exact B_b
        | 1, hq => obtain rfl := Option.some.inj hq; exact B_r) (fun i q hq => by cases hq) ⟨q1, q2⟩
      exact ⟨_, _, g, g2, ⟨⟨rfl, rfl, trivial⟩, fun i q hq => by cases hq⟩, c, c2, ⟨G, F, _, List.mem_singleton.mpr rfl, sc g⟩, ⟨G2, F2, _, List.mem_singleton.mpr rfl, sc g2⟩, ag⟩
    have e6 : (Int32.ofInt (6)).toInt = 6 := rfl
    have x1 : ((Int32.ofInt (6)) * b).toInt = 6 * b.toInt := by
      rw [Int32.toInt_mul, e6]
      exact Int.bmod_eq_of_le (by omega) (by omega)
    have x2 : (((Int32.ofInt (6)) * b) + r).toInt = 6 * b.toInt + r.toInt := by
      rw [Int32.toInt_add, x1]
      exact Int.bmod_eq_of_le (by omega) (by omega)
    have bs := vbnd hg.1 133 (((Int32.ofInt (6)) * b) + r).toNatClampNeg
    have bt := vT_ok 133 (((Int32.ofInt (6)) * b) + r).toNatClampNeg
    have bt : (-1 : Int) ≤ (vI 133 (((Int32.ofInt (6)) * b) + r).toNatClampNeg).1 ∧ (vI 133 (((Int32.ofInt (6)) * b) + r).toNatClampNeg).2 ≤ 10 := bt
    have bs2 : -1 ≤ (xI h 133 (((Int32.ofInt (6)) * b) + r).toNatClampNeg).toInt ∧ (xI h 133 (((Int32.ofInt (6)) * b) + r).toNatClampNeg).toInt ≤ 10 := ⟨Int.le_trans bt.1 bs.1, Int.le_trans bs.2 bt.2⟩
    have us : xI h2 133 (((Int32.ofInt (6)) * b) + r).toNatClampNeg = xI h 133 (((Int32.ofInt (6)) * b) + r).toNatClampNeg := (ha.1 _ _ rfl (by show (((Int32.ofInt (6)) * b) + r).toInt.toNat < 12; omega)).symm
    have b2 := vbnd hg.1 111 r.toNatClampNeg
    rw [vI_u rfl (rfl : vRow 111 = (0, 99))] at b2
    have b2 : 0 ≤ (xI h 111 r.toNatClampNeg).toInt ∧ (xI h 111 r.toNatClampNeg).toInt ≤ 99 := b2
    have u2 : xI h2 111 r.toNatClampNeg = xI h 111 r.toNatClampNeg := (ha.1 _ _ rfl (by show r.toInt.toNat < 12; omega)).symm
    have t1 : XT l 5 146 false 234 153 6051 0 [xf 13 104, xi b, xi r, xun] [] h 24 [xf 13 104, xi b, xi r, xi (xI h (xR h 104 55) ((((Int32.ofInt (6)) * b) + r)).toNatClampNeg)] [xi (Int32.ofInt (0)), xi (xI h (xR h 104 26) (r).toNatClampNeg), xi (Int32.ofInt (0)), xi (xI h (xR h 104 55) ((((Int32.ofInt (6)) * b) + r)).toNatClampNeg), xi r, xi b, xf 13 104] h := XT_path (l := l) (fr := 5) (lo := 146) (full := false) (M := 234) (n := 153) (u := 6051) (pc := 0) (L := [xf 13 104, xi b, xi r, xun]) (st := []) (h := h) (inl := []) (n' := 80) (sp := [24]) (o := []) rfl rfl ⟨rfl, rfl, rfl⟩ rfl ⟨Nat.le_of_eq hg.2.2.2.1, Nat.le_of_eq hg.2.2.2.2⟩ ⟨⟨⟨⟨trivial, (vnn hg.1 (rfl : vRf 104 55 = [133]) (by decide))⟩, (vp_of (i := (((Int32.ofInt (6)) * b) + r)) (n := 12) (by omega) (by omega))⟩, (vnn hg.1 (rfl : vRf 104 26 = [111]) (by decide))⟩, (vp_of (i := r) (n := 12) (by omega) (by omega))⟩
    rw [vref hg.1 (rfl : vRf 104 55 = [133]), vref hg.1 (rfl : vRf 104 26 = [111])] at t1
    have t1' : XT l 5 146 false 234 153 6051 0 [xf 13 104, xi b, xi r, xun] [] h2 24 [xf 13 104, xi b, xi r, xi (xI h2 (xR h2 104 55) ((((Int32.ofInt (6)) * b) + r)).toNatClampNeg)] [xi (Int32.ofInt (0)), xi (xI h2 (xR h2 104 26) (r).toNatClampNeg), xi (Int32.ofInt (0)), xi (xI h2 (xR h2 104 55) ((((Int32.ofInt (6)) * b) + r)).toNatClampNeg), xi r, xi b, xf 13 104] h2 := XT_path (l := l) (fr := 5) (lo := 146) (full := false) (M := 234) (n := 153) (u := 6051) (pc := 0) (L := [xf 13 104, xi b, xi r, xun]) (st := []) (h := h2) (inl := []) (n' := 80) (sp := [24]) (o := []) rfl rfl ⟨rfl, rfl, rfl⟩ rfl ⟨Nat.le_of_eq hg2.2.2.2.1, Nat.le_of_eq hg2.2.2.2.2⟩ ⟨⟨⟨⟨trivial, (vnn hg2.1 (rfl : vRf 104 55 = [133]) (by decide))⟩, (vp_of (i := (((Int32.ofInt (6)) * b) + r)) (n := 12) (by omega) (by omega))⟩, (vnn hg2.1 (rfl : vRf 104 26 = [111]) (by decide))⟩, (vp_of (i := r) (n := 12) (by omega) (by omega))⟩
    rw [vref hg2.1 (rfl : vRf 104 55 = [133]), vref hg2.1 (rfl : vRf 104 26 = [111])] at t1'
    rw [us] at t1'
    rw [u2] at t1'
    obtain ⟨s, es⟩ : ∃ a, a = xI h 133 (((Int32.ofInt (6)) * b) + r).toNatClampNeg := ⟨_, rfl⟩
    rw [← es] at t1 t1' bs2
    obtain ⟨ar, ea⟩ : ∃ a, a = xI h 111 r.toNatClampNeg := ⟨_, rfl⟩
    rw [← ea] at t1 t1' b2
    obtain ⟨g, g2, cN, cN2, gG, gG2, mN, mN2, aN⟩ := vp_names l hs b r s (Int32.ofInt (0)) ar (Int32.ofInt (0)) h h2 hg hg2 ha (by omega) (by omega)
    have t2 : XT l 5 146 false 234 153 6051 24 [xf 13 104, xi b, xi r, xi s] [xi (Int32.ofInt (0)), xi ar, xi (Int32.ofInt (0)), xi s, xi r, xi b, xf 13 104] h 27 [xf 13 104, xi b, xi r, xi s] [] g := XT_call (l := l) (fr := 5) (lo := 146) (full := false) (M := 234) (n := 153) (u := 6051) (pc := 24) (L := [xf 13 104, xi b, xi r, xi s]) (st := [xi (Int32.ofInt (0)), xi ar, xi (Int32.ofInt (0)), xi s, xi r, xi b, xf 13 104]) (h := h) (i := .invokevirtual 219) (aux := 7) (nx := 27) (K := 219) (vs := [xf 13 104, xi b, xi r, xi s, xi (Int32.ofInt (0)), xi ar, xi (Int32.ofInt (0))]) (rs := []) (rest := []) rfl rfl rfl rfl rfl rfl cN (by decide) (by decide) (Nat.le_of_ble_eq_true rfl) ⟨Nat.le_of_eq gG.2.2.2.1, Nat.le_of_eq gG.2.2.2.2⟩
    have t3 := t1.tr t2
    have t2' : XT l 5 146 false 234 153 6051 24 [xf 13 104, xi b, xi r, xi s] [xi (Int32.ofInt (0)), xi ar, xi (Int32.ofInt (0)), xi s, xi r, xi b, xf 13 104] h2 27 [xf 13 104, xi b, xi r, xi s] [] g2 := XT_call (l := l) (fr := 5) (lo := 146) (full := false) (M := 234) (n := 153) (u := 6051) (pc := 24) (L := [xf 13 104, xi b, xi r, xi s]) (st := [xi (Int32.ofInt (0)), xi ar, xi (Int32.ofInt (0)), xi s, xi r, xi b, xf 13 104]) (h := h2) (i := .invokevirtual 219) (aux := 7) (nx := 27) (K := 219) (vs := [xf 13 104, xi b, xi r, xi s, xi (Int32.ofInt (0)), xi ar, xi (Int32.ofInt (0))]) (rs := []) (rest := []) rfl rfl rfl rfl rfl rfl cN2 (by decide) (by decide) (Nat.le_of_ble_eq_true rfl) ⟨Nat.le_of_eq gG2.2.2.2.1, Nat.le_of_eq gG2.2.2.2.2⟩
    have t3' := t1'.tr t2'
    have t4 : XT l 5 146 false 234 153 6051 27 [xf 13 104, xi b, xi r, xi s] [] g 43 [xf 13 104, xi b, xi r, xi s] [xi (Int32.ofInt (9999)), xi (Int32.ofInt (0)), xi (((xI g (xR g 104 26) (r).toNatClampNeg) * s) / (Int32.ofInt (3))), xi (Int32.ofInt (1)), xf 13 104] g := XT_path (l := l) (fr := 5) (lo := 146) (full := false) (M := 234) (n := 153) (u := 6051) (pc := 27) (L := [xf 13 104, xi b, xi r, xi s]) (st := []) (h := g) (inl := []) (n' := 80) (sp := [43]) (o := []) rfl rfl ⟨rfl, rfl, rfl⟩ rfl ⟨Nat.le_of_eq gG.2.2.2.1, Nat.le_of_eq gG.2.2.2.2⟩ ⟨⟨⟨trivial, (vnn gG.1 (rfl : vRf 104 26 = [111]) (by decide))⟩, (vp_of (i := r) (n := 12) (by omega) (by omega))⟩, (by decide)⟩
    rw [vref gG.1 (rfl : vRf 104 26 = [111])] at t4
    have t5 := t3.tr t4
    have t4' : XT l 5 146 false 234 153 6051 27 [xf 13 104, xi b, xi r, xi s] [] g2 43 [xf 13 104, xi b, xi r, xi s] [xi (Int32.ofInt (9999)), xi (Int32.ofInt (0)), xi (((xI g2 (xR g2 104 26) (r).toNatClampNeg) * s) / (Int32.ofInt (3))), xi (Int32.ofInt (1)), xf 13 104] g2 := XT_path (l := l) (fr := 5) (lo := 146) (full := false) (M := 234) (n := 153) (u := 6051) (pc := 27) (L := [xf 13 104, xi b, xi r, xi s]) (st := []) (h := g2) (inl := []) (n' := 80) (sp := [43]) (o := []) rfl rfl ⟨rfl, rfl, rfl⟩ rfl ⟨Nat.le_of_eq gG2.2.2.2.1, Nat.le_of_eq gG2.2.2.2.2⟩ ⟨⟨⟨trivial, (vnn gG2.1 (rfl : vRf 104 26 = [111]) (by decide))⟩, (vp_of (i := r) (n := 12) (by omega) (by omega))⟩, (by decide)⟩
    rw [vref gG2.1 (rfl : vRf 104 26 = [111])] at t4'
    have t5' := t3'.tr t4'
    rw [mN.1 111 r.toNatClampNeg, ← ea] at t5
    rw [mN2.1 111 r.toNatClampNeg, u2, ← ea] at t5'
    obtain ⟨-, z1, z2⟩ := i32_mulS (a := ar) (s := s) (by omega) bs2
    have z3 := i32_quo (x := ar * s) (d := 3) (a := 33) (b := 330) (by decide) (by omega) (by decide) (by decide)
    have ey : ((ar * s) / (Int32.ofInt (3))).toInt = ((ar * s) / Int32.ofInt (3)).toInt := rfl
    obtain ⟨v, m1, m2, cB, cB2, oB, oB2, q1, q2⟩ := vp_bound l (Int32.ofInt (1)) ((ar * s) / (Int32.ofInt (3))) (Int32.ofInt (0)) (Int32.ofInt (9999)) (by decide) (by decide) (A := (-33)) (B := 9999) (by decide) (by decide) ⟨by omega, by decide⟩ ⟨by omega, by decide⟩ ⟨by decide, by decide⟩ g g2 (sgS_E gG) (sgS_E gG2) (sAg_k aN) aN.2.2
    have gM := sgS_O gG oB
    have gM2 := sgS_O gG2 oB2
    have t6 : XT l 5 146 false 234 153 6051 43 [xf 13 104, xi b, xi r, xi s] [xi (Int32.ofInt (9999)), xi (Int32.ofInt (0)), xi ((ar * s) / (Int32.ofInt (3))), xi (Int32.ofInt (1)), xf 13 104] g 46 [xf 13 104, xi b, xi r, xi s] [xi v] m1 := XT_call (l := l) (fr := 5) (lo := 146) (full := false) (M := 234) (n := 153) (u := 6051) (pc := 43) (L := [xf 13 104, xi b, xi r, xi s]) (st := [xi (Int32.ofInt (9999)), xi (Int32.ofInt (0)), xi ((ar * s) / (Int32.ofInt (3))), xi (Int32.ofInt (1)), xf 13 104]) (h := g) (i := .invokevirtual 224) (aux := 5) (nx := 46) (K := 224) (vs := [xf 13 104, xi (Int32.ofInt (1)), xi ((ar * s) / (Int32.ofInt (3))), xi (Int32.ofInt (0)), xi (Int32.ofInt (9999))]) (rs := [xi v]) (rest := []) rfl rfl rfl rfl rfl rfl cB (by decide) (by decide) (Nat.le_of_ble_eq_true rfl) ⟨Nat.le_of_eq gM.2.2.2.1, Nat.le_of_eq gM.2.2.2.2⟩
    have t7 := t5.tr t6
    have t6' : XT l 5 146 false 234 153 6051 43 [xf 13 104, xi b, xi r, xi s] [xi (Int32.ofInt (9999)), xi (Int32.ofInt (0)), xi ((ar * s) / (Int32.ofInt (3))), xi (Int32.ofInt (1)), xf 13 104] g2 46 [xf 13 104, xi b, xi r, xi s] [xi v] m2 := XT_call (l := l) (fr := 5) (lo := 146) (full := false) (M := 234) (n := 153) (u := 6051) (pc := 43) (L := [xf 13 104, xi b, xi r, xi s]) (st := [xi (Int32.ofInt (9999)), xi (Int32.ofInt (0)), xi ((ar * s) / (Int32.ofInt (3))), xi (Int32.ofInt (1)), xf 13 104]) (h := g2) (i := .invokevirtual 224) (aux := 5) (nx := 46) (K := 224) (vs := [xf 13 104, xi (Int32.ofInt (1)), xi ((ar * s) / (Int32.ofInt (3))), xi (Int32.ofInt (0)), xi (Int32.ofInt (9999))]) (rs := [xi v]) (rest := []) rfl rfl rfl rfl rfl rfl cB2 (by decide) (by decide) (Nat.le_of_ble_eq_true rfl) ⟨Nat.le_of_eq gM2.2.2.2.1, Nat.le_of_eq gM2.2.2.2.2⟩
    have t7' := t5'.tr t6'
    exact fin v m1 m2 (CX_ofT (h' := m1) (by decide) rfl rfl trivial ⟨_, _, _, rfl, rfl, rfl⟩ rfl ⟨Nat.le_of_eq gM.2.2.2.1.symm, Nat.le_of_eq gM.2.2.2.2.symm⟩ t7) (CX_ofT (h' := m2) (by decide) rfl rfl trivial ⟨_, _, _, rfl, rfl, rfl⟩ rfl ⟨Nat.le_of_eq gM2.2.2.2.1.symm, Nat.le_of_eq gM2.2.2.2.2.symm⟩ t7') gM gM2 ((vSm2_fr mN).tr (vO_fr oB)) ((vSm2_fr mN2).tr (vO_fr oB2)) (sAg_O aN oB oB2) q1 q2
set_option maxRecDepth 100000 in
set_option maxHeartbeats 2000000 in
theorem vp_232 (l : Launch) (hs : XH) : scmP l vT vR (vEs hs) 153 6051 vD (fun _ _ => True) vC_232 := by
  intro vs h h2 ha0 hg hg2 ha hR hW hP
  match vs, ha0 with
  | [.inr w, .inl (.inl b), .inl (.inl j), .inl (.inl r)], ha0 =>
    obtain rfl : w = (13, 104) := ha0.1
    have B_b : 1 ≤ b.toInt ∧ b.toInt ≤ 1 := ha0.2.1
    have B_j : 0 ≤ j.toInt ∧ j.toInt ≤ 8 := ha0.2.2.1
    have B_r : 0 ≤ r.toInt ∧ r.toInt ≤ 5 := ha0.2.2.2.1
    have fin : ∀ (v : Int32) (g g2 : XH), CX l 5 146 false 262 [xf 13 104, xi b, xi j, xi r] h [xi v] g → CX l 5 146 false 262 [xf 13 104, xi b, xi j, xi r] h2 [xi v] g2 → sgood vT vR (vEs hs) 153 6051 g → sgood vT vR (vEs hs) 153 6051 g2 → sframe ([(104, 54, false)], []) h g → sframe ([(104, 54, false)], []) h2 g2 → sAg vD (fun _ _ => True) g g2 → 1 ≤ v.toInt → v.toInt ≤ 9 → ∃ ρ rs h' h2', svals vC_232 [xf 13 104, xi b, xi j, xi r] h ρ ∧ CX l 5 146 false 262 [xf 13 104, xi b, xi j, xi r] h rs h' ∧ CX l 5 146 false 262 [xf 13 104, xi b, xi j, xi r] h2 rs h2' ∧ spost vT vR (vEs hs) 153 6051 vC_232 ρ h rs h' ∧ spost vT vR (vEs hs) 153 6051 vC_232 ρ h2 rs h2' ∧ sAg vD (fun _ _ => True) h' h2' := fun v g g2 c c2 G G2 F F2 ag q1 q2 => by
      have sc : ∀ g : XH, scas vC_232 (fun n => match n with | 0 => b.toInt | 1 => j.toInt | _ => r.toInt) ([(1, 1), (0, 8), (0, 5)], [], some (.inl (1, 9)), [], [], []) [xi v] g := fun g => scas_one (fun i q hq => by
        match i, hq with
        | 0, hq => obtain rfl := Option.some.inj hq; exact B_b
        | 1, hq => obtain rfl := Option.some.inj hq; exact B_j
        | 2, hq => obtain rfl := Option.some.inj hq; exact B_r) (fun i q hq => by cases hq) ⟨q1, q2⟩
      exact ⟨_, _, g, g2, ⟨⟨rfl, rfl, rfl, trivial⟩, fun i q hq => by cases hq⟩, c, c2, ⟨G, F, _, List.mem_singleton.mpr rfl, sc g⟩, ⟨G2, F2, _, List.mem_singleton.mpr rfl, sc g2⟩, ag⟩
    have e6 : (Int32.ofInt (6)).toInt = 6 := rfl
    have x1 : ((Int32.ofInt (6)) * b).toInt = 6 * b.toInt := by
      rw [Int32.toInt_mul, e6]
      exact Int.bmod_eq_of_le (by omega) (by omega)
    have x2 : (((Int32.ofInt (6)) * b) + r).toInt = 6 * b.toInt + r.toInt := by
      rw [Int32.toInt_add, x1]
      exact Int.bmod_eq_of_le (by omega) (by omega)
    have bs := vbnd hg.1 133 (((Int32.ofInt (6)) * b) + r).toNatClampNeg
    have bt := vT_ok 133 (((Int32.ofInt (6)) * b) + r).toNatClampNeg
    have bt : (-1 : Int) ≤ (vI 133 (((Int32.ofInt (6)) * b) + r).toNatClampNeg).1 ∧ (vI 133 (((Int32.ofInt (6)) * b) + r).toNatClampNeg).2 ≤ 10 := bt
    have bs2 : -1 ≤ (xI h 133 (((Int32.ofInt (6)) * b) + r).toNatClampNeg).toInt ∧ (xI h 133 (((Int32.ofInt (6)) * b) + r).toNatClampNeg).toInt ≤ 10 := ⟨Int.le_trans bt.1 bs.1, Int.le_trans bs.2 bt.2⟩
    have us : xI h2 133 (((Int32.ofInt (6)) * b) + r).toNatClampNeg = xI h 133 (((Int32.ofInt (6)) * b) + r).toNatClampNeg := (ha.1 _ _ rfl (by show (((Int32.ofInt (6)) * b) + r).toInt.toNat < 12; omega)).symm
    have b2 := vbnd hg.1 115 j.toNatClampNeg
    rw [vI_u rfl (rfl : vRow 115 = (0, 9))] at b2
    have b2 : 0 ≤ (xI h 115 j.toNatClampNeg).toInt ∧ (xI h 115 j.toNatClampNeg).toInt ≤ 9 := b2
    have u2 : xI h2 115 j.toNatClampNeg = xI h 115 j.toNatClampNeg := (ha.1 _ _ rfl (by show j.toInt.toNat < 18; omega)).symm
    have t1 : XT l 5 146 false 262 153 6051 0 [xf 13 104, xi b, xi j, xi r, xun] [] h 26 [xf 13 104, xi b, xi j, xi r, xi (xI h (xR h 104 55) ((((Int32.ofInt (6)) * b) + r)).toNatClampNeg)] [xi (xI h (xR h 104 30) (j).toNatClampNeg), xi (Int32.ofInt (0)), xi (Int32.ofInt (0)), xi (xI h (xR h 104 55) ((((Int32.ofInt (6)) * b) + r)).toNatClampNeg), xi r, xi b, xf 13 104] h := XT_path (l := l) (fr := 5) (lo := 146) (full := false) (M := 262) (n := 153) (u := 6051) (pc := 0) (L := [xf 13 104, xi b, xi j, xi r, xun]) (st := []) (h := h) (inl := []) (n' := 80) (sp := [26]) (o := []) rfl rfl ⟨rfl, rfl, rfl⟩ rfl ⟨Nat.le_of_eq hg.2.2.2.1, Nat.le_of_eq hg.2.2.2.2⟩ ⟨⟨⟨⟨trivial, (vnn hg.1 (rfl : vRf 104 55 = [133]) (by decide))⟩, (vp_of (i := (((Int32.ofInt (6)) * b) + r)) (n := 12) (by omega) (by omega))⟩, (vnn hg.1 (rfl : vRf 104 30 = [115]) (by decide))⟩, (vp_of (i := j) (n := 18) (by omega) (by omega))⟩
    rw [vref hg.1 (rfl : vRf 104 55 = [133]), vref hg.1 (rfl : vRf 104 30 = [115])] at t1
    have t1' : XT l 5 146 false 262 153 6051 0 [xf 13 104, xi b, xi j, xi r, xun] [] h2 26 [xf 13 104, xi b, xi j, xi r, xi (xI h2 (xR h2 104 55) ((((Int32.ofInt (6)) * b) + r)).toNatClampNeg)] [xi (xI h2 (xR h2 104 30) (j).toNatClampNeg), xi (Int32.ofInt (0)), xi (Int32.ofInt (0)), xi (xI h2 (xR h2 104 55) ((((Int32.ofInt (6)) * b) + r)).toNatClampNeg), xi r, xi b, xf 13 104] h2 := XT_path (l := l) (fr := 5) (lo := 146) (full := false) (M := 262) (n := 153) (u := 6051) (pc := 0) (L := [xf 13 104, xi b, xi j, xi r, xun]) (st := []) (h := h2) (inl := []) (n' := 80) (sp := [26]) (o := []) rfl rfl ⟨rfl, rfl, rfl⟩ rfl ⟨Nat.le_of_eq hg2.2.2.2.1, Nat.le_of_eq hg2.2.2.2.2⟩ ⟨⟨⟨⟨trivial, (vnn hg2.1 (rfl : vRf 104 55 = [133]) (by decide))⟩, (vp_of (i := (((Int32.ofInt (6)) * b) + r)) (n := 12) (by omega) (by omega))⟩, (vnn hg2.1 (rfl : vRf 104 30 = [115]) (by decide))⟩, (vp_of (i := j) (n := 18) (by omega) (by omega))⟩
    rw [vref hg2.1 (rfl : vRf 104 55 = [133]), vref hg2.1 (rfl : vRf 104 30 = [115])] at t1'
    rw [us] at t1'
    rw [u2] at t1'
    obtain ⟨s, es⟩ : ∃ a, a = xI h 133 (((Int32.ofInt (6)) * b) + r).toNatClampNeg := ⟨_, rfl⟩
    rw [← es] at t1 t1' bs2
    obtain ⟨ar, ea⟩ : ∃ a, a = xI h 115 j.toNatClampNeg := ⟨_, rfl⟩
    rw [← ea] at t1 t1' b2
    obtain ⟨g, g2, cN, cN2, gG, gG2, mN, mN2, aN⟩ := vp_names l hs b r s (Int32.ofInt (0)) (Int32.ofInt (0)) ar h h2 hg hg2 ha (by omega) (by omega)
    have t2 : XT l 5 146 false 262 153 6051 26 [xf 13 104, xi b, xi j, xi r, xi s] [xi ar, xi (Int32.ofInt (0)), xi (Int32.ofInt (0)), xi s, xi r, xi b, xf 13 104] h 29 [xf 13 104, xi b, xi j, xi r, xi s] [] g := XT_call (l := l) (fr := 5) (lo := 146) (full := false) (M := 262) (n := 153) (u := 6051) (pc := 26) (L := [xf 13 104, xi b, xi j, xi r, xi s]) (st := [xi ar, xi (Int32.ofInt (0)), xi (Int32.ofInt (0)), xi s, xi r, xi b, xf 13 104]) (h := h) (i := .invokevirtual 219) (aux := 7) (nx := 29) (K := 219) (vs := [xf 13 104, xi b, xi r, xi s, xi (Int32.ofInt (0)), xi (Int32.ofInt (0)), xi ar]) (rs := []) (rest := []) rfl rfl rfl rfl rfl rfl cN (by decide) (by decide) (Nat.le_of_ble_eq_true rfl) ⟨Nat.le_of_eq gG.2.2.2.1, Nat.le_of_eq gG.2.2.2.2⟩
    have t3 := t1.tr t2
    have t2' : XT l 5 146 false 262 153 6051 26 [xf 13 104, xi b, xi j, xi r, xi s] [xi ar, xi (Int32.ofInt (0)), xi (Int32.ofInt (0)), xi s, xi r, xi b, xf 13 104] h2 29 [xf 13 104, xi b, xi j, xi r, xi s] [] g2 := XT_call (l := l) (fr := 5) (lo := 146) (full := false) (M := 262) (n := 153) (u := 6051) (pc := 26) (L := [xf 13 104, xi b, xi j, xi r, xi s]) (st := [xi ar, xi (Int32.ofInt (0)), xi (Int32.ofInt (0)), xi s, xi r, xi b, xf 13 104]) (h := h2) (i := .invokevirtual 219) (aux := 7) (nx := 29) (K := 219) (vs := [xf 13 104, xi b, xi r, xi s, xi (Int32.ofInt (0)), xi (Int32.ofInt (0)), xi ar]) (rs := []) (rest := []) rfl rfl rfl rfl rfl rfl cN2 (by decide) (by decide) (Nat.le_of_ble_eq_true rfl) ⟨Nat.le_of_eq gG2.2.2.2.1, Nat.le_of_eq gG2.2.2.2.2⟩
    have t3' := t1'.tr t2'
    have t4 : XT l 5 146 false 262 153 6051 29 [xf 13 104, xi b, xi j, xi r, xi s] [] g 48 [xf 13 104, xi b, xi j, xi r, xi s] [xi (Int32.ofInt (9)), xi (Int32.ofInt (1)), xi ((Int32.ofInt (1)) + (((xI g (xR g 104 30) (j).toNatClampNeg) * s) / (Int32.ofInt (20)))), xi (Int32.ofInt (2)), xf 13 104] g := XT_path (l := l) (fr := 5) (lo := 146) (full := false) (M := 262) (n := 153) (u := 6051) (pc := 29) (L := [xf 13 104, xi b, xi j, xi r, xi s]) (st := []) (h := g) (inl := []) (n' := 80) (sp := [48]) (o := []) rfl rfl ⟨rfl, rfl, rfl⟩ rfl ⟨Nat.le_of_eq gG.2.2.2.1, Nat.le_of_eq gG.2.2.2.2⟩ ⟨⟨⟨trivial, (vnn gG.1 (rfl : vRf 104 30 = [115]) (by decide))⟩, (vp_of (i := j) (n := 18) (by omega) (by omega))⟩, (by decide)⟩
    rw [vref gG.1 (rfl : vRf 104 30 = [115])] at t4
    have t5 := t3.tr t4
    have t4' : XT l 5 146 false 262 153 6051 29 [xf 13 104, xi b, xi j, xi r, xi s] [] g2 48 [xf 13 104, xi b, xi j, xi r, xi s] [xi (Int32.ofInt (9)), xi (Int32.ofInt (1)), xi ((Int32.ofInt (1)) + (((xI g2 (xR g2 104 30) (j).toNatClampNeg) * s) / (Int32.ofInt (20)))), xi (Int32.ofInt (2)), xf 13 104] g2 := XT_path (l := l) (fr := 5) (lo := 146) (full := false) (M := 262) (n := 153) (u := 6051) (pc := 29) (L := [xf 13 104, xi b, xi j, xi r, xi s]) (st := []) (h := g2) (inl := []) (n' := 80) (sp := [48]) (o := []) rfl rfl ⟨rfl, rfl, rfl⟩ rfl ⟨Nat.le_of_eq gG2.2.2.2.1, Nat.le_of_eq gG2.2.2.2.2⟩ ⟨⟨⟨trivial, (vnn gG2.1 (rfl : vRf 104 30 = [115]) (by decide))⟩, (vp_of (i := j) (n := 18) (by omega) (by omega))⟩, (by decide)⟩
    rw [vref gG2.1 (rfl : vRf 104 30 = [115])] at t4'
    have t5' := t3'.tr t4'
    rw [mN.1 115 j.toNatClampNeg, ← ea] at t5
    rw [mN2.1 115 j.toNatClampNeg, u2, ← ea] at t5'
    obtain ⟨-, z1, z2⟩ := i32_mulS (a := ar) (s := s) (by omega) bs2
    have z3 := i32_quo (x := ar * s) (d := 20) (a := 0) (b := 5) (by decide) (by omega) (by decide) (by decide)
    have e1 : (Int32.ofInt (1)).toInt = 1 := rfl
    have ey : ((Int32.ofInt (1)) + ((ar * s) / (Int32.ofInt (20)))).toInt = 1 + ((ar * s) / Int32.ofInt (20)).toInt := by
      rw [Int32.toInt_add, e1]
      exact Int.bmod_eq_of_le (by omega) (by omega)
    obtain ⟨v, m1, m2, cB, cB2, oB, oB2, q1, q2⟩ := vp_bound l (Int32.ofInt (2)) ((Int32.ofInt (1)) + ((ar * s) / (Int32.ofInt (20)))) (Int32.ofInt (1)) (Int32.ofInt (9)) (by decide) (by decide) (A := 1) (B := 9) (by decide) (by decide) ⟨by omega, by decide⟩ ⟨by omega, by decide⟩ ⟨by decide, by decide⟩ g g2 (sgS_E gG) (sgS_E gG2) (sAg_k aN) aN.2.2
    have gM := sgS_O gG oB
    have gM2 := sgS_O gG2 oB2
    have t6 : XT l 5 146 false 262 153 6051 48 [xf 13 104, xi b, xi j, xi r, xi s] [xi (Int32.ofInt (9)), xi (Int32.ofInt (1)), xi ((Int32.ofInt (1)) + ((ar * s) / (Int32.ofInt (20)))), xi (Int32.ofInt (2)), xf 13 104] g 51 [xf 13 104, xi b, xi j, xi r, xi s] [xi v] m1 := XT_call (l := l) (fr := 5) (lo := 146) (full := false) (M := 262) (n := 153) (u := 6051) (pc := 48) (L := [xf 13 104, xi b, xi j, xi r, xi s]) (st := [xi (Int32.ofInt (9)), xi (Int32.ofInt (1)), xi ((Int32.ofInt (1)) + ((ar * s) / (Int32.ofInt (20)))), xi (Int32.ofInt (2)), xf 13 104]) (h := g) (i := .invokevirtual 224) (aux := 5) (nx := 51) (K := 224) (vs := [xf 13 104, xi (Int32.ofInt (2)), xi ((Int32.ofInt (1)) + ((ar * s) / (Int32.ofInt (20)))), xi (Int32.ofInt (1)), xi (Int32.ofInt (9))]) (rs := [xi v]) (rest := []) rfl rfl rfl rfl rfl rfl cB (by decide) (by decide) (Nat.le_of_ble_eq_true rfl) ⟨Nat.le_of_eq gM.2.2.2.1, Nat.le_of_eq gM.2.2.2.2⟩
    have t7 := t5.tr t6
    have t6' : XT l 5 146 false 262 153 6051 48 [xf 13 104, xi b, xi j, xi r, xi s] [xi (Int32.ofInt (9)), xi (Int32.ofInt (1)), xi ((Int32.ofInt (1)) + ((ar * s) / (Int32.ofInt (20)))), xi (Int32.ofInt (2)), xf 13 104] g2 51 [xf 13 104, xi b, xi j, xi r, xi s] [xi v] m2 := XT_call (l := l) (fr := 5) (lo := 146) (full := false) (M := 262) (n := 153) (u := 6051) (pc := 48) (L := [xf 13 104, xi b, xi j, xi r, xi s]) (st := [xi (Int32.ofInt (9)), xi (Int32.ofInt (1)), xi ((Int32.ofInt (1)) + ((ar * s) / (Int32.ofInt (20)))), xi (Int32.ofInt (2)), xf 13 104]) (h := g2) (i := .invokevirtual 224) (aux := 5) (nx := 51) (K := 224) (vs := [xf 13 104, xi (Int32.ofInt (2)), xi ((Int32.ofInt (1)) + ((ar * s) / (Int32.ofInt (20)))), xi (Int32.ofInt (1)), xi (Int32.ofInt (9))]) (rs := [xi v]) (rest := []) rfl rfl rfl rfl rfl rfl cB2 (by decide) (by decide) (Nat.le_of_ble_eq_true rfl) ⟨Nat.le_of_eq gM2.2.2.2.1, Nat.le_of_eq gM2.2.2.2.2⟩
    have t7' := t5'.tr t6'
    exact fin v m1 m2 (CX_ofT (h' := m1) (by decide) rfl rfl trivial ⟨_, _, _, rfl, rfl, rfl⟩ rfl ⟨Nat.le_of_eq gM.2.2.2.1.symm, Nat.le_of_eq gM.2.2.2.2.symm⟩ t7) (CX_ofT (h' := m2) (by decide) rfl rfl trivial ⟨_, _, _, rfl, rfl, rfl⟩ rfl ⟨Nat.le_of_eq gM2.2.2.2.1.symm, Nat.le_of_eq gM2.2.2.2.2.symm⟩ t7') gM gM2 ((vSm2_fr mN).tr (vO_fr oB)) ((vSm2_fr mN2).tr (vO_fr oB2)) (sAg_O aN oB oB2) q1 q2
