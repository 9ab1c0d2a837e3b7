/-! CONTRACTS BY HAND: longs brought down to ints. -/
theorem lgc_ge {x y : Int64} (h : (0 : Int32) ≤ lg_cmp x y) : y.toInt ≤ x.toInt := by
  unfold lg_cmp at h
  split at h
  · rename_i hg
    exact Int.le_of_lt (Int64.lt_iff_toInt_lt.mp hg)
  · split at h
    · rename_i he
      rw [he]
      exact Int.le_refl _
    · exact absurd h (by decide)
theorem lgc_le {x y : Int64} (h : lg_cmp x y ≤ (0 : Int32)) : x.toInt ≤ y.toInt := by
  unfold lg_cmp at h
  split at h
  · exact absurd h (by decide)
  · rename_i hg
    exact Int64.le_iff_toInt_le.mp (Int64.not_lt.mp hg)
theorem i64_32 {x : Int64} {a b : Int} (h1 : a ≤ x.toInt) (h2 : x.toInt ≤ b) (ra : -2147483648 ≤ a) (rb : b ≤ 2147483647) : a ≤ x.toInt32.toInt ∧ x.toInt32.toInt ≤ b := by
  have e : x.toInt32.toInt = x.toInt := by
    rw [Int64.toInt_toInt32]
    exact Int.bmod_eq_of_le (by omega) (by omega)
  rw [e]
  exact ⟨h1, h2⟩
theorem i64_and {x m : Int64} (hm : 0 ≤ m.toInt) : 0 ≤ (x &&& m).toInt ∧ (x &&& m).toInt ≤ m.toInt := by
  have hb : m.toBitVec.toNat < 2 ^ 63 := by
    have h1 : m.toInt = m.toBitVec.toInt := rfl
    rw [h1, BitVec.toInt_eq_toNat_cond] at hm
    split at hm
    · omega
    · have := m.toBitVec.isLt
      omega
  have em : m.toInt = (m.toBitVec.toNat : Int) := by
    show m.toBitVec.toInt = _
    rw [BitVec.toInt_eq_toNat_of_lt (by omega)]
  have hle : (x &&& m).toBitVec.toNat ≤ m.toBitVec.toNat := by
    rw [Int64.toBitVec_and, BitVec.toNat_and]
    exact Nat.and_le_right
  have ex : (x &&& m).toInt = ((x &&& m).toBitVec.toNat : Int) := by
    show (x &&& m).toBitVec.toInt = _
    rw [BitVec.toInt_eq_toNat_of_lt (by omega)]
  rw [ex, em]
  omega
theorem i64_div {x y : Int64} (hx : 0 ≤ x.toInt) (hy : 0 < y.toInt) : 0 ≤ (x / y).toInt ∧ (x / y).toInt = x.toInt / y.toInt := by
  have h2 := Int64.toInt_lt x
  have q0 : 0 ≤ x.toInt / y.toInt := Int.ediv_nonneg hx (Int.le_of_lt hy)
  have q1 : x.toInt / y.toInt ≤ x.toInt := Int.ediv_le_self _ hx
  have e : (x / y).toInt = x.toInt / y.toInt := by
    rw [Int64.toInt_div, Int.tdiv_eq_ediv_of_nonneg hx]
    exact Int.bmod_eq_of_le (by omega) (by omega)
  rw [e]
  exact ⟨q0, rfl⟩
theorem scas_one {C : SCt} {ρ : Nat → Int} {a b : List SI} {r : SRs} {rs : List XV} {h' : XH} (h1 : ∀ i q, a[i]? = some q → q.1 ≤ ρ i ∧ ρ i ≤ q.2) (h2 : ∀ i q, b[i]? = some q → q.1 ≤ ρ (sarn (cap C) + i) ∧ ρ (sarn (cap C) + i) ≤ q.2) (h3 : sres r rs) : scas C ρ (a, b, r, [], [], []) rs h' :=
  ⟨h1, h2, h3, fun q hq => absurd hq List.not_mem_nil, fun q hq => absurd hq List.not_mem_nil, fun q hq => absurd hq List.not_mem_nil⟩
/-- longs written: all else is as it was -/
theorem sgood_L {h : XH} {c k : Nat} {v : Int64} (hg : sgood vT vR vE 153 6051 h) : sgood vT vR vE 153 6051 (xsetL h c k v) :=
  ⟨hg.1, hg.2.1, vtab.2.2.2 h _ (fun _ _ _ => rfl) hg.2.2.1, hg.2.2.2⟩
set_option maxRecDepth 100000 in
theorem vh_within (l : Launch) (a b : Int) (hab : a ≤ b) (ra : -2147483648 ≤ a) (rb : b ≤ 2147483647) : scm l vT vR vE 153 6051 (80, 0, 0, [.inr (.inl false), .inl (a, a), .inl (b, b)], [], [], [([(a, a), (b, b)], [], some (.inl (a, b)), [], [], [])], ([], []), []) := by
  intro vs h ha hg hR hW hP
  match vs, ha with
  | [.inl (.inr x), .inl (.inl u), .inl (.inl v)], ha =>
    have hu : a ≤ u.toInt ∧ u.toInt ≤ a := ha.2.1
    have hv : b ≤ v.toInt ∧ v.toInt ≤ b := ha.2.2.1
    have fin : ∀ w : Int32, a ≤ w.toInt → w.toInt ≤ b → CX l 0 0 false 80 [xl x, xi u, xi v] h [xi w] h → ∃ ρ rs h', svals (80, 0, 0, [.inr (.inl false), .inl (a, a), .inl (b, b)], [], [], [([(a, a), (b, b)], [], some (.inl (a, b)), [], [], [])], ([], []), []) [xl x, xi u, xi v] h ρ ∧ CX l 0 0 false 80 [xl x, xi u, xi v] h rs h' ∧ spost vT vR vE 153 6051 (80, 0, 0, [.inr (.inl false), .inl (a, a), .inl (b, b)], [], [], [([(a, a), (b, b)], [], some (.inl (a, b)), [], [], [])], ([], []), []) ρ h rs h' := fun w w1 w2 hX => by
      refine ⟨fun i => if i = 0 then u.toInt else v.toInt, [xi w], h, ⟨⟨rfl, rfl, trivial⟩, fun i q hq => by cases hq⟩, hX, hg, sframe.rf, _, List.mem_singleton.mpr rfl, scas_one (fun i q hq => ?_) (fun i q hq => by cases hq) ⟨w1, w2⟩⟩
      match i, hq with
      | 0, hq =>
        obtain rfl := Option.some.inj hq
        exact hu
      | 1, hq =>
        obtain rfl := Option.some.inj hq
        exact hv
    by_cases h1 : (0 : Int32) ≤ lg_cmp x u.toInt64
    · by_cases h2 : lg_cmp x v.toInt64 ≤ (0 : Int32)
      · have z1 := lgc_ge h1
        have z2 := lgc_le h2
        rw [Int32.toInt_toInt64] at z1 z2
        have z := i64_32 (x := x) (a := a) (b := b) (by omega) (by omega) ra rb
        exact fin _ z.1 z.2 (CX_path (l := l) (full := false) (inl := []) (n := 30) (fr := 0) (lo := 0) (K := 80) (vs := [xl x, xi u, xi v]) (h := h) (o := [1, 1]) rfl rfl rfl rfl rfl ⟨⟨trivial, h1⟩, h2⟩)
      · exact fin v (by omega) (by omega) (CX_path (l := l) (full := false) (inl := []) (n := 30) (fr := 0) (lo := 0) (K := 80) (vs := [xl x, xi u, xi v]) (h := h) (o := [1, 0]) rfl rfl rfl rfl rfl ⟨⟨trivial, h1⟩, h2⟩)
    · exact fin u (by omega) (by omega) (CX_path (l := l) (full := false) (inl := []) (n := 30) (fr := 0) (lo := 0) (K := 80) (vs := [xl x, xi u, xi v]) (h := h) (o := [0]) rfl rfl rfl rfl rfl ⟨trivial, h1⟩)
set_option maxRecDepth 100000 in
theorem vh_next (l : Launch) : scm l vT vR vE 153 6051 (158, 0, 0, [.inr (.inr (3, 103))], [], [], [([], [], some (.inl (0, 32767)), [], [], [])], ([], []), []) := by
  intro vs h ha hg hR hW hP
  match vs, ha with
  | [.inr w], ha =>
    obtain rfl : w = (3, 103) := ha.1
    have hX := CX_path (l := l) (full := false) (inl := []) (n := 30) (fr := 0) (lo := 0) (K := 158) (vs := [xf 3 103]) (h := h) (o := []) rfl rfl rfl rfl rfl ⟨trivial, by decide⟩
    have b1 : 0 ≤ ((xL h 103 0 * 1103515245 + 12345) &&& 2147483647 : Int64).toInt ∧ ((xL h 103 0 * 1103515245 + 12345) &&& 2147483647 : Int64).toInt ≤ 2147483647 := i64_and (m := 2147483647) (by decide)
    have b2 := i64_div (y := 65536) b1.1 (by decide)
    have e65 : (65536 : Int64).toInt = 65536 := rfl
    rw [e65] at b2
    have z := i64_32 (x := ((xL h 103 0 * 1103515245 + 12345) &&& 2147483647) / 65536) (a := 0) (b := 32767) b2.1 (by rw [b2.2]; omega) (by omega) (by omega)
    refine ⟨fun _ => 0, _, _, ⟨trivial, fun i q hq => by cases hq⟩, hX, sgood_L hg, ⟨fun _ _ _ => rfl, fun _ _ _ => rfl⟩, _, List.mem_singleton.mpr rfl, scas_one (fun i q hq => by cases hq) (fun i q hq => by cases hq) ?_⟩
    exact z
theorem i64_rem {x y : Int64} (hx : 0 ≤ x.toInt) (hy : 0 < y.toInt) : 0 ≤ (x - x / y * y).toInt ∧ (x - x / y * y).toInt < y.toInt := by
  have h2 := Int64.toInt_lt x
  obtain ⟨q0, q1⟩ := i64_div hx hy
  have m0 : 0 ≤ x.toInt / y.toInt * y.toInt := Int.mul_nonneg (by rw [← q1]; exact q0) (Int.le_of_lt hy)
  have m1 : x.toInt / y.toInt * y.toInt ≤ x.toInt := Int.ediv_mul_le _ (by omega)
  have e1 : (x / y * y).toInt = x.toInt / y.toInt * y.toInt := by
    rw [Int64.toInt_mul, q1]
    exact Int.bmod_eq_of_le (by omega) (by omega)
  have em : x.toInt - x.toInt / y.toInt * y.toInt = x.toInt % y.toInt := by
    rw [Int.emod_def, Int.mul_comm]
  have n0 := Int.emod_nonneg x.toInt (b := y.toInt) (by omega)
  have n1 := Int.emod_lt_of_pos x.toInt hy
  have h3 := Int64.toInt_lt y
  have e2 : (x - x / y * y).toInt = x.toInt % y.toInt := by
    rw [Int64.toInt_sub, e1, em]
    exact Int.bmod_eq_of_le (by omega) (by omega)
  rw [e2]
  exact ⟨n0, n1⟩
set_option maxRecDepth 100000 in
theorem vh_number1 (l : Launch) (n : Int) (hn : 1 ≤ n) (hm : n ≤ 2147483647) : scm l vT vR vE 153 6051 (280, 0, 0, [.inr (.inr (13, 104)), .inl (n, n)], [], [], [([(n, n)], [], some (.inl (0, n - 1)), [], [], [])], ([], []), []) := by
  intro vs h ha hg hR hW hP
  match vs, ha with
  | [.inr w, .inl (.inl u)], ha =>
    obtain rfl : w = (13, 104) := ha.1
    have hu : n ≤ u.toInt ∧ u.toInt ≤ n := ha.2.1
    have eu : u.toInt64.toInt = n := by
      rw [Int32.toInt_toInt64]
      omega
    have hu0 : ¬ u.toInt64 = 0 := fun z => by
      rw [z] at eu
      have e0 : (0 : Int64).toInt = 0 := rfl
      omega
    have hX := CX_path (l := l) (full := false) (inl := []) (n := 30) (fr := 0) (lo := 0) (K := 280) (vs := [xf 13 104, xi u]) (h := h) (o := []) rfl rfl rfl rfl rfl ⟨⟨trivial, by decide⟩, hu0⟩
    have b1 : 0 ≤ ((xL h 104 62 * 1103515245 + 12345) &&& 2147483647 : Int64).toInt ∧ ((xL h 104 62 * 1103515245 + 12345) &&& 2147483647 : Int64).toInt ≤ 2147483647 := i64_and (m := 2147483647) (by decide)
    have b2 := i64_div (y := 65536) b1.1 (by decide)
    have b3 := i64_rem (y := u.toInt64) b2.1 (by omega)
    rw [eu] at b3
    have z := i64_32 (a := 0) (b := n - 1) b3.1 (by omega) (by omega) (by omega)
    refine ⟨fun _ => n, _, _, ⟨⟨by show n = u.toInt; omega, trivial⟩, fun i q hq => by cases hq⟩, hX, sgood_L hg, ⟨fun _ _ _ => rfl, fun _ _ _ => rfl⟩, _, List.mem_singleton.mpr rfl, scas_one (fun i q hq => ?_) (fun i q hq => by cases hq) ?_⟩
    · match i, hq with
      | 0, hq =>
        obtain rfl := Option.some.inj hq
        exact ⟨Int.le_refl _, Int.le_refl _⟩
    · exact z
