/-! THE VALUE OF A LAW'S KNOT. -/
def zbnd (x : Int) : Option Int := if 1000000000000 < x ∨ x < -1000000000000 then none else some x
def zbin (c a b : Int) : Option Int :=
  if c = 13 then zbnd (a + b) else if c = 14 then zbnd (a - b) else if c = 15 then zbnd (a * b)
  else if c = 16 then (if b = 0 then none else some (a.tdiv b))
  else if c = 7 then some (if a < b then 1 else 0) else if c = 8 then some (if a ≤ b then 1 else 0) else if c = 9 then some (if a = b then 1 else 0)
  else if c = 10 then some (if ¬ a = b then 1 else 0) else if c = 11 then some (if b ≤ a then 1 else 0) else if c = 12 then some (if b < a then 1 else 0)
  else if c = 31 then some (if ¬ a = 0 ∧ ¬ b = 0 then 1 else 0) else some (if ¬ a = 0 ∨ ¬ b = 0 then 1 else 0)
def zop (Z nm V : Nat → Int) (i : Nat) : Option Int :=
  if Z (300 + i) = 2 then some (Z (500 + i)) else if 33 ≤ Z (300 + i) then some (nm (Z (500 + i)).toNat)
  else if Z (300 + i) = 32 then some (if V (Z (500 + i)).toNat = 0 then 1 else 0)
  else zbin (Z (300 + i)) (V (Z (500 + i)).toNat) (V (Z (600 + i)).toNat)
def zlw (Z nm : Nat → Int) : Nat → Nat → (Nat → Int) → Option (Nat → Int)
  | 0, _, V => some V
  | m + 1, i, V => match zop Z nm V i with
    | none => none
    | some v => zlw Z nm m (i + 1) (zs V i v)
/-- the value of the law w; none: an error, or it isn't told -/
def zL (Z nm : Nat → Int) (w : Nat) : Option Int :=
  if Z (240 + w) < Z (250 + w) then
    (match zlw Z nm ((Z (250 + w)).toNat - (Z (240 + w)).toNat) (Z (240 + w)).toNat (fun _ => 0) with
    | none => none
    | some V => some (V ((Z (250 + w)).toNat - 1)))
  else none
def zM (a : Int64) : Prop := -1000000000000 ≤ a.toInt ∧ a.toInt ≤ 1000000000000
theorem lgi_lt {x y : Int64} : (lg_cmp x y < 0) ↔ x.toInt < y.toInt := (lg_cmp_lt x y).trans Int64.lt_iff_toInt_lt
theorem lgi_le {x y : Int64} : (lg_cmp x y ≤ 0) ↔ x.toInt ≤ y.toInt := (lg_cmp_le x y).trans Int64.le_iff_toInt_le
theorem lgi_gt {x y : Int64} : (0 < lg_cmp x y) ↔ y.toInt < x.toInt := (lg_cmp_gt x y).trans Int64.lt_iff_toInt_lt
theorem lgi_ge {x y : Int64} : (0 ≤ lg_cmp x y) ↔ y.toInt ≤ x.toInt := (lg_cmp_ge x y).trans Int64.le_iff_toInt_le
theorem lgi_eq {x y : Int64} : (lg_cmp x y = 0) ↔ x.toInt = y.toInt := (lg_cmp_eq x y).trans Int64.toInt_inj.symm
theorem zl_add {a b : Int64} (ha : zM a) (hb : zM b) : (a + b).toInt = a.toInt + b.toInt := by
  unfold zM at ha hb
  rw [Int64.toInt_add]
  exact Int.bmod_eq_of_le (by omega) (by omega)
theorem zl_sub {a b : Int64} (ha : zM a) (hb : zM b) : (a - b).toInt = a.toInt - b.toInt := by
  unfold zM at ha hb
  rw [Int64.toInt_sub]
  exact Int.bmod_eq_of_le (by omega) (by omega)
theorem zl_neg {a : Int64} (ha : zM a) : (-a).toInt = -a.toInt := by
  unfold zM at ha
  rw [Int64.toInt_neg]
  exact Int.bmod_eq_of_le (by omega) (by omega)
theorem zl_mul {a b : Int64} (h1 : -1000000000000 ≤ a.toInt * b.toInt) (h2 : a.toInt * b.toInt ≤ 1000000000000) : (a * b).toInt = a.toInt * b.toInt := by
  rw [Int64.toInt_mul]
  exact Int.bmod_eq_of_le (by omega) (by omega)
theorem zl_div {a b : Int64} (ha : -9223372036854775808 < a.toInt) : (a / b).toInt = a.toInt.tdiv b.toInt := by
  refine Int64.toInt_div_of_ne_left a b (fun e => ?_)
  rw [e] at ha
  exact absurd ha (by decide)
theorem zl_abs {a : Int64} (ha : zM a) : (if (0 : Int64) < a then a else -a).toInt = (a.toInt.natAbs : Int) := by
  have e0 : (0 : Int64).toInt = 0 := rfl
  split
  · rename_i h
    have := Int64.lt_iff_toInt_lt.mp h
    omega
  · rename_i h
    have := Int.not_lt.mp (fun z => h (Int64.lt_iff_toInt_lt.mpr z))
    rw [zl_neg ha]
    omega
/-- whether the product is too much, as it is looked at ahead -/
theorem zl_much {x y : Int} (hx : ¬ x = 0) : ((1000000000000 : Int).tdiv (x.natAbs : Int) < (y.natAbs : Int)) ↔ (1000000000000 < x * y ∨ x * y < -1000000000000) := by
  have e : (1000000000000 : Int).tdiv (x.natAbs : Int) = ((1000000000000 / x.natAbs : Nat) : Int) := by
    rw [Int.tdiv_eq_ediv_of_nonneg (by decide)]
    exact (Int.natCast_ediv 1000000000000 x.natAbs).symm
  rw [e]
  have k0 : 0 < x.natAbs := Int.natAbs_pos.mpr hx
  have h1 : (1000000000000 / x.natAbs < y.natAbs) ↔ 1000000000000 < y.natAbs * x.natAbs := Nat.div_lt_iff_lt_mul k0
  have h2 : (x * y).natAbs = y.natAbs * x.natAbs := by rw [Int.natAbs_mul, Nat.mul_comm]
  rw [← h2] at h1
  constructor
  · intro h
    have := h1.mp (by omega)
    omega
  · intro h
    have := h1.mpr (by omega)
    omega
theorem zl_tdiv {a b : Int} (h1 : -1000000000000 ≤ a) (h2 : a ≤ 1000000000000) : -1000000000000 ≤ a.tdiv b ∧ a.tdiv b ≤ 1000000000000 := by
  have e : (a.tdiv b).natAbs = a.natAbs / b.natAbs := Int.natAbs_tdiv a b
  have l : a.natAbs / b.natAbs ≤ a.natAbs := Nat.div_le_self _ _
  omega
/-- what the class's joined answers -/
def zjw (o : Option Int) (v : Int64) : Prop := match o with
  | none => 1000000000000 < v.toInt ∨ v.toInt < -1000000000000
  | some x => v.toInt = x ∧ -1000000000000 ≤ x ∧ x ≤ 1000000000000
theorem zjw_bd {x : Int} {v : Int64} (e : v.toInt = x) : zjw (zbnd x) v := by
  unfold zbnd
  by_cases h : 1000000000000 < x ∨ x < -1000000000000
  · rw [if_pos h]
    show 1000000000000 < v.toInt ∨ v.toInt < -1000000000000
    rw [e]
    exact h
  · rw [if_neg h]
    exact ⟨e, by omega, by omega⟩
theorem zjw_t {q : Prop} [Decidable q] (h : q) : zjw (some (if q then 1 else 0)) (Int64.ofInt (1)) := by
  rw [if_pos h]
  exact ⟨rfl, by decide, by decide⟩
theorem zjw_f {q : Prop} [Decidable q] (h : ¬ q) : zjw (some (if q then 1 else 0)) (Int64.ofInt (0)) := by
  rw [if_neg h]
  exact ⟨rfl, by decide, by decide⟩
theorem zjw_mul {a b : Int64} : a.toInt = 0 → zjw (zbnd (a.toInt * b.toInt)) (a * b) := fun h => zjw_bd (zl_mul (by rw [h, Int.zero_mul]; decide) (by rw [h, Int.zero_mul]; decide))
theorem zjw_no {x : Int} (h : 1000000000000 < x ∨ x < -1000000000000) : zjw (zbnd x) (Int64.ofInt (-9223372036854775808)) := by
  unfold zbnd
  rw [if_pos h]
  exact Or.inr (by decide)
theorem zjw_ok {a b : Int64} (h : ¬ (1000000000000 < a.toInt * b.toInt ∨ a.toInt * b.toInt < -1000000000000)) : zjw (zbnd (a.toInt * b.toInt)) (a * b) := zjw_bd (zl_mul (by omega) (by omega))
theorem zl_ab0 {a : Int64} (ha : zM a) (h : ¬ a.toInt = 0) : ¬ (if (0 : Int64) < a then a else -a) = 0 := fun e => by
  have z := zl_abs ha
  rw [e] at z
  have e0 : (0 : Int64).toInt = 0 := rfl
  omega
set_option maxRecDepth 100000 in
set_option maxHeartbeats 4000000 in
theorem ck_joined (l : Launch) (op : Int32) (a b : Int64) (h : XH) (hg : mI h) (ha : zM a) (hb : zM b) (ho : zbo op.toInt) : ∃ v, CX l 1 21 false 79 [xi op, xl a, xl b] h [xl v] h ∧ zjw (zbin op.toInt a.toInt b.toInt) v := by
  unfold zbo at ho
  have e0 : (0 : Int64).toInt = 0 := rfl
  by_cases e13 : op.toInt = 13
  · have eS : zbin op.toInt a.toInt b.toInt = zbnd (a.toInt + b.toInt) := by rw [e13]; rfl
    rw [eS]
    have t1 : XT l 1 21 false 79 153 6051 0 [xi op, xl a, xun, xl b, xun] [] h 119 [xi op, xl a, xun, xl b, xun] [xl (a + b)] h := XT_path (l := l) (fr := 1) (lo := 21) (full := false) (M := 79) (n := 153) (u := 6051) (pc := 0) (L := [xi op, xl a, xun, xl b, xun]) (st := []) (h := h) (inl := []) (n' := 80) (sp := [119]) (o := [7]) rfl rfl ⟨rfl, rfl, rfl⟩ rfl ⟨Nat.le_of_eq hg.2.2.2.1, Nat.le_of_eq hg.2.2.2.2⟩ ⟨trivial, ⟨e13, by decide⟩⟩
    exact ⟨_, CX_ofT (h' := h) (by decide) rfl rfl trivial ⟨_, _, _, rfl, rfl, rfl⟩ rfl ⟨Nat.le_of_eq hg.2.2.2.1.symm, Nat.le_of_eq hg.2.2.2.2.symm⟩ t1, zjw_bd (zl_add ha hb)⟩
  by_cases e14 : op.toInt = 14
  · have eS : zbin op.toInt a.toInt b.toInt = zbnd (a.toInt - b.toInt) := by rw [e14]; rfl
    rw [eS]
    have t2 : XT l 1 21 false 79 153 6051 0 [xi op, xl a, xun, xl b, xun] [] h 123 [xi op, xl a, xun, xl b, xun] [xl (a - b)] h := XT_path (l := l) (fr := 1) (lo := 21) (full := false) (M := 79) (n := 153) (u := 6051) (pc := 0) (L := [xi op, xl a, xun, xl b, xun]) (st := []) (h := h) (inl := []) (n' := 80) (sp := [123]) (o := [8]) rfl rfl ⟨rfl, rfl, rfl⟩ rfl ⟨Nat.le_of_eq hg.2.2.2.1, Nat.le_of_eq hg.2.2.2.2⟩ ⟨trivial, ⟨e14, by decide⟩⟩
    exact ⟨_, CX_ofT (h' := h) (by decide) rfl rfl trivial ⟨_, _, _, rfl, rfl, rfl⟩ rfl ⟨Nat.le_of_eq hg.2.2.2.1.symm, Nat.le_of_eq hg.2.2.2.2.symm⟩ t2, zjw_bd (zl_sub ha hb)⟩
  by_cases e15 : op.toInt = 15
  · have eS : zbin op.toInt a.toInt b.toInt = zbnd (a.toInt * b.toInt) := by rw [e15]; rfl
    rw [eS]
    by_cases cb3 : (lg_cmp a (Int64.ofInt (0))) = 0
    · have el_0 : (Int64.ofInt (0)).toInt = 0 := rfl
      have dcb3 : a.toInt = (Int64.ofInt (0)).toInt := lgi_eq.mp cb3
      have t4 : XT l 1 21 false 79 153 6051 0 [xi op, xl a, xun, xl b, xun] [] h 155 [xi op, xl a, xun, xl b, xun] [xl (a * b)] h := XT_path (l := l) (fr := 1) (lo := 21) (full := false) (M := 79) (n := 153) (u := 6051) (pc := 0) (L := [xi op, xl a, xun, xl b, xun]) (st := []) (h := h) (inl := []) (n' := 80) (sp := [155]) (o := [9, 1]) rfl rfl ⟨rfl, rfl, rfl⟩ rfl ⟨Nat.le_of_eq hg.2.2.2.1, Nat.le_of_eq hg.2.2.2.2⟩ ⟨⟨trivial, ⟨e15, by decide⟩⟩, cb3⟩
      exact ⟨_, CX_ofT (h' := h) (by decide) rfl rfl trivial ⟨_, _, _, rfl, rfl, rfl⟩ rfl ⟨Nat.le_of_eq hg.2.2.2.1.symm, Nat.le_of_eq hg.2.2.2.2.symm⟩ t4, zjw_mul dcb3⟩
    · have el_0 : (Int64.ofInt (0)).toInt = 0 := rfl
      have dcb3 : ¬ a.toInt = (Int64.ofInt (0)).toInt := fun z_ => cb3 (lgi_eq.mpr z_)
      by_cases cb5 : (lg_cmp (if (0 : Int64) < b then b else -b) ((Int64.ofInt (1000000000000)) / (if (0 : Int64) < a then a else -a))) ≤ 0
      · have el_1000000000000 : (Int64.ofInt (1000000000000)).toInt = 1000000000000 := rfl
        have dcb5 : (if (0 : Int64) < b then b else -b).toInt ≤ ((Int64.ofInt (1000000000000)) / (if (0 : Int64) < a then a else -a)).toInt := lgi_le.mp cb5
        have dmu := dcb5
        have t6 : XT l 1 21 false 79 153 6051 0 [xi op, xl a, xun, xl b, xun] [] h 155 [xi op, xl a, xun, xl b, xun] [xl (a * b)] h := XT_path (l := l) (fr := 1) (lo := 21) (full := false) (M := 79) (n := 153) (u := 6051) (pc := 0) (L := [xi op, xl a, xun, xl b, xun]) (st := []) (h := h) (inl := []) (n' := 80) (sp := [155]) (o := [9, 0, 1]) rfl rfl ⟨rfl, rfl, rfl⟩ rfl ⟨Nat.le_of_eq hg.2.2.2.1, Nat.le_of_eq hg.2.2.2.2⟩ ⟨⟨⟨⟨trivial, ⟨e15, by decide⟩⟩, cb3⟩, (zl_ab0 ha dcb3)⟩, cb5⟩
        have y := dmu; rw [zl_abs hb, zl_div (by decide), zl_abs ha] at y
        exact ⟨_, CX_ofT (h' := h) (by decide) rfl rfl trivial ⟨_, _, _, rfl, rfl, rfl⟩ rfl ⟨Nat.le_of_eq hg.2.2.2.1.symm, Nat.le_of_eq hg.2.2.2.2.symm⟩ t6, zjw_ok (fun z => absurd ((zl_much dcb3).mpr z) (Int.not_lt.mpr y))⟩
      · have el_1000000000000 : (Int64.ofInt (1000000000000)).toInt = 1000000000000 := rfl
        have dcb5 : ((Int64.ofInt (1000000000000)) / (if (0 : Int64) < a then a else -a)).toInt < (if (0 : Int64) < b then b else -b).toInt := Int.not_le.mp (fun z_ => cb5 (lgi_le.mpr z_))
        have dmu := dcb5
        have t7 : XT l 1 21 false 79 153 6051 0 [xi op, xl a, xun, xl b, xun] [] h 155 [xi op, xl a, xun, xl b, xun] [xl (Int64.ofInt (-9223372036854775808))] h := XT_path (l := l) (fr := 1) (lo := 21) (full := false) (M := 79) (n := 153) (u := 6051) (pc := 0) (L := [xi op, xl a, xun, xl b, xun]) (st := []) (h := h) (inl := []) (n' := 80) (sp := [155]) (o := [9, 0, 0]) rfl rfl ⟨rfl, rfl, rfl⟩ rfl ⟨Nat.le_of_eq hg.2.2.2.1, Nat.le_of_eq hg.2.2.2.2⟩ ⟨⟨⟨⟨trivial, ⟨e15, by decide⟩⟩, cb3⟩, (zl_ab0 ha dcb3)⟩, cb5⟩
        have y := dmu; rw [zl_abs hb, zl_div (by decide), zl_abs ha] at y
        exact ⟨_, CX_ofT (h' := h) (by decide) rfl rfl trivial ⟨_, _, _, rfl, rfl, rfl⟩ rfl ⟨Nat.le_of_eq hg.2.2.2.1.symm, Nat.le_of_eq hg.2.2.2.2.symm⟩ t7, zjw_no ((zl_much dcb3).mp y)⟩
  by_cases e16 : op.toInt = 16
  · have eS : zbin op.toInt a.toInt b.toInt = (if b.toInt = 0 then none else some (a.toInt.tdiv b.toInt)) := by rw [e16]; rfl
    rw [eS]
    by_cases cb8 : (lg_cmp b (Int64.ofInt (0))) = 0
    · have el_0 : (Int64.ofInt (0)).toInt = 0 := rfl
      have dcb8 : b.toInt = (Int64.ofInt (0)).toInt := lgi_eq.mp cb8
      have t9 : XT l 1 21 false 79 153 6051 0 [xi op, xl a, xun, xl b, xun] [] h 171 [xi op, xl a, xun, xl b, xun] [xl (Int64.ofInt (-9223372036854775808))] h := XT_path (l := l) (fr := 1) (lo := 21) (full := false) (M := 79) (n := 153) (u := 6051) (pc := 0) (L := [xi op, xl a, xun, xl b, xun]) (st := []) (h := h) (inl := []) (n' := 80) (sp := [171]) (o := [10, 0]) rfl rfl ⟨rfl, rfl, rfl⟩ rfl ⟨Nat.le_of_eq hg.2.2.2.1, Nat.le_of_eq hg.2.2.2.2⟩ ⟨⟨trivial, ⟨e16, by decide⟩⟩, cb8⟩
      rw [if_pos (show b.toInt = 0 from dcb8)]
      exact ⟨_, CX_ofT (h' := h) (by decide) rfl rfl trivial ⟨_, _, _, rfl, rfl, rfl⟩ rfl ⟨Nat.le_of_eq hg.2.2.2.1.symm, Nat.le_of_eq hg.2.2.2.2.symm⟩ t9, Or.inr (by decide)⟩
    · have el_0 : (Int64.ofInt (0)).toInt = 0 := rfl
      have dcb8 : ¬ b.toInt = (Int64.ofInt (0)).toInt := fun z_ => cb8 (lgi_eq.mpr z_)
      have t10 : XT l 1 21 false 79 153 6051 0 [xi op, xl a, xun, xl b, xun] [] h 171 [xi op, xl a, xun, xl b, xun] [xl (a / b)] h := XT_path (l := l) (fr := 1) (lo := 21) (full := false) (M := 79) (n := 153) (u := 6051) (pc := 0) (L := [xi op, xl a, xun, xl b, xun]) (st := []) (h := h) (inl := []) (n' := 80) (sp := [171]) (o := [10, 1]) rfl rfl ⟨rfl, rfl, rfl⟩ rfl ⟨Nat.le_of_eq hg.2.2.2.1, Nat.le_of_eq hg.2.2.2.2⟩ ⟨⟨⟨trivial, ⟨e16, by decide⟩⟩, cb8⟩, (fun z => dcb8 (by rw [z]; rfl))⟩
      rw [if_neg (show ¬ b.toInt = 0 from dcb8)]
      have y := zl_tdiv (b := b.toInt) ha.1 ha.2
      exact ⟨_, CX_ofT (h' := h) (by decide) rfl rfl trivial ⟨_, _, _, rfl, rfl, rfl⟩ rfl ⟨Nat.le_of_eq hg.2.2.2.1.symm, Nat.le_of_eq hg.2.2.2.2.symm⟩ t10, ⟨zl_div (by have := ha.1; omega), y.1, y.2⟩⟩
  by_cases e7 : op.toInt = 7
  · have eS : zbin op.toInt a.toInt b.toInt = some (if a.toInt < b.toInt then 1 else 0) := by rw [e7]; rfl
    rw [eS]
    by_cases cb11 : (0 : Int32) ≤ (lg_cmp a b)
    · have dcb11 : b.toInt ≤ a.toInt := lgi_ge.mp cb11
      have t12 : XT l 1 21 false 79 153 6051 0 [xi op, xl a, xun, xl b, xun] [] h 183 [xi op, xl a, xun, xl b, xun] [xl (Int64.ofInt (0))] h := XT_path (l := l) (fr := 1) (lo := 21) (full := false) (M := 79) (n := 153) (u := 6051) (pc := 0) (L := [xi op, xl a, xun, xl b, xun]) (st := []) (h := h) (inl := []) (n' := 80) (sp := [183]) (o := [1, 1]) rfl rfl ⟨rfl, rfl, rfl⟩ rfl ⟨Nat.le_of_eq hg.2.2.2.1, Nat.le_of_eq hg.2.2.2.2⟩ ⟨⟨trivial, ⟨e7, by decide⟩⟩, cb11⟩
      exact ⟨_, CX_ofT (h' := h) (by decide) rfl rfl trivial ⟨_, _, _, rfl, rfl, rfl⟩ rfl ⟨Nat.le_of_eq hg.2.2.2.1.symm, Nat.le_of_eq hg.2.2.2.2.symm⟩ t12, zjw_f (by omega)⟩
    · have dcb11 : a.toInt < b.toInt := Int.not_le.mp (fun z_ => cb11 (lgi_ge.mpr z_))
      have t13 : XT l 1 21 false 79 153 6051 0 [xi op, xl a, xun, xl b, xun] [] h 183 [xi op, xl a, xun, xl b, xun] [xl (Int64.ofInt (1))] h := XT_path (l := l) (fr := 1) (lo := 21) (full := false) (M := 79) (n := 153) (u := 6051) (pc := 0) (L := [xi op, xl a, xun, xl b, xun]) (st := []) (h := h) (inl := []) (n' := 80) (sp := [183]) (o := [1, 0]) rfl rfl ⟨rfl, rfl, rfl⟩ rfl ⟨Nat.le_of_eq hg.2.2.2.1, Nat.le_of_eq hg.2.2.2.2⟩ ⟨⟨trivial, ⟨e7, by decide⟩⟩, cb11⟩
      exact ⟨_, CX_ofT (h' := h) (by decide) rfl rfl trivial ⟨_, _, _, rfl, rfl, rfl⟩ rfl ⟨Nat.le_of_eq hg.2.2.2.1.symm, Nat.le_of_eq hg.2.2.2.2.symm⟩ t13, zjw_t (by omega)⟩
  by_cases e8 : op.toInt = 8
  · have eS : zbin op.toInt a.toInt b.toInt = some (if a.toInt ≤ b.toInt then 1 else 0) := by rw [e8]; rfl
    rw [eS]
    by_cases cb14 : (0 : Int32) < (lg_cmp a b)
    · have dcb14 : b.toInt < a.toInt := lgi_gt.mp cb14
      have t15 : XT l 1 21 false 79 153 6051 0 [xi op, xl a, xun, xl b, xun] [] h 195 [xi op, xl a, xun, xl b, xun] [xl (Int64.ofInt (0))] h := XT_path (l := l) (fr := 1) (lo := 21) (full := false) (M := 79) (n := 153) (u := 6051) (pc := 0) (L := [xi op, xl a, xun, xl b, xun]) (st := []) (h := h) (inl := []) (n' := 80) (sp := [195]) (o := [2, 1]) rfl rfl ⟨rfl, rfl, rfl⟩ rfl ⟨Nat.le_of_eq hg.2.2.2.1, Nat.le_of_eq hg.2.2.2.2⟩ ⟨⟨trivial, ⟨e8, by decide⟩⟩, cb14⟩
      exact ⟨_, CX_ofT (h' := h) (by decide) rfl rfl trivial ⟨_, _, _, rfl, rfl, rfl⟩ rfl ⟨Nat.le_of_eq hg.2.2.2.1.symm, Nat.le_of_eq hg.2.2.2.2.symm⟩ t15, zjw_f (by omega)⟩
    · have dcb14 : a.toInt ≤ b.toInt := Int.not_lt.mp (fun z_ => cb14 (lgi_gt.mpr z_))
      have t16 : XT l 1 21 false 79 153 6051 0 [xi op, xl a, xun, xl b, xun] [] h 195 [xi op, xl a, xun, xl b, xun] [xl (Int64.ofInt (1))] h := XT_path (l := l) (fr := 1) (lo := 21) (full := false) (M := 79) (n := 153) (u := 6051) (pc := 0) (L := [xi op, xl a, xun, xl b, xun]) (st := []) (h := h) (inl := []) (n' := 80) (sp := [195]) (o := [2, 0]) rfl rfl ⟨rfl, rfl, rfl⟩ rfl ⟨Nat.le_of_eq hg.2.2.2.1, Nat.le_of_eq hg.2.2.2.2⟩ ⟨⟨trivial, ⟨e8, by decide⟩⟩, cb14⟩
      exact ⟨_, CX_ofT (h' := h) (by decide) rfl rfl trivial ⟨_, _, _, rfl, rfl, rfl⟩ rfl ⟨Nat.le_of_eq hg.2.2.2.1.symm, Nat.le_of_eq hg.2.2.2.2.symm⟩ t16, zjw_t (by omega)⟩
  by_cases e9 : op.toInt = 9
  · have eS : zbin op.toInt a.toInt b.toInt = some (if a.toInt = b.toInt then 1 else 0) := by rw [e9]; rfl
    rw [eS]
    by_cases cb17 : (lg_cmp a b) = 0
    · have dcb17 : a.toInt = b.toInt := lgi_eq.mp cb17
      have t18 : XT l 1 21 false 79 153 6051 0 [xi op, xl a, xun, xl b, xun] [] h 207 [xi op, xl a, xun, xl b, xun] [xl (Int64.ofInt (1))] h := XT_path (l := l) (fr := 1) (lo := 21) (full := false) (M := 79) (n := 153) (u := 6051) (pc := 0) (L := [xi op, xl a, xun, xl b, xun]) (st := []) (h := h) (inl := []) (n' := 80) (sp := [207]) (o := [3, 0]) rfl rfl ⟨rfl, rfl, rfl⟩ rfl ⟨Nat.le_of_eq hg.2.2.2.1, Nat.le_of_eq hg.2.2.2.2⟩ ⟨⟨trivial, ⟨e9, by decide⟩⟩, cb17⟩
      exact ⟨_, CX_ofT (h' := h) (by decide) rfl rfl trivial ⟨_, _, _, rfl, rfl, rfl⟩ rfl ⟨Nat.le_of_eq hg.2.2.2.1.symm, Nat.le_of_eq hg.2.2.2.2.symm⟩ t18, zjw_t (by omega)⟩
    · have dcb17 : ¬ a.toInt = b.toInt := fun z_ => cb17 (lgi_eq.mpr z_)
      have t19 : XT l 1 21 false 79 153 6051 0 [xi op, xl a, xun, xl b, xun] [] h 207 [xi op, xl a, xun, xl b, xun] [xl (Int64.ofInt (0))] h := XT_path (l := l) (fr := 1) (lo := 21) (full := false) (M := 79) (n := 153) (u := 6051) (pc := 0) (L := [xi op, xl a, xun, xl b, xun]) (st := []) (h := h) (inl := []) (n' := 80) (sp := [207]) (o := [3, 1]) rfl rfl ⟨rfl, rfl, rfl⟩ rfl ⟨Nat.le_of_eq hg.2.2.2.1, Nat.le_of_eq hg.2.2.2.2⟩ ⟨⟨trivial, ⟨e9, by decide⟩⟩, cb17⟩
      exact ⟨_, CX_ofT (h' := h) (by decide) rfl rfl trivial ⟨_, _, _, rfl, rfl, rfl⟩ rfl ⟨Nat.le_of_eq hg.2.2.2.1.symm, Nat.le_of_eq hg.2.2.2.2.symm⟩ t19, zjw_f (by omega)⟩
  by_cases e10 : op.toInt = 10
  · have eS : zbin op.toInt a.toInt b.toInt = some (if ¬ a.toInt = b.toInt then 1 else 0) := by rw [e10]; rfl
    rw [eS]
    by_cases cb20 : (lg_cmp a b) = 0
    · have dcb20 : a.toInt = b.toInt := lgi_eq.mp cb20
      have t21 : XT l 1 21 false 79 153 6051 0 [xi op, xl a, xun, xl b, xun] [] h 219 [xi op, xl a, xun, xl b, xun] [xl (Int64.ofInt (0))] h := XT_path (l := l) (fr := 1) (lo := 21) (full := false) (M := 79) (n := 153) (u := 6051) (pc := 0) (L := [xi op, xl a, xun, xl b, xun]) (st := []) (h := h) (inl := []) (n' := 80) (sp := [219]) (o := [4, 1]) rfl rfl ⟨rfl, rfl, rfl⟩ rfl ⟨Nat.le_of_eq hg.2.2.2.1, Nat.le_of_eq hg.2.2.2.2⟩ ⟨⟨trivial, ⟨e10, by decide⟩⟩, cb20⟩
      exact ⟨_, CX_ofT (h' := h) (by decide) rfl rfl trivial ⟨_, _, _, rfl, rfl, rfl⟩ rfl ⟨Nat.le_of_eq hg.2.2.2.1.symm, Nat.le_of_eq hg.2.2.2.2.symm⟩ t21, zjw_f (by omega)⟩
    · have dcb20 : ¬ a.toInt = b.toInt := fun z_ => cb20 (lgi_eq.mpr z_)
      have t22 : XT l 1 21 false 79 153 6051 0 [xi op, xl a, xun, xl b, xun] [] h 219 [xi op, xl a, xun, xl b, xun] [xl (Int64.ofInt (1))] h := XT_path (l := l) (fr := 1) (lo := 21) (full := false) (M := 79) (n := 153) (u := 6051) (pc := 0) (L := [xi op, xl a, xun, xl b, xun]) (st := []) (h := h) (inl := []) (n' := 80) (sp := [219]) (o := [4, 0]) rfl rfl ⟨rfl, rfl, rfl⟩ rfl ⟨Nat.le_of_eq hg.2.2.2.1, Nat.le_of_eq hg.2.2.2.2⟩ ⟨⟨trivial, ⟨e10, by decide⟩⟩, cb20⟩
      exact ⟨_, CX_ofT (h' := h) (by decide) rfl rfl trivial ⟨_, _, _, rfl, rfl, rfl⟩ rfl ⟨Nat.le_of_eq hg.2.2.2.1.symm, Nat.le_of_eq hg.2.2.2.2.symm⟩ t22, zjw_t (by omega)⟩
  by_cases e11 : op.toInt = 11
  · have eS : zbin op.toInt a.toInt b.toInt = some (if b.toInt ≤ a.toInt then 1 else 0) := by rw [e11]; rfl
    rw [eS]
    by_cases cb23 : (lg_cmp a b) < 0
    · have dcb23 : a.toInt < b.toInt := lgi_lt.mp cb23
      have t24 : XT l 1 21 false 79 153 6051 0 [xi op, xl a, xun, xl b, xun] [] h 231 [xi op, xl a, xun, xl b, xun] [xl (Int64.ofInt (0))] h := XT_path (l := l) (fr := 1) (lo := 21) (full := false) (M := 79) (n := 153) (u := 6051) (pc := 0) (L := [xi op, xl a, xun, xl b, xun]) (st := []) (h := h) (inl := []) (n' := 80) (sp := [231]) (o := [5, 1]) rfl rfl ⟨rfl, rfl, rfl⟩ rfl ⟨Nat.le_of_eq hg.2.2.2.1, Nat.le_of_eq hg.2.2.2.2⟩ ⟨⟨trivial, ⟨e11, by decide⟩⟩, cb23⟩
      exact ⟨_, CX_ofT (h' := h) (by decide) rfl rfl trivial ⟨_, _, _, rfl, rfl, rfl⟩ rfl ⟨Nat.le_of_eq hg.2.2.2.1.symm, Nat.le_of_eq hg.2.2.2.2.symm⟩ t24, zjw_f (by omega)⟩
    · have dcb23 : b.toInt ≤ a.toInt := Int.not_lt.mp (fun z_ => cb23 (lgi_lt.mpr z_))
      have t25 : XT l 1 21 false 79 153 6051 0 [xi op, xl a, xun, xl b, xun] [] h 231 [xi op, xl a, xun, xl b, xun] [xl (Int64.ofInt (1))] h := XT_path (l := l) (fr := 1) (lo := 21) (full := false) (M := 79) (n := 153) (u := 6051) (pc := 0) (L := [xi op, xl a, xun, xl b, xun]) (st := []) (h := h) (inl := []) (n' := 80) (sp := [231]) (o := [5, 0]) rfl rfl ⟨rfl, rfl, rfl⟩ rfl ⟨Nat.le_of_eq hg.2.2.2.1, Nat.le_of_eq hg.2.2.2.2⟩ ⟨⟨trivial, ⟨e11, by decide⟩⟩, cb23⟩
      exact ⟨_, CX_ofT (h' := h) (by decide) rfl rfl trivial ⟨_, _, _, rfl, rfl, rfl⟩ rfl ⟨Nat.le_of_eq hg.2.2.2.1.symm, Nat.le_of_eq hg.2.2.2.2.symm⟩ t25, zjw_t (by omega)⟩
  by_cases e12 : op.toInt = 12
  · have eS : zbin op.toInt a.toInt b.toInt = some (if b.toInt < a.toInt then 1 else 0) := by rw [e12]; rfl
    rw [eS]
    by_cases cb26 : (lg_cmp a b) ≤ 0
    · have dcb26 : a.toInt ≤ b.toInt := lgi_le.mp cb26
      have t27 : XT l 1 21 false 79 153 6051 0 [xi op, xl a, xun, xl b, xun] [] h 243 [xi op, xl a, xun, xl b, xun] [xl (Int64.ofInt (0))] h := XT_path (l := l) (fr := 1) (lo := 21) (full := false) (M := 79) (n := 153) (u := 6051) (pc := 0) (L := [xi op, xl a, xun, xl b, xun]) (st := []) (h := h) (inl := []) (n' := 80) (sp := [243]) (o := [6, 1]) rfl rfl ⟨rfl, rfl, rfl⟩ rfl ⟨Nat.le_of_eq hg.2.2.2.1, Nat.le_of_eq hg.2.2.2.2⟩ ⟨⟨trivial, ⟨e12, by decide⟩⟩, cb26⟩
      exact ⟨_, CX_ofT (h' := h) (by decide) rfl rfl trivial ⟨_, _, _, rfl, rfl, rfl⟩ rfl ⟨Nat.le_of_eq hg.2.2.2.1.symm, Nat.le_of_eq hg.2.2.2.2.symm⟩ t27, zjw_f (by omega)⟩
    · have dcb26 : b.toInt < a.toInt := Int.not_le.mp (fun z_ => cb26 (lgi_le.mpr z_))
      have t28 : XT l 1 21 false 79 153 6051 0 [xi op, xl a, xun, xl b, xun] [] h 243 [xi op, xl a, xun, xl b, xun] [xl (Int64.ofInt (1))] h := XT_path (l := l) (fr := 1) (lo := 21) (full := false) (M := 79) (n := 153) (u := 6051) (pc := 0) (L := [xi op, xl a, xun, xl b, xun]) (st := []) (h := h) (inl := []) (n' := 80) (sp := [243]) (o := [6, 0]) rfl rfl ⟨rfl, rfl, rfl⟩ rfl ⟨Nat.le_of_eq hg.2.2.2.1, Nat.le_of_eq hg.2.2.2.2⟩ ⟨⟨trivial, ⟨e12, by decide⟩⟩, cb26⟩
      exact ⟨_, CX_ofT (h' := h) (by decide) rfl rfl trivial ⟨_, _, _, rfl, rfl, rfl⟩ rfl ⟨Nat.le_of_eq hg.2.2.2.1.symm, Nat.le_of_eq hg.2.2.2.2.symm⟩ t28, zjw_t (by omega)⟩
  by_cases e31 : op.toInt = 31
  · have eS : zbin op.toInt a.toInt b.toInt = some (if ¬ a.toInt = 0 ∧ ¬ b.toInt = 0 then 1 else 0) := by rw [e31]; rfl
    rw [eS]
    by_cases cb29 : (lg_cmp a (Int64.ofInt (0))) = 0
    · have el_0 : (Int64.ofInt (0)).toInt = 0 := rfl
      have dcb29 : a.toInt = (Int64.ofInt (0)).toInt := lgi_eq.mp cb29
      have t30 : XT l 1 21 false 79 153 6051 0 [xi op, xl a, xun, xl b, xun] [] h 261 [xi op, xl a, xun, xl b, xun] [xl (Int64.ofInt (0))] h := XT_path (l := l) (fr := 1) (lo := 21) (full := false) (M := 79) (n := 153) (u := 6051) (pc := 0) (L := [xi op, xl a, xun, xl b, xun]) (st := []) (h := h) (inl := []) (n' := 80) (sp := [261]) (o := [25, 1]) rfl rfl ⟨rfl, rfl, rfl⟩ rfl ⟨Nat.le_of_eq hg.2.2.2.1, Nat.le_of_eq hg.2.2.2.2⟩ ⟨⟨trivial, ⟨e31, by decide⟩⟩, cb29⟩
      exact ⟨_, CX_ofT (h' := h) (by decide) rfl rfl trivial ⟨_, _, _, rfl, rfl, rfl⟩ rfl ⟨Nat.le_of_eq hg.2.2.2.1.symm, Nat.le_of_eq hg.2.2.2.2.symm⟩ t30, zjw_f (by omega)⟩
    · have el_0 : (Int64.ofInt (0)).toInt = 0 := rfl
      have dcb29 : ¬ a.toInt = (Int64.ofInt (0)).toInt := fun z_ => cb29 (lgi_eq.mpr z_)
      by_cases cb31 : (lg_cmp b (Int64.ofInt (0))) = 0
      · have el_0 : (Int64.ofInt (0)).toInt = 0 := rfl
        have dcb31 : b.toInt = (Int64.ofInt (0)).toInt := lgi_eq.mp cb31
        have t32 : XT l 1 21 false 79 153 6051 0 [xi op, xl a, xun, xl b, xun] [] h 261 [xi op, xl a, xun, xl b, xun] [xl (Int64.ofInt (0))] h := XT_path (l := l) (fr := 1) (lo := 21) (full := false) (M := 79) (n := 153) (u := 6051) (pc := 0) (L := [xi op, xl a, xun, xl b, xun]) (st := []) (h := h) (inl := []) (n' := 80) (sp := [261]) (o := [25, 0, 1]) rfl rfl ⟨rfl, rfl, rfl⟩ rfl ⟨Nat.le_of_eq hg.2.2.2.1, Nat.le_of_eq hg.2.2.2.2⟩ ⟨⟨⟨trivial, ⟨e31, by decide⟩⟩, cb29⟩, cb31⟩
        exact ⟨_, CX_ofT (h' := h) (by decide) rfl rfl trivial ⟨_, _, _, rfl, rfl, rfl⟩ rfl ⟨Nat.le_of_eq hg.2.2.2.1.symm, Nat.le_of_eq hg.2.2.2.2.symm⟩ t32, zjw_f (by omega)⟩
      · have el_0 : (Int64.ofInt (0)).toInt = 0 := rfl
        have dcb31 : ¬ b.toInt = (Int64.ofInt (0)).toInt := fun z_ => cb31 (lgi_eq.mpr z_)
        have t33 : XT l 1 21 false 79 153 6051 0 [xi op, xl a, xun, xl b, xun] [] h 261 [xi op, xl a, xun, xl b, xun] [xl (Int64.ofInt (1))] h := XT_path (l := l) (fr := 1) (lo := 21) (full := false) (M := 79) (n := 153) (u := 6051) (pc := 0) (L := [xi op, xl a, xun, xl b, xun]) (st := []) (h := h) (inl := []) (n' := 80) (sp := [261]) (o := [25, 0, 0]) rfl rfl ⟨rfl, rfl, rfl⟩ rfl ⟨Nat.le_of_eq hg.2.2.2.1, Nat.le_of_eq hg.2.2.2.2⟩ ⟨⟨⟨trivial, ⟨e31, by decide⟩⟩, cb29⟩, cb31⟩
        exact ⟨_, CX_ofT (h' := h) (by decide) rfl rfl trivial ⟨_, _, _, rfl, rfl, rfl⟩ rfl ⟨Nat.le_of_eq hg.2.2.2.1.symm, Nat.le_of_eq hg.2.2.2.2.symm⟩ t33, zjw_t (by omega)⟩
  have e30 : op.toInt = 30 := by omega
  have eS : zbin op.toInt a.toInt b.toInt = some (if ¬ a.toInt = 0 ∨ ¬ b.toInt = 0 then 1 else 0) := by rw [e30]; rfl
  rw [eS]
  by_cases cb34 : (lg_cmp a (Int64.ofInt (0))) = 0
  · have el_0 : (Int64.ofInt (0)).toInt = 0 := rfl
    have dcb34 : a.toInt = (Int64.ofInt (0)).toInt := lgi_eq.mp cb34
    by_cases cb35 : (lg_cmp b (Int64.ofInt (0))) = 0
    · have el_0 : (Int64.ofInt (0)).toInt = 0 := rfl
      have dcb35 : b.toInt = (Int64.ofInt (0)).toInt := lgi_eq.mp cb35
      have t36 : XT l 1 21 false 79 153 6051 0 [xi op, xl a, xun, xl b, xun] [] h 279 [xi op, xl a, xun, xl b, xun] [xl (Int64.ofInt (0))] h := XT_path (l := l) (fr := 1) (lo := 21) (full := false) (M := 79) (n := 153) (u := 6051) (pc := 0) (L := [xi op, xl a, xun, xl b, xun]) (st := []) (h := h) (inl := []) (n' := 80) (sp := [279]) (o := [24, 0, 1]) rfl rfl ⟨rfl, rfl, rfl⟩ rfl ⟨Nat.le_of_eq hg.2.2.2.1, Nat.le_of_eq hg.2.2.2.2⟩ ⟨⟨⟨trivial, ⟨e30, by decide⟩⟩, cb34⟩, cb35⟩
      exact ⟨_, CX_ofT (h' := h) (by decide) rfl rfl trivial ⟨_, _, _, rfl, rfl, rfl⟩ rfl ⟨Nat.le_of_eq hg.2.2.2.1.symm, Nat.le_of_eq hg.2.2.2.2.symm⟩ t36, zjw_f (by omega)⟩
    · have el_0 : (Int64.ofInt (0)).toInt = 0 := rfl
      have dcb35 : ¬ b.toInt = (Int64.ofInt (0)).toInt := fun z_ => cb35 (lgi_eq.mpr z_)
      have t37 : XT l 1 21 false 79 153 6051 0 [xi op, xl a, xun, xl b, xun] [] h 279 [xi op, xl a, xun, xl b, xun] [xl (Int64.ofInt (1))] h := XT_path (l := l) (fr := 1) (lo := 21) (full := false) (M := 79) (n := 153) (u := 6051) (pc := 0) (L := [xi op, xl a, xun, xl b, xun]) (st := []) (h := h) (inl := []) (n' := 80) (sp := [279]) (o := [24, 0, 0]) rfl rfl ⟨rfl, rfl, rfl⟩ rfl ⟨Nat.le_of_eq hg.2.2.2.1, Nat.le_of_eq hg.2.2.2.2⟩ ⟨⟨⟨trivial, ⟨e30, by decide⟩⟩, cb34⟩, cb35⟩
      exact ⟨_, CX_ofT (h' := h) (by decide) rfl rfl trivial ⟨_, _, _, rfl, rfl, rfl⟩ rfl ⟨Nat.le_of_eq hg.2.2.2.1.symm, Nat.le_of_eq hg.2.2.2.2.symm⟩ t37, zjw_t (by omega)⟩
  · have el_0 : (Int64.ofInt (0)).toInt = 0 := rfl
    have dcb34 : ¬ a.toInt = (Int64.ofInt (0)).toInt := fun z_ => cb34 (lgi_eq.mpr z_)
    have t38 : XT l 1 21 false 79 153 6051 0 [xi op, xl a, xun, xl b, xun] [] h 279 [xi op, xl a, xun, xl b, xun] [xl (Int64.ofInt (1))] h := XT_path (l := l) (fr := 1) (lo := 21) (full := false) (M := 79) (n := 153) (u := 6051) (pc := 0) (L := [xi op, xl a, xun, xl b, xun]) (st := []) (h := h) (inl := []) (n' := 80) (sp := [279]) (o := [24, 1]) rfl rfl ⟨rfl, rfl, rfl⟩ rfl ⟨Nat.le_of_eq hg.2.2.2.1, Nat.le_of_eq hg.2.2.2.2⟩ ⟨⟨trivial, ⟨e30, by decide⟩⟩, cb34⟩
    exact ⟨_, CX_ofT (h' := h) (by decide) rfl rfl trivial ⟨_, _, _, rfl, rfl, rfl⟩ rfl ⟨Nat.le_of_eq hg.2.2.2.1.symm, Nat.le_of_eq hg.2.2.2.2.symm⟩ t38, zjw_t (by omega)⟩
