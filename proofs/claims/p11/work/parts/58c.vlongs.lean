/-! CONTRACTS BY HAND: an expression's value, its longs. -/
theorem i64_neg0 {x : Int64} (h : ¬ x = 0) : ¬ -x = 0 := fun e => h (by
  have e2 : - -x = x := Int64.neg_neg
  rw [e] at e2
  exact e2.symm)
theorem lgc_n0 {x : Int64} (h : ¬ lg_cmp x 0 = 0) : ¬ x = 0 := fun e => h (by rw [e]; rfl)
theorem vI10454 : vI 104 54 = (0, 1) := by decide +kernel
theorem stou10454 : stou vRC (104, 54, false) = false := by decide +kernel
/-- nothing but the mark of an error is written -/
def vO (h h' : XH) : Prop := sgood vT vR vE 153 6051 h' ∧ (∀ c k, ¬ (c = 104 ∧ k = 54) → xI h' c k = xI h c k) ∧ (∀ c k, xR h' c k = xR h c k)
theorem vO_set {h : XH} (hg : sgood vT vR vE 153 6051 h) {v : Int32} (hv : 0 ≤ v.toInt ∧ v.toInt ≤ 1) : vO h (xsetI h 104 54 v) :=
  ⟨vset0 hg (by rw [vI10454]; exact hv) stou10454 vEC104, fun c k hc => yI_ne (eq_false hc), fun _ _ => rfl⟩
theorem vO_rf {h : XH} (hg : sgood vT vR vE 153 6051 h) : vO h h := ⟨hg, fun _ _ _ => rfl, fun _ _ => rfl⟩
theorem vO.tr {h h1 h2 : XH} (a : vO h h1) (b : vO h1 h2) : vO h h2 := ⟨b.1, fun c k hc => (b.2.1 c k hc).trans (a.2.1 c k hc), fun c k => (b.2.2 c k).trans (a.2.2 c k)⟩
theorem v54_1 {h : XH} : ¬ xI (xsetI h 104 54 (Int32.ofInt 1)) 104 54 = 0 := by rw [yI_same]; decide
theorem v54_0 {h : XH} : xI (xsetI h 104 54 (Int32.ofInt 0)) 104 54 = 0 := by rw [yI_same]; rfl
set_option maxRecDepth 100000 in
theorem vh_bounded (l : Launch) (x : Int64) (h : XH) (hg : sgood vT vR vE 153 6051 h) : ∃ y h', CX l 0 0 false 227 [xf 13 104, xl x] h [xl y] h' ∧ vO h h' := by
  by_cases a : xI h 104 54 = 0
  · by_cases b : (0 : Int32) < lg_cmp x 1000000000000
    · have z := CX_path (l := l) (full := false) (inl := []) (n := 40) (fr := 0) (lo := 0) (K := 227) (vs := [xf 13 104, xl x]) (h := h) (o := [0, 1, 0]) rfl rfl rfl rfl rfl ⟨⟨⟨⟨trivial, a⟩, b⟩, (Or.inr rfl)⟩, v54_1⟩
      exact ⟨_, _, z, vO_set hg (v := Int32.ofInt 1) (by decide)⟩
    · by_cases c : (0 : Int32) ≤ lg_cmp x (-1000000000000)
      · have z := CX_path (l := l) (full := false) (inl := []) (n := 40) (fr := 0) (lo := 0) (K := 227) (vs := [xf 13 104, xl x]) (h := h) (o := [0, 0, 1, 1]) rfl rfl rfl rfl rfl ⟨⟨⟨⟨⟨trivial, a⟩, b⟩, c⟩, (Or.inl rfl)⟩, v54_0⟩
        exact ⟨_, _, z, vO_set hg (v := Int32.ofInt 0) (by decide)⟩
      · have z := CX_path (l := l) (full := false) (inl := []) (n := 40) (fr := 0) (lo := 0) (K := 227) (vs := [xf 13 104, xl x]) (h := h) (o := [0, 0, 0, 0]) rfl rfl rfl rfl rfl ⟨⟨⟨⟨⟨trivial, a⟩, b⟩, c⟩, (Or.inr rfl)⟩, v54_1⟩
        exact ⟨_, _, z, vO_set hg (v := Int32.ofInt 1) (by decide)⟩
  · have z := CX_path (l := l) (full := false) (inl := []) (n := 40) (fr := 0) (lo := 0) (K := 227) (vs := [xf 13 104, xl x]) (h := h) (o := [1, 0]) rfl rfl rfl rfl rfl ⟨⟨⟨trivial, a⟩, (Or.inr rfl)⟩, v54_1⟩
    exact ⟨_, _, z, vO_set hg (v := Int32.ofInt 1) (by decide)⟩
set_option maxRecDepth 100000 in
theorem vh_times1 (l : Launch) (x y : Int64) (h : XH) (hg : sgood vT vR vE 153 6051 h) : ∃ b : Int32, XT l 0 0 false 228 153 6051 0 (xent (xmx 228) [xf 13 104, xl x, xl y]) [] h 49 (xent (xmx 228) [xf 13 104, xl x, xl y]) [xi b] h := by
  by_cases hx : lg_cmp x 0 = 0
  · exact ⟨_, XT_path (l := l) (fr := 0) (lo := 0) (full := false) (M := 228) (n := 153) (u := 6051) (pc := 0) (L := (xent (xmx 228) [xf 13 104, xl x, xl y])) (st := []) (h := h) (inl := []) (n' := 60) (sp := [49]) (o := [1]) rfl rfl ⟨rfl, rfl, rfl⟩ rfl ⟨Nat.le_of_eq hg.2.2.2.1, Nat.le_of_eq hg.2.2.2.2⟩ ⟨trivial, hx⟩⟩
  by_cases hy : lg_cmp y 0 = 0
  · exact ⟨_, XT_path (l := l) (fr := 0) (lo := 0) (full := false) (M := 228) (n := 153) (u := 6051) (pc := 0) (L := (xent (xmx 228) [xf 13 104, xl x, xl y])) (st := []) (h := h) (inl := []) (n' := 60) (sp := [49]) (o := [0, 1]) rfl rfl ⟨rfl, rfl, rfl⟩ rfl ⟨Nat.le_of_eq hg.2.2.2.1, Nat.le_of_eq hg.2.2.2.2⟩ ⟨⟨trivial, hx⟩, hy⟩⟩
  have n1 := lgc_n0 hx
  have n2 := i64_neg0 n1
  by_cases s : (0 : Int32) ≤ lg_cmp y 0
  · by_cases t : (0 : Int32) ≤ lg_cmp x 0
    · by_cases u : lg_cmp y (1000000000000 / x) ≤ (0 : Int32)
      · exact ⟨_, XT_path (l := l) (fr := 0) (lo := 0) (full := false) (M := 228) (n := 153) (u := 6051) (pc := 0) (L := (xent (xmx 228) [xf 13 104, xl x, xl y])) (st := []) (h := h) (inl := []) (n' := 60) (sp := [49]) (o := [0, 0, 1, 1, 1]) rfl rfl ⟨rfl, rfl, rfl⟩ rfl ⟨Nat.le_of_eq hg.2.2.2.1, Nat.le_of_eq hg.2.2.2.2⟩ ⟨⟨⟨⟨⟨⟨trivial, hx⟩, hy⟩, s⟩, t⟩, n1⟩, u⟩⟩
      · exact ⟨_, XT_path (l := l) (fr := 0) (lo := 0) (full := false) (M := 228) (n := 153) (u := 6051) (pc := 0) (L := (xent (xmx 228) [xf 13 104, xl x, xl y])) (st := []) (h := h) (inl := []) (n' := 60) (sp := [49]) (o := [0, 0, 1, 1, 0]) rfl rfl ⟨rfl, rfl, rfl⟩ rfl ⟨Nat.le_of_eq hg.2.2.2.1, Nat.le_of_eq hg.2.2.2.2⟩ ⟨⟨⟨⟨⟨⟨trivial, hx⟩, hy⟩, s⟩, t⟩, n1⟩, u⟩⟩
    · by_cases u : lg_cmp y (1000000000000 / (-x)) ≤ (0 : Int32)
      · exact ⟨_, XT_path (l := l) (fr := 0) (lo := 0) (full := false) (M := 228) (n := 153) (u := 6051) (pc := 0) (L := (xent (xmx 228) [xf 13 104, xl x, xl y])) (st := []) (h := h) (inl := []) (n' := 60) (sp := [49]) (o := [0, 0, 1, 0, 1]) rfl rfl ⟨rfl, rfl, rfl⟩ rfl ⟨Nat.le_of_eq hg.2.2.2.1, Nat.le_of_eq hg.2.2.2.2⟩ ⟨⟨⟨⟨⟨⟨trivial, hx⟩, hy⟩, s⟩, t⟩, n2⟩, u⟩⟩
      · exact ⟨_, XT_path (l := l) (fr := 0) (lo := 0) (full := false) (M := 228) (n := 153) (u := 6051) (pc := 0) (L := (xent (xmx 228) [xf 13 104, xl x, xl y])) (st := []) (h := h) (inl := []) (n' := 60) (sp := [49]) (o := [0, 0, 1, 0, 0]) rfl rfl ⟨rfl, rfl, rfl⟩ rfl ⟨Nat.le_of_eq hg.2.2.2.1, Nat.le_of_eq hg.2.2.2.2⟩ ⟨⟨⟨⟨⟨⟨trivial, hx⟩, hy⟩, s⟩, t⟩, n2⟩, u⟩⟩
  · by_cases t : (0 : Int32) ≤ lg_cmp x 0
    · by_cases u : lg_cmp (-y) (1000000000000 / x) ≤ (0 : Int32)
      · exact ⟨_, XT_path (l := l) (fr := 0) (lo := 0) (full := false) (M := 228) (n := 153) (u := 6051) (pc := 0) (L := (xent (xmx 228) [xf 13 104, xl x, xl y])) (st := []) (h := h) (inl := []) (n' := 60) (sp := [49]) (o := [0, 0, 0, 1, 1]) rfl rfl ⟨rfl, rfl, rfl⟩ rfl ⟨Nat.le_of_eq hg.2.2.2.1, Nat.le_of_eq hg.2.2.2.2⟩ ⟨⟨⟨⟨⟨⟨trivial, hx⟩, hy⟩, s⟩, t⟩, n1⟩, u⟩⟩
      · exact ⟨_, XT_path (l := l) (fr := 0) (lo := 0) (full := false) (M := 228) (n := 153) (u := 6051) (pc := 0) (L := (xent (xmx 228) [xf 13 104, xl x, xl y])) (st := []) (h := h) (inl := []) (n' := 60) (sp := [49]) (o := [0, 0, 0, 1, 0]) rfl rfl ⟨rfl, rfl, rfl⟩ rfl ⟨Nat.le_of_eq hg.2.2.2.1, Nat.le_of_eq hg.2.2.2.2⟩ ⟨⟨⟨⟨⟨⟨trivial, hx⟩, hy⟩, s⟩, t⟩, n1⟩, u⟩⟩
    · by_cases u : lg_cmp (-y) (1000000000000 / (-x)) ≤ (0 : Int32)
      · exact ⟨_, XT_path (l := l) (fr := 0) (lo := 0) (full := false) (M := 228) (n := 153) (u := 6051) (pc := 0) (L := (xent (xmx 228) [xf 13 104, xl x, xl y])) (st := []) (h := h) (inl := []) (n' := 60) (sp := [49]) (o := [0, 0, 0, 0, 1]) rfl rfl ⟨rfl, rfl, rfl⟩ rfl ⟨Nat.le_of_eq hg.2.2.2.1, Nat.le_of_eq hg.2.2.2.2⟩ ⟨⟨⟨⟨⟨⟨trivial, hx⟩, hy⟩, s⟩, t⟩, n2⟩, u⟩⟩
      · exact ⟨_, XT_path (l := l) (fr := 0) (lo := 0) (full := false) (M := 228) (n := 153) (u := 6051) (pc := 0) (L := (xent (xmx 228) [xf 13 104, xl x, xl y])) (st := []) (h := h) (inl := []) (n' := 60) (sp := [49]) (o := [0, 0, 0, 0, 0]) rfl rfl ⟨rfl, rfl, rfl⟩ rfl ⟨Nat.le_of_eq hg.2.2.2.1, Nat.le_of_eq hg.2.2.2.2⟩ ⟨⟨⟨⟨⟨⟨trivial, hx⟩, hy⟩, s⟩, t⟩, n2⟩, u⟩⟩
set_option maxRecDepth 100000 in
theorem vh_times (l : Launch) (x y : Int64) (h : XH) (hg : sgood vT vR vE 153 6051 h) : ∃ z h', CX l 0 0 false 228 [xf 13 104, xl x, xl y] h [xl z] h' ∧ vO h h' := by
  obtain ⟨b, t⟩ := vh_times1 l x y h hg
  by_cases a : xI h 104 54 = 0
  · by_cases c : b = 0
    · have z := XT_path (l := l) (fr := 0) (lo := 0) (full := false) (M := 228) (n := 153) (u := 6051) (pc := 49) (L := (xent (xmx 228) [xf 13 104, xl x, xl y])) (st := [xi b]) (h := h) (inl := []) (n' := 60) (sp := [86]) (o := [0, 1, 1]) rfl rfl ⟨rfl, rfl, rfl⟩ rfl ⟨Nat.le_of_eq hg.2.2.2.1, Nat.le_of_eq hg.2.2.2.2⟩ ⟨⟨⟨⟨trivial, a⟩, c⟩, (Or.inl rfl)⟩, v54_0⟩
      exact ⟨_, xsetI h 104 54 (Int32.ofInt 0), CX_ofT (h' := xsetI h 104 54 (Int32.ofInt 0)) (by decide) rfl rfl trivial ⟨_, _, _, rfl, rfl, rfl⟩ rfl ⟨Nat.le_of_eq hg.2.2.2.1.symm, Nat.le_of_eq hg.2.2.2.2.symm⟩ (t.tr z), vO_set hg (v := Int32.ofInt 0) (by decide)⟩
    · have z := XT_path (l := l) (fr := 0) (lo := 0) (full := false) (M := 228) (n := 153) (u := 6051) (pc := 49) (L := (xent (xmx 228) [xf 13 104, xl x, xl y])) (st := [xi b]) (h := h) (inl := []) (n' := 60) (sp := [86]) (o := [0, 0, 0]) rfl rfl ⟨rfl, rfl, rfl⟩ rfl ⟨Nat.le_of_eq hg.2.2.2.1, Nat.le_of_eq hg.2.2.2.2⟩ ⟨⟨⟨⟨trivial, a⟩, c⟩, (Or.inr rfl)⟩, v54_1⟩
      exact ⟨_, xsetI h 104 54 (Int32.ofInt 1), CX_ofT (h' := xsetI h 104 54 (Int32.ofInt 1)) (by decide) rfl rfl trivial ⟨_, _, _, rfl, rfl, rfl⟩ rfl ⟨Nat.le_of_eq hg.2.2.2.1.symm, Nat.le_of_eq hg.2.2.2.2.symm⟩ (t.tr z), vO_set hg (v := Int32.ofInt 1) (by decide)⟩
  · have z := XT_path (l := l) (fr := 0) (lo := 0) (full := false) (M := 228) (n := 153) (u := 6051) (pc := 49) (L := (xent (xmx 228) [xf 13 104, xl x, xl y])) (st := [xi b]) (h := h) (inl := []) (n' := 60) (sp := [86]) (o := [1, 0]) rfl rfl ⟨rfl, rfl, rfl⟩ rfl ⟨Nat.le_of_eq hg.2.2.2.1, Nat.le_of_eq hg.2.2.2.2⟩ ⟨⟨⟨trivial, a⟩, (Or.inr rfl)⟩, v54_1⟩
    exact ⟨_, xsetI h 104 54 (Int32.ofInt 1), CX_ofT (h' := xsetI h 104 54 (Int32.ofInt 1)) (by decide) rfl rfl trivial ⟨_, _, _, rfl, rfl, rfl⟩ rfl ⟨Nat.le_of_eq hg.2.2.2.1.symm, Nat.le_of_eq hg.2.2.2.2.symm⟩ (t.tr z), vO_set hg (v := Int32.ofInt 1) (by decide)⟩
set_option maxRecDepth 100000 in
theorem vh_compares (l : Launch) (k : Int32) (x y : Int64) (h : XH) : ∃ b : Int32, CX l 0 0 false 229 [xi k, xl x, xl y] h [xi b] h := by
  by_cases e1 : k.toInt = 5
  · by_cases c : (0 : Int32) ≤ lg_cmp x y
    · exact ⟨_, CX_path (l := l) (full := false) (inl := []) (n := 40) (fr := 0) (lo := 0) (K := 229) (vs := [xi k, xl x, xl y]) (h := h) (o := [1, 1]) rfl rfl rfl rfl rfl ⟨⟨⟨trivial, ⟨e1.trans (by decide), by decide⟩⟩, c⟩, (Or.inl rfl)⟩⟩
    · exact ⟨_, CX_path (l := l) (full := false) (inl := []) (n := 40) (fr := 0) (lo := 0) (K := 229) (vs := [xi k, xl x, xl y]) (h := h) (o := [1, 0]) rfl rfl rfl rfl rfl ⟨⟨⟨trivial, ⟨e1.trans (by decide), by decide⟩⟩, c⟩, (Or.inr rfl)⟩⟩
  by_cases e2 : k.toInt = 6
  · by_cases c : (0 : Int32) < lg_cmp x y
    · exact ⟨_, CX_path (l := l) (full := false) (inl := []) (n := 40) (fr := 0) (lo := 0) (K := 229) (vs := [xi k, xl x, xl y]) (h := h) (o := [2, 1]) rfl rfl rfl rfl rfl ⟨⟨⟨trivial, ⟨e2.trans (by decide), by decide⟩⟩, c⟩, (Or.inl rfl)⟩⟩
    · exact ⟨_, CX_path (l := l) (full := false) (inl := []) (n := 40) (fr := 0) (lo := 0) (K := 229) (vs := [xi k, xl x, xl y]) (h := h) (o := [2, 0]) rfl rfl rfl rfl rfl ⟨⟨⟨trivial, ⟨e2.trans (by decide), by decide⟩⟩, c⟩, (Or.inr rfl)⟩⟩
  by_cases e3 : k.toInt = 7
  · by_cases c : lg_cmp x y = 0
    · exact ⟨_, CX_path (l := l) (full := false) (inl := []) (n := 40) (fr := 0) (lo := 0) (K := 229) (vs := [xi k, xl x, xl y]) (h := h) (o := [3, 0]) rfl rfl rfl rfl rfl ⟨⟨⟨trivial, ⟨e3.trans (by decide), by decide⟩⟩, c⟩, (Or.inr rfl)⟩⟩
    · exact ⟨_, CX_path (l := l) (full := false) (inl := []) (n := 40) (fr := 0) (lo := 0) (K := 229) (vs := [xi k, xl x, xl y]) (h := h) (o := [3, 1]) rfl rfl rfl rfl rfl ⟨⟨⟨trivial, ⟨e3.trans (by decide), by decide⟩⟩, c⟩, (Or.inl rfl)⟩⟩
  by_cases e4 : k.toInt = 8
  · by_cases c : lg_cmp x y = 0
    · exact ⟨_, CX_path (l := l) (full := false) (inl := []) (n := 40) (fr := 0) (lo := 0) (K := 229) (vs := [xi k, xl x, xl y]) (h := h) (o := [4, 1]) rfl rfl rfl rfl rfl ⟨⟨⟨trivial, ⟨e4.trans (by decide), by decide⟩⟩, c⟩, (Or.inl rfl)⟩⟩
    · exact ⟨_, CX_path (l := l) (full := false) (inl := []) (n := 40) (fr := 0) (lo := 0) (K := 229) (vs := [xi k, xl x, xl y]) (h := h) (o := [4, 0]) rfl rfl rfl rfl rfl ⟨⟨⟨trivial, ⟨e4.trans (by decide), by decide⟩⟩, c⟩, (Or.inr rfl)⟩⟩
  by_cases e5 : k.toInt = 9
  · by_cases c : lg_cmp x y < (0 : Int32)
    · exact ⟨_, CX_path (l := l) (full := false) (inl := []) (n := 40) (fr := 0) (lo := 0) (K := 229) (vs := [xi k, xl x, xl y]) (h := h) (o := [5, 1]) rfl rfl rfl rfl rfl ⟨⟨⟨trivial, ⟨e5.trans (by decide), by decide⟩⟩, c⟩, (Or.inl rfl)⟩⟩
    · exact ⟨_, CX_path (l := l) (full := false) (inl := []) (n := 40) (fr := 0) (lo := 0) (K := 229) (vs := [xi k, xl x, xl y]) (h := h) (o := [5, 0]) rfl rfl rfl rfl rfl ⟨⟨⟨trivial, ⟨e5.trans (by decide), by decide⟩⟩, c⟩, (Or.inr rfl)⟩⟩
  have e0 : k.toInt < 5 ∨ 9 < k.toInt := by omega
  by_cases c : lg_cmp x y ≤ (0 : Int32)
  · exact ⟨_, CX_path (l := l) (full := false) (inl := []) (n := 40) (fr := 0) (lo := 0) (K := 229) (vs := [xi k, xl x, xl y]) (h := h) (o := [0, 1]) rfl rfl rfl rfl rfl ⟨⟨⟨trivial, e0⟩, c⟩, (Or.inl rfl)⟩⟩
  · exact ⟨_, CX_path (l := l) (full := false) (inl := []) (n := 40) (fr := 0) (lo := 0) (K := 229) (vs := [xi k, xl x, xl y]) (h := h) (o := [0, 0]) rfl rfl rfl rfl rfl ⟨⟨⟨trivial, e0⟩, c⟩, (Or.inr rfl)⟩⟩
