/-! TWO CONTRACTS OF ONE START: the worlds of the class, slot by slot. -/
section ZAh
variable {full : Bool} {l r1 r2 : List XV} {h1 h2 : XH}
theorem zag_w48 (g : XAG full (xf 12 2 :: l) r1 r2 h1 h2) (i1 : sinv vT h1) (i2 : sinv vT h2) : xI h1 48 7 = xI h2 48 7 ∧ xI h1 48 10 = xI h2 48 10 ∧ xI h1 48 11 = xI h2 48 11 := by
  have o0 := g.rc (by decide)
  have o1 : xok h1 11 48 ∧ xok h2 11 48 := ⟨g.to1 (ci := 11) o0.1 (by decide) (by decide +kernel) (by decide +kernel) (vref i1 (rfl : vRf 2 3 = [48])) (by decide), g.to2 (ci := 11) o0.2 (by decide) (by decide +kernel) (by decide +kernel) (vref i2 (rfl : vRf 2 3 = [48])) (by decide)⟩
  exact ⟨g.i (ci := 10) o1.1 o1.2 (by decide +kernel) (by decide) (by decide +kernel), g.i (ci := 10) o1.1 o1.2 (by decide +kernel) (by decide) (by decide +kernel), g.i (ci := 10) o1.1 o1.2 (by decide +kernel) (by decide) (by decide +kernel)⟩
theorem zag_49 (g : XAG full (xf 12 2 :: l) r1 r2 h1 h2) (i1 : sinv vT h1) (i2 : sinv vT h2) : ∀ k, k < 6 → xI h1 49 k = xI h2 49 k := by
  have o0 := g.rc (by decide)
  have o1 : xok h1 11 48 ∧ xok h2 11 48 := ⟨g.to1 (ci := 11) o0.1 (by decide) (by decide +kernel) (by decide +kernel) (vref i1 (rfl : vRf 2 3 = [48])) (by decide), g.to2 (ci := 11) o0.2 (by decide) (by decide +kernel) (by decide +kernel) (vref i2 (rfl : vRf 2 3 = [48])) (by decide)⟩
  have o2 : xok h1 10006 49 ∧ xok h2 10006 49 := ⟨g.to1 (ci := 10) o1.1 (by decide) (by decide +kernel) (by decide +kernel) (vref i1 (rfl : vRf 48 1 = [49])) (by decide), g.to2 (ci := 10) o1.2 (by decide) (by decide +kernel) (by decide +kernel) (vref i2 (rfl : vRf 48 1 = [49])) (by decide)⟩
  exact fun k hk => g.arr (kd := 10006) o2.1 o2.2 (n := 6) ⟨Or.inl rfl, by decide⟩ hk
theorem zag_50 (g : XAG full (xf 12 2 :: l) r1 r2 h1 h2) (i1 : sinv vT h1) (i2 : sinv vT h2) : ∀ k, k < 6 → xI h1 50 k = xI h2 50 k := by
  have o0 := g.rc (by decide)
  have o1 : xok h1 11 48 ∧ xok h2 11 48 := ⟨g.to1 (ci := 11) o0.1 (by decide) (by decide +kernel) (by decide +kernel) (vref i1 (rfl : vRf 2 3 = [48])) (by decide), g.to2 (ci := 11) o0.2 (by decide) (by decide +kernel) (by decide +kernel) (vref i2 (rfl : vRf 2 3 = [48])) (by decide)⟩
  have o2 : xok h1 10006 50 ∧ xok h2 10006 50 := ⟨g.to1 (ci := 10) o1.1 (by decide) (by decide +kernel) (by decide +kernel) (vref i1 (rfl : vRf 48 2 = [50])) (by decide), g.to2 (ci := 10) o1.2 (by decide) (by decide +kernel) (by decide +kernel) (vref i2 (rfl : vRf 48 2 = [50])) (by decide)⟩
  exact fun k hk => g.arr (kd := 10006) o2.1 o2.2 (n := 6) ⟨Or.inl rfl, by decide⟩ hk
theorem zag_51 (g : XAG full (xf 12 2 :: l) r1 r2 h1 h2) (i1 : sinv vT h1) (i2 : sinv vT h2) : ∀ k, k < 9 → xI h1 51 k = xI h2 51 k := by
  have o0 := g.rc (by decide)
  have o1 : xok h1 11 48 ∧ xok h2 11 48 := ⟨g.to1 (ci := 11) o0.1 (by decide) (by decide +kernel) (by decide +kernel) (vref i1 (rfl : vRf 2 3 = [48])) (by decide), g.to2 (ci := 11) o0.2 (by decide) (by decide +kernel) (by decide +kernel) (vref i2 (rfl : vRf 2 3 = [48])) (by decide)⟩
  have o2 : xok h1 10009 51 ∧ xok h2 10009 51 := ⟨g.to1 (ci := 10) o1.1 (by decide) (by decide +kernel) (by decide +kernel) (vref i1 (rfl : vRf 48 3 = [51])) (by decide), g.to2 (ci := 10) o1.2 (by decide) (by decide +kernel) (by decide +kernel) (vref i2 (rfl : vRf 48 3 = [51])) (by decide)⟩
  exact fun k hk => g.arr (kd := 10009) o2.1 o2.2 (n := 9) ⟨Or.inl rfl, by decide⟩ hk
theorem zag_52 (g : XAG full (xf 12 2 :: l) r1 r2 h1 h2) (i1 : sinv vT h1) (i2 : sinv vT h2) : ∀ k, k < 8 → xI h1 52 k = xI h2 52 k := by
  have o0 := g.rc (by decide)
  have o1 : xok h1 11 48 ∧ xok h2 11 48 := ⟨g.to1 (ci := 11) o0.1 (by decide) (by decide +kernel) (by decide +kernel) (vref i1 (rfl : vRf 2 3 = [48])) (by decide), g.to2 (ci := 11) o0.2 (by decide) (by decide +kernel) (by decide +kernel) (vref i2 (rfl : vRf 2 3 = [48])) (by decide)⟩
  have o2 : xok h1 10008 52 ∧ xok h2 10008 52 := ⟨g.to1 (ci := 10) o1.1 (by decide) (by decide +kernel) (by decide +kernel) (vref i1 (rfl : vRf 48 4 = [52])) (by decide), g.to2 (ci := 10) o1.2 (by decide) (by decide +kernel) (by decide +kernel) (vref i2 (rfl : vRf 48 4 = [52])) (by decide)⟩
  exact fun k hk => g.arr (kd := 10008) o2.1 o2.2 (n := 8) ⟨Or.inl rfl, by decide⟩ hk
theorem zag_53 (g : XAG full (xf 12 2 :: l) r1 r2 h1 h2) (i1 : sinv vT h1) (i2 : sinv vT h2) : ∀ k, k < 8 → xI h1 53 k = xI h2 53 k := by
  have o0 := g.rc (by decide)
  have o1 : xok h1 11 48 ∧ xok h2 11 48 := ⟨g.to1 (ci := 11) o0.1 (by decide) (by decide +kernel) (by decide +kernel) (vref i1 (rfl : vRf 2 3 = [48])) (by decide), g.to2 (ci := 11) o0.2 (by decide) (by decide +kernel) (by decide +kernel) (vref i2 (rfl : vRf 2 3 = [48])) (by decide)⟩
  have o2 : xok h1 10008 53 ∧ xok h2 10008 53 := ⟨g.to1 (ci := 10) o1.1 (by decide) (by decide +kernel) (by decide +kernel) (vref i1 (rfl : vRf 48 5 = [53])) (by decide), g.to2 (ci := 10) o1.2 (by decide) (by decide +kernel) (by decide +kernel) (vref i2 (rfl : vRf 48 5 = [53])) (by decide)⟩
  exact fun k hk => g.arr (kd := 10008) o2.1 o2.2 (n := 8) ⟨Or.inl rfl, by decide⟩ hk
theorem zag_54 (g : XAG full (xf 12 2 :: l) r1 r2 h1 h2) (i1 : sinv vT h1) (i2 : sinv vT h2) : ∀ k, k < 8 → xI h1 54 k = xI h2 54 k := by
  have o0 := g.rc (by decide)
  have o1 : xok h1 11 48 ∧ xok h2 11 48 := ⟨g.to1 (ci := 11) o0.1 (by decide) (by decide +kernel) (by decide +kernel) (vref i1 (rfl : vRf 2 3 = [48])) (by decide), g.to2 (ci := 11) o0.2 (by decide) (by decide +kernel) (by decide +kernel) (vref i2 (rfl : vRf 2 3 = [48])) (by decide)⟩
  have o2 : xok h1 10008 54 ∧ xok h2 10008 54 := ⟨g.to1 (ci := 10) o1.1 (by decide) (by decide +kernel) (by decide +kernel) (vref i1 (rfl : vRf 48 6 = [54])) (by decide), g.to2 (ci := 10) o1.2 (by decide) (by decide +kernel) (by decide +kernel) (vref i2 (rfl : vRf 48 6 = [54])) (by decide)⟩
  exact fun k hk => g.arr (kd := 10008) o2.1 o2.2 (n := 8) ⟨Or.inl rfl, by decide⟩ hk
theorem zag_55 (g : XAG full (xf 12 2 :: l) r1 r2 h1 h2) (i1 : sinv vT h1) (i2 : sinv vT h2) : ∀ k, k < 6 → xI h1 55 k = xI h2 55 k := by
  have o0 := g.rc (by decide)
  have o1 : xok h1 11 48 ∧ xok h2 11 48 := ⟨g.to1 (ci := 11) o0.1 (by decide) (by decide +kernel) (by decide +kernel) (vref i1 (rfl : vRf 2 3 = [48])) (by decide), g.to2 (ci := 11) o0.2 (by decide) (by decide +kernel) (by decide +kernel) (vref i2 (rfl : vRf 2 3 = [48])) (by decide)⟩
  have o2 : xok h1 10006 55 ∧ xok h2 10006 55 := ⟨g.to1 (ci := 10) o1.1 (by decide) (by decide +kernel) (by decide +kernel) (vref i1 (rfl : vRf 48 8 = [55])) (by decide), g.to2 (ci := 10) o1.2 (by decide) (by decide +kernel) (by decide +kernel) (vref i2 (rfl : vRf 48 8 = [55])) (by decide)⟩
  exact fun k hk => g.arr (kd := 10006) o2.1 o2.2 (n := 6) ⟨Or.inl rfl, by decide⟩ hk
theorem zag_56 (g : XAG full (xf 12 2 :: l) r1 r2 h1 h2) (i1 : sinv vT h1) (i2 : sinv vT h2) : ∀ k, k < 6 → xI h1 56 k = xI h2 56 k := by
  have o0 := g.rc (by decide)
  have o1 : xok h1 11 48 ∧ xok h2 11 48 := ⟨g.to1 (ci := 11) o0.1 (by decide) (by decide +kernel) (by decide +kernel) (vref i1 (rfl : vRf 2 3 = [48])) (by decide), g.to2 (ci := 11) o0.2 (by decide) (by decide +kernel) (by decide +kernel) (vref i2 (rfl : vRf 2 3 = [48])) (by decide)⟩
  have o2 : xok h1 10006 56 ∧ xok h2 10006 56 := ⟨g.to1 (ci := 10) o1.1 (by decide) (by decide +kernel) (by decide +kernel) (vref i1 (rfl : vRf 48 9 = [56])) (by decide), g.to2 (ci := 10) o1.2 (by decide) (by decide +kernel) (by decide +kernel) (vref i2 (rfl : vRf 48 9 = [56])) (by decide)⟩
  exact fun k hk => g.arr (kd := 10006) o2.1 o2.2 (n := 6) ⟨Or.inl rfl, by decide⟩ hk
theorem zag_w70 (g : XAG full (xf 12 2 :: l) r1 r2 h1 h2) (i1 : sinv vT h1) (i2 : sinv vT h2) : xI h1 70 7 = xI h2 70 7 ∧ xI h1 70 10 = xI h2 70 10 ∧ xI h1 70 11 = xI h2 70 11 := by
  have o0 := g.rc (by decide)
  have o1 : xok h1 11 70 ∧ xok h2 11 70 := ⟨g.to1 (ci := 11) o0.1 (by decide) (by decide +kernel) (by decide +kernel) (vref i1 (rfl : vRf 2 5 = [70])) (by decide), g.to2 (ci := 11) o0.2 (by decide) (by decide +kernel) (by decide +kernel) (vref i2 (rfl : vRf 2 5 = [70])) (by decide)⟩
  exact ⟨g.i (ci := 10) o1.1 o1.2 (by decide +kernel) (by decide) (by decide +kernel), g.i (ci := 10) o1.1 o1.2 (by decide +kernel) (by decide) (by decide +kernel), g.i (ci := 10) o1.1 o1.2 (by decide +kernel) (by decide) (by decide +kernel)⟩
theorem zag_71 (g : XAG full (xf 12 2 :: l) r1 r2 h1 h2) (i1 : sinv vT h1) (i2 : sinv vT h2) : ∀ k, k < 6 → xI h1 71 k = xI h2 71 k := by
  have o0 := g.rc (by decide)
  have o1 : xok h1 11 70 ∧ xok h2 11 70 := ⟨g.to1 (ci := 11) o0.1 (by decide) (by decide +kernel) (by decide +kernel) (vref i1 (rfl : vRf 2 5 = [70])) (by decide), g.to2 (ci := 11) o0.2 (by decide) (by decide +kernel) (by decide +kernel) (vref i2 (rfl : vRf 2 5 = [70])) (by decide)⟩
  have o2 : xok h1 10006 71 ∧ xok h2 10006 71 := ⟨g.to1 (ci := 10) o1.1 (by decide) (by decide +kernel) (by decide +kernel) (vref i1 (rfl : vRf 70 1 = [71])) (by decide), g.to2 (ci := 10) o1.2 (by decide) (by decide +kernel) (by decide +kernel) (vref i2 (rfl : vRf 70 1 = [71])) (by decide)⟩
  exact fun k hk => g.arr (kd := 10006) o2.1 o2.2 (n := 6) ⟨Or.inl rfl, by decide⟩ hk
theorem zag_72 (g : XAG full (xf 12 2 :: l) r1 r2 h1 h2) (i1 : sinv vT h1) (i2 : sinv vT h2) : ∀ k, k < 6 → xI h1 72 k = xI h2 72 k := by
  have o0 := g.rc (by decide)
  have o1 : xok h1 11 70 ∧ xok h2 11 70 := ⟨g.to1 (ci := 11) o0.1 (by decide) (by decide +kernel) (by decide +kernel) (vref i1 (rfl : vRf 2 5 = [70])) (by decide), g.to2 (ci := 11) o0.2 (by decide) (by decide +kernel) (by decide +kernel) (vref i2 (rfl : vRf 2 5 = [70])) (by decide)⟩
  have o2 : xok h1 10006 72 ∧ xok h2 10006 72 := ⟨g.to1 (ci := 10) o1.1 (by decide) (by decide +kernel) (by decide +kernel) (vref i1 (rfl : vRf 70 2 = [72])) (by decide), g.to2 (ci := 10) o1.2 (by decide) (by decide +kernel) (by decide +kernel) (vref i2 (rfl : vRf 70 2 = [72])) (by decide)⟩
  exact fun k hk => g.arr (kd := 10006) o2.1 o2.2 (n := 6) ⟨Or.inl rfl, by decide⟩ hk
theorem zag_73 (g : XAG full (xf 12 2 :: l) r1 r2 h1 h2) (i1 : sinv vT h1) (i2 : sinv vT h2) : ∀ k, k < 9 → xI h1 73 k = xI h2 73 k := by
  have o0 := g.rc (by decide)
  have o1 : xok h1 11 70 ∧ xok h2 11 70 := ⟨g.to1 (ci := 11) o0.1 (by decide) (by decide +kernel) (by decide +kernel) (vref i1 (rfl : vRf 2 5 = [70])) (by decide), g.to2 (ci := 11) o0.2 (by decide) (by decide +kernel) (by decide +kernel) (vref i2 (rfl : vRf 2 5 = [70])) (by decide)⟩
  have o2 : xok h1 10009 73 ∧ xok h2 10009 73 := ⟨g.to1 (ci := 10) o1.1 (by decide) (by decide +kernel) (by decide +kernel) (vref i1 (rfl : vRf 70 3 = [73])) (by decide), g.to2 (ci := 10) o1.2 (by decide) (by decide +kernel) (by decide +kernel) (vref i2 (rfl : vRf 70 3 = [73])) (by decide)⟩
  exact fun k hk => g.arr (kd := 10009) o2.1 o2.2 (n := 9) ⟨Or.inl rfl, by decide⟩ hk
theorem zag_74 (g : XAG full (xf 12 2 :: l) r1 r2 h1 h2) (i1 : sinv vT h1) (i2 : sinv vT h2) : ∀ k, k < 8 → xI h1 74 k = xI h2 74 k := by
  have o0 := g.rc (by decide)
  have o1 : xok h1 11 70 ∧ xok h2 11 70 := ⟨g.to1 (ci := 11) o0.1 (by decide) (by decide +kernel) (by decide +kernel) (vref i1 (rfl : vRf 2 5 = [70])) (by decide), g.to2 (ci := 11) o0.2 (by decide) (by decide +kernel) (by decide +kernel) (vref i2 (rfl : vRf 2 5 = [70])) (by decide)⟩
  have o2 : xok h1 10008 74 ∧ xok h2 10008 74 := ⟨g.to1 (ci := 10) o1.1 (by decide) (by decide +kernel) (by decide +kernel) (vref i1 (rfl : vRf 70 4 = [74])) (by decide), g.to2 (ci := 10) o1.2 (by decide) (by decide +kernel) (by decide +kernel) (vref i2 (rfl : vRf 70 4 = [74])) (by decide)⟩
  exact fun k hk => g.arr (kd := 10008) o2.1 o2.2 (n := 8) ⟨Or.inl rfl, by decide⟩ hk
theorem zag_75 (g : XAG full (xf 12 2 :: l) r1 r2 h1 h2) (i1 : sinv vT h1) (i2 : sinv vT h2) : ∀ k, k < 8 → xI h1 75 k = xI h2 75 k := by
  have o0 := g.rc (by decide)
  have o1 : xok h1 11 70 ∧ xok h2 11 70 := ⟨g.to1 (ci := 11) o0.1 (by decide) (by decide +kernel) (by decide +kernel) (vref i1 (rfl : vRf 2 5 = [70])) (by decide), g.to2 (ci := 11) o0.2 (by decide) (by decide +kernel) (by decide +kernel) (vref i2 (rfl : vRf 2 5 = [70])) (by decide)⟩
  have o2 : xok h1 10008 75 ∧ xok h2 10008 75 := ⟨g.to1 (ci := 10) o1.1 (by decide) (by decide +kernel) (by decide +kernel) (vref i1 (rfl : vRf 70 5 = [75])) (by decide), g.to2 (ci := 10) o1.2 (by decide) (by decide +kernel) (by decide +kernel) (vref i2 (rfl : vRf 70 5 = [75])) (by decide)⟩
  exact fun k hk => g.arr (kd := 10008) o2.1 o2.2 (n := 8) ⟨Or.inl rfl, by decide⟩ hk
theorem zag_76 (g : XAG full (xf 12 2 :: l) r1 r2 h1 h2) (i1 : sinv vT h1) (i2 : sinv vT h2) : ∀ k, k < 8 → xI h1 76 k = xI h2 76 k := by
  have o0 := g.rc (by decide)
  have o1 : xok h1 11 70 ∧ xok h2 11 70 := ⟨g.to1 (ci := 11) o0.1 (by decide) (by decide +kernel) (by decide +kernel) (vref i1 (rfl : vRf 2 5 = [70])) (by decide), g.to2 (ci := 11) o0.2 (by decide) (by decide +kernel) (by decide +kernel) (vref i2 (rfl : vRf 2 5 = [70])) (by decide)⟩
  have o2 : xok h1 10008 76 ∧ xok h2 10008 76 := ⟨g.to1 (ci := 10) o1.1 (by decide) (by decide +kernel) (by decide +kernel) (vref i1 (rfl : vRf 70 6 = [76])) (by decide), g.to2 (ci := 10) o1.2 (by decide) (by decide +kernel) (by decide +kernel) (vref i2 (rfl : vRf 70 6 = [76])) (by decide)⟩
  exact fun k hk => g.arr (kd := 10008) o2.1 o2.2 (n := 8) ⟨Or.inl rfl, by decide⟩ hk
theorem zag_77 (g : XAG full (xf 12 2 :: l) r1 r2 h1 h2) (i1 : sinv vT h1) (i2 : sinv vT h2) : ∀ k, k < 6 → xI h1 77 k = xI h2 77 k := by
  have o0 := g.rc (by decide)
  have o1 : xok h1 11 70 ∧ xok h2 11 70 := ⟨g.to1 (ci := 11) o0.1 (by decide) (by decide +kernel) (by decide +kernel) (vref i1 (rfl : vRf 2 5 = [70])) (by decide), g.to2 (ci := 11) o0.2 (by decide) (by decide +kernel) (by decide +kernel) (vref i2 (rfl : vRf 2 5 = [70])) (by decide)⟩
  have o2 : xok h1 10006 77 ∧ xok h2 10006 77 := ⟨g.to1 (ci := 10) o1.1 (by decide) (by decide +kernel) (by decide +kernel) (vref i1 (rfl : vRf 70 8 = [77])) (by decide), g.to2 (ci := 10) o1.2 (by decide) (by decide +kernel) (by decide +kernel) (vref i2 (rfl : vRf 70 8 = [77])) (by decide)⟩
  exact fun k hk => g.arr (kd := 10006) o2.1 o2.2 (n := 6) ⟨Or.inl rfl, by decide⟩ hk
theorem zag_78 (g : XAG full (xf 12 2 :: l) r1 r2 h1 h2) (i1 : sinv vT h1) (i2 : sinv vT h2) : ∀ k, k < 6 → xI h1 78 k = xI h2 78 k := by
  have o0 := g.rc (by decide)
  have o1 : xok h1 11 70 ∧ xok h2 11 70 := ⟨g.to1 (ci := 11) o0.1 (by decide) (by decide +kernel) (by decide +kernel) (vref i1 (rfl : vRf 2 5 = [70])) (by decide), g.to2 (ci := 11) o0.2 (by decide) (by decide +kernel) (by decide +kernel) (vref i2 (rfl : vRf 2 5 = [70])) (by decide)⟩
  have o2 : xok h1 10006 78 ∧ xok h2 10006 78 := ⟨g.to1 (ci := 10) o1.1 (by decide) (by decide +kernel) (by decide +kernel) (vref i1 (rfl : vRf 70 9 = [78])) (by decide), g.to2 (ci := 10) o1.2 (by decide) (by decide +kernel) (by decide +kernel) (vref i2 (rfl : vRf 70 9 = [78])) (by decide)⟩
  exact fun k hk => g.arr (kd := 10006) o2.1 o2.2 (n := 6) ⟨Or.inl rfl, by decide⟩ hk
theorem zag_p (g : XAG full (xf 12 2 :: l) r1 r2 h1 h2) (i1 : sinv vT h1) (i2 : sinv vT h2) : xI h1 81 0 = xI h2 81 0 := by
  have o0 := g.rc (by decide)
  have o1 : xok h1 6 81 ∧ xok h2 6 81 := ⟨g.to1 (ci := 11) o0.1 (by decide) (by decide +kernel) (by decide +kernel) (vref i1 (rfl : vRf 2 7 = [81])) (by decide), g.to2 (ci := 11) o0.2 (by decide) (by decide +kernel) (by decide +kernel) (vref i2 (rfl : vRf 2 7 = [81])) (by decide)⟩
  exact g.i (ci := 5) o1.1 o1.2 (by decide +kernel) (by decide) (by decide +kernel)
theorem zag_82 (g : XAG full (xf 12 2 :: l) r1 r2 h1 h2) (i1 : sinv vT h1) (i2 : sinv vT h2) : ∀ k, k < 20 → xI h1 82 k = xI h2 82 k := by
  have o0 := g.rc (by decide)
  have o1 : xok h1 6 81 ∧ xok h2 6 81 := ⟨g.to1 (ci := 11) o0.1 (by decide) (by decide +kernel) (by decide +kernel) (vref i1 (rfl : vRf 2 7 = [81])) (by decide), g.to2 (ci := 11) o0.2 (by decide) (by decide +kernel) (by decide +kernel) (vref i2 (rfl : vRf 2 7 = [81])) (by decide)⟩
  have o2 : xok h1 10020 82 ∧ xok h2 10020 82 := ⟨g.to1 (ci := 5) o1.1 (by decide) (by decide +kernel) (by decide +kernel) (vref i1 (rfl : vRf 81 4 = [82])) (by decide), g.to2 (ci := 5) o1.2 (by decide) (by decide +kernel) (by decide +kernel) (vref i2 (rfl : vRf 81 4 = [82])) (by decide)⟩
  exact fun k hk => g.arr (kd := 10020) o2.1 o2.2 (n := 20) ⟨Or.inl rfl, by decide⟩ hk
theorem zag_83 (g : XAG full (xf 12 2 :: l) r1 r2 h1 h2) (i1 : sinv vT h1) (i2 : sinv vT h2) : ∀ k, k < 20 → xI h1 83 k = xI h2 83 k := by
  have o0 := g.rc (by decide)
  have o1 : xok h1 6 81 ∧ xok h2 6 81 := ⟨g.to1 (ci := 11) o0.1 (by decide) (by decide +kernel) (by decide +kernel) (vref i1 (rfl : vRf 2 7 = [81])) (by decide), g.to2 (ci := 11) o0.2 (by decide) (by decide +kernel) (by decide +kernel) (vref i2 (rfl : vRf 2 7 = [81])) (by decide)⟩
  have o2 : xok h1 10020 83 ∧ xok h2 10020 83 := ⟨g.to1 (ci := 5) o1.1 (by decide) (by decide +kernel) (by decide +kernel) (vref i1 (rfl : vRf 81 5 = [83])) (by decide), g.to2 (ci := 5) o1.2 (by decide) (by decide +kernel) (by decide +kernel) (vref i2 (rfl : vRf 81 5 = [83])) (by decide)⟩
  exact fun k hk => g.arr (kd := 10020) o2.1 o2.2 (n := 20) ⟨Or.inl rfl, by decide⟩ hk
theorem zag_84 (g : XAG full (xf 12 2 :: l) r1 r2 h1 h2) (i1 : sinv vT h1) (i2 : sinv vT h2) : ∀ k, k < 20 → xI h1 84 k = xI h2 84 k := by
  have o0 := g.rc (by decide)
  have o1 : xok h1 6 81 ∧ xok h2 6 81 := ⟨g.to1 (ci := 11) o0.1 (by decide) (by decide +kernel) (by decide +kernel) (vref i1 (rfl : vRf 2 7 = [81])) (by decide), g.to2 (ci := 11) o0.2 (by decide) (by decide +kernel) (by decide +kernel) (vref i2 (rfl : vRf 2 7 = [81])) (by decide)⟩
  have o2 : xok h1 10020 84 ∧ xok h2 10020 84 := ⟨g.to1 (ci := 5) o1.1 (by decide) (by decide +kernel) (by decide +kernel) (vref i1 (rfl : vRf 81 6 = [84])) (by decide), g.to2 (ci := 5) o1.2 (by decide) (by decide +kernel) (by decide +kernel) (vref i2 (rfl : vRf 81 6 = [84])) (by decide)⟩
  exact fun k hk => g.arr (kd := 10020) o2.1 o2.2 (n := 20) ⟨Or.inl rfl, by decide⟩ hk
end ZAh
