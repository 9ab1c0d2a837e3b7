/-! TWO CONTRACTS OF ONE START: slot by slot. -/
section ZAg
variable {full : Bool} {l r1 r2 : List XV} {h1 h2 : XH}
theorem zag_105 (g : XAG full (xf 13 104 :: l) r1 r2 h1 h2) (i1 : sinv vT h1) (i2 : sinv vT h2) : ∀ k, k < 700 → xI h1 105 k = xI h2 105 k := by
  have o0 := g.rc (by decide)
  have o1 : xok h1 10700 105 ∧ xok h2 10700 105 := ⟨g.to1 (ci := 12) o0.1 (by decide) (by decide +kernel) (by decide +kernel) (vref i1 (rfl : vRf 104 0 = [105])) (by decide), g.to2 (ci := 12) o0.2 (by decide) (by decide +kernel) (by decide +kernel) (vref i2 (rfl : vRf 104 0 = [105])) (by decide)⟩
  exact fun k hk => g.arr (kd := 10700) o1.1 o1.2 (n := 700) ⟨Or.inl rfl, by decide⟩ hk
theorem zag_107 (g : XAG full (xf 13 104 :: l) r1 r2 h1 h2) (i1 : sinv vT h1) (i2 : sinv vT h2) : ∀ k, k < 1 → xI h1 107 k = xI h2 107 k := by
  have o0 := g.rc (by decide)
  have o1 : xok h1 30001 107 ∧ xok h2 30001 107 := ⟨g.to1 (ci := 12) o0.1 (by decide) (by decide +kernel) (by decide +kernel) (vref i1 (rfl : vRf 104 22 = [107])) (by decide), g.to2 (ci := 12) o0.2 (by decide) (by decide +kernel) (by decide +kernel) (vref i2 (rfl : vRf 104 22 = [107])) (by decide)⟩
  exact fun k hk => g.arr (kd := 30001) o1.1 o1.2 (n := 1) ⟨Or.inr (Or.inr rfl), by decide⟩ hk
theorem zag_108 (g : XAG full (xf 13 104 :: l) r1 r2 h1 h2) (i1 : sinv vT h1) (i2 : sinv vT h2) : ∀ k, k < 2 → xI h1 108 k = xI h2 108 k := by
  have o0 := g.rc (by decide)
  have o1 : xok h1 10002 108 ∧ xok h2 10002 108 := ⟨g.to1 (ci := 12) o0.1 (by decide) (by decide +kernel) (by decide +kernel) (vref i1 (rfl : vRf 104 23 = [108])) (by decide), g.to2 (ci := 12) o0.2 (by decide) (by decide +kernel) (by decide +kernel) (vref i2 (rfl : vRf 104 23 = [108])) (by decide)⟩
  exact fun k hk => g.arr (kd := 10002) o1.1 o1.2 (n := 2) ⟨Or.inl rfl, by decide⟩ hk
theorem zag_109 (g : XAG full (xf 13 104 :: l) r1 r2 h1 h2) (i1 : sinv vT h1) (i2 : sinv vT h2) : ∀ k, k < 12 → xI h1 109 k = xI h2 109 k := by
  have o0 := g.rc (by decide)
  have o1 : xok h1 10012 109 ∧ xok h2 10012 109 := ⟨g.to1 (ci := 12) o0.1 (by decide) (by decide +kernel) (by decide +kernel) (vref i1 (rfl : vRf 104 24 = [109])) (by decide), g.to2 (ci := 12) o0.2 (by decide) (by decide +kernel) (by decide +kernel) (vref i2 (rfl : vRf 104 24 = [109])) (by decide)⟩
  exact fun k hk => g.arr (kd := 10012) o1.1 o1.2 (n := 12) ⟨Or.inl rfl, by decide⟩ hk
theorem zag_110 (g : XAG full (xf 13 104 :: l) r1 r2 h1 h2) (i1 : sinv vT h1) (i2 : sinv vT h2) : ∀ k, k < 12 → xI h1 110 k = xI h2 110 k := by
  have o0 := g.rc (by decide)
  have o1 : xok h1 10012 110 ∧ xok h2 10012 110 := ⟨g.to1 (ci := 12) o0.1 (by decide) (by decide +kernel) (by decide +kernel) (vref i1 (rfl : vRf 104 25 = [110])) (by decide), g.to2 (ci := 12) o0.2 (by decide) (by decide +kernel) (by decide +kernel) (vref i2 (rfl : vRf 104 25 = [110])) (by decide)⟩
  exact fun k hk => g.arr (kd := 10012) o1.1 o1.2 (n := 12) ⟨Or.inl rfl, by decide⟩ hk
theorem zag_111 (g : XAG full (xf 13 104 :: l) r1 r2 h1 h2) (i1 : sinv vT h1) (i2 : sinv vT h2) : ∀ k, k < 12 → xI h1 111 k = xI h2 111 k := by
  have o0 := g.rc (by decide)
  have o1 : xok h1 10012 111 ∧ xok h2 10012 111 := ⟨g.to1 (ci := 12) o0.1 (by decide) (by decide +kernel) (by decide +kernel) (vref i1 (rfl : vRf 104 26 = [111])) (by decide), g.to2 (ci := 12) o0.2 (by decide) (by decide +kernel) (by decide +kernel) (vref i2 (rfl : vRf 104 26 = [111])) (by decide)⟩
  exact fun k hk => g.arr (kd := 10012) o1.1 o1.2 (n := 12) ⟨Or.inl rfl, by decide⟩ hk
theorem zag_112 (g : XAG full (xf 13 104 :: l) r1 r2 h1 h2) (i1 : sinv vT h1) (i2 : sinv vT h2) : ∀ k, k < 12 → xI h1 112 k = xI h2 112 k := by
  have o0 := g.rc (by decide)
  have o1 : xok h1 10012 112 ∧ xok h2 10012 112 := ⟨g.to1 (ci := 12) o0.1 (by decide) (by decide +kernel) (by decide +kernel) (vref i1 (rfl : vRf 104 27 = [112])) (by decide), g.to2 (ci := 12) o0.2 (by decide) (by decide +kernel) (by decide +kernel) (vref i2 (rfl : vRf 104 27 = [112])) (by decide)⟩
  exact fun k hk => g.arr (kd := 10012) o1.1 o1.2 (n := 12) ⟨Or.inl rfl, by decide⟩ hk
theorem zag_113 (g : XAG full (xf 13 104 :: l) r1 r2 h1 h2) (i1 : sinv vT h1) (i2 : sinv vT h2) : ∀ k, k < 18 → xI h1 113 k = xI h2 113 k := by
  have o0 := g.rc (by decide)
  have o1 : xok h1 10018 113 ∧ xok h2 10018 113 := ⟨g.to1 (ci := 12) o0.1 (by decide) (by decide +kernel) (by decide +kernel) (vref i1 (rfl : vRf 104 28 = [113])) (by decide), g.to2 (ci := 12) o0.2 (by decide) (by decide +kernel) (by decide +kernel) (vref i2 (rfl : vRf 104 28 = [113])) (by decide)⟩
  exact fun k hk => g.arr (kd := 10018) o1.1 o1.2 (n := 18) ⟨Or.inl rfl, by decide⟩ hk
theorem zag_114 (g : XAG full (xf 13 104 :: l) r1 r2 h1 h2) (i1 : sinv vT h1) (i2 : sinv vT h2) : ∀ k, k < 18 → xI h1 114 k = xI h2 114 k := by
  have o0 := g.rc (by decide)
  have o1 : xok h1 10018 114 ∧ xok h2 10018 114 := ⟨g.to1 (ci := 12) o0.1 (by decide) (by decide +kernel) (by decide +kernel) (vref i1 (rfl : vRf 104 29 = [114])) (by decide), g.to2 (ci := 12) o0.2 (by decide) (by decide +kernel) (by decide +kernel) (vref i2 (rfl : vRf 104 29 = [114])) (by decide)⟩
  exact fun k hk => g.arr (kd := 10018) o1.1 o1.2 (n := 18) ⟨Or.inl rfl, by decide⟩ hk
theorem zag_115 (g : XAG full (xf 13 104 :: l) r1 r2 h1 h2) (i1 : sinv vT h1) (i2 : sinv vT h2) : ∀ k, k < 18 → xI h1 115 k = xI h2 115 k := by
  have o0 := g.rc (by decide)
  have o1 : xok h1 10018 115 ∧ xok h2 10018 115 := ⟨g.to1 (ci := 12) o0.1 (by decide) (by decide +kernel) (by decide +kernel) (vref i1 (rfl : vRf 104 30 = [115])) (by decide), g.to2 (ci := 12) o0.2 (by decide) (by decide +kernel) (by decide +kernel) (vref i2 (rfl : vRf 104 30 = [115])) (by decide)⟩
  exact fun k hk => g.arr (kd := 10018) o1.1 o1.2 (n := 18) ⟨Or.inl rfl, by decide⟩ hk
theorem zag_116 (g : XAG full (xf 13 104 :: l) r1 r2 h1 h2) (i1 : sinv vT h1) (i2 : sinv vT h2) : ∀ k, k < 16 → xI h1 116 k = xI h2 116 k := by
  have o0 := g.rc (by decide)
  have o1 : xok h1 10016 116 ∧ xok h2 10016 116 := ⟨g.to1 (ci := 12) o0.1 (by decide) (by decide +kernel) (by decide +kernel) (vref i1 (rfl : vRf 104 31 = [116])) (by decide), g.to2 (ci := 12) o0.2 (by decide) (by decide +kernel) (by decide +kernel) (vref i2 (rfl : vRf 104 31 = [116])) (by decide)⟩
  exact fun k hk => g.arr (kd := 10016) o1.1 o1.2 (n := 16) ⟨Or.inl rfl, by decide⟩ hk
theorem zag_117 (g : XAG full (xf 13 104 :: l) r1 r2 h1 h2) (i1 : sinv vT h1) (i2 : sinv vT h2) : ∀ k, k < 16 → xI h1 117 k = xI h2 117 k := by
  have o0 := g.rc (by decide)
  have o1 : xok h1 10016 117 ∧ xok h2 10016 117 := ⟨g.to1 (ci := 12) o0.1 (by decide) (by decide +kernel) (by decide +kernel) (vref i1 (rfl : vRf 104 32 = [117])) (by decide), g.to2 (ci := 12) o0.2 (by decide) (by decide +kernel) (by decide +kernel) (vref i2 (rfl : vRf 104 32 = [117])) (by decide)⟩
  exact fun k hk => g.arr (kd := 10016) o1.1 o1.2 (n := 16) ⟨Or.inl rfl, by decide⟩ hk
theorem zag_118 (g : XAG full (xf 13 104 :: l) r1 r2 h1 h2) (i1 : sinv vT h1) (i2 : sinv vT h2) : ∀ k, k < 16 → xI h1 118 k = xI h2 118 k := by
  have o0 := g.rc (by decide)
  have o1 : xok h1 10016 118 ∧ xok h2 10016 118 := ⟨g.to1 (ci := 12) o0.1 (by decide) (by decide +kernel) (by decide +kernel) (vref i1 (rfl : vRf 104 33 = [118])) (by decide), g.to2 (ci := 12) o0.2 (by decide) (by decide +kernel) (by decide +kernel) (vref i2 (rfl : vRf 104 33 = [118])) (by decide)⟩
  exact fun k hk => g.arr (kd := 10016) o1.1 o1.2 (n := 16) ⟨Or.inl rfl, by decide⟩ hk
theorem zag_119 (g : XAG full (xf 13 104 :: l) r1 r2 h1 h2) (i1 : sinv vT h1) (i2 : sinv vT h2) : ∀ k, k < 16 → xI h1 119 k = xI h2 119 k := by
  have o0 := g.rc (by decide)
  have o1 : xok h1 10016 119 ∧ xok h2 10016 119 := ⟨g.to1 (ci := 12) o0.1 (by decide) (by decide +kernel) (by decide +kernel) (vref i1 (rfl : vRf 104 34 = [119])) (by decide), g.to2 (ci := 12) o0.2 (by decide) (by decide +kernel) (by decide +kernel) (vref i2 (rfl : vRf 104 34 = [119])) (by decide)⟩
  exact fun k hk => g.arr (kd := 10016) o1.1 o1.2 (n := 16) ⟨Or.inl rfl, by decide⟩ hk
theorem zag_120 (g : XAG full (xf 13 104 :: l) r1 r2 h1 h2) (i1 : sinv vT h1) (i2 : sinv vT h2) : ∀ k, k < 12 → xI h1 120 k = xI h2 120 k := by
  have o0 := g.rc (by decide)
  have o1 : xok h1 10012 120 ∧ xok h2 10012 120 := ⟨g.to1 (ci := 12) o0.1 (by decide) (by decide +kernel) (by decide +kernel) (vref i1 (rfl : vRf 104 35 = [120])) (by decide), g.to2 (ci := 12) o0.2 (by decide) (by decide +kernel) (by decide +kernel) (vref i2 (rfl : vRf 104 35 = [120])) (by decide)⟩
  exact fun k hk => g.arr (kd := 10012) o1.1 o1.2 (n := 12) ⟨Or.inl rfl, by decide⟩ hk
theorem zag_121 (g : XAG full (xf 13 104 :: l) r1 r2 h1 h2) (i1 : sinv vT h1) (i2 : sinv vT h2) : ∀ k, k < 12 → xI h1 121 k = xI h2 121 k := by
  have o0 := g.rc (by decide)
  have o1 : xok h1 10012 121 ∧ xok h2 10012 121 := ⟨g.to1 (ci := 12) o0.1 (by decide) (by decide +kernel) (by decide +kernel) (vref i1 (rfl : vRf 104 36 = [121])) (by decide), g.to2 (ci := 12) o0.2 (by decide) (by decide +kernel) (by decide +kernel) (vref i2 (rfl : vRf 104 36 = [121])) (by decide)⟩
  exact fun k hk => g.arr (kd := 10012) o1.1 o1.2 (n := 12) ⟨Or.inl rfl, by decide⟩ hk
theorem zag_122 (g : XAG full (xf 13 104 :: l) r1 r2 h1 h2) (i1 : sinv vT h1) (i2 : sinv vT h2) : ∀ k, k < 12 → xI h1 122 k = xI h2 122 k := by
  have o0 := g.rc (by decide)
  have o1 : xok h1 10012 122 ∧ xok h2 10012 122 := ⟨g.to1 (ci := 12) o0.1 (by decide) (by decide +kernel) (by decide +kernel) (vref i1 (rfl : vRf 104 37 = [122])) (by decide), g.to2 (ci := 12) o0.2 (by decide) (by decide +kernel) (by decide +kernel) (vref i2 (rfl : vRf 104 37 = [122])) (by decide)⟩
  exact fun k hk => g.arr (kd := 10012) o1.1 o1.2 (n := 12) ⟨Or.inl rfl, by decide⟩ hk
theorem zag_123 (g : XAG full (xf 13 104 :: l) r1 r2 h1 h2) (i1 : sinv vT h1) (i2 : sinv vT h2) : ∀ k, k < 6 → xI h1 123 k = xI h2 123 k := by
  have o0 := g.rc (by decide)
  have o1 : xok h1 30006 123 ∧ xok h2 30006 123 := ⟨g.to1 (ci := 12) o0.1 (by decide) (by decide +kernel) (by decide +kernel) (vref i1 (rfl : vRf 104 38 = [123])) (by decide), g.to2 (ci := 12) o0.2 (by decide) (by decide +kernel) (by decide +kernel) (vref i2 (rfl : vRf 104 38 = [123])) (by decide)⟩
  exact fun k hk => g.arr (kd := 30006) o1.1 o1.2 (n := 6) ⟨Or.inr (Or.inr rfl), by decide⟩ hk
theorem zag_124 (g : XAG full (xf 13 104 :: l) r1 r2 h1 h2) (i1 : sinv vT h1) (i2 : sinv vT h2) : ∀ k, k < 6 → xI h1 124 k = xI h2 124 k := by
  have o0 := g.rc (by decide)
  have o1 : xok h1 10006 124 ∧ xok h2 10006 124 := ⟨g.to1 (ci := 12) o0.1 (by decide) (by decide +kernel) (by decide +kernel) (vref i1 (rfl : vRf 104 39 = [124])) (by decide), g.to2 (ci := 12) o0.2 (by decide) (by decide +kernel) (by decide +kernel) (vref i2 (rfl : vRf 104 39 = [124])) (by decide)⟩
  exact fun k hk => g.arr (kd := 10006) o1.1 o1.2 (n := 6) ⟨Or.inl rfl, by decide⟩ hk
theorem zag_125 (g : XAG full (xf 13 104 :: l) r1 r2 h1 h2) (i1 : sinv vT h1) (i2 : sinv vT h2) : ∀ k, k < 6 → xI h1 125 k = xI h2 125 k := by
  have o0 := g.rc (by decide)
  have o1 : xok h1 10006 125 ∧ xok h2 10006 125 := ⟨g.to1 (ci := 12) o0.1 (by decide) (by decide +kernel) (by decide +kernel) (vref i1 (rfl : vRf 104 40 = [125])) (by decide), g.to2 (ci := 12) o0.2 (by decide) (by decide +kernel) (by decide +kernel) (vref i2 (rfl : vRf 104 40 = [125])) (by decide)⟩
  exact fun k hk => g.arr (kd := 10006) o1.1 o1.2 (n := 6) ⟨Or.inl rfl, by decide⟩ hk
theorem zag_126 (g : XAG full (xf 13 104 :: l) r1 r2 h1 h2) (i1 : sinv vT h1) (i2 : sinv vT h2) : ∀ k, k < 128 → xI h1 126 k = xI h2 126 k := by
  have o0 := g.rc (by decide)
  have o1 : xok h1 10128 126 ∧ xok h2 10128 126 := ⟨g.to1 (ci := 12) o0.1 (by decide) (by decide +kernel) (by decide +kernel) (vref i1 (rfl : vRf 104 41 = [126])) (by decide), g.to2 (ci := 12) o0.2 (by decide) (by decide +kernel) (by decide +kernel) (vref i2 (rfl : vRf 104 41 = [126])) (by decide)⟩
  exact fun k hk => g.arr (kd := 10128) o1.1 o1.2 (n := 128) ⟨Or.inl rfl, by decide⟩ hk
theorem zag_127 (g : XAG full (xf 13 104 :: l) r1 r2 h1 h2) (i1 : sinv vT h1) (i2 : sinv vT h2) : ∀ k, k < 128 → xI h1 127 k = xI h2 127 k := by
  have o0 := g.rc (by decide)
  have o1 : xok h1 10128 127 ∧ xok h2 10128 127 := ⟨g.to1 (ci := 12) o0.1 (by decide) (by decide +kernel) (by decide +kernel) (vref i1 (rfl : vRf 104 42 = [127])) (by decide), g.to2 (ci := 12) o0.2 (by decide) (by decide +kernel) (by decide +kernel) (vref i2 (rfl : vRf 104 42 = [127])) (by decide)⟩
  exact fun k hk => g.arr (kd := 10128) o1.1 o1.2 (n := 128) ⟨Or.inl rfl, by decide⟩ hk
theorem zag_128 (g : XAG full (xf 13 104 :: l) r1 r2 h1 h2) (i1 : sinv vT h1) (i2 : sinv vT h2) : ∀ k, k < 128 → xI h1 128 k = xI h2 128 k := by
  have o0 := g.rc (by decide)
  have o1 : xok h1 10128 128 ∧ xok h2 10128 128 := ⟨g.to1 (ci := 12) o0.1 (by decide) (by decide +kernel) (by decide +kernel) (vref i1 (rfl : vRf 104 43 = [128])) (by decide), g.to2 (ci := 12) o0.2 (by decide) (by decide +kernel) (by decide +kernel) (vref i2 (rfl : vRf 104 43 = [128])) (by decide)⟩
  exact fun k hk => g.arr (kd := 10128) o1.1 o1.2 (n := 128) ⟨Or.inl rfl, by decide⟩ hk
theorem zag_129 (g : XAG full (xf 13 104 :: l) r1 r2 h1 h2) (i1 : sinv vT h1) (i2 : sinv vT h2) : ∀ k, k < 96 → xI h1 129 k = xI h2 129 k := by
  have o0 := g.rc (by decide)
  have o1 : xok h1 10096 129 ∧ xok h2 10096 129 := ⟨g.to1 (ci := 12) o0.1 (by decide) (by decide +kernel) (by decide +kernel) (vref i1 (rfl : vRf 104 44 = [129])) (by decide), g.to2 (ci := 12) o0.2 (by decide) (by decide +kernel) (by decide +kernel) (vref i2 (rfl : vRf 104 44 = [129])) (by decide)⟩
  exact fun k hk => g.arr (kd := 10096) o1.1 o1.2 (n := 96) ⟨Or.inl rfl, by decide⟩ hk
theorem zag_130 (g : XAG full (xf 13 104 :: l) r1 r2 h1 h2) (i1 : sinv vT h1) (i2 : sinv vT h2) : ∀ k, k < 96 → xI h1 130 k = xI h2 130 k := by
  have o0 := g.rc (by decide)
  have o1 : xok h1 10096 130 ∧ xok h2 10096 130 := ⟨g.to1 (ci := 12) o0.1 (by decide) (by decide +kernel) (by decide +kernel) (vref i1 (rfl : vRf 104 45 = [130])) (by decide), g.to2 (ci := 12) o0.2 (by decide) (by decide +kernel) (by decide +kernel) (vref i2 (rfl : vRf 104 45 = [130])) (by decide)⟩
  exact fun k hk => g.arr (kd := 10096) o1.1 o1.2 (n := 96) ⟨Or.inl rfl, by decide⟩ hk
theorem zag_133 (g : XAG full (xf 13 104 :: l) r1 r2 h1 h2) (i1 : sinv vT h1) (i2 : sinv vT h2) : ∀ k, k < 12 → xI h1 133 k = xI h2 133 k := by
  have o0 := g.rc (by decide)
  have o1 : xok h1 10012 133 ∧ xok h2 10012 133 := ⟨g.to1 (ci := 12) o0.1 (by decide) (by decide +kernel) (by decide +kernel) (vref i1 (rfl : vRf 104 55 = [133])) (by decide), g.to2 (ci := 12) o0.2 (by decide) (by decide +kernel) (by decide +kernel) (vref i2 (rfl : vRf 104 55 = [133])) (by decide)⟩
  exact fun k hk => g.arr (kd := 10012) o1.1 o1.2 (n := 12) ⟨Or.inl rfl, by decide⟩ hk
theorem zag_134 (g : XAG full (xf 13 104 :: l) r1 r2 h1 h2) (i1 : sinv vT h1) (i2 : sinv vT h2) : ∀ k, k < 12 → xI h1 134 k = xI h2 134 k := by
  have o0 := g.rc (by decide)
  have o1 : xok h1 10012 134 ∧ xok h2 10012 134 := ⟨g.to1 (ci := 12) o0.1 (by decide) (by decide +kernel) (by decide +kernel) (vref i1 (rfl : vRf 104 56 = [134])) (by decide), g.to2 (ci := 12) o0.2 (by decide) (by decide +kernel) (by decide +kernel) (vref i2 (rfl : vRf 104 56 = [134])) (by decide)⟩
  exact fun k hk => g.arr (kd := 10012) o1.1 o1.2 (n := 12) ⟨Or.inl rfl, by decide⟩ hk
theorem zag_135 (g : XAG full (xf 13 104 :: l) r1 r2 h1 h2) (i1 : sinv vT h1) (i2 : sinv vT h2) : ∀ k, k < 16 → xI h1 135 k = xI h2 135 k := by
  have o0 := g.rc (by decide)
  have o1 : xok h1 10016 135 ∧ xok h2 10016 135 := ⟨g.to1 (ci := 12) o0.1 (by decide) (by decide +kernel) (by decide +kernel) (vref i1 (rfl : vRf 104 57 = [135])) (by decide), g.to2 (ci := 12) o0.2 (by decide) (by decide +kernel) (by decide +kernel) (vref i2 (rfl : vRf 104 57 = [135])) (by decide)⟩
  exact fun k hk => g.arr (kd := 10016) o1.1 o1.2 (n := 16) ⟨Or.inl rfl, by decide⟩ hk
theorem zag_136 (g : XAG full (xf 13 104 :: l) r1 r2 h1 h2) (i1 : sinv vT h1) (i2 : sinv vT h2) : ∀ k, k < 16 → xI h1 136 k = xI h2 136 k := by
  have o0 := g.rc (by decide)
  have o1 : xok h1 10016 136 ∧ xok h2 10016 136 := ⟨g.to1 (ci := 12) o0.1 (by decide) (by decide +kernel) (by decide +kernel) (vref i1 (rfl : vRf 104 58 = [136])) (by decide), g.to2 (ci := 12) o0.2 (by decide) (by decide +kernel) (by decide +kernel) (vref i2 (rfl : vRf 104 58 = [136])) (by decide)⟩
  exact fun k hk => g.arr (kd := 10016) o1.1 o1.2 (n := 16) ⟨Or.inl rfl, by decide⟩ hk
theorem zag_137 (g : XAG full (xf 13 104 :: l) r1 r2 h1 h2) (i1 : sinv vT h1) (i2 : sinv vT h2) : ∀ k, k < 16 → xI h1 137 k = xI h2 137 k := by
  have o0 := g.rc (by decide)
  have o1 : xok h1 10016 137 ∧ xok h2 10016 137 := ⟨g.to1 (ci := 12) o0.1 (by decide) (by decide +kernel) (by decide +kernel) (vref i1 (rfl : vRf 104 59 = [137])) (by decide), g.to2 (ci := 12) o0.2 (by decide) (by decide +kernel) (by decide +kernel) (vref i2 (rfl : vRf 104 59 = [137])) (by decide)⟩
  exact fun k hk => g.arr (kd := 10016) o1.1 o1.2 (n := 16) ⟨Or.inl rfl, by decide⟩ hk
theorem zag_138 (g : XAG full (xf 13 104 :: l) r1 r2 h1 h2) (i1 : sinv vT h1) (i2 : sinv vT h2) : ∀ k, k < 2 → xI h1 138 k = xI h2 138 k := by
  have o0 := g.rc (by decide)
  have o1 : xok h1 10002 138 ∧ xok h2 10002 138 := ⟨g.to1 (ci := 12) o0.1 (by decide) (by decide +kernel) (by decide +kernel) (vref i1 (rfl : vRf 104 60 = [138])) (by decide), g.to2 (ci := 12) o0.2 (by decide) (by decide +kernel) (by decide +kernel) (vref i2 (rfl : vRf 104 60 = [138])) (by decide)⟩
  exact fun k hk => g.arr (kd := 10002) o1.1 o1.2 (n := 2) ⟨Or.inl rfl, by decide⟩ hk
theorem zag_147 (g : XAG full (xf 13 104 :: l) r1 r2 h1 h2) (i1 : sinv vT h1) (i2 : sinv vT h2) : ∀ k, k < 96 → xI h1 147 k = xI h2 147 k := by
  have o0 := g.rc (by decide)
  have o1 : xok h1 10096 147 ∧ xok h2 10096 147 := ⟨g.to1 (ci := 12) o0.1 (by decide) (by decide +kernel) (by decide +kernel) (vref i1 (rfl : vRf 104 74 = [147])) (by decide), g.to2 (ci := 12) o0.2 (by decide) (by decide +kernel) (by decide +kernel) (vref i2 (rfl : vRf 104 74 = [147])) (by decide)⟩
  exact fun k hk => g.arr (kd := 10096) o1.1 o1.2 (n := 96) ⟨Or.inl rfl, by decide⟩ hk
theorem zag_149 (g : XAG full (xf 13 104 :: l) r1 r2 h1 h2) (i1 : sinv vT h1) (i2 : sinv vT h2) : ∀ k, k < 440 → xI h1 149 k = xI h2 149 k := by
  have o0 := g.rc (by decide)
  have o1 : xok h1 10440 149 ∧ xok h2 10440 149 := ⟨g.to1 (ci := 12) o0.1 (by decide) (by decide +kernel) (by decide +kernel) (vref i1 (rfl : vRf 104 77 = [149])) (by decide), g.to2 (ci := 12) o0.2 (by decide) (by decide +kernel) (by decide +kernel) (vref i2 (rfl : vRf 104 77 = [149])) (by decide)⟩
  exact fun k hk => g.arr (kd := 10440) o1.1 o1.2 (n := 440) ⟨Or.inl rfl, by decide⟩ hk
theorem zag_150 (g : XAG full (xf 13 104 :: l) r1 r2 h1 h2) (i1 : sinv vT h1) (i2 : sinv vT h2) : ∀ k, k < 22 → xI h1 150 k = xI h2 150 k := by
  have o0 := g.rc (by decide)
  have o1 : xok h1 10022 150 ∧ xok h2 10022 150 := ⟨g.to1 (ci := 12) o0.1 (by decide) (by decide +kernel) (by decide +kernel) (vref i1 (rfl : vRf 104 79 = [150])) (by decide), g.to2 (ci := 12) o0.2 (by decide) (by decide +kernel) (by decide +kernel) (vref i2 (rfl : vRf 104 79 = [150])) (by decide)⟩
  exact fun k hk => g.arr (kd := 10022) o1.1 o1.2 (n := 22) ⟨Or.inl rfl, by decide⟩ hk
theorem zag_151 (g : XAG full (xf 13 104 :: l) r1 r2 h1 h2) (i1 : sinv vT h1) (i2 : sinv vT h2) : ∀ k, k < 15 → xI h1 151 k = xI h2 151 k := by
  have o0 := g.rc (by decide)
  have o1 : xok h1 10015 151 ∧ xok h2 10015 151 := ⟨g.to1 (ci := 12) o0.1 (by decide) (by decide +kernel) (by decide +kernel) (vref i1 (rfl : vRf 104 80 = [151])) (by decide), g.to2 (ci := 12) o0.2 (by decide) (by decide +kernel) (by decide +kernel) (vref i2 (rfl : vRf 104 80 = [151])) (by decide)⟩
  exact fun k hk => g.arr (kd := 10015) o1.1 o1.2 (n := 15) ⟨Or.inl rfl, by decide⟩ hk
theorem zag_m (g : XAG full (xf 13 104 :: l) r1 r2 h1 h2) (i1 : sinv vT h1) (i2 : sinv vT h2) : xI h1 104 1 = xI h2 104 1 ∧ xI h1 104 4 = xI h2 104 4 ∧ xI h1 104 5 = xI h2 104 5 ∧ xI h1 104 12 = xI h2 104 12 ∧ xI h1 104 13 = xI h2 104 13 ∧ xI h1 104 14 = xI h2 104 14 ∧ xI h1 104 15 = xI h2 104 15 ∧ xI h1 104 16 = xI h2 104 16 ∧ xI h1 104 63 = xI h2 104 63 ∧ xI h1 104 64 = xI h2 104 64 ∧ xI h1 104 72 = xI h2 104 72 ∧ xI h1 104 73 = xI h2 104 73 ∧ xI h1 104 76 = xI h2 104 76 ∧ xI h1 104 78 = xI h2 104 78 := by
  have o0 := g.rc (by decide)
  exact ⟨g.i (ci := 12) o0.1 o0.2 (by decide +kernel) (by decide) (by decide +kernel), g.i (ci := 12) o0.1 o0.2 (by decide +kernel) (by decide) (by decide +kernel), g.i (ci := 12) o0.1 o0.2 (by decide +kernel) (by decide) (by decide +kernel), g.i (ci := 12) o0.1 o0.2 (by decide +kernel) (by decide) (by decide +kernel), g.i (ci := 12) o0.1 o0.2 (by decide +kernel) (by decide) (by decide +kernel), g.i (ci := 12) o0.1 o0.2 (by decide +kernel) (by decide) (by decide +kernel), g.i (ci := 12) o0.1 o0.2 (by decide +kernel) (by decide) (by decide +kernel), g.i (ci := 12) o0.1 o0.2 (by decide +kernel) (by decide) (by decide +kernel), g.i (ci := 12) o0.1 o0.2 (by decide +kernel) (by decide) (by decide +kernel), g.i (ci := 12) o0.1 o0.2 (by decide +kernel) (by decide) (by decide +kernel), g.i (ci := 12) o0.1 o0.2 (by decide +kernel) (by decide) (by decide +kernel), g.i (ci := 12) o0.1 o0.2 (by decide +kernel) (by decide) (by decide +kernel), g.i (ci := 12) o0.1 o0.2 (by decide +kernel) (by decide) (by decide +kernel), g.i (ci := 12) o0.1 o0.2 (by decide +kernel) (by decide) (by decide +kernel)⟩
theorem zag_s (g : XAG full (xf 12 2 :: l) r1 r2 h1 h2) (i1 : sinv vT h1) (i2 : sinv vT h2) : xI h1 85 0 = xI h2 85 0 ∧ xI h1 85 1 = xI h2 85 1 := by
  have o0 := g.rc (by decide)
  have o1 : xok h1 9 85 ∧ xok h2 9 85 := ⟨g.to1 (ci := 11) o0.1 (by decide) (by decide +kernel) (by decide +kernel) (vref i1 (rfl : vRf 2 8 = [85])) (by decide), g.to2 (ci := 11) o0.2 (by decide) (by decide +kernel) (by decide +kernel) (vref i2 (rfl : vRf 2 8 = [85])) (by decide)⟩
  exact ⟨g.i (ci := 8) o1.1 o1.2 (by decide +kernel) (by decide) (by decide +kernel), g.i (ci := 8) o1.1 o1.2 (by decide +kernel) (by decide) (by decide +kernel)⟩
theorem zag_86 (g : XAG full (xf 12 2 :: l) r1 r2 h1 h2) (i1 : sinv vT h1) (i2 : sinv vT h2) : ∀ k, k < 24 → xI h1 86 k = xI h2 86 k := by
  have o0 := g.rc (by decide)
  have o1 : xok h1 9 85 ∧ xok h2 9 85 := ⟨g.to1 (ci := 11) o0.1 (by decide) (by decide +kernel) (by decide +kernel) (vref i1 (rfl : vRf 2 8 = [85])) (by decide), g.to2 (ci := 11) o0.2 (by decide) (by decide +kernel) (by decide +kernel) (vref i2 (rfl : vRf 2 8 = [85])) (by decide)⟩
  have o2 : xok h1 10024 86 ∧ xok h2 10024 86 := ⟨g.to1 (ci := 8) o1.1 (by decide) (by decide +kernel) (by decide +kernel) (vref i1 (rfl : vRf 85 2 = [86])) (by decide), g.to2 (ci := 8) o1.2 (by decide) (by decide +kernel) (by decide +kernel) (vref i2 (rfl : vRf 85 2 = [86])) (by decide)⟩
  exact fun k hk => g.arr (kd := 10024) o2.1 o2.2 (n := 24) ⟨Or.inl rfl, by decide⟩ hk
theorem zag_87 (g : XAG full (xf 12 2 :: l) r1 r2 h1 h2) (i1 : sinv vT h1) (i2 : sinv vT h2) : ∀ k, k < 24 → xI h1 87 k = xI h2 87 k := by
  have o0 := g.rc (by decide)
  have o1 : xok h1 9 85 ∧ xok h2 9 85 := ⟨g.to1 (ci := 11) o0.1 (by decide) (by decide +kernel) (by decide +kernel) (vref i1 (rfl : vRf 2 8 = [85])) (by decide), g.to2 (ci := 11) o0.2 (by decide) (by decide +kernel) (by decide +kernel) (vref i2 (rfl : vRf 2 8 = [85])) (by decide)⟩
  have o2 : xok h1 10024 87 ∧ xok h2 10024 87 := ⟨g.to1 (ci := 8) o1.1 (by decide) (by decide +kernel) (by decide +kernel) (vref i1 (rfl : vRf 85 3 = [87])) (by decide), g.to2 (ci := 8) o1.2 (by decide) (by decide +kernel) (by decide +kernel) (vref i2 (rfl : vRf 85 3 = [87])) (by decide)⟩
  exact fun k hk => g.arr (kd := 10024) o2.1 o2.2 (n := 24) ⟨Or.inl rfl, by decide⟩ hk
theorem zag_88 (g : XAG full (xf 12 2 :: l) r1 r2 h1 h2) (i1 : sinv vT h1) (i2 : sinv vT h2) : ∀ k, k < 24 → xI h1 88 k = xI h2 88 k := by
  have o0 := g.rc (by decide)
  have o1 : xok h1 9 85 ∧ xok h2 9 85 := ⟨g.to1 (ci := 11) o0.1 (by decide) (by decide +kernel) (by decide +kernel) (vref i1 (rfl : vRf 2 8 = [85])) (by decide), g.to2 (ci := 11) o0.2 (by decide) (by decide +kernel) (by decide +kernel) (vref i2 (rfl : vRf 2 8 = [85])) (by decide)⟩
  have o2 : xok h1 10024 88 ∧ xok h2 10024 88 := ⟨g.to1 (ci := 8) o1.1 (by decide) (by decide +kernel) (by decide +kernel) (vref i1 (rfl : vRf 85 4 = [88])) (by decide), g.to2 (ci := 8) o1.2 (by decide) (by decide +kernel) (by decide +kernel) (vref i2 (rfl : vRf 85 4 = [88])) (by decide)⟩
  exact fun k hk => g.arr (kd := 10024) o2.1 o2.2 (n := 24) ⟨Or.inl rfl, by decide⟩ hk
theorem zag_89 (g : XAG full (xf 12 2 :: l) r1 r2 h1 h2) (i1 : sinv vT h1) (i2 : sinv vT h2) : ∀ k, k < 24 → xI h1 89 k = xI h2 89 k := by
  have o0 := g.rc (by decide)
  have o1 : xok h1 9 85 ∧ xok h2 9 85 := ⟨g.to1 (ci := 11) o0.1 (by decide) (by decide +kernel) (by decide +kernel) (vref i1 (rfl : vRf 2 8 = [85])) (by decide), g.to2 (ci := 11) o0.2 (by decide) (by decide +kernel) (by decide +kernel) (vref i2 (rfl : vRf 2 8 = [85])) (by decide)⟩
  have o2 : xok h1 10024 89 ∧ xok h2 10024 89 := ⟨g.to1 (ci := 8) o1.1 (by decide) (by decide +kernel) (by decide +kernel) (vref i1 (rfl : vRf 85 5 = [89])) (by decide), g.to2 (ci := 8) o1.2 (by decide) (by decide +kernel) (by decide +kernel) (vref i2 (rfl : vRf 85 5 = [89])) (by decide)⟩
  exact fun k hk => g.arr (kd := 10024) o2.1 o2.2 (n := 24) ⟨Or.inl rfl, by decide⟩ hk
end ZAg
