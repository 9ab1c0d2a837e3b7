/-! WHAT A TEXT'S ROWS HOLD: within their bounds. -/
def zVal (Z : Nat → Int) : Prop :=
  (∀ k : Nat, (k : Int) < Z 0 → (1 ≤ Z (110 + k) ∧ Z (110 + k) ≤ 9) ∧ (1 ≤ Z (120 + k) ∧ Z (120 + k) ≤ 99) ∧ (0 ≤ Z (130 + k) ∧ Z (130 + k) ≤ 9)) ∧
  (∀ k : Nat, (k : Int) < Z 1 → (0 ≤ Z (140 + k) ∧ Z (140 + k) < Z 0) ∧ (0 ≤ Z (150 + k) ∧ Z (150 + k) < Z 0) ∧ (1 ≤ Z (160 + k) ∧ Z (160 + k) ≤ 9)) ∧
  (∀ k : Nat, (k : Int) < Z 2 → (0 ≤ Z (180 + k) ∧ Z (180 + k) < Z 0) ∧ (1 ≤ Z (190 + k) ∧ Z (190 + k) ≤ 9) ∧ (0 ≤ Z (200 + k) ∧ Z (200 + k) ≤ 3)) ∧
  (∀ k : Nat, (k : Int) < Z 3 → (0 ≤ Z (210 + k) ∧ Z (210 + k) < Z 2) ∧ (1 ≤ Z (220 + k) ∧ Z (220 + k) ≤ 99) ∧ (0 ≤ Z (230 + k) ∧ Z (230 + k) ≤ 1)) ∧ 0 ≤ Z 5 ∧ Z 5 ≤ 8
theorem zVal_0 : zVal zZ0 := ⟨fun k hk => absurd hk (by have e : zZ0 0 = 0 := rfl; omega), fun k hk => absurd hk (by have e : zZ0 1 = 0 := rfl; omega), fun k hk => absurd hk (by have e : zZ0 2 = 0 := rfl; omega), fun k hk => absurd hk (by have e : zZ0 3 = 0 := rfl; omega), by decide, by decide⟩
theorem zVal.fr {Z Y : Nat → Int} (z : zVal Z) (B : zcB Z) (e0 : ∀ i, i < 4 → Y i = Z i) (e5 : Y 5 = Z 5) (e : ∀ i, 100 ≤ i → i < 240 → Y i = Z i) : zVal Y := by
  obtain ⟨⟨-, B0⟩, ⟨-, B1⟩, ⟨-, B2⟩, -, B3⟩ := B
  obtain ⟨a0, a1, a2, a3, a4⟩ := z
  have i0 := e0 0 (by decide)
  have i1 := e0 1 (by decide)
  have i2 := e0 2 (by decide)
  have i3 := e0 3 (by decide)
  refine ⟨fun k hk => ?_, fun k hk => ?_, fun k hk => ?_, fun k hk => ?_, by rw [e5]; exact a4⟩
  · rw [i0] at hk
    rw [e (110 + k) (by omega) (by omega), e (120 + k) (by omega) (by omega), e (130 + k) (by omega) (by omega)]
    exact a0 k hk
  · rw [i1] at hk
    rw [i0, e (140 + k) (by omega) (by omega), e (150 + k) (by omega) (by omega), e (160 + k) (by omega) (by omega)]
    exact a1 k hk
  · rw [i2] at hk
    rw [i0, e (180 + k) (by omega) (by omega), e (190 + k) (by omega) (by omega), e (200 + k) (by omega) (by omega)]
    exact a2 k hk
  · rw [i3] at hk
    rw [i2, e (210 + k) (by omega) (by omega), e (220 + k) (by omega) (by omega), e (230 + k) (by omega) (by omega)]
    exact a3 k hk
theorem sNu_0 {b : Nat → Int} {n q : Nat} {lo hi : Int} (h : sNu b n q lo hi = 0) : lo ≤ tkv b n q ∧ tkv b n q ≤ hi := by
  unfold sNu at h
  split at h
  · split at h
    · cases h
    · rename_i z
      omega
  · cases h
theorem sTn_0 {b : Nat → Int} {n q : Nat} {w : Int} (h : sTn b n q w = 0) : ¬ w = -1 := by
  unfold sTn at h
  split at h
  · split at h
    · cases h
    · rename_i z
      exact z
  · cases h
theorem zfn_r {Z : Nat → Int} {x : Int} {m : Nat} (h : ¬ zfn Z x m 0 = -1) : 0 ≤ zfn Z x m 0 ∧ zfn Z x m 0 < m := by
  rcases zfn_b (Z := Z) (x := x) m 0 with z | ⟨z1, z2⟩
  · exact absurd z h
  · omega
theorem sRg_0 {b : Nat → Int} {n N q : Nat} {Z : Nat → Int} (h : (sRg b n Z N q).1 = 0) : sNu b n (nxt b n (nxt b n q)) 1 9 = 0 ∧ sNu b n (nxt b n (nxt b n (nxt b n q))) 1 99 = 0 ∧ sNu b n (nxt b n (nxt b n (nxt b n (nxt b n q)))) 0 9 = 0 := by
  unfold sRg at h
  split at h
  · cases h
  · split at h
    · rename_i h2
      exact absurd h h2
    · split at h
      · rename_i h2
        exact absurd h h2
      · rename_i h1
        split at h
        · rename_i h2
          exact absurd h h2
        · rename_i h2
          split at h
          · rename_i h3
            exact absurd h h3
          · rename_i h3
            exact ⟨Decidable.not_not.mp h1, Decidable.not_not.mp h2, Decidable.not_not.mp h3⟩
theorem sJo_1 {b : Nat → Int} {n q : Nat} {w1 w2 jn : Int} (h : sJo b n q w1 w2 jn = 0) : ¬ w2 = -1 := by
  unfold sJo at h
  split at h
  · split at h
    · cases h
    · rename_i z
      exact z
  · cases h
theorem sJn_1 {b : Nat → Int} {n : Nat} {Z : Nat → Int} {R : Nat} {O P : Nat → Int} {N q : Nat} (h : (sJn b n Z R O P N q).1 = 0) : ¬ zfn Z (tkv b n (nxt b n q)) R 0 = -1 ∧ ¬ zfn Z (tkv b n (nxt b n (nxt b n q))) R 0 = -1 ∧ sNu b n (nxt b n (nxt b n (nxt b n q))) 1 9 = 0 := by
  unfold sJn at h
  split at h
  · cases h
  · split at h
    · rename_i h2
      exact absurd h h2
    · rename_i h1
      split at h
      · rename_i h2
        exact absurd h h2
      · rename_i h2
        split at h
        · rename_i h3
          exact absurd h h3
        · rename_i h3
          exact ⟨sTn_0 (Decidable.not_not.mp h1), sJo_1 (Decidable.not_not.mp h2), Decidable.not_not.mp h3⟩
theorem sPn_0 {b : Nat → Int} {n : Nat} {Z : Nat → Int} {N : Nat} {Y : Nat → Int} {R q : Nat} (h : (sPn b n Z N Y R q).1 = 0) : ¬ zfn Y (tkv b n (nxt b n (nxt b n q))) R 0 = -1 ∧ sNu b n (nxt b n (nxt b n (nxt b n q))) 1 9 = 0 ∧ sNu b n (nxt b n (nxt b n (nxt b n (nxt b n q)))) 0 3 = 0 := by
  unfold sPn at h
  split at h
  · cases h
  · split at h
    · rename_i h2
      exact absurd h h2
    · split at h
      · rename_i h2
        exact absurd h h2
      · rename_i h1
        split at h
        · rename_i h2
          exact absurd h h2
        · rename_i h2
          split at h
          · rename_i h3
            exact absurd h h3
          · rename_i h3
            exact ⟨sTn_0 (Decidable.not_not.mp h1), Decidable.not_not.mp h2, Decidable.not_not.mp h3⟩
theorem sDo_0 {b : Nat → Int} {n q : Nat} {w dn : Int} (h : sDo b n q w dn = 0) : ¬ w = -1 := by
  unfold sDo at h
  split at h
  · split at h
    · cases h
    · rename_i z
      exact z
  · cases h
theorem sDb_0 {b : Nat → Int} {n : Nat} {Z : Nat → Int} {N : Nat} {D : Nat → Int} {K q : Nat} (h : (sDb b n Z N D K q).1 = 0) : ¬ zfn Z (tkv b n (nxt b n q)) N 0 = -1 ∧ sNu b n (nxt b n (nxt b n q)) 1 99 = 0 := by
  unfold sDb at h
  split at h
  · cases h
  · split at h
    · rename_i h2
      exact absurd h h2
    · rename_i h1
      split at h
      · rename_i h2
        exact absurd h h2
      · rename_i h2
        exact ⟨sDo_0 (Decidable.not_not.mp h1), Decidable.not_not.mp h2⟩
theorem zVal_keep {b : Nat → Int} {n : Nat} {Z : Nat → Int} {q : Nat} (hq : q ≤ n) (B : zcB Z) (g6 : zG Z) (z : zVal Z) (h : (sLn b n Z q).1 = 0) : zVal (sLn b n Z q).2.2.1 := by
  obtain ⟨⟨B00, B01⟩, ⟨B10, B11⟩, ⟨B20, B21⟩, B30, B31⟩ := id B
  obtain ⟨a0, a1, a2, a3, a4⟩ := id z
  have n1 := nxt_b (b := b) hq
  have n2 := nxt_b (b := b) n1.2.1
  rcases (by omega : tkc b n q = 20 ∨ tkc b n q = 21 ∨ tkc b n q = 22 ∨ tkc b n q = 23 ∨ tkc b n q = 24 ∨ tkc b n q = 25 ∨ ¬ (20 ≤ tkc b n q ∧ tkc b n q ≤ 25)) with e | e | e | e | e | e | e
  · rw [sLn_20 e] at h ⊢
    obtain ⟨s1, s2, s3⟩ := sRg_0 h
    have s1 := sNu_0 s1
    have s2 := sNu_0 s2
    have s3 := sNu_0 s3
    obtain ⟨v0, v1, v2, v3, v4, o⟩ := zRg_v b n Z q
    show zVal (zRg b n Z q)
    refine ⟨fun k hk => ?_, fun k hk => ?_, fun k hk => ?_, fun k hk => ?_, ?_⟩
    · rw [v0] at hk
      rcases (by omega : (k : Int) < Z 0 ∨ k = (Z 0).toNat) with y | y
      · rw [o (110 + k) (by omega) (by omega) (by omega) (by omega) (by omega), o (120 + k) (by omega) (by omega) (by omega) (by omega) (by omega), o (130 + k) (by omega) (by omega) (by omega) (by omega) (by omega)]
        exact a0 k y
      · rw [y, v2, v3, v4]
        exact ⟨s1, s2, s3⟩
    · rw [o 1 (by omega) (by omega) (by omega) (by omega) (by omega)] at hk
      have y := a1 k hk
      rw [v0, o (140 + k) (by omega) (by omega) (by omega) (by omega) (by omega), o (150 + k) (by omega) (by omega) (by omega) (by omega) (by omega), o (160 + k) (by omega) (by omega) (by omega) (by omega) (by omega)]
      omega
    · rw [o 2 (by omega) (by omega) (by omega) (by omega) (by omega)] at hk
      have y := a2 k hk
      rw [v0, o (180 + k) (by omega) (by omega) (by omega) (by omega) (by omega), o (190 + k) (by omega) (by omega) (by omega) (by omega) (by omega), o (200 + k) (by omega) (by omega) (by omega) (by omega) (by omega)]
      omega
    · rw [o 3 (by omega) (by omega) (by omega) (by omega) (by omega)] at hk
      rw [o 2 (by omega) (by omega) (by omega) (by omega) (by omega), o (210 + k) (by omega) (by omega) (by omega) (by omega) (by omega), o (220 + k) (by omega) (by omega) (by omega) (by omega) (by omega), o (230 + k) (by omega) (by omega) (by omega) (by omega) (by omega)]
      exact a3 k hk
    · rw [o 5 (by omega) (by omega) (by omega) (by omega) (by omega)]
      exact a4
  · rw [sLn_21 e] at h ⊢
    obtain ⟨s1, s2, s3⟩ := sJn_1 h
    have s1 := zfn_r s1
    have s2 := zfn_r s2
    have s3 := sNu_0 s3
    obtain ⟨v1, v2, v3, v4, o⟩ := zJn_v b n Z q
    show zVal (zJn b n Z q)
    refine ⟨fun k hk => ?_, fun k hk => ?_, fun k hk => ?_, fun k hk => ?_, ?_⟩
    · rw [o 0 (by omega) (by omega) (by omega) (by omega)] at hk
      rw [o (110 + k) (by omega) (by omega) (by omega) (by omega), o (120 + k) (by omega) (by omega) (by omega) (by omega), o (130 + k) (by omega) (by omega) (by omega) (by omega)]
      exact a0 k hk
    · rw [v1] at hk
      rw [o 0 (by omega) (by omega) (by omega) (by omega)]
      rcases (by omega : (k : Int) < Z 1 ∨ k = (Z 1).toNat) with y | y
      · rw [o (140 + k) (by omega) (by omega) (by omega) (by omega), o (150 + k) (by omega) (by omega) (by omega) (by omega), o (160 + k) (by omega) (by omega) (by omega) (by omega)]
        exact a1 k y
      · rw [y, v2, v3, v4]
        unfold zw
        exact ⟨⟨s1.1, by have := s1.2; omega⟩, ⟨s2.1, by have := s2.2; omega⟩, s3⟩
    · rw [o 2 (by omega) (by omega) (by omega) (by omega)] at hk
      rw [o 0 (by omega) (by omega) (by omega) (by omega), o (180 + k) (by omega) (by omega) (by omega) (by omega), o (190 + k) (by omega) (by omega) (by omega) (by omega), o (200 + k) (by omega) (by omega) (by omega) (by omega)]
      exact a2 k hk
    · rw [o 3 (by omega) (by omega) (by omega) (by omega)] at hk
      rw [o 2 (by omega) (by omega) (by omega) (by omega), o (210 + k) (by omega) (by omega) (by omega) (by omega), o (220 + k) (by omega) (by omega) (by omega) (by omega), o (230 + k) (by omega) (by omega) (by omega) (by omega)]
      exact a3 k hk
    · rw [o 5 (by omega) (by omega) (by omega) (by omega)]
      exact a4
  · rw [sLn_22 e] at h ⊢
    obtain ⟨s1, s2, s3⟩ := sPn_0 h
    have s1 := zfn_r s1
    have s2 := sNu_0 s2
    have s3 := sNu_0 s3
    obtain ⟨v1, v2, v3, v4, v5, o⟩ := zPn_v b n Z q
    show zVal (zPn b n Z q)
    refine ⟨fun k hk => ?_, fun k hk => ?_, fun k hk => ?_, fun k hk => ?_, ?_⟩
    · rw [o 0 (by omega) (by omega) (by omega) (by omega) (by omega)] at hk
      rw [o (110 + k) (by omega) (by omega) (by omega) (by omega) (by omega), o (120 + k) (by omega) (by omega) (by omega) (by omega) (by omega), o (130 + k) (by omega) (by omega) (by omega) (by omega) (by omega)]
      exact a0 k hk
    · rw [o 1 (by omega) (by omega) (by omega) (by omega) (by omega)] at hk
      rw [o 0 (by omega) (by omega) (by omega) (by omega) (by omega), o (140 + k) (by omega) (by omega) (by omega) (by omega) (by omega), o (150 + k) (by omega) (by omega) (by omega) (by omega) (by omega), o (160 + k) (by omega) (by omega) (by omega) (by omega) (by omega)]
      exact a1 k hk
    · rw [v1] at hk
      rw [o 0 (by omega) (by omega) (by omega) (by omega) (by omega)]
      rcases (by omega : (k : Int) < Z 2 ∨ k = (Z 2).toNat) with y | y
      · rw [o (180 + k) (by omega) (by omega) (by omega) (by omega) (by omega), o (190 + k) (by omega) (by omega) (by omega) (by omega) (by omega), o (200 + k) (by omega) (by omega) (by omega) (by omega) (by omega)]
        exact a2 k y
      · rw [y, v3, v4, v5]
        unfold zw
        exact ⟨⟨s1.1, by have := s1.2; omega⟩, s2, s3⟩
    · rw [o 3 (by omega) (by omega) (by omega) (by omega) (by omega)] at hk
      have y := a3 k hk
      rw [v1, o (210 + k) (by omega) (by omega) (by omega) (by omega) (by omega), o (220 + k) (by omega) (by omega) (by omega) (by omega) (by omega), o (230 + k) (by omega) (by omega) (by omega) (by omega) (by omega)]
      omega
    · rw [o 5 (by omega) (by omega) (by omega) (by omega) (by omega)]
      exact a4
  · rw [sLn_23 e] at h ⊢
    obtain ⟨s1, s2⟩ := sDb_0 h
    have s1 := zfn_r s1
    have s2 := sNu_0 s2
    obtain ⟨v1, v2, v3, v4, o⟩ := zDb_v b n Z q
    show zVal (zDb b n Z q)
    refine ⟨fun k hk => ?_, fun k hk => ?_, fun k hk => ?_, fun k hk => ?_, ?_⟩
    · rw [o 0 (by omega) (by omega) (by omega) (by omega)] at hk
      rw [o (110 + k) (by omega) (by omega) (by omega) (by omega), o (120 + k) (by omega) (by omega) (by omega) (by omega), o (130 + k) (by omega) (by omega) (by omega) (by omega)]
      exact a0 k hk
    · rw [o 1 (by omega) (by omega) (by omega) (by omega)] at hk
      rw [o 0 (by omega) (by omega) (by omega) (by omega), o (140 + k) (by omega) (by omega) (by omega) (by omega), o (150 + k) (by omega) (by omega) (by omega) (by omega), o (160 + k) (by omega) (by omega) (by omega) (by omega)]
      exact a1 k hk
    · rw [o 2 (by omega) (by omega) (by omega) (by omega)] at hk
      rw [o 0 (by omega) (by omega) (by omega) (by omega), o (180 + k) (by omega) (by omega) (by omega) (by omega), o (190 + k) (by omega) (by omega) (by omega) (by omega), o (200 + k) (by omega) (by omega) (by omega) (by omega)]
      exact a2 k hk
    · rw [v1] at hk
      rw [o 2 (by omega) (by omega) (by omega) (by omega)]
      rcases (by omega : (k : Int) < Z 3 ∨ k = (Z 3).toNat) with y | y
      · rw [o (210 + k) (by omega) (by omega) (by omega) (by omega), o (220 + k) (by omega) (by omega) (by omega) (by omega), o (230 + k) (by omega) (by omega) (by omega) (by omega)]
        exact a3 k y
      · rw [y, v2, v3, v4]
        unfold zw
        exact ⟨⟨s1.1, by have := s1.2; omega⟩, s2, by split <;> decide⟩
    · rw [o 5 (by omega) (by omega) (by omega) (by omega)]
      exact a4
  · rw [sLn_24 e] at h ⊢
    split at h
    · cases h
    · rename_i e1
      rw [if_neg e1]
      have s := sNu_0 h
      have w := z.fr (Y := zs Z 4 1) B (fun i hi => zs_ne (by omega)) (zs_ne (by omega)) (fun i h1 h2 => zs_ne (by omega))
      show zVal (zs (zs Z 4 1) 5 (tkv b n (nxt b n q)))
      obtain ⟨w0, w1, w2, w3, -⟩ := w
      have f : ∀ i, i ≠ 5 → zs (zs Z 4 1) 5 (tkv b n (nxt b n q)) i = zs Z 4 1 i := fun i hi => zs_ne hi
      refine ⟨fun k hk => ?_, fun k hk => ?_, fun k hk => ?_, fun k hk => ?_, ?_⟩
      · rw [f 0 (by omega)] at hk
        rw [f (110 + k) (by omega), f (120 + k) (by omega), f (130 + k) (by omega)]
        exact w0 k hk
      · rw [f 1 (by omega)] at hk
        rw [f 0 (by omega), f (140 + k) (by omega), f (150 + k) (by omega), f (160 + k) (by omega)]
        exact w1 k hk
      · rw [f 2 (by omega)] at hk
        rw [f 0 (by omega), f (180 + k) (by omega), f (190 + k) (by omega), f (200 + k) (by omega)]
        exact w2 k hk
      · rw [f 3 (by omega)] at hk
        rw [f 2 (by omega), f (210 + k) (by omega), f (220 + k) (by omega), f (230 + k) (by omega)]
        exact w3 k hk
      · rw [zs_same]
        exact s
  · rw [sLn_25 e] at h ⊢
    by_cases e1 : tkc b n (nxt b n q) < 27 ∨ 29 < tkc b n (nxt b n q)
    · rw [sLw_1 e1] at h
      cases h
    · obtain ⟨w, hw⟩ : ∃ w, w = (tkc b n (nxt b n q) - 27).toNat := ⟨_, rfl⟩
      by_cases e2 : Z (240 + w) < Z (250 + w)
      · rw [sLw_3 e1 hw e2] at h
        cases h
      · rw [sLw_e e1 hw e2] at h ⊢
        have hw3 : w < 3 := by omega
        obtain ⟨i1, i2, i3, i4, i5, i6, i7, i8, i9, i10⟩ := zE_inv (n + 1) (zl0 Z w) (nxt b n (nxt b n q)) (zl0_inv g6 hw3) n2.2.1 h
        obtain ⟨l1, l2, l3, l4, l5, l6, l7⟩ := zl0_v Z w hw3
        exact z.fr (Y := zs (zE b n (n + 1) (zl0 Z w) (nxt b n (nxt b n q))).2.2.1 (250 + w) ((zE b n (n + 1) (zl0 Z w) (nxt b n (nxt b n q))).2.2.1 10)) B (fun i hi => (zs_ne (by omega)).trans ((i5 i (by omega) (by omega) (by omega)).trans (l7 i (by omega) (by omega) (by omega) (by omega) (by omega) (by omega)))) ((zs_ne (by omega)).trans ((i5 5 (by omega) (by omega) (by omega)).trans (l7 5 (by omega) (by omega) (by omega) (by omega) (by omega) (by omega)))) (fun i h1 h2 => (zs_ne (by omega)).trans ((i5 i (by omega) (by omega) (by omega)).trans (l7 i (by omega) (by omega) (by omega) (by omega) (by omega) (by omega))))
  · rw [sLn_no e] at h
    cases h
/-- what the spec of a whole text keeps -/
def zAll (Z : Nat → Int) : Prop := zcB Z ∧ zG Z ∧ zJ Z ∧ zVal Z ∧ zLW Z
theorem zAll_0 : zAll zZ0 := ⟨⟨⟨by decide, by decide⟩, ⟨by decide, by decide⟩, ⟨by decide, by decide⟩, by decide, by decide⟩, zG_0, zJ_0, zVal_0, zLW_0⟩
theorem zRows_keep {b : Nat → Int} {n : Nat} {Z : Nat → Int} {q : Nat} (hq : q ≤ n) (B : zcB Z) (g6 : zG Z) (h : (sLn b n Z q).1 = 0) : zcB (sLn b n Z q).2.2.1 := by
  obtain ⟨⟨B00, B01⟩, ⟨B10, B11⟩, ⟨B20, B21⟩, B30, B31⟩ := id B
  have n1 := nxt_b (b := b) hq
  have n2 := nxt_b (b := b) n1.2.1
  have go : ∀ {Y : Nat → Int}, (∀ i, i < 4 → Y i = Z i) → zcB Y := fun {Y} e => by
    unfold zcB
    rw [e 0 (by decide), e 1 (by decide), e 2 (by decide), e 3 (by decide)]
    exact B
  rcases (by omega : tkc b n q = 20 ∨ tkc b n q = 21 ∨ tkc b n q = 22 ∨ tkc b n q = 23 ∨ tkc b n q = 24 ∨ tkc b n q = 25 ∨ ¬ (20 ≤ tkc b n q ∧ tkc b n q ≤ 25)) with e | e | e | e | e | e | e
  · rw [sLn_20 e] at h ⊢
    have s : (Z 0).toNat < 6 := by
      have h : (sRg b n (fun k => Z (100 + k)) (Z 0).toNat q).1 = 0 := h
      unfold sRg at h
      split at h
      · cases h
      · omega
    obtain ⟨v0, v1, v2, v3, v4, o⟩ := zRg_v b n Z q
    show zcB (zRg b n Z q)
    unfold zcB
    rw [v0, o 1 (by omega) (by omega) (by omega) (by omega) (by omega), o 2 (by omega) (by omega) (by omega) (by omega) (by omega), o 3 (by omega) (by omega) (by omega) (by omega) (by omega)]
    omega
  · rw [sLn_21 e] at h ⊢
    have s : (Z 1).toNat < 9 := by
      have h : (sJn b n (fun k => Z (100 + k)) (Z 0).toNat (fun k => Z (140 + k)) (fun k => Z (150 + k)) (Z 1).toNat q).1 = 0 := h
      unfold sJn at h
      split at h
      · cases h
      · omega
    obtain ⟨v1, v2, v3, v4, o⟩ := zJn_v b n Z q
    show zcB (zJn b n Z q)
    unfold zcB
    rw [v1, o 0 (by omega) (by omega) (by omega) (by omega), o 2 (by omega) (by omega) (by omega) (by omega), o 3 (by omega) (by omega) (by omega) (by omega)]
    omega
  · rw [sLn_22 e] at h ⊢
    have s : (Z 2).toNat < 8 := by
      have h : (sPn b n (fun k => Z (170 + k)) (Z 2).toNat (fun k => Z (100 + k)) (Z 0).toNat q).1 = 0 := h
      unfold sPn at h
      split at h
      · cases h
      · omega
    obtain ⟨v1, v2, v3, v4, v5, o⟩ := zPn_v b n Z q
    show zcB (zPn b n Z q)
    unfold zcB
    rw [v1, o 0 (by omega) (by omega) (by omega) (by omega) (by omega), o 1 (by omega) (by omega) (by omega) (by omega) (by omega), o 3 (by omega) (by omega) (by omega) (by omega) (by omega)]
    omega
  · rw [sLn_23 e] at h ⊢
    have s : (Z 3).toNat < 6 := by
      have h : (sDb b n (fun k => Z (170 + k)) (Z 2).toNat (fun k => Z (210 + k)) (Z 3).toNat q).1 = 0 := h
      unfold sDb at h
      split at h
      · cases h
      · omega
    obtain ⟨v1, v2, v3, v4, o⟩ := zDb_v b n Z q
    show zcB (zDb b n Z q)
    unfold zcB
    rw [v1, o 0 (by omega) (by omega) (by omega) (by omega), o 1 (by omega) (by omega) (by omega) (by omega), o 2 (by omega) (by omega) (by omega) (by omega)]
    omega
  · rw [sLn_24 e] at h ⊢
    split at h
    · cases h
    · rename_i e1
      rw [if_neg e1]
      exact go (Y := zs (zs Z 4 1) 5 (tkv b n (nxt b n q))) (fun i hi => (zs_ne (by omega)).trans (zs_ne (by omega)))
  · rw [sLn_25 e] at h ⊢
    by_cases e1 : tkc b n (nxt b n q) < 27 ∨ 29 < tkc b n (nxt b n q)
    · rw [sLw_1 e1] at h
      cases h
    · obtain ⟨w, hw⟩ : ∃ w, w = (tkc b n (nxt b n q) - 27).toNat := ⟨_, rfl⟩
      by_cases e2 : Z (240 + w) < Z (250 + w)
      · rw [sLw_3 e1 hw e2] at h
        cases h
      · rw [sLw_e e1 hw e2] at h ⊢
        have hw3 : w < 3 := by omega
        obtain ⟨i1, i2, i3, i4, i5, i6, i7, i8, i9, i10⟩ := zE_inv (n + 1) (zl0 Z w) (nxt b n (nxt b n q)) (zl0_inv g6 hw3) n2.2.1 h
        obtain ⟨l1, l2, l3, l4, l5, l6, l7⟩ := zl0_v Z w hw3
        exact go (Y := zs (zE b n (n + 1) (zl0 Z w) (nxt b n (nxt b n q))).2.2.1 (250 + w) ((zE b n (n + 1) (zl0 Z w) (nxt b n (nxt b n q))).2.2.1 10)) (fun i hi => (zs_ne (by omega)).trans ((i5 i (by omega) (by omega) (by omega)).trans (l7 i (by omega) (by omega) (by omega) (by omega) (by omega) (by omega))))
  · rw [sLn_no e] at h
    cases h
theorem zAll_keep {b : Nat → Int} {n : Nat} {Z : Nat → Int} {q : Nat} (hq : q ≤ n) (A : zAll Z) (h : (sLn b n Z q).1 = 0) : zAll (sLn b n Z q).2.2.1 := by
  obtain ⟨B, g6, zj, zv, L⟩ := A
  exact ⟨zRows_keep hq B g6 h, (sLn_q hq g6 h).2, zJ_keep hq B g6 zj h, zVal_keep hq B g6 zv h, zLW_keep hq B g6 L h⟩
theorem zAll_tx {b : Nat → Int} {n : Nat} : ∀ (m q : Nat) (Z : Nat → Int) (k : Int), q ≤ n → zAll Z → (sTx b n m k Z q).2.1 = 0 → zAll (sTx b n m k Z q).2.2.2
  | 0, q, Z, k, hq, A, h => A
  | m + 1, q, Z, k, hq, A, h => by
    unfold sTx at h ⊢
    split at h
    · rename_i e
      rw [if_pos e]
      exact A
    · rename_i e
      rw [if_neg e]
      split at h
      · rename_i h2
        exact absurd h h2
      · rename_i h2
        rw [if_neg h2]
        split at h
        · cases h
        · rename_i h3
          rw [if_neg h3]
          have h0 := Decidable.not_not.mp h2
          have lt := tkc_lt (b := b) (n := n) (q := (sLn b n Z q).2.2.2) (by have z := Decidable.not_not.mp h3; omega)
          exact zAll_tx m _ _ _ (nxt_b (b := b) (by omega)).2.1 (zAll_keep hq A h0) h
theorem zAll_text {b : Nat → Int} {n : Nat} (h : (sText b n).2.1 = 0) : zAll (sText b n).2.2.2 := zAll_tx 701 _ _ 0 (by have := sSk_b b n 0; omega) zAll_0 h
