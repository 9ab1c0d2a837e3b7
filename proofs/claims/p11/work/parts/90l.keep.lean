/-! A LINE KEEPS: no join is of a region with itself; what the counts tell of a heap. -/
theorem sJo_0 {b : Nat → Int} {n q : Nat} {w1 w2 jn : Int} (h : sJo b n q w1 w2 jn = 0) : w1 ≠ w2 := by
  intro e
  unfold sJo at h
  split at h
  · split at h
    · cases h
    · split at h
      · cases h
      · cases h
  · cases h
theorem sJn_0 {b : Nat → Int} {n : Nat} {Z : Nat → Int} {R : Nat} {O P : Nat → Int} {N q : Nat} (h : (sJn b n Z R O P N q).1 = 0) : zfn Z (tkv b n (nxt b n q)) R 0 ≠ zfn Z (tkv b n (nxt b n (nxt b n q))) R 0 := by
  unfold sJn at h
  split at h
  · cases h
  · split at h
    · rename_i h2
      exact absurd h h2
    · split at h
      · rename_i h3
        exact absurd h h3
      · rename_i h3
        exact sJo_0 (Decidable.not_not.mp h3)
theorem zJ.fr {Z Y : Nat → Int} (z : zJ Z) (B : zcB Z) (e1 : Y 1 = Z 1) (e : ∀ i, 140 ≤ i → i < 160 → Y i = Z i) : zJ Y := by
  intro k hk
  rw [e1] at hk
  have b1 := B.2.1
  rw [e _ (by omega) (by omega), e _ (by omega) (by omega)]
  exact z k hk
theorem zJ_keep {b : Nat → Int} {n : Nat} {Z : Nat → Int} {q : Nat} (hq : q ≤ n) (B : zcB Z) (g6 : zG Z) (zj : zJ Z) (h : (sLn b n Z q).1 = 0) : zJ (sLn b n Z q).2.2.1 := by
  obtain ⟨B0, B1, B2, B3⟩ := id B
  have n1 := nxt_b (b := b) hq
  have n2 := nxt_b (b := b) n1.2.1
  have T := tkc_b b n q
  rcases (by omega : tkc b n q = 20 ∨ tkc b n q = 21 ∨ tkc b n q = 22 ∨ tkc b n q = 23 ∨ tkc b n q = 24 ∨ tkc b n q = 25 ∨ ¬ (20 ≤ tkc b n q ∧ tkc b n q ≤ 25)) with e | e | e | e | e | e | e
  · rw [sLn_20 e]
    have o := (zRg_v b n Z q).2.2.2.2.2
    exact zj.fr (Y := zRg b n Z q) B (o 1 (by omega) (by omega) (by omega) (by omega) (by omega)) (fun i h1 h2 => o i (by omega) (by omega) (by omega) (by omega) (by omega))
  · rw [sLn_21 e] at h ⊢
    have w := sJn_0 h
    obtain ⟨v1, v2, v3, v4, o⟩ := zJn_v b n Z q
    show zJ (zJn b n Z q)
    intro k hk
    rw [v1] at hk
    rcases (by omega : (k : Int) < Z 1 ∨ k = (Z 1).toNat) with z | z
    · rw [o _ (by omega) (by omega) (by omega) (by omega), o _ (by omega) (by omega) (by omega) (by omega)]
      exact zj k z
    · rw [z, v2, v3]
      exact w
  · rw [sLn_22 e]
    have o := (zPn_v b n Z q).2.2.2.2.2
    exact zj.fr (Y := zPn b n Z q) B (o 1 (by omega) (by omega) (by omega) (by omega) (by omega)) (fun i h1 h2 => o i (by omega) (by omega) (by omega) (by omega) (by omega))
  · rw [sLn_23 e]
    have o := (zDb_v b n Z q).2.2.2.2
    exact zj.fr (Y := zDb b n Z q) B (o 1 (by omega) (by omega) (by omega) (by omega)) (fun i h1 h2 => o i (by omega) (by omega) (by omega) (by omega))
  · rw [sLn_24 e] at h ⊢
    split at h
    · cases h
    · rename_i e1
      rw [if_neg e1]
      exact zj.fr (Y := zs (zs Z 4 1) 5 (tkv b n (nxt b n q))) B ((zs_ne (by omega)).trans (zs_ne (by omega))) (fun i h1 h2 => (zs_ne (by omega)).trans (zs_ne (by omega)))
  · rw [sLn_25 e] at h ⊢
    by_cases e1 : tkc b n (nxt b n q) < 27 ∨ 29 < tkc b n (nxt b n q)
    · rw [sLw_1 e1] at h
      cases h
    · obtain ⟨w, hw⟩ : ∃ w, w = (tkc b n (nxt b n q) - 27).toNat := ⟨_, rfl⟩
      by_cases e2 : Z (240 + w) < Z (250 + w)
      · rw [sLw_3 e1 hw e2] at h
        cases h
      · rw [sLw_e e1 hw e2] at h ⊢
        have hw3 : w < 3 := by omega
        obtain ⟨i1, i2, i3, i4, i5, i6, i7, i8, i9, i10⟩ := zE_inv (n + 1) (zl0 Z w) (nxt b n (nxt b n q)) (zl0_inv g6 hw3) n2.2.1 h
        obtain ⟨l1, l2, l3, l4, l5, l6, l7⟩ := zl0_v Z w hw3
        exact zj.fr (Y := zs (zE b n (n + 1) (zl0 Z w) (nxt b n (nxt b n q))).2.2.1 (250 + w) ((zE b n (n + 1) (zl0 Z w) (nxt b n (nxt b n q))).2.2.1 10)) B ((zs_ne (by omega)).trans ((i5 1 (by omega) (by omega) (by omega)).trans (l7 1 (by omega) (by omega) (by omega) (by omega) (by omega) (by omega)))) (fun i h1 h2 => (zs_ne (by omega)).trans ((i5 i (by omega) (by omega) (by omega)).trans (l7 i (by omega) (by omega) (by omega) (by omega) (by omega) (by omega))))
  · rw [sLn_no e] at h
    cases h
/-- the model's counts are within the tables -/
theorem jC.B {Z : Nat → Int} {h : XH} (a : jC Z h) (hg : mI h) : zcB Z := by
  have b0 : 0 ≤ (xI h 104 17).toInt ∧ (xI h 104 17).toInt ≤ 6 := vbnd hg.1 104 17
  have b1 : 0 ≤ (xI h 104 18).toInt ∧ (xI h 104 18).toInt ≤ 9 := vbnd hg.1 104 18
  have b2 : 0 ≤ (xI h 104 19).toInt ∧ (xI h 104 19).toInt ≤ 8 := vbnd hg.1 104 19
  have b3 : 0 ≤ (xI h 104 20).toInt ∧ (xI h 104 20).toInt ≤ 6 := vbnd hg.1 104 20
  have a0 : (xI h 104 17).toInt = Z 0 := a.1 0 (by omega)
  have a1 : (xI h 104 18).toInt = Z 1 := a.1 1 (by omega)
  have a2 : (xI h 104 19).toInt = Z 2 := a.1 2 (by omega)
  have a3 : (xI h 104 20).toInt = Z 3 := a.1 3 (by omega)
  exact ⟨⟨by omega, by omega⟩, ⟨by omega, by omega⟩, ⟨by omega, by omega⟩, by omega, by omega⟩
/-- the start's -/
theorem zG_0 : zG zZ0 := ⟨by decide, by decide, by decide⟩
theorem zJ_0 : zJ zZ0 := fun k hk => absurd hk (by have e : zZ0 1 = 0 := rfl; omega)
