/-! THE CLASS READS A LINE: what it leaves, as one relation. -/
def zkn (j : Nat) : Nat := if j < 4 then 0 else if j < 7 then 1 else if j < 11 then 2 else 3
def zsl (i : Nat) : Nat := if i = 0 then 0 else if i = 1 then 5 else if i = 2 then 9 else 14
theorem zkn_lt (j : Nat) : zkn j < 4 := by
  unfold zkn
  split
  · decide
  · split
    · decide
    · split <;> decide
theorem zsl_lt (i : Nat) : zsl i < 15 := by
  unfold zsl
  split
  · decide
  · split
    · decide
    · split <;> decide
def kC (c : Nat) (Z : Nat → Int) (h : XH) : Prop := (∀ i : Nat, i < 4 → (xI h c (zsl i)).toInt = Z i) ∧ (xI h c 18).toInt = Z 5 ∧ ∀ j k : Nat, j < 14 → (k : Int) < Z (zkn j) → (xI h (c + 1 + j) k).toInt = Z (100 + 10 * j + k)
def kF (cf ct : Nat) (Z : Nat → Int) (h : XH) : Prop := ∀ w : Nat, w < 3 → (xI h cf w).toInt = Z (240 + w) ∧ (xI h ct w).toInt = Z (250 + w)
def zcB (Z : Nat → Int) : Prop := (0 ≤ Z 0 ∧ Z 0 ≤ 6) ∧ (0 ≤ Z 1 ∧ Z 1 ≤ 9) ∧ (0 ≤ Z 2 ∧ Z 2 ≤ 8) ∧ (0 ≤ Z 3 ∧ Z 3 ≤ 6)
theorem zcB.at {Z : Nat → Int} (b : zcB Z) (j : Nat) : Z (zkn j) ≤ 9 := by
  obtain ⟨b0, b1, b2, b3⟩ := b
  unfold zkn
  split
  · omega
  · split
    · omega
    · split <;> omega
theorem kC.up {c t j0 j1 N : Nat} {Z Y : Nat → Int} {h h' : XH} (a : kC c Z h) (b : zcB Z) (hN : Z t = N) (zj : ∀ j, j < 14 → (zkn j = t ↔ j0 ≤ j ∧ j < j1)) (yo : ∀ i, i < 4 → i ≠ t → Y i = Z i) (yt : Y t = Z t + 1) (y5 : Y 5 = Z 5) (yr : ∀ j k, j < 14 → k < 10 → ¬ (j0 ≤ j ∧ j < j1 ∧ k = N) → Y (100 + 10 * j + k) = Z (100 + 10 * j + k)) (e : ∀ i, i < 4 → i ≠ t → xI h' c (zsl i) = xI h c (zsl i)) (et : (xI h' c (zsl t)).toInt = Z t + 1) (e18 : xI h' c 18 = xI h c 18) (hv : ∀ j, j0 ≤ j → j < j1 → (xI h' (c + 1 + j) N).toInt = Y (100 + 10 * j + N)) (ho : ∀ j k, j < 14 → ¬ (j0 ≤ j ∧ j < j1 ∧ k = N) → xI h' (c + 1 + j) k = xI h (c + 1 + j) k) : kC c Y h' := by
  refine ⟨fun i hi => ?_, by rw [e18, y5]; exact a.2.1, fun j k hj hk => ?_⟩
  · by_cases q : i = t
    · rw [q, et, yt]
    · rw [e i hi q, yo i hi q]
      exact a.1 i hi
  · have ba := b.at j
    by_cases q : j0 ≤ j ∧ j < j1
    · have zt := (zj j hj).mpr q
      rw [zt] at ba
      rw [zt, yt, hN] at hk
      by_cases kn : k = N
      · rw [kn]
        exact hv j q.1 q.2
      · rw [ho j k hj (fun z => kn z.2.2), yr j k hj (by omega) (fun z => kn z.2.2)]
        exact a.2.2 j k hj (by rw [zt, hN]; omega)
    · have zt : zkn j ≠ t := fun z => q ((zj j hj).mp z)
      rw [yo _ (zkn_lt j) zt] at hk
      rw [ho j k hj (fun z => q ⟨z.1, z.2.1⟩), yr j k hj (by omega) (fun z => q ⟨z.1, z.2.1⟩)]
      exact a.2.2 j k hj hk
theorem kC.fr {c : Nat} {Z Y : Nat → Int} {h h' : XH} (a : kC c Z h) (b : zcB Z) (y0 : ∀ i, i < 4 → Y i = Z i) (y5 : Y 5 = Z 5) (yr : ∀ i, 100 ≤ i → i < 240 → Y i = Z i) (e : ∀ i, i < 4 → xI h' c (zsl i) = xI h c (zsl i)) (e18 : xI h' c 18 = xI h c 18) (er : ∀ j k, j < 14 → xI h' (c + 1 + j) k = xI h (c + 1 + j) k) : kC c Y h' := by
  refine ⟨fun i hi => by rw [e i hi, y0 i hi]; exact a.1 i hi, by rw [e18, y5]; exact a.2.1, fun j k hj hk => ?_⟩
  have ba := b.at j
  rw [y0 _ (zkn_lt j)] at hk
  rw [er j k hj, yr _ (by omega) (by omega)]
  exact a.2.2 j k hj hk
theorem kF.fr {cf ct : Nat} {Z Y : Nat → Int} {h h' : XH} (a : kF cf ct Z h) (y : ∀ w, w < 3 → Y (240 + w) = Z (240 + w) ∧ Y (250 + w) = Z (250 + w)) (e1 : ∀ k, xI h' cf k = xI h cf k) (e2 : ∀ k, xI h' ct k = xI h ct k) : kF cf ct Y h' := fun w hw => by
  rw [e1, e2, (y w hw).1, (y w hw).2]
  exact a w hw
def kZ (c cl co cv cf ct : Nat) (Z : Nat → Int) (h : XH) : Prop := kC c Z h ∧ kF cf ct Z h ∧ kO cl co cv Z h ∧ (xI h 45 10).toInt = Z 4
/-- what a line comes to -/
def kP (K : (Nat → Int) → XH → Prop) (b : Nat → Int) (n : Nat) (s : Int × Nat × (Nat → Int) × Nat) (h : XH) : Prop := (s.1 = 0 ∧ (xI h 45 2).toInt = 0 ∧ kT b n s.2.2.2 h ∧ K s.2.2.1 h) ∨ (¬ s.1 = 0 ∧ (xI h 45 2).toInt = s.1 ∧ (xI h 45 3).toInt = s.2.1 ∧ kR b n h)
section ZLn
variable {b : Nat → Int} {n : Nat} {Z : Nat → Int} {q : Nat}
theorem sLn_20 (h : tkc b n q = 20) : sLn b n Z q = ((sRg b n (fun k => Z (100 + k)) (Z 0).toNat q).1, (sRg b n (fun k => Z (100 + k)) (Z 0).toNat q).2, zRg b n Z q, nxt b n (nxt b n (nxt b n (nxt b n (nxt b n q))))) := if_pos h
theorem sLn_21 (h : tkc b n q = 21) : sLn b n Z q = ((sJn b n (fun k => Z (100 + k)) (Z 0).toNat (fun k => Z (140 + k)) (fun k => Z (150 + k)) (Z 1).toNat q).1, (sJn b n (fun k => Z (100 + k)) (Z 0).toNat (fun k => Z (140 + k)) (fun k => Z (150 + k)) (Z 1).toNat q).2, zJn b n Z q, nxt b n (nxt b n (nxt b n (nxt b n q)))) := (if_neg (by omega)).trans (if_pos h)
theorem sLn_22 (h : tkc b n q = 22) : sLn b n Z q = ((sPn b n (fun k => Z (170 + k)) (Z 2).toNat (fun k => Z (100 + k)) (Z 0).toNat q).1, (sPn b n (fun k => Z (170 + k)) (Z 2).toNat (fun k => Z (100 + k)) (Z 0).toNat q).2, zPn b n Z q, nxt b n (nxt b n (nxt b n (nxt b n (nxt b n q))))) := (if_neg (by omega)).trans ((if_neg (by omega)).trans (if_pos h))
theorem sLn_23 (h : tkc b n q = 23) : sLn b n Z q = ((sDb b n (fun k => Z (170 + k)) (Z 2).toNat (fun k => Z (210 + k)) (Z 3).toNat q).1, (sDb b n (fun k => Z (170 + k)) (Z 2).toNat (fun k => Z (210 + k)) (Z 3).toNat q).2, zDb b n Z q, if tkc b n (nxt b n (nxt b n (nxt b n q))) = 26 then nxt b n (nxt b n (nxt b n (nxt b n q))) else nxt b n (nxt b n (nxt b n q))) := (if_neg (by omega)).trans ((if_neg (by omega)).trans ((if_neg (by omega)).trans (if_pos h)))
theorem sLn_24 (h : tkc b n q = 24) : sLn b n Z q = (if Z 4 = 1 then (3, q, Z, q) else (sNu b n (nxt b n q) 0 8, nxt b n q, zs (zs Z 4 1) 5 (tkv b n (nxt b n q)), nxt b n (nxt b n q))) := (if_neg (by omega)).trans ((if_neg (by omega)).trans ((if_neg (by omega)).trans ((if_neg (by omega)).trans (if_pos h))))
theorem sLn_25 (h : tkc b n q = 25) : sLn b n Z q = sLw b n Z q := (if_neg (by omega)).trans ((if_neg (by omega)).trans ((if_neg (by omega)).trans ((if_neg (by omega)).trans ((if_neg (by omega)).trans (if_pos h)))))
theorem sLn_no (h : ¬ (20 ≤ tkc b n q ∧ tkc b n q ≤ 25)) : sLn b n Z q = (1, q, Z, q) := (if_neg (by omega)).trans ((if_neg (by omega)).trans ((if_neg (by omega)).trans ((if_neg (by omega)).trans ((if_neg (by omega)).trans (if_neg (by omega))))))
end ZLn
theorem zRg_v (b : Nat → Int) (n : Nat) (Z : Nat → Int) (q : Nat) : zRg b n Z q 0 = Z 0 + 1 ∧ zRg b n Z q (100 + (Z 0).toNat) = (tkv b n (nxt b n q)) ∧ zRg b n Z q (110 + (Z 0).toNat) = (tkv b n (nxt b n (nxt b n q))) ∧ zRg b n Z q (120 + (Z 0).toNat) = (tkv b n (nxt b n (nxt b n (nxt b n q)))) ∧ zRg b n Z q (130 + (Z 0).toNat) = (tkv b n (nxt b n (nxt b n (nxt b n (nxt b n q))))) ∧ (∀ i, i ≠ 0 → i ≠ 100 + (Z 0).toNat → i ≠ 110 + (Z 0).toNat → i ≠ 120 + (Z 0).toNat → i ≠ 130 + (Z 0).toNat → zRg b n Z q i = Z i) := by
  unfold zRg
  refine ⟨zs_same, ?_, ?_, ?_, ?_, ?_⟩
  · rw [zs_ne (by omega), zs_ne (by omega), zs_ne (by omega), zs_ne (by omega), zs_same]
  · rw [zs_ne (by omega), zs_ne (by omega), zs_ne (by omega), zs_same]
  · rw [zs_ne (by omega), zs_ne (by omega), zs_same]
  · rw [zs_ne (by omega), zs_same]
  · intro i a0 a1 a2 a3 a4
    rw [zs_ne (by omega), zs_ne (by omega), zs_ne (by omega), zs_ne (by omega), zs_ne (by omega)]
theorem zJn_v (b : Nat → Int) (n : Nat) (Z : Nat → Int) (q : Nat) : zJn b n Z q 1 = Z 1 + 1 ∧ zJn b n Z q (140 + (Z 1).toNat) = (zw b n Z (nxt b n q) 100 (Z 0).toNat) ∧ zJn b n Z q (150 + (Z 1).toNat) = (zw b n Z (nxt b n (nxt b n q)) 100 (Z 0).toNat) ∧ zJn b n Z q (160 + (Z 1).toNat) = (tkv b n (nxt b n (nxt b n (nxt b n q)))) ∧ (∀ i, i ≠ 1 → i ≠ 140 + (Z 1).toNat → i ≠ 150 + (Z 1).toNat → i ≠ 160 + (Z 1).toNat → zJn b n Z q i = Z i) := by
  unfold zJn
  refine ⟨zs_same, ?_, ?_, ?_, ?_⟩
  · rw [zs_ne (by omega), zs_ne (by omega), zs_ne (by omega), zs_same]
  · rw [zs_ne (by omega), zs_ne (by omega), zs_same]
  · rw [zs_ne (by omega), zs_same]
  · intro i a0 a1 a2 a3
    rw [zs_ne (by omega), zs_ne (by omega), zs_ne (by omega), zs_ne (by omega)]
theorem zPn_v (b : Nat → Int) (n : Nat) (Z : Nat → Int) (q : Nat) : zPn b n Z q 2 = Z 2 + 1 ∧ zPn b n Z q (170 + (Z 2).toNat) = (tkv b n (nxt b n q)) ∧ zPn b n Z q (180 + (Z 2).toNat) = (zw b n Z (nxt b n (nxt b n q)) 100 (Z 0).toNat) ∧ zPn b n Z q (190 + (Z 2).toNat) = (tkv b n (nxt b n (nxt b n (nxt b n q)))) ∧ zPn b n Z q (200 + (Z 2).toNat) = (tkv b n (nxt b n (nxt b n (nxt b n (nxt b n q))))) ∧ (∀ i, i ≠ 2 → i ≠ 170 + (Z 2).toNat → i ≠ 180 + (Z 2).toNat → i ≠ 190 + (Z 2).toNat → i ≠ 200 + (Z 2).toNat → zPn b n Z q i = Z i) := by
  unfold zPn
  refine ⟨zs_same, ?_, ?_, ?_, ?_, ?_⟩
  · rw [zs_ne (by omega), zs_ne (by omega), zs_ne (by omega), zs_ne (by omega), zs_same]
  · rw [zs_ne (by omega), zs_ne (by omega), zs_ne (by omega), zs_same]
  · rw [zs_ne (by omega), zs_ne (by omega), zs_same]
  · rw [zs_ne (by omega), zs_same]
  · intro i a0 a1 a2 a3 a4
    rw [zs_ne (by omega), zs_ne (by omega), zs_ne (by omega), zs_ne (by omega), zs_ne (by omega)]
theorem zDb_v (b : Nat → Int) (n : Nat) (Z : Nat → Int) (q : Nat) : zDb b n Z q 3 = Z 3 + 1 ∧ zDb b n Z q (210 + (Z 3).toNat) = (zw b n Z (nxt b n q) 170 (Z 2).toNat) ∧ zDb b n Z q (220 + (Z 3).toNat) = (tkv b n (nxt b n (nxt b n q))) ∧ zDb b n Z q (230 + (Z 3).toNat) = (if tkc b n (nxt b n (nxt b n (nxt b n q))) = 26 then 1 else 0) ∧ (∀ i, i ≠ 3 → i ≠ 210 + (Z 3).toNat → i ≠ 220 + (Z 3).toNat → i ≠ 230 + (Z 3).toNat → zDb b n Z q i = Z i) := by
  unfold zDb
  refine ⟨zs_same, ?_, ?_, ?_, ?_⟩
  · rw [zs_ne (by omega), zs_ne (by omega), zs_ne (by omega), zs_same]
  · rw [zs_ne (by omega), zs_ne (by omega), zs_same]
  · rw [zs_ne (by omega), zs_same]
  · intro i a0 a1 a2 a3
    rw [zs_ne (by omega), zs_ne (by omega), zs_ne (by omega), zs_ne (by omega)]
theorem kC.B3 {Z : Nat → Int} {h : XH} (hg : sgood vT vR vE 153 6051 h) (a : kC 3 Z h) : zcB Z := by
  have b0 : 0 ≤ (xI h 3 0).toInt ∧ (xI h 3 0).toInt ≤ 6 := vbnd hg.1 3 0
  have a0 : (xI h 3 0).toInt = Z 0 := a.1 0 (by decide)
  have b1 : 0 ≤ (xI h 3 5).toInt ∧ (xI h 3 5).toInt ≤ 9 := vbnd hg.1 3 5
  have a1 : (xI h 3 5).toInt = Z 1 := a.1 1 (by decide)
  have b2 : 0 ≤ (xI h 3 9).toInt ∧ (xI h 3 9).toInt ≤ 8 := vbnd hg.1 3 9
  have a2 : (xI h 3 9).toInt = Z 2 := a.1 2 (by decide)
  have b3 : 0 ≤ (xI h 3 14).toInt ∧ (xI h 3 14).toInt ≤ 6 := vbnd hg.1 3 14
  have a3 : (xI h 3 14).toInt = Z 3 := a.1 3 (by decide)
  unfold zcB; omega
set_option maxRecDepth 100000 in
set_option maxHeartbeats 4000000 in
theorem kl_region3 (l : Launch) (b : Nat → Int) (n q : Nat) (Z : Nat → Int) (h : XH) (hg : sgood vT vR vE 153 6051 h) (kt : kT b n q h) (f0 : (xI h 45 2).toInt = 0) (r4 : xR h 45 4 = 3) (kz : kZ 3 18 19 20 21 22 Z h) (hc : tkc b n q = 20) : ∃ h', CX l 8 241 false 38 [xf 7 45] h [] h' ∧ vG ([(3, 0, false), (3, 5, false), (3, 9, false), (3, 14, false), (3, 18, false), (4, 0, true), (5, 0, true), (6, 0, true), (7, 0, true), (8, 0, true), (9, 0, true), (10, 0, true), (11, 0, true), (12, 0, true), (13, 0, true), (14, 0, true), (15, 0, true), (16, 0, true), (17, 0, true), (18, 5, false), (18, 6, false), (19, 0, true), (20, 0, true), (21, 0, true), (22, 0, true), (45, 2, false), (45, 3, false), (45, 6, false), (45, 7, false), (45, 8, false), (45, 9, false), (45, 10, false), (45, 12, false), (45, 13, false), (47, 0, true)], []) h h' ∧ kP (kZ 3 18 19 20 21 22) b n (sLn b n Z q) h' := by
  obtain ⟨a, af, ao, a10⟩ := kz
  have B := kC.B3 hg a
  obtain ⟨B0, B1, B2, B3⟩ := id B
  have n0 : (xI h 3 0).toInt = ((Z 0).toNat : Nat) := (a.1 0 (by decide)).trans (by omega)
  have n1 : (xI h 3 5).toInt = ((Z 1).toNat : Nat) := (a.1 1 (by decide)).trans (by omega)
  have n2 : (xI h 3 9).toInt = ((Z 2).toNat : Nat) := (a.1 2 (by decide)).trans (by omega)
  have n3 : (xI h 3 14).toInt = ((Z 3).toNat : Nat) := (a.1 3 (by decide)).trans (by omega)
  obtain ⟨h', cx, g, o⟩ := ck_region3 l b n q (Z 0).toNat (fun k => Z (100 + k)) h hg kt f0 r4 n0 (fun k hk => (a.2.2 0 k (by decide) (show (k : Int) < Z 0 by omega) : (xI h 4 k).toInt = Z (100 + k)))
  refine ⟨h', cx, ⟨g.1, g.2.mono rfl rfl⟩, ?_⟩
  rw [sLn_20 hc]
  rcases o with ⟨s1, s2, s3, s4, s5, x0, x1, x2, x3, s9⟩ | ⟨s1, s2, s3, s4⟩
  · obtain ⟨zt, z0, z1, z2, z3, zo⟩ := zRg_v b n Z q
    refine Or.inl ⟨s1, s2, s3, ?_, ?_, ?_, ?_⟩
    · refine a.up (t := 0) (j0 := 0) (j1 := 4) (N := (Z 0).toNat) B (by omega) (by decide) (fun i h1 h2 => zo i h2 (by omega) (by omega) (by omega) (by omega)) zt (zo 5 (by omega) (by omega) (by omega) (by omega) (by omega)) (fun j k h1 h2 h3 => zo _ (by omega) (by omega) (by omega) (by omega) (by omega)) (fun i h1 h2 => ?_) ?_ (g.2.1 3 18 rfl) (fun j h1 h2 => ?_) (fun j k h1 h2 => ?_)
      · rcases (by omega : i = 1 ∨ i = 2 ∨ i = 3) with rfl | rfl | rfl <;> exact g.2.1 3 _ rfl
      · exact (s4 : (xI h' 3 0).toInt = _).trans (by omega)
      · rcases (by omega : j = 0 ∨ j = 1 ∨ j = 2 ∨ j = 3) with rfl | rfl | rfl | rfl
        · exact (x0 : (xI h' 4 (Z 0).toNat).toInt = _).trans (z0 : zRg b n Z q (100 + (Z 0).toNat) = _).symm
        · exact (x1 : (xI h' 5 (Z 0).toNat).toInt = _).trans (z1 : zRg b n Z q (110 + (Z 0).toNat) = _).symm
        · exact (x2 : (xI h' 6 (Z 0).toNat).toInt = _).trans (z2 : zRg b n Z q (120 + (Z 0).toNat) = _).symm
        · exact (x3 : (xI h' 7 (Z 0).toNat).toInt = _).trans (z3 : zRg b n Z q (130 + (Z 0).toNat) = _).symm
      · rcases (by omega : j = 0 ∨ j = 1 ∨ j = 2 ∨ j = 3 ∨ j = 4 ∨ j = 5 ∨ j = 6 ∨ j = 7 ∨ j = 8 ∨ j = 9 ∨ j = 10 ∨ j = 11 ∨ j = 12 ∨ j = 13) with rfl | rfl | rfl | rfl | rfl | rfl | rfl | rfl | rfl | rfl | rfl | rfl | rfl | rfl
        · exact s9 4 k (fun z => h2 ⟨by decide, by decide, z⟩) (by decide)
        · exact s9 5 k (fun z => h2 ⟨by decide, by decide, z⟩) (by decide)
        · exact s9 6 k (fun z => h2 ⟨by decide, by decide, z⟩) (by decide)
        · exact s9 7 k (fun z => h2 ⟨by decide, by decide, z⟩) (by decide)
        · exact g.2.1 8 k rfl
        · exact g.2.1 9 k rfl
        · exact g.2.1 10 k rfl
        · exact g.2.1 11 k rfl
        · exact g.2.1 12 k rfl
        · exact g.2.1 13 k rfl
        · exact g.2.1 14 k rfl
        · exact g.2.1 15 k rfl
        · exact g.2.1 16 k rfl
        · exact g.2.1 17 k rfl
    · exact af.fr (fun w hw => ⟨zo _ (by omega) (by omega) (by omega) (by omega) (by omega), zo _ (by omega) (by omega) (by omega) (by omega) (by omega)⟩) (fun k => g.2.1 21 k rfl) (fun k => g.2.1 22 k rfl)
    · exact ao.fr (g.2.1 18 5 rfl) (by dsimp only; rw [g.2.1 18 6 rfl, zo 6 (by omega) (by omega) (by omega) (by omega) (by omega)]; exact ao.2.1) (fun k => g.2.1 19 k rfl) (fun k => g.2.1 20 k rfl) (zo 10 (by omega) (by omega) (by omega) (by omega) (by omega)) (fun k _ => ⟨zo _ (by omega) (by omega) (by omega) (by omega) (by omega), zo _ (by omega) (by omega) (by omega) (by omega) (by omega)⟩)
    · dsimp only; rw [g.2.1 45 10 rfl, zo 4 (by omega) (by omega) (by omega) (by omega) (by omega)]; exact a10
  · exact Or.inr ⟨s1, s2, s3, s4⟩
set_option maxRecDepth 100000 in
set_option maxHeartbeats 4000000 in
theorem kl_join3 (l : Launch) (b : Nat → Int) (n q : Nat) (Z : Nat → Int) (h : XH) (hg : sgood vT vR vE 153 6051 h) (kt : kT b n q h) (f0 : (xI h 45 2).toInt = 0) (r4 : xR h 45 4 = 3) (kz : kZ 3 18 19 20 21 22 Z h) (hc : tkc b n q = 21) : ∃ h', CX l 8 260 false 43 [xf 7 45] h [] h' ∧ vG ([(3, 0, false), (3, 5, false), (3, 9, false), (3, 14, false), (3, 18, false), (4, 0, true), (5, 0, true), (6, 0, true), (7, 0, true), (8, 0, true), (9, 0, true), (10, 0, true), (11, 0, true), (12, 0, true), (13, 0, true), (14, 0, true), (15, 0, true), (16, 0, true), (17, 0, true), (18, 5, false), (18, 6, false), (19, 0, true), (20, 0, true), (21, 0, true), (22, 0, true), (45, 2, false), (45, 3, false), (45, 6, false), (45, 7, false), (45, 8, false), (45, 9, false), (45, 10, false), (45, 12, false), (45, 13, false), (47, 0, true)], []) h h' ∧ kP (kZ 3 18 19 20 21 22) b n (sLn b n Z q) h' := by
  obtain ⟨a, af, ao, a10⟩ := kz
  have B := kC.B3 hg a
  obtain ⟨B0, B1, B2, B3⟩ := id B
  have n0 : (xI h 3 0).toInt = ((Z 0).toNat : Nat) := (a.1 0 (by decide)).trans (by omega)
  have n1 : (xI h 3 5).toInt = ((Z 1).toNat : Nat) := (a.1 1 (by decide)).trans (by omega)
  have n2 : (xI h 3 9).toInt = ((Z 2).toNat : Nat) := (a.1 2 (by decide)).trans (by omega)
  have n3 : (xI h 3 14).toInt = ((Z 3).toNat : Nat) := (a.1 3 (by decide)).trans (by omega)
  obtain ⟨h', cx, g, o⟩ := ck_join3 l b n q (Z 0).toNat (Z 1).toNat (fun k => Z (100 + k)) (fun k => Z (140 + k)) (fun k => Z (150 + k)) h hg kt f0 r4 n0 (fun k hk => (a.2.2 0 k (by decide) (show (k : Int) < Z 0 by omega) : (xI h 4 k).toInt = Z (100 + k))) n1 (fun k hk => (a.2.2 4 k (by decide) (show (k : Int) < Z 1 by omega) : (xI h 8 k).toInt = Z (140 + k))) (fun k hk => (a.2.2 5 k (by decide) (show (k : Int) < Z 1 by omega) : (xI h 9 k).toInt = Z (150 + k)))
  refine ⟨h', cx, ⟨g.1, g.2.mono rfl rfl⟩, ?_⟩
  rw [sLn_21 hc]
  rcases o with ⟨s1, s2, s3, s4, s5, x0, x1, x2, s9⟩ | ⟨s1, s2, s3, s4⟩
  · obtain ⟨zt, z0, z1, z2, zo⟩ := zJn_v b n Z q
    refine Or.inl ⟨s1, s2, s3, ?_, ?_, ?_, ?_⟩
    · refine a.up (t := 1) (j0 := 4) (j1 := 7) (N := (Z 1).toNat) B (by omega) (by decide) (fun i h1 h2 => zo i h2 (by omega) (by omega) (by omega)) zt (zo 5 (by omega) (by omega) (by omega) (by omega)) (fun j k h1 h2 h3 => zo _ (by omega) (by omega) (by omega) (by omega)) (fun i h1 h2 => ?_) ?_ (g.2.1 3 18 rfl) (fun j h1 h2 => ?_) (fun j k h1 h2 => ?_)
      · rcases (by omega : i = 0 ∨ i = 2 ∨ i = 3) with rfl | rfl | rfl <;> exact g.2.1 3 _ rfl
      · exact (s4 : (xI h' 3 5).toInt = _).trans (by omega)
      · rcases (by omega : j = 4 ∨ j = 5 ∨ j = 6) with rfl | rfl | rfl
        · exact (x0 : (xI h' 8 (Z 1).toNat).toInt = _).trans (z0 : zJn b n Z q (140 + (Z 1).toNat) = _).symm
        · exact (x1 : (xI h' 9 (Z 1).toNat).toInt = _).trans (z1 : zJn b n Z q (150 + (Z 1).toNat) = _).symm
        · exact (x2 : (xI h' 10 (Z 1).toNat).toInt = _).trans (z2 : zJn b n Z q (160 + (Z 1).toNat) = _).symm
      · rcases (by omega : j = 0 ∨ j = 1 ∨ j = 2 ∨ j = 3 ∨ j = 4 ∨ j = 5 ∨ j = 6 ∨ j = 7 ∨ j = 8 ∨ j = 9 ∨ j = 10 ∨ j = 11 ∨ j = 12 ∨ j = 13) with rfl | rfl | rfl | rfl | rfl | rfl | rfl | rfl | rfl | rfl | rfl | rfl | rfl | rfl
        · exact g.2.1 4 k rfl
        · exact g.2.1 5 k rfl
        · exact g.2.1 6 k rfl
        · exact g.2.1 7 k rfl
        · exact s9 8 k (fun z => h2 ⟨by decide, by decide, z⟩) (by decide)
        · exact s9 9 k (fun z => h2 ⟨by decide, by decide, z⟩) (by decide)
        · exact s9 10 k (fun z => h2 ⟨by decide, by decide, z⟩) (by decide)
        · exact g.2.1 11 k rfl
        · exact g.2.1 12 k rfl
        · exact g.2.1 13 k rfl
        · exact g.2.1 14 k rfl
        · exact g.2.1 15 k rfl
        · exact g.2.1 16 k rfl
        · exact g.2.1 17 k rfl
    · exact af.fr (fun w hw => ⟨zo _ (by omega) (by omega) (by omega) (by omega), zo _ (by omega) (by omega) (by omega) (by omega)⟩) (fun k => g.2.1 21 k rfl) (fun k => g.2.1 22 k rfl)
    · exact ao.fr (g.2.1 18 5 rfl) (by dsimp only; rw [g.2.1 18 6 rfl, zo 6 (by omega) (by omega) (by omega) (by omega)]; exact ao.2.1) (fun k => g.2.1 19 k rfl) (fun k => g.2.1 20 k rfl) (zo 10 (by omega) (by omega) (by omega) (by omega)) (fun k _ => ⟨zo _ (by omega) (by omega) (by omega) (by omega), zo _ (by omega) (by omega) (by omega) (by omega)⟩)
    · dsimp only; rw [g.2.1 45 10 rfl, zo 4 (by omega) (by omega) (by omega) (by omega)]; exact a10
  · exact Or.inr ⟨s1, s2, s3, s4⟩
set_option maxRecDepth 100000 in
set_option maxHeartbeats 4000000 in
theorem kl_person3 (l : Launch) (b : Nat → Int) (n q : Nat) (Z : Nat → Int) (h : XH) (hg : sgood vT vR vE 153 6051 h) (kt : kT b n q h) (f0 : (xI h 45 2).toInt = 0) (r4 : xR h 45 4 = 3) (kz : kZ 3 18 19 20 21 22 Z h) (hc : tkc b n q = 22) : ∃ h', CX l 8 241 false 46 [xf 7 45] h [] h' ∧ vG ([(3, 0, false), (3, 5, false), (3, 9, false), (3, 14, false), (3, 18, false), (4, 0, true), (5, 0, true), (6, 0, true), (7, 0, true), (8, 0, true), (9, 0, true), (10, 0, true), (11, 0, true), (12, 0, true), (13, 0, true), (14, 0, true), (15, 0, true), (16, 0, true), (17, 0, true), (18, 5, false), (18, 6, false), (19, 0, true), (20, 0, true), (21, 0, true), (22, 0, true), (45, 2, false), (45, 3, false), (45, 6, false), (45, 7, false), (45, 8, false), (45, 9, false), (45, 10, false), (45, 12, false), (45, 13, false), (47, 0, true)], []) h h' ∧ kP (kZ 3 18 19 20 21 22) b n (sLn b n Z q) h' := by
  obtain ⟨a, af, ao, a10⟩ := kz
  have B := kC.B3 hg a
  obtain ⟨B0, B1, B2, B3⟩ := id B
  have n0 : (xI h 3 0).toInt = ((Z 0).toNat : Nat) := (a.1 0 (by decide)).trans (by omega)
  have n1 : (xI h 3 5).toInt = ((Z 1).toNat : Nat) := (a.1 1 (by decide)).trans (by omega)
  have n2 : (xI h 3 9).toInt = ((Z 2).toNat : Nat) := (a.1 2 (by decide)).trans (by omega)
  have n3 : (xI h 3 14).toInt = ((Z 3).toNat : Nat) := (a.1 3 (by decide)).trans (by omega)
  obtain ⟨h', cx, g, o⟩ := ck_person3 l b n q (Z 2).toNat (Z 0).toNat (fun k => Z (170 + k)) (fun k => Z (100 + k)) h hg kt f0 r4 n2 (fun k hk => (a.2.2 7 k (by decide) (show (k : Int) < Z 2 by omega) : (xI h 11 k).toInt = Z (170 + k))) n0 (fun k hk => (a.2.2 0 k (by decide) (show (k : Int) < Z 0 by omega) : (xI h 4 k).toInt = Z (100 + k)))
  refine ⟨h', cx, ⟨g.1, g.2.mono rfl rfl⟩, ?_⟩
  rw [sLn_22 hc]
  rcases o with ⟨s1, s2, s3, s4, s5, x0, x1, x2, x3, s9⟩ | ⟨s1, s2, s3, s4⟩
  · obtain ⟨zt, z0, z1, z2, z3, zo⟩ := zPn_v b n Z q
    refine Or.inl ⟨s1, s2, s3, ?_, ?_, ?_, ?_⟩
    · refine a.up (t := 2) (j0 := 7) (j1 := 11) (N := (Z 2).toNat) B (by omega) (by decide) (fun i h1 h2 => zo i h2 (by omega) (by omega) (by omega) (by omega)) zt (zo 5 (by omega) (by omega) (by omega) (by omega) (by omega)) (fun j k h1 h2 h3 => zo _ (by omega) (by omega) (by omega) (by omega) (by omega)) (fun i h1 h2 => ?_) ?_ (g.2.1 3 18 rfl) (fun j h1 h2 => ?_) (fun j k h1 h2 => ?_)
      · rcases (by omega : i = 0 ∨ i = 1 ∨ i = 3) with rfl | rfl | rfl <;> exact g.2.1 3 _ rfl
      · exact (s4 : (xI h' 3 9).toInt = _).trans (by omega)
      · rcases (by omega : j = 7 ∨ j = 8 ∨ j = 9 ∨ j = 10) with rfl | rfl | rfl | rfl
        · exact (x0 : (xI h' 11 (Z 2).toNat).toInt = _).trans (z0 : zPn b n Z q (170 + (Z 2).toNat) = _).symm
        · exact (x1 : (xI h' 12 (Z 2).toNat).toInt = _).trans (z1 : zPn b n Z q (180 + (Z 2).toNat) = _).symm
        · exact (x2 : (xI h' 13 (Z 2).toNat).toInt = _).trans (z2 : zPn b n Z q (190 + (Z 2).toNat) = _).symm
        · exact (x3 : (xI h' 14 (Z 2).toNat).toInt = _).trans (z3 : zPn b n Z q (200 + (Z 2).toNat) = _).symm
      · rcases (by omega : j = 0 ∨ j = 1 ∨ j = 2 ∨ j = 3 ∨ j = 4 ∨ j = 5 ∨ j = 6 ∨ j = 7 ∨ j = 8 ∨ j = 9 ∨ j = 10 ∨ j = 11 ∨ j = 12 ∨ j = 13) with rfl | rfl | rfl | rfl | rfl | rfl | rfl | rfl | rfl | rfl | rfl | rfl | rfl | rfl
        · exact g.2.1 4 k rfl
        · exact g.2.1 5 k rfl
        · exact g.2.1 6 k rfl
        · exact g.2.1 7 k rfl
        · exact g.2.1 8 k rfl
        · exact g.2.1 9 k rfl
        · exact g.2.1 10 k rfl
        · exact s9 11 k (fun z => h2 ⟨by decide, by decide, z⟩) (by decide)
        · exact s9 12 k (fun z => h2 ⟨by decide, by decide, z⟩) (by decide)
        · exact s9 13 k (fun z => h2 ⟨by decide, by decide, z⟩) (by decide)
        · exact s9 14 k (fun z => h2 ⟨by decide, by decide, z⟩) (by decide)
        · exact g.2.1 15 k rfl
        · exact g.2.1 16 k rfl
        · exact g.2.1 17 k rfl
    · exact af.fr (fun w hw => ⟨zo _ (by omega) (by omega) (by omega) (by omega) (by omega), zo _ (by omega) (by omega) (by omega) (by omega) (by omega)⟩) (fun k => g.2.1 21 k rfl) (fun k => g.2.1 22 k rfl)
    · exact ao.fr (g.2.1 18 5 rfl) (by dsimp only; rw [g.2.1 18 6 rfl, zo 6 (by omega) (by omega) (by omega) (by omega) (by omega)]; exact ao.2.1) (fun k => g.2.1 19 k rfl) (fun k => g.2.1 20 k rfl) (zo 10 (by omega) (by omega) (by omega) (by omega) (by omega)) (fun k _ => ⟨zo _ (by omega) (by omega) (by omega) (by omega) (by omega), zo _ (by omega) (by omega) (by omega) (by omega) (by omega)⟩)
    · dsimp only; rw [g.2.1 45 10 rfl, zo 4 (by omega) (by omega) (by omega) (by omega) (by omega)]; exact a10
  · exact Or.inr ⟨s1, s2, s3, s4⟩
set_option maxRecDepth 100000 in
set_option maxHeartbeats 4000000 in
theorem kl_debt3 (l : Launch) (b : Nat → Int) (n q : Nat) (Z : Nat → Int) (h : XH) (hg : sgood vT vR vE 153 6051 h) (kt : kT b n q h) (f0 : (xI h 45 2).toInt = 0) (r4 : xR h 45 4 = 3) (kz : kZ 3 18 19 20 21 22 Z h) (hc : tkc b n q = 23) : ∃ h', CX l 8 241 false 48 [xf 7 45] h [] h' ∧ vG ([(3, 0, false), (3, 5, false), (3, 9, false), (3, 14, false), (3, 18, false), (4, 0, true), (5, 0, true), (6, 0, true), (7, 0, true), (8, 0, true), (9, 0, true), (10, 0, true), (11, 0, true), (12, 0, true), (13, 0, true), (14, 0, true), (15, 0, true), (16, 0, true), (17, 0, true), (18, 5, false), (18, 6, false), (19, 0, true), (20, 0, true), (21, 0, true), (22, 0, true), (45, 2, false), (45, 3, false), (45, 6, false), (45, 7, false), (45, 8, false), (45, 9, false), (45, 10, false), (45, 12, false), (45, 13, false), (47, 0, true)], []) h h' ∧ kP (kZ 3 18 19 20 21 22) b n (sLn b n Z q) h' := by
  obtain ⟨a, af, ao, a10⟩ := kz
  have B := kC.B3 hg a
  obtain ⟨B0, B1, B2, B3⟩ := id B
  have n0 : (xI h 3 0).toInt = ((Z 0).toNat : Nat) := (a.1 0 (by decide)).trans (by omega)
  have n1 : (xI h 3 5).toInt = ((Z 1).toNat : Nat) := (a.1 1 (by decide)).trans (by omega)
  have n2 : (xI h 3 9).toInt = ((Z 2).toNat : Nat) := (a.1 2 (by decide)).trans (by omega)
  have n3 : (xI h 3 14).toInt = ((Z 3).toNat : Nat) := (a.1 3 (by decide)).trans (by omega)
  obtain ⟨h', cx, g, o⟩ := ck_debt3 l b n q (Z 2).toNat (Z 3).toNat (fun k => Z (170 + k)) (fun k => Z (210 + k)) h hg kt f0 r4 n2 (fun k hk => (a.2.2 7 k (by decide) (show (k : Int) < Z 2 by omega) : (xI h 11 k).toInt = Z (170 + k))) n3 (fun k hk => (a.2.2 11 k (by decide) (show (k : Int) < Z 3 by omega) : (xI h 15 k).toInt = Z (210 + k)))
  refine ⟨h', cx, ⟨g.1, g.2.mono rfl rfl⟩, ?_⟩
  rw [sLn_23 hc]
  rcases o with ⟨s1, s2, s3, s4, s5, x0, x1, x2, s9⟩ | ⟨s1, s2, s3, s4⟩
  · obtain ⟨zt, z0, z1, z2, zo⟩ := zDb_v b n Z q
    refine Or.inl ⟨s1, s2, s3, ?_, ?_, ?_, ?_⟩
    · refine a.up (t := 3) (j0 := 11) (j1 := 14) (N := (Z 3).toNat) B (by omega) (by decide) (fun i h1 h2 => zo i h2 (by omega) (by omega) (by omega)) zt (zo 5 (by omega) (by omega) (by omega) (by omega)) (fun j k h1 h2 h3 => zo _ (by omega) (by omega) (by omega) (by omega)) (fun i h1 h2 => ?_) ?_ (g.2.1 3 18 rfl) (fun j h1 h2 => ?_) (fun j k h1 h2 => ?_)
      · rcases (by omega : i = 0 ∨ i = 1 ∨ i = 2) with rfl | rfl | rfl <;> exact g.2.1 3 _ rfl
      · exact (s4 : (xI h' 3 14).toInt = _).trans (by omega)
      · rcases (by omega : j = 11 ∨ j = 12 ∨ j = 13) with rfl | rfl | rfl
        · exact (x0 : (xI h' 15 (Z 3).toNat).toInt = _).trans (z0 : zDb b n Z q (210 + (Z 3).toNat) = _).symm
        · exact (x1 : (xI h' 16 (Z 3).toNat).toInt = _).trans (z1 : zDb b n Z q (220 + (Z 3).toNat) = _).symm
        · exact (x2 : (xI h' 17 (Z 3).toNat).toInt = _).trans (z2 : zDb b n Z q (230 + (Z 3).toNat) = _).symm
      · rcases (by omega : j = 0 ∨ j = 1 ∨ j = 2 ∨ j = 3 ∨ j = 4 ∨ j = 5 ∨ j = 6 ∨ j = 7 ∨ j = 8 ∨ j = 9 ∨ j = 10 ∨ j = 11 ∨ j = 12 ∨ j = 13) with rfl | rfl | rfl | rfl | rfl | rfl | rfl | rfl | rfl | rfl | rfl | rfl | rfl | rfl
        · exact g.2.1 4 k rfl
        · exact g.2.1 5 k rfl
        · exact g.2.1 6 k rfl
        · exact g.2.1 7 k rfl
        · exact g.2.1 8 k rfl
        · exact g.2.1 9 k rfl
        · exact g.2.1 10 k rfl
        · exact g.2.1 11 k rfl
        · exact g.2.1 12 k rfl
        · exact g.2.1 13 k rfl
        · exact g.2.1 14 k rfl
        · exact s9 15 k (fun z => h2 ⟨by decide, by decide, z⟩) (by decide)
        · exact s9 16 k (fun z => h2 ⟨by decide, by decide, z⟩) (by decide)
        · exact s9 17 k (fun z => h2 ⟨by decide, by decide, z⟩) (by decide)
    · exact af.fr (fun w hw => ⟨zo _ (by omega) (by omega) (by omega) (by omega), zo _ (by omega) (by omega) (by omega) (by omega)⟩) (fun k => g.2.1 21 k rfl) (fun k => g.2.1 22 k rfl)
    · exact ao.fr (g.2.1 18 5 rfl) (by dsimp only; rw [g.2.1 18 6 rfl, zo 6 (by omega) (by omega) (by omega) (by omega)]; exact ao.2.1) (fun k => g.2.1 19 k rfl) (fun k => g.2.1 20 k rfl) (zo 10 (by omega) (by omega) (by omega) (by omega)) (fun k _ => ⟨zo _ (by omega) (by omega) (by omega) (by omega), zo _ (by omega) (by omega) (by omega) (by omega)⟩)
    · dsimp only; rw [g.2.1 45 10 rfl, zo 4 (by omega) (by omega) (by omega) (by omega)]; exact a10
  · exact Or.inr ⟨s1, s2, s3, s4⟩
theorem sw_no {W : SWl} {c k : Nat} (h : ∀ q ∈ W, ¬ (q.1 = c ∧ (q.2.2 = true ∨ q.2.1 = k))) : swin W c k = false := by
  unfold swin
  rw [List.any_eq_false]
  intro q hq z
  apply h q hq
  rw [Bool.and_eq_true, Bool.or_eq_true] at z
  exact ⟨Nat.eq_of_beq_eq_true z.1, z.2.imp id Nat.eq_of_beq_eq_true⟩
theorem sw45 {c k : Nat} (h : ¬ (c = 45 ∧ (k = 6 ∨ k = 7 ∨ k = 8 ∨ k = 9))) : swin [(45, 6, false), (45, 7, false), (45, 8, false), (45, 9, false)] c k = false := sw_no (fun q hq z => h (by
  simp only [List.mem_cons, List.not_mem_nil, or_false] at hq
  rcases hq with rfl | rfl | rfl | rfl <;> exact ⟨z.1.symm, by have y := z.2.resolve_left (by decide); dsimp only at y; omega⟩))
theorem sw45b {c k : Nat} (h : ¬ (c = 45 ∧ (k = 2 ∨ k = 3 ∨ k = 6 ∨ k = 7 ∨ k = 8 ∨ k = 9))) : swin [(45, 2, false), (45, 3, false), (45, 6, false), (45, 7, false), (45, 8, false), (45, 9, false)] c k = false := sw_no (fun q hq z => h (by
  simp only [List.mem_cons, List.not_mem_nil, or_false] at hq
  rcases hq with rfl | rfl | rfl | rfl | rfl | rfl <;> exact ⟨z.1.symm, by have y := z.2.resolve_left (by decide); dsimp only at y; omega⟩))
set_option maxRecDepth 100000 in
set_option maxHeartbeats 4000000 in
theorem kl_tear3 (l : Launch) (b : Nat → Int) (n q : Nat) (Z : Nat → Int) (h : XH) (hg : sgood vT vR vE 153 6051 h) (kt : kT b n q h) (f0 : (xI h 45 2).toInt = 0) (r4 : xR h 45 4 = 3) (kz : kZ 3 18 19 20 21 22 Z h) (hc : tkc b n q = 24) : ∃ h', CX l 8 241 false 50 [xf 7 45] h [] h' ∧ vG ([(3, 0, false), (3, 5, false), (3, 9, false), (3, 14, false), (3, 18, false), (4, 0, true), (5, 0, true), (6, 0, true), (7, 0, true), (8, 0, true), (9, 0, true), (10, 0, true), (11, 0, true), (12, 0, true), (13, 0, true), (14, 0, true), (15, 0, true), (16, 0, true), (17, 0, true), (18, 5, false), (18, 6, false), (19, 0, true), (20, 0, true), (21, 0, true), (22, 0, true), (45, 2, false), (45, 3, false), (45, 6, false), (45, 7, false), (45, 8, false), (45, 9, false), (45, 10, false), (45, 12, false), (45, 13, false), (47, 0, true)], []) h h' ∧ kP (kZ 3 18 19 20 21 22) b n (sLn b n Z q) h' := by
  obtain ⟨kr, hn7, hq, kq, kc, kv, ke⟩ := id kt
  obtain ⟨a, af, ao, a10⟩ := kz
  have B := kC.B3 hg a
  have b10 : 0 ≤ (xI h 45 10).toInt ∧ (xI h 45 10).toInt ≤ 1 := vbnd hg.1 45 10
  have b8 : 0 ≤ (xI h 45 8).toInt ∧ (xI h 45 8).toInt ≤ 700 := vbnd hg.1 45 8
  have ef : xI h 45 2 = 0 := Int32.toInt_inj.mp f0
  rw [sLn_24 hc]
  by_cases cb1 : (xI h 45 10) = 0
  · have e_0 : (0 : Int32).toInt = 0 := rfl
    have dcb1 : (xI h 45 10).toInt = (0 : Int32).toInt := congrArg Int32.toInt cb1
    have t2 : XT l 8 241 false 50 153 6051 0 [xf 7 45] [] h 19 [xf 7 45] [xf 7 45] (xsetI h 45 10 (Int32.ofInt (1))) := XT_path (l := l) (fr := 8) (lo := 241) (full := false) (M := 50) (n := 153) (u := 6051) (pc := 0) (L := [xf 7 45]) (st := []) (h := h) (inl := [39]) (n' := 120) (sp := [19]) (o := [1]) rfl rfl ⟨rfl, rfl, rfl⟩ rfl ⟨Nat.le_of_eq hg.2.2.2.1, Nat.le_of_eq hg.2.2.2.2⟩ ⟨⟨trivial, cb1⟩, (Or.inr rfl)⟩
    have nt : ¬ Z 4 = 1 := by omega
    rw [if_neg nt]
    have G0 : vG ([(3, 0, false), (3, 5, false), (3, 9, false), (3, 14, false), (3, 18, false), (4, 0, true), (5, 0, true), (6, 0, true), (7, 0, true), (8, 0, true), (9, 0, true), (10, 0, true), (11, 0, true), (12, 0, true), (13, 0, true), (14, 0, true), (15, 0, true), (16, 0, true), (17, 0, true), (18, 5, false), (18, 6, false), (19, 0, true), (20, 0, true), (21, 0, true), (22, 0, true), (45, 2, false), (45, 3, false), (45, 6, false), (45, 7, false), (45, 8, false), (45, 9, false), (45, 10, false), (45, 12, false), (45, 13, false), (47, 0, true)], []) h (xsetI h 45 10 (Int32.ofInt (1))) := ((vG.rf hg) : vG ([(3, 0, false), (3, 5, false), (3, 9, false), (3, 14, false), (3, 18, false), (4, 0, true), (5, 0, true), (6, 0, true), (7, 0, true), (8, 0, true), (9, 0, true), (10, 0, true), (11, 0, true), (12, 0, true), (13, 0, true), (14, 0, true), (15, 0, true), (16, 0, true), (17, 0, true), (18, 5, false), (18, 6, false), (19, 0, true), (20, 0, true), (21, 0, true), (22, 0, true), (45, 2, false), (45, 3, false), (45, 6, false), (45, 7, false), (45, 8, false), (45, 9, false), (45, 10, false), (45, 12, false), (45, 13, false), (47, 0, true)], []) h h).set (c := 45) (k := 10) (v := (Int32.ofInt (1))) (show (0 : Int) ≤ _ ∧ _ ≤ 1 from (by decide)) (by decide +kernel) (by decide +kernel) rfl
    have kt0 : kT b n q (xsetI h 45 10 (Int32.ofInt (1))) := kt.fr (fun k hk => by rcases hk with rfl | rfl | rfl | rfl | rfl | rfl <;> exact yI_ne (by decide)) (fun k => yI_c (by decide))
    obtain ⟨h1, c1, g1, k1⟩ := ck_adv l b n q (xsetI h 45 10 (Int32.ofInt (1))) G0.1 kt0
    have f1 : (xI h1 45 2).toInt = 0 := by rw [g1.2.1 45 2 rfl, yI_ne (by decide)]; exact f0
    have rr1 : xR h1 45 4 = 3 := (g1.2.2 45 4 rfl).trans r4
    have G1 : vG ([(3, 0, false), (3, 5, false), (3, 9, false), (3, 14, false), (3, 18, false), (4, 0, true), (5, 0, true), (6, 0, true), (7, 0, true), (8, 0, true), (9, 0, true), (10, 0, true), (11, 0, true), (12, 0, true), (13, 0, true), (14, 0, true), (15, 0, true), (16, 0, true), (17, 0, true), (18, 5, false), (18, 6, false), (19, 0, true), (20, 0, true), (21, 0, true), (22, 0, true), (45, 2, false), (45, 3, false), (45, 6, false), (45, 7, false), (45, 8, false), (45, 9, false), (45, 10, false), (45, 12, false), (45, 13, false), (47, 0, true)], []) h h1 := (G0 : vG ([(3, 0, false), (3, 5, false), (3, 9, false), (3, 14, false), (3, 18, false), (4, 0, true), (5, 0, true), (6, 0, true), (7, 0, true), (8, 0, true), (9, 0, true), (10, 0, true), (11, 0, true), (12, 0, true), (13, 0, true), (14, 0, true), (15, 0, true), (16, 0, true), (17, 0, true), (18, 5, false), (18, 6, false), (19, 0, true), (20, 0, true), (21, 0, true), (22, 0, true), (45, 2, false), (45, 3, false), (45, 6, false), (45, 7, false), (45, 8, false), (45, 9, false), (45, 10, false), (45, 12, false), (45, 13, false), (47, 0, true)], []) h (xsetI h 45 10 (Int32.ofInt (1)))).tr ⟨g1.1, g1.2.mono rfl rfl⟩
    have o1 : ∀ cc k, ¬ (cc = 45 ∧ (k = 6 ∨ k = 7 ∨ k = 8 ∨ k = 9 ∨ k = 10)) → xI h1 cc k = xI h cc k := fun cc k z => (g1.2.1 cc k (sw45 (by omega))).trans (yI_ne (eq_false (fun y => z ⟨y.1, by omega⟩)))
    have o10 : (xI h1 45 10).toInt = 1 := by rw [g1.2.1 45 10 rfl, yI_same]; rfl
    have t3 : XT l 8 241 false 50 153 6051 19 [xf 7 45] [xf 7 45] (xsetI h 45 10 (Int32.ofInt (1))) 22 [xf 7 45] [] h1 := XT_call (l := l) (fr := 8) (lo := 241) (full := false) (M := 50) (n := 153) (u := 6051) (pc := 19) (L := [xf 7 45]) (st := [xf 7 45]) (h := (xsetI h 45 10 (Int32.ofInt (1)))) (i := .invokevirtual 19) (aux := 1) (nx := 22) (K := 19) (vs := [xf 7 45]) (rs := []) (rest := []) rfl rfl rfl rfl rfl rfl c1 (by decide) (by decide) (Nat.le_of_ble_eq_true rfl) ⟨Nat.le_of_eq g1.1.2.2.2.1, Nat.le_of_eq g1.1.2.2.2.2⟩
    have t4 := t2.tr t3
    have t5 : XT l 8 241 false 50 153 6051 22 [xf 7 45] [] h1 30 [xf 7 45] [xi (Int32.ofInt (8)), xi (Int32.ofInt (0)), xf 7 45, xf 8 (xR h1 45 4)] h1 := XT_path (l := l) (fr := 8) (lo := 241) (full := false) (M := 50) (n := 153) (u := 6051) (pc := 22) (L := [xf 7 45]) (st := []) (h := h1) (inl := [39]) (n' := 120) (sp := [30]) (o := []) rfl rfl ⟨rfl, rfl, rfl⟩ rfl ⟨Nat.le_of_eq g1.1.2.2.2.1, Nat.le_of_eq g1.1.2.2.2.2⟩ ⟨trivial, (show ¬ xR h1 45 4 = 0 from by rw [rr1]; decide)⟩
    rw [rr1] at t5
    have t6 := t4.tr t5
    obtain ⟨v2, h2, c2, g2, ev, o⟩ := ck_num0 l b n (nxt b n q) ((Int32.ofInt (0))) ((Int32.ofInt (8))) h1 g1.1 k1 f1
    rw [show (Int32.ofInt (0)).toInt = 0 from rfl, show (Int32.ofInt (8)).toInt = 8 from rfl] at o
    have o2 : ∀ cc k, ¬ (cc = 45 ∧ (k = 2 ∨ k = 3 ∨ k = 6 ∨ k = 7 ∨ k = 8 ∨ k = 9)) → xI h2 cc k = xI h1 cc k := fun cc k z => g2.2.1 cc k (sw45b (by omega))
    have t7 : XT l 8 241 false 50 153 6051 30 [xf 7 45] [xi (Int32.ofInt (8)), xi (Int32.ofInt (0)), xf 7 45, xf 8 3] h1 33 [xf 7 45] [xi v2, xf 8 3] h2 := XT_call (l := l) (fr := 8) (lo := 241) (full := false) (M := 50) (n := 153) (u := 6051) (pc := 30) (L := [xf 7 45]) (st := [xi (Int32.ofInt (8)), xi (Int32.ofInt (0)), xf 7 45, xf 8 3]) (h := h1) (i := .invokevirtual 42) (aux := 3) (nx := 33) (K := 42) (vs := [xf 7 45, xi (Int32.ofInt (0)), xi (Int32.ofInt (8))]) (rs := [xi v2]) (rest := [xf 8 3]) rfl rfl rfl rfl rfl rfl c2 (by decide) (by decide) (Nat.le_of_ble_eq_true rfl) ⟨Nat.le_of_eq g2.1.2.2.2.1, Nat.le_of_eq g2.1.2.2.2.2⟩
    have t8 := t6.tr t7
    have t9 : XT l 8 241 false 50 153 6051 33 [xf 7 45] [xi v2, xf 8 3] h2 36 [xf 7 45] [] (xsetI h2 3 18 v2) := XT_path (l := l) (fr := 8) (lo := 241) (full := false) (M := 50) (n := 153) (u := 6051) (pc := 33) (L := [xf 7 45]) (st := [xi v2, xf 8 3]) (h := h2) (inl := [39]) (n' := 120) (sp := [36]) (o := []) rfl rfl ⟨rfl, rfl, rfl⟩ rfl ⟨Nat.le_of_eq g2.1.2.2.2.1, Nat.le_of_eq g2.1.2.2.2.2⟩ trivial
    have t10 := t8.tr t9
    have G2 : vG ([(3, 0, false), (3, 5, false), (3, 9, false), (3, 14, false), (3, 18, false), (4, 0, true), (5, 0, true), (6, 0, true), (7, 0, true), (8, 0, true), (9, 0, true), (10, 0, true), (11, 0, true), (12, 0, true), (13, 0, true), (14, 0, true), (15, 0, true), (16, 0, true), (17, 0, true), (18, 5, false), (18, 6, false), (19, 0, true), (20, 0, true), (21, 0, true), (22, 0, true), (45, 2, false), (45, 3, false), (45, 6, false), (45, 7, false), (45, 8, false), (45, 9, false), (45, 10, false), (45, 12, false), (45, 13, false), (47, 0, true)], []) h h2 := G1.tr ⟨g2.1, g2.2.mono rfl rfl⟩
    have G3 : vG ([(3, 0, false), (3, 5, false), (3, 9, false), (3, 14, false), (3, 18, false), (4, 0, true), (5, 0, true), (6, 0, true), (7, 0, true), (8, 0, true), (9, 0, true), (10, 0, true), (11, 0, true), (12, 0, true), (13, 0, true), (14, 0, true), (15, 0, true), (16, 0, true), (17, 0, true), (18, 5, false), (18, 6, false), (19, 0, true), (20, 0, true), (21, 0, true), (22, 0, true), (45, 2, false), (45, 3, false), (45, 6, false), (45, 7, false), (45, 8, false), (45, 9, false), (45, 10, false), (45, 12, false), (45, 13, false), (47, 0, true)], []) h (xsetI h2 3 18 v2) := (G2 : vG ([(3, 0, false), (3, 5, false), (3, 9, false), (3, 14, false), (3, 18, false), (4, 0, true), (5, 0, true), (6, 0, true), (7, 0, true), (8, 0, true), (9, 0, true), (10, 0, true), (11, 0, true), (12, 0, true), (13, 0, true), (14, 0, true), (15, 0, true), (16, 0, true), (17, 0, true), (18, 5, false), (18, 6, false), (19, 0, true), (20, 0, true), (21, 0, true), (22, 0, true), (45, 2, false), (45, 3, false), (45, 6, false), (45, 7, false), (45, 8, false), (45, 9, false), (45, 10, false), (45, 12, false), (45, 13, false), (47, 0, true)], []) h h2).setE (c := 3) (k := 18) (v := v2) (show (-2147483648 : Int) ≤ _ ∧ _ ≤ 2147483647 from i32r_of _) (by decide +kernel) (by decide +kernel) rfl
    have oo : ∀ cc k, ¬ (cc = 45 ∧ (k = 2 ∨ k = 3 ∨ k = 6 ∨ k = 7 ∨ k = 8 ∨ k = 9 ∨ k = 10)) → ¬ (cc = 3 ∧ k = 18) → xI (xsetI h2 3 18 v2) cc k = xI h cc k := fun cc k z y => (yI_ne (eq_false y)).trans ((o2 cc k (fun w => z ⟨w.1, by omega⟩)).trans (o1 cc k (fun w => z ⟨w.1, by omega⟩)))
    refine ⟨_, CX_ofT (h' := (xsetI h2 3 18 v2)) (by decide) rfl rfl trivial ⟨_, _, _, rfl, rfl, rfl⟩ rfl ⟨Nat.le_of_eq g2.1.2.2.2.1.symm, Nat.le_of_eq g2.1.2.2.2.2.symm⟩ t10, G3, ?_⟩
    rcases o with ⟨s1, s2, s3⟩ | ⟨s1, s2, s3, s4⟩
    · refine Or.inl ⟨s1, by rw [yI_c (by decide)]; exact s2, s3.fr (fun k _ => yI_c (by decide)) (fun k => yI_c (by decide)), ?_, ?_, ?_, ?_⟩
      · refine ⟨fun i hi => ?_, ?_, fun j k hj hk => ?_⟩
        · show (xI (xsetI h2 3 18 v2) 3 (zsl i)).toInt = zs (zs Z 4 1) 5 (tkv b n (nxt b n q)) i
          rw [oo 3 (zsl i) (by omega) (by have := zsl_lt i; omega), zs_ne (by omega), zs_ne (by omega)]; exact a.1 i hi
        · show (xI (xsetI h2 3 18 v2) 3 18).toInt = zs (zs Z 4 1) 5 (tkv b n (nxt b n q)) 5
          rw [yI_same, zs_same]; exact ev
        · have zl := zkn_lt j
          have hk : (k : Int) < zs (zs Z 4 1) 5 (tkv b n (nxt b n q)) (zkn j) := hk
          rw [zs_ne (by omega), zs_ne (by omega)] at hk
          show (xI (xsetI h2 3 18 v2) (3 + 1 + j) k).toInt = zs (zs Z 4 1) 5 (tkv b n (nxt b n q)) (100 + 10 * j + k)
          rw [oo (3 + 1 + j) k (by omega) (by omega), zs_ne (by omega), zs_ne (by omega)]; exact a.2.2 j k hj hk
      · exact af.fr (fun w hw => ⟨by dsimp only; rw [zs_ne (by omega), zs_ne (by omega)], by dsimp only; rw [zs_ne (by omega), zs_ne (by omega)]⟩) (fun k => oo 21 k (by omega) (by omega)) (fun k => oo 22 k (by omega) (by omega))
      · exact ao.fr (oo 18 5 (by omega) (by omega)) (by dsimp only; rw [oo 18 6 (by omega) (by omega), zs_ne (by omega), zs_ne (by omega)]; exact ao.2.1) (fun k => oo 19 k (by omega) (by omega)) (fun k => oo 20 k (by omega) (by omega)) (by dsimp only; rw [zs_ne (by omega), zs_ne (by omega)]) (fun k _ => ⟨by dsimp only; rw [zs_ne (by omega), zs_ne (by omega)], by dsimp only; rw [zs_ne (by omega), zs_ne (by omega)]⟩)
      · show (xI (xsetI h2 3 18 v2) 45 10).toInt = zs (zs Z 4 1) 5 (tkv b n (nxt b n q)) 4
        rw [yI_c (by decide), o2 45 10 (by omega), zs_ne (by omega), zs_same]; exact o10
    · exact Or.inr ⟨s1, by rw [yI_c (by decide)]; exact s2, by rw [yI_c (by decide)]; exact s3, s4.fr (yI_c (by decide)) (fun k => yI_c (by decide))⟩
  · have e_0 : (0 : Int32).toInt = 0 := rfl
    have dcb1 : ¬ (xI h 45 10).toInt = (0 : Int32).toInt := fun z_ => cb1 (Int32.toInt_inj.mp z_)
    have t11 : XT l 8 241 false 50 153 6051 0 [xf 7 45] [] h 12 [xf 7 45] [] (xsetI (xsetI h 45 2 (Int32.ofInt (3))) 45 3 (xI h 45 8)) := XT_path (l := l) (fr := 8) (lo := 241) (full := false) (M := 50) (n := 153) (u := 6051) (pc := 0) (L := [xf 7 45]) (st := []) (h := h) (inl := [39]) (n' := 120) (sp := [12]) (o := [0, 0]) rfl rfl ⟨rfl, rfl, rfl⟩ rfl ⟨Nat.le_of_eq hg.2.2.2.1, Nat.le_of_eq hg.2.2.2.2⟩ ⟨⟨trivial, cb1⟩, ef⟩
    rw [if_pos (by omega)]
    have G1 : vG ([(3, 0, false), (3, 5, false), (3, 9, false), (3, 14, false), (3, 18, false), (4, 0, true), (5, 0, true), (6, 0, true), (7, 0, true), (8, 0, true), (9, 0, true), (10, 0, true), (11, 0, true), (12, 0, true), (13, 0, true), (14, 0, true), (15, 0, true), (16, 0, true), (17, 0, true), (18, 5, false), (18, 6, false), (19, 0, true), (20, 0, true), (21, 0, true), (22, 0, true), (45, 2, false), (45, 3, false), (45, 6, false), (45, 7, false), (45, 8, false), (45, 9, false), (45, 10, false), (45, 12, false), (45, 13, false), (47, 0, true)], []) h (xsetI (xsetI h 45 2 (Int32.ofInt (3))) 45 3 (xI h 45 8)) := vGf (vG.rf hg) (by decide) rfl rfl rfl
    exact ⟨_, CX_ofT (h' := (xsetI (xsetI h 45 2 (Int32.ofInt (3))) 45 3 (xI h 45 8))) (by decide) rfl rfl trivial ⟨_, _, _, rfl, rfl, rfl⟩ rfl ⟨Nat.le_of_eq hg.2.2.2.1.symm, Nat.le_of_eq hg.2.2.2.2.symm⟩ t11, G1, Or.inr ⟨(by decide : ¬ (3 : Int) = 0), by rw [yI_ne (by decide), yI_same]; rfl, by rw [yI_same]; exact kq, kr.fr (by rw [yI_ne (by decide), yI_ne (by decide)]) (fun k => by rw [yI_c (by decide), yI_c (by decide)])⟩⟩
theorem kC.B24 {Z : Nat → Int} {h : XH} (hg : sgood vT vR vE 153 6051 h) (a : kC 24 Z h) : zcB Z := by
  have b0 : 0 ≤ (xI h 24 0).toInt ∧ (xI h 24 0).toInt ≤ 6 := vbnd hg.1 24 0
  have a0 : (xI h 24 0).toInt = Z 0 := a.1 0 (by decide)
  have b1 : 0 ≤ (xI h 24 5).toInt ∧ (xI h 24 5).toInt ≤ 9 := vbnd hg.1 24 5
  have a1 : (xI h 24 5).toInt = Z 1 := a.1 1 (by decide)
  have b2 : 0 ≤ (xI h 24 9).toInt ∧ (xI h 24 9).toInt ≤ 8 := vbnd hg.1 24 9
  have a2 : (xI h 24 9).toInt = Z 2 := a.1 2 (by decide)
  have b3 : 0 ≤ (xI h 24 14).toInt ∧ (xI h 24 14).toInt ≤ 6 := vbnd hg.1 24 14
  have a3 : (xI h 24 14).toInt = Z 3 := a.1 3 (by decide)
  unfold zcB; omega
set_option maxRecDepth 100000 in
set_option maxHeartbeats 4000000 in
theorem kl_region24 (l : Launch) (b : Nat → Int) (n q : Nat) (Z : Nat → Int) (h : XH) (hg : sgood vT vR vE 153 6051 h) (kt : kT b n q h) (f0 : (xI h 45 2).toInt = 0) (r4 : xR h 45 4 = 24) (kz : kZ 24 39 40 41 42 43 Z h) (hc : tkc b n q = 20) : ∃ h', CX l 8 241 false 38 [xf 7 45] h [] h' ∧ vG ([(24, 0, false), (24, 5, false), (24, 9, false), (24, 14, false), (24, 18, false), (25, 0, true), (26, 0, true), (27, 0, true), (28, 0, true), (29, 0, true), (30, 0, true), (31, 0, true), (32, 0, true), (33, 0, true), (34, 0, true), (35, 0, true), (36, 0, true), (37, 0, true), (38, 0, true), (39, 5, false), (39, 6, false), (40, 0, true), (41, 0, true), (42, 0, true), (43, 0, true), (45, 2, false), (45, 3, false), (45, 6, false), (45, 7, false), (45, 8, false), (45, 9, false), (45, 10, false), (45, 12, false), (45, 13, false), (47, 0, true)], []) h h' ∧ kP (kZ 24 39 40 41 42 43) b n (sLn b n Z q) h' := by
  obtain ⟨a, af, ao, a10⟩ := kz
  have B := kC.B24 hg a
  obtain ⟨B0, B1, B2, B3⟩ := id B
  have n0 : (xI h 24 0).toInt = ((Z 0).toNat : Nat) := (a.1 0 (by decide)).trans (by omega)
  have n1 : (xI h 24 5).toInt = ((Z 1).toNat : Nat) := (a.1 1 (by decide)).trans (by omega)
  have n2 : (xI h 24 9).toInt = ((Z 2).toNat : Nat) := (a.1 2 (by decide)).trans (by omega)
  have n3 : (xI h 24 14).toInt = ((Z 3).toNat : Nat) := (a.1 3 (by decide)).trans (by omega)
  obtain ⟨h', cx, g, o⟩ := ck_region24 l b n q (Z 0).toNat (fun k => Z (100 + k)) h hg kt f0 r4 n0 (fun k hk => (a.2.2 0 k (by decide) (show (k : Int) < Z 0 by omega) : (xI h 25 k).toInt = Z (100 + k)))
  refine ⟨h', cx, ⟨g.1, g.2.mono rfl rfl⟩, ?_⟩
  rw [sLn_20 hc]
  rcases o with ⟨s1, s2, s3, s4, s5, x0, x1, x2, x3, s9⟩ | ⟨s1, s2, s3, s4⟩
  · obtain ⟨zt, z0, z1, z2, z3, zo⟩ := zRg_v b n Z q
    refine Or.inl ⟨s1, s2, s3, ?_, ?_, ?_, ?_⟩
    · refine a.up (t := 0) (j0 := 0) (j1 := 4) (N := (Z 0).toNat) B (by omega) (by decide) (fun i h1 h2 => zo i h2 (by omega) (by omega) (by omega) (by omega)) zt (zo 5 (by omega) (by omega) (by omega) (by omega) (by omega)) (fun j k h1 h2 h3 => zo _ (by omega) (by omega) (by omega) (by omega) (by omega)) (fun i h1 h2 => ?_) ?_ (g.2.1 24 18 rfl) (fun j h1 h2 => ?_) (fun j k h1 h2 => ?_)
      · rcases (by omega : i = 1 ∨ i = 2 ∨ i = 3) with rfl | rfl | rfl <;> exact g.2.1 24 _ rfl
      · exact (s4 : (xI h' 24 0).toInt = _).trans (by omega)
      · rcases (by omega : j = 0 ∨ j = 1 ∨ j = 2 ∨ j = 3) with rfl | rfl | rfl | rfl
        · exact (x0 : (xI h' 25 (Z 0).toNat).toInt = _).trans (z0 : zRg b n Z q (100 + (Z 0).toNat) = _).symm
        · exact (x1 : (xI h' 26 (Z 0).toNat).toInt = _).trans (z1 : zRg b n Z q (110 + (Z 0).toNat) = _).symm
        · exact (x2 : (xI h' 27 (Z 0).toNat).toInt = _).trans (z2 : zRg b n Z q (120 + (Z 0).toNat) = _).symm
        · exact (x3 : (xI h' 28 (Z 0).toNat).toInt = _).trans (z3 : zRg b n Z q (130 + (Z 0).toNat) = _).symm
      · rcases (by omega : j = 0 ∨ j = 1 ∨ j = 2 ∨ j = 3 ∨ j = 4 ∨ j = 5 ∨ j = 6 ∨ j = 7 ∨ j = 8 ∨ j = 9 ∨ j = 10 ∨ j = 11 ∨ j = 12 ∨ j = 13) with rfl | rfl | rfl | rfl | rfl | rfl | rfl | rfl | rfl | rfl | rfl | rfl | rfl | rfl
        · exact s9 25 k (fun z => h2 ⟨by decide, by decide, z⟩) (by decide)
        · exact s9 26 k (fun z => h2 ⟨by decide, by decide, z⟩) (by decide)
        · exact s9 27 k (fun z => h2 ⟨by decide, by decide, z⟩) (by decide)
        · exact s9 28 k (fun z => h2 ⟨by decide, by decide, z⟩) (by decide)
        · exact g.2.1 29 k rfl
        · exact g.2.1 30 k rfl
        · exact g.2.1 31 k rfl
        · exact g.2.1 32 k rfl
        · exact g.2.1 33 k rfl
        · exact g.2.1 34 k rfl
        · exact g.2.1 35 k rfl
        · exact g.2.1 36 k rfl
        · exact g.2.1 37 k rfl
        · exact g.2.1 38 k rfl
    · exact af.fr (fun w hw => ⟨zo _ (by omega) (by omega) (by omega) (by omega) (by omega), zo _ (by omega) (by omega) (by omega) (by omega) (by omega)⟩) (fun k => g.2.1 42 k rfl) (fun k => g.2.1 43 k rfl)
    · exact ao.fr (g.2.1 39 5 rfl) (by dsimp only; rw [g.2.1 39 6 rfl, zo 6 (by omega) (by omega) (by omega) (by omega) (by omega)]; exact ao.2.1) (fun k => g.2.1 40 k rfl) (fun k => g.2.1 41 k rfl) (zo 10 (by omega) (by omega) (by omega) (by omega) (by omega)) (fun k _ => ⟨zo _ (by omega) (by omega) (by omega) (by omega) (by omega), zo _ (by omega) (by omega) (by omega) (by omega) (by omega)⟩)
    · dsimp only; rw [g.2.1 45 10 rfl, zo 4 (by omega) (by omega) (by omega) (by omega) (by omega)]; exact a10
  · exact Or.inr ⟨s1, s2, s3, s4⟩
set_option maxRecDepth 100000 in
set_option maxHeartbeats 4000000 in
theorem kl_join24 (l : Launch) (b : Nat → Int) (n q : Nat) (Z : Nat → Int) (h : XH) (hg : sgood vT vR vE 153 6051 h) (kt : kT b n q h) (f0 : (xI h 45 2).toInt = 0) (r4 : xR h 45 4 = 24) (kz : kZ 24 39 40 41 42 43 Z h) (hc : tkc b n q = 21) : ∃ h', CX l 8 260 false 43 [xf 7 45] h [] h' ∧ vG ([(24, 0, false), (24, 5, false), (24, 9, false), (24, 14, false), (24, 18, false), (25, 0, true), (26, 0, true), (27, 0, true), (28, 0, true), (29, 0, true), (30, 0, true), (31, 0, true), (32, 0, true), (33, 0, true), (34, 0, true), (35, 0, true), (36, 0, true), (37, 0, true), (38, 0, true), (39, 5, false), (39, 6, false), (40, 0, true), (41, 0, true), (42, 0, true), (43, 0, true), (45, 2, false), (45, 3, false), (45, 6, false), (45, 7, false), (45, 8, false), (45, 9, false), (45, 10, false), (45, 12, false), (45, 13, false), (47, 0, true)], []) h h' ∧ kP (kZ 24 39 40 41 42 43) b n (sLn b n Z q) h' := by
  obtain ⟨a, af, ao, a10⟩ := kz
  have B := kC.B24 hg a
  obtain ⟨B0, B1, B2, B3⟩ := id B
  have n0 : (xI h 24 0).toInt = ((Z 0).toNat : Nat) := (a.1 0 (by decide)).trans (by omega)
  have n1 : (xI h 24 5).toInt = ((Z 1).toNat : Nat) := (a.1 1 (by decide)).trans (by omega)
  have n2 : (xI h 24 9).toInt = ((Z 2).toNat : Nat) := (a.1 2 (by decide)).trans (by omega)
  have n3 : (xI h 24 14).toInt = ((Z 3).toNat : Nat) := (a.1 3 (by decide)).trans (by omega)
  obtain ⟨h', cx, g, o⟩ := ck_join24 l b n q (Z 0).toNat (Z 1).toNat (fun k => Z (100 + k)) (fun k => Z (140 + k)) (fun k => Z (150 + k)) h hg kt f0 r4 n0 (fun k hk => (a.2.2 0 k (by decide) (show (k : Int) < Z 0 by omega) : (xI h 25 k).toInt = Z (100 + k))) n1 (fun k hk => (a.2.2 4 k (by decide) (show (k : Int) < Z 1 by omega) : (xI h 29 k).toInt = Z (140 + k))) (fun k hk => (a.2.2 5 k (by decide) (show (k : Int) < Z 1 by omega) : (xI h 30 k).toInt = Z (150 + k)))
  refine ⟨h', cx, ⟨g.1, g.2.mono rfl rfl⟩, ?_⟩
  rw [sLn_21 hc]
  rcases o with ⟨s1, s2, s3, s4, s5, x0, x1, x2, s9⟩ | ⟨s1, s2, s3, s4⟩
  · obtain ⟨zt, z0, z1, z2, zo⟩ := zJn_v b n Z q
    refine Or.inl ⟨s1, s2, s3, ?_, ?_, ?_, ?_⟩
    · refine a.up (t := 1) (j0 := 4) (j1 := 7) (N := (Z 1).toNat) B (by omega) (by decide) (fun i h1 h2 => zo i h2 (by omega) (by omega) (by omega)) zt (zo 5 (by omega) (by omega) (by omega) (by omega)) (fun j k h1 h2 h3 => zo _ (by omega) (by omega) (by omega) (by omega)) (fun i h1 h2 => ?_) ?_ (g.2.1 24 18 rfl) (fun j h1 h2 => ?_) (fun j k h1 h2 => ?_)
      · rcases (by omega : i = 0 ∨ i = 2 ∨ i = 3) with rfl | rfl | rfl <;> exact g.2.1 24 _ rfl
      · exact (s4 : (xI h' 24 5).toInt = _).trans (by omega)
      · rcases (by omega : j = 4 ∨ j = 5 ∨ j = 6) with rfl | rfl | rfl
        · exact (x0 : (xI h' 29 (Z 1).toNat).toInt = _).trans (z0 : zJn b n Z q (140 + (Z 1).toNat) = _).symm
        · exact (x1 : (xI h' 30 (Z 1).toNat).toInt = _).trans (z1 : zJn b n Z q (150 + (Z 1).toNat) = _).symm
        · exact (x2 : (xI h' 31 (Z 1).toNat).toInt = _).trans (z2 : zJn b n Z q (160 + (Z 1).toNat) = _).symm
      · rcases (by omega : j = 0 ∨ j = 1 ∨ j = 2 ∨ j = 3 ∨ j = 4 ∨ j = 5 ∨ j = 6 ∨ j = 7 ∨ j = 8 ∨ j = 9 ∨ j = 10 ∨ j = 11 ∨ j = 12 ∨ j = 13) with rfl | rfl | rfl | rfl | rfl | rfl | rfl | rfl | rfl | rfl | rfl | rfl | rfl | rfl
        · exact g.2.1 25 k rfl
        · exact g.2.1 26 k rfl
        · exact g.2.1 27 k rfl
        · exact g.2.1 28 k rfl
        · exact s9 29 k (fun z => h2 ⟨by decide, by decide, z⟩) (by decide)
        · exact s9 30 k (fun z => h2 ⟨by decide, by decide, z⟩) (by decide)
        · exact s9 31 k (fun z => h2 ⟨by decide, by decide, z⟩) (by decide)
        · exact g.2.1 32 k rfl
        · exact g.2.1 33 k rfl
        · exact g.2.1 34 k rfl
        · exact g.2.1 35 k rfl
        · exact g.2.1 36 k rfl
        · exact g.2.1 37 k rfl
        · exact g.2.1 38 k rfl
    · exact af.fr (fun w hw => ⟨zo _ (by omega) (by omega) (by omega) (by omega), zo _ (by omega) (by omega) (by omega) (by omega)⟩) (fun k => g.2.1 42 k rfl) (fun k => g.2.1 43 k rfl)
    · exact ao.fr (g.2.1 39 5 rfl) (by dsimp only; rw [g.2.1 39 6 rfl, zo 6 (by omega) (by omega) (by omega) (by omega)]; exact ao.2.1) (fun k => g.2.1 40 k rfl) (fun k => g.2.1 41 k rfl) (zo 10 (by omega) (by omega) (by omega) (by omega)) (fun k _ => ⟨zo _ (by omega) (by omega) (by omega) (by omega), zo _ (by omega) (by omega) (by omega) (by omega)⟩)
    · dsimp only; rw [g.2.1 45 10 rfl, zo 4 (by omega) (by omega) (by omega) (by omega)]; exact a10
  · exact Or.inr ⟨s1, s2, s3, s4⟩
set_option maxRecDepth 100000 in
set_option maxHeartbeats 4000000 in
theorem kl_person24 (l : Launch) (b : Nat → Int) (n q : Nat) (Z : Nat → Int) (h : XH) (hg : sgood vT vR vE 153 6051 h) (kt : kT b n q h) (f0 : (xI h 45 2).toInt = 0) (r4 : xR h 45 4 = 24) (kz : kZ 24 39 40 41 42 43 Z h) (hc : tkc b n q = 22) : ∃ h', CX l 8 241 false 46 [xf 7 45] h [] h' ∧ vG ([(24, 0, false), (24, 5, false), (24, 9, false), (24, 14, false), (24, 18, false), (25, 0, true), (26, 0, true), (27, 0, true), (28, 0, true), (29, 0, true), (30, 0, true), (31, 0, true), (32, 0, true), (33, 0, true), (34, 0, true), (35, 0, true), (36, 0, true), (37, 0, true), (38, 0, true), (39, 5, false), (39, 6, false), (40, 0, true), (41, 0, true), (42, 0, true), (43, 0, true), (45, 2, false), (45, 3, false), (45, 6, false), (45, 7, false), (45, 8, false), (45, 9, false), (45, 10, false), (45, 12, false), (45, 13, false), (47, 0, true)], []) h h' ∧ kP (kZ 24 39 40 41 42 43) b n (sLn b n Z q) h' := by
  obtain ⟨a, af, ao, a10⟩ := kz
  have B := kC.B24 hg a
  obtain ⟨B0, B1, B2, B3⟩ := id B
  have n0 : (xI h 24 0).toInt = ((Z 0).toNat : Nat) := (a.1 0 (by decide)).trans (by omega)
  have n1 : (xI h 24 5).toInt = ((Z 1).toNat : Nat) := (a.1 1 (by decide)).trans (by omega)
  have n2 : (xI h 24 9).toInt = ((Z 2).toNat : Nat) := (a.1 2 (by decide)).trans (by omega)
  have n3 : (xI h 24 14).toInt = ((Z 3).toNat : Nat) := (a.1 3 (by decide)).trans (by omega)
  obtain ⟨h', cx, g, o⟩ := ck_person24 l b n q (Z 2).toNat (Z 0).toNat (fun k => Z (170 + k)) (fun k => Z (100 + k)) h hg kt f0 r4 n2 (fun k hk => (a.2.2 7 k (by decide) (show (k : Int) < Z 2 by omega) : (xI h 32 k).toInt = Z (170 + k))) n0 (fun k hk => (a.2.2 0 k (by decide) (show (k : Int) < Z 0 by omega) : (xI h 25 k).toInt = Z (100 + k)))
  refine ⟨h', cx, ⟨g.1, g.2.mono rfl rfl⟩, ?_⟩
  rw [sLn_22 hc]
  rcases o with ⟨s1, s2, s3, s4, s5, x0, x1, x2, x3, s9⟩ | ⟨s1, s2, s3, s4⟩
  · obtain ⟨zt, z0, z1, z2, z3, zo⟩ := zPn_v b n Z q
    refine Or.inl ⟨s1, s2, s3, ?_, ?_, ?_, ?_⟩
    · refine a.up (t := 2) (j0 := 7) (j1 := 11) (N := (Z 2).toNat) B (by omega) (by decide) (fun i h1 h2 => zo i h2 (by omega) (by omega) (by omega) (by omega)) zt (zo 5 (by omega) (by omega) (by omega) (by omega) (by omega)) (fun j k h1 h2 h3 => zo _ (by omega) (by omega) (by omega) (by omega) (by omega)) (fun i h1 h2 => ?_) ?_ (g.2.1 24 18 rfl) (fun j h1 h2 => ?_) (fun j k h1 h2 => ?_)
      · rcases (by omega : i = 0 ∨ i = 1 ∨ i = 3) with rfl | rfl | rfl <;> exact g.2.1 24 _ rfl
      · exact (s4 : (xI h' 24 9).toInt = _).trans (by omega)
      · rcases (by omega : j = 7 ∨ j = 8 ∨ j = 9 ∨ j = 10) with rfl | rfl | rfl | rfl
        · exact (x0 : (xI h' 32 (Z 2).toNat).toInt = _).trans (z0 : zPn b n Z q (170 + (Z 2).toNat) = _).symm
        · exact (x1 : (xI h' 33 (Z 2).toNat).toInt = _).trans (z1 : zPn b n Z q (180 + (Z 2).toNat) = _).symm
        · exact (x2 : (xI h' 34 (Z 2).toNat).toInt = _).trans (z2 : zPn b n Z q (190 + (Z 2).toNat) = _).symm
        · exact (x3 : (xI h' 35 (Z 2).toNat).toInt = _).trans (z3 : zPn b n Z q (200 + (Z 2).toNat) = _).symm
      · rcases (by omega : j = 0 ∨ j = 1 ∨ j = 2 ∨ j = 3 ∨ j = 4 ∨ j = 5 ∨ j = 6 ∨ j = 7 ∨ j = 8 ∨ j = 9 ∨ j = 10 ∨ j = 11 ∨ j = 12 ∨ j = 13) with rfl | rfl | rfl | rfl | rfl | rfl | rfl | rfl | rfl | rfl | rfl | rfl | rfl | rfl
        · exact g.2.1 25 k rfl
        · exact g.2.1 26 k rfl
        · exact g.2.1 27 k rfl
        · exact g.2.1 28 k rfl
        · exact g.2.1 29 k rfl
        · exact g.2.1 30 k rfl
        · exact g.2.1 31 k rfl
        · exact s9 32 k (fun z => h2 ⟨by decide, by decide, z⟩) (by decide)
        · exact s9 33 k (fun z => h2 ⟨by decide, by decide, z⟩) (by decide)
        · exact s9 34 k (fun z => h2 ⟨by decide, by decide, z⟩) (by decide)
        · exact s9 35 k (fun z => h2 ⟨by decide, by decide, z⟩) (by decide)
        · exact g.2.1 36 k rfl
        · exact g.2.1 37 k rfl
        · exact g.2.1 38 k rfl
    · exact af.fr (fun w hw => ⟨zo _ (by omega) (by omega) (by omega) (by omega) (by omega), zo _ (by omega) (by omega) (by omega) (by omega) (by omega)⟩) (fun k => g.2.1 42 k rfl) (fun k => g.2.1 43 k rfl)
    · exact ao.fr (g.2.1 39 5 rfl) (by dsimp only; rw [g.2.1 39 6 rfl, zo 6 (by omega) (by omega) (by omega) (by omega) (by omega)]; exact ao.2.1) (fun k => g.2.1 40 k rfl) (fun k => g.2.1 41 k rfl) (zo 10 (by omega) (by omega) (by omega) (by omega) (by omega)) (fun k _ => ⟨zo _ (by omega) (by omega) (by omega) (by omega) (by omega), zo _ (by omega) (by omega) (by omega) (by omega) (by omega)⟩)
    · dsimp only; rw [g.2.1 45 10 rfl, zo 4 (by omega) (by omega) (by omega) (by omega) (by omega)]; exact a10
  · exact Or.inr ⟨s1, s2, s3, s4⟩
set_option maxRecDepth 100000 in
set_option maxHeartbeats 4000000 in
theorem kl_debt24 (l : Launch) (b : Nat → Int) (n q : Nat) (Z : Nat → Int) (h : XH) (hg : sgood vT vR vE 153 6051 h) (kt : kT b n q h) (f0 : (xI h 45 2).toInt = 0) (r4 : xR h 45 4 = 24) (kz : kZ 24 39 40 41 42 43 Z h) (hc : tkc b n q = 23) : ∃ h', CX l 8 241 false 48 [xf 7 45] h [] h' ∧ vG ([(24, 0, false), (24, 5, false), (24, 9, false), (24, 14, false), (24, 18, false), (25, 0, true), (26, 0, true), (27, 0, true), (28, 0, true), (29, 0, true), (30, 0, true), (31, 0, true), (32, 0, true), (33, 0, true), (34, 0, true), (35, 0, true), (36, 0, true), (37, 0, true), (38, 0, true), (39, 5, false), (39, 6, false), (40, 0, true), (41, 0, true), (42, 0, true), (43, 0, true), (45, 2, false), (45, 3, false), (45, 6, false), (45, 7, false), (45, 8, false), (45, 9, false), (45, 10, false), (45, 12, false), (45, 13, false), (47, 0, true)], []) h h' ∧ kP (kZ 24 39 40 41 42 43) b n (sLn b n Z q) h' := by
  obtain ⟨a, af, ao, a10⟩ := kz
  have B := kC.B24 hg a
  obtain ⟨B0, B1, B2, B3⟩ := id B
  have n0 : (xI h 24 0).toInt = ((Z 0).toNat : Nat) := (a.1 0 (by decide)).trans (by omega)
  have n1 : (xI h 24 5).toInt = ((Z 1).toNat : Nat) := (a.1 1 (by decide)).trans (by omega)
  have n2 : (xI h 24 9).toInt = ((Z 2).toNat : Nat) := (a.1 2 (by decide)).trans (by omega)
  have n3 : (xI h 24 14).toInt = ((Z 3).toNat : Nat) := (a.1 3 (by decide)).trans (by omega)
  obtain ⟨h', cx, g, o⟩ := ck_debt24 l b n q (Z 2).toNat (Z 3).toNat (fun k => Z (170 + k)) (fun k => Z (210 + k)) h hg kt f0 r4 n2 (fun k hk => (a.2.2 7 k (by decide) (show (k : Int) < Z 2 by omega) : (xI h 32 k).toInt = Z (170 + k))) n3 (fun k hk => (a.2.2 11 k (by decide) (show (k : Int) < Z 3 by omega) : (xI h 36 k).toInt = Z (210 + k)))
  refine ⟨h', cx, ⟨g.1, g.2.mono rfl rfl⟩, ?_⟩
  rw [sLn_23 hc]
  rcases o with ⟨s1, s2, s3, s4, s5, x0, x1, x2, s9⟩ | ⟨s1, s2, s3, s4⟩
  · obtain ⟨zt, z0, z1, z2, zo⟩ := zDb_v b n Z q
    refine Or.inl ⟨s1, s2, s3, ?_, ?_, ?_, ?_⟩
    · refine a.up (t := 3) (j0 := 11) (j1 := 14) (N := (Z 3).toNat) B (by omega) (by decide) (fun i h1 h2 => zo i h2 (by omega) (by omega) (by omega)) zt (zo 5 (by omega) (by omega) (by omega) (by omega)) (fun j k h1 h2 h3 => zo _ (by omega) (by omega) (by omega) (by omega)) (fun i h1 h2 => ?_) ?_ (g.2.1 24 18 rfl) (fun j h1 h2 => ?_) (fun j k h1 h2 => ?_)
      · rcases (by omega : i = 0 ∨ i = 1 ∨ i = 2) with rfl | rfl | rfl <;> exact g.2.1 24 _ rfl
      · exact (s4 : (xI h' 24 14).toInt = _).trans (by omega)
      · rcases (by omega : j = 11 ∨ j = 12 ∨ j = 13) with rfl | rfl | rfl
        · exact (x0 : (xI h' 36 (Z 3).toNat).toInt = _).trans (z0 : zDb b n Z q (210 + (Z 3).toNat) = _).symm
        · exact (x1 : (xI h' 37 (Z 3).toNat).toInt = _).trans (z1 : zDb b n Z q (220 + (Z 3).toNat) = _).symm
        · exact (x2 : (xI h' 38 (Z 3).toNat).toInt = _).trans (z2 : zDb b n Z q (230 + (Z 3).toNat) = _).symm
      · rcases (by omega : j = 0 ∨ j = 1 ∨ j = 2 ∨ j = 3 ∨ j = 4 ∨ j = 5 ∨ j = 6 ∨ j = 7 ∨ j = 8 ∨ j = 9 ∨ j = 10 ∨ j = 11 ∨ j = 12 ∨ j = 13) with rfl | rfl | rfl | rfl | rfl | rfl | rfl | rfl | rfl | rfl | rfl | rfl | rfl | rfl
        · exact g.2.1 25 k rfl
        · exact g.2.1 26 k rfl
        · exact g.2.1 27 k rfl
        · exact g.2.1 28 k rfl
        · exact g.2.1 29 k rfl
        · exact g.2.1 30 k rfl
        · exact g.2.1 31 k rfl
        · exact g.2.1 32 k rfl
        · exact g.2.1 33 k rfl
        · exact g.2.1 34 k rfl
        · exact g.2.1 35 k rfl
        · exact s9 36 k (fun z => h2 ⟨by decide, by decide, z⟩) (by decide)
        · exact s9 37 k (fun z => h2 ⟨by decide, by decide, z⟩) (by decide)
        · exact s9 38 k (fun z => h2 ⟨by decide, by decide, z⟩) (by decide)
    · exact af.fr (fun w hw => ⟨zo _ (by omega) (by omega) (by omega) (by omega), zo _ (by omega) (by omega) (by omega) (by omega)⟩) (fun k => g.2.1 42 k rfl) (fun k => g.2.1 43 k rfl)
    · exact ao.fr (g.2.1 39 5 rfl) (by dsimp only; rw [g.2.1 39 6 rfl, zo 6 (by omega) (by omega) (by omega) (by omega)]; exact ao.2.1) (fun k => g.2.1 40 k rfl) (fun k => g.2.1 41 k rfl) (zo 10 (by omega) (by omega) (by omega) (by omega)) (fun k _ => ⟨zo _ (by omega) (by omega) (by omega) (by omega), zo _ (by omega) (by omega) (by omega) (by omega)⟩)
    · dsimp only; rw [g.2.1 45 10 rfl, zo 4 (by omega) (by omega) (by omega) (by omega)]; exact a10
  · exact Or.inr ⟨s1, s2, s3, s4⟩
set_option maxRecDepth 100000 in
set_option maxHeartbeats 4000000 in
theorem kl_tear24 (l : Launch) (b : Nat → Int) (n q : Nat) (Z : Nat → Int) (h : XH) (hg : sgood vT vR vE 153 6051 h) (kt : kT b n q h) (f0 : (xI h 45 2).toInt = 0) (r4 : xR h 45 4 = 24) (kz : kZ 24 39 40 41 42 43 Z h) (hc : tkc b n q = 24) : ∃ h', CX l 8 241 false 50 [xf 7 45] h [] h' ∧ vG ([(24, 0, false), (24, 5, false), (24, 9, false), (24, 14, false), (24, 18, false), (25, 0, true), (26, 0, true), (27, 0, true), (28, 0, true), (29, 0, true), (30, 0, true), (31, 0, true), (32, 0, true), (33, 0, true), (34, 0, true), (35, 0, true), (36, 0, true), (37, 0, true), (38, 0, true), (39, 5, false), (39, 6, false), (40, 0, true), (41, 0, true), (42, 0, true), (43, 0, true), (45, 2, false), (45, 3, false), (45, 6, false), (45, 7, false), (45, 8, false), (45, 9, false), (45, 10, false), (45, 12, false), (45, 13, false), (47, 0, true)], []) h h' ∧ kP (kZ 24 39 40 41 42 43) b n (sLn b n Z q) h' := by
  obtain ⟨kr, hn7, hq, kq, kc, kv, ke⟩ := id kt
  obtain ⟨a, af, ao, a10⟩ := kz
  have B := kC.B24 hg a
  have b10 : 0 ≤ (xI h 45 10).toInt ∧ (xI h 45 10).toInt ≤ 1 := vbnd hg.1 45 10
  have b8 : 0 ≤ (xI h 45 8).toInt ∧ (xI h 45 8).toInt ≤ 700 := vbnd hg.1 45 8
  have ef : xI h 45 2 = 0 := Int32.toInt_inj.mp f0
  rw [sLn_24 hc]
  by_cases cb1 : (xI h 45 10) = 0
  · have e_0 : (0 : Int32).toInt = 0 := rfl
    have dcb1 : (xI h 45 10).toInt = (0 : Int32).toInt := congrArg Int32.toInt cb1
    have t2 : XT l 8 241 false 50 153 6051 0 [xf 7 45] [] h 19 [xf 7 45] [xf 7 45] (xsetI h 45 10 (Int32.ofInt (1))) := XT_path (l := l) (fr := 8) (lo := 241) (full := false) (M := 50) (n := 153) (u := 6051) (pc := 0) (L := [xf 7 45]) (st := []) (h := h) (inl := [39]) (n' := 120) (sp := [19]) (o := [1]) rfl rfl ⟨rfl, rfl, rfl⟩ rfl ⟨Nat.le_of_eq hg.2.2.2.1, Nat.le_of_eq hg.2.2.2.2⟩ ⟨⟨trivial, cb1⟩, (Or.inr rfl)⟩
    have nt : ¬ Z 4 = 1 := by omega
    rw [if_neg nt]
    have G0 : vG ([(24, 0, false), (24, 5, false), (24, 9, false), (24, 14, false), (24, 18, false), (25, 0, true), (26, 0, true), (27, 0, true), (28, 0, true), (29, 0, true), (30, 0, true), (31, 0, true), (32, 0, true), (33, 0, true), (34, 0, true), (35, 0, true), (36, 0, true), (37, 0, true), (38, 0, true), (39, 5, false), (39, 6, false), (40, 0, true), (41, 0, true), (42, 0, true), (43, 0, true), (45, 2, false), (45, 3, false), (45, 6, false), (45, 7, false), (45, 8, false), (45, 9, false), (45, 10, false), (45, 12, false), (45, 13, false), (47, 0, true)], []) h (xsetI h 45 10 (Int32.ofInt (1))) := ((vG.rf hg) : vG ([(24, 0, false), (24, 5, false), (24, 9, false), (24, 14, false), (24, 18, false), (25, 0, true), (26, 0, true), (27, 0, true), (28, 0, true), (29, 0, true), (30, 0, true), (31, 0, true), (32, 0, true), (33, 0, true), (34, 0, true), (35, 0, true), (36, 0, true), (37, 0, true), (38, 0, true), (39, 5, false), (39, 6, false), (40, 0, true), (41, 0, true), (42, 0, true), (43, 0, true), (45, 2, false), (45, 3, false), (45, 6, false), (45, 7, false), (45, 8, false), (45, 9, false), (45, 10, false), (45, 12, false), (45, 13, false), (47, 0, true)], []) h h).set (c := 45) (k := 10) (v := (Int32.ofInt (1))) (show (0 : Int) ≤ _ ∧ _ ≤ 1 from (by decide)) (by decide +kernel) (by decide +kernel) rfl
    have kt0 : kT b n q (xsetI h 45 10 (Int32.ofInt (1))) := kt.fr (fun k hk => by rcases hk with rfl | rfl | rfl | rfl | rfl | rfl <;> exact yI_ne (by decide)) (fun k => yI_c (by decide))
    obtain ⟨h1, c1, g1, k1⟩ := ck_adv l b n q (xsetI h 45 10 (Int32.ofInt (1))) G0.1 kt0
    have f1 : (xI h1 45 2).toInt = 0 := by rw [g1.2.1 45 2 rfl, yI_ne (by decide)]; exact f0
    have rr1 : xR h1 45 4 = 24 := (g1.2.2 45 4 rfl).trans r4
    have G1 : vG ([(24, 0, false), (24, 5, false), (24, 9, false), (24, 14, false), (24, 18, false), (25, 0, true), (26, 0, true), (27, 0, true), (28, 0, true), (29, 0, true), (30, 0, true), (31, 0, true), (32, 0, true), (33, 0, true), (34, 0, true), (35, 0, true), (36, 0, true), (37, 0, true), (38, 0, true), (39, 5, false), (39, 6, false), (40, 0, true), (41, 0, true), (42, 0, true), (43, 0, true), (45, 2, false), (45, 3, false), (45, 6, false), (45, 7, false), (45, 8, false), (45, 9, false), (45, 10, false), (45, 12, false), (45, 13, false), (47, 0, true)], []) h h1 := (G0 : vG ([(24, 0, false), (24, 5, false), (24, 9, false), (24, 14, false), (24, 18, false), (25, 0, true), (26, 0, true), (27, 0, true), (28, 0, true), (29, 0, true), (30, 0, true), (31, 0, true), (32, 0, true), (33, 0, true), (34, 0, true), (35, 0, true), (36, 0, true), (37, 0, true), (38, 0, true), (39, 5, false), (39, 6, false), (40, 0, true), (41, 0, true), (42, 0, true), (43, 0, true), (45, 2, false), (45, 3, false), (45, 6, false), (45, 7, false), (45, 8, false), (45, 9, false), (45, 10, false), (45, 12, false), (45, 13, false), (47, 0, true)], []) h (xsetI h 45 10 (Int32.ofInt (1)))).tr ⟨g1.1, g1.2.mono rfl rfl⟩
    have o1 : ∀ cc k, ¬ (cc = 45 ∧ (k = 6 ∨ k = 7 ∨ k = 8 ∨ k = 9 ∨ k = 10)) → xI h1 cc k = xI h cc k := fun cc k z => (g1.2.1 cc k (sw45 (by omega))).trans (yI_ne (eq_false (fun y => z ⟨y.1, by omega⟩)))
    have o10 : (xI h1 45 10).toInt = 1 := by rw [g1.2.1 45 10 rfl, yI_same]; rfl
    have t3 : XT l 8 241 false 50 153 6051 19 [xf 7 45] [xf 7 45] (xsetI h 45 10 (Int32.ofInt (1))) 22 [xf 7 45] [] h1 := XT_call (l := l) (fr := 8) (lo := 241) (full := false) (M := 50) (n := 153) (u := 6051) (pc := 19) (L := [xf 7 45]) (st := [xf 7 45]) (h := (xsetI h 45 10 (Int32.ofInt (1)))) (i := .invokevirtual 19) (aux := 1) (nx := 22) (K := 19) (vs := [xf 7 45]) (rs := []) (rest := []) rfl rfl rfl rfl rfl rfl c1 (by decide) (by decide) (Nat.le_of_ble_eq_true rfl) ⟨Nat.le_of_eq g1.1.2.2.2.1, Nat.le_of_eq g1.1.2.2.2.2⟩
    have t4 := t2.tr t3
    have t5 : XT l 8 241 false 50 153 6051 22 [xf 7 45] [] h1 30 [xf 7 45] [xi (Int32.ofInt (8)), xi (Int32.ofInt (0)), xf 7 45, xf 8 (xR h1 45 4)] h1 := XT_path (l := l) (fr := 8) (lo := 241) (full := false) (M := 50) (n := 153) (u := 6051) (pc := 22) (L := [xf 7 45]) (st := []) (h := h1) (inl := [39]) (n' := 120) (sp := [30]) (o := []) rfl rfl ⟨rfl, rfl, rfl⟩ rfl ⟨Nat.le_of_eq g1.1.2.2.2.1, Nat.le_of_eq g1.1.2.2.2.2⟩ ⟨trivial, (show ¬ xR h1 45 4 = 0 from by rw [rr1]; decide)⟩
    rw [rr1] at t5
    have t6 := t4.tr t5
    obtain ⟨v2, h2, c2, g2, ev, o⟩ := ck_num0 l b n (nxt b n q) ((Int32.ofInt (0))) ((Int32.ofInt (8))) h1 g1.1 k1 f1
    rw [show (Int32.ofInt (0)).toInt = 0 from rfl, show (Int32.ofInt (8)).toInt = 8 from rfl] at o
    have o2 : ∀ cc k, ¬ (cc = 45 ∧ (k = 2 ∨ k = 3 ∨ k = 6 ∨ k = 7 ∨ k = 8 ∨ k = 9)) → xI h2 cc k = xI h1 cc k := fun cc k z => g2.2.1 cc k (sw45b (by omega))
    have t7 : XT l 8 241 false 50 153 6051 30 [xf 7 45] [xi (Int32.ofInt (8)), xi (Int32.ofInt (0)), xf 7 45, xf 8 24] h1 33 [xf 7 45] [xi v2, xf 8 24] h2 := XT_call (l := l) (fr := 8) (lo := 241) (full := false) (M := 50) (n := 153) (u := 6051) (pc := 30) (L := [xf 7 45]) (st := [xi (Int32.ofInt (8)), xi (Int32.ofInt (0)), xf 7 45, xf 8 24]) (h := h1) (i := .invokevirtual 42) (aux := 3) (nx := 33) (K := 42) (vs := [xf 7 45, xi (Int32.ofInt (0)), xi (Int32.ofInt (8))]) (rs := [xi v2]) (rest := [xf 8 24]) rfl rfl rfl rfl rfl rfl c2 (by decide) (by decide) (Nat.le_of_ble_eq_true rfl) ⟨Nat.le_of_eq g2.1.2.2.2.1, Nat.le_of_eq g2.1.2.2.2.2⟩
    have t8 := t6.tr t7
    have t9 : XT l 8 241 false 50 153 6051 33 [xf 7 45] [xi v2, xf 8 24] h2 36 [xf 7 45] [] (xsetI h2 24 18 v2) := XT_path (l := l) (fr := 8) (lo := 241) (full := false) (M := 50) (n := 153) (u := 6051) (pc := 33) (L := [xf 7 45]) (st := [xi v2, xf 8 24]) (h := h2) (inl := [39]) (n' := 120) (sp := [36]) (o := []) rfl rfl ⟨rfl, rfl, rfl⟩ rfl ⟨Nat.le_of_eq g2.1.2.2.2.1, Nat.le_of_eq g2.1.2.2.2.2⟩ trivial
    have t10 := t8.tr t9
    have G2 : vG ([(24, 0, false), (24, 5, false), (24, 9, false), (24, 14, false), (24, 18, false), (25, 0, true), (26, 0, true), (27, 0, true), (28, 0, true), (29, 0, true), (30, 0, true), (31, 0, true), (32, 0, true), (33, 0, true), (34, 0, true), (35, 0, true), (36, 0, true), (37, 0, true), (38, 0, true), (39, 5, false), (39, 6, false), (40, 0, true), (41, 0, true), (42, 0, true), (43, 0, true), (45, 2, false), (45, 3, false), (45, 6, false), (45, 7, false), (45, 8, false), (45, 9, false), (45, 10, false), (45, 12, false), (45, 13, false), (47, 0, true)], []) h h2 := G1.tr ⟨g2.1, g2.2.mono rfl rfl⟩
    have G3 : vG ([(24, 0, false), (24, 5, false), (24, 9, false), (24, 14, false), (24, 18, false), (25, 0, true), (26, 0, true), (27, 0, true), (28, 0, true), (29, 0, true), (30, 0, true), (31, 0, true), (32, 0, true), (33, 0, true), (34, 0, true), (35, 0, true), (36, 0, true), (37, 0, true), (38, 0, true), (39, 5, false), (39, 6, false), (40, 0, true), (41, 0, true), (42, 0, true), (43, 0, true), (45, 2, false), (45, 3, false), (45, 6, false), (45, 7, false), (45, 8, false), (45, 9, false), (45, 10, false), (45, 12, false), (45, 13, false), (47, 0, true)], []) h (xsetI h2 24 18 v2) := (G2 : vG ([(24, 0, false), (24, 5, false), (24, 9, false), (24, 14, false), (24, 18, false), (25, 0, true), (26, 0, true), (27, 0, true), (28, 0, true), (29, 0, true), (30, 0, true), (31, 0, true), (32, 0, true), (33, 0, true), (34, 0, true), (35, 0, true), (36, 0, true), (37, 0, true), (38, 0, true), (39, 5, false), (39, 6, false), (40, 0, true), (41, 0, true), (42, 0, true), (43, 0, true), (45, 2, false), (45, 3, false), (45, 6, false), (45, 7, false), (45, 8, false), (45, 9, false), (45, 10, false), (45, 12, false), (45, 13, false), (47, 0, true)], []) h h2).setE (c := 24) (k := 18) (v := v2) (show (-2147483648 : Int) ≤ _ ∧ _ ≤ 2147483647 from i32r_of _) (by decide +kernel) (by decide +kernel) rfl
    have oo : ∀ cc k, ¬ (cc = 45 ∧ (k = 2 ∨ k = 3 ∨ k = 6 ∨ k = 7 ∨ k = 8 ∨ k = 9 ∨ k = 10)) → ¬ (cc = 24 ∧ k = 18) → xI (xsetI h2 24 18 v2) cc k = xI h cc k := fun cc k z y => (yI_ne (eq_false y)).trans ((o2 cc k (fun w => z ⟨w.1, by omega⟩)).trans (o1 cc k (fun w => z ⟨w.1, by omega⟩)))
    refine ⟨_, CX_ofT (h' := (xsetI h2 24 18 v2)) (by decide) rfl rfl trivial ⟨_, _, _, rfl, rfl, rfl⟩ rfl ⟨Nat.le_of_eq g2.1.2.2.2.1.symm, Nat.le_of_eq g2.1.2.2.2.2.symm⟩ t10, G3, ?_⟩
    rcases o with ⟨s1, s2, s3⟩ | ⟨s1, s2, s3, s4⟩
    · refine Or.inl ⟨s1, by rw [yI_c (by decide)]; exact s2, s3.fr (fun k _ => yI_c (by decide)) (fun k => yI_c (by decide)), ?_, ?_, ?_, ?_⟩
      · refine ⟨fun i hi => ?_, ?_, fun j k hj hk => ?_⟩
        · show (xI (xsetI h2 24 18 v2) 24 (zsl i)).toInt = zs (zs Z 4 1) 5 (tkv b n (nxt b n q)) i
          rw [oo 24 (zsl i) (by omega) (by have := zsl_lt i; omega), zs_ne (by omega), zs_ne (by omega)]; exact a.1 i hi
        · show (xI (xsetI h2 24 18 v2) 24 18).toInt = zs (zs Z 4 1) 5 (tkv b n (nxt b n q)) 5
          rw [yI_same, zs_same]; exact ev
        · have zl := zkn_lt j
          have hk : (k : Int) < zs (zs Z 4 1) 5 (tkv b n (nxt b n q)) (zkn j) := hk
          rw [zs_ne (by omega), zs_ne (by omega)] at hk
          show (xI (xsetI h2 24 18 v2) (24 + 1 + j) k).toInt = zs (zs Z 4 1) 5 (tkv b n (nxt b n q)) (100 + 10 * j + k)
          rw [oo (24 + 1 + j) k (by omega) (by omega), zs_ne (by omega), zs_ne (by omega)]; exact a.2.2 j k hj hk
      · exact af.fr (fun w hw => ⟨by dsimp only; rw [zs_ne (by omega), zs_ne (by omega)], by dsimp only; rw [zs_ne (by omega), zs_ne (by omega)]⟩) (fun k => oo 42 k (by omega) (by omega)) (fun k => oo 43 k (by omega) (by omega))
      · exact ao.fr (oo 39 5 (by omega) (by omega)) (by dsimp only; rw [oo 39 6 (by omega) (by omega), zs_ne (by omega), zs_ne (by omega)]; exact ao.2.1) (fun k => oo 40 k (by omega) (by omega)) (fun k => oo 41 k (by omega) (by omega)) (by dsimp only; rw [zs_ne (by omega), zs_ne (by omega)]) (fun k _ => ⟨by dsimp only; rw [zs_ne (by omega), zs_ne (by omega)], by dsimp only; rw [zs_ne (by omega), zs_ne (by omega)]⟩)
      · show (xI (xsetI h2 24 18 v2) 45 10).toInt = zs (zs Z 4 1) 5 (tkv b n (nxt b n q)) 4
        rw [yI_c (by decide), o2 45 10 (by omega), zs_ne (by omega), zs_same]; exact o10
    · exact Or.inr ⟨s1, by rw [yI_c (by decide)]; exact s2, by rw [yI_c (by decide)]; exact s3, s4.fr (yI_c (by decide)) (fun k => yI_c (by decide))⟩
  · have e_0 : (0 : Int32).toInt = 0 := rfl
    have dcb1 : ¬ (xI h 45 10).toInt = (0 : Int32).toInt := fun z_ => cb1 (Int32.toInt_inj.mp z_)
    have t11 : XT l 8 241 false 50 153 6051 0 [xf 7 45] [] h 12 [xf 7 45] [] (xsetI (xsetI h 45 2 (Int32.ofInt (3))) 45 3 (xI h 45 8)) := XT_path (l := l) (fr := 8) (lo := 241) (full := false) (M := 50) (n := 153) (u := 6051) (pc := 0) (L := [xf 7 45]) (st := []) (h := h) (inl := [39]) (n' := 120) (sp := [12]) (o := [0, 0]) rfl rfl ⟨rfl, rfl, rfl⟩ rfl ⟨Nat.le_of_eq hg.2.2.2.1, Nat.le_of_eq hg.2.2.2.2⟩ ⟨⟨trivial, cb1⟩, ef⟩
    rw [if_pos (by omega)]
    have G1 : vG ([(24, 0, false), (24, 5, false), (24, 9, false), (24, 14, false), (24, 18, false), (25, 0, true), (26, 0, true), (27, 0, true), (28, 0, true), (29, 0, true), (30, 0, true), (31, 0, true), (32, 0, true), (33, 0, true), (34, 0, true), (35, 0, true), (36, 0, true), (37, 0, true), (38, 0, true), (39, 5, false), (39, 6, false), (40, 0, true), (41, 0, true), (42, 0, true), (43, 0, true), (45, 2, false), (45, 3, false), (45, 6, false), (45, 7, false), (45, 8, false), (45, 9, false), (45, 10, false), (45, 12, false), (45, 13, false), (47, 0, true)], []) h (xsetI (xsetI h 45 2 (Int32.ofInt (3))) 45 3 (xI h 45 8)) := vGf (vG.rf hg) (by decide) rfl rfl rfl
    exact ⟨_, CX_ofT (h' := (xsetI (xsetI h 45 2 (Int32.ofInt (3))) 45 3 (xI h 45 8))) (by decide) rfl rfl trivial ⟨_, _, _, rfl, rfl, rfl⟩ rfl ⟨Nat.le_of_eq hg.2.2.2.1.symm, Nat.le_of_eq hg.2.2.2.2.symm⟩ t11, G1, Or.inr ⟨(by decide : ¬ (3 : Int) = 0), by rw [yI_ne (by decide), yI_same]; rfl, by rw [yI_same]; exact kq, kr.fr (by rw [yI_ne (by decide), yI_ne (by decide)]) (fun k => by rw [yI_c (by decide), yI_c (by decide)])⟩⟩
