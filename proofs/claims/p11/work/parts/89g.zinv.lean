/-! WHAT AN EXPRESSION THAT IS BEING READ KEEPS. -/
def zc (g : Int → Int) (Z : Nat → Int) : Nat → Int
  | 0 => 0
  | n + 1 => zc g Z n + g (Z (700 + n))
def zgo (c : Int) : Int := if c = 5 then 1 else 0
def zgb (c : Int) : Int := if c = 5 ∨ c = 32 then 0 else 1
def zgk (c : Int) : Int := if c = 5 then 0 else 1
def zsn (c : Int) : Prop := c = 5 ∨ (7 ≤ c ∧ c ≤ 16) ∨ (30 ≤ c ∧ c ≤ 32)
theorem zc_eq {g : Int → Int} {Z Z' : Nat → Int} : ∀ {n : Nat}, (∀ i, i < n → Z' (700 + i) = Z (700 + i)) → zc g Z' n = zc g Z n
  | 0, _ => rfl
  | n + 1, h => by
    show zc g Z' n + g (Z' (700 + n)) = zc g Z n + g (Z (700 + n))
    rw [zc_eq (fun i hi => h i (Nat.lt_succ_of_lt hi)), h n (Nat.lt_succ_self n)]
theorem zc_su {g : Int → Int} {Z : Nat → Int} {n : Nat} : zc g Z (n + 1) = zc g Z n + g (Z (700 + n)) := rfl
theorem zg_all (c : Int) : zgo c + zgk c = 1 ∧ 0 ≤ zgo c ∧ 0 ≤ zgb c ∧ zgb c ≤ zgk c := by
  unfold zgo zgk zgb
  by_cases a : c = 5
  · rw [if_pos a, if_pos a, if_pos (Or.inl a)]; decide
  · by_cases e : c = 32
    · rw [if_neg a, if_neg a, if_pos (Or.inr e)]; decide
    · rw [if_neg a, if_neg a, if_neg (fun z => z.elim a e)]; decide
theorem zc_all (Z : Nat → Int) : ∀ n : Nat, zc zgo Z n + zc zgk Z n = n ∧ 0 ≤ zc zgo Z n ∧ 0 ≤ zc zgb Z n ∧ zc zgb Z n ≤ zc zgk Z n
  | 0 => ⟨rfl, by show (0 : Int) ≤ 0; decide, by show (0 : Int) ≤ 0; decide, by show (0 : Int) ≤ 0; decide⟩
  | n + 1 => by
    have ih := zc_all Z n
    rw [zc_su, zc_su, zc_su]
    have z := zg_all (Z (700 + n))
    omega
def zInv (f : Int) (Z : Nat → Int) : Prop :=
  (0 ≤ f ∧ f ≤ Z 10 ∧ 0 ≤ Z 11 ∧ 0 ≤ Z 12 ∧ Z 12 ≤ 8 ∧ (Z 13 = 0 ∨ Z 13 = 1) ∧ Z 6 ≤ 64) ∧
  (Z 12 = zc zgo Z (Z 11).toNat ∧ Z 14 = zc zgb Z (Z 11).toNat + 1 - Z 13 ∧ Z 10 + zc zgk Z (Z 11).toNat = Z 6) ∧
  (∀ k : Nat, (k : Int) < Z 11 → zsn (Z (700 + k))) ∧ (∀ k : Nat, (k : Int) < Z 14 → f ≤ Z (800 + k) ∧ Z (800 + k) < Z 10)
section ZI
variable {f : Int} {Z : Nat → Int}
theorem zInv.b (I : zInv f Z) : 0 ≤ Z 10 ∧ 0 ≤ Z 11 ∧ Z 11 ≤ Z 12 + Z 6 - Z 10 ∧ Z 10 ≤ Z 6 ∧ Z 6 ≤ 64 ∧ 0 ≤ Z 12 ∧ Z 12 ≤ 8 ∧ 0 ≤ Z 14 ∧ Z 14 ≤ Z 6 - Z 10 + 1 := by
  obtain ⟨⟨a1, a2, a3, a4, a5, a6, a7⟩, ⟨b1, b2, b3⟩, -, -⟩ := I
  have z := zc_all Z (Z 11).toNat
  omega
/-- what is read behind writes of other places -/
theorem zpush_11 {s : Int} : zpush Z s 11 = Z 11 + 1 := zs_same
theorem zpush_o {s : Int} {i : Nat} (h : i < 700) (h1 : i ≠ 11) : zpush Z s i = Z i := by
  unfold zpush
  rw [zs_ne h1, zs_ne (by omega)]
theorem zpush_h {s : Int} {i : Nat} (h : i ≠ 11) (h1 : i ≠ 700 + (Z 11).toNat) : zpush Z s i = Z i := by
  unfold zpush
  rw [zs_ne h, zs_ne h1]
theorem zpush_t {s : Int} : zpush Z s (700 + (Z 11).toNat) = s := by
  unfold zpush
  rw [zs_ne (by omega), zs_same]
theorem zInv_push {s d6 d12 v13 : Int} (I : zInv f Z) (hs : zsn s) (h6 : d6 = zgk s) (h12 : d12 = zgo s) (l6 : Z 6 + d6 ≤ 64) (l12 : Z 12 + d12 ≤ 8) (h13 : v13 = 1) (h14 : Z 13 + zgb s = 1) {Y : Nat → Int} (y6 : Y 6 = Z 6 + d6) (y12 : Y 12 = Z 12 + d12) (y13 : Y 13 = v13) (y11 : Y 11 = Z 11 + 1) (y10 : Y 10 = Z 10) (y14 : Y 14 = Z 14) (y7 : ∀ i : Nat, (i : Int) < Z 11 → Y (700 + i) = Z (700 + i)) (yt : Y (700 + (Z 11).toNat) = s) (y8 : ∀ i : Nat, (i : Int) < Z 14 → Y (800 + i) = Z (800 + i)) : zInv f Y := by
  obtain ⟨⟨a1, a2, a3, a4, a5, a6, a7⟩, ⟨b1, b2, b3⟩, c1, c2⟩ := I
  have em : (Y 11).toNat = (Z 11).toNat + 1 := by omega
  have e7 : ∀ i : Nat, i < (Z 11).toNat → Y (700 + i) = Z (700 + i) := fun i hi => y7 i (by omega)
  have g1 : 0 ≤ d6 := by rw [h6]; unfold zgk; split <;> decide
  have g2 : 0 ≤ d12 := by rw [h12]; unfold zgo; split <;> decide
  refine ⟨⟨a1, by omega, by omega, by omega, by omega, Or.inr (by omega), by omega⟩, ⟨?_, ?_, ?_⟩, ?_, ?_⟩
  · rw [em, zc_su, yt, zc_eq e7, y12, ← h12]; omega
  · rw [em, zc_su, yt, zc_eq e7, y14, y13]; omega
  · rw [em, zc_su, yt, zc_eq e7, y10, y6, ← h6]; omega
  · intro k hk
    by_cases e : k = (Z 11).toNat
    · rw [e, yt]; exact hs
    · rw [y7 k (by omega)]; exact c1 k (by omega)
  · intro k hk
    rw [y8 k (by omega), y10]
    exact c2 k (by omega)
theorem zInv_leaf {c v : Int} (I : zInv f Z) (h13 : Z 13 = 1) (h6 : Z 6 < 64) : zInv f (zleaf Z c v) := by
  have B := I.b
  obtain ⟨⟨a1, a2, a3, a4, a5, a6, a7⟩, ⟨b1, b2, b3⟩, c1, c2⟩ := I
  have z := zc_all Z (Z 11).toNat
  have e13 : zleaf Z c v 13 = 0 := zs_same
  have e6 : zleaf Z c v 6 = Z 6 + 1 := by unfold zleaf; rw [zs_ne (by omega), zs_same]
  have e14 : zleaf Z c v 14 = Z 14 + 1 := by unfold zleaf; rw [zs_ne (by omega), zs_ne (by omega), zs_same]
  have e10 : zleaf Z c v 10 = Z 10 + 1 := by unfold zleaf; rw [zs_ne (by omega), zs_ne (by omega), zs_ne (by omega), zs_same]
  have eo : ∀ i : Nat, (i = 11 ∨ i = 12 ∨ 700 ≤ i) → i ≠ 800 + (Z 14).toNat → zleaf Z c v i = Z i := fun i hi h1 => by
    unfold zleaf
    rw [zs_ne (by omega), zs_ne (by omega), zs_ne (by omega), zs_ne (by omega), zs_ne (by omega), zs_ne (by omega), zs_ne (by omega), zs_ne (by omega), zs_ne (by omega)]
  have e8 : zleaf Z c v (800 + (Z 14).toNat) = Z 10 := by
    unfold zleaf
    rw [zs_ne (by omega), zs_ne (by omega), zs_ne (by omega), zs_ne (by omega), zs_same]
  have e11 := eo 11 (Or.inl rfl) (by omega)
  have e12 := eo 12 (Or.inr (Or.inl rfl)) (by omega)
  have e7 : ∀ i : Nat, i < (Z 11).toNat → zleaf Z c v (700 + i) = Z (700 + i) := fun i hi => eo (700 + i) (by omega) (by omega)
  refine ⟨⟨a1, by omega, by omega, by omega, by omega, Or.inl e13, by omega⟩, ⟨?_, ?_, ?_⟩, ?_, ?_⟩
  · rw [e11, e12, zc_eq e7]; exact b1
  · rw [e11, e14, e13, zc_eq e7]; omega
  · rw [e11, e10, e6, zc_eq e7]; omega
  · intro k hk
    rw [e11] at hk
    rw [e7 k (by omega)]
    exact c1 k hk
  · intro k hk
    rw [e14] at hk
    by_cases e : k = (Z 14).toNat
    · rw [e, e8, e10]; omega
    · rw [eo (800 + k) (by omega) (by omega), e10]
      have := c2 k (by omega)
      omega
theorem zb1_i (I : zInv f Z) (h13 : Z 13 = 0) (h11 : 0 < Z 11) (ht : ztop Z ≠ 5) : Z 10 < 64 ∧ Z 11 ≤ 72 ∧ (zbd (ztop Z) : Int) ≤ Z 14 ∧ 1 ≤ zbd (ztop Z) ∧ zbd (ztop Z) ≤ 2 ∧ Z 14 ≤ 65 := by
  have B := I.b
  obtain ⟨⟨a1, a2, a3, a4, a5, a6, a7⟩, ⟨b1, b2, b3⟩, c1, c2⟩ := I
  obtain ⟨m, em⟩ : ∃ m : Nat, (Z 11).toNat = m + 1 := ⟨(Z 11).toNat - 1, by omega⟩
  have et : Z (700 + m) = ztop Z := by
    unfold ztop
    rw [em]
    rfl
  have z := zc_all Z m
  rw [em, zc_su, et] at b1 b2 b3
  have k1 : zgk (ztop Z) = 1 := if_neg ht
  by_cases e : ztop Z = 32
  · have k2 : zbd (ztop Z) = 1 := if_pos e
    have k3 : zgb (ztop Z) = 0 := if_pos (Or.inr e)
    omega
  · have k2 : zbd (ztop Z) = 2 := if_neg e
    have k3 : zgb (ztop Z) = 1 := if_neg (fun y => y.elim ht e)
    omega
theorem zb1_11 : zb1 Z 11 = Z 11 - 1 := zs_same
theorem zb1_14 : zb1 Z 14 = Z 14 - zbd (ztop Z) + 1 := by unfold zb1; rw [zs_ne (by omega), zs_same]
theorem zb1_10 : zb1 Z 10 = Z 10 + 1 := by unfold zb1; rw [zs_ne (by omega), zs_ne (by omega), zs_same]
theorem zb1_8 : zb1 Z (800 + ((Z 14).toNat - zbd (ztop Z))) = Z 10 := by
  unfold zb1
  rw [zs_ne (by omega), zs_ne (by omega), zs_ne (by omega), zs_same]
theorem zb1_o (hb : (Z 10).toNat < 100) {i : Nat} (h : (i < 300 ∧ i ≠ 10 ∧ i ≠ 11 ∧ i ≠ 14) ∨ (700 ≤ i ∧ i ≠ 800 + ((Z 14).toNat - zbd (ztop Z)))) : zb1 Z i = Z i := by
  unfold zb1
  rw [zs_ne (by omega), zs_ne (by omega), zs_ne (by omega), zs_ne (by omega), zs_ne (by omega), zs_ne (by omega), zs_ne (by omega), zs_ne (by omega)]
theorem zb1_k (hb : (Z 10).toNat < 100) {j : Nat} (h : 300 ≤ j) (h2 : j < 700) (h1 : j ≠ 300 + (Z 10).toNat) (h3 : j ≠ 400 + (Z 10).toNat) (h4 : j ≠ 500 + (Z 10).toNat) (h5 : j ≠ 600 + (Z 10).toNat) : zb1 Z j = Z j := by
  unfold zb1
  rw [zs_ne (by omega), zs_ne (by omega), zs_ne (by omega), zs_ne (by omega), zs_ne (by omega), zs_ne (by omega), zs_ne (by omega), zs_ne (by omega)]
theorem zb1_3 (hb : (Z 10).toNat < 100) : zb1 Z (300 + (Z 10).toNat) = ztop Z ∧ zb1 Z (400 + (Z 10).toNat) = 0 ∧ zb1 Z (500 + (Z 10).toNat) = Z (800 + ((Z 14).toNat - zbd (ztop Z))) ∧ zb1 Z (600 + (Z 10).toNat) = (if ztop Z = 32 then -1 else Z (800 + ((Z 14).toNat - 1))) := by
  unfold zb1
  refine ⟨?_, ?_, ?_, ?_⟩
  · rw [zs_ne (by omega), zs_ne (by omega), zs_ne (by omega), zs_ne (by omega), zs_ne (by omega), zs_ne (by omega), zs_ne (by omega), zs_same]
  · rw [zs_ne (by omega), zs_ne (by omega), zs_ne (by omega), zs_ne (by omega), zs_ne (by omega), zs_ne (by omega), zs_same]
  · rw [zs_ne (by omega), zs_ne (by omega), zs_ne (by omega), zs_ne (by omega), zs_ne (by omega), zs_same]
  · rw [zs_ne (by omega), zs_ne (by omega), zs_ne (by omega), zs_ne (by omega), zs_same]
theorem zInv_b1 (I : zInv f Z) (h13 : Z 13 = 0) (h11 : 0 < Z 11) (ht : ztop Z ≠ 5) : zInv f (zb1 Z) := by
  have C := zb1_i I h13 h11 ht
  have B := I.b
  obtain ⟨⟨a1, a2, a3, a4, a5, a6, a7⟩, ⟨b1, b2, b3⟩, c1, c2⟩ := I
  obtain ⟨m, em⟩ : ∃ m : Nat, (Z 11).toNat = m + 1 := ⟨(Z 11).toNat - 1, by omega⟩
  have et : Z (700 + m) = ztop Z := by
    unfold ztop
    rw [em]
    rfl
  have z := zc_all Z m
  rw [em, zc_su, et] at b1 b2 b3
  have o : ∀ {i : Nat}, (i < 300 ∧ i ≠ 10 ∧ i ≠ 11 ∧ i ≠ 14) ∨ (700 ≤ i ∧ i ≠ 800 + ((Z 14).toNat - zbd (ztop Z))) → zb1 Z i = Z i := fun h => zb1_o (by omega) h
  have e11 := zb1_11 (Z := Z); have e14 := zb1_14 (Z := Z); have e10 := zb1_10 (Z := Z)
  have e6 : zb1 Z 6 = Z 6 := o (by omega)
  have e12 : zb1 Z 12 = Z 12 := o (by omega)
  have e13 : zb1 Z 13 = Z 13 := o (by omega)
  have em' : (zb1 Z 11).toNat = m := by omega
  have e7 : ∀ i : Nat, i < m → zb1 Z (700 + i) = Z (700 + i) := fun i hi => o (by omega)
  have k0 : zgo (ztop Z) = 0 := if_neg ht
  have k1 : zgk (ztop Z) = 1 := if_neg ht
  have k2 : (zbd (ztop Z) : Int) = zgb (ztop Z) + 1 := by
    by_cases e : ztop Z = 32
    · have k2 : zbd (ztop Z) = 1 := if_pos e
      have k3 : zgb (ztop Z) = 0 := if_pos (Or.inr e)
      omega
    · have k2 : zbd (ztop Z) = 2 := if_neg e
      have k3 : zgb (ztop Z) = 1 := if_neg (fun y => y.elim ht e)
      omega
  refine ⟨⟨a1, by omega, by omega, by omega, by omega, by omega, by omega⟩, ⟨?_, ?_, ?_⟩, ?_, ?_⟩
  · rw [em', zc_eq e7, e12]; omega
  · rw [em', zc_eq e7, e14, e13]; omega
  · rw [em', zc_eq e7, e10, e6]; omega
  · intro k hk
    rw [e7 k (by omega)]
    exact c1 k (by omega)
  · intro k hk
    rw [e14] at hk
    by_cases e : k = (Z 14).toNat - zbd (ztop Z)
    · rw [e, zb1_8, e10]; omega
    · rw [o (i := 800 + k) (by omega), e10]
      have := c2 k (by omega)
      omega
theorem ztl_top (h : 0 < Z 11) : ztl Z = lev (ztop Z) := if_pos h
theorem zInv_bind {lv : Int} (h0 : 0 ≤ lv) : ∀ (m : Nat) (Z : Nat → Int), zInv f Z → Z 13 = 0 → Z 11 = m → zInv f (zbind lv m Z) ∧ ztl (zbind lv m Z) ≤ lv ∧ (zbind lv m Z) 13 = 0 ∧ Z 10 ≤ (zbind lv m Z) 10 ∧ (∀ i : Nat, i < 300 → i ≠ 10 → i ≠ 11 → i ≠ 14 → zbind lv m Z i = Z i) ∧ (∀ k : Nat, (k : Int) < Z 10 → ∀ o : Nat, o = 300 ∨ o = 400 ∨ o = 500 ∨ o = 600 → zbind lv m Z (o + k) = Z (o + k)) ∧ (∀ k : Nat, (k : Int) < zbind lv m Z 11 → zbind lv m Z (700 + k) = Z (700 + k)) ∧ zbind lv m Z 11 ≤ Z 11
  | 0, Z, I, h13, hm => ⟨I, by
      show ztl Z ≤ lv
      unfold ztl
      rw [if_neg (by omega)]
      exact h0, h13, Int.le_refl _, fun _ _ _ _ _ => rfl, fun _ _ _ _ => rfl, fun _ _ => rfl, Int.le_refl _⟩
  | m + 1, Z, I, h13, hm => by
    by_cases e : lv < ztl Z
    · have eq : zbind lv (m + 1) Z = zbind lv m (zb1 Z) := if_pos e
      have h11 : 0 < Z 11 := by omega
      have ht : ztop Z ≠ 5 := fun z => by
        rw [ztl_top h11, z] at e
        have : lev 5 = 0 := by decide
        omega
      have C := zb1_i I h13 h11 ht
      have B := I.b
      have o : ∀ {i : Nat}, (i < 300 ∧ i ≠ 10 ∧ i ≠ 11 ∧ i ≠ 14) ∨ (700 ≤ i ∧ i ≠ 800 + ((Z 14).toNat - zbd (ztop Z))) → zb1 Z i = Z i := fun h => zb1_o (by omega) h
      obtain ⟨r1, r2, r3, r4, r5, r6, r7, r8⟩ := zInv_bind h0 m (zb1 Z) (zInv_b1 I h13 h11 ht) (by rw [o (by omega)]; exact h13) (by rw [zb1_11]; omega)
      rw [eq]
      rw [zb1_10] at r4 r6
      rw [zb1_11] at r8
      refine ⟨r1, r2, r3, by omega, fun i h1 h2 h3 h4 => (r5 i h1 h2 h3 h4).trans (o (by omega)), fun k hk oo ho => (r6 k (by omega) oo ho).trans (zb1_k (by omega) (by omega) (by omega) (by omega) (by omega) (by omega) (by omega)), fun k hk => (r7 k hk).trans (o (by omega)), by omega⟩
    · have eq : zbind lv (m + 1) Z = Z := if_neg e
      rw [eq]
      exact ⟨I, by omega, h13, Int.le_refl _, fun _ _ _ _ _ => rfl, fun _ _ _ _ => rfl, fun _ _ => rfl, Int.le_refl _⟩
theorem zInv_put {lv : Int} (h0 : 0 ≤ lv) (I : zInv f Z) (h13 : Z 13 = 0) : zInv f (zput lv Z) ∧ ztl (zput lv Z) ≤ lv ∧ (zput lv Z) 13 = 0 ∧ Z 10 ≤ (zput lv Z) 10 ∧ (∀ i : Nat, i < 300 → i ≠ 10 → i ≠ 11 → i ≠ 14 → zput lv Z i = Z i) ∧ (∀ k : Nat, (k : Int) < Z 10 → ∀ o : Nat, o = 300 ∨ o = 400 ∨ o = 500 ∨ o = 600 → zput lv Z (o + k) = Z (o + k)) ∧ (∀ k : Nat, (k : Int) < zput lv Z 11 → zput lv Z (700 + k) = Z (700 + k)) ∧ zput lv Z 11 ≤ Z 11 := by
  have B := I.b
  exact zInv_bind h0 (Z 11).toNat Z I h13 (by omega)
/-- '(' stands on top where one is open and nothing binds -/
theorem zInv_topo (I : zInv f Z) (h12 : 0 < Z 12) (ht : ztl Z ≤ 0) : 0 < Z 11 ∧ ztop Z = 5 := by
  have B := I.b
  obtain ⟨-, ⟨b1, -, -⟩, c1, -⟩ := I
  have h11 : 0 < Z 11 := by
    apply Classical.byContradiction
    intro z
    rw [show (Z 11).toNat = 0 by omega] at b1
    have e : zc zgo Z 0 = 0 := rfl
    omega
  refine ⟨h11, ?_⟩
  rw [ztl_top h11] at ht
  have l := lev_b (ztop Z)
  have s : zsn (ztop Z) := by
    unfold ztop
    exact c1 _ (by omega)
  have n := lev_0.mp (show lev (ztop Z) = 0 by omega)
  rcases s with e | e
  · exact e
  · exact absurd e n
theorem zInv_close (I : zInv f Z) (h13 : Z 13 = 0) (h12 : 0 < Z 12) (ht : ztl Z ≤ 0) : zInv f (zs (zs Z 11 (Z 11 - 1)) 12 (Z 12 - 1)) := by
  obtain ⟨h11, et⟩ := zInv_topo I h12 ht
  have B := I.b
  obtain ⟨⟨a1, a2, a3, a4, a5, a6, a7⟩, ⟨b1, b2, b3⟩, c1, c2⟩ := I
  obtain ⟨m, em⟩ : ∃ m : Nat, (Z 11).toNat = m + 1 := ⟨(Z 11).toNat - 1, by omega⟩
  have et' : Z (700 + m) = 5 := by
    rw [← et]
    unfold ztop
    rw [em]
    rfl
  rw [em, zc_su, et'] at b1 b2 b3
  have k0 : zgo 5 = 1 := rfl
  have k1 : zgk 5 = 0 := rfl
  have k2 : zgb 5 = 0 := rfl
  have o : ∀ {i : Nat}, i ≠ 11 → i ≠ 12 → zs (zs Z 11 (Z 11 - 1)) 12 (Z 12 - 1) i = Z i := fun h1 h2 => by rw [zs_ne h2, zs_ne h1]
  have e11 : zs (zs Z 11 (Z 11 - 1)) 12 (Z 12 - 1) 11 = Z 11 - 1 := by rw [zs_ne (by omega), zs_same]
  have e12 : zs (zs Z 11 (Z 11 - 1)) 12 (Z 12 - 1) 12 = Z 12 - 1 := zs_same
  have e7 : ∀ i : Nat, i < m → zs (zs Z 11 (Z 11 - 1)) 12 (Z 12 - 1) (700 + i) = Z (700 + i) := fun i hi => o (by omega) (by omega)
  have em' : (zs (zs Z 11 (Z 11 - 1)) 12 (Z 12 - 1) 11).toNat = m := by omega
  refine ⟨⟨a1, by rw [o (by omega) (by omega)]; exact a2, by omega, by omega, by omega, by rw [o (by omega) (by omega)]; exact a6, by rw [o (by omega) (by omega)]; exact a7⟩, ⟨?_, ?_, ?_⟩, ?_, ?_⟩
  · rw [em', zc_eq e7, e12]; omega
  · rw [em', zc_eq e7, o (by omega) (by omega), o (by omega) (by omega)]; omega
  · rw [em', zc_eq e7, o (by omega) (by omega), o (by omega) (by omega)]; omega
  · intro k hk
    rw [e7 k (by omega)]
    exact c1 k (by omega)
  · intro k hk
    rw [o (by omega) (by omega)] at hk
    rw [o (by omega) (by omega), o (by omega) (by omega)]
    exact c2 k hk
theorem zstep_inv {c v : Int} (I : zInv f Z) (hc : 0 ≤ c) (h : (zstep c v Z).1 = 0) : zInv f (zstep c v Z).2 ∧ (∀ i : Nat, i < 300 → i ≠ 6 → ¬ (10 ≤ i ∧ i ≤ 14) → (zstep c v Z).2 i = Z i) ∧ Z 10 ≤ (zstep c v Z).2 10 ∧ (∀ k : Nat, (k : Int) < Z 10 → ∀ o : Nat, o = 300 ∨ o = 400 ∨ o = 500 ∨ o = 600 → (zstep c v Z).2 (o + k) = Z (o + k)) := by
  have B := I.b
  have h13 := I.1.2.2.2.2.2.1
  unfold zstep at h ⊢
  split at h
  · rename_i d
    rw [if_pos d]
    split at h
    · rename_i e
      rw [if_pos e]
      split at h
      · cases h
      · rename_i e2
        rw [if_neg e2]
        dsimp only
        have o : ∀ {i : Nat}, i ≠ 11 → i ≠ 12 → i ≠ 700 + (Z 11).toNat → zpush (zs Z 12 (Z 12 + 1)) 5 i = Z i := fun h1 h2 h3 => by
          rw [zpush_h h1 (by rw [zs_ne (by omega)]; exact h3), zs_ne h2]
        refine ⟨zInv_push (s := 5) (d6 := 0) (d12 := 1) (v13 := 1) I (Or.inl rfl) rfl rfl (by omega) (by omega) rfl (by rw [d]; rfl) (by rw [o (by omega) (by omega) (by omega)]; omega) (by rw [zpush_o (by omega) (by omega), zs_same]) (by rw [o (by omega) (by omega) (by omega)]; exact d) (by rw [zpush_11, zs_ne (by omega)]) (o (by omega) (by omega) (by omega)) (o (by omega) (by omega) (by omega)) (fun i hi => o (by omega) (by omega) (by omega)) ?_ (fun i hi => o (by omega) (by omega) (by omega)), fun i h1 h2 h3 => o (by omega) (by omega) (by omega), by rw [o (by omega) (by omega) (by omega)]; exact Int.le_refl _, fun k hk oo ho => o (by omega) (by omega) (by omega)⟩
        have := zpush_t (Z := zs Z 12 (Z 12 + 1)) (s := 5)
        rw [zs_ne (by omega)] at this
        exact this
    · rename_i e
      rw [if_neg e]
      split at h
      · rename_i e2
        rw [if_pos e2]
        split at h
        · cases h
        · rename_i e3
          rw [if_neg e3]
          dsimp only
          have o : ∀ {i : Nat}, i ≠ 11 → i ≠ 6 → i ≠ 700 + (Z 11).toNat → zpush (zs Z 6 (Z 6 + 1)) 32 i = Z i := fun h1 h2 h3 => by
            rw [zpush_h h1 (by rw [zs_ne (by omega)]; exact h3), zs_ne h2]
          refine ⟨zInv_push (s := 32) (d6 := 1) (d12 := 0) (v13 := 1) I (Or.inr (Or.inr (by decide))) rfl rfl (by omega) (by omega) rfl (by rw [d]; rfl) (by rw [zpush_o (by omega) (by omega), zs_same]) (by rw [o (by omega) (by omega) (by omega)]; omega) (by rw [o (by omega) (by omega) (by omega)]; exact d) (by rw [zpush_11, zs_ne (by omega)]) (o (by omega) (by omega) (by omega)) (o (by omega) (by omega) (by omega)) (fun i hi => o (by omega) (by omega) (by omega)) ?_ (fun i hi => o (by omega) (by omega) (by omega)), fun i h1 h2 h3 => o (by omega) (by omega) (by omega), by rw [o (by omega) (by omega) (by omega)]; exact Int.le_refl _, fun k hk oo ho => o (by omega) (by omega) (by omega)⟩
          have := zpush_t (Z := zs Z 6 (Z 6 + 1)) (s := 32)
          rw [zs_ne (by omega)] at this
          exact this
      · rename_i e2
        rw [if_neg e2]
        split at h
        · cases h
        · rename_i e3
          rw [if_neg e3]
          split at h
          · cases h
          · rename_i e4
            rw [if_neg e4]
            split at h
            · cases h
            · rename_i e5
              rw [if_neg e5]
              dsimp only
              have o : ∀ {i : Nat}, (i < 300 ∧ i ≠ 6 ∧ ¬ (10 ≤ i ∧ i ≤ 14)) → zleaf Z c v i = Z i := fun hi => by
                unfold zleaf
                rw [zs_ne (by omega), zs_ne (by omega), zs_ne (by omega), zs_ne (by omega), zs_ne (by omega), zs_ne (by omega), zs_ne (by omega), zs_ne (by omega), zs_ne (by omega)]
              refine ⟨zInv_leaf I d (by omega), fun i h1 h2 h3 => o ⟨h1, h2, h3⟩, ?_, fun k hk oo ho => ?_⟩
              · show Z 10 ≤ zleaf Z c v 10
                unfold zleaf
                rw [zs_ne (by omega), zs_ne (by omega), zs_ne (by omega), zs_same]
                omega
              · show zleaf Z c v (oo + k) = Z (oo + k)
                unfold zleaf
                rw [zs_ne (by omega), zs_ne (by omega), zs_ne (by omega), zs_ne (by omega), zs_ne (by omega), zs_ne (by omega), zs_ne (by omega), zs_ne (by omega), zs_ne (by omega)]
  · rename_i d
    rw [if_neg d]
    have d0 : Z 13 = 0 := by omega
    split at h
    · rename_i e
      rw [if_pos e]
      obtain ⟨r1, r2, r3, r4, r5, r6, r7, r8⟩ := zInv_put (lv := 0) (Int.le_refl 0) I d0
      dsimp only
      have o : ∀ {i : Nat}, i ≠ 11 → i ≠ 12 → zs (zs (zput 0 Z) 11 (zput 0 Z 11 - 1)) 12 (zput 0 Z 12 - 1) i = zput 0 Z i := fun h1 h2 => by rw [zs_ne h2, zs_ne h1]
      refine ⟨zInv_close r1 r3 (by rw [r5 12 (by omega) (by omega) (by omega) (by omega)]; exact e.2) r2, fun i h1 h2 h3 => (o (by omega) (by omega)).trans (r5 i h1 (by omega) (by omega) (by omega)), ?_, fun k hk oo ho => (o (by omega) (by omega)).trans (r6 k hk oo ho)⟩
      rw [o (by omega) (by omega)]
      exact r4
    · rename_i e
      rw [if_neg e]
      split at h
      · cases h
      · rename_i e2
        rw [if_neg e2]
        split at h
        · cases h
        · rename_i e3
          rw [if_neg e3]
          split at h
          · cases h
          · rename_i e4
            rw [if_neg e4]
            have lb := lev_b c
            have key : ∃ lv : Int, 0 ≤ lv ∧ (if lev c = 4 then zput 4 Z else zput (lev c - 1) Z) = zput lv Z := by
              split
              · exact ⟨4, by decide, rfl⟩
              · exact ⟨lev c - 1, by omega, rfl⟩
            obtain ⟨lv, hlv, ek⟩ := key
            rw [ek]
            dsimp only
            obtain ⟨r1, r2, r3, r4, r5, r6, r7, r8⟩ := zInv_put (lv := lv) hlv I d0
            have B2 := r1.b
            have q6 := r5 6 (by omega) (by omega) (by omega) (by omega)
            have q12 := r5 12 (by omega) (by omega) (by omega) (by omega)
            have o : ∀ {i : Nat}, i ≠ 11 → i ≠ 6 → i ≠ 13 → i ≠ 700 + (zput lv Z 11).toNat → zs (zpush (zs (zput lv Z) 6 (zput lv Z 6 + 1)) c) 13 1 i = zput lv Z i := fun h1 h2 h3 h4 => by
              rw [zs_ne h3, zpush_h h1 (by rw [zs_ne (by omega)]; exact h4), zs_ne h2]
            have hs : (7 ≤ c ∧ c ≤ 16) ∨ (30 ≤ c ∧ c ≤ 32) := by
              apply Classical.byContradiction
              intro z
              exact e2 (Or.inl (lev_0.mpr z))
            have c32 : c ≠ 32 := fun z => e2 (Or.inr z)
            have k1 : zgk c = 1 := if_neg (by omega)
            have k2 : zgo c = 0 := if_neg (by omega)
            have k3 : zgb c = 1 := if_neg (by omega)
            refine ⟨zInv_push (s := c) (d6 := 1) (d12 := 0) (v13 := 1) r1 (Or.inr hs) k1.symm k2.symm (by omega) (by omega) rfl (by omega) (by rw [zs_ne (by omega), zpush_o (by omega) (by omega), zs_same]) (by rw [o (by omega) (by omega) (by omega) (by omega)]; omega) zs_same (by rw [zs_ne (by omega), zpush_11, zs_ne (by omega)]) (o (by omega) (by omega) (by omega) (by omega)) (o (by omega) (by omega) (by omega) (by omega)) (fun i hi => o (by omega) (by omega) (by omega) (by omega)) ?_ (fun i hi => o (by omega) (by omega) (by omega) (by omega)), fun i h1 h2 h3 => (o (by omega) (by omega) (by omega) (by omega)).trans (r5 i h1 (by omega) (by omega) (by omega)), by rw [o (by omega) (by omega) (by omega) (by omega)]; exact r4, fun k hk oo ho => (o (by omega) (by omega) (by omega) (by omega)).trans (r6 k hk oo ho)⟩
            rw [zs_ne (by omega)]
            have := zpush_t (Z := zs (zput lv Z) 6 (zput lv Z 6 + 1)) (s := c)
            rw [zs_ne (by omega)] at this
            exact this
end ZI
