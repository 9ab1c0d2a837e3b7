/-! LETTERS PACKED are numbers to the base 32; which word. -/
theorem j32_nat {a : Int32} {x : Nat} (h : a.toInt = x) : a.toBitVec.toNat = x := by
  have := (i32_nat (a := a) (by omega)).2
  have := (i32_nat (a := a) (by omega)).1
  omega
theorem j32_of {a : Int32} {x : Nat} (h : a.toBitVec.toNat = x) (hx : x < 2147483648) : a.toInt = x := by
  rw [i32_ofnat (by omega), h]
theorem i32_or_add {a c : Int32} {x y : Nat} (s : Nat) (ha : a.toInt = (x * 2 ^ s : Nat)) (hc : c.toInt = y) (hy : y < 2 ^ s) (hx : x * 2 ^ s + y < 2147483648) : (a ||| c).toInt = (x * 2 ^ s + y : Nat) := by
  have ha' := j32_nat ha
  have hc' := j32_nat hc
  refine j32_of ?_ hx
  rw [Int32.toBitVec_or, BitVec.toNat_or, ha', hc', ← Nat.shiftLeft_eq, Nat.shiftLeft_add_eq_or_of_lt hy]
theorem i32_shl5 {a : Int32} {x : Nat} (ha : a.toInt = x) (hx : x < 33554432) : (a <<< (Int32.ofInt (5) &&& 31)).toInt = (x * 32 : Nat) := by
  have ha' := j32_nat ha
  refine j32_of ?_ (by omega)
  show (a.toBitVec <<< ((Int32.ofInt (5) &&& 31).toBitVec.smod 32)).toNat = _
  rw [show ((Int32.ofInt (5) &&& 31).toBitVec.smod 32) = (5 : BitVec 32) by decide, BitVec.shiftLeft_eq', BitVec.toNat_shiftLeft, ha', Nat.shiftLeft_eq]
  show x * 2 ^ 5 % 2 ^ 32 = _
  omega
def sNb (b : Nat → Int) (q : Nat) : Nat → Int
  | 0 => 0
  | j + 1 => sNb b q j * 32 + (b (q + j) - 96)
def sLs (b : Nat → Int) (q m : Nat) : Prop := ∀ i, i < m → 97 ≤ b (q + i) ∧ b (q + i) ≤ 122
theorem sNb_b {b : Nat → Int} {q : Nat} : ∀ {m : Nat}, sLs b q m → 0 ≤ sNb b q m ∧ sNb b q m < 32 ^ m
  | 0, _ => ⟨Int.le_refl _, (by decide : (0 : Int) < 32 ^ 0)⟩
  | m + 1, h => by
    have h1 := sNb_b (m := m) (fun i hi => h i (by omega))
    have h2 := h m (by omega)
    have e : (32 : Int) ^ (m + 1) = 32 ^ m * 32 := Int.pow_succ 32 m
    unfold sNb
    rw [e]
    omega
theorem sLt_k : ∀ j, j < 6 → ∀ k, k < 26 → (sLt ((97 + k : Nat) : Int) j).toInt = ((k + 1) * 2 ^ (25 - 5 * j) : Nat) := by decide +kernel
theorem sLt_v {x : Int} {j : Nat} (hj : j < 6) (hx : 97 ≤ x ∧ x ≤ 122) : (sLt x j).toInt = ((x - 96).toNat * 2 ^ (25 - 5 * j) : Nat) := by
  have z := sLt_k j hj (x - 97).toNat (by omega)
  rw [show ((97 + (x - 97).toNat : Nat) : Int) = x by omega, show (x - 97).toNat + 1 = (x - 96).toNat by omega] at z
  exact z
theorem sPk_v {b : Nat → Int} {q : Nat} : ∀ {m : Nat}, m ≤ 6 → sLs b q m → (sPk b q m).toInt = ((sNb b q m).toNat * 2 ^ (30 - 5 * m) : Nat)
  | 0, _, _ => by
    show (Int32.ofInt (0)).toInt = (((0 : Int).toNat * 2 ^ (30 - 5 * 0) : Nat) : Int)
    simp
  | m + 1, hm, h => by
    have hl : sLs b q m := fun i hi => h i (by omega)
    have h1 := sPk_v (m := m) (by omega) hl
    have hb := sNb_b hl
    have h2 := h m (by omega)
    have h3 := sLt_v (j := m) (by omega) h2
    have z : sPk b q (m + 1) = sPk b q m ||| sLt (b (q + m)) m := if_pos (by omega)
    have e : (sNb b q (m + 1)).toNat = (sNb b q m).toNat * 32 + (b (q + m) - 96).toNat := by
      show (sNb b q m * 32 + (b (q + m) - 96)).toNat = _
      omega
    obtain ⟨N, eN⟩ : ∃ z, z = (sNb b q m).toNat := ⟨_, rfl⟩
    obtain ⟨d, ed⟩ : ∃ z, z = (b (q + m) - 96).toNat := ⟨_, rfl⟩
    rw [z, e]
    rw [← ed] at h3
    rw [← eN] at h1
    rw [← ed, ← eN]
    have hd : d < 32 := by omega
    rcases (by omega : m = 0 ∨ m = 1 ∨ m = 2 ∨ m = 3 ∨ m = 4 ∨ m = 5) with rfl | rfl | rfl | rfl | rfl | rfl
    · have hN : N < 1 := by simp at hb; omega
      rw [i32_or_add 30 h1 h3 (by simp; omega) (by simp; omega)]
      simp
      omega
    · have hN : N < 32 := by simp at hb; omega
      rw [i32_or_add 25 h1 h3 (by simp; omega) (by simp; omega)]
      simp
      omega
    · have hN : N < 1024 := by simp at hb; omega
      rw [i32_or_add 20 h1 h3 (by simp; omega) (by simp; omega)]
      simp
      omega
    · have hN : N < 32768 := by simp at hb; omega
      rw [i32_or_add 15 h1 h3 (by simp; omega) (by simp; omega)]
      simp
      omega
    · have hN : N < 1048576 := by simp at hb; omega
      rw [i32_or_add 10 h1 h3 (by simp; omega) (by simp; omega)]
      simp
      omega
    · have hN : N < 33554432 := by simp at hb; omega
      rw [i32_or_add 5 h1 h3 (by simp; omega) (by simp; omega)]
      simp
/-- two words of one number are one word -/
theorem sNb_inj {b c : Nat → Int} {q f : Nat} : ∀ {m : Nat}, sLs b q m → sLs c f m → sNb b q m = sNb c f m → ∀ i, i < m → b (q + i) = c (f + i)
  | 0, _, _, _, i, hi => absurd hi (Nat.not_lt_zero i)
  | m + 1, h1, h2, e, i, hi => by
    have e : sNb b q m * 32 + (b (q + m) - 96) = sNb c f m * 32 + (c (f + m) - 96) := e
    have k1 := h1 m (by omega)
    have k2 := h2 m (by omega)
    by_cases hm : i = m
    · rw [hm]
      omega
    · exact sNb_inj (m := m) (fun j hj => h1 j (by omega)) (fun j hj => h2 j (by omega)) (by omega) i (by omega)
theorem sNb_cg {b c : Nat → Int} {q f : Nat} : ∀ {m : Nat}, (∀ i, i < m → b (q + i) = c (f + i)) → sNb b q m = sNb c f m
  | 0, _ => rfl
  | m + 1, h => by
    show sNb b q m * 32 + (b (q + m) - 96) = sNb c f m * 32 + (c (f + m) - 96)
    rw [sNb_cg (m := m) (fun i hi => h i (by omega)), h m (by omega)]
theorem sNb_len {b c : Nat → Int} {q f m k : Nat} (hm : m ≤ 6) (hk : k ≤ 6) (h1 : sLs b q m) (h2 : sLs c f k) (e : (sNb b q m).toNat * 2 ^ (30 - 5 * m) = (sNb c f k).toNat * 2 ^ (30 - 5 * k)) : m = k ∧ sNb b q m = sNb c f k := by
  have b1 := sNb_b h1
  have b2 := sNb_b h2
  have last : ∀ {b : Nat → Int} {q m : Nat}, sLs b q m → m ≠ 0 → (sNb b q m).toNat % 32 ≠ 0 := fun {b q m} h h0 => by
    obtain ⟨j, rfl⟩ : ∃ j, m = j + 1 := ⟨m - 1, by omega⟩
    have := h j (by omega)
    have := sNb_b (m := j) (fun i hi => h i (by omega))
    show (sNb b q j * 32 + (b (q + j) - 96)).toNat % 32 ≠ 0
    omega
  have l1 := last h1
  have l2 := last h2
  have z1 : m = 0 → sNb b q m = 0 := fun z => by rw [z]; rfl
  have z2 : k = 0 → sNb c f k = 0 := fun z => by rw [z]; rfl
  obtain ⟨N, eN⟩ : ∃ z, z = sNb b q m := ⟨_, rfl⟩
  obtain ⟨M, eM⟩ : ∃ z, z = sNb c f k := ⟨_, rfl⟩
  rw [← eN] at e l1 z1 b1 ⊢
  rw [← eM] at e l2 z2 b2 ⊢
  rcases (by omega : m = 0 ∨ m = 1 ∨ m = 2 ∨ m = 3 ∨ m = 4 ∨ m = 5 ∨ m = 6) with rfl | rfl | rfl | rfl | rfl | rfl | rfl <;>
  rcases (by omega : k = 0 ∨ k = 1 ∨ k = 2 ∨ k = 3 ∨ k = 4 ∨ k = 5 ∨ k = 6) with rfl | rfl | rfl | rfl | rfl | rfl | rfl <;>
  simp at e l1 l2 z1 z2 <;> omega
/-- the model's words, where each begins, how long it is -/
def zmb : List Int := [114, 101, 103, 105, 111, 110, 32, 106, 111, 105, 110, 32, 112, 101, 114, 115, 111, 110, 32, 100, 101, 98, 116, 32, 116, 101, 97, 114, 32, 108, 97, 119, 32, 121, 97, 114, 100, 32, 103, 97, 105, 110, 32, 121, 105, 101, 108, 100, 32, 119, 97, 121, 32, 97, 110, 100, 32, 111, 114, 32, 110, 111, 116, 32, 115, 99, 97, 108, 101, 32, 115, 105, 122, 101, 32, 97, 114, 101, 97, 32, 108, 101, 110, 103, 116, 104, 32, 99, 114, 111, 119, 100, 32, 116, 111, 114, 110, 32, 115, 101, 97, 115, 111, 110, 32]
def zmf : List Nat := [0, 7, 12, 19, 24, 29, 33, 38, 43, 49, 53, 57, 60, 64, 70, 75, 80, 87, 93, 98, 105]
def zml : List Nat := [6, 4, 6, 4, 4, 3, 4, 4, 5, 3, 3, 2, 3, 5, 4, 4, 6, 5, 4, 6]
def zmB (k : Nat) : Int := zmb.getD k 0
theorem zm_ok : ∀ k, k < 20 → (∀ j, j < zml.getD k 0 → 97 ≤ zmB (zmf.getD k 0 + j) ∧ zmB (zmf.getD k 0 + j) ≤ 122) ∧ zmB (zmf.getD k 0 + zml.getD k 0) = 32 ∧ zmf.getD (k + 1) 0 = zmf.getD k 0 + zml.getD k 0 + 1 ∧ 2 ≤ zml.getD k 0 ∧ zml.getD k 0 ≤ 6 ∧ zmf.getD k 0 + zml.getD k 0 < 105 := by decide +kernel
theorem zm_cell : ∀ k, k < 105 → vI 106 k = (zmB k, zmB k) := by decide +kernel
theorem zm_h {h : XH} (hg : sgood vT vR vE 153 6051 h) {k : Nat} (hk : k < 105) : (xI h 106 k).toInt = zmB k := by
  have z := vbnd hg.1 106 k
  rw [zm_cell k hk] at z
  have z1 : zmB k ≤ _ := z.1
  have z2 : _ ≤ zmB k := z.2
  omega
def mMt (b : Nat → Int) (q m k : Nat) : Prop := zml.getD k 0 = m ∧ ∀ i, i < m → b (q + i) = zmB (zmf.getD k 0 + i)
noncomputable def mWd (b : Nat → Int) (q m : Nat) : Nat → Nat → Int
  | 0, _ => -1
  | j + 1, k => @ite Int (mMt b q m k) (Classical.propDecidable _) k (mWd b q m j (k + 1))
def mCd (k : Nat) : Int := ((sNb zmB (zmf.getD k 0) (zml.getD k 0)).toNat * 2 ^ (30 - 5 * zml.getD k 0) : Nat)
def mCi (x : Int) : Nat → Nat → Int
  | 0, _ => -1
  | j + 1, k => if x = mCd k then k else mCi x j (k + 1)
theorem mMt_c {b : Nat → Int} {q m k : Nat} (hk : k < 20) (hm : m ≤ 6) (h : sLs b q m) : mMt b q m k ↔ (sPk b q m).toInt = mCd k := by
  obtain ⟨z1, z2, z3, z4, z5, z6⟩ := zm_ok k hk
  rw [sPk_v hm h]
  unfold mCd
  constructor
  · rintro ⟨e1, e2⟩
    rw [e1, sNb_cg e2]
  · intro e
    obtain ⟨e1, e2⟩ := sNb_len hm z5 h z1 (by exact_mod_cast e)
    subst e1
    exact ⟨rfl, sNb_inj h z1 e2⟩
theorem mWd_long {b : Nat → Int} {q m : Nat} (hm : 6 < m) : ∀ (j k : Nat), k + j ≤ 20 → mWd b q m j k = -1
  | 0, _, _ => rfl
  | j + 1, k, h => by
    unfold mWd
    rw [if_neg (fun z => by have := (zm_ok k (by omega)).2.2.2.2.1; have := z.1; omega)]
    exact mWd_long hm j (k + 1) (by omega)
theorem mWd_c {b : Nat → Int} {q m : Nat} (hm : m ≤ 6) (h : sLs b q m) : ∀ (j k : Nat), k + j ≤ 20 → mWd b q m j k = mCi (sPk b q m).toInt j k
  | 0, _, _ => rfl
  | j + 1, k, hk => by
    unfold mWd mCi
    rw [mWd_c hm h j (k + 1) (by omega)]
    by_cases z : mMt b q m k
    · rw [if_pos z, if_pos ((mMt_c (by omega) hm h).mp z)]
    · rw [if_neg z, if_neg (fun y => z ((mMt_c (by omega) hm h).mpr y))]
def sKo (c : Int) : Int := if c = 3 then -1 else if c = 30 then 11 else if c = 31 then 10 else c - 20
def sWv : List Int := [609461742, 351582208, 542723566, 139546624, 676382720, 404455424, 840503296, 236238848, 848474240, 773619712, 522190848, 48365568, 486146048, 640725152, 647828480, 52593664, 408362632, 120052864, 687421440, 642829806]
theorem sWl_v : sWl.map Int32.toInt = sWv := by decide +kernel
theorem mCd_v : (List.range 20).map mCd = [609461742, 351582208, 542723566, 139546624, 676382720, 404455424, 840503296, 236238848, 848474240, 773619712, 48365568, 522190848, 486146048, 640725152, 647828480, 52593664, 408362632, 120052864, 687421440, 642829806] := by decide +kernel
def sIdv : List Int → Int → Int → Int
  | [], _, _ => 3
  | c :: l, x, w => if c = x then w else sIdv l x (w + 1)
theorem sIdx_v (x : Int32) : ∀ (l : List Int32) (w : Int), sIdx l x w = sIdv (l.map Int32.toInt) x.toInt w
  | [], _ => rfl
  | c :: l, w => by
    show (if c = x then w else sIdx l x (w + 1)) = (if c.toInt = x.toInt then w else sIdv (l.map Int32.toInt) x.toInt (w + 1))
    rw [sIdx_v x l (w + 1)]
    by_cases z : c = x
    · rw [if_pos z, if_pos (congrArg Int32.toInt z)]
    · rw [if_neg z, if_neg (fun y => z (Int32.toInt_inj.mp y))]
theorem mCd_at : mCd 0 = 609461742 ∧ mCd 1 = 351582208 ∧ mCd 2 = 542723566 ∧ mCd 3 = 139546624 ∧ mCd 4 = 676382720 ∧ mCd 5 = 404455424 ∧ mCd 6 = 840503296 ∧ mCd 7 = 236238848 ∧ mCd 8 = 848474240 ∧ mCd 9 = 773619712 ∧ mCd 10 = 48365568 ∧ mCd 11 = 522190848 ∧ mCd 12 = 486146048 ∧ mCd 13 = 640725152 ∧ mCd 14 = 647828480 ∧ mCd 15 = 52593664 ∧ mCd 16 = 408362632 ∧ mCd 17 = 120052864 ∧ mCd 18 = 687421440 ∧ mCd 19 = 642829806 := by decide +kernel
theorem mCi_all (x : Int32) : mCi x.toInt 20 0 = sKo (sWord x) := by
  unfold sWord
  rw [sIdx_v, sWl_v]
  obtain ⟨m0, m1, m2, m3, m4, m5, m6, m7, m8, m9, m10, m11, m12, m13, m14, m15, m16, m17, m18, m19⟩ := mCd_at
  generalize x.toInt = y
  simp only [mCi, m0, m1, m2, m3, m4, m5, m6, m7, m8, m9, m10, m11, m12, m13, m14, m15, m16, m17, m18, m19, Nat.zero_add, Nat.reduceAdd]
  by_cases y0 : y = 609461742
  · subst y0
    decide
  by_cases y1 : y = 351582208
  · subst y1
    decide
  by_cases y2 : y = 542723566
  · subst y2
    decide
  by_cases y3 : y = 139546624
  · subst y3
    decide
  by_cases y4 : y = 676382720
  · subst y4
    decide
  by_cases y5 : y = 404455424
  · subst y5
    decide
  by_cases y6 : y = 840503296
  · subst y6
    decide
  by_cases y7 : y = 236238848
  · subst y7
    decide
  by_cases y8 : y = 848474240
  · subst y8
    decide
  by_cases y9 : y = 773619712
  · subst y9
    decide
  by_cases y10 : y = 48365568
  · subst y10
    decide
  by_cases y11 : y = 522190848
  · subst y11
    decide
  by_cases y12 : y = 486146048
  · subst y12
    decide
  by_cases y13 : y = 640725152
  · subst y13
    decide
  by_cases y14 : y = 647828480
  · subst y14
    decide
  by_cases y15 : y = 52593664
  · subst y15
    decide
  by_cases y16 : y = 408362632
  · subst y16
    decide
  by_cases y17 : y = 120052864
  · subst y17
    decide
  by_cases y18 : y = 687421440
  · subst y18
    decide
  by_cases y19 : y = 642829806
  · subst y19
    decide
  simp only [sWv, sIdv, y0, y1, y2, y3, y4, y5, y6, y7, y8, y9, y10, y11, y12, y13, y14, y15, y16, y17, y18, y19, if_false]
  rw [if_neg (fun z => y0 z.symm), if_neg (fun z => y1 z.symm), if_neg (fun z => y2 z.symm), if_neg (fun z => y3 z.symm), if_neg (fun z => y4 z.symm), if_neg (fun z => y5 z.symm), if_neg (fun z => y6 z.symm), if_neg (fun z => y7 z.symm), if_neg (fun z => y8 z.symm), if_neg (fun z => y9 z.symm), if_neg (fun z => y11 z.symm), if_neg (fun z => y10 z.symm), if_neg (fun z => y12 z.symm), if_neg (fun z => y13 z.symm), if_neg (fun z => y14 z.symm), if_neg (fun z => y15 z.symm), if_neg (fun z => y16 z.symm), if_neg (fun z => y17 z.symm), if_neg (fun z => y18 z.symm), if_neg (fun z => y19 z.symm)]
  rfl
theorem mWd_ok {b : Nat → Int} {q m : Nat} (h : sLs b q m) : mWd b q m 20 0 = if 6 < m then -1 else sKo (sWord (sPk b q m)) := by
  by_cases hm : 6 < m
  · rw [if_pos hm, mWd_long hm 20 0 (by decide)]
  · rw [if_neg hm, mWd_c (by omega) h 20 0 (by decide), mCi_all]
