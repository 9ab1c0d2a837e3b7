/-! AND, OR, QUOTIENTS; MIN, MAX, ABS; SWITCHES. -/
section SMore
variable {T : ST} {nn uu nx fr lo : Nat}
theorem i32_nat {a : Int32} (h : 0 ≤ a.toInt) : a.toInt = a.toBitVec.toNat ∧ a.toBitVec.toNat < 2147483648 := by
  have h1 : a.toBitVec.toInt = a.toInt := rfl
  rw [← h1] at h ⊢
  rw [BitVec.toInt_eq_toNat_cond] at h ⊢
  have := a.toBitVec.isLt
  split
  · exact ⟨rfl, by omega⟩
  · rename_i hn
    rw [if_neg hn] at h
    omega
theorem i32_ofnat {a : Int32} (h : a.toBitVec.toNat < 2147483648) : a.toInt = a.toBitVec.toNat := by
  have h1 : a.toBitVec.toInt = a.toInt := rfl
  rw [← h1, BitVec.toInt_eq_toNat_cond, if_pos (by omega)]
theorem i32_and_l {a b : Int32} (h : 0 ≤ a.toInt) : 0 ≤ (a &&& b).toInt ∧ (a &&& b).toInt ≤ a.toInt := by
  obtain ⟨h1, h2⟩ := i32_nat h
  have h3 : (a &&& b).toBitVec.toNat ≤ a.toBitVec.toNat := by
    rw [Int32.toBitVec_and, BitVec.toNat_and]
    exact Nat.and_le_left
  have h4 := i32_ofnat (a := a &&& b) (by omega)
  omega
theorem i32_and_r {a b : Int32} (h : 0 ≤ b.toInt) : 0 ≤ (a &&& b).toInt ∧ (a &&& b).toInt ≤ b.toInt := by
  obtain ⟨h1, h2⟩ := i32_nat h
  have h3 : (a &&& b).toBitVec.toNat ≤ b.toBitVec.toNat := by
    rw [Int32.toBitVec_and, BitVec.toNat_and]
    exact Nat.and_le_right
  have h4 := i32_ofnat (a := a &&& b) (by omega)
  omega
def sand (Y : SY) (a b : SE) : SR := bif decide (0 ≤ (siv Y a).1) then (bif decide (0 ≤ (siv Y b).1) && decide ((siv Y b).2 ≤ (siv Y a).2) then .inr ((0, (siv Y b).2), b.1, b.2) else .inr ((0, (siv Y a).2), a.1, a.2)) else bif decide (0 ≤ (siv Y b).1) then .inr ((0, (siv Y b).2), b.1, b.2) else .inr (sfull, 0, 0)
theorem sand_ub {ρ : Nat → Int} {Y : SY} {e : SE} {v : Int} (he : e.1 ≤ Y.length) (hv : v ≤ sev ρ e) : ∀ s, e.1 = s + 1 → s < Y.length ∧ v ≤ ρ s + e.2 := fun s hs => by
  obtain ⟨t, c⟩ := e
  obtain rfl : t = s + 1 := hs
  exact ⟨he, hv⟩
theorem sand_ok : sopk (fun x y => x &&& y) sand := by
  intro ρ Y a b hY ha hb ra rb
  have ia := siv_ok hY ha
  have ib := siv_ok hY hb
  have ea := i32r_to ra
  have eb := i32r_to rb
  have kb : 0 ≤ (siv Y b).1 → srok ρ Y.length (Int32.ofInt (sev ρ a) &&& Int32.ofInt (sev ρ b)) (.inr ((0, (siv Y b).2), b.1, b.2)) := fun h0 => by
    have k := i32_and_r (a := Int32.ofInt (sev ρ a)) (b := Int32.ofInt (sev ρ b)) (by rw [eb]; omega)
    rw [eb] at k
    exact ⟨⟨k.1, Int.le_trans k.2 ib.2⟩, sand_ub hb k.2⟩
  unfold sand
  cases h1 : decide (0 ≤ (siv Y a).1) with
  | true =>
    have h1 := of_decide_eq_true h1
    dsimp only [cond]
    cases h2 : (decide (0 ≤ (siv Y b).1) && decide ((siv Y b).2 ≤ (siv Y a).2)) with
    | true =>
      rw [Bool.and_eq_true] at h2
      exact kb (of_decide_eq_true h2.1)
    | false =>
      have k := i32_and_l (a := Int32.ofInt (sev ρ a)) (b := Int32.ofInt (sev ρ b)) (by rw [ea]; omega)
      rw [ea] at k
      exact ⟨⟨k.1, Int.le_trans k.2 ia.2⟩, sand_ub ha k.2⟩
  | false =>
    dsimp only [cond]
    cases h2 : decide (0 ≤ (siv Y b).1) with
    | true => exact kb (of_decide_eq_true h2)
    | false => exact srok_full
def smask (z : Int) : Nat := bif decide (z < 2) then 1 else bif decide (z < 16) then 4 else bif decide (z < 256) then 8 else bif decide (z < 1024) then 10 else bif decide (z < 65536) then 16 else 31
def sor (Y : SY) (a b : SE) : SR := bif (decide (0 ≤ (siv Y a).1) && decide (0 ≤ (siv Y b).1)) && (decide ((siv Y a).2 < 2 ^ smask (smax (siv Y a).2 (siv Y b).2)) && (decide ((siv Y b).2 < 2 ^ smask (smax (siv Y a).2 (siv Y b).2)) && Nat.ble (smask (smax (siv Y a).2 (siv Y b).2)) 31)) then .inr ((0, 2 ^ smask (smax (siv Y a).2 (siv Y b).2) - 1), 0, 0) else .inr (sfull, 0, 0)
theorem sor_ok : sopk (fun x y => x ||| y) sor := by
  intro ρ Y a b hY ha hb ra rb
  have ia := siv_ok hY ha
  have ib := siv_ok hY hb
  have ea := i32r_to ra
  have eb := i32r_to rb
  unfold sor
  generalize smask (smax (siv Y a).2 (siv Y b).2) = k
  cases h1 : ((decide (0 ≤ (siv Y a).1) && decide (0 ≤ (siv Y b).1)) && (decide ((siv Y a).2 < 2 ^ k) && (decide ((siv Y b).2 < 2 ^ k) && Nat.ble k 31))) with
  | false => exact srok_full
  | true =>
    simp only [Bool.and_eq_true, decide_eq_true_eq] at h1
    obtain ⟨⟨g1, g2⟩, g3, g4, g5⟩ := h1
    have g5 := Nat.le_of_ble_eq_true g5
    obtain ⟨n1, n2⟩ := i32_nat (a := Int32.ofInt (sev ρ a)) (by rw [ea]; omega)
    obtain ⟨m1, m2⟩ := i32_nat (a := Int32.ofInt (sev ρ b)) (by rw [eb]; omega)
    rw [ea] at n1
    rw [eb] at m1
    have hk : ((2 ^ k : Nat) : Int) = (2 : Int) ^ k := by simp
    have hk31 : (2 : Nat) ^ k ≤ 2147483648 := Nat.le_trans (Nat.pow_le_pow_right (by decide) g5) (by decide)
    have p1 : (Int32.ofInt (sev ρ a)).toBitVec.toNat < 2 ^ k := by omega
    have p2 : (Int32.ofInt (sev ρ b)).toBitVec.toNat < 2 ^ k := by omega
    have p3 : (Int32.ofInt (sev ρ a) ||| Int32.ofInt (sev ρ b)).toBitVec.toNat < 2 ^ k := by
      rw [Int32.toBitVec_or, BitVec.toNat_or]
      exact Nat.or_lt_two_pow p1 p2
    have p4 := i32_ofnat (a := Int32.ofInt (sev ρ a) ||| Int32.ofInt (sev ρ b)) (by omega)
    refine ⟨?_, fun s z => by cases z⟩
    show (0 : Int) ≤ (Int32.ofInt (sev ρ a) ||| Int32.ofInt (sev ρ b)).toInt ∧ (Int32.ofInt (sev ρ a) ||| Int32.ofInt (sev ρ b)).toInt ≤ 2 ^ k - 1
    rw [p4]
    omega
/-- a quotient, by one that isn't 0 -/
def sd_div (f : Int32 → Int32 → Int32) (G : SY → SE → SE → SR) (nx : Nat) : SD
  | (Y, F, L, .inl (.inl b) :: .inl (.inl a) :: st, H) => bif decide (0 < (siv Y b).1) || decide ((siv Y b).2 < 0) then some [spush Y F L st H nx (bif Nat.beq a.1 0 && Nat.beq b.1 0 then .inl (0, (f (Int32.ofInt a.2) (Int32.ofInt b.2)).toInt) else G Y a b)] else none
  | _ => none
theorem so_div {f : Int32 → Int32 → Int32} {G : SY → SE → SE → SR} (hf : sopk f G) {X : SX} (hX : ∀ L st h o acc a b, X L (xi b :: xi a :: st) h o acc = some (nx, L, xi (f a b) :: st, h, o, acc ∧ ¬ b = 0)) : sgo T nn uu (sd_div f G nx) X := by
  intro ρ τ A L st h S hs hd
  match A, hs, hd with
  | (Y, F, LA, .inl (.inl b) :: .inl (.inl a) :: sA, H), hs, hd =>
    have hd : (bif decide (0 < (siv Y b).1) || decide ((siv Y b).2 < 0) then some [spush Y F LA sA H nx (bif Nat.beq a.1 0 && Nat.beq b.1 0 then .inl (0, (f (Int32.ofInt a.2) (Int32.ofInt b.2)).toInt) else G Y a b)] else none) = some S := hd
    cases hz : (decide (0 < (siv Y b).1) || decide ((siv Y b).2 < 0)) with
    | false => rw [hz] at hd; cases hd
    | true =>
      rw [hz] at hd
      obtain rfl := Option.some.inj hd
      obtain ⟨s1, rfl, ob, h1⟩ := sst_pop hs
      obtain ⟨s2, rfl, oa, h2⟩ := sst_pop h1
      have ib : (siv Y b).1 ≤ sev ρ b ∧ sev ρ b ≤ (siv Y b).2 := siv_ok h2.1 ob.1
      have hb0 : ¬ Int32.ofInt (sev ρ b) = 0 := fun z => by
        have z := congrArg Int32.toInt z
        rw [i32r_to ob.2] at z
        have e0 : (0 : Int32).toInt = 0 := rfl
        rw [Bool.or_eq_true] at hz
        rcases hz with hz | hz
        · have := of_decide_eq_true hz; omega
        · have := of_decide_eq_true hz; omega
      refine ⟨[], _, hX _ _ _ _ _ _ _, ⟨trivial, hb0⟩, spush_ok ⟨rfl, rfl⟩ h2 ?_⟩
      cases hc : (Nat.beq a.1 0 && Nat.beq b.1 0) with
      | true =>
        rw [Bool.and_eq_true] at hc
        refine ⟨Nat.zero_le _, ?_⟩
        show (f (Int32.ofInt a.2) (Int32.ofInt b.2)).toInt = (f (Int32.ofInt (sev ρ a)) (Int32.ofInt (sev ρ b))).toInt
        rw [sev0 hc.1, sev0 hc.2]
      | false => exact hf ρ Y a b h2.1 oa.1 ob.1 oa.2 ob.2
def sdv (Y : SY) (a b : SE) : SR := bif decide (0 ≤ (siv Y a).1) && decide (1 ≤ (siv Y b).1) then .inr ((0, (siv Y a).2), a.1, a.2) else .inr (sfull, 0, 0)
theorem sdv_ok : sopk (fun x y => x / y) sdv := by
  intro ρ Y a b hY ha hb ra rb
  have ia := siv_ok hY ha
  have ib := siv_ok hY hb
  unfold sdv
  cases h1 : (decide (0 ≤ (siv Y a).1) && decide (1 ≤ (siv Y b).1)) with
  | false => exact srok_full
  | true =>
    simp only [Bool.and_eq_true, decide_eq_true_eq] at h1
    have q0 : 0 ≤ (sev ρ a).tdiv (sev ρ b) := Int.tdiv_nonneg (by omega) (by omega)
    have q1 : (sev ρ a).tdiv (sev ρ b) ≤ sev ρ a := by
      rw [Int.tdiv_eq_ediv_of_nonneg (by omega)]
      exact Int.ediv_le_self _ (by omega)
    have e : (Int32.ofInt (sev ρ a) / Int32.ofInt (sev ρ b)).toInt = (sev ρ a).tdiv (sev ρ b) := by
      rw [Int32.toInt_div, i32r_to ra, i32r_to rb]
      exact Int.bmod_eq_of_le (by have := ra.1; omega) (by have := ra.2; omega)
    refine ⟨?_, ?_⟩
    · show (0 : Int) ≤ (Int32.ofInt (sev ρ a) / Int32.ofInt (sev ρ b)).toInt ∧ (Int32.ofInt (sev ρ a) / Int32.ofInt (sev ρ b)).toInt ≤ (siv Y a).2
      rw [e]
      omega
    · show ∀ s, a.1 = s + 1 → s < Y.length ∧ (Int32.ofInt (sev ρ a) / Int32.ofInt (sev ρ b)).toInt ≤ ρ s + a.2
      rw [e]
      exact sand_ub ha q1
/-- one int gives an int -/
def sd_un (f : Int32 → Int32) (G : SY → SE → SR) (nx : Nat) : SD
  | (Y, F, L, .inl (.inl a) :: st, H) => some [spush Y F L st H nx (bif Nat.beq a.1 0 then .inl (0, (f (Int32.ofInt a.2)).toInt) else G Y a)]
  | _ => none
def sopu (f : Int32 → Int32) (G : SY → SE → SR) : Prop := ∀ (ρ : Nat → Int) (Y : SY) (a : SE), syok ρ Y → a.1 ≤ Y.length → i32r (sev ρ a) → srok ρ Y.length (f (Int32.ofInt (sev ρ a))) (G Y a)
theorem so_un {f : Int32 → Int32} {G : SY → SE → SR} (hf : sopu f G) {X : SX} (hX : ∀ L st h o acc a, X L (xi a :: st) h o acc = some (nx, L, xi (f a) :: st, h, o, acc)) : sgo T nn uu (sd_un f G nx) X := by
  intro ρ τ A L st h S hs hd
  match A, hs, hd with
  | (Y, F, LA, .inl (.inl a) :: sA, H), hs, hd =>
    obtain rfl := Option.some.inj hd
    obtain ⟨s1, rfl, oa, h1⟩ := sst_pop hs
    refine ⟨[], _, hX _ _ _ _ _ _, trivial, spush_ok ⟨rfl, rfl⟩ h1 ?_⟩
    cases hc : Nat.beq a.1 0 with
    | true =>
      refine ⟨Nat.zero_le _, ?_⟩
      show (f (Int32.ofInt a.2)).toInt = (f (Int32.ofInt (sev ρ a))).toInt
      rw [sev0 hc]
    | false => exact hf ρ Y a h1.1 oa.1 oa.2
def sng (Y : SY) (a : SE) : SR := snq (-(siv Y a).2, -(siv Y a).1)
theorem sng_ok : sopu (fun x => -x) sng := by
  intro ρ Y a hY ha ra
  have ia := siv_ok hY ha
  refine srok_q fun _ hq => ?_
  have hr : i32r (-(sev ρ a)) := sin32_i hq (by show -(siv Y a).2 ≤ _; omega) (by show _ ≤ -(siv Y a).1; omega)
  have e : (-(Int32.ofInt (sev ρ a))).toInt = -(sev ρ a) := by
    rw [Int32.toInt_neg, i32r_to ra]
    exact Int.bmod_eq_of_le (by have := hr.1; omega) (by have := hr.2; omega)
  show -(siv Y a).2 ≤ (-(Int32.ofInt (sev ρ a))).toInt ∧ (-(Int32.ofInt (sev ρ a))).toInt ≤ -(siv Y a).1
  rw [e]
  omega
def sb8 (_ : SY) (_ : SE) : SR := .inr ((-128, 127), 0, 0)
theorem sb8_ok : sopu (fun x => x.toInt8.toInt32) sb8 := fun ρ Y a hY ha ra => ⟨i8_bound _, fun s z => by cases z⟩
end SMore
