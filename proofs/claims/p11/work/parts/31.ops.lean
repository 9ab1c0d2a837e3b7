/-! WHAT INT OPERATIONS GIVE, by bounds. A result: a value by symbols, or bounds of a new symbol (and a symbol that it isn't above). -/
abbrev SR : Type := SE ⊕ (SI × Nat × Int)
abbrev sfull : SI := (-2147483648, 2147483647)
def sin32 (q : SI) : Bool := decide (-2147483648 ≤ q.1) && decide (q.2 ≤ 2147483647)
def snq (q : SI) : SR := bif sin32 q then .inr (q, 0, 0) else .inr (sfull, 0, 0)
def smin (a b : Int) : Int := bif decide (a ≤ b) then a else b
def smax (a b : Int) : Int := bif decide (a ≤ b) then b else a
theorem smin_l (a b : Int) : smin a b ≤ a := by
  unfold smin
  cases h : decide (a ≤ b) with
  | true => exact Int.le_refl _
  | false => have := of_decide_eq_false h; show b ≤ a; omega
theorem smin_r (a b : Int) : smin a b ≤ b := by
  unfold smin
  cases h : decide (a ≤ b) with
  | true => exact of_decide_eq_true h
  | false => exact Int.le_refl _
theorem smax_l (a b : Int) : a ≤ smax a b := by
  unfold smax
  cases h : decide (a ≤ b) with
  | true => exact of_decide_eq_true h
  | false => exact Int.le_refl _
theorem smax_r (a b : Int) : b ≤ smax a b := by
  unfold smax
  cases h : decide (a ≤ b) with
  | true => exact Int.le_refl _
  | false => have := of_decide_eq_false h; show b ≤ a; omega
/-- what a result must tell of the int v -/
def srok (ρ : Nat → Int) (n : Nat) (v : Int32) : SR → Prop
  | .inl e => e.1 ≤ n ∧ sev ρ e = v.toInt
  | .inr (q, b, c) => (q.1 ≤ v.toInt ∧ v.toInt ≤ q.2) ∧ (∀ s, b = s + 1 → s < n ∧ v.toInt ≤ ρ s + c)
theorem srok_q {ρ : Nat → Int} {n : Nat} {v : Int32} {q : SI} (h : i32r v.toInt → sin32 q = true → q.1 ≤ v.toInt ∧ v.toInt ≤ q.2) : srok ρ n v (snq q) := by
  unfold snq
  cases hq : sin32 q with
  | true => exact ⟨h (i32r_of v) hq, fun s z => by cases z⟩
  | false => exact ⟨i32r_of v, fun s z => by cases z⟩
def sfo (_ _ : SE) : SR := .inr (sfull, 0, 0)
theorem srok_full {ρ : Nat → Int} {n : Nat} {v : Int32} : srok ρ n v (.inr (sfull, 0, 0)) := ⟨i32r_of v, fun s z => by cases z⟩
def sadd (Y : SY) (a b : SE) : SR := bif sin32 ((siv Y a).1 + (siv Y b).1, (siv Y a).2 + (siv Y b).2) then (bif Nat.beq a.1 0 then .inl (b.1, a.2 + b.2) else bif Nat.beq b.1 0 then .inl (a.1, a.2 + b.2) else .inr (((siv Y a).1 + (siv Y b).1, (siv Y a).2 + (siv Y b).2), 0, 0)) else .inr (sfull, 0, 0)
theorem sin32_i {q : SI} {z : Int} (h : sin32 q = true) (h1 : q.1 ≤ z) (h2 : z ≤ q.2) : i32r z := by
  unfold sin32 at h
  rw [Bool.and_eq_true] at h
  have a := of_decide_eq_true h.1
  have b := of_decide_eq_true h.2
  exact ⟨by omega, by omega⟩
theorem sev0 {ρ : Nat → Int} {a : SE} (h : Nat.beq a.1 0 = true) : sev ρ a = a.2 := by
  obtain ⟨s, c⟩ := a
  obtain rfl : s = 0 := Nat.eq_of_beq_eq_true h
  rfl
theorem sev_off {ρ : Nat → Int} {a : SE} {d : Int} : sev ρ (a.1, a.2 + d) = sev ρ a + d := by
  obtain ⟨s, c⟩ := a
  cases s with
  | zero => rfl
  | succ s => show ρ s + (c + d) = ρ s + c + d; omega
theorem i32_add {x y : Int} (hx : i32r x) (hy : i32r y) (h : i32r (x + y)) : (Int32.ofInt x + Int32.ofInt y).toInt = x + y := by
  rw [Int32.toInt_add, i32r_to hx, i32r_to hy]
  exact Int.bmod_eq_of_le (by have := h.1; omega) (by have := h.2; omega)
theorem i32_sub {x y : Int} (hx : i32r x) (hy : i32r y) (h : i32r (x - y)) : (Int32.ofInt x - Int32.ofInt y).toInt = x - y := by
  rw [Int32.toInt_sub, i32r_to hx, i32r_to hy]
  exact Int.bmod_eq_of_le (by have := h.1; omega) (by have := h.2; omega)
theorem i32_mul {x y : Int} (hx : i32r x) (hy : i32r y) (h : i32r (x * y)) : (Int32.ofInt x * Int32.ofInt y).toInt = x * y := by
  rw [Int32.toInt_mul, i32r_to hx, i32r_to hy]
  exact Int.bmod_eq_of_le (by have := h.1; omega) (by have := h.2; omega)
section SOps
variable {ρ : Nat → Int} {Y : SY} {a b : SE}
/-- an operation's results are right -/
def sopk (f : Int32 → Int32 → Int32) (F : SY → SE → SE → SR) : Prop := ∀ (ρ : Nat → Int) (Y : SY) (a b : SE), syok ρ Y → a.1 ≤ Y.length → b.1 ≤ Y.length → i32r (sev ρ a) → i32r (sev ρ b) → srok ρ Y.length (f (Int32.ofInt (sev ρ a)) (Int32.ofInt (sev ρ b))) (F Y a b)
theorem sadd_ok : sopk (fun x y => x + y) sadd := by
  intro ρ Y a b hY ha hb ra rb
  have ia := siv_ok hY ha
  have ib := siv_ok hY hb
  unfold sadd
  cases hq : sin32 ((siv Y a).1 + (siv Y b).1, (siv Y a).2 + (siv Y b).2) with
  | false => exact srok_full
  | true =>
    have hr : i32r (sev ρ a + sev ρ b) := sin32_i hq (by show _ + _ ≤ _; omega) (by show _ ≤ _ + _; omega)
    have he := i32_add ra rb hr
    dsimp only [cond]
    cases h0 : Nat.beq a.1 0 with
    | true =>
      refine ⟨hb, ?_⟩
      try dsimp only
      rw [he, sev0 h0, show a.2 + b.2 = b.2 + a.2 by omega, sev_off]
      omega
    | false =>
      cases h1 : Nat.beq b.1 0 with
      | true =>
        refine ⟨ha, ?_⟩
        try dsimp only
        rw [he, sev0 h1, sev_off]
      | false =>
        refine ⟨?_, fun s z => by cases z⟩
        dsimp only
        rw [he]
        omega
def ssub (Y : SY) (a b : SE) : SR := bif sin32 ((siv Y a).1 - (siv Y b).2, (siv Y a).2 - (siv Y b).1) then (bif Nat.beq b.1 0 then .inl (a.1, a.2 + -b.2) else bif Nat.beq a.1 b.1 then .inl (0, a.2 - b.2) else .inr (((siv Y a).1 - (siv Y b).2, (siv Y a).2 - (siv Y b).1), 0, 0)) else .inr (sfull, 0, 0)
theorem ssub_ok : sopk (fun x y => x - y) ssub := by
  intro ρ Y a b hY ha hb ra rb
  have ia := siv_ok hY ha
  have ib := siv_ok hY hb
  unfold ssub
  cases hq : sin32 ((siv Y a).1 - (siv Y b).2, (siv Y a).2 - (siv Y b).1) with
  | false => exact srok_full
  | true =>
    have hr : i32r (sev ρ a - sev ρ b) := sin32_i hq (by show _ - _ ≤ _; omega) (by show _ ≤ _ - _; omega)
    have he := i32_sub ra rb hr
    dsimp only [cond]
    cases h0 : Nat.beq b.1 0 with
    | true =>
      refine ⟨ha, ?_⟩
      try dsimp only
      rw [he, sev0 h0, sev_off]
      omega
    | false =>
      cases h1 : Nat.beq a.1 b.1 with
      | true =>
        refine ⟨Nat.zero_le _, ?_⟩
        try dsimp only
        rw [he]
        have h1 := Nat.eq_of_beq_eq_true h1
        obtain ⟨s, c⟩ := a
        obtain ⟨t, d⟩ := b
        obtain rfl : s = t := h1
        cases s with
        | zero => rfl
        | succ s => show c - d = ρ s + c - (ρ s + d); omega
      | false =>
        refine ⟨?_, fun s z => by cases z⟩
        dsimp only
        rw [he]
        omega
theorem smul_lo {x y a1 a2 b1 b2 : Int} (h1 : a1 ≤ x) (h2 : x ≤ a2) (h3 : b1 ≤ y) (h4 : y ≤ b2) : smin (smin (a1 * b1) (a1 * b2)) (smin (a2 * b1) (a2 * b2)) ≤ x * y ∧ x * y ≤ smax (smax (a1 * b1) (a1 * b2)) (smax (a2 * b1) (a2 * b2)) := by
  have k1 := smin_l (smin (a1 * b1) (a1 * b2)) (smin (a2 * b1) (a2 * b2))
  have k2 := smin_r (smin (a1 * b1) (a1 * b2)) (smin (a2 * b1) (a2 * b2))
  have k3 := smin_l (a1 * b1) (a1 * b2)
  have k4 := smin_r (a1 * b1) (a1 * b2)
  have k5 := smin_l (a2 * b1) (a2 * b2)
  have k6 := smin_r (a2 * b1) (a2 * b2)
  have m1 := smax_l (smax (a1 * b1) (a1 * b2)) (smax (a2 * b1) (a2 * b2))
  have m2 := smax_r (smax (a1 * b1) (a1 * b2)) (smax (a2 * b1) (a2 * b2))
  have m3 := smax_l (a1 * b1) (a1 * b2)
  have m4 := smax_r (a1 * b1) (a1 * b2)
  have m5 := smax_l (a2 * b1) (a2 * b2)
  have m6 := smax_r (a2 * b1) (a2 * b2)
  have lin : ∀ {u v w z : Int}, u ≤ v → 0 ≤ w → u * w ≤ v * w := fun h hw => Int.mul_le_mul_of_nonneg_right h hw
  have lin2 : ∀ {u v w : Int}, u ≤ v → w ≤ 0 → v * w ≤ u * w := fun h hw => Int.mul_le_mul_of_nonpos_right h hw
  have c1 : ∀ z : Int, smin (a1 * z) (a2 * z) ≤ x * z ∧ x * z ≤ smax (a1 * z) (a2 * z) := fun z => by
    rcases Int.le_total 0 z with hz | hz
    · exact ⟨Int.le_trans (smin_l _ _) (lin (z := 0) h1 hz), Int.le_trans (lin (z := 0) h2 hz) (smax_r _ _)⟩
    · exact ⟨Int.le_trans (smin_r _ _) (lin2 h2 hz), Int.le_trans (lin2 h1 hz) (smax_l _ _)⟩
  have c2 : smin (x * b1) (x * b2) ≤ x * y ∧ x * y ≤ smax (x * b1) (x * b2) := by
    rcases Int.le_total 0 x with hz | hz
    · exact ⟨Int.le_trans (smin_l _ _) (Int.mul_le_mul_of_nonneg_left h3 hz), Int.le_trans (Int.mul_le_mul_of_nonneg_left h4 hz) (smax_r _ _)⟩
    · exact ⟨Int.le_trans (smin_r _ _) (Int.mul_le_mul_of_nonpos_left hz h4), Int.le_trans (Int.mul_le_mul_of_nonpos_left hz h3) (smax_l _ _)⟩
  have d1 := c1 b1
  have d2 := c1 b2
  have f1 : ∀ {p q r : Int}, r ≤ p → r ≤ q → r ≤ smin p q := fun {p q r} h h' => by
    unfold smin
    cases decide (p ≤ q) <;> assumption
  have f2 : ∀ {p q r : Int}, p ≤ r → q ≤ r → smax p q ≤ r := fun {p q r} h h' => by
    unfold smax
    cases decide (p ≤ q) <;> assumption
  refine ⟨Int.le_trans (f1 (Int.le_trans (f1 ?_ ?_) d1.1) (Int.le_trans (f1 ?_ ?_) d2.1)) c2.1, Int.le_trans c2.2 (f2 (Int.le_trans d1.2 (f2 ?_ ?_)) (Int.le_trans d2.2 (f2 ?_ ?_)))⟩ <;> omega
def smul (Y : SY) (a b : SE) : SR := snq (smin (smin ((siv Y a).1 * (siv Y b).1) ((siv Y a).1 * (siv Y b).2)) (smin ((siv Y a).2 * (siv Y b).1) ((siv Y a).2 * (siv Y b).2)), smax (smax ((siv Y a).1 * (siv Y b).1) ((siv Y a).1 * (siv Y b).2)) (smax ((siv Y a).2 * (siv Y b).1) ((siv Y a).2 * (siv Y b).2)))
theorem smul_ok : sopk (fun x y => x * y) smul := by
  intro ρ Y a b hY ha hb ra rb
  have ia := siv_ok hY ha
  have ib := siv_ok hY hb
  have hm := smul_lo ia.1 ia.2 ib.1 ib.2
  refine srok_q fun _ hq => ?_
  have hr : i32r (sev ρ a * sev ρ b) := sin32_i hq hm.1 hm.2
  dsimp only
  rw [i32_mul ra rb hr]
  exact hm
end SOps
