/-! QUOTIENTS by a constant, rests; a long out of an int that isn't 0. -/
section SQuot
variable {T : ST} {nn uu nx : Nat}
def sdq (Y : SY) (a b : SE) : SR := bif decide ((siv Y b).1 = (siv Y b).2) && decide (1 ≤ (siv Y b).1) then .inr (((siv Y a).1.tdiv (siv Y b).1, (siv Y a).2.tdiv (siv Y b).1), 0, 0) else sdv Y a b
theorem i32_div {x y : Int} (hx : i32r x) (hy : i32r y) (h1 : 1 ≤ y) : (Int32.ofInt x / Int32.ofInt y).toInt = x.tdiv y ∧ i32r (x.tdiv y) := by
  have hr : i32r (x.tdiv y) := by
    have k1 := hx.1
    have k2 := hx.2
    rcases Int.le_total 0 x with h0 | h0
    · have q0 : 0 ≤ x.tdiv y := Int.tdiv_nonneg h0 (by omega)
      have q1 : x.tdiv y ≤ x := Int.tdiv_le_self y h0
      exact ⟨by omega, by omega⟩
    · have q0 : 0 ≤ (-x).tdiv y := Int.tdiv_nonneg (by omega) (by omega)
      have q1 : (-x).tdiv y ≤ -x := Int.tdiv_le_self y (by omega)
      rw [Int.neg_tdiv] at q0 q1
      exact ⟨by omega, by omega⟩
  refine ⟨?_, hr⟩
  rw [Int32.toInt_div, i32r_to hx, i32r_to hy]
  exact Int.bmod_eq_of_le (by have := hr.1; omega) (by have := hr.2; omega)
theorem sdq_ok : sopk (fun x y => x / y) sdq := by
  intro ρ Y a b hY ha hb ra rb
  have ia := siv_ok hY ha
  have ib := siv_ok hY hb
  unfold sdq
  cases h1 : (decide ((siv Y b).1 = (siv Y b).2) && decide (1 ≤ (siv Y b).1)) with
  | false => exact sdv_ok ρ Y a b hY ha hb ra rb
  | true =>
    simp only [Bool.and_eq_true, decide_eq_true_eq] at h1
    have eb : sev ρ b = (siv Y b).1 := by omega
    have e := (i32_div ra rb (by omega)).1
    refine ⟨?_, fun s z => by cases z⟩
    show (siv Y a).1.tdiv (siv Y b).1 ≤ (Int32.ofInt (sev ρ a) / Int32.ofInt (sev ρ b)).toInt ∧ (Int32.ofInt (sev ρ a) / Int32.ofInt (sev ρ b)).toInt ≤ (siv Y a).2.tdiv (siv Y b).1
    rw [e, ← eb]
    exact ⟨Int.tdiv_le_tdiv (by omega) ia.1, Int.tdiv_le_tdiv (by omega) ia.2⟩
def srm (Y : SY) (a b : SE) : SR := bif decide (0 ≤ (siv Y a).1) && decide (1 ≤ (siv Y b).1) then .inr ((0, smin (siv Y a).2 ((siv Y b).2 - 1)), 0, 0) else senum (fun a b => a - a / b * b) Y a b
theorem srm_ok : sopk (fun x y => x - x / y * y) srm := by
  intro ρ Y a b hY ha hb ra rb
  have ia := siv_ok hY ha
  have ib := siv_ok hY hb
  unfold srm
  cases h1 : (decide (0 ≤ (siv Y a).1) && decide (1 ≤ (siv Y b).1)) with
  | false => exact senum_ok ρ Y a b hY ha hb ra rb
  | true =>
    simp only [Bool.and_eq_true, decide_eq_true_eq] at h1
    obtain ⟨e1, e2⟩ := i32_div ra rb (by omega)
    have n0 : 0 ≤ (sev ρ a).tmod (sev ρ b) := Int.tmod_nonneg _ (by omega)
    have n1 : (sev ρ a).tmod (sev ρ b) < sev ρ b := Int.tmod_lt_of_pos _ (by omega)
    have n2 := Int.mul_tdiv_add_tmod (sev ρ a) (sev ρ b)
    have q0 : 0 ≤ (sev ρ a).tdiv (sev ρ b) := Int.tdiv_nonneg (by omega) (by omega)
    have q2 : 0 ≤ sev ρ b * (sev ρ a).tdiv (sev ρ b) := Int.mul_nonneg (by omega) q0
    have a2 := ra.2
    have e3 : (Int32.ofInt (sev ρ a) / Int32.ofInt (sev ρ b) * Int32.ofInt (sev ρ b)).toInt = sev ρ b * (sev ρ a).tdiv (sev ρ b) := by
      rw [Int32.toInt_mul, e1, i32r_to rb, Int.mul_comm]
      exact Int.bmod_eq_of_le (by omega) (by omega)
    have e4 : (Int32.ofInt (sev ρ a) - Int32.ofInt (sev ρ a) / Int32.ofInt (sev ρ b) * Int32.ofInt (sev ρ b)).toInt = (sev ρ a).tmod (sev ρ b) := by
      rw [Int32.toInt_sub, e3, i32r_to ra, show sev ρ a - sev ρ b * (sev ρ a).tdiv (sev ρ b) = (sev ρ a).tmod (sev ρ b) by omega]
      exact Int.bmod_eq_of_le (by omega) (by omega)
    refine ⟨?_, fun s z => by cases z⟩
    show (0 : Int) ≤ (Int32.ofInt (sev ρ a) - Int32.ofInt (sev ρ a) / Int32.ofInt (sev ρ b) * Int32.ofInt (sev ρ b)).toInt ∧ (Int32.ofInt (sev ρ a) - Int32.ofInt (sev ρ a) / Int32.ofInt (sev ρ b) * Int32.ofInt (sev ρ b)).toInt ≤ smin (siv Y a).2 ((siv Y b).2 - 1)
    rw [e4]
    refine ⟨n0, ?_⟩
    unfold smin
    cases decide ((siv Y a).2 ≤ (siv Y b).2 - 1) with
    | true => show _ ≤ (siv Y a).2; omega
    | false => show _ ≤ (siv Y b).2 - 1; omega
def sd_i2m (nx : Nat) : SD
  | (Y, F, L, .inl (.inl a) :: st, H) => some [(nx, (Y, F ++ [bif decide (0 < (siv Y a).1) || decide ((siv Y a).2 < 0) then 1 else 0], L, slong F.length :: st, H))]
  | _ => none
theorem so_i2m : sgo T nn uu (sd_i2m nx) (xd_i2l nx) := by
  intro ρ τ A L st h S hs hd
  match A, hs, hd with
  | (Y, F, LA, .inl (.inl a) :: sA, H), hs, hd =>
    obtain rfl := Option.some.inj hd
    obtain ⟨s1, rfl, oa, h1⟩ := sst_pop hs
    have ia : (siv Y a).1 ≤ sev ρ a ∧ sev ρ a ≤ (siv Y a).2 := siv_ok h1.1 oa.1
    refine ⟨[], (nx, L, xl (Int32.ofInt (sev ρ a)).toInt64 :: s1, h, [], True), rfl, trivial, sto_newL ⟨rfl, rfl⟩ h1 ?_⟩
    cases hc : (decide (0 < (siv Y a).1) || decide ((siv Y a).2 < 0)) with
    | false => exact ⟨(fun z => by cases z), (fun z => by cases z)⟩
    | true =>
      refine ⟨fun _ z => ?_, (fun z => by cases z)⟩
      have z := congrArg Int64.toInt z
      rw [Int32.toInt_toInt64, i32r_to oa.2] at z
      have e0 : (0 : Int64).toInt = 0 := rfl
      rw [Bool.or_eq_true] at hc
      rcases hc with hc | hc
      · have := of_decide_eq_true hc; omega
      · have := of_decide_eq_true hc; omega
end SQuot
