/-! THE SYMBOLIC STEP. -/
/-- a value narrowed to bounds; none: it can't be -/
def srf (Y : SY) (e : SE) (q : SI) : Option SY := match e with
  | (0, c) => bif decide (q.1 ≤ c) && decide (c ≤ q.2) then some Y else none
  | (s + 1, c) => match Y[s]? with
    | some w => bif decide (smax w.1.1 (q.1 - c) ≤ smin w.1.2 (q.2 - c)) then some (Y.set s ((smax w.1.1 (q.1 - c), smin w.1.2 (q.2 - c)), w.2)) else none
    | none => some Y
abbrev sinf : Int := 1099511627776
theorem srf_len {Y Y' : SY} {e : SE} {q : SI} (h : srf Y e q = some Y') : Y'.length = Y.length := by
  unfold srf at h
  split at h
  · rename_i c
    cases hc : (decide (q.1 ≤ c) && decide (c ≤ q.2)) with
    | true => rw [hc] at h; exact congrArg List.length (Option.some.inj h).symm
    | false => rw [hc] at h; cases h
  · rename_i s c
    split at h
    · rename_i w hw
      cases hc : decide (smax w.1.1 (q.1 - c) ≤ smin w.1.2 (q.2 - c)) with
      | true => rw [hc] at h; rw [← Option.some.inj h]; exact List.length_set
      | false => rw [hc] at h; cases h
    · exact congrArg List.length (Option.some.inj h).symm
theorem srf_ok {ρ : Nat → Int} {Y : SY} (hY : syok ρ Y) {e : SE} {q : SI} (hq : q.1 ≤ sev ρ e ∧ sev ρ e ≤ q.2) : ∃ Y', srf Y e q = some Y' ∧ syok ρ Y' := by
  have gmin : ∀ {p q r : Int}, r ≤ p → r ≤ q → r ≤ smin p q := fun {p q r} h h' => by
    unfold smin
    cases decide (p ≤ q) <;> assumption
  have gmax : ∀ {p q r : Int}, p ≤ r → q ≤ r → smax p q ≤ r := fun {p q r} h h' => by
    unfold smax
    cases decide (p ≤ q) <;> assumption
  unfold srf
  split
  · rename_i c
    have hq : q.1 ≤ c ∧ c ≤ q.2 := hq
    rw [decide_eq_true hq.1, decide_eq_true hq.2]
    exact ⟨Y, rfl, hY⟩
  · rename_i s c
    have hq : q.1 ≤ ρ s + c ∧ ρ s + c ≤ q.2 := hq
    split
    · rename_i w hw
      have h1 := hY s w hw
      have b1 : smax w.1.1 (q.1 - c) ≤ ρ s := gmax h1.1.1 (by omega)
      have b2 : ρ s ≤ smin w.1.2 (q.2 - c) := gmin h1.1.2 (by omega)
      rw [decide_eq_true (Int.le_trans b1 b2)]
      refine ⟨_, rfl, fun t z hz => ?_⟩
      by_cases ht : t = s
      · subst ht
        have hl : t < Y.length := (List.getElem?_eq_some_iff.mp hw).1
        rw [List.getElem?_set_self hl] at hz
        obtain rfl := Option.some.inj hz
        exact ⟨⟨b1, b2⟩, h1.2⟩
      · rw [List.getElem?_set_ne (Ne.symm ht)] at hz
        exact hY t z hz
    · exact ⟨Y, rfl, hY⟩
/-- where a comparison holds -/
def srf3 (c : ClassFile.Cond) (Y : SY) (a b : SE) : Option SY := match c with
  | .eq => (srf Y a (siv Y b)).bind fun Y1 => srf Y1 b (siv Y a)
  | .ne => bif decide ((siv Y b).1 = (siv Y b).2) then (bif decide ((siv Y a).1 = (siv Y b).1) then srf Y a ((siv Y b).1 + 1, sinf) else bif decide ((siv Y a).2 = (siv Y b).1) then srf Y a (-sinf, (siv Y b).1 - 1) else some Y) else bif decide ((siv Y a).1 = (siv Y a).2) then (bif decide ((siv Y b).1 = (siv Y a).1) then srf Y b ((siv Y a).1 + 1, sinf) else bif decide ((siv Y b).2 = (siv Y a).1) then srf Y b (-sinf, (siv Y a).1 - 1) else some Y) else some Y
  | .lt => (srf Y a (-sinf, (siv Y b).2 - 1)).bind fun Y1 => srf Y1 b ((siv Y a).1 + 1, sinf)
  | .ge => (srf Y a ((siv Y b).1, sinf)).bind fun Y1 => srf Y1 b (-sinf, (siv Y a).2)
  | .gt => (srf Y a ((siv Y b).1 + 1, sinf)).bind fun Y1 => srf Y1 b (-sinf, (siv Y a).2 - 1)
  | .le => (srf Y a (-sinf, (siv Y b).2)).bind fun Y1 => srf Y1 b ((siv Y a).1, sinf)
def scnd (c : ClassFile.Cond) (a b : Int) : Prop := match c with
  | .eq => a = b
  | .ne => a ≠ b
  | .lt => a < b
  | .ge => b ≤ a
  | .gt => b < a
  | .le => a ≤ b
def sneg (c : ClassFile.Cond) : ClassFile.Cond := match c with
  | .eq => .ne
  | .ne => .eq
  | .lt => .ge
  | .ge => .lt
  | .gt => .le
  | .le => .gt
theorem scnd_neg {c : ClassFile.Cond} {a b : Int} : scnd (sneg c) a b ↔ ¬ scnd c a b := by
  cases c <;> simp [scnd, sneg] <;> omega
theorem srf_bind {ρ : Nat → Int} {Y : SY} (hY : syok ρ Y) {a b : SE} {q w : SI} (h1 : q.1 ≤ sev ρ a ∧ sev ρ a ≤ q.2) (h2 : w.1 ≤ sev ρ b ∧ sev ρ b ≤ w.2) : ∃ Y', ((srf Y a q).bind fun Y1 => srf Y1 b w) = some Y' ∧ syok ρ Y' := by
  obtain ⟨Y1, e1, k1⟩ := srf_ok hY h1
  obtain ⟨Y2, e2, k2⟩ := srf_ok k1 h2
  exact ⟨Y2, by rw [e1]; exact e2, k2⟩
theorem srf_bindl {Y Y' : SY} {a b : SE} {q w : SI} (h : ((srf Y a q).bind fun Y1 => srf Y1 b w) = some Y') : Y'.length = Y.length := by
  cases h1 : srf Y a q with
  | none => rw [h1] at h; cases h
  | some Y1 =>
    rw [h1] at h
    exact (srf_len (show srf Y1 b w = some Y' from h)).trans (srf_len h1)
theorem srf3_ok {ρ : Nat → Int} {Y : SY} (hY : syok ρ Y) {c : ClassFile.Cond} {a b : SE} (ha : a.1 ≤ Y.length) (hb : b.1 ≤ Y.length) (ra : i32r (sev ρ a)) (rb : i32r (sev ρ b)) (hc : scnd c (sev ρ a) (sev ρ b)) : ∃ Y', srf3 c Y a b = some Y' ∧ syok ρ Y' := by
  have ia := siv_ok hY ha
  have ib := siv_ok hY hb
  have ra1 := ra.1
  have ra2 := ra.2
  have rb1 := rb.1
  have rb2 := rb.2
  have hi : sinf = 1099511627776 := rfl
  cases c with
  | eq =>
    have hc : sev ρ a = sev ρ b := hc
    exact srf_bind hY (by rw [hc]; exact ib) (by rw [← hc]; exact ia)
  | lt =>
    have hc : sev ρ a < sev ρ b := hc
    exact srf_bind hY ⟨by show -sinf ≤ _; omega, by show _ ≤ _ - 1; omega⟩ ⟨by show _ + 1 ≤ _; omega, by show _ ≤ sinf; omega⟩
  | ge =>
    have hc : sev ρ b ≤ sev ρ a := hc
    exact srf_bind hY ⟨by show (siv Y b).1 ≤ _; omega, by show _ ≤ sinf; omega⟩ ⟨by show -sinf ≤ _; omega, by show _ ≤ (siv Y a).2; omega⟩
  | gt =>
    have hc : sev ρ b < sev ρ a := hc
    exact srf_bind hY ⟨by show (siv Y b).1 + 1 ≤ _; omega, by show _ ≤ sinf; omega⟩ ⟨by show -sinf ≤ _; omega, by show _ ≤ (siv Y a).2 - 1; omega⟩
  | le =>
    have hc : sev ρ a ≤ sev ρ b := hc
    exact srf_bind hY ⟨by show -sinf ≤ _; omega, by show _ ≤ (siv Y b).2; omega⟩ ⟨by show (siv Y a).1 ≤ _; omega, by show _ ≤ sinf; omega⟩
  | ne =>
    have hc : sev ρ a ≠ sev ρ b := hc
    unfold srf3
    dsimp only
    by_cases h1 : (siv Y b).1 = (siv Y b).2
    · rw [decide_eq_true h1]
      dsimp only [cond]
      by_cases h2 : (siv Y a).1 = (siv Y b).1
      · rw [decide_eq_true h2]
        exact srf_ok hY ⟨by show (siv Y b).1 + 1 ≤ _; omega, by show _ ≤ sinf; omega⟩
      · rw [decide_eq_false h2]
        dsimp only
        by_cases h3 : (siv Y a).2 = (siv Y b).1
        · rw [decide_eq_true h3]
          exact srf_ok hY ⟨by show -sinf ≤ _; omega, by show _ ≤ (siv Y b).1 - 1; omega⟩
        · rw [decide_eq_false h3]
          exact ⟨Y, rfl, hY⟩
    · rw [decide_eq_false h1]
      dsimp only [cond]
      by_cases h4 : (siv Y a).1 = (siv Y a).2
      · rw [decide_eq_true h4]
        dsimp only
        by_cases h2 : (siv Y b).1 = (siv Y a).1
        · rw [decide_eq_true h2]
          exact srf_ok hY ⟨by show (siv Y a).1 + 1 ≤ _; omega, by show _ ≤ sinf; omega⟩
        · rw [decide_eq_false h2]
          dsimp only
          by_cases h3 : (siv Y b).2 = (siv Y a).1
          · rw [decide_eq_true h3]
            exact srf_ok hY ⟨by show -sinf ≤ _; omega, by show _ ≤ (siv Y a).1 - 1; omega⟩
          · rw [decide_eq_false h3]
            exact ⟨Y, rfl, hY⟩
      · rw [decide_eq_false h4]
        exact ⟨Y, rfl, hY⟩
theorem srf3_len {Y Y' : SY} {c : ClassFile.Cond} {a b : SE} (h : srf3 c Y a b = some Y') : Y'.length = Y.length := by
  cases c with
  | eq => exact srf_bindl h
  | lt => exact srf_bindl h
  | ge => exact srf_bindl h
  | gt => exact srf_bindl h
  | le => exact srf_bindl h
  | ne =>
    unfold srf3 at h
    dsimp only at h
    cases h1 : decide ((siv Y b).1 = (siv Y b).2) with
    | true =>
      rw [h1] at h
      dsimp only [cond] at h
      cases h2 : decide ((siv Y a).1 = (siv Y b).1) with
      | true => rw [h2] at h; exact srf_len h
      | false =>
        rw [h2] at h
        dsimp only at h
        cases h3 : decide ((siv Y a).2 = (siv Y b).1) with
        | true => rw [h3] at h; exact srf_len h
        | false => rw [h3] at h; exact congrArg List.length (Option.some.inj h).symm
    | false =>
      rw [h1] at h
      dsimp only [cond] at h
      cases h4 : decide ((siv Y a).1 = (siv Y a).2) with
      | true =>
        rw [h4] at h
        dsimp only at h
        cases h2 : decide ((siv Y b).1 = (siv Y a).1) with
        | true => rw [h2] at h; exact srf_len h
        | false =>
          rw [h2] at h
          dsimp only at h
          cases h3 : decide ((siv Y b).2 = (siv Y a).1) with
          | true => rw [h3] at h; exact srf_len h
          | false => rw [h3] at h; exact congrArg List.length (Option.some.inj h).symm
      | false => rw [h4] at h; exact congrArg List.length (Option.some.inj h).symm
/-- the same symbol on both sides: the offsets decide -/
def scnb (c : ClassFile.Cond) (a b : Int) : Bool := match c with
  | .eq => decide (a = b)
  | .ne => !decide (a = b)
  | .lt => decide (a < b)
  | .ge => decide (b ≤ a)
  | .gt => decide (b < a)
  | .le => decide (a ≤ b)
theorem scnb_ok {c : ClassFile.Cond} {a b : Int} (h : scnd c a b) : scnb c a b = true := by
  cases c <;> simp [scnb, scnd] at h ⊢ <;> omega
def srf2 (c : ClassFile.Cond) (Y : SY) (a b : SE) : Option SY := bif Nat.beq a.1 b.1 then (bif scnb c a.2 b.2 then some Y else none) else srf3 c Y a b
theorem srf2_ok {ρ : Nat → Int} {Y : SY} (hY : syok ρ Y) {c : ClassFile.Cond} {a b : SE} (ha : a.1 ≤ Y.length) (hb : b.1 ≤ Y.length) (ra : i32r (sev ρ a)) (rb : i32r (sev ρ b)) (hc : scnd c (sev ρ a) (sev ρ b)) : ∃ Y', srf2 c Y a b = some Y' ∧ syok ρ Y' := by
  unfold srf2
  cases he : Nat.beq a.1 b.1 with
  | false => exact srf3_ok hY ha hb ra rb hc
  | true =>
    have he := Nat.eq_of_beq_eq_true he
    obtain ⟨s, x⟩ := a
    obtain ⟨t, y⟩ := b
    obtain rfl : s = t := he
    have hk : scnd c x y := by
      cases s with
      | zero => exact hc
      | succ s =>
        have hc : scnd c (ρ s + x) (ρ s + y) := hc
        cases c <;> simp [scnd] at hc ⊢ <;> omega
    dsimp only [cond]
    rw [scnb_ok hk]
    exact ⟨Y, rfl, hY⟩
theorem srf2_len {Y Y' : SY} {c : ClassFile.Cond} {a b : SE} (h : srf2 c Y a b = some Y') : Y'.length = Y.length := by
  unfold srf2 at h
  cases he : Nat.beq a.1 b.1 with
  | false => rw [he] at h; exact srf3_len h
  | true =>
    rw [he] at h
    dsimp only [cond] at h
    cases hs : scnb c a.2 b.2 with
    | false => rw [hs] at h; cases h
    | true => rw [hs] at h; exact congrArg List.length (Option.some.inj h).symm
