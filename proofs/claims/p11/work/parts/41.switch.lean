/-! THE LIBRARY'S MIN, MAX, ABS; SWITCHES. -/
section SSwitch
variable {T : ST} {nn uu nx fr lo : Nat}
/-- room for a library call over the stack behind n values -/
def sd_guard (n fr lo : Nat) (D : SD) : SD := fun A => bif Nat.blt 0 fr && Nat.ble (sxw (A.2.2.2.1.drop n) + 15) lo then D A else none
theorem so_guard {n : Nat} {D : SD} {X X' : SX} (hD : sgo T nn uu D X') (hX : ∀ L st h o acc r, (Nat.blt 0 fr && Nat.ble (xw (st.drop n) + 15) lo) = true → X' L st h o acc = some r → X L st h o acc = some r) : sgo T nn uu (sd_guard n fr lo D) X := by
  intro ρ τ A L st h S hs hd
  unfold sd_guard at hd
  cases hg : (Nat.blt 0 fr && Nat.ble (sxw (A.2.2.2.1.drop n) + 15) lo) with
  | false => rw [hg] at hd; cases hd
  | true =>
    rw [hg] at hd
    obtain ⟨o, r, h1, h2, h3⟩ := hD ρ τ A L st h S hs hd
    refine ⟨o, r, hX L st h o True r ?_ h1, h2, h3⟩
    rw [show st = A.2.2.2.1.map (scz ρ τ) from hs.2.2.2.2.1, ← List.map_drop, sxw_ok]
    exact hg
def xbn (f : Int32 → Int32 → Int32) (nx : Nat) : SX := fun L st h o acc => match st with
  | .inl (.inl b) :: .inl (.inl a) :: st => some (nx, L, .inl (.inl (f a b)) :: st, h, o, acc)
  | _ => none
def xun1 (f : Int32 → Int32) (nx : Nat) : SX := fun L st h o acc => match st with
  | .inl (.inl a) :: st => some (nx, L, .inl (.inl (f a)) :: st, h, o, acc)
  | _ => none
def xln1 (f : Int64 → Int64) (nx : Nat) : SX := fun L st h o acc => match st with
  | .inl (.inr a) :: st => some (nx, L, .inl (.inr (f a)) :: st, h, o, acc)
  | _ => none
def xln2 (f : Int64 → Int64 → Int64) (nx : Nat) : SX := fun L st h o acc => match st with
  | .inl (.inr b) :: .inl (.inr a) :: st => some (nx, L, .inl (.inr (f a b)) :: st, h, o, acc)
  | _ => none
def smn (Y : SY) (a b : SE) : SR := snq (smin (siv Y a).1 (siv Y b).1, smin (siv Y a).2 (siv Y b).2)
def smx (Y : SY) (a b : SE) : SR := snq (smax (siv Y a).1 (siv Y b).1, smax (siv Y a).2 (siv Y b).2)
theorem smn_ok : sopk (fun a b => if b < a then b else a) smn := by
  intro ρ Y a b hY ha hb ra rb
  have ia := siv_ok hY ha
  have ib := siv_ok hY hb
  have e1 := smin_l (siv Y a).1 (siv Y b).1
  have e2 := smin_r (siv Y a).1 (siv Y b).1
  have gmin : ∀ {p q r : Int}, r ≤ p → r ≤ q → r ≤ smin p q := fun {p q r} h h' => by
    unfold smin
    cases decide (p ≤ q) <;> assumption
  refine srok_q fun _ _ => ?_
  show smin (siv Y a).1 (siv Y b).1 ≤ (if Int32.ofInt (sev ρ b) < Int32.ofInt (sev ρ a) then Int32.ofInt (sev ρ b) else Int32.ofInt (sev ρ a)).toInt ∧ (if Int32.ofInt (sev ρ b) < Int32.ofInt (sev ρ a) then Int32.ofInt (sev ρ b) else Int32.ofInt (sev ρ a)).toInt ≤ smin (siv Y a).2 (siv Y b).2
  by_cases hc : Int32.ofInt (sev ρ b) < Int32.ofInt (sev ρ a)
  · rw [if_pos hc, i32r_to rb]
    have hc := Int32.lt_iff_toInt_lt.mp hc
    rw [i32r_to ra, i32r_to rb] at hc
    exact ⟨by omega, gmin (by omega) (by omega)⟩
  · rw [if_neg hc, i32r_to ra]
    have hc : ¬ (Int32.ofInt (sev ρ b)).toInt < (Int32.ofInt (sev ρ a)).toInt := fun z => hc (Int32.lt_iff_toInt_lt.mpr z)
    rw [i32r_to ra, i32r_to rb] at hc
    exact ⟨by omega, gmin (by omega) (by omega)⟩
theorem smx_ok : sopk (fun a b => if a < b then b else a) smx := by
  intro ρ Y a b hY ha hb ra rb
  have ia := siv_ok hY ha
  have ib := siv_ok hY hb
  have e1 := smax_l (siv Y a).2 (siv Y b).2
  have e2 := smax_r (siv Y a).2 (siv Y b).2
  have gmax : ∀ {p q r : Int}, p ≤ r → q ≤ r → smax p q ≤ r := fun {p q r} h h' => by
    unfold smax
    cases decide (p ≤ q) <;> assumption
  refine srok_q fun _ _ => ?_
  show smax (siv Y a).1 (siv Y b).1 ≤ (if Int32.ofInt (sev ρ a) < Int32.ofInt (sev ρ b) then Int32.ofInt (sev ρ b) else Int32.ofInt (sev ρ a)).toInt ∧ (if Int32.ofInt (sev ρ a) < Int32.ofInt (sev ρ b) then Int32.ofInt (sev ρ b) else Int32.ofInt (sev ρ a)).toInt ≤ smax (siv Y a).2 (siv Y b).2
  by_cases hc : Int32.ofInt (sev ρ a) < Int32.ofInt (sev ρ b)
  · rw [if_pos hc, i32r_to rb]
    have hc := Int32.lt_iff_toInt_lt.mp hc
    rw [i32r_to ra, i32r_to rb] at hc
    exact ⟨gmax (by omega) (by omega), by omega⟩
  · rw [if_neg hc, i32r_to ra]
    have hc : ¬ (Int32.ofInt (sev ρ a)).toInt < (Int32.ofInt (sev ρ b)).toInt := fun z => hc (Int32.lt_iff_toInt_lt.mpr z)
    rw [i32r_to ra, i32r_to rb] at hc
    exact ⟨gmax (by omega) (by omega), by omega⟩
def sab (Y : SY) (a : SE) : SR := bif decide (0 ≤ (siv Y a).1) then .inl a else snq (0, smax (siv Y a).2 (-(siv Y a).1))
theorem sab_ok : sopu (fun a => if 0 ≤ a then a else 0 - a) sab := by
  intro ρ Y a hY ha ra
  have ia := siv_ok hY ha
  have e1 := smax_l (siv Y a).2 (-(siv Y a).1)
  have e2 := smax_r (siv Y a).2 (-(siv Y a).1)
  have hle : ((0 : Int32) ≤ Int32.ofInt (sev ρ a)) ↔ 0 ≤ sev ρ a := by
    rw [Int32.le_iff_toInt_le, i32r_to ra]
    exact Iff.rfl
  unfold sab
  cases h0 : decide (0 ≤ (siv Y a).1) with
  | true =>
    have h0 := of_decide_eq_true h0
    refine ⟨ha, ?_⟩
    show sev ρ a = (if 0 ≤ Int32.ofInt (sev ρ a) then Int32.ofInt (sev ρ a) else 0 - Int32.ofInt (sev ρ a)).toInt
    rw [if_pos (hle.mpr (by omega)), i32r_to ra]
  | false =>
    refine srok_q fun _ hq => ?_
    show (0 : Int) ≤ (if 0 ≤ Int32.ofInt (sev ρ a) then Int32.ofInt (sev ρ a) else 0 - Int32.ofInt (sev ρ a)).toInt ∧ (if 0 ≤ Int32.ofInt (sev ρ a) then Int32.ofInt (sev ρ a) else 0 - Int32.ofInt (sev ρ a)).toInt ≤ smax (siv Y a).2 (-(siv Y a).1)
    by_cases hc : 0 ≤ sev ρ a
    · rw [if_pos (hle.mpr hc), i32r_to ra]
      omega
    · rw [if_neg (fun z => hc (hle.mp z))]
      have hr : i32r (0 - sev ρ a) := sin32_i hq (by show (0 : Int) ≤ _; omega) (by show _ ≤ smax (siv Y a).2 (-(siv Y a).1); omega)
      have e := i32_sub (x := 0) ⟨by omega, by omega⟩ ra hr
      have e0 : Int32.ofInt 0 = 0 := rfl
      rw [e0] at e
      rw [e]
      omega
def sd_math (t fr lo nx : Nat) : SD := match t with
  | 0 => sd_guard 2 fr lo (sd_bin (fun a b => if b < a then b else a) smn nx)
  | 1 => sd_guard 2 fr lo (sd_bin (fun a b => if a < b then b else a) smx nx)
  | 2 => sd_guard 1 fr lo (sd_un (fun a => if 0 ≤ a then a else 0 - a) sab nx)
  | 3 => sd_guard 1 fr lo (sd_l1 nx)
  | 4 => sd_guard 2 fr lo (sd_l2 nx)
  | _ => fun _ => none
theorem so_math {t : Nat} : sgo T nn uu (sd_math t fr lo nx) (xd_math fr lo t nx) := by
  match t with
  | 0 =>
    refine so_guard (so_bin smn_ok (X := xbn (fun a b => if b < a then b else a) nx) fun _ _ _ _ _ _ _ => rfl) fun L st h o acc r hg hx => ?_
    match st, hg, hx with
    | .inl (.inl b) :: .inl (.inl a) :: st, hg, hx =>
      show (bif Nat.blt 0 fr && Nat.ble (xw st + 15) lo then _ else none) = _
      rw [show (Nat.blt 0 fr && Nat.ble (xw st + 15) lo) = true from hg]
      exact hx
  | 1 =>
    refine so_guard (so_bin smx_ok (X := xbn (fun a b => if a < b then b else a) nx) fun _ _ _ _ _ _ _ => rfl) fun L st h o acc r hg hx => ?_
    match st, hg, hx with
    | .inl (.inl b) :: .inl (.inl a) :: st, hg, hx =>
      show (bif Nat.blt 0 fr && Nat.ble (xw st + 15) lo then _ else none) = _
      rw [show (Nat.blt 0 fr && Nat.ble (xw st + 15) lo) = true from hg]
      exact hx
  | 2 =>
    refine so_guard (so_un sab_ok (X := xun1 (fun a => if 0 ≤ a then a else 0 - a) nx) fun _ _ _ _ _ _ => rfl) fun L st h o acc r hg hx => ?_
    match st, hg, hx with
    | .inl (.inl a) :: st, hg, hx =>
      show (bif Nat.blt 0 fr && Nat.ble (xw st + 15) lo then _ else none) = _
      rw [show (Nat.blt 0 fr && Nat.ble (xw st + 15) lo) = true from hg]
      exact hx
  | 3 =>
    refine so_guard (so_l1 (f := fun a => if 0 < a then a else -a) (fun x hx => ?_) (X := xln1 (fun a => if 0 < a then a else -a) nx) fun _ _ _ _ => ⟨True, trivial, rfl⟩) fun L st h o acc r hg hx => ?_
    · show (if 0 < x then x else -x) ≠ 0
      by_cases hc : 0 < x
      · rw [if_pos hc]
        exact hx
      · rw [if_neg hc]
        intro z
        apply hx
        rw [← Int64.neg_neg (a := x), z]
        rfl
    · match st, hg, hx with
      | .inl (.inr a) :: st, hg, hx =>
        show (bif Nat.blt 0 fr && Nat.ble (xw st + 15) lo then _ else none) = _
        rw [show (Nat.blt 0 fr && Nat.ble (xw st + 15) lo) = true from hg]
        exact hx
  | 4 =>
    refine so_guard (so_l2 (f := fun a b => if b < a then a else b) (X := xln2 (fun a b => if b < a then a else b) nx) fun _ _ _ _ _ _ _ => rfl) fun L st h o acc r hg hx => ?_
    match st, hg, hx with
    | .inl (.inr b) :: .inl (.inr a) :: st, hg, hx =>
      show (bif Nat.blt 0 fr && Nat.ble (xw st + 15) lo then _ else none) = _
      rw [show (Nat.blt 0 fr && Nat.ble (xw st + 15) lo) = true from hg]
      exact hx
  | t + 5 => intro ρ τ A L st h S hs hd; cases hd
/-- a switch's ways -/
def sts (Y : SY) (a : SE) (F : List Nat) (L st : List SV) (H : SH) : List Int → Int → List (Nat × SS)
  | [], _ => []
  | t :: l, z => (match srf Y a (z, z) with
    | some Y' => [(t.toNat, (Y', F, L, st, H))]
    | none => []) ++ sts Y a F L st H l (z + 1)
theorem sts_mem {ρ : Nat → Int} {Y : SY} {a : SE} {F : List Nat} {L st : List SV} {H : SH} (hY : syok ρ Y) : ∀ {l : List Int} {z : Int} {k : Nat} {t : Int}, l[k]? = some t → sev ρ a = z + k → ∃ Y', (t.toNat, (Y', F, L, st, H)) ∈ sts Y a F L st H l z ∧ syok ρ Y' ∧ Y'.length = Y.length
  | t :: l, z, 0, _, h, e => by
    obtain rfl := Option.some.inj h
    obtain ⟨Y', e1, k1⟩ := srf_ok hY (e := a) (q := (z, z)) ⟨by show z ≤ _; omega, by show _ ≤ z; omega⟩
    refine ⟨Y', List.mem_append_left _ ?_, k1, srf_len e1⟩
    rw [e1]
    exact List.mem_singleton.mpr rfl
  | t :: l, z, k + 1, t', h, e => by
    obtain ⟨Y', h1, h2⟩ := sts_mem (a := a) (l := l) (z := z + 1) (k := k) (t := t') hY (F := F) (L := L) (st := st) (H := H) h (by omega)
    exact ⟨Y', List.mem_append_right _ h1, h2⟩
def sd_tsw (d lw hi : Int) (ts : Array Int) : SD
  | (Y, F, L, .inl (.inl a) :: st, H) => bif decide (hi = lw + (ts.toList.length : Int) - 1) then some ((bif swi Y a (lw, hi) then [] else [(d.toNat, (Y, F, L, st, H))]) ++ sts Y a F L st H ts.toList lw) else none
  | _ => none
theorem so_tsw {d lw hi : Int} {ts : Array Int} : sgo T nn uu (sd_tsw d lw hi ts) (xd_tsw d lw hi ts nx) := by
  intro ρ τ A L st h S hs hd
  match A, hs, hd with
  | (Y, F, LA, .inl (.inl a) :: sA, H), hs, hd =>
    have hd : (bif decide (hi = lw + (ts.toList.length : Int) - 1) then some ((bif swi Y a (lw, hi) then [] else [(d.toNat, (Y, F, LA, sA, H))]) ++ sts Y a F LA sA H ts.toList lw) else none) = some S := hd
    cases hq : decide (hi = lw + (ts.toList.length : Int) - 1) with
    | false => rw [hq] at hd; cases hd
    | true =>
      rw [hq] at hd
      obtain rfl := Option.some.inj hd
      have hq := of_decide_eq_true hq
      obtain ⟨s1, rfl, oa, h1⟩ := sst_pop hs
      have ea := i32r_to oa.2
      by_cases hr : lw ≤ sev ρ a ∧ sev ρ a ≤ hi
      · have hk : (sev ρ a - lw).toNat < ts.toList.length := by omega
        have hg := List.getElem?_eq_getElem hk
        obtain ⟨Y', m1, m2, m3⟩ := sts_mem (F := F) (L := LA) (st := sA) (H := H) h1.1 (a := a) (z := lw) hg (by omega)
        refine ⟨[(sev ρ a - lw).toNat + 1], ((ts.toList[(sev ρ a - lw).toNat]).toNat, L, s1, h, [], True ∧ ((Int32.ofInt (sev ρ a)).toInt = lw + ((sev ρ a - lw).toNat : Nat) ∧ ¬ hi < lw + ((sev ρ a - lw).toNat : Nat))), ?_, ?_, _, List.mem_append_right _ m1, rfl, ρ, τ, fun _ _ => rfl, fun _ _ => rfl, Nat.le_of_eq m3.symm, sst_nar h1 m2 m3⟩
        · show xtsw d lw hi ts.toList (Int32.ofInt (sev ρ a)) L s1 h [(sev ρ a - lw).toNat + 1] True = _
          unfold xtsw
          dsimp only
          rw [hg]
        · refine ⟨trivial, ?_, ?_⟩
          · rw [ea]
            omega
          · omega
      · refine ⟨[0], (d.toNat, L, s1, h, [], True ∧ ((Int32.ofInt (sev ρ a)).toInt < lw ∨ hi < (Int32.ofInt (sev ρ a)).toInt)), ?_, ?_, (d.toNat, (Y, F, LA, sA, H)), List.mem_append_left _ (by
          cases hw : swi Y a (lw, hi) with
          | true => exact absurd (swi_ok h1.1 oa.1 hw) hr
          | false => exact List.mem_singleton.mpr rfl), rfl, ρ, τ, fun _ _ => rfl, fun _ _ => rfl, Nat.le_refl _, h1⟩
        · rfl
        · refine ⟨trivial, ?_⟩
          rw [ea]
          omega
end SSwitch
