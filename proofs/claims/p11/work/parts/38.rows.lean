/-! THE SYMBOLIC STEPS at the heap, the rest: rows written, lengths, copies; the library's min, max, abs. -/
section SHeap3
variable {T : ST} {nn uu nx : Nat} {ρ : Nat → Int} {τ : Nat → Int64} {Y : SY} {F : List Nat} {L st : List SV} {H : SH} {Lx stx : List XV} {h : XH}
/-- rows that may be written: every element has the row's bounds -/
def stow (T : ST) : Prop := ∀ c, T.2.2.1 c = true → ∀ k, T.1 c k = T.2.1 c
/-- a row's element written -/
theorem swriteR {z : Int32} {e k : Nat} (hw : stow T) (hs : sst T nn uu ρ τ (Y, F, L, st, H) Lx stx h) (hc : T.2.2.1 e = true) (hb : (T.2.1 e).1 ≤ z.toInt ∧ z.toInt ≤ (T.2.1 e).2) : sst T nn uu ρ τ (Y, F, L, st, (sdelc H.1 e, H.2)) Lx stx (xsetI h e k z) := by
  have hh := hs.2.2.2.2.2.2
  refine sst_heap hs ⟨⟨fun c' k' => ?_, hh.1.2⟩, fun w hw' => ?_, hh.2.2⟩
  · by_cases hq : c' = e ∧ k' = k
    · obtain ⟨rfl, rfl⟩ := hq
      rw [yI_same, hw c' hc]
      exact hb
    · rw [yI_ne (eq_false hq)]
      exact hh.1.1 c' k'
  · obtain ⟨h1, h2⟩ := List.mem_filter.mp hw'
    have hne : ¬ w.1 = e := fun z => by
      rw [z, Nat.beq_refl] at h2
      cases h2
    rw [yI_c (eq_false hne)]
    exact hh.2.1 w h1
/-- at a constant place the slot's own bounds are asked for, elsewhere the row's -/
def sd_iastore (T : ST) (nx : Nat) : SD
  | (Y, F, L, .inl (.inl v) :: .inl (.inl i) :: .inr (.inr (kd, e)) :: st, H) => bif xin 10000 kd && swi Y i (0, ((kd - 10000 : Nat) : Int) - 1) then (bif Nat.beq i.1 0 then (bif swi Y v (T.1 e i.2.toNat) then some [(nx, (Y, F, L, st, ((e, i.2.toNat, v) :: sdel H.1 e i.2.toNat, H.2)))] else none) else (bif T.2.2.1 e && swi Y v (T.2.1 e) then some [(nx, (Y, F, L, st, (sdelc H.1 e, H.2)))] else none)) else none
  | _ => none
theorem so_iastore (hw : stow T) : sgo T nn uu (sd_iastore T nx) (xd_iastore nx) := by
  intro ρ τ A L st h S hs hd
  match A, hs, hd with
  | (Y, F, LA, .inl (.inl v) :: .inl (.inl i) :: .inr (.inr (kd, e)) :: sA, H), hs, hd =>
    have hd : (bif xin 10000 kd && swi Y i (0, ((kd - 10000 : Nat) : Int) - 1) then (bif Nat.beq i.1 0 then (bif swi Y v (T.1 e i.2.toNat) then some [(nx, (Y, F, LA, sA, ((e, i.2.toNat, v) :: sdel H.1 e i.2.toNat, H.2)))] else none) else (bif T.2.2.1 e && swi Y v (T.2.1 e) then some [(nx, (Y, F, LA, sA, (sdelc H.1 e, H.2)))] else none)) else none) = some S := hd
    cases hk : (xin 10000 kd && swi Y i (0, ((kd - 10000 : Nat) : Int) - 1)) with
    | false => rw [hk] at hd; cases hd
    | true =>
      rw [hk] at hd
      dsimp only [cond] at hd
      simp only [Bool.and_eq_true] at hk
      obtain ⟨k1, k3⟩ := hk
      obtain ⟨s1, rfl, ov, h1⟩ := sst_pop hs
      obtain ⟨s2, rfl, oi, h2⟩ := sst_pop h1
      obtain ⟨s3, rfl, oe, h3⟩ := sst_pop h2
      obtain ⟨hv, h0⟩ := sidx h3.1 (show i.1 ≤ Y.length ∧ i32r (sev ρ i) from oi) k3
      have hX : xd_iastore nx L (xi (Int32.ofInt (sev ρ v)) :: xi (Int32.ofInt (sev ρ i)) :: .inr (kd, e) :: s3) h [] True = some (nx, L, s3, xsetI h e (Int32.ofInt (sev ρ i)).toNatClampNeg (Int32.ofInt (sev ρ v)), [], True ∧ vp_in (Int32.ofInt (sev ρ i)) (kd - 10000)) := by
        show (bif xin 10000 kd then _ else none) = _
        rw [k1]
        rfl
      refine ⟨[], _, hX, ⟨trivial, hv⟩, ?_⟩
      cases hc : Nat.beq i.1 0 with
      | true =>
        rw [hc] at hd
        dsimp only at hd
        cases k4 : swi Y v (T.1 e i.2.toNat) with
        | false => rw [k4] at hd; cases hd
        | true =>
          rw [k4] at hd
          obtain rfl := Option.some.inj hd
          have hb := swi_ok h3.1 ov.1 k4
          have e1 : (Int32.ofInt (sev ρ i)).toNatClampNeg = i.2.toNat := by
            rw [i32_clamp oi.2 h0, sev0 hc]
          rw [e1]
          exact sto_same (Nat.le_refl _) (swrite h3 ov hb)
      | false =>
        rw [hc] at hd
        dsimp only at hd
        cases k4 : (T.2.2.1 e && swi Y v (T.2.1 e)) with
        | false => rw [k4] at hd; cases hd
        | true =>
          rw [k4] at hd
          obtain rfl := Option.some.inj hd
          rw [Bool.and_eq_true] at k4
          have hb := swi_ok h3.1 ov.1 k4.2
          exact sto_same (Nat.le_refl _) (swriteR hw h3 k4.1 (by rw [i32r_to ov.2]; exact hb))
/-- bytes and booleans: what is written fits as it is -/
def sd_bastore (T : ST) (nx : Nat) : SD
  | (Y, F, L, .inl (.inl v) :: .inl (.inl i) :: .inr (.inr (kd, e)) :: st, H) => bif T.2.2.1 e then (bif xin 20000 kd then (bif swi Y i (0, ((kd - 20000 : Nat) : Int) - 1) && (decide ((T.2.1 e).1 ≤ -128) && decide (127 ≤ (T.2.1 e).2)) then some [(nx, (Y, F, L, st, (sdelc H.1 e, H.2)))] else none) else bif xin 30000 kd && (swi Y i (0, ((kd - 30000 : Nat) : Int) - 1) && (swi Y v (0, 1) && swi Y v (T.2.1 e))) then some [(nx, (Y, F, L, st, (sdelc H.1 e, H.2)))] else none) else none
  | _ => none
theorem i8_bound (v : Int32) : -128 ≤ (v.toInt8.toInt32).toInt ∧ (v.toInt8.toInt32).toInt ≤ 127 := by
  rw [Int8.toInt_toInt32]
  exact ⟨by have := Int8.le_toInt v.toInt8; omega, by have := Int8.toInt_le v.toInt8; have e : Int8.maxValue.toInt = 127 := rfl; omega⟩
theorem so_bastore (hw : stow T) : sgo T nn uu (sd_bastore T nx) (xd_bastore nx) := by
  intro ρ τ A L st h S hs hd
  match A, hs, hd with
  | (Y, F, LA, .inl (.inl v) :: .inl (.inl i) :: .inr (.inr (kd, e)) :: sA, H), hs, hd =>
    have hd : (bif T.2.2.1 e then (bif xin 20000 kd then (bif swi Y i (0, ((kd - 20000 : Nat) : Int) - 1) && (decide ((T.2.1 e).1 ≤ -128) && decide (127 ≤ (T.2.1 e).2)) then some [(nx, (Y, F, LA, sA, (sdelc H.1 e, H.2)))] else none) else bif xin 30000 kd && (swi Y i (0, ((kd - 30000 : Nat) : Int) - 1) && (swi Y v (0, 1) && swi Y v (T.2.1 e))) then some [(nx, (Y, F, LA, sA, (sdelc H.1 e, H.2)))] else none) else none) = some S := hd
    obtain ⟨s1, rfl, ov, h1⟩ := sst_pop hs
    obtain ⟨s2, rfl, oi, h2⟩ := sst_pop h1
    obtain ⟨s3, rfl, oe, h3⟩ := sst_pop h2
    cases k2 : T.2.2.1 e with
    | false => rw [k2] at hd; cases hd
    | true =>
      rw [k2] at hd
      dsimp only [cond] at hd
      cases h20 : xin 20000 kd with
      | true =>
        rw [h20] at hd
        dsimp only at hd
        cases hk : (swi Y i (0, ((kd - 20000 : Nat) : Int) - 1) && (decide ((T.2.1 e).1 ≤ -128) && decide (127 ≤ (T.2.1 e).2))) with
        | false => rw [hk] at hd; cases hd
        | true =>
          rw [hk] at hd
          obtain rfl := Option.some.inj hd
          simp only [Bool.and_eq_true] at hk
          obtain ⟨k3, k4, k5⟩ := hk
          have k4 := of_decide_eq_true k4
          have k5 := of_decide_eq_true k5
          obtain ⟨hv, h0⟩ := sidx h3.1 (show i.1 ≤ Y.length ∧ i32r (sev ρ i) from oi) k3
          have hbd := i8_bound (Int32.ofInt (sev ρ v))
          refine ⟨[], (nx, L, s3, xsetI h e (Int32.ofInt (sev ρ i)).toNatClampNeg (vp_nar .byte (Int32.ofInt (sev ρ v))), [], True ∧ vp_in (Int32.ofInt (sev ρ i)) (kd - 20000)), ?_, ⟨trivial, hv⟩, sto_same (Nat.le_refl _) (swriteR hw h3 k2 ?_)⟩
          · show (bif xin 20000 kd then _ else bif xin 30000 kd then _ else none) = _
            rw [h20]
            rfl
          · show (T.2.1 e).1 ≤ ((Int32.ofInt (sev ρ v)).toInt8.toInt32).toInt ∧ ((Int32.ofInt (sev ρ v)).toInt8.toInt32).toInt ≤ (T.2.1 e).2
            omega
      | false =>
        rw [h20] at hd
        dsimp only at hd
        cases hk : (xin 30000 kd && (swi Y i (0, ((kd - 30000 : Nat) : Int) - 1) && (swi Y v (0, 1) && swi Y v (T.2.1 e)))) with
        | false => rw [hk] at hd; cases hd
        | true =>
          rw [hk] at hd
          obtain rfl := Option.some.inj hd
          simp only [Bool.and_eq_true] at hk
          obtain ⟨k1, k3, k4, k5⟩ := hk
          obtain ⟨hv, h0⟩ := sidx h3.1 (show i.1 ≤ Y.length ∧ i32r (sev ρ i) from oi) k3
          have hz := swi_ok h3.1 ov.1 k4
          have hb := swi_ok h3.1 ov.1 k5
          have hz1 : (0 : Int) ≤ sev ρ v := hz.1
          have hz2 : sev ρ v ≤ 1 := hz.2
          have en : (vp_nar .boolean (Int32.ofInt (sev ρ v))).toInt = sev ρ v := by
            rcases (show sev ρ v = 0 ∨ sev ρ v = 1 by omega) with z | z
            · rw [z]; rfl
            · rw [z]; rfl
          refine ⟨[], (nx, L, s3, xsetI h e (Int32.ofInt (sev ρ i)).toNatClampNeg (vp_nar .boolean (Int32.ofInt (sev ρ v))), [], True ∧ vp_in (Int32.ofInt (sev ρ i)) (kd - 30000)), ?_, ⟨trivial, hv⟩, sto_same (Nat.le_refl _) (swriteR hw h3 k2 (by rw [en]; exact hb))⟩
          show (bif xin 20000 kd then _ else bif xin 30000 kd then _ else none) = _
          rw [h20, k1]
          rfl
def sd_laload (nx : Nat) : SD
  | (Y, F, L, .inl (.inl i) :: .inr (.inr (kd, _)) :: st, H) => bif xin 40000 kd && swi Y i (0, ((kd - 40000 : Nat) : Int) - 1) then some [(nx, (Y, F ++ [0], L, slong F.length :: st, H))] else none
  | _ => none
theorem so_laload : sgo T nn uu (sd_laload nx) (xd_laload nx) := by
  intro ρ τ A L st h S hs hd
  match A, hs, hd with
  | (Y, F, LA, .inl (.inl i) :: .inr (.inr (kd, e)) :: sA, H), hs, hd =>
    have hd : (bif xin 40000 kd && swi Y i (0, ((kd - 40000 : Nat) : Int) - 1) then some [(nx, (Y, F ++ [0], LA, slong F.length :: sA, H))] else none) = some S := hd
    cases hk : (xin 40000 kd && swi Y i (0, ((kd - 40000 : Nat) : Int) - 1)) with
    | false => rw [hk] at hd; cases hd
    | true =>
      rw [hk] at hd
      obtain rfl := Option.some.inj hd
      rw [Bool.and_eq_true] at hk
      obtain ⟨s1, rfl, oi, h1⟩ := sst_pop hs
      obtain ⟨s2, rfl, oe, h2⟩ := sst_pop h1
      obtain ⟨hv, h0⟩ := sidx h2.1 (show i.1 ≤ Y.length ∧ i32r (sev ρ i) from oi) hk.2
      refine ⟨[], (nx, L, xl (xL h e (Int32.ofInt (sev ρ i)).toNatClampNeg) :: s2, h, [], True ∧ vp_in (Int32.ofInt (sev ρ i)) (kd - 40000)), ?_, ⟨trivial, hv⟩, sto_newL ⟨rfl, rfl⟩ h2 ⟨(fun z => by cases z), (fun z => by cases z)⟩⟩
      show (bif xin 40000 kd then _ else none) = _
      rw [hk.1]
      rfl
def sd_lastore (nx : Nat) : SD
  | (Y, F, L, .inr (.inl _) :: .inl (.inl i) :: .inr (.inr (kd, _)) :: st, H) => bif xin 40000 kd && swi Y i (0, ((kd - 40000 : Nat) : Int) - 1) then some [(nx, (Y, F, L, st, H))] else none
  | _ => none
theorem so_lastore : sgo T nn uu (sd_lastore nx) (xd_lastore nx) := by
  intro ρ τ A L st h S hs hd
  match A, hs, hd with
  | (Y, F, LA, .inr (.inl j) :: .inl (.inl i) :: .inr (.inr (kd, e)) :: sA, H), hs, hd =>
    have hd : (bif xin 40000 kd && swi Y i (0, ((kd - 40000 : Nat) : Int) - 1) then some [(nx, (Y, F, LA, sA, H))] else none) = some S := hd
    cases hk : (xin 40000 kd && swi Y i (0, ((kd - 40000 : Nat) : Int) - 1)) with
    | false => rw [hk] at hd; cases hd
    | true =>
      rw [hk] at hd
      obtain rfl := Option.some.inj hd
      rw [Bool.and_eq_true] at hk
      obtain ⟨s1, rfl, ov, h1⟩ := sst_pop hs
      obtain ⟨s2, rfl, oi, h2⟩ := sst_pop h1
      obtain ⟨s3, rfl, oe, h3⟩ := sst_pop h2
      obtain ⟨hv, h0⟩ := sidx h3.1 (show i.1 ≤ Y.length ∧ i32r (sev ρ i) from oi) hk.2
      refine ⟨[], (nx, L, s3, xsetL h e (Int32.ofInt (sev ρ i)).toNatClampNeg (τ j), [], True ∧ vp_in (Int32.ofInt (sev ρ i)) (kd - 40000)), ?_, ⟨trivial, hv⟩, sto_same (Nat.le_refl _) (sst_heap h3 h3.2.2.2.2.2.2)⟩
      show (bif xin 40000 kd then _ else none) = _
      rw [hk.1]
      rfl
/-- a row's length: that of ints, of bytes, of longs -/
def sln (kd : Nat) : Option Nat := bif Nat.beq kd 50 then none else bif xin 10000 kd then some (kd - 10000) else bif xin 20000 kd then some (kd - 20000) else bif xin 40000 kd then some (kd - 40000) else none
def sd_len (nx : Nat) : SD
  | (Y, F, L, .inr (.inr (kd, _)) :: st, H) => match sln kd with
    | some n => bif Nat.blt n 10000 then some [(nx, (Y, F, L, sint (0, (n : Int)) :: st, H))] else none
    | none => none
  | _ => none
theorem so_len : sgo T nn uu (sd_len nx) (xd_len none nx) := by
  intro ρ τ A L st h S hs hd
  match A, hs, hd with
  | (Y, F, LA, .inr (.inr (kd, e)) :: sA, H), hs, hd =>
    have hd : (match sln kd with
      | some n => bif Nat.blt n 10000 then some [(nx, (Y, F, LA, sint (0, (n : Int)) :: sA, H))] else none
      | none => none) = some S := hd
    obtain ⟨s1, rfl, oa, h1⟩ := sst_pop hs
    have key : ∀ n, sln kd = some n → xd_len none nx L (.inr (kd, e) :: s1) h [] True = some (nx, L, xi (Int32.ofNat n) :: s1, h, [], True) := by
      intro n hn
      unfold sln at hn
      show (bif Nat.beq kd 50 then none else bif xin 10000 kd then _ else bif xin 20000 kd then _ else bif xin 40000 kd then _ else none) = _
      cases h5 : Nat.beq kd 50 with
      | true => rw [h5] at hn; cases hn
      | false =>
        rw [h5] at hn
        dsimp only [cond] at hn ⊢
        cases h10 : xin 10000 kd with
        | true => rw [h10] at hn; rw [← Option.some.inj hn]
        | false =>
          rw [h10] at hn
          dsimp only at hn ⊢
          cases h20 : xin 20000 kd with
          | true => rw [h20] at hn; rw [← Option.some.inj hn]
          | false =>
            rw [h20] at hn
            dsimp only at hn ⊢
            cases h40 : xin 40000 kd with
            | true => rw [h40] at hn; rw [← Option.some.inj hn]
            | false => rw [h40] at hn; cases hn
    cases hl : sln kd with
    | none => rw [hl] at hd; cases hd
    | some n =>
      rw [hl] at hd
      have hd : (bif Nat.blt n 10000 then some [(nx, (Y, F, LA, sint (0, (n : Int)) :: sA, H))] else none) = some S := hd
      cases hn : Nat.blt n 10000 with
      | false => rw [hn] at hd; cases hd
      | true =>
        rw [hn] at hd
        obtain rfl := Option.some.inj hd
        have hn : n < 10000 := Nat.le_of_ble_eq_true hn
        have k := sst_push h1 (v := sint (0, (n : Int))) ⟨Nat.zero_le _, ⟨by show _ ≤ (n : Int); omega, by show (n : Int) ≤ _; omega⟩⟩
        exact ⟨[], _, key n hl, trivial, sto_same (Nat.le_refl _) k⟩
end SHeap3
