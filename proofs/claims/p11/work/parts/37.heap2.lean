/-! THE SYMBOLIC STEPS at the heap, further: references, rows. -/
section SHeap2
variable {T : ST} {nn uu nx : Nat} {ρ : Nat → Int} {τ : Nat → Int64} {Y : SY} {F : List Nat} {L st : List SV} {H : SH} {Lx stx : List XV} {h : XH}
def snz (l : List Nat) : Bool := l.all (fun x => !Nat.beq x 0)
theorem snz_ok {l : List Nat} (hz : snz l = true) {x : Nat} (hx : x ∈ l) : ¬ x = 0 := fun z => by
  have := List.all_eq_true.mp hz x hx
  rw [z] at this
  cases this
noncomputable def sd_getR (T : ST) (k aux nx : Nat) : SD
  | (Y, F, L, .inr (.inr (kd, e)) :: st, H) => bif Nat.beq kd aux then (match slkR H.2 e k with
    | some x => bif Nat.beq x 0 then none else some [(nx, (Y, F, L, sref (xfk kd k) x :: st, H))]
    | none => bif snz (T.2.2.2 e k) && !(T.2.2.2 e k).isEmpty then some ((T.2.2.2 e k).map (fun x => (nx, (Y, F, L, sref (xfk kd k) x :: st, (H.1, (e, k, x) :: H.2))))) else none) else none
  | _ => none
theorem so_getR {k aux : Nat} : sgo T nn uu (sd_getR T k aux nx) (xd_getR false k aux nx) := by
  intro ρ τ A L st h S hs hd
  match A, hs, hd with
  | (Y, F, LA, .inr (.inr (kd, e)) :: sA, H), hs, hd =>
    have hd : (bif Nat.beq kd aux then (match slkR H.2 e k with
      | some x => bif Nat.beq x 0 then none else some [(nx, (Y, F, LA, sref (xfk kd k) x :: sA, H))]
      | none => bif snz (T.2.2.2 e k) && !(T.2.2.2 e k).isEmpty then some ((T.2.2.2 e k).map (fun x => (nx, (Y, F, LA, sref (xfk kd k) x :: sA, (H.1, (e, k, x) :: H.2))))) else none) else none) = some S := hd
    cases hk : Nat.beq kd aux with
    | false => rw [hk] at hd; cases hd
    | true =>
      rw [hk] at hd
      dsimp only [cond] at hd
      obtain ⟨s1, rfl, oa, h1⟩ := sst_pop hs
      have hX : xd_getR false k aux nx L (.inr (kd, e) :: s1) h [] True = some (nx, L, .inr (xfk kd k, xR h e k) :: s1, h, [], True ∧ ¬ xR h e k = 0) := by
        show (bif Nat.beq kd aux then _ else none) = _
        rw [hk]
        rfl
      cases hl : slkR H.2 e k with
      | some x =>
        rw [hl] at hd
        have hd : (bif Nat.beq x 0 then none else some [(nx, (Y, F, LA, sref (xfk kd k) x :: sA, H))]) = some S := hd
        have hx : xR h e k = x := h1.2.2.2.2.2.2.2.2.1 _ (slkR_mem hl)
        cases h0 : Nat.beq x 0 with
        | true => rw [h0] at hd; cases hd
        | false =>
          rw [h0] at hd
          obtain rfl := Option.some.inj hd
          have kk := sst_push h1 (v := sref (xfk kd k) x) trivial
          rw [hx] at hX
          exact ⟨[], _, hX, ⟨trivial, fun z => by rw [z] at h0; cases h0⟩, sto_same (Nat.le_refl _) kk⟩
      | none =>
        rw [hl] at hd
        have hd : (bif snz (T.2.2.2 e k) && !(T.2.2.2 e k).isEmpty then some ((T.2.2.2 e k).map (fun x => (nx, (Y, F, LA, sref (xfk kd k) x :: sA, (H.1, (e, k, x) :: H.2))))) else none) = some S := hd
        cases h0 : (snz (T.2.2.2 e k) && !(T.2.2.2 e k).isEmpty) with
        | false => rw [h0] at hd; cases hd
        | true =>
          rw [h0] at hd
          obtain rfl := Option.some.inj hd
          rw [Bool.and_eq_true] at h0
          have hne : T.2.2.2 e k ≠ [] := fun z => by rw [z] at h0; cases h0.2
          have hm := h1.2.2.2.2.2.2.1.2 e k hne
          have hh := h1.2.2.2.2.2.2
          have kk := sst_push (sst_heap (H' := (H.1, (e, k, xR h e k) :: H.2)) h1 ⟨hh.1, hh.2.1, fun w hw => by
            rcases List.mem_cons.mp hw with rfl | hw
            · rfl
            · exact hh.2.2.1 w hw, hh.2.2.2⟩) (v := sref (xfk kd k) (xR h e k)) trivial
          exact ⟨[], _, hX, ⟨trivial, snz_ok h0.1 hm⟩, _, List.mem_map.mpr ⟨_, hm, rfl⟩, rfl, ρ, τ, fun _ _ => rfl, fun _ _ => rfl, Nat.le_refl _, kk⟩
noncomputable def sd_putR (T : ST) (k aux nx : Nat) : SD
  | (Y, F, L, .inr (.inr (kv, x)) :: .inr (.inr (kd, e)) :: st, H) => bif (Nat.beq kd aux && (Nat.beq kv (xfk kd k) && !Nat.beq kv 50)) && (T.2.2.2 e k).elem x then some [(nx, (Y, F, L, st, (H.1, (e, k, x) :: sdel H.2 e k)))] else none
  | _ => none
theorem so_putR {k aux : Nat} : sgo T nn uu (sd_putR T k aux nx) (xd_putR k aux nx) := by
  intro ρ τ A L st h S hs hd
  match A, hs, hd with
  | (Y, F, LA, .inr (.inr (kv, x)) :: .inr (.inr (kd, e)) :: sA, H), hs, hd =>
    have hd : (bif (Nat.beq kd aux && (Nat.beq kv (xfk kd k) && !Nat.beq kv 50)) && (T.2.2.2 e k).elem x then some [(nx, (Y, F, LA, sA, (H.1, (e, k, x) :: sdel H.2 e k)))] else none) = some S := hd
    cases hk : ((Nat.beq kd aux && (Nat.beq kv (xfk kd k) && !Nat.beq kv 50)) && (T.2.2.2 e k).elem x) with
    | false => rw [hk] at hd; cases hd
    | true =>
      rw [hk] at hd
      obtain rfl := Option.some.inj hd
      rw [Bool.and_eq_true] at hk
      obtain ⟨s1, rfl, ov, h1⟩ := sst_pop hs
      obtain ⟨s2, rfl, oe, h2⟩ := sst_pop h1
      have hh := h2.2.2.2.2.2.2
      have hx := List.elem_iff.mp hk.2
      have hset : ∀ c' k', xR (xsetR h e k x) c' k' = if c' = e ∧ k' = k then x else xR h c' k' := fun _ _ => rfl
      refine ⟨[], (nx, L, s2, xsetR h e k x, [], True), ?_, trivial, sto_same (Nat.le_refl _) (sst_heap h2 ⟨⟨hh.1.1, fun c' k' hne => ?_⟩, hh.2.1, fun w hw => ?_, hh.2.2.2⟩)⟩
      · show (bif Nat.beq kd aux && (Nat.beq kv (xfk kd k) && !Nat.beq kv 50) then _ else none) = _
        rw [hk.1]
        rfl
      · rw [hset]
        by_cases hc : c' = e ∧ k' = k
        · rw [if_pos hc, hc.1, hc.2]
          exact hx
        · rw [if_neg hc]
          exact hh.1.2 c' k' hne
      · rw [hset]
        rcases List.mem_cons.mp hw with rfl | hw
        · rw [if_pos ⟨rfl, rfl⟩]
        · obtain ⟨g1, g2⟩ := List.mem_filter.mp hw
          have hne : ¬ (w.1 = e ∧ w.2.1 = k) := fun z => by
            rw [z.1, z.2, Nat.beq_refl, Nat.beq_refl] at g2
            cases g2
          rw [if_neg hne]
          exact hh.2.2.1 w g1
/-- an index within a row -/
theorem i32_clamp {z : Int} (hz : i32r z) (h0 : 0 ≤ z) : (Int32.ofInt z).toNatClampNeg = z.toNat := by
  show (Int32.ofInt z).toInt.toNat = z.toNat
  rw [i32r_to hz]
theorem sidx {i : SE} {n : Nat} (hY : syok ρ Y) (oi : i.1 ≤ Y.length ∧ i32r (sev ρ i)) (hw : swi Y i (0, (n : Int) - 1) = true) : vp_in (Int32.ofInt (sev ρ i)) n ∧ 0 ≤ sev ρ i := by
  have hb := swi_ok hY oi.1 hw
  have h1 : (0 : Int) ≤ sev ρ i := hb.1
  have h2 : sev ρ i ≤ (n : Int) - 1 := hb.2
  refine ⟨?_, h1⟩
  rintro (z | z)
  · have z := Int32.lt_iff_toInt_lt.mp z
    rw [i32r_to oi.2] at z
    have e0 : (0 : Int32).toInt = 0 := rfl
    omega
  · rw [i32_clamp oi.2 h1] at z
    omega
/-- a row's element read: at a known place as a slot, else by the row's bounds -/
def srd (T : ST) (Y : SY) (F : List Nat) (L st : List SV) (H : SH) (nx e : Nat) (i : SE) : List (Nat × SS) :=
  bif Nat.beq i.1 0 then (match slk H.1 e i.2.toNat with
    | some v => [(nx, (Y, F, L, sint v :: st, H))]
    | none => [(nx, (Y ++ [(T.1 e i.2.toNat, 0, 0)], F, L, sint (Y.length + 1, 0) :: st, ((e, i.2.toNat, (Y.length + 1, 0)) :: H.1, H.2)))])
  else [spush Y F L st H nx (.inr (T.2.1 e, 0, 0))]
theorem srd_ok (hT : stok T) {A : SS} (hA : A.1 = Y ∧ A.2.1 = F) (hs : sst T nn uu ρ τ (Y, F, L, st, H) Lx stx h) {e : Nat} {i : SE} (oi : i.1 ≤ Y.length ∧ i32r (sev ρ i)) (h0 : 0 ≤ sev ρ i) {o : List Nat} {acc : Prop} :
    sto T nn uu ρ τ A (srd T Y F L st H nx e i) (nx, Lx, xi (xI h e (Int32.ofInt (sev ρ i)).toNatClampNeg) :: stx, h, o, acc) := by
  unfold srd
  cases hc : Nat.beq i.1 0 with
  | true =>
    have e1 : (Int32.ofInt (sev ρ i)).toNatClampNeg = i.2.toNat := by
      rw [i32_clamp oi.2 h0, sev0 hc]
    rw [e1]
    exact sread hA hs e i.2.toNat
  | false =>
    refine spush_ok (r := .inr (T.2.1 e, 0, 0)) hA hs ?_
    refine ⟨?_, fun s z => by cases z⟩
    have a := hs.2.2.2.2.2.2.1.1 e (Int32.ofInt (sev ρ i)).toNatClampNeg
    have b := hT e (Int32.ofInt (sev ρ i)).toNatClampNeg
    try dsimp only
    omega
def sd_iaload (T : ST) (nx : Nat) : SD
  | (Y, F, L, .inl (.inl i) :: .inr (.inr (kd, e)) :: st, H) => bif (!Nat.beq kd 50 && xin 10000 kd) && swi Y i (0, ((kd - 10000 : Nat) : Int) - 1) then some (srd T Y F L st H nx e i) else none
  | _ => none
theorem so_iaload (hT : stok T) : sgo T nn uu (sd_iaload T nx) (xd_iaload none nx) := by
  intro ρ τ A L st h S hs hd
  match A, hs, hd with
  | (Y, F, LA, .inl (.inl i) :: .inr (.inr (kd, e)) :: sA, H), hs, hd =>
    have hd : (bif (!Nat.beq kd 50 && xin 10000 kd) && swi Y i (0, ((kd - 10000 : Nat) : Int) - 1) then some (srd T Y F LA sA H nx e i) else none) = some S := hd
    cases hk : ((!Nat.beq kd 50 && xin 10000 kd) && swi Y i (0, ((kd - 10000 : Nat) : Int) - 1)) with
    | false => rw [hk] at hd; cases hd
    | true =>
      rw [hk] at hd
      obtain rfl := Option.some.inj hd
      simp only [Bool.and_eq_true, Bool.not_eq_true'] at hk
      obtain ⟨⟨k1, k2⟩, k3⟩ := hk
      obtain ⟨s1, rfl, oi, h1⟩ := sst_pop hs
      obtain ⟨s2, rfl, oe, h2⟩ := sst_pop h1
      obtain ⟨hv, h0⟩ := sidx h2.1 oi k3
      refine ⟨[], (nx, L, xi (xI h e (Int32.ofInt (sev ρ i)).toNatClampNeg) :: s2, h, [], True ∧ vp_in (Int32.ofInt (sev ρ i)) (kd - 10000)), ?_, ⟨trivial, hv⟩, srd_ok hT ⟨rfl, rfl⟩ h2 (show i.1 ≤ Y.length ∧ i32r (sev ρ i) from oi) h0⟩
      show (bif Nat.beq kd 50 then _ else bif xin 10000 kd then _ else none) = _
      rw [k1, k2]
      rfl
def sd_baload (T : ST) (nx : Nat) : SD
  | (Y, F, L, .inl (.inl i) :: .inr (.inr (kd, e)) :: st, H) => bif xin 20000 kd then (bif swi Y i (0, ((kd - 20000 : Nat) : Int) - 1) then some (srd T Y F L st H nx e i) else none) else bif xin 30000 kd && swi Y i (0, ((kd - 30000 : Nat) : Int) - 1) then some (srd T Y F L st H nx e i) else none
  | _ => none
theorem so_baload (hT : stok T) : sgo T nn uu (sd_baload T nx) (xd_baload nx) := by
  intro ρ τ A L st h S hs hd
  match A, hs, hd with
  | (Y, F, LA, .inl (.inl i) :: .inr (.inr (kd, e)) :: sA, H), hs, hd =>
    have hd : (bif xin 20000 kd then (bif swi Y i (0, ((kd - 20000 : Nat) : Int) - 1) then some (srd T Y F LA sA H nx e i) else none) else bif xin 30000 kd && swi Y i (0, ((kd - 30000 : Nat) : Int) - 1) then some (srd T Y F LA sA H nx e i) else none) = some S := hd
    obtain ⟨s1, rfl, oi, h1⟩ := sst_pop hs
    obtain ⟨s2, rfl, oe, h2⟩ := sst_pop h1
    cases h20 : xin 20000 kd with
    | true =>
      rw [h20] at hd
      dsimp only [cond] at hd
      cases k3 : swi Y i (0, ((kd - 20000 : Nat) : Int) - 1) with
      | false => rw [k3] at hd; cases hd
      | true =>
        rw [k3] at hd
        obtain rfl := Option.some.inj hd
        obtain ⟨hv, h0⟩ := sidx h2.1 oi k3
        refine ⟨[], (nx, L, xi (xI h e (Int32.ofInt (sev ρ i)).toNatClampNeg) :: s2, h, [], True ∧ vp_in (Int32.ofInt (sev ρ i)) (kd - 20000)), ?_, ⟨trivial, hv⟩, srd_ok hT ⟨rfl, rfl⟩ h2 (show i.1 ≤ Y.length ∧ i32r (sev ρ i) from oi) h0⟩
        show (bif xin 20000 kd then _ else bif xin 30000 kd then _ else none) = _
        rw [h20]
        rfl
    | false =>
      rw [h20] at hd
      dsimp only [cond] at hd
      cases hk : (xin 30000 kd && swi Y i (0, ((kd - 30000 : Nat) : Int) - 1)) with
      | false => rw [hk] at hd; cases hd
      | true =>
        rw [hk] at hd
        obtain rfl := Option.some.inj hd
        rw [Bool.and_eq_true] at hk
        obtain ⟨hv, h0⟩ := sidx h2.1 oi hk.2
        refine ⟨[], (nx, L, xi (xI h e (Int32.ofInt (sev ρ i)).toNatClampNeg) :: s2, h, [], True ∧ vp_in (Int32.ofInt (sev ρ i)) (kd - 30000)), ?_, ⟨trivial, hv⟩, srd_ok hT ⟨rfl, rfl⟩ h2 (show i.1 ≤ Y.length ∧ i32r (sev ρ i) from oi) h0⟩
        show (bif xin 20000 kd then _ else bif xin 30000 kd then _ else none) = _
        rw [h20, hk.1]
        rfl
end SHeap2
