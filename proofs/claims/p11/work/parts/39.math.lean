/-! THE SYMBOLIC STEPS, the rest: copies, min, max, abs; and, or, quotients, shifts by cases; switches. -/
section SRest
variable {T : ST} {nn uu nx fr lo : Nat} {ρ : Nat → Int} {τ : Nat → Int64} {Y : SY} {F : List Nat} {L st : List SV} {H : SH} {Lx stx : List XV} {h : XH}
def sxw : List SV → Nat
  | [] => 0
  | .inr (.inl _) :: l => sxw l + 2
  | _ :: l => sxw l + 1
theorem sxw_ok : ∀ (l : List SV), xw (l.map (scz ρ τ)) = sxw l
  | [] => rfl
  | .inr (.inl j) :: l => by
    show xw (l.map (scz ρ τ)) + 2 = sxw l + 2
    rw [sxw_ok l]
  | .inl (.inl e) :: l => by
    show xw (l.map (scz ρ τ)) + 1 = sxw l + 1
    rw [sxw_ok l]
  | .inl (.inr e) :: l => by
    show xw (l.map (scz ρ τ)) + 1 = sxw l + 1
    rw [sxw_ok l]
  | .inr (.inr q) :: l => by
    show xw (l.map (scz ρ τ)) + 1 = sxw l + 1
    rw [sxw_ok l]
def sd_copy (T : ST) (fr lo nx : Nat) : SD
  | (Y, F, L, .inl (.inl k) :: .inl (.inl dp) :: .inr (.inr (k1, e1)) :: .inl (.inl s0) :: .inr (.inr (k0, e0)) :: st, H) =>
    bif ((Nat.blt 0 fr && Nat.ble (sxw st + 40) lo) && (xin 10000 k0 && xin 10000 k1)) && ((T.2.2.1 e1 && (decide ((T.2.1 e1).1 ≤ (T.2.1 e0).1) && decide ((T.2.1 e0).2 ≤ (T.2.1 e1).2))) && ((decide (0 ≤ (siv Y k).1) && (decide (0 ≤ (siv Y dp).1) && decide (0 ≤ (siv Y s0).1))) && (decide ((siv Y s0).2 + (siv Y k).2 ≤ ((k0 - 10000 : Nat) : Int)) && decide ((siv Y dp).2 + (siv Y k).2 ≤ ((k1 - 10000 : Nat) : Int))))) then
      some [(nx, (Y, F, L, st, (sdelc H.1 e1, H.2)))] else none
  | _ => none
theorem va_cpy_cases {f g : Nat → Int32} {s d k i : Nat} : (∃ j, va_cpy f g s d k i = f j) ∨ va_cpy f g s d k i = g i := by
  unfold va_cpy
  split
  · exact Or.inl ⟨_, rfl⟩
  · exact Or.inr rfl
theorem so_copy (hT : stok T) (hw : stow T) : sgo T nn uu (sd_copy T fr lo nx) (xd_copy fr lo nx) := by
  intro ρ τ A L st h S hs hd
  match A, hs, hd with
  | (Y, F, LA, .inl (.inl k) :: .inl (.inl dp) :: .inr (.inr (k1, e1)) :: .inl (.inl s0) :: .inr (.inr (k0, e0)) :: sA, H), hs, hd =>
    have hd : (bif ((Nat.blt 0 fr && Nat.ble (sxw sA + 40) lo) && (xin 10000 k0 && xin 10000 k1)) && ((T.2.2.1 e1 && (decide ((T.2.1 e1).1 ≤ (T.2.1 e0).1) && decide ((T.2.1 e0).2 ≤ (T.2.1 e1).2))) && ((decide (0 ≤ (siv Y k).1) && (decide (0 ≤ (siv Y dp).1) && decide (0 ≤ (siv Y s0).1))) && (decide ((siv Y s0).2 + (siv Y k).2 ≤ ((k0 - 10000 : Nat) : Int)) && decide ((siv Y dp).2 + (siv Y k).2 ≤ ((k1 - 10000 : Nat) : Int))))) then some [(nx, (Y, F, LA, sA, (sdelc H.1 e1, H.2)))] else none) = some S := hd
    cases hk : (((Nat.blt 0 fr && Nat.ble (sxw sA + 40) lo) && (xin 10000 k0 && xin 10000 k1)) && ((T.2.2.1 e1 && (decide ((T.2.1 e1).1 ≤ (T.2.1 e0).1) && decide ((T.2.1 e0).2 ≤ (T.2.1 e1).2))) && ((decide (0 ≤ (siv Y k).1) && (decide (0 ≤ (siv Y dp).1) && decide (0 ≤ (siv Y s0).1))) && (decide ((siv Y s0).2 + (siv Y k).2 ≤ ((k0 - 10000 : Nat) : Int)) && decide ((siv Y dp).2 + (siv Y k).2 ≤ ((k1 - 10000 : Nat) : Int)))))) with
    | false => rw [hk] at hd; cases hd
    | true =>
      rw [hk] at hd
      obtain rfl := Option.some.inj hd
      rw [Bool.and_eq_true] at hk
      obtain ⟨ka, kb⟩ := hk
      simp only [Bool.and_eq_true, decide_eq_true_eq] at kb
      obtain ⟨⟨b1, b2, b3⟩, ⟨b4, b5, b6⟩, b7, b8⟩ := kb
      obtain ⟨t1, rfl, ok, h1⟩ := sst_pop hs
      obtain ⟨t2, rfl, od, h2⟩ := sst_pop h1
      obtain ⟨t3, rfl, oe, h3⟩ := sst_pop h2
      obtain ⟨t4, rfl, os, h4⟩ := sst_pop h3
      obtain ⟨t5, rfl, of, h5⟩ := sst_pop h4
      have ik : (siv Y k).1 ≤ sev ρ k ∧ sev ρ k ≤ (siv Y k).2 := siv_ok h5.1 ok.1
      have id' : (siv Y dp).1 ≤ sev ρ dp ∧ sev ρ dp ≤ (siv Y dp).2 := siv_ok h5.1 od.1
      have is : (siv Y s0).1 ≤ sev ρ s0 ∧ sev ρ s0 ≤ (siv Y s0).2 := siv_ok h5.1 os.1
      have nk : 0 ≤ sev ρ k := by omega
      have nd : 0 ≤ sev ρ dp := by omega
      have ns : 0 ≤ sev ρ s0 := by omega
      have neg : ∀ {e : SE}, i32r (sev ρ e) → 0 ≤ sev ρ e → ¬ Int32.ofInt (sev ρ e) < 0 := fun {e} hr hn z => by
        have z := Int32.lt_iff_toInt_lt.mp z
        rw [i32r_to hr] at z
        have e0 : (0 : Int32).toInt = 0 := rfl
        omega
      have hxw : xw t5 = sxw sA := by
        rw [show t5 = sA.map (scz ρ τ) from h5.2.2.2.2.1]
        exact sxw_ok sA
      refine ⟨[], (nx, L, t5, xrowI h e1 (va_cpy (xI h e0) (xI h e1) (Int32.ofInt (sev ρ s0)).toNatClampNeg (Int32.ofInt (sev ρ dp)).toNatClampNeg (Int32.ofInt (sev ρ k)).toNatClampNeg), [], True ∧ (¬ Int32.ofInt (sev ρ s0) < 0 ∧ ¬ Int32.ofInt (sev ρ dp) < 0 ∧ ¬ Int32.ofInt (sev ρ k) < 0) ∧ (Int32.ofInt (sev ρ s0)).toNatClampNeg + (Int32.ofInt (sev ρ k)).toNatClampNeg ≤ k0 - 10000 ∧ (Int32.ofInt (sev ρ dp)).toNatClampNeg + (Int32.ofInt (sev ρ k)).toNatClampNeg ≤ k1 - 10000), ?_, ⟨trivial, ⟨neg os.2 ns, neg od.2 nd, neg ok.2 nk⟩, ?_, ?_⟩, sto_same (Nat.le_refl _) (sst_heap h5 ?_)⟩
      · show (bif (Nat.blt 0 fr && Nat.ble (xw t5 + 40) lo) && (xin 10000 k0 && xin 10000 k1) then _ else none) = _
        rw [hxw, ka]
        rfl
      · rw [i32_clamp os.2 ns, i32_clamp ok.2 nk]
        omega
      · rw [i32_clamp od.2 nd, i32_clamp ok.2 nk]
        omega
      · have hh := h5.2.2.2.2.2.2
        refine ⟨⟨fun c' k' => ?_, hh.1.2⟩, fun w hw' => ?_, hh.2.2⟩
        · by_cases hc : c' = e1
          · subst hc
            rw [yI_rowS]
            rcases va_cpy_cases (f := xI h e0) (g := xI h c') (s := (Int32.ofInt (sev ρ s0)).toNatClampNeg) (d := (Int32.ofInt (sev ρ dp)).toNatClampNeg) (k := (Int32.ofInt (sev ρ k)).toNatClampNeg) (i := k') with ⟨j, z⟩ | z
            · rw [z, hw c' b1]
              have g1 := hh.1.1 e0 j
              have g2 := hT e0 j
              omega
            · rw [z]
              exact hh.1.1 c' k'
          · rw [yI_row (eq_false hc)]
            exact hh.1.1 c' k'
        · obtain ⟨g1, g2⟩ := List.mem_filter.mp hw'
          have hne : ¬ w.1 = e1 := fun z => by
            rw [z, Nat.beq_refl] at g2
            cases g2
          rw [yI_row (eq_false hne)]
          exact hh.2.1 w g1
/-- by cases: where few values are possible, all are tried -/
def srng (q : SI) : List Int := (List.range (q.2 - q.1 + 1).toNat).map (fun k : Nat => q.1 + (k : Int))
theorem srng_mem {q : SI} {z : Int} (h : q.1 ≤ z ∧ z ≤ q.2) : z ∈ srng q := by
  refine List.mem_map.mpr ⟨(z - q.1).toNat, List.mem_range.mpr (by omega), by omega⟩
def sall (f : Int32 → Int32 → Int32) (a b : SI) : List Int := (srng a).flatMap (fun x => (srng b).map (fun y => (f (Int32.ofInt x) (Int32.ofInt y)).toInt))
def slo (l : List Int) : Int := l.foldl smin 2147483647
def shi (l : List Int) : Int := l.foldl smax (-2147483648)
theorem fold_min : ∀ (l : List Int) (m : Int), l.foldl smin m ≤ m ∧ ∀ z ∈ l, l.foldl smin m ≤ z
  | [], m => ⟨Int.le_refl _, fun z h => absurd h List.not_mem_nil⟩
  | a :: l, m => by
    obtain ⟨h1, h2⟩ := fold_min l (smin m a)
    refine ⟨Int.le_trans h1 (smin_l _ _), fun z hz => ?_⟩
    rcases List.mem_cons.mp hz with rfl | hz
    · exact Int.le_trans h1 (smin_r _ _)
    · exact h2 z hz
theorem fold_max : ∀ (l : List Int) (m : Int), m ≤ l.foldl smax m ∧ ∀ z ∈ l, z ≤ l.foldl smax m
  | [], m => ⟨Int.le_refl _, fun z h => absurd h List.not_mem_nil⟩
  | a :: l, m => by
    obtain ⟨h1, h2⟩ := fold_max l (smax m a)
    refine ⟨Int.le_trans (smax_l _ _) h1, fun z hz => ?_⟩
    rcases List.mem_cons.mp hz with rfl | hz
    · exact Int.le_trans (smax_r _ _) h1
    · exact h2 z hz
def senum (f : Int32 → Int32 → Int32) (Y : SY) (a b : SE) : SR := bif decide (((siv Y a).2 - (siv Y a).1 + 1) * ((siv Y b).2 - (siv Y b).1 + 1) ≤ 300) then .inr ((slo (sall f (siv Y a) (siv Y b)), shi (sall f (siv Y a) (siv Y b))), 0, 0) else .inr (sfull, 0, 0)
theorem senum_ok {f : Int32 → Int32 → Int32} : sopk f (senum f) := by
  intro ρ Y a b hY ha hb ra rb
  unfold senum
  cases decide (((siv Y a).2 - (siv Y a).1 + 1) * ((siv Y b).2 - (siv Y b).1 + 1) ≤ 300) with
  | false => exact srok_full
  | true =>
    have hm : (f (Int32.ofInt (sev ρ a)) (Int32.ofInt (sev ρ b))).toInt ∈ sall f (siv Y a) (siv Y b) :=
      List.mem_flatMap.mpr ⟨_, srng_mem (siv_ok hY ha), List.mem_map.mpr ⟨_, srng_mem (siv_ok hY hb), rfl⟩⟩
    exact ⟨⟨(fold_min _ _).2 _ hm, (fold_max _ _).2 _ hm⟩, fun s z => by cases z⟩
end SRest
