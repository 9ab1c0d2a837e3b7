/-! THE SYMBOLIC STEPS of the instructions that leave the heap alone. sgo: what D tells of a state, the machine's step X does. -/
abbrev SD : Type := SS → Option (List (Nat × SS))
abbrev SX : Type := List XV → List XV → XH → List Nat → Prop → Option XP
def sgo (T : ST) (nn uu : Nat) (D : SD) (X : SX) : Prop := ∀ (ρ : Nat → Int) (τ : Nat → Int64) (A : SS) (L st : List XV) (h : XH) (S : List (Nat × SS)), sst T nn uu ρ τ A L st h → D A = some S → ∃ (o : List Nat) (r : XP), X L st h o True = some r ∧ r.2.2.2.2.2 ∧ sto T nn uu ρ τ A S r
def sd_bin (f : Int32 → Int32 → Int32) (G : SY → SE → SE → SR) (nx : Nat) : SD
  | (Y, F, L, .inl (.inl b) :: .inl (.inl a) :: st, H) => some [spush Y F L st H nx (bif Nat.beq a.1 0 && Nat.beq b.1 0 then .inl (0, (f (Int32.ofInt a.2) (Int32.ofInt b.2)).toInt) else G Y a b)]
  | _ => none
section SSteps
variable {T : ST} {nn uu nx : Nat}
theorem so_bin {f : Int32 → Int32 → Int32} {G : SY → SE → SE → SR} (hf : sopk f G) {X : SX} (hX : ∀ L st h o acc a b, X L (xi b :: xi a :: st) h o acc = some (nx, L, xi (f a b) :: st, h, o, acc)) : sgo T nn uu (sd_bin f G nx) X := by
  intro ρ τ A L st h S hs hd
  match A, hs, hd with
  | (Y, F, LA, .inl (.inl b) :: .inl (.inl a) :: sA, H), hs, hd =>
    obtain rfl := Option.some.inj hd
    obtain ⟨s1, rfl, ob, h1⟩ := sst_pop hs
    obtain ⟨s2, rfl, oa, h2⟩ := sst_pop h1
    refine ⟨[], _, hX _ _ _ _ _ _ _, trivial, spush_ok ⟨rfl, rfl⟩ h2 ?_⟩
    cases hc : (Nat.beq a.1 0 && Nat.beq b.1 0) with
    | true =>
      rw [Bool.and_eq_true] at hc
      refine ⟨Nat.zero_le _, ?_⟩
      show (f (Int32.ofInt a.2) (Int32.ofInt b.2)).toInt = (f (Int32.ofInt (sev ρ a)) (Int32.ofInt (sev ρ b))).toInt
      rw [sev0 hc.1, sev0 hc.2]
    | false => exact hf ρ Y a b h2.1 oa.1 ob.1 oa.2 ob.2
/-- nothing but bounds of all ints -/
theorem sfull_ok (f : Int32 → Int32 → Int32) : sopk f (fun _ _ _ => .inr (sfull, 0, 0)) := fun _ _ _ _ _ _ _ _ _ => srok_full
def sd_const (k : Int) (nx : Nat) : SD
  | (Y, F, L, st, H) => bif sin32 (k, k) then some [(nx, (Y, F, L, sint (0, k) :: st, H))] else none
theorem so_const {k : Int} {X : SX} (hX : ∀ L st h o acc, X L st h o acc = some (nx, L, xi (Int32.ofInt k) :: st, h, o, acc)) : sgo T nn uu (sd_const k nx) X := by
  intro ρ τ A L st h S hs hd
  obtain ⟨Y, F, LA, sA, H⟩ := A
  have hd : (bif sin32 (k, k) then some [(nx, (Y, F, LA, sint (0, k) :: sA, H))] else none) = some S := hd
  cases hc : sin32 (k, k) with
  | false => rw [hc] at hd; cases hd
  | true =>
    rw [hc] at hd
    obtain rfl := Option.some.inj hd
    exact ⟨[], _, hX _ _ _ _ _, trivial, sto_same (Nat.le_refl _) (sst_push hs (v := sint (0, k)) ⟨Nat.zero_le _, sin32_i hc (Int.le_refl _) (Int.le_refl _)⟩)⟩
def sd_goto (t : Nat) : SD := fun A => some [(t, A)]
theorem so_goto {t : Nat} {X : SX} (hX : ∀ L st h o acc, X L st h o acc = some (t, L, st, h, o, acc)) : sgo T nn uu (sd_goto t) X := by
  intro ρ τ A L st h S hs hd
  obtain rfl := Option.some.inj hd
  exact ⟨[], _, hX _ _ _ _ _, trivial, sto_same (Nat.le_refl _) hs⟩
/-- a long that nothing is known of, behind n values popped -/
def sd_newL (f : Nat) (nx : Nat) (st : List SV) : SD
  | (Y, F, L, _, H) => some [(nx, (Y, F ++ [f], L, slong F.length :: st, H))]
theorem sto_newL {ρ : Nat → Int} {τ : Nat → Int64} {A : SS} {Y : SY} {F : List Nat} {L st : List SV} {H : SH} {Lx stx : List XV} {h : XH} {f : Nat} {x : Int64} (hA : A.1 = Y ∧ A.2.1 = F) (hs : sst T nn uu ρ τ (Y, F, L, st, H) Lx stx h) (hf : (f = 1 → x ≠ 0) ∧ (f = 2 → x = 0)) {o : List Nat} {acc : Prop} :
    sto T nn uu ρ τ A [(nx, (Y, F ++ [f], L, slong F.length :: st, H))] (nx, Lx, xl x :: stx, h, o, acc) := by
  obtain ⟨rfl, rfl⟩ := hA
  obtain ⟨τ', g1, g2, g3⟩ := sst_newL hs hf
  refine ⟨_, List.mem_singleton.mpr rfl, rfl, ρ, τ', fun _ _ => rfl, g1, Nat.le_refl _, ?_⟩
  have k := sst_push g3 (v := slong A.2.1.length) (by show A.2.1.length < (A.2.1 ++ [f]).length; simp)
  have e1 : scz ρ τ' (slong A.2.1.length) = xl x := congrArg xl g2
  rw [e1] at k
  exact k
def sd_lconst (k : Int) (nx : Nat) : SD
  | (Y, F, L, st, H) => some [(nx, (Y, F ++ [bif decide (Int64.ofInt k = 0) then 2 else 1], L, slong F.length :: st, H))]
theorem so_lconst {k : Int} {X : SX} (hX : ∀ L st h o acc, X L st h o acc = some (nx, L, xl (Int64.ofInt k) :: st, h, o, acc)) : sgo T nn uu (sd_lconst k nx) X := by
  intro ρ τ A L st h S hs hd
  obtain ⟨Y, F, LA, sA, H⟩ := A
  obtain rfl := Option.some.inj hd
  refine ⟨[], _, hX _ _ _ _ _, trivial, sto_newL ⟨rfl, rfl⟩ hs ?_⟩
  cases hz : decide (Int64.ofInt k = 0) with
  | true => exact ⟨(fun z => by cases z), fun _ => of_decide_eq_true hz⟩
  | false => exact ⟨fun _ => of_decide_eq_false hz, fun z => by cases z⟩
/-- loads -/
def sd_iload (i nx : Nat) : SD
  | (Y, F, L, st, H) => match sgetL L i with
    | .inl v => some [(nx, (Y, F, L, .inl v :: st, H))]
    | _ => none
theorem sgetL_ok {ρ : Nat → Int} {n m : Nat} : ∀ {l : List SV} {i : Nat}, (∀ v ∈ l, sok ρ n m v) → sok ρ n m (sgetL l i)
  | [], _, _ => trivial
  | a :: l, 0, h => h a List.mem_cons_self
  | a :: l, k + 1, h => sgetL_ok (l := l) (i := k) fun v hv => h v (List.mem_cons_of_mem _ hv)
theorem so_iload {i : Nat} : sgo T nn uu (sd_iload i nx) (xd_iload i nx) := by
  intro ρ τ A L st h S hs hd
  obtain ⟨Y, F, LA, sA, H⟩ := A
  have hd : (match sgetL LA i with
    | .inl v => some [(nx, (Y, F, LA, .inl v :: sA, H))]
    | _ => none) = some S := hd
  have hr := hs.2.2.1.2 i
  have ho : sok ρ Y.length F.length (sgetL LA i) := sgetL_ok hs.2.2.2.1
  cases hg : sgetL LA i with
  | inr w => rw [hg] at hd; cases hd
  | inl v =>
    rw [hg] at hd ho
    obtain rfl := Option.some.inj hd
    have e1 : xget L i = scz ρ τ (.inl v) := by
      rw [← hg]
      exact hr.resolve_left (fun z => by rw [hg] at z; cases z)
    have k := sst_push hs (v := .inl v) ho
    cases v with
    | inl e =>
      refine ⟨[], (nx, _, _, _, [], True), ?_, trivial, sto_same (Nat.le_refl _) k⟩
      unfold xd_iload
      rw [e1]
      rfl
    | inr j =>
      refine ⟨[], (nx, _, _, _, [], True), ?_, trivial, sto_same (Nat.le_refl _) k⟩
      unfold xd_iload
      rw [e1]
      rfl
def sd_lload (i nx : Nat) : SD
  | (Y, F, L, st, H) => match sgetL L i with
    | .inr (.inl j) => some [(nx, (Y, F, L, slong j :: st, H))]
    | _ => none
theorem so_lload {i : Nat} : sgo T nn uu (sd_lload i nx) (xd_lload i nx) := by
  intro ρ τ A L st h S hs hd
  obtain ⟨Y, F, LA, sA, H⟩ := A
  have hd : (match sgetL LA i with
    | .inr (.inl j) => some [(nx, (Y, F, LA, slong j :: sA, H))]
    | _ => none) = some S := hd
  have hr := hs.2.2.1.2 i
  have ho : sok ρ Y.length F.length (sgetL LA i) := sgetL_ok hs.2.2.2.1
  cases hg : sgetL LA i with
  | inl w => rw [hg] at hd; cases hd
  | inr w =>
    cases w with
    | inr q => rw [hg] at hd; cases hd
    | inl j =>
      rw [hg] at hd ho
      obtain rfl := Option.some.inj hd
      have e1 : xget L i = scz ρ τ (.inr (.inl j)) := by
        rw [← hg]
        exact hr.resolve_left (fun z => by rw [hg] at z; cases z)
      have k := sst_push hs (v := slong j) ho
      refine ⟨[], (nx, _, _, _, [], True), ?_, trivial, sto_same (Nat.le_refl _) k⟩
      unfold xd_lload
      rw [e1]
      rfl
def sd_aload (i nx : Nat) : SD
  | (Y, F, L, st, H) => match sgetL L i with
    | .inr (.inr (k, e)) => bif Nat.beq k 0 then none else some [(nx, (Y, F, L, sref k e :: st, H))]
    | _ => none
theorem so_aload {i : Nat} : sgo T nn uu (sd_aload i nx) (xd_aload i nx) := by
  intro ρ τ A L st h S hs hd
  obtain ⟨Y, F, LA, sA, H⟩ := A
  have hd : (match sgetL LA i with
    | .inr (.inr (k, e)) => bif Nat.beq k 0 then none else some [(nx, (Y, F, LA, sref k e :: sA, H))]
    | _ => none) = some S := hd
  have hr := hs.2.2.1.2 i
  cases hg : sgetL LA i with
  | inl w => rw [hg] at hd; cases hd
  | inr w =>
    cases w with
    | inl j => rw [hg] at hd; cases hd
    | inr q =>
      obtain ⟨k, e⟩ := q
      rw [hg] at hd
      have hd : (bif Nat.beq k 0 then none else some [(nx, (Y, F, LA, sref k e :: sA, H))]) = some S := hd
      cases hk : Nat.beq k 0 with
      | true => rw [hk] at hd; cases hd
      | false =>
        rw [hk] at hd
        obtain rfl := Option.some.inj hd
        have e1 : xget L i = .inr (k, e) := by
          have := hr.resolve_left (fun z => by
            rw [hg] at z
            have : k = 0 := congrArg (fun x : SV => match x with | .inr (.inr q) => q.1 | _ => 0) z
            rw [this] at hk
            cases hk)
          rw [hg] at this
          exact this
        have kk := sst_push hs (v := sref k e) trivial
        refine ⟨[], (nx, _, _, _, [], True), ?_, trivial, sto_same (Nat.le_refl _) kk⟩
        unfold xd_aload
        rw [e1]
        dsimp only
        rw [hk]
        rfl
/-- stores -/
theorem sst_store {ρ : Nat → Int} {τ : Nat → Int64} {Y : SY} {F : List Nat} {L st : List SV} {H : SH} {Lx stx : List XV} {h : XH} {v : SV} (hs : sst T nn uu ρ τ (Y, F, L, st, H) Lx stx h) (hv : sok ρ Y.length F.length v) (i : Nat) : sst T nn uu ρ τ (Y, F, sstL L i v, st, H) (xst Lx i (scz ρ τ v)) stx h :=
  ⟨hs.1, hs.2.1, srelL_st hs.2.2.1 i (Or.inr rfl), sstL_mem hs.2.2.2.1 hv trivial, hs.2.2.2.2⟩
def sd_istore (i nx : Nat) : SD
  | (Y, F, L, .inl v :: st, H) => some [(nx, (Y, F, sstL L i (.inl v), st, H))]
  | _ => none
theorem so_istore {i : Nat} : sgo T nn uu (sd_istore i nx) (xd_istore i nx) := by
  intro ρ τ A L st h S hs hd
  match A, hs, hd with
  | (Y, F, LA, .inl v :: sA, H), hs, hd =>
    obtain rfl := Option.some.inj hd
    obtain ⟨s1, rfl, ov, h1⟩ := sst_pop hs
    have k := sst_store h1 ov i
    cases v with
    | inl e => exact ⟨[], (nx, _, _, _, [], True), rfl, trivial, sto_same (Nat.le_refl _) k⟩
    | inr j => exact ⟨[], (nx, _, _, _, [], True), rfl, trivial, sto_same (Nat.le_refl _) k⟩
def sd_astore (i nx : Nat) : SD
  | (Y, F, L, .inr (.inr q) :: st, H) => some [(nx, (Y, F, sstL L i (.inr (.inr q)), st, H))]
  | _ => none
theorem so_astore {i : Nat} : sgo T nn uu (sd_astore i nx) (xd_astore i nx) := by
  intro ρ τ A L st h S hs hd
  match A, hs, hd with
  | (Y, F, LA, .inr (.inr (k, e)) :: sA, H), hs, hd =>
    obtain rfl := Option.some.inj hd
    obtain ⟨s1, rfl, ov, h1⟩ := sst_pop hs
    exact ⟨[], (nx, _, _, _, [], True), rfl, trivial, sto_same (Nat.le_refl _) (sst_store h1 ov i)⟩
def sd_lstore (i nx : Nat) : SD
  | (Y, F, L, .inr (.inl j) :: st, H) => some [(nx, (Y, F, ssetL (sstL L i (slong j)) (i + 1) sun, st, H))]
  | _ => none
theorem so_lstore {i : Nat} : sgo T nn uu (sd_lstore i nx) (xd_lstore i nx) := by
  intro ρ τ A L st h S hs hd
  match A, hs, hd with
  | (Y, F, LA, .inr (.inl j) :: sA, H), hs, hd =>
    obtain rfl := Option.some.inj hd
    obtain ⟨s1, rfl, ov, h1⟩ := sst_pop hs
    have k := sst_store h1 ov i
    refine ⟨[], (nx, _, _, _, [], True), rfl, trivial, sto_same (Nat.le_refl _) ⟨k.1, k.2.1, srelL_set k.2.2.1 (i + 1) (Or.inr rfl), ssetL_mem k.2.2.2.1 trivial, k.2.2.2.2⟩⟩
def sd_iinc (i : Nat) (v : Int) (nx : Nat) : SD
  | (Y, F, L, st, H) => match sgetL L i with
    | .inl (.inl e) => bif sin32 (v, v) then (match sadd Y e (0, v) with
      | .inl e' => some [(nx, (Y, F, sstL L i (sint e'), st, H))]
      | .inr w => some [(nx, (Y ++ [w], F, sstL L i (sint (Y.length + 1, 0)), st, H))]) else none
    | _ => none
theorem so_iinc {i : Nat} {v : Int} : sgo T nn uu (sd_iinc i v nx) (xd_iinc i v nx) := by
  intro ρ τ A L st h S hs hd
  obtain ⟨Y, F, LA, sA, H⟩ := A
  have hd : (match sgetL LA i with
    | .inl (.inl e) => bif sin32 (v, v) then (match sadd Y e (0, v) with
      | .inl e' => some [(nx, (Y, F, sstL LA i (sint e'), sA, H))]
      | .inr w => some [(nx, (Y ++ [w], F, sstL LA i (sint (Y.length + 1, 0)), sA, H))]) else none
    | _ => none) = some S := hd
  have hr := hs.2.2.1.2 i
  have ho : sok ρ Y.length F.length (sgetL LA i) := sgetL_ok hs.2.2.2.1
  cases hg : sgetL LA i with
  | inr w => rw [hg] at hd; cases hd
  | inl w =>
    cases w with
    | inr j => rw [hg] at hd; cases hd
    | inl e =>
      rw [hg] at hd ho
      dsimp only at hd
      cases hv : sin32 (v, v) with
      | false => rw [hv] at hd; cases hd
      | true =>
        rw [hv] at hd
        dsimp only [cond] at hd
        have rv : i32r v := sin32_i hv (Int.le_refl _) (Int.le_refl _)
        have e1 : xget L i = xi (Int32.ofInt (sev ρ e)) := by
          have := hr.resolve_left (fun z => by rw [hg] at z; cases z)
          rw [hg] at this
          exact this
        have hX : xd_iinc i v nx L st h [] True = some (nx, xst L i (xi (Int32.ofInt (sev ρ e) + Int32.ofInt v)), st, h, [], True) := by
          unfold xd_iinc
          rw [e1]
        have hk := sadd_ok ρ Y e (0, v) hs.1 ho.1 (Nat.zero_le _) ho.2 rv
        have hk : srok ρ Y.length (Int32.ofInt (sev ρ e) + Int32.ofInt v) (sadd Y e (0, v)) := hk
        refine ⟨[], _, hX, trivial, ?_⟩
        cases ha : sadd Y e (0, v) with
        | inl e' =>
          rw [ha] at hd hk
          obtain rfl := Option.some.inj hd
          have k := sst_store hs (v := sint e') ⟨hk.1, by rw [hk.2]; exact i32r_of _⟩ i
          have e2 : scz ρ τ (sint e') = xi (Int32.ofInt (sev ρ e) + Int32.ofInt v) := by
            show xi (Int32.ofInt (sev ρ e')) = _
            rw [hk.2, i32_of]
          rw [e2] at k
          exact sto_same (Nat.le_refl _) k
        | inr w =>
          obtain ⟨q, b, c⟩ := w
          rw [ha] at hd hk
          obtain rfl := Option.some.inj hd
          obtain ⟨ρ', g1, g2, g3⟩ := sst_new hs (q := q) (b := b) (c := c) hk.1 hk.2
          have e3 : sev ρ' (Y.length + 1, 0) = (Int32.ofInt (sev ρ e) + Int32.ofInt v).toInt := by
            show ρ' Y.length + 0 = _
            rw [g2]
            omega
          have k := sst_store g3 (v := sint (Y.length + 1, 0)) ⟨by show Y.length + 1 ≤ (Y ++ _).length; simp, by rw [e3]; exact i32r_of _⟩ i
          have e2 : scz ρ' τ (sint (Y.length + 1, 0)) = xi (Int32.ofInt (sev ρ e) + Int32.ofInt v) := by
            show xi (Int32.ofInt (sev ρ' (Y.length + 1, 0))) = _
            rw [e3, i32_of]
          rw [e2] at k
          exact ⟨_, List.mem_singleton.mpr rfl, rfl, ρ', τ, g1, fun _ _ => rfl, by show Y.length ≤ (Y ++ _).length; simp, k⟩
end SSteps
