/-! THE SYMBOLIC STEPS, further: branches, longs, the stack. -/
section SSteps2
variable {T : ST} {nn uu nx : Nat}
/-- both ways of a branch, each where it can be -/
def sbr (c : ClassFile.Cond) (Y : SY) (a b : SE) (F : List Nat) (L st : List SV) (H : SH) (t nx : Nat) : List (Nat × SS) :=
  (match srf2 c Y a b with
    | some Y1 => [(t, (Y1, F, L, st, H))]
    | none => []) ++ (match srf2 (sneg c) Y a b with
    | some Y2 => [(nx, (Y2, F, L, st, H))]
    | none => [])
theorem xif_scnd {c : ClassFile.Cond} {x y : Int} (hx : i32r x) (hy : i32r y) {t : Int} {L st : List XV} {h : XH} :
    (scnd c x y → ∃ acc : Prop, acc ∧ xif c (Int32.ofInt x) (Int32.ofInt y) t nx L st h [1] True = some (t.toNat, L, st, h, [], acc)) ∧ (¬ scnd c x y → ∃ acc : Prop, acc ∧ xif c (Int32.ofInt x) (Int32.ofInt y) t nx L st h [0] True = some (nx, L, st, h, [], acc)) := by
  have e1 := i32r_to hx
  have e2 := i32r_to hy
  have heq : (Int32.ofInt x = Int32.ofInt y) ↔ x = y := ⟨fun z => by rw [← e1, ← e2, z], fun z => by rw [z]⟩
  have hlt : ∀ {u v : Int}, i32r u → i32r v → ((Int32.ofInt u < Int32.ofInt v) ↔ u < v) := fun hu hv => by
    rw [Int32.lt_iff_toInt_lt, i32r_to hu, i32r_to hv]
  have hle : ∀ {u v : Int}, i32r u → i32r v → ((Int32.ofInt u ≤ Int32.ofInt v) ↔ u ≤ v) := fun hu hv => by
    rw [Int32.le_iff_toInt_le, i32r_to hu, i32r_to hv]
  cases c with
  | eq => exact ⟨fun z => ⟨_, ⟨trivial, heq.mpr z⟩, rfl⟩, fun z => ⟨_, ⟨trivial, fun w => z (heq.mp w)⟩, rfl⟩⟩
  | ne => exact ⟨fun z => ⟨_, ⟨trivial, fun w => z (heq.mp w)⟩, rfl⟩, fun z => ⟨_, ⟨trivial, heq.mpr (Classical.not_not.mp z)⟩, rfl⟩⟩
  | lt => exact ⟨fun z => ⟨_, ⟨trivial, (hlt hx hy).mpr z⟩, rfl⟩, fun z => ⟨_, ⟨trivial, fun w => z ((hlt hx hy).mp w)⟩, rfl⟩⟩
  | ge => exact ⟨fun z => ⟨_, ⟨trivial, (hle hy hx).mpr z⟩, rfl⟩, fun z => ⟨_, ⟨trivial, fun w => z ((hle hy hx).mp w)⟩, rfl⟩⟩
  | gt => exact ⟨fun z => ⟨_, ⟨trivial, (hlt hy hx).mpr z⟩, rfl⟩, fun z => ⟨_, ⟨trivial, fun w => z ((hlt hy hx).mp w)⟩, rfl⟩⟩
  | le => exact ⟨fun z => ⟨_, ⟨trivial, (hle hx hy).mpr z⟩, rfl⟩, fun z => ⟨_, ⟨trivial, fun w => z ((hle hx hy).mp w)⟩, rfl⟩⟩
theorem sbr_ok {ρ : Nat → Int} {τ : Nat → Int64} {A : SS} {Y : SY} {F : List Nat} {L st : List SV} {H : SH} {Lx stx : List XV} {h : XH} {c : ClassFile.Cond} {a b : SE} {t : Int} (hA : A.1 = Y ∧ A.2.1 = F) (hs : sst T nn uu ρ τ (Y, F, L, st, H) Lx stx h) (ha : a.1 ≤ Y.length) (hb : b.1 ≤ Y.length) (ra : i32r (sev ρ a)) (rb : i32r (sev ρ b)) :
    ∃ (o : List Nat) (r : XP), xif c (Int32.ofInt (sev ρ a)) (Int32.ofInt (sev ρ b)) t nx Lx stx h o True = some r ∧ r.2.2.2.2.2 ∧ sto T nn uu ρ τ A (sbr c Y a b F L st H t.toNat nx) r := by
  obtain ⟨rfl, rfl⟩ := hA
  by_cases hc : scnd c (sev ρ a) (sev ρ b)
  · obtain ⟨acc, hacc, he⟩ := (xif_scnd (nx := nx) (t := t) (L := Lx) (st := stx) (h := h) ra rb).1 hc
    obtain ⟨Y1, e1, k1⟩ := srf2_ok hs.1 ha hb ra rb hc
    refine ⟨[1], _, he, hacc, (t.toNat, (Y1, A.2.1, L, st, H)), ?_, rfl, ρ, τ, fun _ _ => rfl, fun _ _ => rfl, ?_, sst_nar hs k1 (srf2_len e1)⟩
    · unfold sbr
      rw [e1]
      exact List.mem_append_left _ (List.mem_singleton.mpr rfl)
    · exact Nat.le_of_eq (srf2_len e1).symm
  · obtain ⟨acc, hacc, he⟩ := (xif_scnd (nx := nx) (t := t) (L := Lx) (st := stx) (h := h) ra rb).2 hc
    obtain ⟨Y1, e1, k1⟩ := srf2_ok hs.1 ha hb ra rb (scnd_neg.mpr hc)
    refine ⟨[0], _, he, hacc, (nx, (Y1, A.2.1, L, st, H)), ?_, rfl, ρ, τ, fun _ _ => rfl, fun _ _ => rfl, ?_, sst_nar hs k1 (srf2_len e1)⟩
    · unfold sbr
      rw [e1]
      exact List.mem_append_right _ (List.mem_singleton.mpr rfl)
    · exact Nat.le_of_eq (srf2_len e1).symm
/-- a comparison's outcome is asked: a long is 0 or not -/
def sflag (F : List Nat) (j f : Nat) : List Nat := bif Nat.beq (F.getD j 0) 0 then F.set j f else F
theorem sst_flag {ρ : Nat → Int} {τ : Nat → Int64} {Y : SY} {F : List Nat} {L st : List SV} {H : SH} {Lx stx : List XV} {h : XH} {j f : Nat} (hs : sst T nn uu ρ τ (Y, F, L, st, H) Lx stx h) (hf : (f = 1 → τ j ≠ 0) ∧ (f = 2 → τ j = 0)) : sst T nn uu ρ τ (Y, sflag F j f, L, st, H) Lx stx h := by
  unfold sflag
  cases Nat.beq (F.getD j 0) 0 with
  | false => exact hs
  | true =>
    obtain ⟨a1, a2, a3, a4, a5, a6, a7⟩ := hs
    refine ⟨a1, ?_, a3, ?_, a5, ?_, a7⟩
    · intro s w hw
      have hw : (F.set j f)[s]? = some w := hw
      by_cases hsj : s = j
      · subst hsj
        have hl : s < F.length := by
          have := (List.getElem?_eq_some_iff.mp hw).1
          rw [List.length_set] at this
          exact this
        rw [List.getElem?_set_self hl] at hw
        obtain rfl := Option.some.inj hw
        exact hf
      · rw [List.getElem?_set_ne (Ne.symm hsj)] at hw
        exact a2 s w hw
    · intro v hv
      show sok ρ Y.length (F.set j f).length v
      rw [List.length_set]
      exact a4 v hv
    · intro v hv
      show sok ρ Y.length (F.set j f).length v
      rw [List.length_set]
      exact a6 v hv
theorem sflag_len {F : List Nat} {j f : Nat} : (sflag F j f).length = F.length := by
  unfold sflag
  cases Nat.beq (F.getD j 0) 0 with
  | false => rfl
  | true => exact List.length_set
def sd_if (c : ClassFile.Cond) (t : Int) (nx : Nat) : SD
  | (Y, F, L, .inl (.inl a) :: st, H) => some (sbr c Y a (0, 0) F L st H t.toNat nx)
  | (Y, F, L, .inl (.inr j) :: st, H) => match c with
    | .eq => some [(t.toNat, (Y, sflag F j 2, L, st, H)), (nx, (Y, sflag F j 1, L, st, H))]
    | .ne => some [(t.toNat, (Y, sflag F j 1, L, st, H)), (nx, (Y, sflag F j 2, L, st, H))]
    | _ => some [(t.toNat, (Y, F, L, st, H)), (nx, (Y, F, L, st, H))]
  | _ => none
theorem lgc0 {x : Int64} : (lg_cmp x 0 = 0) ↔ x = 0 := by
  unfold lg_cmp
  constructor
  · intro h
    split at h
    · cases h
    · split at h
      · assumption
      · cases h
  · intro h
    subst h
    rw [if_neg (Int64.lt_irrefl), if_pos rfl]
theorem so_if {c : ClassFile.Cond} {t : Int} : sgo T nn uu (sd_if c t nx) (xd_if c t nx) := by
  intro ρ τ A L st h S hs hd
  match A, hs, hd with
  | (Y, F, LA, .inl (.inl a) :: sA, H), hs, hd =>
    obtain rfl := Option.some.inj hd
    obtain ⟨s1, rfl, oa, h1⟩ := sst_pop hs
    exact sbr_ok (b := (0, 0)) ⟨rfl, rfl⟩ h1 oa.1 (Nat.zero_le _) oa.2 ⟨by show _ ≤ (0 : Int); omega, by show (0 : Int) ≤ _; omega⟩
  | (Y, F, LA, .inl (.inr j) :: sA, H), hs, hd =>
    obtain ⟨s1, rfl, oa, h1⟩ := sst_pop hs
    have r0 : i32r 0 := ⟨by omega, by omega⟩
    have rc := i32r_of (lg_cmp (τ j) 0)
    have ex := xif_scnd (c := c) (nx := nx) (t := t) (L := L) (st := s1) (h := h) rc r0
    rw [i32_of] at ex
    have ez : (lg_cmp (τ j) 0).toInt = 0 ↔ τ j = 0 := by
      rw [← lgc0]
      exact ⟨fun z => Int32.toInt_inj.mp (by rw [z]; rfl), fun z => by rw [z]; rfl⟩
    have kz : τ j = 0 → sst T nn uu ρ τ (Y, sflag F j 2, LA, sA, H) L s1 h := fun z => sst_flag h1 ⟨(fun q => by cases q), fun _ => z⟩
    have kn : τ j ≠ 0 → sst T nn uu ρ τ (Y, sflag F j 1, LA, sA, H) L s1 h := fun z => sst_flag h1 ⟨fun _ => z, fun q => by cases q⟩
    by_cases hc : scnd c (lg_cmp (τ j) 0).toInt 0
    · obtain ⟨acc, hacc, he⟩ := ex.1 hc
      refine ⟨[1], _, he, hacc, ?_⟩
      cases c with
      | eq =>
        obtain rfl := Option.some.inj hd
        exact ⟨_, List.mem_cons_self, rfl, ρ, τ, fun _ _ => rfl, fun _ _ => rfl, Nat.le_refl _, kz (ez.mp hc)⟩
      | ne =>
        obtain rfl := Option.some.inj hd
        exact ⟨_, List.mem_cons_self, rfl, ρ, τ, fun _ _ => rfl, fun _ _ => rfl, Nat.le_refl _, kn (fun z => hc (ez.mpr z))⟩
      | lt => obtain rfl := Option.some.inj hd; exact ⟨_, List.mem_cons_self, rfl, ρ, τ, fun _ _ => rfl, fun _ _ => rfl, Nat.le_refl _, h1⟩
      | ge => obtain rfl := Option.some.inj hd; exact ⟨_, List.mem_cons_self, rfl, ρ, τ, fun _ _ => rfl, fun _ _ => rfl, Nat.le_refl _, h1⟩
      | gt => obtain rfl := Option.some.inj hd; exact ⟨_, List.mem_cons_self, rfl, ρ, τ, fun _ _ => rfl, fun _ _ => rfl, Nat.le_refl _, h1⟩
      | le => obtain rfl := Option.some.inj hd; exact ⟨_, List.mem_cons_self, rfl, ρ, τ, fun _ _ => rfl, fun _ _ => rfl, Nat.le_refl _, h1⟩
    · obtain ⟨acc, hacc, he⟩ := ex.2 hc
      refine ⟨[0], _, he, hacc, ?_⟩
      cases c with
      | eq =>
        obtain rfl := Option.some.inj hd
        exact ⟨_, List.mem_cons_of_mem _ (List.mem_singleton.mpr rfl), rfl, ρ, τ, fun _ _ => rfl, fun _ _ => rfl, Nat.le_refl _, kn (fun z => hc (ez.mpr z))⟩
      | ne =>
        obtain rfl := Option.some.inj hd
        exact ⟨_, List.mem_cons_of_mem _ (List.mem_singleton.mpr rfl), rfl, ρ, τ, fun _ _ => rfl, fun _ _ => rfl, Nat.le_refl _, kz (ez.mp (Classical.not_not.mp hc))⟩
      | lt => obtain rfl := Option.some.inj hd; exact ⟨_, List.mem_cons_of_mem _ (List.mem_singleton.mpr rfl), rfl, ρ, τ, fun _ _ => rfl, fun _ _ => rfl, Nat.le_refl _, h1⟩
      | ge => obtain rfl := Option.some.inj hd; exact ⟨_, List.mem_cons_of_mem _ (List.mem_singleton.mpr rfl), rfl, ρ, τ, fun _ _ => rfl, fun _ _ => rfl, Nat.le_refl _, h1⟩
      | gt => obtain rfl := Option.some.inj hd; exact ⟨_, List.mem_cons_of_mem _ (List.mem_singleton.mpr rfl), rfl, ρ, τ, fun _ _ => rfl, fun _ _ => rfl, Nat.le_refl _, h1⟩
      | le => obtain rfl := Option.some.inj hd; exact ⟨_, List.mem_cons_of_mem _ (List.mem_singleton.mpr rfl), rfl, ρ, τ, fun _ _ => rfl, fun _ _ => rfl, Nat.le_refl _, h1⟩
def sd_icmp (c : ClassFile.Cond) (t : Int) (nx : Nat) : SD
  | (Y, F, L, .inl (.inl b) :: .inl (.inl a) :: st, H) => some (sbr c Y a b F L st H t.toNat nx)
  | _ => none
theorem so_icmp {c : ClassFile.Cond} {t : Int} : sgo T nn uu (sd_icmp c t nx) (xd_icmp c t nx) := by
  intro ρ τ A L st h S hs hd
  match A, hs, hd with
  | (Y, F, LA, .inl (.inl b) :: .inl (.inl a) :: sA, H), hs, hd =>
    obtain rfl := Option.some.inj hd
    obtain ⟨s1, rfl, ob, h1⟩ := sst_pop hs
    obtain ⟨s2, rfl, oa, h2⟩ := sst_pop h1
    exact sbr_ok ⟨rfl, rfl⟩ h2 oa.1 ob.1 oa.2 ob.2
def sd_dup (nx : Nat) : SD
  | (Y, F, L, .inl v :: st, H) => some [(nx, (Y, F, L, .inl v :: .inl v :: st, H))]
  | (Y, F, L, .inr (.inr q) :: st, H) => some [(nx, (Y, F, L, .inr (.inr q) :: .inr (.inr q) :: st, H))]
  | _ => none
theorem so_dup : sgo T nn uu (sd_dup nx) (xd_dup nx) := by
  intro ρ τ A L st h S hs hd
  match A, hs, hd with
  | (Y, F, LA, .inl v :: sA, H), hs, hd =>
    obtain rfl := Option.some.inj hd
    obtain ⟨s1, e1, oa, -⟩ := sst_pop hs
    have k := sst_push hs oa
    subst e1
    cases v with
    | inl e => exact ⟨[], (nx, _, _, _, [], True), rfl, trivial, sto_same (Nat.le_refl _) k⟩
    | inr j => exact ⟨[], (nx, _, _, _, [], True), rfl, trivial, sto_same (Nat.le_refl _) k⟩
  | (Y, F, LA, .inr (.inr (kd, e)) :: sA, H), hs, hd =>
    obtain rfl := Option.some.inj hd
    obtain ⟨s1, e1, oa, -⟩ := sst_pop hs
    have k := sst_push hs oa
    subst e1
    exact ⟨[], (nx, _, _, _, [], True), rfl, trivial, sto_same (Nat.le_refl _) k⟩
def sd_dup2 (nx : Nat) : SD
  | (Y, F, L, .inl v :: .inr (.inr q) :: st, H) => some [(nx, (Y, F, L, .inl v :: .inr (.inr q) :: .inl v :: .inr (.inr q) :: st, H))]
  | _ => none
theorem so_dup2 : sgo T nn uu (sd_dup2 nx) (xd_dup2 nx) := by
  intro ρ τ A L st h S hs hd
  match A, hs, hd with
  | (Y, F, LA, .inl v :: .inr (.inr (kd, e)) :: sA, H), hs, hd =>
    obtain rfl := Option.some.inj hd
    obtain ⟨s1, e1, oa, h1⟩ := sst_pop hs
    obtain ⟨s2, e2, ob, -⟩ := sst_pop h1
    have k := sst_push (sst_push hs ob) oa
    subst e2
    subst e1
    cases v with
    | inl e => exact ⟨[], (nx, _, _, _, [], True), rfl, trivial, sto_same (Nat.le_refl _) k⟩
    | inr j => exact ⟨[], (nx, _, _, _, [], True), rfl, trivial, sto_same (Nat.le_refl _) k⟩
def sd_pop (nx : Nat) : SD
  | (Y, F, L, .inl _ :: st, H) => some [(nx, (Y, F, L, st, H))]
  | (Y, F, L, .inr (.inr _) :: st, H) => some [(nx, (Y, F, L, st, H))]
  | _ => none
theorem so_pop : sgo T nn uu (sd_pop nx) (xd_pop nx) := by
  intro ρ τ A L st h S hs hd
  match A, hs, hd with
  | (Y, F, LA, .inl v :: sA, H), hs, hd =>
    obtain rfl := Option.some.inj hd
    obtain ⟨s1, rfl, oa, h1⟩ := sst_pop hs
    cases v with
    | inl e => exact ⟨[], (nx, _, _, _, [], True), rfl, trivial, sto_same (Nat.le_refl _) h1⟩
    | inr j => exact ⟨[], (nx, _, _, _, [], True), rfl, trivial, sto_same (Nat.le_refl _) h1⟩
  | (Y, F, LA, .inr (.inr (kd, e)) :: sA, H), hs, hd =>
    obtain rfl := Option.some.inj hd
    obtain ⟨s1, rfl, oa, h1⟩ := sst_pop hs
    exact ⟨[], (nx, _, _, _, [], True), rfl, trivial, sto_same (Nat.le_refl _) h1⟩
/-- two longs give a long -/
def sd_l2 (nx : Nat) : SD
  | (Y, F, L, .inr (.inl _) :: .inr (.inl _) :: st, H) => some [(nx, (Y, F ++ [0], L, slong F.length :: st, H))]
  | _ => none
theorem so_l2 {f : Int64 → Int64 → Int64} {X : SX} (hX : ∀ L st h o acc a b, X L (xl b :: xl a :: st) h o acc = some (nx, L, xl (f a b) :: st, h, o, acc)) : sgo T nn uu (sd_l2 nx) X := by
  intro ρ τ A L st h S hs hd
  match A, hs, hd with
  | (Y, F, LA, .inr (.inl j) :: .inr (.inl k) :: sA, H), hs, hd =>
    obtain rfl := Option.some.inj hd
    obtain ⟨s1, rfl, ob, h1⟩ := sst_pop hs
    obtain ⟨s2, rfl, oa, h2⟩ := sst_pop h1
    exact ⟨[], _, hX _ _ _ _ _ _ _, trivial, sto_newL ⟨rfl, rfl⟩ h2 ⟨(fun z => by cases z), (fun z => by cases z)⟩⟩
/-- a long divided by one that isn't 0 -/
def sd_ldiv (nx : Nat) : SD
  | (Y, F, L, .inr (.inl j) :: .inr (.inl _) :: st, H) => bif Nat.beq (F.getD j 0) 1 then some [(nx, (Y, F ++ [0], L, slong F.length :: st, H))] else none
  | _ => none
theorem so_ldiv {f : Int64 → Int64 → Int64} {X : SX} (hX : ∀ L st h o acc a b, X L (xl b :: xl a :: st) h o acc = some (nx, L, xl (f a b) :: st, h, o, acc ∧ ¬ b = 0)) : sgo T nn uu (sd_ldiv nx) X := by
  intro ρ τ A L st h S hs hd
  match A, hs, hd with
  | (Y, F, LA, .inr (.inl j) :: .inr (.inl k) :: sA, H), hs, hd =>
    have hd : (bif Nat.beq (F.getD j 0) 1 then some [(nx, (Y, F ++ [0], LA, slong F.length :: sA, H))] else none) = some S := hd
    cases hj : Nat.beq (F.getD j 0) 1 with
    | false => rw [hj] at hd; cases hd
    | true =>
      rw [hj] at hd
      obtain rfl := Option.some.inj hd
      obtain ⟨s1, rfl, ob, h1⟩ := sst_pop hs
      obtain ⟨s2, rfl, oa, h2⟩ := sst_pop h1
      have hb : j < F.length := ob
      have e1 : F[j]? = some 1 := by
        have e := Nat.eq_of_beq_eq_true hj
        rw [List.getD_eq_getElem?_getD, List.getElem?_eq_getElem hb] at e
        rw [List.getElem?_eq_getElem hb]
        exact congrArg some e
      exact ⟨[], _, hX _ _ _ _ _ _ _, ⟨trivial, (h2.2.1 j 1 e1).1 rfl⟩, sto_newL ⟨rfl, rfl⟩ h2 ⟨(fun z => by cases z), (fun z => by cases z)⟩⟩
/-- a long out of a long that is 0 only where that one is -/
def sd_l1 (nx : Nat) : SD
  | (Y, F, L, .inr (.inl j) :: st, H) => some [(nx, (Y, F ++ [bif Nat.beq (F.getD j 0) 1 then 1 else 0], L, slong F.length :: st, H))]
  | _ => none
theorem so_l1 {f : Int64 → Int64} (hf : ∀ x, x ≠ 0 → f x ≠ 0) {X : SX} (hX : ∀ L st h a, ∃ acc : Prop, acc ∧ X L (xl a :: st) h [] True = some (nx, L, xl (f a) :: st, h, [], acc)) : sgo T nn uu (sd_l1 nx) X := by
  intro ρ τ A L st h S hs hd
  match A, hs, hd with
  | (Y, F, LA, .inr (.inl j) :: sA, H), hs, hd =>
    obtain rfl := Option.some.inj hd
    obtain ⟨s1, rfl, oa, h1⟩ := sst_pop hs
    obtain ⟨acc, ha, hx⟩ := hX L s1 h (τ j)
    refine ⟨[], _, hx, ha, sto_newL ⟨rfl, rfl⟩ h1 ?_⟩
    cases hj : Nat.beq (F.getD j 0) 1 with
    | false => exact ⟨(fun z => by cases z), (fun z => by cases z)⟩
    | true =>
      have hb : j < F.length := oa
      have e1 : F[j]? = some 1 := by
        have e := Nat.eq_of_beq_eq_true hj
        rw [List.getD_eq_getElem?_getD, List.getElem?_eq_getElem hb] at e
        rw [List.getElem?_eq_getElem hb]
        exact congrArg some e
      exact ⟨fun _ => hf _ ((h1.2.1 j 1 e1).1 rfl), fun z => by cases z⟩
def sd_lcmp (nx : Nat) : SD
  | (Y, F, L, .inr (.inl j) :: .inr (.inl k) :: st, H) => bif Nat.beq (F.getD j 0) 2 then some [(nx, (Y, F, L, scmp k :: st, H))] else some [spush Y F L st H nx (.inr ((-1, 1), 0, 0))]
  | _ => none
theorem so_lcmp : sgo T nn uu (sd_lcmp nx) (xd_lcmp nx) := by
  intro ρ τ A L st h S hs hd
  match A, hs, hd with
  | (Y, F, LA, .inr (.inl j) :: .inr (.inl k) :: sA, H), hs, hd =>
    have hd : (bif Nat.beq (F.getD j 0) 2 then some [(nx, (Y, F, LA, scmp k :: sA, H))] else some [spush Y F LA sA H nx (.inr ((-1, 1), 0, 0))]) = some S := hd
    obtain ⟨s1, rfl, ob, h1⟩ := sst_pop hs
    obtain ⟨s2, rfl, oa, h2⟩ := sst_pop h1
    have hX : xd_lcmp nx L (xl (τ j) :: xl (τ k) :: s2) h [] True = some (nx, L, xi (lg_cmp (τ k) (τ j)) :: s2, h, [], True) := rfl
    refine ⟨[], _, hX, trivial, ?_⟩
    cases hj : Nat.beq (F.getD j 0) 2 with
    | true =>
      rw [hj] at hd
      obtain rfl := Option.some.inj hd
      have hb : j < F.length := ob
      have e1 : F[j]? = some 2 := by
        have e := Nat.eq_of_beq_eq_true hj
        rw [List.getD_eq_getElem?_getD, List.getElem?_eq_getElem hb] at e
        rw [List.getElem?_eq_getElem hb]
        exact congrArg some e
      have ez := (h2.2.1 j 2 e1).2 rfl
      have kk := sst_push h2 (v := scmp k) oa
      rw [ez]
      exact sto_same (Nat.le_refl _) kk
    | false =>
      rw [hj] at hd
      obtain rfl := Option.some.inj hd
      refine spush_ok (r := .inr ((-1, 1), 0, 0)) ⟨rfl, rfl⟩ h2 ?_
      refine ⟨?_, fun s z => by cases z⟩
      show (-1 : Int) ≤ (lg_cmp (τ k) (τ j)).toInt ∧ (lg_cmp (τ k) (τ j)).toInt ≤ 1
      unfold lg_cmp
      split
      · exact ⟨by decide, by decide⟩
      · split
        · exact ⟨by decide, by decide⟩
        · exact ⟨by decide, by decide⟩
def sd_i2l (nx : Nat) : SD
  | (Y, F, L, .inl (.inl _) :: st, H) => some [(nx, (Y, F ++ [0], L, slong F.length :: st, H))]
  | _ => none
theorem so_i2l : sgo T nn uu (sd_i2l nx) (xd_i2l nx) := by
  intro ρ τ A L st h S hs hd
  match A, hs, hd with
  | (Y, F, LA, .inl (.inl e) :: sA, H), hs, hd =>
    obtain rfl := Option.some.inj hd
    obtain ⟨s1, rfl, oa, h1⟩ := sst_pop hs
    exact ⟨[], (nx, _, _, _, [], True), rfl, trivial, sto_newL ⟨rfl, rfl⟩ h1 ⟨(fun z => by cases z), (fun z => by cases z)⟩⟩
def sd_l2i (nx : Nat) : SD
  | (Y, F, L, .inr (.inl _) :: st, H) => some [spush Y F L st H nx (.inr (sfull, 0, 0))]
  | _ => none
theorem so_l2i : sgo T nn uu (sd_l2i nx) (xd_l2i nx) := by
  intro ρ τ A L st h S hs hd
  match A, hs, hd with
  | (Y, F, LA, .inr (.inl j) :: sA, H), hs, hd =>
    obtain rfl := Option.some.inj hd
    obtain ⟨s1, rfl, oa, h1⟩ := sst_pop hs
    exact ⟨[], (nx, _, _, _, [], True), rfl, trivial, spush_ok ⟨rfl, rfl⟩ h1 srok_full⟩
end SSteps2
