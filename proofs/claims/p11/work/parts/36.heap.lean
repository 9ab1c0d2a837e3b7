/-! THE SYMBOLIC STEPS at the heap. -/
def slk (H : List (Nat × Nat × SE)) (c k : Nat) : Option SE := match H with
  | [] => none
  | q :: l => bif Nat.beq q.1 c && Nat.beq q.2.1 k then some q.2.2 else slk l c k
def slkR (H : List (Nat × Nat × Nat)) (c k : Nat) : Option Nat := match H with
  | [] => none
  | q :: l => bif Nat.beq q.1 c && Nat.beq q.2.1 k then some q.2.2 else slkR l c k
def sdel {α : Type} (H : List (Nat × Nat × α)) (c k : Nat) : List (Nat × Nat × α) := H.filter (fun q => !(Nat.beq q.1 c && Nat.beq q.2.1 k))
def sdelc {α : Type} (H : List (Nat × Nat × α)) (c : Nat) : List (Nat × Nat × α) := H.filter (fun q => !Nat.beq q.1 c)
theorem slk_mem : ∀ {H : List (Nat × Nat × SE)} {c k : Nat} {e : SE}, slk H c k = some e → (c, k, e) ∈ H
  | q :: l, c, k, e, h => by
    unfold slk at h
    cases hc : (Nat.beq q.1 c && Nat.beq q.2.1 k) with
    | true =>
      rw [hc] at h
      rw [Bool.and_eq_true] at hc
      have e1 := Nat.eq_of_beq_eq_true hc.1
      have e2 := Nat.eq_of_beq_eq_true hc.2
      have e3 := Option.some.inj h
      have : q = (c, k, e) := by
        obtain ⟨a, b, d⟩ := q
        cases e1; cases e2; cases e3; rfl
      rw [← this]
      exact List.mem_cons_self
    | false =>
      rw [hc] at h
      exact List.mem_cons_of_mem _ (slk_mem h)
theorem slkR_mem : ∀ {H : List (Nat × Nat × Nat)} {c k e : Nat}, slkR H c k = some e → (c, k, e) ∈ H
  | q :: l, c, k, e, h => by
    unfold slkR at h
    cases hc : (Nat.beq q.1 c && Nat.beq q.2.1 k) with
    | true =>
      rw [hc] at h
      rw [Bool.and_eq_true] at hc
      have e1 := Nat.eq_of_beq_eq_true hc.1
      have e2 := Nat.eq_of_beq_eq_true hc.2
      have e3 := Option.some.inj h
      have : q = (c, k, e) := by
        obtain ⟨a, b, d⟩ := q
        cases e1; cases e2; cases e3; rfl
      rw [← this]
      exact List.mem_cons_self
    | false =>
      rw [hc] at h
      exact List.mem_cons_of_mem _ (slkR_mem h)
section SHeap
variable {T : ST} {nn uu nx : Nat} {ρ : Nat → Int} {τ : Nat → Int64} {Y : SY} {F : List Nat} {L st : List SV} {H : SH} {Lx stx : List XV} {h : XH}
theorem sst_heap {H' : SH} {h' : XH} (hs : sst T nn uu ρ τ (Y, F, L, st, H) Lx stx h) (hh : shok T ρ Y.length H' nn uu h') : sst T nn uu ρ τ (Y, F, L, st, H') Lx stx h' :=
  ⟨hs.1, hs.2.1, hs.2.2.1, hs.2.2.2.1, hs.2.2.2.2.1, hs.2.2.2.2.2.1, hh⟩
def sd_getI (T : ST) (k aux nx : Nat) : SD
  | (Y, F, L, .inr (.inr (kd, e)) :: st, H) => bif Nat.beq kd aux then (match slk H.1 e k with
    | some v => some [(nx, (Y, F, L, sint v :: st, H))]
    | none => some [(nx, (Y ++ [(T.1 e k, 0, 0)], F, L, sint (Y.length + 1, 0) :: st, ((e, k, (Y.length + 1, 0)) :: H.1, H.2)))]) else none
  | _ => none
/-- an int slot read: known, or a new symbol that is known from now on -/
theorem sread {A : SS} (hA : A.1 = Y ∧ A.2.1 = F) (hs : sst T nn uu ρ τ (Y, F, L, st, H) Lx stx h) (e k : Nat) {o : List Nat} {acc : Prop} :
    sto T nn uu ρ τ A (match slk H.1 e k with
    | some v => [(nx, (Y, F, L, sint v :: st, H))]
    | none => [(nx, (Y ++ [(T.1 e k, 0, 0)], F, L, sint (Y.length + 1, 0) :: st, ((e, k, (Y.length + 1, 0)) :: H.1, H.2)))]) (nx, Lx, xi (xI h e k) :: stx, h, o, acc) := by
  obtain ⟨rfl, rfl⟩ := hA
  cases hl : slk H.1 e k with
  | some v =>
    have hm := hs.2.2.2.2.2.2.2.1 _ (slk_mem hl)
    have hm1 : (xI h e k).toInt = sev ρ v := hm.1
    have kk := sst_push hs (v := sint v) ⟨hm.2, by rw [← hm1]; exact i32r_of _⟩
    have e1 : scz ρ τ (sint v) = xi (xI h e k) := by
      show xi (Int32.ofInt (sev ρ v)) = _
      rw [← hm1, i32_of]
    rw [e1] at kk
    exact sto_same (Nat.le_refl _) kk
  | none =>
    have hb := hs.2.2.2.2.2.2.1.1 e k
    obtain ⟨ρ', g1, g2, g3⟩ := sst_new hs (q := T.1 e k) (b := 0) (c := 0) hb (fun s z => by cases z)
    have e2 : sev ρ' (A.1.length + 1, 0) = (xI h e k).toInt := by
      show ρ' A.1.length + 0 = _
      rw [g2]
      omega
    have hlen : A.1.length + 1 ≤ (A.1 ++ [(T.1 e k, 0, 0)] : SY).length := by simp
    have k1 := sst_push g3 (v := sint (A.1.length + 1, 0)) ⟨hlen, by rw [e2]; exact i32r_of _⟩
    have e1 : scz ρ' τ (sint (A.1.length + 1, 0)) = xi (xI h e k) := by
      show xi (Int32.ofInt (sev ρ' (A.1.length + 1, 0))) = _
      rw [e2, i32_of]
    rw [e1] at k1
    have hh := k1.2.2.2.2.2.2
    have k2 := sst_heap (H' := ((e, k, (A.1.length + 1, 0)) :: H.1, H.2)) k1 ⟨hh.1, fun w hw => by
      rcases List.mem_cons.mp hw with rfl | hw
      · exact ⟨e2.symm, hlen⟩
      · exact hh.2.1 w hw, hh.2.2⟩
    exact ⟨_, List.mem_singleton.mpr rfl, rfl, ρ', τ, g1, fun _ _ => rfl, Nat.le_of_succ_le hlen, k2⟩
theorem so_getI {k aux : Nat} : sgo T nn uu (sd_getI T k aux nx) (xd_getI k aux nx) := by
  intro ρ τ A L st h S hs hd
  match A, hs, hd with
  | (Y, F, LA, .inr (.inr (kd, e)) :: sA, H), hs, hd =>
    have hd : (bif Nat.beq kd aux then (match slk H.1 e k with
      | some v => some [(nx, (Y, F, LA, sint v :: sA, H))]
      | none => some [(nx, (Y ++ [(T.1 e k, 0, 0)], F, LA, sint (Y.length + 1, 0) :: sA, ((e, k, (Y.length + 1, 0)) :: H.1, H.2)))]) else none) = some S := hd
    cases hk : Nat.beq kd aux with
    | false => rw [hk] at hd; cases hd
    | true =>
      rw [hk] at hd
      obtain ⟨s1, rfl, oa, h1⟩ := sst_pop hs
      have hX : xd_getI k aux nx L (.inr (kd, e) :: s1) h [] True = some (nx, L, xi (xI h e k) :: s1, h, [], True) := by
        show (bif Nat.beq kd aux then _ else none) = _
        rw [hk]
        rfl
      refine ⟨[], _, hX, trivial, ?_⟩
      have kk := sread (nx := nx) (A := (Y, F, LA, .inr (.inr (kd, e)) :: sA, H)) ⟨rfl, rfl⟩ h1 e k (o := []) (acc := True)
      cases hl : slk H.1 e k with
      | some v =>
        rw [hl] at hd kk
        obtain rfl := Option.some.inj hd
        exact kk
      | none =>
        rw [hl] at hd kk
        obtain rfl := Option.some.inj hd
        exact kk
/-- within a slot's bounds -/
def swi (Y : SY) (v : SE) (q : SI) : Bool := decide (q.1 ≤ (siv Y v).1) && decide ((siv Y v).2 ≤ q.2)
theorem swi_ok {v : SE} {q : SI} (hY : syok ρ Y) (hv : v.1 ≤ Y.length) (h : swi Y v q = true) : q.1 ≤ sev ρ v ∧ sev ρ v ≤ q.2 := by
  unfold swi at h
  rw [Bool.and_eq_true] at h
  have a := of_decide_eq_true h.1
  have b := of_decide_eq_true h.2
  have := siv_ok hY hv
  omega
noncomputable def sd_putI (T : ST) (k aux nx : Nat) : SD
  | (Y, F, L, .inl (.inl v) :: .inr (.inr (kd, e)) :: st, H) => bif Nat.beq kd aux && (swi Y v (T.1 e k) && (!xbo kd k || swi Y v (0, 1))) then some [(nx, (Y, F, L, st, ((e, k, v) :: sdel H.1 e k, H.2)))] else none
  | _ => none
/-- an int slot written -/
theorem swrite {v : SE} {e k : Nat} (hs : sst T nn uu ρ τ (Y, F, L, st, H) Lx stx h) (ov : sok ρ Y.length F.length (sint v)) (hb : (T.1 e k).1 ≤ sev ρ v ∧ sev ρ v ≤ (T.1 e k).2) : sst T nn uu ρ τ (Y, F, L, st, ((e, k, v) :: sdel H.1 e k, H.2)) Lx stx (xsetI h e k (Int32.ofInt (sev ρ v))) := by
  have hh := hs.2.2.2.2.2.2
  have hv := i32r_to ov.2
  refine sst_heap hs ⟨⟨fun c' k' => ?_, hh.1.2⟩, fun w hw => ?_, hh.2.2⟩
  · by_cases hc : c' = e ∧ k' = k
    · obtain ⟨rfl, rfl⟩ := hc
      rw [yI_same, hv]
      exact hb
    · rw [yI_ne (eq_false hc)]
      exact hh.1.1 c' k'
  · rcases List.mem_cons.mp hw with rfl | hw
    · dsimp only
      rw [yI_same, hv]
      exact ⟨rfl, ov.1⟩
    · obtain ⟨h1, h2⟩ := List.mem_filter.mp hw
      have hne : ¬ (w.1 = e ∧ w.2.1 = k) := fun z => by
        rw [z.1, z.2, Nat.beq_refl, Nat.beq_refl] at h2
        cases h2
      rw [yI_ne (eq_false hne)]
      exact hh.2.1 w h1
theorem so_putI {k aux : Nat} : sgo T nn uu (sd_putI T k aux nx) (xd_putI k aux nx) := by
  intro ρ τ A L st h S hs hd
  match A, hs, hd with
  | (Y, F, LA, .inl (.inl v) :: .inr (.inr (kd, e)) :: sA, H), hs, hd =>
    have hd : (bif Nat.beq kd aux && (swi Y v (T.1 e k) && (!xbo kd k || swi Y v (0, 1))) then some [(nx, (Y, F, LA, sA, ((e, k, v) :: sdel H.1 e k, H.2)))] else none) = some S := hd
    cases hk : (Nat.beq kd aux && (swi Y v (T.1 e k) && (!xbo kd k || swi Y v (0, 1)))) with
    | false => rw [hk] at hd; cases hd
    | true =>
      rw [hk] at hd
      obtain rfl := Option.some.inj hd
      simp only [Bool.and_eq_true] at hk
      obtain ⟨k1, k2, k3⟩ := hk
      obtain ⟨s1, rfl, ov, h1⟩ := sst_pop hs
      obtain ⟨s2, rfl, oe, h2⟩ := sst_pop h1
      have kk := swrite h2 ov (swi_ok h2.1 ov.1 k2)
      cases hb : xbo kd k with
      | false =>
        refine ⟨[], (nx, L, s2, xsetI h e k (Int32.ofInt (sev ρ v)), [], True), ?_, trivial, sto_same (Nat.le_refl _) kk⟩
        show (bif Nat.beq kd aux then (bif xbo kd k then _ else _) else none) = _
        rw [k1, hb]
        rfl
      | true =>
        rw [hb] at k3
        have k3 : swi Y v (0, 1) = true := k3
        have hz := swi_ok h2.1 ov.1 k3
        have hz1 : (0 : Int) ≤ sev ρ v := hz.1
        have hz2 : sev ρ v ≤ 1 := hz.2
        refine ⟨[], (nx, L, s2, xsetI h e k (Int32.ofInt (sev ρ v)), [], True ∧ (Int32.ofInt (sev ρ v) = 0 ∨ Int32.ofInt (sev ρ v) = 1)), ?_, ⟨trivial, ?_⟩, sto_same (Nat.le_refl _) kk⟩
        · show (bif Nat.beq kd aux then (bif xbo kd k then _ else _) else none) = _
          rw [k1, hb]
          rfl
        · rcases (show sev ρ v = 0 ∨ sev ρ v = 1 by omega) with z | z
          · rw [z]; exact Or.inl rfl
          · rw [z]; exact Or.inr rfl
def sd_getL (aux nx : Nat) : SD
  | (Y, F, L, .inr (.inr (kd, _)) :: st, H) => bif Nat.beq kd aux then some [(nx, (Y, F ++ [0], L, slong F.length :: st, H))] else none
  | _ => none
theorem so_getL {k aux : Nat} : sgo T nn uu (sd_getL aux nx) (xd_getL k aux nx) := by
  intro ρ τ A L st h S hs hd
  match A, hs, hd with
  | (Y, F, LA, .inr (.inr (kd, e)) :: sA, H), hs, hd =>
    have hd : (bif Nat.beq kd aux then some [(nx, (Y, F ++ [0], LA, slong F.length :: sA, H))] else none) = some S := hd
    cases hk : Nat.beq kd aux with
    | false => rw [hk] at hd; cases hd
    | true =>
      rw [hk] at hd
      obtain rfl := Option.some.inj hd
      obtain ⟨s1, rfl, oa, h1⟩ := sst_pop hs
      refine ⟨[], (nx, L, xl (xL h e k) :: s1, h, [], True), ?_, trivial, sto_newL ⟨rfl, rfl⟩ h1 ⟨(fun z => by cases z), (fun z => by cases z)⟩⟩
      show (bif Nat.beq kd aux then _ else none) = _
      rw [hk]
      rfl
def sd_putL (aux nx : Nat) : SD
  | (Y, F, L, .inr (.inl _) :: .inr (.inr (kd, _)) :: st, H) => bif Nat.beq kd aux then some [(nx, (Y, F, L, st, H))] else none
  | _ => none
theorem so_putL {k aux : Nat} : sgo T nn uu (sd_putL aux nx) (xd_putL k aux nx) := by
  intro ρ τ A L st h S hs hd
  match A, hs, hd with
  | (Y, F, LA, .inr (.inl j) :: .inr (.inr (kd, e)) :: sA, H), hs, hd =>
    have hd : (bif Nat.beq kd aux then some [(nx, (Y, F, LA, sA, H))] else none) = some S := hd
    cases hk : Nat.beq kd aux with
    | false => rw [hk] at hd; cases hd
    | true =>
      rw [hk] at hd
      obtain rfl := Option.some.inj hd
      obtain ⟨s1, rfl, ov, h1⟩ := sst_pop hs
      obtain ⟨s2, rfl, oe, h2⟩ := sst_pop h1
      refine ⟨[], (nx, L, s2, xsetL h e k (τ j), [], True), ?_, trivial, sto_same (Nat.le_refl _) (sst_heap h2 h2.2.2.2.2.2.2)⟩
      show (bif Nat.beq kd aux then _ else none) = _
      rw [hk]
      rfl
end SHeap
