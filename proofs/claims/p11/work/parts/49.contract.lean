/-! A CONTRACT from its items: the entry's state, told by the arguments and the watched slots. -/
def sinY : List SAp → SY
  | [] => []
  | .inl q :: l => (q, 0, 0) :: sinY l
  | .inr _ :: l => sinY l
def sinF : List SAp → List Nat
  | [] => []
  | .inr (.inl b) :: l => (bif b then 1 else 0) :: sinF l
  | _ :: l => sinF l
def spad : Nat → List SV
  | 0 => []
  | n + 1 => sun :: spad n
def sinE : Nat → Nat → Nat → List SAp → List SV
  | k, _, _, [] => spad k
  | k, n, m, .inl _ :: l => sint (n + 1, 0) :: sinE (k - 1) (n + 1) m l
  | k, n, m, .inr (.inl _) :: l => slong m :: sun :: sinE (k - 2) n (m + 1) l
  | k, n, m, .inr (.inr q) :: l => .inr (.inr q) :: sinE (k - 1) n m l
theorem sinY_len : ∀ (ap : List SAp), (sinY ap).length = sarn ap
  | [] => rfl
  | .inl q :: l => congrArg (· + 1) (sinY_len l)
  | .inr (.inl _) :: l => sinY_len l
  | .inr (.inr _) :: l => sinY_len l
section SContract
variable {l : Launch} {T : ST} {R : List SRl} {E : XH → Prop} {RC EC : SWl} {nn uu : Nat} {h : XH} {H : SH}
theorem srelL.cons {ρ : Nat → Int} {τ : Nat → Int64} {A : List SV} {L : List XV} {a : SV} {x : XV} (hx : x = scz ρ τ a) (hr : srelL ρ τ A L) : srelL ρ τ (a :: A) (x :: L) := by
  refine ⟨congrArg (· + 1) hr.1, fun i => ?_⟩
  cases i with
  | zero => exact Or.inr hx
  | succ i => exact hr.2 i
theorem spad_ok {ρ : Nat → Int} {τ : Nat → Int64} : ∀ (k : Nat), srelL ρ τ (spad k) (xpad k) ∧ ∀ v ∈ spad k, v = sun
  | 0 => ⟨⟨rfl, fun _ => Or.inr rfl⟩, fun v hv => absurd hv List.not_mem_nil⟩
  | k + 1 => ⟨srelL.cons rfl (spad_ok k).1, fun v hv => by
    rcases List.mem_cons.mp hv with rfl | hv
    · rfl
    · exact (spad_ok (ρ := ρ) (τ := τ) k).2 v hv⟩
theorem sargv_mv {ρ ρ' : Nat → Int} : ∀ {ap : List SAp} {vs : List XV} {k n : Nat}, sargs ap vs → k + sarn ap ≤ n → sagree ρ ρ' n → sargv ρ k vs → sargv ρ' k vs
  | [], [], _, _, _, _, _, _ => trivial
  | .inl q :: ap, .inl (.inl a) :: vs, k, n, ha, hn, hg, hv => by
    have hn : k + (sarn ap + 1) ≤ n := hn
    exact ⟨(hg k (by omega)).trans hv.1, sargv_mv ha.2 (by omega) hg hv.2⟩
  | .inr (.inl b) :: ap, .inl (.inr x) :: vs, k, n, ha, hn, hg, hv => sargv_mv (ap := ap) (vs := vs) ha.2 hn hg hv
  | .inr (.inr q) :: ap, .inr w :: vs, k, n, ha, hn, hg, hv => sargv_mv (ap := ap) (vs := vs) ha.2 hn hg hv
  | [], _ :: _, _, _, ha, _, _, _ => by cases ha
  | .inl _ :: _, [], _, _, ha, _, _, _ => by cases ha
  | .inr (.inl _) :: _, [], _, _, ha, _, _, _ => by cases ha
  | .inr (.inr _) :: _, [], _, _, ha, _, _, _ => by cases ha
  | .inl _ :: _, .inl (.inr _) :: _, _, _, ha, _, _, _ => by cases ha.1
  | .inl _ :: _, .inr _ :: _, _, _, ha, _, _, _ => by cases ha.1
  | .inr (.inl _) :: _, .inl (.inl _) :: _, _, _, ha, _, _, _ => by cases ha.1
  | .inr (.inl _) :: _, .inr _ :: _, _, _, ha, _, _, _ => by cases ha.1
  | .inr (.inr _) :: _, .inl (.inl _) :: _, _, _, ha, _, _, _ => by cases ha.1
  | .inr (.inr _) :: _, .inl (.inr _) :: _, _, _, ha, _, _, _ => by cases ha.1
theorem sini_ok : ∀ (ap : List SAp) (vs : List XV) (k : Nat) (Y : SY) (F : List Nat) (ρ : Nat → Int) (τ : Nat → Int64), sargs ap vs → sst T nn uu ρ τ (Y, F, [], [], H) [] [] h → ∃ ρ' τ', sagree ρ ρ' Y.length ∧ sagreeL τ τ' F.length ∧ sst T nn uu ρ' τ' (Y ++ sinY ap, F ++ sinF ap, [], [], H) [] [] h ∧ srelL ρ' τ' (sinE k Y.length F.length ap) (xent k vs) ∧ (∀ v ∈ sinE k Y.length F.length ap, sok ρ' (Y ++ sinY ap).length (F ++ sinF ap).length v) ∧ sargv ρ' Y.length vs
  | [], [], k, Y, F, ρ, τ, _, hs => by
    refine ⟨ρ, τ, fun _ _ => rfl, fun _ _ => rfl, ?_, (spad_ok k).1, fun v hv => ?_, trivial⟩
    · show sst T nn uu ρ τ (Y ++ [], F ++ [], [], [], H) [] [] h
      rw [List.append_nil, List.append_nil]
      exact hs
    · rw [(spad_ok (ρ := ρ) (τ := τ) k).2 v hv]
      trivial
  | .inl q :: ap, .inl (.inl a) :: vs, k, Y, F, ρ, τ, ha, hs => by
    obtain ⟨ρ1, k1, k2, k3⟩ := sst_new hs (q := q) (b := 0) (c := 0) (z := a.toInt) ha.1 (fun s z => by cases z)
    obtain ⟨ρ', τ', m1, m2, m3, m4, m5, m6⟩ := sini_ok ap vs (k - 1) (Y ++ [(q, 0, 0)]) F ρ1 τ ha.2 k3
    have hlen : (Y ++ [(q, 0, 0)]).length = Y.length + 1 := by simp
    rw [List.append_assoc] at m3 m5
    rw [hlen] at m4 m5 m1 m6
    have e2 : sev ρ' (Y.length + 1, 0) = a.toInt := by
      show ρ' Y.length + 0 = _
      rw [m1 _ (Nat.lt_succ_self _), k2]
      omega
    refine ⟨ρ', τ', fun s hs => (m1 s (Nat.lt_succ_of_lt hs)).trans (k1 s hs), m2, m3, srelL.cons ?_ m4, fun v hv => ?_, (m1 _ (Nat.lt_succ_self _)).trans k2, m6⟩
    · show xi a = xi (Int32.ofInt (sev ρ' (Y.length + 1, 0)))
      rw [e2, i32_of]
    · rcases List.mem_cons.mp hv with rfl | hv
      · refine ⟨?_, by rw [e2]; exact i32r_of a⟩
        show Y.length + 1 ≤ (Y ++ ((q, 0, 0) :: sinY ap)).length
        simp
      · exact m5 v hv
  | .inr (.inl b) :: ap, .inl (.inr x) :: vs, k, Y, F, ρ, τ, ha, hs => by
    obtain ⟨τ1, k1, k2, k3⟩ := sst_newL hs (f := bif b then 1 else 0) (x := x) (by
      have hb : b = true → x ≠ 0 := ha.1
      cases b with
      | true => exact ⟨fun _ => hb rfl, (fun z => by cases z)⟩
      | false => exact ⟨(fun z => by cases z), (fun z => by cases z)⟩)
    obtain ⟨ρ', τ', m1, m2, m3, m4, m5, m6⟩ := sini_ok ap vs (k - 2) Y (F ++ [bif b then 1 else 0]) ρ τ1 ha.2 k3
    have hlen : (F ++ [bif b then 1 else 0]).length = F.length + 1 := by simp
    rw [List.append_assoc] at m3 m5
    rw [hlen] at m4 m5 m2
    refine ⟨ρ', τ', m1, fun s hs => (m2 s (Nat.lt_succ_of_lt hs)).trans (k1 s hs), m3, srelL.cons ?_ (srelL.cons rfl m4), fun v hv => ?_, m6⟩
    · show xl x = xl (τ' F.length)
      rw [m2 _ (Nat.lt_succ_self _), k2]
    · rcases List.mem_cons.mp hv with rfl | hv
      · show F.length < (F ++ ((bif b then 1 else 0) :: sinF ap)).length
        simp
      · rcases List.mem_cons.mp hv with rfl | hv
        · trivial
        · exact m5 v hv
  | .inr (.inr q) :: ap, .inr w :: vs, k, Y, F, ρ, τ, ha, hs => by
    obtain ⟨ρ', τ', m1, m2, m3, m4, m5, m6⟩ := sini_ok ap vs (k - 1) Y F ρ τ ha.2 hs
    have hw : w = q := ha.1
    refine ⟨ρ', τ', m1, m2, m3, srelL.cons ?_ m4, fun v hv => ?_, m6⟩
    · rw [hw]
      rfl
    · rcases List.mem_cons.mp hv with rfl | hv
      · trivial
      · exact m5 v hv
  | [], _ :: _, _, _, _, _, _, ha, _ => by cases ha
  | .inl _ :: _, [], _, _, _, _, _, ha, _ => by cases ha
  | .inr (.inl _) :: _, [], _, _, _, _, _, ha, _ => by cases ha
  | .inr (.inr _) :: _, [], _, _, _, _, _, ha, _ => by cases ha
  | .inl _ :: _, .inl (.inr _) :: _, _, _, _, _, _, ha, _ => by cases ha.1
  | .inl _ :: _, .inr _ :: _, _, _, _, _, _, ha, _ => by cases ha.1
  | .inr (.inl _) :: _, .inl (.inl _) :: _, _, _, _, _, _, ha, _ => by cases ha.1
  | .inr (.inl _) :: _, .inr _ :: _, _, _, _, _, _, ha, _ => by cases ha.1
  | .inr (.inr _) :: _, .inl (.inl _) :: _, _, _, _, _, _, ha, _ => by cases ha.1
  | .inr (.inr _) :: _, .inl (.inr _) :: _, _, _, _, _, _, ha, _ => by cases ha.1
theorem spos_sub : ∀ {w : List SQ} {A : SS} {x : Nat × Nat × SE}, x ∈ A.2.2.2.2.1 → x ∈ (spos A w).2.2.2.2.1
  | [], _, _, h => h
  | q :: w, A, x, h => spos_sub (w := w) (List.mem_cons_of_mem _ h)
theorem spos_mem : ∀ {w : List SQ} {A : SS} {i : Nat} {q : SQ}, w[i]? = some q → (q.1, q.2.1, (A.1.length + i + 1, 0)) ∈ (spos A w).2.2.2.2.1
  | x :: w, A, 0, q, h => by
    obtain rfl := Option.some.inj h
    exact spos_sub (w := w) List.mem_cons_self
  | x :: w, A, i + 1, q, h => by
    have := spos_mem (w := w) (A := (A.1 ++ [(x.2.2, 0, 0)], A.2.1, A.2.2.1, A.2.2.2.1, ((x.1, x.2.1, (A.1.length + 1, 0)) :: A.2.2.2.2.1, A.2.2.2.2.2))) (i := i) (q := q) h
    have hl : (A.1 ++ [(x.2.2, 0, 0)] : SY).length = A.1.length + 1 := by simp
    dsimp only at this
    rw [hl, show A.1.length + 1 + i + 1 = A.1.length + (i + 1) + 1 by omega] at this
    exact this
theorem spos_len : ∀ {w : List SQ} {A : SS}, (spos A w).1.length = A.1.length + w.length
  | [], _ => rfl
  | q :: w, A => by
    have := spos_len (w := w) (A := (A.1 ++ [(q.2.2, 0, 0)], A.2.1, A.2.2.1, A.2.2.2.1, ((q.1, q.2.1, (A.1.length + 1, 0)) :: A.2.2.2.2.1, A.2.2.2.2.2)))
    have hl : (A.1 ++ [(q.2.2, 0, 0)] : SY).length = A.1.length + 1 := by simp
    dsimp only at this
    rw [hl] at this
    show (spos _ w).1.length = A.1.length + (w.length + 1)
    rw [this]
    omega
def sini (k : Nat) (C : SCt) : SS := spos (sinY (cap C), sinF (cap C), sinE k 0 0 (cap C), [], ([], crf C)) (cwt C)
noncomputable def sctk (T : ST) (R : List SRl) (RC EC : SWl) (CS : List SCt) (C : SCt) (HN : List (Nat × List SHn)) (IT : List SIt) (fu : Nat) : Bool :=
  (((!Nat.beq C.1 xlaw && xca.elem C.1) && Nat.beq (sinE (xmx C.1) 0 0 (cap C)).length (xmx C.1)) && (CS.all (fun D => swsub (cww D).1 (cww C).1 && (cww D).2.all (fun q => swiR (cww C).2 q.1 q.2)) && (ccs C).all (fun cs => Nat.ble cs.1.length (sarn (cap C)) && Nat.ble cs.2.1.length (cwt C).length))) && ((List.range IT.length).all (fun j => sck T R RC EC CS C.2.1 C.2.2.1 C.1 C HN IT fu j) && ((senv IT IT.length []).all (fun e => Nat.ble (slev e) (sna C) && Nat.ble (sna C) e.2.2.1) && srn T R RC EC CS C.2.1 C.2.2.1 C.1 C HN (senv IT IT.length []) fu 0 true (sini (xmx C.1) C) ((cpr C).map (fun g => (g.2.1, g.1, g.2.2))) [] && (cpr C).all (fun g => Nat.blt g.1 (sna C) && Nat.blt g.2.1 (sna C))))
theorem xlen_of : ∀ {m : List XV} {n : Nat}, m.length = n → xlen m n = true
  | [], 0, _ => rfl
  | _ :: m, n + 1, e => xlen_of (m := m) (n := n) (Nat.succ.inj e)
  | [], _ + 1, e => by cases e
  | _ :: _, 0, e => by cases e
theorem scm_of {CS : List SCt} {C : SCt} {HN : List (Nat × List SHn)} {IT : List SIt} {fu : Nat} (hT : stab T R E RC EC) (hCS : ∀ D ∈ CS, scm l T R E nn uu D) (hd : sctk T R RC EC CS C HN IT fu = true) : scm l T R E nn uu C := by
  unfold sctk at hd
  rw [Bool.and_eq_true, Bool.and_eq_true, Bool.and_eq_true, Bool.and_eq_true, Bool.and_eq_true, Bool.and_eq_true, Bool.and_eq_true, Bool.and_eq_true] at hd
  obtain ⟨⟨⟨⟨d1, d2⟩, d3⟩, dw, dc⟩, d4, ⟨d5, d6⟩, d7⟩ := hd
  have d3 := Nat.eq_of_beq_eq_true d3
  have d5 : ∀ e ∈ senv IT IT.length [], slev e ≤ sna C ∧ sna C ≤ e.2.2.1 := fun e he => by
    have := List.all_eq_true.mp d5 e he
    rw [Bool.and_eq_true] at this
    exact ⟨Nat.le_of_ble_eq_true this.1, Nat.le_of_ble_eq_true this.2⟩
  have hWS : ∀ D ∈ CS, swsub (cww D).1 (cww C).1 = true ∧ ∀ c k, swiR (cww C).2 c k = false → swiR (cww D).2 c k = false := fun D hD => by
    have := List.all_eq_true.mp dw D hD
    rw [Bool.and_eq_true] at this
    refine ⟨this.1, fun c k hck => ?_⟩
    cases hv : swiR (cww D).2 c k with
    | false => rfl
    | true =>
      unfold swiR at hv
      obtain ⟨q, hq, hz⟩ := List.any_eq_true.mp hv
      rw [Bool.and_eq_true] at hz
      have y := List.all_eq_true.mp this.2 q hq
      rw [Nat.eq_of_beq_eq_true hz.1, Nat.eq_of_beq_eq_true hz.2, hck] at y
      cases y
  intro vs h ha hg hR hW hP
  have hbase : sst T nn uu (fun _ => 0) (fun _ => 0) (([], [], [], [], ([], crf C)) : SS) [] [] h := by
    refine ⟨(fun s q hq => by cases hq), (fun s q hq => by cases hq), ⟨rfl, fun _ => Or.inr rfl⟩, fun v hv => absurd hv List.not_mem_nil, rfl, fun v hv => absurd hv List.not_mem_nil, hg.1, fun q hq => absurd hq List.not_mem_nil, hR, hg.2.2.2⟩
  obtain ⟨ρ1, τ, -, -, m3, m4, m5, m6⟩ := sini_ok (cap C) vs (xmx C.1) [] [] _ _ ha hbase
  have hst1 : sst T nn uu ρ1 τ (sinY (cap C), sinF (cap C), sinE (xmx C.1) 0 0 (cap C), [], ([], crf C)) (xent (xmx C.1) vs) [] h := by
    obtain ⟨a1, a2, a3, a4, a5, a6, a7⟩ := m3
    exact ⟨a1, a2, m4, m5, rfl, fun v hv => absurd hv List.not_mem_nil, a7⟩
  obtain ⟨ρ, p1, p2, hst⟩ := spos_ok hst1 hW
  have p1 : sagree ρ1 ρ (sinY (cap C)).length := p1
  rw [sinY_len] at p1
  have hlen : (sini (xmx C.1) C).1.length = sna C := by
    show (spos _ (cwt C)).1.length = _
    rw [spos_len]
    show (sinY (cap C)).length + _ = _
    rw [sinY_len]
    rfl
  have hvals : svals C vs h ρ := by
    refine ⟨sargv_mv (n := sarn (cap C)) ha (by omega) p1 m6, fun i q hq => ?_⟩
    have := (hst.2.2.2.2.2.2.2.1 _ (spos_mem (A := (sinY (cap C), sinF (cap C), sinE (xmx C.1) 0 0 (cap C), [], ([], crf C))) hq)).1
    have this : (xI h q.1 q.2.1).toInt = ρ ((sinY (cap C)).length + i) + 0 := this
    rw [this, sinY_len]
    omega
  have hL : (xent (xmx C.1) vs).length = xmx C.1 := m4.1.trans d3
  have hit := sck_all (l := l) (nn := nn) (uu := uu) (ρa := ρ) (h0 := h) hT hCS hWS dc d4
  obtain ⟨pcR, L', rs, h', t1, t2, t3, t4, t5⟩ := srn_ok (l := l) (nn := nn) (uu := uu) (ρa := ρ) (h0 := h) hT hCS hWS dc (ρ0 := ρ) (n0 := sna C) d5 (senv_ok hit fun k hk => absurd hk List.not_mem_nil) fu 0 true _ _ [] ρ τ _ _ h d6 (Nat.le_of_eq hlen.symm) (Nat.le_of_eq hlen.symm) (fun _ _ => rfl) (fun _ _ => rfl) hL sframe.rf hg.2.1 hg.2.2.1 hst (fun z hz => by
    obtain ⟨g, hg', rfl⟩ := List.mem_map.mp hz
    have b := List.all_eq_true.mp d7 g hg'
    rw [Bool.and_eq_true] at b
    rw [hlen]
    exact ⟨Nat.le_of_ble_eq_true b.2, Nat.le_of_ble_eq_true b.1, hP ρ hvals g hg'⟩)
  refine ⟨ρ, rs, h', hvals, CX_ofT (fun e => ?_) d2 (xlen_of hL) t4 t2 t3 ⟨Nat.le_of_eq t5.1.2.2.2.1.symm, Nat.le_of_eq t5.1.2.2.2.2.symm⟩ t1, t5⟩
  rw [e] at d1
  revert d1
  decide +kernel
end SContract
