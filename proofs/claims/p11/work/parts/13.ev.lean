/-! A RUN WITHOUT UNKNOWNS: branches decided by the values themselves (constructors). -/
def xcb1 (c : ClassFile.Cond) (a b : Int32) : Bool := match c with
  | .eq => decide (a = b)
  | .ne => !decide (a = b)
  | .lt => decide (a < b)
  | .ge => decide (b ≤ a)
  | .gt => decide (b < a)
  | .le => decide (a ≤ b)
def xorc (i : Instr) (st : List XV) : List Nat := match i with
  | .ifCond c _ => match st with
    | .inl (.inl a) :: _ => [bif xcb1 c a 0 then 1 else 0]
    | _ => []
  | .if_icmp c _ => match st with
    | .inl (.inl b) :: .inl (.inl a) :: _ => [bif xcb1 c a b then 1 else 0]
    | _ => []
  | _ => []
def xib (i : Int32) (n : Nat) : Bool := !decide (i < 0) && Nat.blt i.toNatClampNeg n
theorem xib_spec {i : Int32} {n : Nat} (h : xib i n = true) : vp_in i n := by
  unfold xib at h
  rw [Bool.and_eq_true, Bool.not_eq_true'] at h
  rintro (z | z)
  · exact absurd z (of_decide_eq_false h.1)
  · have := Nat.le_of_ble_eq_true h.2
    omega
noncomputable def xcnd (full : Bool) (i : Instr) (aux : Nat) (st : List XV) (h : XH) : Bool := match i with
  | .iconst _ => true
  | .sipush _ => true
  | .goto _ => true
  | .iload _ => true
  | .aload _ => true
  | .istore _ => true
  | .astore _ => true
  | .iinc _ _ => true
  | .iadd => true
  | .isub => true
  | .imul => true
  | .dup => true
  | .ifCond _ _ => true
  | .if_icmp _ _ => true
  | .getfield _ => true
  | .getstatic k => full || (match st with
    | .inr (_, e) :: _ => !Nat.beq (xR h e k) 0
    | _ => false)
  | .putfield k => match st with
    | .inl (.inl v) :: .inr (kd, _) :: _ => !xbo kd k || (decide (v = 0) || decide (v = 1))
    | _ => false
  | .putstatic _ => true
  | .iaload => match st with
    | .inl (.inl i) :: .inr (kd, _) :: _ => xib i (kd - 10000)
    | _ => false
  | .baload => match st with
    | .inl (.inl i) :: .inr (kd, _) :: _ => bif xin 20000 kd then xib i (kd - 20000) else xib i (kd - 30000)
    | _ => false
  | .iastore => match st with
    | .inl (.inl _) :: .inl (.inl i) :: .inr (kd, _) :: _ => xib i (kd - 10000)
    | _ => false
  | .bastore => match st with
    | .inl (.inl _) :: .inl (.inl i) :: .inr (kd, _) :: _ => bif xin 20000 kd then xib i (kd - 20000) else xib i (kd - 30000)
    | _ => false
  | .arraylength => true
  | .newarray _ => match st with
    | .inl (.inl k) :: _ => !decide (k < 0) && Nat.beq k.toNatClampNeg aux
    | _ => false
  | .new _ => true
  | .monitorenter => true
  | .iand => true
  | .invokedynamic _ => true
  | .monitorexit => match st with
    | .inl (.inl k) :: .inl (.inl dp) :: .inr (k1, _) :: .inl (.inl s0) :: .inr (k0, _) :: _ => (!decide (s0 < 0) && (!decide (dp < 0) && !decide (k < 0))) && (Nat.ble (s0.toNatClampNeg + k.toNatClampNeg) (k0 - 10000) && Nat.ble (dp.toNatClampNeg + k.toNatClampNeg) (k1 - 10000))
    | _ => false
  | _ => false
section XCnd
variable {aux nx fr lo : Nat} {full : Bool} {L st : List XV} {h : XH} {r : XP}
theorem xjmp_cn {cc : Prop} {t : Int} {d : Bool} (hd : cc ↔ d = true) (hs : xjmp cc t nx L st h [bif d then 1 else 0] True = some r) : r.2.2.2.2.2 := by
  cases d with
  | true => exact Option.some.inj hs ▸ ⟨trivial, hd.mpr rfl⟩
  | false => exact Option.some.inj hs ▸ ⟨trivial, fun z => by cases hd.mp z⟩
theorem xif_cn {cd : ClassFile.Cond} {a b : Int32} {t : Int} (hs : xif cd a b t nx L st h [bif xcb1 cd a b then 1 else 0] True = some r) : r.2.2.2.2.2 := by
  cases cd with
  | eq => exact xjmp_cn (d := decide (a = b)) (by simp) hs
  | lt => exact xjmp_cn (d := decide (a < b)) (by simp) hs
  | ge => exact xjmp_cn (d := decide (b ≤ a)) (by simp) hs
  | gt => exact xjmp_cn (d := decide (b < a)) (by simp) hs
  | le => exact xjmp_cn (d := decide (a ≤ b)) (by simp) hs
  | ne =>
    have hs : xjmn (a = b) t nx L st h [bif !decide (a = b) then 1 else 0] True = some r := hs
    by_cases z : a = b
    · rw [decide_eq_true z] at hs
      exact Option.some.inj hs ▸ ⟨trivial, z⟩
    · rw [decide_eq_false z] at hs
      exact Option.some.inj hs ▸ ⟨trivial, z⟩
theorem xcnd_ok {i : Instr} (hs : xstep none full fr lo i aux nx L st h (xorc i st) True = some r) (hc : xcnd full i aux st h = true) : r.2.2.2.2.2 := by
  unfold xstep at hs
  cases i with
  | iconst k => exact Option.some.inj hs ▸ trivial
  | sipush k => exact Option.some.inj hs ▸ trivial
  | goto k => exact Option.some.inj hs ▸ trivial
  | iload k =>
    dsimp only at hs
    unfold xd_iload at hs
    split at hs
    · exact Option.some.inj hs ▸ trivial
    · cases hs
  | aload k =>
    dsimp only at hs
    unfold xd_aload at hs
    split at hs
    · exact xc2 (P := fun r => r.2.2.2.2.2) hs trivial
    · cases hs
  | istore k =>
    dsimp only at hs
    unfold xd_istore at hs
    split at hs
    · exact Option.some.inj hs ▸ trivial
    · cases hs
  | astore k =>
    dsimp only at hs
    unfold xd_astore at hs
    split at hs
    · exact Option.some.inj hs ▸ trivial
    · cases hs
  | iinc k v =>
    dsimp only at hs
    unfold xd_iinc at hs
    split at hs
    · exact Option.some.inj hs ▸ trivial
    · cases hs
  | iadd =>
    dsimp only at hs
    unfold xd_iadd at hs
    split at hs
    · exact Option.some.inj hs ▸ trivial
    · cases hs
  | isub =>
    dsimp only at hs
    unfold xd_isub at hs
    split at hs
    · exact Option.some.inj hs ▸ trivial
    · cases hs
  | imul =>
    dsimp only at hs
    unfold xd_imul at hs
    split at hs
    · exact Option.some.inj hs ▸ trivial
    · cases hs
  | dup =>
    dsimp only at hs
    unfold xd_dup at hs
    split at hs
    · exact Option.some.inj hs ▸ trivial
    · exact Option.some.inj hs ▸ trivial
    · cases hs
  | ifCond cd t =>
    dsimp only at hs
    unfold xd_if at hs
    split at hs
    · exact xif_cn hs
    · cases hs
  | if_icmp cd t =>
    dsimp only at hs
    unfold xd_icmp at hs
    split at hs
    · exact xif_cn hs
    · cases hs
  | getfield k =>
    dsimp only at hs
    unfold xd_getI at hs
    split at hs
    · exact xc (P := fun r => r.2.2.2.2.2) hs trivial (fun hs => xcno hs)
    · cases hs
  | getstatic k =>
    dsimp only at hs
    unfold xd_getR at hs
    split at hs
    · refine xcb (P := fun r => r.2.2.2.2.2) hs (fun hs => ?_) (fun hs => xcno hs)
      cases full with
      | true => exact Option.some.inj hs ▸ trivial
      | false =>
        refine Option.some.inj hs ▸ ⟨trivial, fun z => ?_⟩
        have hc : (!Nat.beq (xR h _ k) 0) = true := hc
        rw [z] at hc
        cases hc
    · cases hs
  | putfield k =>
    dsimp only at hs
    unfold xd_putI at hs
    split at hs
    · rename_i v0 kd e0 st0
      refine xcb (P := fun r => r.2.2.2.2.2) hs (fun hs => ?_) (fun hs => xcno hs)
      have hc : (!xbo kd k || (decide (v0 = 0) || decide (v0 = 1))) = true := hc
      cases hb : xbo kd k with
      | false =>
        rw [hb] at hs
        exact Option.some.inj hs ▸ trivial
      | true =>
        rw [hb] at hc hs
        have hc : (decide (v0 = 0) || decide (v0 = 1)) = true := hc
        rw [Bool.or_eq_true] at hc
        exact Option.some.inj hs ▸ ⟨trivial, hc.imp of_decide_eq_true of_decide_eq_true⟩
    · cases hs
  | putstatic k =>
    dsimp only at hs
    unfold xd_putR at hs
    split at hs
    · exact xc (P := fun r => r.2.2.2.2.2) hs trivial (fun hs => xcno hs)
    · cases hs
  | iaload =>
    dsimp only at hs
    unfold xd_iaload at hs
    split at hs
    · exact xcb (P := fun r => r.2.2.2.2.2) hs (fun hs => by cases hs) (fun hs => xc (P := fun r => r.2.2.2.2.2) hs ⟨trivial, xib_spec hc⟩ (fun hs => xcno hs))
    · cases hs
  | baload =>
    dsimp only at hs
    unfold xd_baload at hs
    split at hs
    · rename_i i0 kd e0 st0
      have hc : (bif xin 20000 kd then xib i0 (kd - 20000) else xib i0 (kd - 30000)) = true := hc
      cases h2 : xin 20000 kd with
      | true =>
        rw [h2] at hs hc
        have hc : xib i0 (kd - 20000) = true := hc
        exact Option.some.inj hs ▸ ⟨trivial, xib_spec hc⟩
      | false =>
        rw [h2] at hs hc
        have hc : xib i0 (kd - 30000) = true := hc
        have hc := xib_spec hc
        dsimp only [cond] at hs
        exact xc (P := fun r => r.2.2.2.2.2) hs ⟨trivial, hc⟩ (fun hs => xcno hs)
    · cases hs
  | iastore =>
    dsimp only at hs
    unfold xd_iastore at hs
    split at hs
    · exact xc (P := fun r => r.2.2.2.2.2) hs ⟨trivial, xib_spec hc⟩ (fun hs => xcno hs)
    · cases hs
  | bastore =>
    dsimp only at hs
    unfold xd_bastore at hs
    split at hs
    · rename_i v0 i0 kd e0 st0
      have hc : (bif xin 20000 kd then xib i0 (kd - 20000) else xib i0 (kd - 30000)) = true := hc
      cases h2 : xin 20000 kd with
      | true =>
        rw [h2] at hs hc
        have hc : xib i0 (kd - 20000) = true := hc
        exact Option.some.inj hs ▸ ⟨trivial, xib_spec hc⟩
      | false =>
        rw [h2] at hs hc
        have hc : xib i0 (kd - 30000) = true := hc
        have hc := xib_spec hc
        dsimp only [cond] at hs
        exact xc (P := fun r => r.2.2.2.2.2) hs ⟨trivial, hc⟩ (fun hs => xcno hs)
    · cases hs
  | arraylength =>
    dsimp only at hs
    unfold xd_len at hs
    split at hs
    · exact xcb (P := fun r => r.2.2.2.2.2) hs (fun hs => by cases hs) (fun hs => xc (P := fun r => r.2.2.2.2.2) hs trivial (fun hs => xc (P := fun r => r.2.2.2.2.2) hs trivial (fun hs => xc (P := fun r => r.2.2.2.2.2) hs trivial (fun hs => xcno hs))))
    · cases hs
  | newarray t =>
    dsimp only at hs
    unfold xd_newa at hs
    split at hs
    · rename_i k0 st0
      refine xc2 (P := fun r => r.2.2.2.2.2) hs ⟨trivial, ?_⟩
      have hc : (!decide (k0 < 0) && Nat.beq k0.toNatClampNeg aux) = true := hc
      rw [Bool.and_eq_true, Bool.not_eq_true'] at hc
      exact ⟨of_decide_eq_false hc.1, Nat.eq_of_beq_eq_true hc.2⟩
    · cases hs
  | new k =>
    dsimp only at hs
    cases full with
    | true => cases hs
    | false => exact Option.some.inj hs ▸ trivial
  | monitorenter =>
    dsimp only at hs
    unfold xd_obj at hs
    split at hs
    · exact xc (P := fun r => r.2.2.2.2.2) hs trivial (fun hs => xcno hs)
    · cases hs
  | iand =>
    dsimp only at hs
    unfold xd_iand at hs
    split at hs
    · exact Option.some.inj hs ▸ trivial
    · cases hs
  | invokedynamic t =>
    dsimp only at hs
    unfold xd_math at hs
    split at hs
    · exact xc (P := fun r => r.2.2.2.2.2) hs trivial (fun hs => xcno hs)
    · exact xc (P := fun r => r.2.2.2.2.2) hs trivial (fun hs => xcno hs)
    · exact xc (P := fun r => r.2.2.2.2.2) hs trivial (fun hs => xcno hs)
    · exact xc (P := fun r => r.2.2.2.2.2) hs trivial (fun hs => xcno hs)
    · exact xc (P := fun r => r.2.2.2.2.2) hs trivial (fun hs => xcno hs)
    · cases hs
  | monitorexit =>
    dsimp only at hs
    unfold xd_copy at hs
    split at hs
    · rename_i k dp k1 e1 s0 k0 e0 st0
      have hc : ((!decide (s0 < 0) && (!decide (dp < 0) && !decide (k < 0))) && (Nat.ble (s0.toNatClampNeg + k.toNatClampNeg) (k0 - 10000) && Nat.ble (dp.toNatClampNeg + k.toNatClampNeg) (k1 - 10000))) = true := hc
      simp only [Bool.and_eq_true, Bool.not_eq_true'] at hc
      obtain ⟨⟨a1, a2, a3⟩, a4, a5⟩ := hc
      exact xc (P := fun r => r.2.2.2.2.2) hs ⟨trivial, ⟨of_decide_eq_false a1, of_decide_eq_false a2, of_decide_eq_false a3⟩, Nat.le_of_ble_eq_true a4, Nat.le_of_ble_eq_true a5⟩ (fun hs => xcno hs)
    · cases hs
  | _ => cases hc
end XCnd
noncomputable def xrbB (M : Nat) (st : List XV) : Bool := !xrb M || (match st with
  | [.inl (.inl a)] => decide (a = 0) || decide (a = 1)
  | _ => true)
theorem xrbB_spec {M : Nat} {st : List XV} (h : xrbB M st = true) : xrac M st True := by
  unfold xrbB at h
  unfold xrac
  cases hb : xrb M with
  | false => trivial
  | true =>
    rw [hb] at h
    dsimp only [cond]
    split
    · have h : (decide (_ = (0 : Int32)) || decide (_ = (1 : Int32))) = true := h
      rw [Bool.or_eq_true] at h
      exact ⟨trivial, h.imp of_decide_eq_true of_decide_eq_true⟩
    · trivial
noncomputable def xev (full : Bool) : Nat → Nat → Nat → List Nat → Bool → Nat → Nat → List XV → List XV → XH → Option (Nat × List XV × List XV × XH)
  | 0, _, _, _, _, _, _, _, _, _ => none
  | n + 1, fr, lo, sp, fresh, M, pc, L, st, h =>
    bif (!fresh && sp.elem pc) then some (pc, L, st, h) else
    match xins M pc with
    | none => none
    | some (i, aux, nx) => match xcal i with
      | some K => bif xca.elem K && (Nat.blt 0 fr && (Nat.ble (xmx K + 19) lo && (Nat.ble (xw (xtake aux st []).2) 8 && (xrcv i K (xtake aux st []).1 && (xlen (xtake aux st []).1 aux && xlen (xent (xmx K) (xtake aux st []).1) (xmx K)))))) then
          match xev full n (fr - 1) (lo - (xmx K + 19)) [] false K 0 (xent (xmx K) (xtake aux st []).1) [] h with
          | some (_, _, v, h') => xev full n fr lo sp false M nx L (v ++ (xtake aux st []).2) h'
          | none => none
        else none
      | none => bif xisr i then (bif xend i st && xrbB M st then some (pc, L, st, h) else none) else
        match xstep none full fr lo i aux nx L st h (xorc i st) True with
        | some (pc', L', st', h', _, _) => bif xcnd full i aux st h then xev full n fr lo sp false M pc' L' st' h' else none
        | none => none
theorem xev_kp {full : Bool} : ∀ (n fr lo : Nat) (sp : List Nat) (fresh : Bool) (M pc : Nat) (L st : List XV) (h : XH) (r : Nat × List XV × List XV × XH),
    xev full n fr lo sp fresh M pc L st h = some r → (r.2.1.length = L.length ∧ XM h r.2.2.2) ∧ (sp.elem r.1 = true ∨ (XE M r.1 r.2.2.1 ∧ xrac M r.2.2.1 True))
  | 0, _, _, _, _, _, _, _, _, _, _, hs => by cases hs
  | n + 1, fr, lo, sp, fresh, M, pc, L, st, h, r, hs => by
    unfold xev at hs
    cases hst : (!fresh && sp.elem pc) with
    | true =>
      rw [hst] at hs
      obtain rfl := Option.some.inj hs
      rw [Bool.and_eq_true] at hst
      exact ⟨⟨rfl, XM.rf⟩, Or.inl hst.2⟩
    | false =>
      rw [hst] at hs
      dsimp only [cond] at hs
      split at hs
      · cases hs
      · rename_i i aux nx hi
        split at hs
        · rename_i K hK
          split at hs
          · split at hs
            · rename_i a1 a2 v h1 hc
              obtain ⟨⟨c1, c2⟩, c4⟩ := xev_kp n _ _ _ _ _ _ _ _ _ _ hc
              obtain ⟨⟨d1, d2⟩, d4⟩ := xev_kp n _ _ _ _ _ _ _ _ _ _ hs
              exact ⟨⟨d1, c2.tr d2⟩, d4⟩
            · cases hs
          · cases hs
        · split at hs
          · rename_i hr
            split at hs
            · rename_i he
              rw [Bool.and_eq_true] at he
              obtain rfl := Option.some.inj hs
              exact ⟨⟨rfl, XM.rf⟩, Or.inr ⟨⟨i, aux, nx, hi, hr, he.1⟩, xrbB_spec he.2⟩⟩
            · cases hs
          · split at hs
            · rename_i p1 p2 p3 p4 p5 p6 hx
              split at hs
              · obtain ⟨c1, c2, c3⟩ := xstep_kp hx
                obtain ⟨⟨d1, d2⟩, d4⟩ := xev_kp n _ _ _ _ _ _ _ _ _ _ hs
                exact ⟨⟨d1.trans c1, c2.tr d2⟩, d4⟩
              · cases hs
            · cases hs
theorem xev_ok {l : Launch} {full : Bool} : ∀ (n fr lo : Nat) (sp : List Nat) (fresh : Bool) (M pc : Nat) (L st : List XV) (h : XH) (r : Nat × List XV × List XV × XH),
    xev full n fr lo sp fresh M pc L st h = some r → ∀ {N U Ls : Nat} {p : Program} {e : Env} {R : Room} {s : State} {m : MethodId} {args : Array Value} {below : List Frame} {meth : Method} {c : Code} {Q : State → Prop} {D : va_G} {cA : Nat → ClassId} {base b : Nat} {xs : Nat → Int32} {ads0 : List Nat} {u0 : Nat} {gz : Nat × Nat},
    XC M N U Ls fr lo p l e R s m args below meth c D cA base b xs ads0 u0 gz → L.length = xmx M → xN r.2.2.2 ≤ N → xU r.2.2.2 ≤ U → WX p l e R s m args below meth c Q D cA base b Ls xs full ads0 u0 gz r.1 r.2.1 r.2.2.1 r.2.2.2 → WX p l e R s m args below meth c Q D cA base b Ls xs full ads0 u0 gz pc L st h
  | 0, _, _, _, _, _, _, _, _, _, _, hs => by cases hs
  | n + 1, fr, lo, sp, fresh, M, pc, L, st, h, r, hs => by
    intro C hL hN hU k
    unfold xev at hs
    cases hst : (!fresh && sp.elem pc) with
    | true =>
      rw [hst] at hs
      obtain rfl := Option.some.inj hs
      exact k
    | false =>
      rw [hst] at hs
      dsimp only [cond] at hs
      split at hs
      · cases hs
      · rename_i i aux nx hi
        split at hs
        · rename_i K hK
          split at hs
          · rename_i hcnd
            simp only [Bool.and_eq_true] at hcnd
            obtain ⟨b1, b2, b3, b4, b5, b7, b6⟩ := hcnd
            split at hs
            · rename_i a1 a2 v h1 hc
              obtain ⟨⟨c1, c2⟩, c4⟩ := xev_kp n _ _ _ _ _ _ _ _ _ _ hc
              obtain ⟨⟨d1, d2⟩, d4⟩ := xev_kp n _ _ _ _ _ _ _ _ _ _ hs
              have kk := xev_ok n _ _ _ _ _ _ _ _ _ _ hs C hL hN hU k
              have hXW := xwK (List.elem_iff.mp b1)
              have hb2 : 0 < fr := Nat.le_of_ble_eq_true b2
              have hb3 : xmx K + 19 ≤ lo := Nat.le_of_ble_eq_true b3
              rcases c4 with c4 | ⟨c4, c5⟩
              · cases c4
              · have hlenK := xlen_eq b6
                have hvl : v.length ≤ 1 := by
                  obtain ⟨i', x1, x2, -, y1, y2⟩ := c4
                  exact xend_len y2
                have hCX : CX l (fr - 1) (lo - (xmx K + 19)) full K (xtake aux st []).1 h v h1 := CX_of hXW c2 hvl hlenK c5 (fun {p e R s m args below meth c Q D cA base b Ls xs ads0} C' kend =>
                  xev_ok n _ _ _ _ _ _ _ _ _ _ hc C' hlenK (Nat.le_refl _) (Nat.le_refl _) (kend _ _ c4 (c1.trans hlenK)))
                exact WX_call C hi hK hL rfl (xlen_eq b7) b5 hCX (by omega) (by omega) (Nat.le_of_ble_eq_true b4) ⟨Nat.le_trans d2.1 hN, Nat.le_trans d2.2.1 hU⟩ kk
            · cases hs
          · cases hs
        · split at hs
          · split at hs
            · obtain rfl := Option.some.inj hs
              exact k
            · cases hs
          · split at hs
            · rename_i p1 p2 p3 p4 p5 p6 hx
              split at hs
              · rename_i hcn
                obtain ⟨c1, c2, c3⟩ := xstep_kp hx
                obtain ⟨⟨d1, d2⟩, d4⟩ := xev_kp n _ _ _ _ _ _ _ _ _ _ hs
                have kk := xev_ok n _ _ _ _ _ _ _ _ _ _ hs C (c1.trans hL) hN hU k
                exact xstep_ok (Or.inl rfl) C hi hL hx ⟨Nat.le_trans d2.1 hN, Nat.le_trans d2.2.1 hU⟩ (xcnd_ok hx hcn) kk
              · cases hs
            · cases hs
abbrev xlaw : Nat := 288
/-! THE METHOD'S COURSE. XB: from here, in method M, the machine comes to a return with a value and a heap that F allows. -/
noncomputable def XB (l : Launch) (Ls : Nat) (xs : Nat → Int32) (fr lo : Nat) (full : Bool) (M N U : Nat) (F : List XV → XH → Prop) (pc : Nat) (L st : List XV) (h : XH) : Prop :=
  ∀ (p : Program) (e : Env) (R : Room) (s : State) (m : MethodId) (args : Array Value) (below : List Frame) (meth : Method) (c : Code) (Q : State → Prop) (D : va_G) (cA : Nat → ClassId) (base b : Nat) (ads0 : List Nat) (u0 : Nat) (gz : Nat × Nat),
    XC M N U Ls fr lo p l e R s m args below meth c D cA base b xs ads0 u0 gz → (∀ (gz' : Nat × Nat) (pcR : Nat) (L' rs : List XV) (h' : XH), (M = xlaw ∨ gz' = gz) → XE M pcR rs → F rs h' → L'.length = xmx M → WX p l e R s m args below meth c Q D cA base b Ls xs full ads0 u0 gz' pcR L' rs h') → WX p l e R s m args below meth c Q D cA base b Ls xs full ads0 u0 gz pc L st h
section XCourse
variable {l : Launch} {Ls : Nat} {xs : Nat → Int32} {fr lo : Nat} {full : Bool} {M N U : Nat} {F : List XV → XH → Prop} {pc : Nat} {L st : List XV} {h : XH}
theorem XB_ev {n : Nat} {sp : List Nat} {r : Nat × List XV × List XV × XH} (hs : xev full n fr lo sp true M pc L st h = some r) (hL : L.length = xmx M) (hN : xN r.2.2.2 ≤ N) (hU : xU r.2.2.2 ≤ U) (k : XB l Ls xs fr lo full M N U F r.1 r.2.1 r.2.2.1 r.2.2.2) : XB l Ls xs fr lo full M N U F pc L st h :=
  fun p e R s m args below meth c Q D cA base b ads0 u0 gz C hk => xev_ok n _ _ _ _ _ _ _ _ _ _ hs C hL hN hU (k _ _ _ _ _ _ _ _ _ _ _ _ _ _ _ _ _ C hk)
theorem XB_path {sc : XSc} {inl : List Nat} (hin : ∀ K ∈ inl, XW K) (hsc : sc = none ∨ sc = some (Ls, xs)) {n : Nat} {sp o : List Nat} {r : XP} (hs : xrun full inl sc n fr lo sp true M pc L st h o True = some r) (hL : L.length = xmx M) (hN : xN r.2.2.2.1 ≤ N) (hU : xU r.2.2.2.1 ≤ U) (ha : r.2.2.2.2.2) (k : XB l Ls xs fr lo full M N U F r.1 r.2.1 r.2.2.1 r.2.2.2.1) : XB l Ls xs fr lo full M N U F pc L st h :=
  fun p e R s m args below meth c Q D cA base b ads0 u0 gz C hk => xrun_ok hin _ n _ _ _ _ _ _ _ _ _ _ _ _ hs hsc C hL hN hU ha (k _ _ _ _ _ _ _ _ _ _ _ _ _ _ _ _ _ C hk)
theorem XB_ret (he : XE M pc st) (hF : F st h) (hL : L.length = xmx M) : XB l Ls xs fr lo full M N U F pc L st h := fun p e R s m args below meth c Q D cA base b ads0 u0 gz C hk => hk gz pc L st h (Or.inr rfl) he hF hL
theorem XB_call {i : Instr} {aux nx K fr' lo' : Nat} {vs rs rest : List XV} {h' : XH} (hi : xins M pc = some (i, aux, nx)) (hK : xcal i = some K) (hL : L.length = xmx M) (hst : xtake aux st [] = (vs, rest)) (hvl : vs.length = aux) (hrc : xrcv i K vs = true)
    (hX : CX l fr' lo' full K vs h rs h') (hfr : fr' + 1 ≤ fr) (hlo : lo' + (xmx K + 19) ≤ lo) (hw : xw rest ≤ 8) (hN : xN h' ≤ N ∧ xU h' ≤ U) (k : XB l Ls xs fr lo full M N U F nx L (rs ++ rest) h') : XB l Ls xs fr lo full M N U F pc L st h :=
  fun p e R s m args below meth c Q D cA base b ads0 u0 gz C hk => WX_call C hi hK hL hst hvl hrc hX hfr hlo hw hN (k _ _ _ _ _ _ _ _ _ _ _ _ _ _ _ _ _ C hk)
theorem XB_callg {gc : Nat × Nat} {N' U' : Nat} {i : Instr} {aux nx K fr' lo' : Nat} {vs rs rest : List XV} {h' : XH} (hM : M = xlaw) (hi : xins M pc = some (i, aux, nx)) (hK : xcal i = some K) (hL : L.length = xmx M) (hst : xtake aux st [] = (vs, rest)) (hvl : vs.length = aux) (hrc : xrcv i K vs = true)
    (hX : CXg gc l fr' lo' full K vs h rs h') (hfr : fr' + 1 ≤ fr) (hlo : lo' + (xmx K + 19) ≤ lo) (hw : xw rest ≤ 8) (hN : xN h' ≤ N' ∧ xU h' ≤ U') (hN' : N' + gc.1 ≤ N ∧ U' + gc.2 ≤ U) (k : XB l Ls xs fr lo full M N' U' F nx L (rs ++ rest) h') : XB l Ls xs fr lo full M N U F pc L st h :=
  fun p e R s m args below meth c Q D cA base b ads0 u0 gz C hk => WX_callg C hi hK hL hst hvl hrc hX hfr hlo hw ⟨by omega, by omega⟩ (k _ _ _ _ _ _ _ _ _ _ _ _ _ _ _ _ _ ⟨C.1, C.2.1, C.2.2.1, C.2.2.2.1, C.2.2.2.2.1, C.2.2.2.2.2.1, C.2.2.2.2.2.2.1, C.2.2.2.2.2.2.2.1, C.2.2.2.2.2.2.2.2.1, C.2.2.2.2.2.2.2.2.2.1, C.2.2.2.2.2.2.2.2.2.2.1, C.2.2.2.2.2.2.2.2.2.2.2.1, (by have := C.2.2.2.2.2.2.2.2.2.2.2.2.1; show N' + (gz.1 + gc.1) ≤ _; omega), (by have := C.2.2.2.2.2.2.2.2.2.2.2.2.2; show U' + (gz.2 + gc.2) ≤ _; omega)⟩ (fun gz' pcR L' rs h' _ he hF hL => hk gz' pcR L' rs h' (Or.inl hM) he hF hL))
theorem CX_run {K : Nat} (hne : K ≠ xlaw) {vs rs : List XV} {h h' : XH} (hW : XW K) (hX : XM h h') (hrs : rs.length ≤ 1) (hlen : (xent (xmx K) vs).length = xmx K) (hbo : xrac K rs True) (hB : ∀ (Ls : Nat) (xs : Nat → Int32), XB l Ls xs fr lo full K (xN h') (xU h') (fun r g => r = rs ∧ g = h') 0 (xent (xmx K) vs) [] h) : CX l fr lo full K vs h rs h' :=
  CX_of hW hX hrs hlen hbo (fun C hk => hB _ _ _ _ _ _ _ _ _ _ _ _ _ _ _ _ _ _ _ C (fun gz' pcR L' r g hg he hF hL => by obtain ⟨rfl, rfl⟩ := hF; obtain rfl := hg.resolve_left hne; exact hk pcR L' he hL))
end XCourse
