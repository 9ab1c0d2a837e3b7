/-! THE ROWS that make cells, ask a length, copy, and the library's. -/
section XMake
variable {p : Program} {l : Launch} {e : Env} {R : Room} {s : State} {m : MethodId} {args : Array Value} {below : List Frame} {meth : Method} {c : Code} {Q : State → Prop}
variable {D : va_G} {cA : Nat → ClassId} {base b Ls : Nat} {xs : Nat → Int32} {full : Bool} {ads0 : List Nat} {gz : Nat × Nat} {u0 N U fr lo M pc aux nx : Nat} {L st : List XV} {h : XH} {o : List Nat} {acc : Prop} {r : XP} {sc : XSc}

theorem xo_len (hsc : sc = none ∨ sc = some (Ls, xs)) (C : XC M N U Ls fr lo p l e R s m args below meth c D cA base b xs ads0 u0 gz) (hi : xins M pc = some (.arraylength, aux, nx)) (hs : xd_len sc nx L st h o acc = some r) (ha : r.2.2.2.2.2) (k : WX p l e R s m args below meth c Q D cA base b Ls xs full ads0 u0 gz r.1 r.2.1 r.2.2.1 r.2.2.2.1) : acc ∧ WX p l e R s m args below meth c Q D cA base b Ls xs full ads0 u0 gz pc L st h := by
  obtain ⟨q, hq, hn, hd⟩ := xdecode hi
  have hq : q ∈ [(.arraylength, 1)] := hq
  obtain rfl := List.mem_singleton.mp hq
  subst hn
  unfold xd_len at hs
  split at hs
  · rename_i kd e0 st0
    cases hk : Nat.beq kd 50 with
    | true =>
      rw [hk] at hs
      have hk : kd = 50 := Nat.eq_of_beq_eq_true hk
      rcases hsc with rfl | rfl
      · cases hs
      obtain rfl := Option.some.inj hs
      refine ⟨ha, fun t H locs ls h1 h2 h3 h4 h5 h6 => ?_⟩
      rcases h5.1 with ⟨-, z⟩ | ⟨z, -⟩
      · subst z
        have ea : xcv (ads0 ++ t) b (.inr (kd, 1)) = .ref b := congrArg Value.ref xad_1
        rw [List.map_cons, ea]
        exact va_slen C.2.1 C.2.2.1 C.2.2.2.2.2.2.2.2.2.1.1 (Nat.lt_of_lt_of_le C.2.2.2.2.2.2.2.2.2.1.2.1 C.2.2.2.2.2.2.2.2.2.1.2.2) (Nat.not_le.mpr C.2.2.2.2.2.2.2.2.2.1.2.1) h2 hd (k t H locs ls h1 h2 h3 h4 ⟨trivial, h5.2⟩ h6)
      · exact absurd hk z
    | false =>
      rw [hk] at hs
      cases hk : xin 10000 kd with
      | true =>
        rw [hk] at hs
        obtain rfl := Option.some.inj hs
        refine ⟨ha, fun t H locs ls h1 h2 h3 h4 h5 h6 => ?_⟩
        rcases h5.1 with ⟨z, -⟩ | ⟨-, o1, o2, o3⟩
        · have := xin_spec hk; omega
        have he := xws_at (cA := cA) (ads := ads0 ++ t) (b := b) o1 o2
        rw [xce_i o3 hk] at he
        have ea : xcv (ads0 ++ t) b (.inr (kd, e0)) = .ref ((ads0 ++ t).getD (e0 - 2) 0) := congrArg Value.ref (xad_at o1)
        rw [List.map_cons, ea]
        exact va_alen C.2.1 C.2.2.1 C.2.2.2.2.2.2.2.1 h1.2.1 (e0 - 2) 0 he rfl rfl hd (k t H locs ls h1 h2 h3 h4 ⟨trivial, h5.2⟩ h6)
      | false =>
        rw [hk] at hs
        cases hk : xin 20000 kd with
        | true =>
          rw [hk] at hs
          obtain rfl := Option.some.inj hs
          refine ⟨ha, fun t H locs ls h1 h2 h3 h4 h5 h6 => ?_⟩
          rcases h5.1 with ⟨z, -⟩ | ⟨-, o1, o2, o3⟩
          · have := xin_spec hk; omega
          have he := xws_at (cA := cA) (ads := ads0 ++ t) (b := b) o1 o2
          rw [xce_b o3 hk] at he
          have ea : xcv (ads0 ++ t) b (.inr (kd, e0)) = .ref ((ads0 ++ t).getD (e0 - 2) 0) := congrArg Value.ref (xad_at o1)
          rw [List.map_cons, ea]
          exact va_alen C.2.1 C.2.2.1 C.2.2.2.2.2.2.2.1 h1.2.1 (e0 - 2) 1 he rfl rfl hd (k t H locs ls h1 h2 h3 h4 ⟨trivial, h5.2⟩ h6)
        | false =>
          rw [hk] at hs
          cases hk : xin 40000 kd with
          | true =>
            rw [hk] at hs
            obtain rfl := Option.some.inj hs
            refine ⟨ha, fun t H locs ls h1 h2 h3 h4 h5 h6 => ?_⟩
            rcases h5.1 with ⟨z, -⟩ | ⟨-, o1, o2, o3⟩
            · have := xin_spec hk; omega
            have he := xws_at (cA := cA) (ads := ads0 ++ t) (b := b) o1 o2
            rw [xce_l o3 hk] at he
            have ea : xcv (ads0 ++ t) b (.inr (kd, e0)) = .ref ((ads0 ++ t).getD (e0 - 2) 0) := congrArg Value.ref (xad_at o1)
            rw [List.map_cons, ea]
            exact va_alen C.2.1 C.2.2.1 C.2.2.2.2.2.2.2.1 h1.2.1 (e0 - 2) 3 he rfl rfl hd (k t H locs ls h1 h2 h3 h4 ⟨trivial, h5.2⟩ h6)
          | false =>
            rw [hk] at hs
            cases hs
  · cases hs

theorem xS_all {h : XH} {kd n c : Nat} (hc : c ≠ xN h) : xS (xall h kd n) c = xS h c := by
  show (if c = h.2.2.2.2.1 then kd else h.2.2.2.1 c) = _
  rw [if_neg hc]
theorem xS_new {h : XH} {kd n : Nat} : xS (xall h kd n) (xN h) = kd := by
  show (if xN h = h.2.2.2.2.1 then kd else h.2.2.2.1 (xN h)) = _
  rw [if_pos rfl]
theorem xok_all {h : XH} {kd n : Nat} : ∀ k e, xok h k e → xok (xall h kd n) k e := fun k e q => by
  refine ⟨q.1, Nat.lt_succ_of_lt q.2.1, ?_⟩
  rw [xS_all (Nat.ne_of_lt q.2.1)]
  exact q.2.2
/-- the cells that are there stay as they are when one is made -/
theorem xce_all {cA : Nat → ClassId} {ads : List Nat} {b q : Nat} {h : XH} {kd n c : Nat} (hl : ads.length + 2 = xN h) (h1 : 2 ≤ c) (h2 : c < xN h)
    (h5 : ∀ k, xS h c < 10000 → k < xnf (xS h c - 1) → xft (xS h c - 1) k = 2 → xR h c k = 0 ∨ (2 ≤ xR h c k ∧ xR h c k < xN h)) (h6 : ∀ k, k < xnf (xS h c - 1) → xft (xS h c - 1) k ≤ 2 ∨ 10000 ≤ xS h c) : xce cA (ads ++ [q]) b (xall h kd n) c = xce cA ads b h c := by
  unfold xce
  rw [xS_all (Nat.ne_of_lt h2)]
  by_cases hz : xS h c < 10000
  · rw [if_pos hz, if_pos hz]
    refine congrArg Sum.inr (congrArg (Prod.mk _) (List.map_congr_left fun k hk => ?_))
    have hk := List.mem_range.mp hk
    have hf := (h6 k hk).resolve_right (by omega)
    unfold xfv
    rcases (show xft (xS h c - 1) k = 0 ∨ xft (xS h c - 1) k = 1 ∨ xft (xS h c - 1) k = 2 by omega) with z | z | z
    · rw [z]; rfl
    · rw [z]; rfl
    · have h7 := h5 k hz hk z
      rw [z]
      show (if xR h c k = 0 then Value.null else Value.ref (xad (ads ++ [q]) b (xR h c k))) = (if xR h c k = 0 then Value.null else Value.ref (xad ads b (xR h c k)))
      by_cases hr : xR h c k = 0
      · rw [if_pos hr, if_pos hr]
      · rw [if_neg hr, if_neg hr]
        obtain ⟨g1, g2⟩ := h7.resolve_left hr
        rw [xad_app g1 (by omega)]
  · rw [if_neg hz, if_neg hz]
    rfl
theorem xcl_kind {D : va_G} {ws : va_W} {H : Heap} {i a ci : Nat} {fs : List Value} (hP : va_P D xcl ws H) (h : ws[i]? = some (a, .inr (ci, fs))) : ∃ q, xcl[ci]? = some q := by
  obtain ⟨q, h1, -⟩ := hP i _ h
  exact ⟨q, h1⟩
theorem xws_all {D : va_G} {cA : Nat → ClassId} {base b Ls : Nat} {xs : Nat → Int32} {full : Bool} {ads : List Nat} {h : XH} {H : Heap} {kd n q : Nat} (r : xrel D cA base b Ls xs full ads h H) : xws cA ads b h ++ [(q, xce cA (ads ++ [q]) b (xall h kd n) (xN h))] = xws cA (ads ++ [q]) b (xall h kd n) := by
  obtain ⟨r1, r2, r3, r4, r5, r6⟩ := r
  unfold xws
  have e1 : xN (xall h kd n) - 2 = (xN h - 2) + 1 := by
    show xN h + 1 - 2 = _
    omega
  rw [e1, List.range_succ, List.map_append]
  refine congr (congrArg _ (List.map_congr_left fun i hi => ?_)) ?_
  · have hi := List.mem_range.mp hi
    refine Prod.ext (getD_app (by omega)).symm (xce_all r1 (by omega) (by omega) (fun k k1 k2 k3 => ?_) (fun k hk => ?_)).symm
    · rcases r5 (i + 2) k (by omega) (by omega) k1 k2 k3 with ⟨z, -⟩ | ⟨z1, z2, -⟩
      · exact Or.inl z
      · exact Or.inr ⟨z1, z2⟩
    · rcases r4 (i + 2) (by omega) (by omega) with z | z
      · have he := xws_at (cA := cA) (ads := ads) (b := b) (show 2 ≤ i + 2 by omega) (show i + 2 < xN h by omega)
        rw [xce_obj (ci := xS h (i + 2) - 1) (by omega) (by omega)] at he
        obtain ⟨w, hw⟩ := xcl_kind r2 he
        obtain ⟨-, n1, -, -, n4, -⟩ := xcl_facts hw
        exact Or.inl (n4 k (by rw [n1]; exact hk))
      · exact Or.inr z.1
  · show [_] = [_]
    have e2 : xN h - 2 + 2 = xN h := by omega
    refine congrArg (fun z => [z]) (Prod.ext ?_ (congrArg (xce cA (ads ++ [q]) b (xall h kd n)) e2.symm))
    show q = (ads ++ [q]).getD (xN h - 2) 0
    rw [show xN h - 2 = ads.length by omega]
    simp
theorem xrel_all {D : va_G} {cA : Nat → ClassId} {base b Ls : Nat} {xs : Nat → Int32} {full : Bool} {ads : List Nat} {h : XH} {H H1 : Heap} {kd n q : Nat} (r : xrel D cA base b Ls xs full ads h H) (hk : xkok kd) (hfull : full = false ∨ 10000 ≤ kd)
    (hP : va_P D xcl (xws cA (ads ++ [q]) b (xall h kd n)) H1) (hD : va_D (fun q : Nat => base ≤ q) (xws cA (ads ++ [q]) b (xall h kd n))) : xrel D cA base b Ls xs full (ads ++ [q]) (xall h kd n) H1 := by
  obtain ⟨r1, r2, r3, r4, r5, r6⟩ := r
  refine ⟨?_, hP, hD, fun c c1 c2 => ?_, fun c k c1 c2 c3 c4 c5 => ?_, fun c k hc => ?_⟩
  · rw [List.length_append]
    show _ = xN h + 1
    simp
    omega
  · have c2 : c < xN h + 1 := c2
    by_cases hc : c = xN h
    · subst hc; rw [xS_new]; exact hk
    · rw [xS_all hc]; exact r4 c c1 (by omega)
  · have c2 : c < xN h + 1 := c2
    by_cases hc : c = xN h
    · subst hc
      left
      refine ⟨(r6 _ k (Nat.le_refl _)).2.2, ?_⟩
      rw [xS_new] at c3
      rcases hfull with z | z
      · exact z
      · omega
    · rw [xS_all hc] at c3 c4 c5 ⊢
      rcases r5 c k c1 (by omega) c3 c4 c5 with z | z
      · exact Or.inl z
      · exact Or.inr (xok_all _ _ z)
  · have hc : xN h + 1 ≤ c := hc
    exact r6 c k (by omega)

theorem xo_newa {v : ArrayType} (hN : xN r.2.2.2.1 ≤ N ∧ xU r.2.2.2.1 ≤ U) (C : XC M N U Ls fr lo p l e R s m args below meth c D cA base b xs ads0 u0 gz) (hi : xins M pc = some (.newarray v, aux, nx)) (hs : xd_newa v aux nx L st h o acc = some r) (ha : r.2.2.2.2.2) (k : WX p l e R s m args below meth c Q D cA base b Ls xs full ads0 u0 gz r.1 r.2.1 r.2.2.1 r.2.2.2.1) : acc ∧ WX p l e R s m args below meth c Q D cA base b Ls xs full ads0 u0 gz pc L st h := by
  obtain ⟨q, hq, hn, hd⟩ := xdecode hi
  have hq : q ∈ [(.newarray v, 2)] := hq
  obtain rfl := List.mem_singleton.mp hq
  subst hn
  unfold xd_newa at hs
  split at hs
  · rename_i k0 st0
    cases hk : (Nat.beq (xkd v aux) 0 || (Nat.ble 10000 aux || Nat.beq aux 0)) with
    | true => rw [hk] at hs; cases hs
    | false =>
      rw [hk] at hs
      rw [Bool.or_eq_false_iff, Bool.or_eq_false_iff] at hk
      have hk1 : aux < 10000 := by
        rcases Nat.lt_or_ge aux 10000 with z | z
        · exact z
        · rw [Nat.ble_eq_true_of_le z] at hk; cases hk.2.1
      have hk0 : aux ≠ 0 := fun z => by rw [z] at hk; cases hk.2.2
      obtain rfl := Option.some.inj hs
      obtain ⟨ha0, ha1, ha2⟩ := ha
      have ha3 : xN h + 1 ≤ N := hN.1
      have ha4 : xU h + aux ≤ U := hN.2
      refine ⟨ha0, fun t H locs ls h1 h2 h3 h4 h5 h6 => ?_⟩
      have hlen := h1.1
      have hcl : xN h + gz.1 - (ads0.length + 2) + 1 ≤ R.cells := by
        have := C.2.2.2.2.2.2.2.2.2.2.2.2.1
        simp only [List.length_append] at hlen
        omega
      have hsl : xU h + gz.2 - u0 + aux ≤ R.slots := by
        have := C.2.2.2.2.2.2.2.2.2.2.2.2.2
        omega
      have e1 : xN (xall h (xkd v aux) aux) + gz.1 - (ads0.length + 2) = xN h + gz.1 - (ads0.length + 2) + 1 := by
        show xN h + 1 + gz.1 - _ = _
        simp only [List.length_append] at hlen
        omega
      have e2 : xU (xall h (xkd v aux) aux) + gz.2 - u0 = xU h + gz.2 - u0 + aux := by
        show xU h + aux + gz.2 - _ = _
        omega
      have hA : ∀ q : Nat, s.heap.size ≤ q → base ≤ q := fun q z => Nat.le_trans C.2.2.2.2.2.2.2.2.2.1.2.2 z
      have fin : ∀ (q : Nat) (H1 : Heap), xkok (xkd v aux) → va_P D xcl (xws cA (ads0 ++ t) b h ++ [(q, xce cA (ads0 ++ t ++ [q]) b (xall h (xkd v aux) aux) (xN h))]) H1 → va_D (fun q : Nat => base ≤ q) (xws cA (ads0 ++ t) b h ++ [(q, xce cA (ads0 ++ t ++ [q]) b (xall h (xkd v aux) aux) (xN h))]) → va_S (fun q : Nat => base ≤ q) s.heap H1 locs → 10000 ≤ xkd v aux →
          W p l e R s m args below meth c H1 locs (xN h + gz.1 - (ads0.length + 2) + 1) (xU h + gz.2 - u0 + aux) Q (F0 m (pc + 2) ls (.ref q :: st0.map (xcv (ads0 ++ t) b))) := by
        intro q H1 hkk hP hD hS hge
        rw [xws_all h1] at hP hD
        have kk := k (t ++ [q]) H1 locs ls (by rw [← List.append_assoc]; exact xrel_all h1 hkk (Or.inr hge) hP hD) hS (by rw [← List.append_assoc]; exact xlr_app hlen h4 h3) (xvl_mono xok_all h4) ⟨Or.inr ⟨by omega, by omega, Nat.lt_succ_self _, xS_new⟩, xvs_mono xok_all h5.2⟩ ⟨by show _ ≤ xU h + aux; omega, by dsimp only; rw [e1]; exact hcl, by dsimp only; rw [e2]; exact hsl⟩
        dsimp only at kk
        rw [e1, e2] at kk
        have e3 : (Sum.inr (xkd v aux, xN h) :: st0 : List XV).map (xcv (ads0 ++ (t ++ [q])) b) = .ref q :: st0.map (xcv (ads0 ++ t) b) := by
          rw [List.map_cons, ← List.append_assoc, xcvs_app hlen h5.2]
          refine congrArg (· :: _) (congrArg Value.ref ?_)
          rw [xad_at (by omega), show xN h - 2 = (ads0 ++ t).length by omega]
          simp
        rw [e3] at kk
        exact kk
      have t_int : v = .int → W p l e R s m args below meth c H locs (xN h + gz.1 - (ads0.length + 2)) (xU h + gz.2 - u0) Q (F0 m pc ls (.int k0 :: st0.map (xcv (ads0 ++ t) b))) := by
        intro hv
        subst hv
        have hke : xkd .int aux = 10000 + aux := rfl
        have hby : aux * componentBytes .int ≤ 536870912 := by
          have : componentBytes FieldType.int ≤ 8 := by decide
          exact Nat.le_trans (Nat.mul_le_mul_left aux this) (by omega)
        refine va_newa (atype := .int) (ty := .int) (a0 := (aux, .inl (fun _ => 0))) C.2.1 C.2.2.1 (C.2.2.2.2.2.1 _ xT_int) rfl C.2.2.2.2.2.2.2.1 h1.2.1 h1.2.2.1 h2 hA (fun _ => rfl) ha1 ha2 hby hcl hsl hd (fun q cA' H1 hK hP hD hS => ?_)
        have ec : cA' = cA 0 := by
          have z1 : s.vm.findClass ("[" ++ (FieldType.int).toString) = some cA' := (hK.2 4 (cA', .int) rfl).2
          have z2 : s.vm.findClass ("[" ++ (FieldType.int).toString) = some (cA 0) := (C.2.2.2.2.2.2.2.1.2 0 (cA 0, .int) rfl).2
          exact Option.some.inj (z1.symm.trans z2)
        subst ec
        have ex : xce cA (ads0 ++ t ++ [q]) b (xall h (xkd .int aux) aux) (xN h) = .inl (cA 0, aux, .inl (fun _ => 0)) := by
          have hx : xin 10000 (xkd .int aux) = true := by
            unfold xin
            rw [hke, Bool.and_eq_true]
            exact ⟨Nat.ble_eq_true_of_le (by omega), Nat.ble_eq_true_of_le (by omega)⟩
          rw [xce_i (h := xall h (xkd .int aux) aux) xS_new hx]
          show Sum.inl (cA 0, 10000 + aux - 10000, _) = _
          rw [Nat.add_sub_cancel_left]
          refine congrArg Sum.inl (congrArg (Prod.mk _) (congrArg (Prod.mk _) ?_))
          have : xI h (xN h) = fun _ => 0 := funext fun j => (h1.2.2.2.2.2 (xN h) j (Nat.le_refl _)).1
          exact congrArg Sum.inl this
        rw [← ex] at hP hD
        exact fin q H1 (Or.inr (by omega)) hP hD hS (by omega)
      have t_byte : v = .byte → W p l e R s m args below meth c H locs (xN h + gz.1 - (ads0.length + 2)) (xU h + gz.2 - u0) Q (F0 m pc ls (.int k0 :: st0.map (xcv (ads0 ++ t) b))) := by
        intro hv
        subst hv
        have hke : xkd .byte aux = 20000 + aux := rfl
        have hby : aux * componentBytes .byte ≤ 536870912 := by
          have : componentBytes FieldType.byte ≤ 8 := by decide
          exact Nat.le_trans (Nat.mul_le_mul_left aux this) (by omega)
        refine va_newa (atype := .byte) (ty := .byte) (a0 := (aux, .inl (fun _ => 0))) C.2.1 C.2.2.1 (C.2.2.2.2.2.1 _ xT_byte) rfl C.2.2.2.2.2.2.2.1 h1.2.1 h1.2.2.1 h2 hA (fun _ => rfl) ha1 ha2 hby hcl hsl hd (fun q cA' H1 hK hP hD hS => ?_)
        have ec : cA' = cA 1 := by
          have z1 : s.vm.findClass ("[" ++ (FieldType.byte).toString) = some cA' := (hK.2 4 (cA', .byte) rfl).2
          have z2 : s.vm.findClass ("[" ++ (FieldType.byte).toString) = some (cA 1) := (C.2.2.2.2.2.2.2.1.2 1 (cA 1, .byte) rfl).2
          exact Option.some.inj (z1.symm.trans z2)
        subst ec
        have ex : xce cA (ads0 ++ t ++ [q]) b (xall h (xkd .byte aux) aux) (xN h) = .inl (cA 1, aux, .inl (fun _ => 0)) := by
          have hx : xin 20000 (xkd .byte aux) = true := by
            unfold xin
            rw [hke, Bool.and_eq_true]
            exact ⟨Nat.ble_eq_true_of_le (by omega), Nat.ble_eq_true_of_le (by omega)⟩
          rw [xce_b (h := xall h (xkd .byte aux) aux) xS_new hx]
          show Sum.inl (cA 1, 20000 + aux - 20000, _) = _
          rw [Nat.add_sub_cancel_left]
          refine congrArg Sum.inl (congrArg (Prod.mk _) (congrArg (Prod.mk _) ?_))
          have : xI h (xN h) = fun _ => 0 := funext fun j => (h1.2.2.2.2.2 (xN h) j (Nat.le_refl _)).1
          exact congrArg Sum.inl this
        rw [← ex] at hP hD
        exact fin q H1 (Or.inr (by omega)) hP hD hS (by omega)
      have t_boolean : v = .boolean → W p l e R s m args below meth c H locs (xN h + gz.1 - (ads0.length + 2)) (xU h + gz.2 - u0) Q (F0 m pc ls (.int k0 :: st0.map (xcv (ads0 ++ t) b))) := by
        intro hv
        subst hv
        have hke : xkd .boolean aux = 30000 + aux := rfl
        have hby : aux * componentBytes .boolean ≤ 536870912 := by
          have : componentBytes FieldType.boolean ≤ 8 := by decide
          exact Nat.le_trans (Nat.mul_le_mul_left aux this) (by omega)
        refine va_newa (atype := .boolean) (ty := .boolean) (a0 := (aux, .inl (fun _ => 0))) C.2.1 C.2.2.1 (C.2.2.2.2.2.1 _ xT_boolean) rfl C.2.2.2.2.2.2.2.1 h1.2.1 h1.2.2.1 h2 hA (fun _ => rfl) ha1 ha2 hby hcl hsl hd (fun q cA' H1 hK hP hD hS => ?_)
        have ec : cA' = cA 2 := by
          have z1 : s.vm.findClass ("[" ++ (FieldType.boolean).toString) = some cA' := (hK.2 4 (cA', .boolean) rfl).2
          have z2 : s.vm.findClass ("[" ++ (FieldType.boolean).toString) = some (cA 2) := (C.2.2.2.2.2.2.2.1.2 2 (cA 2, .boolean) rfl).2
          exact Option.some.inj (z1.symm.trans z2)
        subst ec
        have ex : xce cA (ads0 ++ t ++ [q]) b (xall h (xkd .boolean aux) aux) (xN h) = .inl (cA 2, aux, .inl (fun _ => 0)) := by
          have hx : xin 30000 (xkd .boolean aux) = true := by
            unfold xin
            rw [hke, Bool.and_eq_true]
            exact ⟨Nat.ble_eq_true_of_le (by omega), Nat.ble_eq_true_of_le (by omega)⟩
          rw [xce_z (h := xall h (xkd .boolean aux) aux) xS_new hx]
          show Sum.inl (cA 2, 30000 + aux - 30000, _) = _
          rw [Nat.add_sub_cancel_left]
          refine congrArg Sum.inl (congrArg (Prod.mk _) (congrArg (Prod.mk _) ?_))
          have : xI h (xN h) = fun _ => 0 := funext fun j => (h1.2.2.2.2.2 (xN h) j (Nat.le_refl _)).1
          exact congrArg Sum.inl this
        rw [← ex] at hP hD
        exact fin q H1 (Or.inr (by omega)) hP hD hS (by omega)
      have t_long : v = .long → W p l e R s m args below meth c H locs (xN h + gz.1 - (ads0.length + 2)) (xU h + gz.2 - u0) Q (F0 m pc ls (.int k0 :: st0.map (xcv (ads0 ++ t) b))) := by
        intro hv
        subst hv
        have hke : xkd .long aux = 40000 + aux := rfl
        have hby : aux * componentBytes .long ≤ 536870912 := by
          have : componentBytes FieldType.long ≤ 8 := by decide
          exact Nat.le_trans (Nat.mul_le_mul_left aux this) (by omega)
        refine va_newa (atype := .long) (ty := .long) (a0 := (aux, .inr (.inl (fun _ => 0)))) C.2.1 C.2.2.1 (C.2.2.2.2.2.1 _ xT_long) rfl C.2.2.2.2.2.2.2.1 h1.2.1 h1.2.2.1 h2 hA (fun _ => rfl) ha1 ha2 hby hcl hsl hd (fun q cA' H1 hK hP hD hS => ?_)
        have ec : cA' = cA 3 := by
          have z1 : s.vm.findClass ("[" ++ (FieldType.long).toString) = some cA' := (hK.2 4 (cA', .long) rfl).2
          have z2 : s.vm.findClass ("[" ++ (FieldType.long).toString) = some (cA 3) := (C.2.2.2.2.2.2.2.1.2 3 (cA 3, .long) rfl).2
          exact Option.some.inj (z1.symm.trans z2)
        subst ec
        have ex : xce cA (ads0 ++ t ++ [q]) b (xall h (xkd .long aux) aux) (xN h) = .inl (cA 3, aux, .inr (.inl (fun _ => 0))) := by
          have hx : xin 40000 (xkd .long aux) = true := by
            unfold xin
            rw [hke, Bool.and_eq_true]
            exact ⟨Nat.ble_eq_true_of_le (by omega), Nat.ble_eq_true_of_le (by omega)⟩
          rw [xce_l (h := xall h (xkd .long aux) aux) xS_new hx]
          show Sum.inl (cA 3, 40000 + aux - 40000, _) = _
          rw [Nat.add_sub_cancel_left]
          refine congrArg Sum.inl (congrArg (Prod.mk _) (congrArg (Prod.mk _) ?_))
          have : xL h (xN h) = fun _ => 0 := funext fun j => (h1.2.2.2.2.2 (xN h) j (Nat.le_refl _)).2.1
          exact congrArg (fun z => Sum.inr (Sum.inl z)) this
        rw [← ex] at hP hD
        exact fin q H1 (Or.inr (by omega)) hP hD hS (by omega)
      cases v with
      | int => exact t_int rfl
      | byte => exact t_byte rfl
      | boolean => exact t_boolean rfl
      | long => exact t_long rfl
      | _ => exact absurd hk.1 (fun z => by cases z)
  · cases hs

theorem xo_new {v : Nat} (hfull : full = false) (hN : xN r.2.2.2.1 ≤ N ∧ xU r.2.2.2.1 ≤ U) (C : XC M N U Ls fr lo p l e R s m args below meth c D cA base b xs ads0 u0 gz) (hi : xins M pc = some (.new v, aux, nx)) (hs : xd_new v nx L st h o acc = some r) (ha : r.2.2.2.2.2) (k : WX p l e R s m args below meth c Q D cA base b Ls xs full ads0 u0 gz r.1 r.2.1 r.2.2.1 r.2.2.2.1) : acc ∧ WX p l e R s m args below meth c Q D cA base b Ls xs full ads0 u0 gz pc L st h := by
  obtain ⟨q, hq, hn, hd⟩ := xdecode hi
  subst hn
  obtain ⟨x, hx, hf, rfl⟩ := xfilt hq
  rw [Bool.and_eq_true] at hf
  have f1 : x.1 = xow M := Nat.eq_of_beq_eq_true hf.1
  have f2 : x.2.2.1 = v := Nat.eq_of_beq_eq_true hf.2
  have hk := List.all_eq_true.mp xnl_ok x hx
  cases hcl : xcl[x.2.2.1]? with
  | none => rw [hcl] at hk; cases hk
  | some w =>
    rw [hcl] at hk
    have hk := xgood_spec hk
    have hl13 : x.2.2.1 < 13 := (List.getElem?_eq_some_iff.mp hcl).1
    obtain ⟨⟨n0, n0'⟩, n1, n2, n3, n4, n5, n6⟩ := xcl_facts hcl
    unfold xd_new at hs
    obtain rfl := Option.some.inj hs
    have ha0 := ha
    have ha3 : xN h + 1 ≤ N := hN.1
    have ha4 : xU h + xnf v ≤ U := hN.2
    refine ⟨ha0, fun t H locs ls h1 h2 h3 h4 h5 h6 => ?_⟩
    have hlen := h1.1
    have hcl2 : xN h + gz.1 - (ads0.length + 2) + 1 ≤ R.cells := by
      have := C.2.2.2.2.2.2.2.2.2.2.2.2.1
      simp only [List.length_append] at hlen
      omega
    have hsl : xU h + gz.2 - u0 + w.2.2 ≤ R.slots := by
      have := C.2.2.2.2.2.2.2.2.2.2.2.2.2
      rw [n1, f2]
      omega
    have hA : ∀ q : Nat, s.heap.size ≤ q → base ≤ q := fun q z => Nat.le_trans C.2.2.2.2.2.2.2.2.2.1.2.2 z
    have hw := C.2.2.2.2.2.1 _ hk
    rw [f1] at hw
    refine va_new (ci := x.2.2.1) (fs := (List.range (xnf x.2.2.1)).map (xfv (ads0 ++ t) b (xall h (v + 1) (xnf v)) (xN h) x.2.2.1)) C.2.1 C.2.2.1 C.2.2.2.2.2.1 n2 (xty x.2.2.1) n3 C.2.2.2.2.1 hw (C.2.2.2.2.2.1 _ n0) (C.2.2.2.2.2.1 _ n0') C.2.2.2.2.2.2.2.1 h1.2.1 h1.2.2.1 h2 hA hcl (fun j hj => ?_) hcl2 hsl hd (fun q H1 hP hD hS => ?_)
    · have hj2 : j < xnf x.2.2.1 := by rw [← n1]; exact hj
      have z0 := h1.2.2.2.2.2 (xN h) j (Nat.le_refl _)
      unfold vp_V
      rw [List.getD_eq_getElem?_getD, lmap_at hj2]
      show _ = xfv (ads0 ++ t) b (xall h (v + 1) (xnf v)) (xN h) x.2.2.1 j
      have hf := n4 j hj
      unfold xfv
      rcases (show xft x.2.2.1 j = 0 ∨ xft x.2.2.1 j = 1 ∨ xft x.2.2.1 j = 2 by omega) with z | z | z
      · rw [z]
        show _ = Value.int (xI h (xN h) j)
        rw [z0.1]
        rcases xtc_0 z with y | y <;> rw [y] <;> rfl
      · rw [z]
        show _ = Value.long (xL h (xN h) j)
        rw [z0.2.1, xtc_1 z]
        rfl
      · rw [z]
        show _ = if xR h (xN h) j = 0 then Value.null else _
        rw [if_pos z0.2.2]
        rcases xtc_2 z with ⟨a, y⟩ | ⟨a, y⟩ <;> rw [y] <;> rfl
    · have ex : xce cA (ads0 ++ t ++ [q]) b (xall h (v + 1) (xnf v)) (xN h) = .inr (x.2.2.1, (List.range (xnf x.2.2.1)).map (xfv (ads0 ++ t) b (xall h (v + 1) (xnf v)) (xN h) x.2.2.1)) := by
        rw [xce_obj (h := xall h (v + 1) (xnf v)) (ci := x.2.2.1) (by rw [xS_new, f2]) hl13]
        refine congrArg Sum.inr (congrArg (Prod.mk _) (List.map_congr_left fun j hj => ?_))
        have z0 := (h1.2.2.2.2.2 (xN h) j (Nat.le_refl _)).2.2
        unfold xfv
        rw [show xR (xall h (v + 1) (xnf v)) (xN h) j = 0 from z0]
        rfl
      rw [← ex] at hP hD
      rw [xws_all h1] at hP hD
      have e1 : xN (xall h (v + 1) (xnf v)) + gz.1 - (ads0.length + 2) = xN h + gz.1 - (ads0.length + 2) + 1 := by
        show xN h + 1 + gz.1 - _ = _
        simp only [List.length_append] at hlen
        omega
      have e2 : xU (xall h (v + 1) (xnf v)) + gz.2 - u0 = xU h + gz.2 - u0 + w.2.2 := by
        show xU h + xnf v + gz.2 - _ = _
        rw [n1, f2]
        omega
      have kk := k (t ++ [q]) H1 locs ls (by rw [← List.append_assoc]; exact xrel_all h1 (Or.inl (by omega)) (Or.inl hfull) hP hD) hS (by rw [← List.append_assoc]; exact xlr_app hlen h4 h3) (xvl_mono xok_all h4) ⟨Or.inr ⟨by omega, by omega, Nat.lt_succ_self _, xS_new⟩, xvs_mono xok_all h5⟩ ⟨by show _ ≤ xU h + xnf v; omega, by dsimp only; rw [e1]; exact hcl2, by dsimp only; rw [e2]; exact hsl⟩
      dsimp only at kk
      rw [e1, e2] at kk
      have e3 : (Sum.inr (v + 1, xN h) :: st : List XV).map (xcv (ads0 ++ (t ++ [q])) b) = .ref q :: st.map (xcv (ads0 ++ t) b) := by
        rw [List.map_cons, ← List.append_assoc, xcvs_app hlen h5]
        refine congrArg (· :: _) (congrArg Value.ref ?_)
        rw [xad_at (by omega), show xN h - 2 = (ads0 ++ t).length by omega]
        simp
      rw [e3] at kk
      exact kk

theorem xw_cat {ads : List Nat} {b : Nat} : ∀ st : List XV, ((st.map (xcv ads b)).map fun v => v.category).sum = xw st
  | [] => rfl
  | .inl (.inl _) :: st => by
    rw [List.map_cons, List.map_cons, List.sum_cons, xw_cat st]
    exact Nat.add_comm _ _
  | .inl (.inr _) :: st => by
    rw [List.map_cons, List.map_cons, List.sum_cons, xw_cat st]
    exact Nat.add_comm _ _
  | .inr _ :: st => by
    rw [List.map_cons, List.map_cons, List.sum_cons, xw_cat st]
    exact Nat.add_comm _ _
theorem xroom {n : Nat} (hs : (Nat.blt 0 fr && Nat.ble n lo) = true) (hR : fr ≤ R.frames ∧ lo ≤ R.locals) : 1 ≤ R.frames ∧ n ≤ R.locals := by
  rw [Bool.and_eq_true] at hs
  exact ⟨Nat.le_trans (Nat.le_of_ble_eq_true hs.1) hR.1, Nat.le_trans (Nat.le_of_ble_eq_true hs.2) hR.2⟩

theorem xo_obj (hL : L.length = xmx M) (C : XC M N U Ls fr lo p l e R s m args below meth c D cA base b xs ads0 u0 gz) (hi : xins M pc = some (.monitorenter, aux, nx)) (hs : xd_obj fr lo nx L st h o acc = some r) (ha : r.2.2.2.2.2) (k : WX p l e R s m args below meth c Q D cA base b Ls xs full ads0 u0 gz r.1 r.2.1 r.2.2.1 r.2.2.2.1) : acc ∧ WX p l e R s m args below meth c Q D cA base b Ls xs full ads0 u0 gz pc L st h := by
  obtain ⟨q, hq, hn, hd⟩ := xdecode hi
  subst hn
  obtain ⟨x, hx, hf, rfl⟩ := xfilt hq
  have f1 : x.1 = xow M := Nat.eq_of_beq_eq_true hf
  have hw := C.2.2.2.2.2.1 _ (xgood_spec (List.all_eq_true.mp xol_ok x hx))
  rw [f1] at hw
  unfold xd_obj at hs
  split at hs
  · rename_i v0 st0
    cases hk : (Nat.blt 0 fr && Nat.ble (xw st0 + 12) lo) with
    | false => rw [hk] at hs; cases hs
    | true =>
      rw [hk] at hs
      obtain ⟨g1, g2⟩ := xroom hk ⟨C.2.2.2.2.2.2.2.2.2.2.1, C.2.2.2.2.2.2.2.2.2.2.2.1⟩
      obtain rfl := Option.some.inj hs
      refine ⟨ha, fun t H locs ls h1 h2 h3 h4 h5 h6 => ?_⟩
      exact W.objInit C.2.1 C.2.2.1 C.2.2.2.2.1 hw (C.2.2.2.2.2.1 _ xT_obi) (C.2.2.2.2.2.1 _ xT_obc) rfl (by rw [C.2.2.2.1, ← hL]; exact h3.1) rfl hd g1 (by show 2 * 0 + _ + 12 ≤ _; rw [xw_cat]; omega) (k t H locs ls h1 h2 h3 h4 h5.2 h6)
  · cases hs

theorem xo_copy (hL : L.length = xmx M) (C : XC M N U Ls fr lo p l e R s m args below meth c D cA base b xs ads0 u0 gz) (hi : xins M pc = some (.monitorexit, aux, nx)) (hs : xd_copy fr lo nx L st h o acc = some r) (ha : r.2.2.2.2.2) (k : WX p l e R s m args below meth c Q D cA base b Ls xs full ads0 u0 gz r.1 r.2.1 r.2.2.1 r.2.2.2.1) : acc ∧ WX p l e R s m args below meth c Q D cA base b Ls xs full ads0 u0 gz pc L st h := by
  obtain ⟨q, hq, hn, hd⟩ := xdecode hi
  subst hn
  obtain ⟨x, hx, hf, rfl⟩ := xfilt hq
  have f1 : x.1 = xow M := Nat.eq_of_beq_eq_true hf
  have hw := C.2.2.2.2.2.1 _ (xgood_spec (List.all_eq_true.mp xcp_ok x hx))
  rw [f1] at hw
  unfold xd_copy at hs
  split at hs
  · rename_i k0 dp kd1 e1 s0 kd0 e0 st0
    cases hk : ((Nat.blt 0 fr && Nat.ble (xw st0 + 40) lo) && (xin 10000 kd0 && xin 10000 kd1)) with
    | false => rw [hk] at hs; cases hs
    | true =>
      rw [hk] at hs
      rw [Bool.and_eq_true, Bool.and_eq_true (xin 10000 kd0)] at hk
      obtain ⟨hk, x0, x1⟩ := hk
      obtain ⟨g1, g2⟩ := xroom hk ⟨C.2.2.2.2.2.2.2.2.2.2.1, C.2.2.2.2.2.2.2.2.2.2.2.1⟩
      obtain rfl := Option.some.inj hs
      obtain ⟨ha0, ⟨a1, a2, a3⟩, a4, a5⟩ := ha
      refine ⟨ha0, fun t H locs ls h1 h2 h3 h4 h5 h6 => ?_⟩
      rcases h5.2.2.1 with ⟨z, -⟩ | ⟨-, o1, o2, o3⟩
      · have := xin_spec x1; omega
      rcases h5.2.2.2.2.1 with ⟨z, -⟩ | ⟨-, p1, p2, p3⟩
      · have := xin_spec x0; omega
      have he1 := xws_at (cA := cA) (ads := ads0 ++ t) (b := b) o1 o2
      rw [xce_i o3 x1] at he1
      have he0 := xws_at (cA := cA) (ads := ads0 ++ t) (b := b) p1 p2
      rw [xce_i p3 x0] at he0
      have ea1 : xcv (ads0 ++ t) b (.inr (kd1, e1)) = .ref ((ads0 ++ t).getD (e1 - 2) 0) := congrArg Value.ref (xad_at o1)
      have ea0 : xcv (ads0 ++ t) b (.inr (kd0, e0)) = .ref ((ads0 ++ t).getD (e0 - 2) 0) := congrArg Value.ref (xad_at p1)
      rw [List.map_cons, List.map_cons, List.map_cons, List.map_cons, List.map_cons, ea0, ea1]
      refine va_copyi C.2.1 C.2.2.1 (by rw [C.2.2.2.1, ← hL]; exact h3.1.symm) C.2.2.2.2.1 hw (C.2.2.2.2.2.1 _ xT_nat) (C.2.2.2.2.2.1 _ xT_cst) (C.2.2.2.2.2.1 _ xT_sys) C.2.2.2.2.2.2.2.1 h1.2.1 h1.2.2.1 h2 (e0 - 2) (e1 - 2) 0 0 he0 he1 rfl rfl rfl a1 a2 a3 a4 a5 (fun _ _ => rfl) g1 (by rw [xw_cat]; show _ + (7 + 11) ≤ _; omega) hd (fun H1 locs1 hP hD hS1 => ?_)
      have e9 := xws_set (cA := cA) (ads := ads0 ++ t) (b := b) (h := h) (h' := xrowI h e1 (va_cpy (xI h e0) (xI h e1) s0.toNatClampNeg dp.toNatClampNeg k0.toNatClampNeg)) o1 o2 rfl (x := .inl (cA 0, kd1 - 10000, .inl (va_cpy (xI h e0) (xI h e1) s0.toNatClampNeg dp.toNatClampNeg k0.toNatClampNeg))) ?_ (fun c' hc' _ => ?_)
      · rw [e9] at hP hD
        exact k t H1 locs1 ls (xrel_wI h1 o1 o2 (fun c' hc' => xr_ne hc') hP hD) hS1 h3 (xvl_mono (h := h) (h' := xrowI h e1 (va_cpy (xI h e0) (xI h e1) s0.toNatClampNeg dp.toNatClampNeg k0.toNatClampNeg)) (fun _ _ z => z) h4) (xvs_mono (h := h) (h' := xrowI h e1 (va_cpy (xI h e0) (xI h e1) s0.toNatClampNeg dp.toNatClampNeg k0.toNatClampNeg)) (fun _ _ z => z) h5.2.2.2.2.2) h6
      · rw [xce_i (h := xrowI h e1 (va_cpy (xI h e0) (xI h e1) s0.toNatClampNeg dp.toNatClampNeg k0.toNatClampNeg)) o3 x1]
        exact congrArg Sum.inl (congrArg (Prod.mk _) (congrArg (Prod.mk _) (congrArg Sum.inl xr_self)))
      · exact xce_congr rfl (xr_ne hc') rfl rfl
  · cases hs

theorem xo_math {v : Nat} (hL : L.length = xmx M) (C : XC M N U Ls fr lo p l e R s m args below meth c D cA base b xs ads0 u0 gz) (hi : xins M pc = some (.invokedynamic v, aux, nx)) (hs : xd_math fr lo v nx L st h o acc = some r) (ha : r.2.2.2.2.2) (k : WX p l e R s m args below meth c Q D cA base b Ls xs full ads0 u0 gz r.1 r.2.1 r.2.2.1 r.2.2.2.1) : acc ∧ WX p l e R s m args below meth c Q D cA base b Ls xs full ads0 u0 gz pc L st h := by
  obtain ⟨q, hq, hn, hd⟩ := xdecode hi
  subst hn
  obtain ⟨x, hx, hf, rfl⟩ := xfilt hq
  rw [Bool.and_eq_true] at hf
  have f1 : x.1 = xow M := Nat.eq_of_beq_eq_true hf.1
  have f2 : x.2.2.1 = v := Nat.eq_of_beq_eq_true hf.2
  have hw := C.2.2.2.2.2.1 _ (xgood_spec (List.all_eq_true.mp xal_ok x hx))
  rw [f1, f2] at hw
  have hR : fr ≤ R.frames ∧ lo ≤ R.locals := ⟨C.2.2.2.2.2.2.2.2.2.2.1, C.2.2.2.2.2.2.2.2.2.2.2.1⟩
  unfold xd_math at hs
  split at hs
  · rename_i st0
    cases hk : (Nat.blt 0 fr && Nat.ble (xw st0 + 15) lo) with
    | false => rw [hk] at hs; cases hs
    | true =>
      rw [hk] at hs
      obtain ⟨g1, g2⟩ := xroom hk hR
      obtain rfl := Option.some.inj hs
      refine ⟨ha, fun t H locs ls h1 h2 h3 h4 h5 h6 => ?_⟩
      have hlen := h1.1
      have hcc : xN h + gz.1 - (ads0.length + 2) ≤ R.cells := h6.2.1
      have hss : xU h + gz.2 - u0 ≤ R.slots := h6.2.2
      exact va_mmin C.2.1 C.2.2.1 (by rw [C.2.2.2.1, ← hL]; exact h3.1.symm) C.2.2.2.2.1 hw (C.2.2.2.2.2.1 _ xT_ms0) (C.2.2.2.2.2.1 _ xT_math) (C.2.2.2.2.2.1 _ xT_mc0) g1 (by rw [xw_cat]; omega) hcc hss hd (k t H locs ls h1 h2 h3 h4 ⟨trivial, h5.2.2⟩ h6)
  · rename_i st0
    cases hk : (Nat.blt 0 fr && Nat.ble (xw st0 + 15) lo) with
    | false => rw [hk] at hs; cases hs
    | true =>
      rw [hk] at hs
      obtain ⟨g1, g2⟩ := xroom hk hR
      obtain rfl := Option.some.inj hs
      refine ⟨ha, fun t H locs ls h1 h2 h3 h4 h5 h6 => ?_⟩
      have hlen := h1.1
      have hcc : xN h + gz.1 - (ads0.length + 2) ≤ R.cells := h6.2.1
      have hss : xU h + gz.2 - u0 ≤ R.slots := h6.2.2
      exact va_mmax C.2.1 C.2.2.1 (by rw [C.2.2.2.1, ← hL]; exact h3.1.symm) C.2.2.2.2.1 hw (C.2.2.2.2.2.1 _ xT_ms1) (C.2.2.2.2.2.1 _ xT_math) (C.2.2.2.2.2.1 _ xT_mc1) g1 (by rw [xw_cat]; omega) hcc hss hd (k t H locs ls h1 h2 h3 h4 ⟨trivial, h5.2.2⟩ h6)
  · rename_i st0
    cases hk : (Nat.blt 0 fr && Nat.ble (xw st0 + 15) lo) with
    | false => rw [hk] at hs; cases hs
    | true =>
      rw [hk] at hs
      obtain ⟨g1, g2⟩ := xroom hk hR
      obtain rfl := Option.some.inj hs
      refine ⟨ha, fun t H locs ls h1 h2 h3 h4 h5 h6 => ?_⟩
      have hlen := h1.1
      have hcc : xN h + gz.1 - (ads0.length + 2) ≤ R.cells := h6.2.1
      have hss : xU h + gz.2 - u0 ≤ R.slots := h6.2.2
      exact va_mabs C.2.1 C.2.2.1 (by rw [C.2.2.2.1, ← hL]; exact h3.1.symm) C.2.2.2.2.1 hw (C.2.2.2.2.2.1 _ xT_ms2) (C.2.2.2.2.2.1 _ xT_math) (C.2.2.2.2.2.1 _ xT_mc2) g1 (by rw [xw_cat]; omega) hcc hss hd (k t H locs ls h1 h2 h3 h4 ⟨trivial, h5.2⟩ h6)
  · rename_i st0
    cases hk : (Nat.blt 0 fr && Nat.ble (xw st0 + 15) lo) with
    | false => rw [hk] at hs; cases hs
    | true =>
      rw [hk] at hs
      obtain ⟨g1, g2⟩ := xroom hk hR
      obtain rfl := Option.some.inj hs
      refine ⟨ha, fun t H locs ls h1 h2 h3 h4 h5 h6 => ?_⟩
      have hlen := h1.1
      have hcc : xN h + gz.1 - (ads0.length + 2) ≤ R.cells := h6.2.1
      have hss : xU h + gz.2 - u0 ≤ R.slots := h6.2.2
      exact va_mabs_long C.2.1 C.2.2.1 (by rw [C.2.2.2.1, ← hL]; exact h3.1.symm) C.2.2.2.2.1 hw (C.2.2.2.2.2.1 _ xT_ms3) (C.2.2.2.2.2.1 _ xT_math) (C.2.2.2.2.2.1 _ xT_mc3) g1 (by rw [xw_cat]; omega) hcc hss hd (k t H locs ls h1 h2 h3 h4 ⟨trivial, h5.2⟩ h6)
  · rename_i st0
    cases hk : (Nat.blt 0 fr && Nat.ble (xw st0 + 15) lo) with
    | false => rw [hk] at hs; cases hs
    | true =>
      rw [hk] at hs
      obtain ⟨g1, g2⟩ := xroom hk hR
      obtain rfl := Option.some.inj hs
      refine ⟨ha, fun t H locs ls h1 h2 h3 h4 h5 h6 => ?_⟩
      have hlen := h1.1
      have hcc : xN h + gz.1 - (ads0.length + 2) ≤ R.cells := h6.2.1
      have hss : xU h + gz.2 - u0 ≤ R.slots := h6.2.2
      exact va_mmax_long C.2.1 C.2.2.1 (by rw [C.2.2.2.1, ← hL]; exact h3.1.symm) C.2.2.2.2.1 hw (C.2.2.2.2.2.1 _ xT_ms4) (C.2.2.2.2.2.1 _ xT_math) (C.2.2.2.2.2.1 _ xT_mc4) g1 (by rw [xw_cat]; omega) hcc hss hd (k t H locs ls h1 h2 h3 h4 ⟨trivial, h5.2.2⟩ h6)
  · cases hs

end XMake
