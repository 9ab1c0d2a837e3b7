/-! CALLS. CX: a method's contract: from the heap h, with vs, it gives rs back (nothing or one value) and leaves the heap h'. XE: at a return. XB: from here the method comes to a return with rs and the heap h'. -/
def XE (M pc : Nat) (st : List XV) : Prop := ∃ i aux nx, xins M pc = some (i, aux, nx) ∧ xisr i = true ∧ xend i st = true
noncomputable def XPc (l : Launch) (D : va_G) (cA : Nat → ClassId) (base b Ls : Nat) (xs : Nat → Int32) (full : Bool) (ads : List Nat) (vs : List XV) (h : XH) (U : State) : Prop :=
  xrel D cA base b Ls xs full ads h U.heap ∧ va_K D xcl (xtys cA) U ∧ (∀ w ∈ xNw, va_Nw w U) ∧ va_X b Ls xs U U.heap ∧ b < base ∧ base ≤ U.heap.size ∧ xvs h vs ∧ XZ l base U U.heap
noncomputable def XQc (D : va_G) (cA : Nat → ClassId) (base b Ls : Nat) (xs : Nat → Int32) (full : Bool) (ads : List Nat) (rs : List XV) (h' : XH) : Array Value → State → Outcome → State → Prop := fun _ st oc t =>
  ∃ ads' : List Nat, oc = .returned ((rs.map (xcv (ads ++ ads') b)).head?) ∧ xrel D cA base b Ls xs full (ads ++ ads') h' t.heap ∧ xvs h' rs ∧ va_F (fun q : Nat => base ≤ q) st t
noncomputable def CXg (gc : Nat × Nat) (l : Launch) (fr lo : Nat) (full : Bool) (M : Nat) (vs : List XV) (h : XH) (rs : List XV) (h' : XH) : Prop :=
  (XM h h' ∧ rs.length ≤ 1) ∧ ∀ (D : va_G) (cA : Nat → ClassId) (base b Ls : Nat) (xs : Nat → Int32) (ads : List Nat),
    Met l (xnm M) (Cond.code (xnm M) (xbc M) (xmx M) (xrt M) :: xT) ({ frames := fr, cells := xN h' - xN h + gc.1, slots := xU h' - xU h + gc.2, locals := lo } : Room)
      (va_Pc (vs.map (xcv ads b)) (XPc l D cA base b Ls xs full ads vs h)) (XQc D cA base b Ls xs full ads rs h') (xN h' - xN h + gc.1) (xU h' - xU h + gc.2) (fun q : Nat => base ≤ q)
/-- without ghosts -/
abbrev CX (l : Launch) (fr lo : Nat) (full : Bool) (M : Nat) (vs : List XV) (h : XH) (rs : List XV) (h' : XH) : Prop := CXg (0, 0) l fr lo full M vs h rs h'
theorem xT_good {w : Cond} (h : w ∈ xT) : (w.onTables && w.keeps) = true ∨ ∃ ty, w = .arrayClass ty := good_of_word (List.mem_filter.mp h).2
theorem xT_in {y : MethodName} {c : ByteArray} {n : Nat} {r : Option FieldType} (h : Cond.code y c n r ∈ xT) : GoodIn xT (Cond.code y c n r :: xT) := fun w hw => by
  rcases List.mem_cons.mp hw with rfl | hw
  · exact ⟨h, xT_good h⟩
  · exact ⟨hw, xT_good hw⟩
theorem xNw_tab {w : Cond} (h : w ∈ xNw) : ∃ a i x q, w = .methodLinkNest a i x q := by
  obtain ⟨e, he, rfl⟩ := List.mem_map.mp h
  have h2 := (List.mem_filter.mp he).2
  unfold xmw
  rw [h2]
  exact ⟨_, _, _, _, rfl⟩
theorem xNw_same {u U : State} (h : u.vm = U.vm) (q : ∀ w ∈ xNw, va_Nw w u) : ∀ w ∈ xNw, va_Nw w U := fun w hw => by
  obtain ⟨a, i, x, z, rfl⟩ := xNw_tab hw
  exact va_Nw.same rfl h (q _ hw)
theorem xNw_warm {s U : State} (h : s.WarmedH U.vm) (q : ∀ w ∈ xNw, va_Nw w s) : ∀ w ∈ xNw, va_Nw w U := fun w hw => by
  obtain ⟨a, i, x, z, rfl⟩ := xNw_tab hw
  exact va_Nw.warmM h (q _ hw)
theorem XPc_blind {l : Launch} {D : va_G} {cA : Nat → ClassId} {base b Ls : Nat} {xs : Nat → Int32} {full : Bool} {ads : List Nat} {vs : List XV} {h : XH} {av : List Value} : FrameBlind (va_Pc av (XPc l D cA base b Ls xs full ads vs h)) := fun a U g mk q => by
  obtain ⟨q0, q1, q2, q3, q4, q5, q6, q7, q8⟩ := q
  exact ⟨q0, q1, va_K.moved (u := U) (U := U.calling g mk a) (Vm.Alike.refl U.vm) q2, xNw_same (u := U) (U := U.calling g mk a) rfl q3, va_X.moved (u := U) (U := U.calling g mk a) (Vm.Alike.refl U.vm) q4, q5, q6, q7, XZ.same (s := U) (U := U.calling g mk a) rfl q8⟩
theorem W_call {p : Program} {l : Launch} {e : Env} {R : Room} {s : State} {m : MethodId} {args : Array Value} {below : List Frame} {meth : Method} {c : Code} {H : Heap} {locs : List Loc} {cells slots mc ms pc : Nat} {ls : Array Slot} {st0 rest : List Value} {Q : State → Prop} {Qa : State → Outcome → State → Prop} {free : Addr → Prop}
    (hr : va_Run p l e R s m args below meth c H locs cells slots mc ms (F0 m pc ls st0) rest Qa free) (kk : ∀ (v : Option Value) (st₀ t : State) (L : List Loc), st₀.heap = H → Qa st₀ (.returned v) t → (∀ q ∈ L, free q.base) → W p l e R s m args below meth c t.heap (locs ++ L) (cells + mc) (slots + ms) Q (F0 m (pc + 3) ls (v.toList ++ rest))) : W p l e R s m args below meth c H locs cells slots Q (F0 m pc ls st0) := by
  intro T hT X
  obtain ⟨v, st₀, t, T', L, h0, X', hL, e1, e2, hq, st⟩ := hr T hT X
  obtain ⟨t2, a1, b1⟩ := kk v st₀ t L h0 hq hL T' e1 X'
  exact ⟨t2, st t2 a1, b1⟩
theorem xtake_spec : ∀ (n : Nat) (st acc : List XV), (xtake n st acc).1.length = n + acc.length → st.reverse ++ acc = (xtake n st acc).2.reverse ++ (xtake n st acc).1
  | 0, st, acc, _ => rfl
  | n + 1, a :: st, acc, h => by
    have ih := xtake_spec n st (a :: acc) (by rw [show xtake (n + 1) (a :: st) acc = xtake n st (a :: acc) from rfl] at h; rw [h, List.length_cons]; omega)
    show (a :: st).reverse ++ acc = _
    rw [List.reverse_cons, List.append_assoc]
    exact ih
  | n + 1, [], acc, h => by
    exfalso
    have : acc.length = n + 1 + acc.length := h
    omega
theorem xtake_eq {n : Nat} {st vs rest : List XV} (h : xtake n st [] = (vs, rest)) (hl : vs.length = n) : st = vs.reverse ++ rest := by
  have e := xtake_spec n st [] (by rw [h]; simpa using hl)
  rw [h, List.append_nil] at e
  have e2 := congrArg List.reverse e
  rw [List.reverse_reverse, List.reverse_append, List.reverse_reverse] at e2
  exact e2
theorem xvs_split {h : XH} : ∀ {a c : List XV}, xvs h (a ++ c) → xvs h a ∧ xvs h c
  | [], _, q => ⟨trivial, q⟩
  | _ :: _, _, q => ⟨⟨q.1, (xvs_split q.2).1⟩, (xvs_split q.2).2⟩
theorem xvs_rev {h : XH} : ∀ {a : List XV}, xvs h a.reverse → xvs h a
  | [], _ => trivial
  | v :: a, q => by
    rw [List.reverse_cons] at q
    obtain ⟨q1, q2⟩ := xvs_split q
    exact ⟨q2.1, xvs_rev q1⟩
section XCall
variable {p : Program} {l : Launch} {e : Env} {R : Room} {s : State} {m : MethodId} {args : Array Value} {below : List Frame} {meth : Method} {c : Code} {Q : State → Prop}
variable {D : va_G} {cA : Nat → ClassId} {base b Ls : Nat} {xs : Nat → Int32} {full : Bool} {ads0 : List Nat} {gz : Nat × Nat} {u0 N U fr lo M pc aux nx : Nat} {L st : List XV} {h : XH} {o : List Nat} {acc : Prop} {r : XP} {sc : XSc}

/-- behind a call -/
theorem WX_back {gc : Nat × Nat} {vs rs rest : List XV} {h' : XH} {t : List Nat} {H : Heap} {locs : List Loc} {ls : Array Slot} {st0 : List Value} (C : XC M N U Ls fr lo p l e R s m args below meth c D cA base b xs ads0 u0 gz) (hX : XM h h') (hrs : rs.length ≤ 1) (hN : xN h' + gc.1 ≤ N ∧ xU h' + gc.2 ≤ U)
    (h1 : xrel D cA base b Ls xs full (ads0 ++ t) h H) (h2 : va_S (fun q : Nat => base ≤ q) s.heap H locs) (h3 : xlr (ads0 ++ t) b ls L) (h4 : xvl h L) (h5 : xvs h rest) (h6 : u0 ≤ xU h ∧ xN h + gz.1 - (ads0.length + 2) ≤ R.cells ∧ xU h + gz.2 - u0 ≤ R.slots)
    (hr : va_Run p l e R s m args below meth c H locs (xN h + gz.1 - (ads0.length + 2)) (xU h + gz.2 - u0) (xN h' - xN h + gc.1) (xU h' - xU h + gc.2) (F0 m pc ls st0) (rest.map (xcv (ads0 ++ t) b)) (XQc D cA base b Ls xs full (ads0 ++ t) rs h' ((vs.map (xcv (ads0 ++ t) b)).toArray)) (fun q : Nat => base ≤ q))
    (k : WX p l e R s m args below meth c Q D cA base b Ls xs full ads0 u0 (gz.1 + gc.1, gz.2 + gc.2) (pc + 3) L (rs ++ rest) h') : W p l e R s m args below meth c H locs (xN h + gz.1 - (ads0.length + 2)) (xU h + gz.2 - u0) Q (F0 m pc ls st0) := by
  refine W_call hr fun v st₀ t2 L2 e0 hq hL2 => ?_
  obtain ⟨ads', hv, hrel, hvs, hF⟩ := hq
  have hlen := h1.1
  have hlen2 : ads0.length ≤ (ads0 ++ t).length := by rw [List.length_append]; omega
  have n1 : xN h + gz.1 - (ads0.length + 2) + (xN h' - xN h + gc.1) = xN h' + (gz.1 + gc.1) - (ads0.length + 2) := by have := hX.1; omega
  have n2 : xU h + gz.2 - u0 + (xU h' - xU h + gc.2) = xU h' + (gz.2 + gc.2) - u0 := by have := hX.2.1; have := h6.1; omega
  have kk := k (t ++ ads') t2.heap (locs ++ L2) ls (by rw [← List.append_assoc]; exact hrel) ?_ (by rw [← List.append_assoc]; exact xlr_app hlen h4 h3) (xvl_mono hX.2.2 h4) (xvs_app hvs (xvs_mono hX.2.2 h5)) ⟨by have := hX.2.1; have := h6.1; omega, by have := C.2.2.2.2.2.2.2.2.2.2.2.2.1; omega, by have := C.2.2.2.2.2.2.2.2.2.2.2.2.2; omega⟩
  · rw [n1, n2]
    have e1 : v.toList ++ rest.map (xcv (ads0 ++ t) b) = (rs ++ rest).map (xcv (ads0 ++ (t ++ ads')) b) := by
      rw [List.map_append, ← List.append_assoc ads0 t ads', xcvs_app hlen h5]
      refine congrArg (· ++ _) ?_
      have hv := Outcome.returned.inj hv
      rw [hv]
      match rs, hrs with
      | [], _ => rfl
      | [a], _ => rfl
    rw [e1]
    exact kk
  · refine ⟨Nat.le_trans h2.1 (by rw [← e0]; exact hF.1), fun q q1 q2 => ?_, fun q hq => ?_⟩
    · rw [hF.2 q (by rw [e0]; exact Nat.lt_of_lt_of_le q1 h2.1) q2, e0]
      exact h2.2.1 q q1 q2
    · rcases List.mem_append.mp hq with z | z
      · exact h2.2.2 q z
      · exact hL2 q z
/-- a call of a method whose contract is known -/
theorem WX_callg {gc : Nat × Nat} {i : Instr} {K fr' lo' : Nat} {vs rs rest : List XV} {h' : XH} (C : XC M N U Ls fr lo p l e R s m args below meth c D cA base b xs ads0 u0 gz) (hi : xins M pc = some (i, aux, nx)) (hK : xcal i = some K) (hL : L.length = xmx M) (hst : xtake aux st [] = (vs, rest)) (hvl : vs.length = aux) (hrc : xrcv i K vs = true)
    (hX : CXg gc l fr' lo' full K vs h rs h') (hfr : fr' + 1 ≤ fr) (hlo : lo' + (xmx K + 19) ≤ lo) (hw : xw rest ≤ 8) (hN : xN h' + gc.1 ≤ N ∧ xU h' + gc.2 ≤ U) (k : WX p l e R s m args below meth c Q D cA base b Ls xs full ads0 u0 (gz.1 + gc.1, gz.2 + gc.2) nx L (rs ++ rest) h') : WX p l e R s m args below meth c Q D cA base b Ls xs full ads0 u0 gz pc L st h := by
  obtain ⟨q, hq, hn, hd⟩ := xdecode hi
  obtain rfl := xtake_eq hst hvl
  obtain ⟨⟨hXM, hrs⟩, hMet⟩ := hX
  have hfrR : fr' + 1 ≤ R.frames := Nat.le_trans hfr C.2.2.2.2.2.2.2.2.2.2.1
  have hloR : 8 + (xmx K + 11) + lo' ≤ R.locals := by have := C.2.2.2.2.2.2.2.2.2.2.2.1; omega
  have S : CallFix p m c (xbc M) (xmx M) s args xT (xos (xow M)) := ⟨C.2.1, C.2.2.1, C.2.2.2.1, C.2.2.2.2.1, C.2.2.2.2.2.1⟩
  have word : ∀ x ∈ xml, x.1 = xow M → x.2.2.1 = K → XW K ∧ tables_1[x.2.2.2.2]? = some (xmw x) := fun x hx _ e2 => by
    have z := List.all_eq_true.mp xml_K x hx
    rw [e2] at z
    exact ⟨xwK (List.elem_iff.mp z), of_decide_eq_true (List.all_eq_true.mp xml_ok x hx)⟩
  intro t H locs ls h1 h2 h3 h4 h5 h6
  rw [List.map_append, List.map_reverse]
  obtain ⟨h5a, h5b⟩ := xvs_split h5
  have h5a := xvs_rev h5a
  have hsz : (F0 m pc ls ((vs.map (xcv (ads0 ++ t) b)).reverse ++ rest.map (xcv (ads0 ++ t) b))).locals.size = xmx M := by rw [← hL]; exact h3.1
  have hWs : 2 * (F0 m pc ls ((vs.map (xcv (ads0 ++ t) b)).reverse ++ rest.map (xcv (ads0 ++ t) b))).monitorRoom + ((rest.map (xcv (ads0 ++ t) b)).map fun v => v.category).sum ≤ 8 := lv_room (by rw [xw_cat]; exact hw)
  have hPc : ∀ U : State, U.heap = H → s.WarmedH U.vm → va_Pc (vs.map (xcv (ads0 ++ t) b)) (XPc l D cA base b Ls xs full (ads0 ++ t) vs h) (vs.map (xcv (ads0 ++ t) b)).toArray U := fun U hU hW =>
    ⟨rfl, by rw [hU]; exact h1, va_K.moved hW.alike C.2.2.2.2.2.2.2.1, xNw_warm hW C.2.2.2.2.2.2.2.2.1, by rw [hU]; exact (va_X.moved hW.alike C.2.2.2.2.2.2.2.2.2.1.1).kept (h2.2.1 b (Nat.lt_of_lt_of_le C.2.2.2.2.2.2.2.2.2.1.2.1 C.2.2.2.2.2.2.2.2.2.1.2.2) (Nat.not_le.mpr C.2.2.2.2.2.2.2.2.2.1.2.1)), C.2.2.2.2.2.2.2.2.2.1.2.1, by rw [hU]; exact Nat.le_trans C.2.2.2.2.2.2.2.2.2.1.2.2 h2.1, h5a, by rw [hU]; exact (XZ.warm hW C.1).kept h2.2.1⟩
  have hcs : xN h + gz.1 - (ads0.length + 2) + (xN h' - xN h + gc.1) ≤ R.cells ∧ xU h + gz.2 - u0 + (xU h' - xU h + gc.2) ≤ R.slots := by
    have := hXM.1
    have := hXM.2.1
    have := C.2.2.2.2.2.2.2.2.2.2.2.2.1
    have := C.2.2.2.2.2.2.2.2.2.2.2.2.2
    have hlen := h1.1
    rw [List.length_append] at hlen
    omega
  have hMet := hMet D cA base b Ls xs (ads0 ++ t)
  cases i with
  | invokestatic K' =>
    obtain rfl : K' = K := Option.some.inj hK
    obtain ⟨x, hx, hf, rfl⟩ := xfilt hq
    subst hn
    simp only [Bool.and_eq_true] at hf
    obtain ⟨f1, f2, f3, f4⟩ := hf
    have f1 : x.1 = xow M := Nat.eq_of_beq_eq_true f1
    have f2 : x.2.2.1 = K' := Nat.eq_of_beq_eq_true f2
    have f4 : aux = xnp K' := Nat.eq_of_beq_eq_true f4
    obtain ⟨⟨⟨w1, w2, w3, w4, w5, w6⟩, w7, w8, w9, w10⟩, hw0⟩ := word x hx f1 f2
    have hKb := xml_b hx
    rw [f2] at hKb
    have hst1 : xwst K' = 1 := by
      have z := List.all_eq_true.mp xml_st x hx
      rw [f3, f2] at z
      exact Nat.eq_of_beq_eq_true z
    have hstat := C.2.2.2.2.2.1 _ (w7 hst1)
    refine WX_back (vs := vs) C hXM hrs hN h1 h2 h3 h4 h5b h6 ?_ k
    cases hnest : (Nat.beq x.2.2.2.1 1 || Nat.beq x.2.2.2.1 4) with
    | false =>
      have hxm : xmw x = .methodLink (xos (xow M)) x.2.1 (xnm K') := by unfold xmw; rw [hnest, f1, f2]; rfl
      rw [hxm] at hw0
      have hlk := C.2.2.2.2.2.1 _ (xT_tb hw0 rfl)
      exact va_runS S hMet ⟨callB_of (xnp K') C.2.2.2.2.2.1 (xT_in w1) rfl rfl rfl (C.2.2.2.2.2.1 _ w2) hlk w3 ⟨hfrR, hloR⟩, hstat⟩ ⟨XPc_blind, hPc⟩ rfl (by rw [List.length_map, hvl, f4]) hsz rfl hWs hd hcs
    | true =>
      have hxn : xmw x ∈ xNw := List.mem_map.mpr ⟨x, List.mem_filter.mpr ⟨hx, hnest⟩, rfl⟩
      have hxm : xmw x = .methodLinkNest (xos (xow M)) x.2.1 (xnm K') "ScaleVote" := by unfold xmw; rw [hnest, f1, f2]; rfl
      rw [hxm] at hxn
      exact va_runSN S hMet ⟨va_cnB (xnp K') C.2.2.2.2.2.1 (xT_in w1) rfl rfl rfl (C.2.2.2.2.2.2.2.2.1 _ hxn) (C.2.2.2.2.2.1 _ w2) w3 ⟨hfrR, hloR⟩, hstat, trivial⟩ ⟨XPc_blind, hPc⟩ rfl (by rw [List.length_map, hvl, f4]) hsz rfl hWs hd hcs
  | invokevirtual K' =>
    obtain rfl : K' = K := Option.some.inj hK
    obtain ⟨x, hx, hf, rfl⟩ := xfilt hq
    subst hn
    simp only [Bool.and_eq_true] at hf
    obtain ⟨f1, f2, f3, f4⟩ := hf
    have f1 : x.1 = xow M := Nat.eq_of_beq_eq_true f1
    have f2 : x.2.2.1 = K' := Nat.eq_of_beq_eq_true f2
    have f3 : x.2.2.2.1 = 2 := Nat.eq_of_beq_eq_true f3
    have f4 : aux = xnp K' + 1 := Nat.eq_of_beq_eq_true f4
    obtain ⟨⟨⟨w1, w2, w3, w4, w5, w6⟩, w7, w8, w9, w10⟩, hw0⟩ := word x hx f1 f2
    have hKb := xml_b hx
    rw [f2] at hKb
    have hst3 : xwst K' = 3 := by
      have z := List.all_eq_true.mp xml_st x hx
      rw [f3, f2] at z
      exact Nat.eq_of_beq_eq_true z
    have hins := C.2.2.2.2.2.1 _ (w8 (by omega))
    have hsel := C.2.2.2.2.2.1 _ (w10 hst3)
    have hxm : xmw x = .methodLink (xos (xow M)) x.2.1 (xnm K') := by unfold xmw; rw [f3, f1, f2]; rfl
    rw [hxm] at hw0
    have hlk := C.2.2.2.2.2.1 _ (xT_tb hw0 rfl)
    match vs, hvl, hrc, h5a, hPc, hMet, hsz, hWs with
    | .inr (kd, e0) :: vs', hvl, hrc, h5a, hPc, hMet, hsz, hWs =>
      have hrc : kd = xcn K' := Nat.eq_of_beq_eq_true hrc
      refine WX_back (vs := .inr (kd, e0) :: vs') C hXM hrs hN h1 h2 h3 h4 h5b h6 ?_ k
      have hrecv : ∃ cellB : Cell, H[xad (ads0 ++ t) b e0]? = some cellB ∧ cellB.vm.isStatics = false ∧ s.vm.findClass (xnm K').cls = some cellB.cls := by
        rcases h5a.1 with ⟨z, -⟩ | ⟨-, o1, o2, o3⟩
        · exfalso
          have := xcn_lt hKb
          omega
        · have hlt : xow K' < 13 ∨ 13 ≤ xow K' := Nat.lt_or_ge _ _
          rcases hlt with hlt | hlt
          · have he := xws_at (cA := cA) (ads := ads0 ++ t) (b := b) o1 o2
            rw [xce_obj (ci := xow K') (by omega) hlt] at he
            obtain ⟨w, hwc⟩ := xcl_kind h1.2.1 he
            have z := va_recv C.2.2.2.2.2.2.2.1 h1.2.1 hwc he
            rw [xad_at o1, ← w5, ← xos_cl hwc]
            exact z
          · exfalso
            have hz1 := h1.2.2.2.1 e0 o1 o2
            have hz2 := xcn_lt hKb
            rw [o3] at hz1
            rcases hz1 with z | z
            · omega
            · omega
      have hst2 : (((Sum.inr (kd, e0) :: vs').map (xcv (ads0 ++ t) b)).reverse ++ rest.map (xcv (ads0 ++ t) b)) = (vs'.map (xcv (ads0 ++ t) b)).reverse ++ .ref (xad (ads0 ++ t) b e0) :: rest.map (xcv (ads0 ++ t) b) := by
        rw [List.map_cons, List.reverse_cons, List.append_assoc]
        rfl
      exact va_runV (C := (xnm K').cls) (b := xad (ads0 ++ t) b e0) (As := vs'.map (xcv (ads0 ++ t) b)) S hMet ⟨callB_of (xnp K') C.2.2.2.2.2.1 (xT_in w1) rfl rfl rfl (C.2.2.2.2.2.1 _ w2) hlk w3 ⟨hfrR, hloR⟩, hins, hsel⟩ ⟨XPc_blind, hrecv, hPc⟩ rfl (by rw [List.length_map]; rw [List.length_cons] at hvl; omega) hsz hst2 hWs hd hcs
    | .inl _ :: vs', hvl, hrc, h5a, hPc, hMet, hsz, hWs => cases hrc
    | [], hvl, hrc, h5a, hPc, hMet, hsz, hWs => cases hrc
  | invokespecial K' =>
    obtain rfl : K' = K := Option.some.inj hK
    obtain ⟨x, hx, hf, rfl⟩ := xfilt hq
    subst hn
    simp only [Bool.and_eq_true] at hf
    obtain ⟨f1, f2, f3, f4⟩ := hf
    have f1 : x.1 = xow M := Nat.eq_of_beq_eq_true f1
    have f2 : x.2.2.1 = K' := Nat.eq_of_beq_eq_true f2
    have f3 : 3 ≤ x.2.2.2.1 := Nat.le_of_ble_eq_true f3
    have f4 : aux = xnp K' + 1 := Nat.eq_of_beq_eq_true f4
    obtain ⟨⟨⟨w1, w2, w3, w4, w5, w6⟩, w7, w8, w9, w10⟩, hw0⟩ := word x hx f1 f2
    have hKb := xml_b hx
    rw [f2] at hKb
    have hst2 : xwst K' = 2 := by
      have z := List.all_eq_true.mp xml_st x hx
      have b1 : Nat.ble x.2.2.2.1 1 = false := by
        cases hb : Nat.ble x.2.2.2.1 1 with
        | false => rfl
        | true => have := Nat.le_of_ble_eq_true hb; omega
      have b2 : Nat.beq x.2.2.2.1 2 = false := by
        cases hb : Nat.beq x.2.2.2.1 2 with
        | false => rfl
        | true => have := Nat.eq_of_beq_eq_true hb; omega
      rw [b1, b2, f2] at z
      exact Nat.eq_of_beq_eq_true z
    have hins := C.2.2.2.2.2.1 _ (w8 (by omega))
    have hnm := w9 hst2
    match vs, hvl, hrc, h5a, hPc, hMet, hsz, hWs with
    | .inr (kd, e0) :: vs', hvl, hrc, h5a, hPc, hMet, hsz, hWs =>
      refine WX_back (vs := .inr (kd, e0) :: vs') C hXM hrs hN h1 h2 h3 h4 h5b h6 ?_ k
      have hst2 : (((Sum.inr (kd, e0) :: vs').map (xcv (ads0 ++ t) b)).reverse ++ rest.map (xcv (ads0 ++ t) b)) = (vs'.map (xcv (ads0 ++ t) b)).reverse ++ .ref (xad (ads0 ++ t) b e0) :: rest.map (xcv (ads0 ++ t) b) := by
        rw [List.map_cons, List.reverse_cons, List.append_assoc]
        rfl
      have hrt : xrt K' = none := xrt_ini hKb hnm
      rw [hrt] at hMet w1
      cases hnest : (Nat.beq x.2.2.2.1 1 || Nat.beq x.2.2.2.1 4) with
      | false =>
        have hxm : xmw x = .methodLink (xos (xow M)) x.2.1 (xnm K') := by unfold xmw; rw [hnest, f1, f2]; rfl
        rw [hxm] at hw0
        have hlk := C.2.2.2.2.2.1 _ (xT_tb hw0 rfl)
        exact va_runI (b := xad (ads0 ++ t) b e0) (As := vs'.map (xcv (ads0 ++ t) b)) S hMet ⟨callB_of (xnp K') C.2.2.2.2.2.1 (xT_in w1) rfl rfl rfl (C.2.2.2.2.2.1 _ w2) hlk w3 ⟨hfrR, hloR⟩, hnm, hins⟩ ⟨XPc_blind, hPc⟩ rfl (by rw [List.length_map]; rw [List.length_cons] at hvl; omega) hsz hst2 hWs hd hcs
      | true =>
        have hxn : xmw x ∈ xNw := List.mem_map.mpr ⟨x, List.mem_filter.mpr ⟨hx, hnest⟩, rfl⟩
        have hxm : xmw x = .methodLinkNest (xos (xow M)) x.2.1 (xnm K') "ScaleVote" := by unfold xmw; rw [hnest, f1, f2]; rfl
        rw [hxm] at hxn
        exact va_runIN (b := xad (ads0 ++ t) b e0) (As := vs'.map (xcv (ads0 ++ t) b)) S hMet ⟨va_cnB (xnp K') C.2.2.2.2.2.1 (xT_in w1) rfl rfl rfl (C.2.2.2.2.2.2.2.2.1 _ hxn) (C.2.2.2.2.2.1 _ w2) w3 ⟨hfrR, hloR⟩, hnm, hins⟩ ⟨XPc_blind, hPc⟩ rfl (by rw [List.length_map]; rw [List.length_cons] at hvl; omega) hsz hst2 hWs hd hcs
    | .inl _ :: vs', hvl, hrc, h5a, hPc, hMet, hsz, hWs => cases hrc
    | [], hvl, hrc, h5a, hPc, hMet, hsz, hWs => cases hrc
  | _ => cases hK
theorem WX_call {i : Instr} {K fr' lo' : Nat} {vs rs rest : List XV} {h' : XH} (C : XC M N U Ls fr lo p l e R s m args below meth c D cA base b xs ads0 u0 gz) (hi : xins M pc = some (i, aux, nx)) (hK : xcal i = some K) (hL : L.length = xmx M) (hst : xtake aux st [] = (vs, rest)) (hvl : vs.length = aux) (hrc : xrcv i K vs = true)
    (hX : CX l fr' lo' full K vs h rs h') (hfr : fr' + 1 ≤ fr) (hlo : lo' + (xmx K + 19) ≤ lo) (hw : xw rest ≤ 8) (hN : xN h' ≤ N ∧ xU h' ≤ U) (k : WX p l e R s m args below meth c Q D cA base b Ls xs full ads0 u0 gz nx L (rs ++ rest) h') : WX p l e R s m args below meth c Q D cA base b Ls xs full ads0 u0 gz pc L st h :=
  WX_callg (gc := (0, 0)) C hi hK hL hst hvl hrc hX hfr hlo hw hN k
end XCall
theorem xpad_len : ∀ n : Nat, (xpad n).length = n
  | 0 => rfl
  | n + 1 => congrArg (· + 1) (xpad_len n)
theorem xent_len : ∀ (vs : List XV) (n : Nat), (xent n vs).length = xw vs + (n - xw vs)
  | [], n => by
    show (xpad n).length = 0 + (n - 0)
    rw [xpad_len]
    omega
  | .inl (.inr a) :: vs, n => by
    show (xent (n - 2) vs).length + 1 + 1 = xw vs + 2 + (n - (xw vs + 2))
    rw [xent_len vs (n - 2)]
    omega
  | .inl (.inl a) :: vs, n => by
    show (xent (n - 1) vs).length + 1 = xw vs + 1 + (n - (xw vs + 1))
    rw [xent_len vs (n - 1)]
    omega
  | .inr a :: vs, n => by
    show (xent (n - 1) vs).length + 1 = xw vs + 1 + (n - (xw vs + 1))
    rw [xent_len vs (n - 1)]
    omega
theorem lg_len {ads : List Nat} {b : Nat} : ∀ vs : List XV, (lg_sl (vs.map (xcv ads b))).length = xw vs
  | [] => rfl
  | .inl (.inr a) :: vs => by
    show (lg_sl (.long a :: vs.map (xcv ads b))).length = xw vs + 2
    rw [show lg_sl (Value.long a :: vs.map (xcv ads b)) = [.val (.long a), .second] ++ lg_sl (vs.map (xcv ads b)) from rfl, List.length_append, lg_len vs]
    exact Nat.add_comm 2 (xw vs)
  | .inl (.inl a) :: vs => by
    show (lg_sl (.int a :: vs.map (xcv ads b))).length = xw vs + 1
    rw [show lg_sl (Value.int a :: vs.map (xcv ads b)) = [.val (.int a)] ++ lg_sl (vs.map (xcv ads b)) from rfl, List.length_append, lg_len vs]
    exact Nat.add_comm 1 (xw vs)
  | .inr a :: vs => by
    show (lg_sl (.ref (xad ads b a.2) :: vs.map (xcv ads b))).length = xw vs + 1
    rw [show lg_sl (Value.ref (xad ads b a.2) :: vs.map (xcv ads b)) = [.val (.ref (xad ads b a.2))] ++ lg_sl (vs.map (xcv ads b)) from rfl, List.length_append, lg_len vs]
    exact Nat.add_comm 1 (xw vs)
theorem xpad_get : ∀ (n j : Nat), xget (xpad n) j = xun
  | 0, _ => rfl
  | _ + 1, 0 => rfl
  | n + 1, j + 1 => xpad_get n j
/-- the locals at a method's entry -/
theorem xent_get {ads : List Nat} {b : Nat} : ∀ (vs : List XV) (n i j : Nat), xget (xent n vs) j ≠ xun → (i + j, xcv ads b (xget (xent n vs) j)) ∈ lv_args i (vs.map (xcv ads b))
  | [], n, i, j, h => absurd (xpad_get n j) h
  | .inl (.inr a) :: vs, n, i, j, h => by
    match j, h with
    | 0, _ => exact List.mem_cons_self
    | 1, h => exact absurd rfl h
    | j + 2, h =>
      have ih := xent_get (ads := ads) (b := b) vs (n - 2) (i + 2) j h
      refine List.mem_cons_of_mem _ ?_
      rw [show i + (j + 2) = i + 2 + j by omega]
      exact ih
  | .inl (.inl a) :: vs, n, i, j, h => by
    match j, h with
    | 0, _ => exact List.mem_cons_self
    | j + 1, h =>
      have ih := xent_get (ads := ads) (b := b) vs (n - 1) (i + 1) j h
      refine List.mem_cons_of_mem _ ?_
      rw [show i + (j + 1) = i + 1 + j by omega]
      exact ih
  | .inr a :: vs, n, i, j, h => by
    match j, h with
    | 0, _ => exact List.mem_cons_self
    | j + 1, h =>
      have ih := xent_get (ads := ads) (b := b) vs (n - 1) (i + 1) j h
      refine List.mem_cons_of_mem _ ?_
      rw [show i + (j + 1) = i + 1 + j by omega]
      exact ih
theorem xpad_vl {h : XH} : ∀ n : Nat, xvl h (xpad n)
  | 0 => trivial
  | n + 1 => ⟨Or.inl rfl, xpad_vl n⟩
theorem xent_vl {h : XH} : ∀ (vs : List XV) (n : Nat), xvs h vs → xvl h (xent n vs)
  | [], n, _ => xpad_vl n
  | .inl (.inr a) :: vs, n, q => ⟨Or.inr trivial, Or.inl rfl, xent_vl vs _ q.2⟩
  | .inl (.inl a) :: vs, n, q => ⟨Or.inr trivial, xent_vl vs _ q.2⟩
  | .inr a :: vs, n, q => ⟨Or.inr q.1, xent_vl vs _ q.2⟩
/-- a contract out of a walk of the method's body: whatever the frame is, from the entry it comes to a return with rs and the heap h' -/
theorem CX_of {l : Launch} {fr lo : Nat} {full : Bool} {K : Nat} {vs rs : List XV} {h h' : XH} (hW : XW K) (hX : XM h h') (hrs : rs.length ≤ 1) (hlen : (xent (xmx K) vs).length = xmx K) (hbo : xrac K rs True)
    (hB : ∀ {p : Program} {e : Env} {R : Room} {s : State} {m : MethodId} {args : Array Value} {below : List Frame} {meth : Method} {c : Code} {Q : State → Prop} {D : va_G} {cA : Nat → ClassId} {base b Ls : Nat} {xs : Nat → Int32} {ads0 : List Nat},
      XC K (xN h') (xU h') Ls fr lo p l e R s m args below meth c D cA base b xs ads0 (xU h) (0, 0) → (∀ (pcR : Nat) (L : List XV), XE K pcR rs → L.length = xmx K → WX p l e R s m args below meth c Q D cA base b Ls xs full ads0 (xU h) (0, 0) pcR L rs h') → WX p l e R s m args below meth c Q D cA base b Ls xs full ads0 (xU h) (0, 0) 0 (xent (xmx K) vs) [] h) : CX l fr lo full K vs h rs h' := by
  refine ⟨⟨hX, hrs⟩, fun D cA base b Ls xs ads => ?_⟩
  obtain ⟨⟨w1, w2, w3, w4, w5, w6⟩, -⟩ := hW
  refine va_MetF (cc := xbc K) (maxL := xmx K) (ret := xrt K) w4 rfl ?_
  intro p e s m args below meth c s₁ B hml hv
  obtain ⟨rfl, hrel, hK, hNw, hXs, hb, hbase, hvs, hZ⟩ := hv
  have hts := atoms_spec (ws := Cond.code (xnm K) (xbc K) (xmx K) (xrt K) :: xT) B.pre
  have hown : s.vm.findClass (xos (xow K)) = some m.cls := by rw [w5]; exact findClass_of_methodNamed B.named
  have hin : meth.name = (xnm K).name := (name_of_methodNamed B.named B.method).1
  have hl0 := hrel.1
  have C : XC K (xN h') (xU h') Ls fr lo p l e (headSpec (Cond.code (xnm K) (xbc K) (xmx K) (xrt K) :: xT) ({ frames := fr, cells := xN h' - xN h, slots := xU h' - xU h, locals := lo } : Room)).room s m ((vs.map (xcv ads b)).toArray) below meth c D cA base b xs ads (xU h) (0, 0) := by
    refine ⟨hZ, B.exec, B.bytes, hml, hown, fun w hw => hts w (List.mem_cons_of_mem _ hw), fun z => hin.trans z, hK, hNw, ⟨hXs, hb, hbase⟩, Nat.le_refl _, Nat.le_refl _, ?_, ?_⟩
    · show xN h' ≤ ads.length + 2 + (xN h' - xN h)
      omega
    · show xU h' ≤ xU h + (xU h' - xU h)
      omega
  have hwl : xw vs ≤ xmx K := by
    have := xent_len vs (xmx K)
    omega
  have hl := lv_entry (vs.map (xcv ads b)) (n := xmx K) (by rw [lg_len]; exact hwl)
  rw [lg_entry_eq]
  have hls : xlr (ads ++ []) b ((lg_sl (vs.map (xcv ads b)) ++ List.replicate (xmx K - (lg_sl (vs.map (xcv ads b))).length) Slot.unset).toArray) (xent (xmx K) vs) := by
    rw [List.append_nil]
    refine ⟨hl.1.trans hlen.symm, hl.2.1, fun q hq => ?_⟩
    obtain ⟨j, hj, ej⟩ := List.mem_filterMap.mp hq
    by_cases hz : xget (xent (xmx K) vs) j = xun
    · rw [if_pos hz] at ej; cases ej
    · rw [if_neg hz] at ej
      cases ej
      have z := xent_get (ads := ads) (b := b) vs (xmx K) 0 j hz
      rw [Nat.zero_add] at z
      exact hl.2.2 _ z
  have e0 : xN h - (ads.length + 2) = 0 := by omega
  have fin := hB (Q := MQ below (XQc D cA base b Ls xs full ads rs h') ((vs.map (xcv ads b)).toArray) s (xN h' - xN h) (xU h' - xU h) (fun q : Nat => base ≤ q)) C ?_ [] s.heap [] _ (by rw [List.append_nil]; exact hrel) va_S.rf hls (xent_vl vs _ hvs) trivial ⟨Nat.le_refl _, by omega, by omega⟩
  · dsimp only [Nat.add_zero] at fin
    rw [e0, Nat.sub_self] at fin
    exact fin
  · rintro pcR L ⟨i, aux, nx, hi, hr1, hr2⟩ hL t H locs ls h1 h2 h3 h4 h5 h6
    obtain ⟨q, hq, hn, hd⟩ := xdecode hi
    have e1 : xN h' - (ads.length + 2) = xN h' - xN h := by omega
    dsimp only [Nat.add_zero]
    rw [e1]
    have hf : ∀ q ∈ locs, base ≤ q.base := h2.2.2
    cases i with
    | ireturn =>
      obtain ⟨hz, rfl⟩ := xbif hq
      match rs, hrs, hbo, hr2, h5 with
      | [.inl (.inl v)], _, hbo, _, h5 =>
        rw [Bool.or_eq_true] at hz
        have hty : (∃ ty, xrt K = some ty ∧ narrow ty (.int v) = .int v) := by
          rcases hz with z | z
          · exact ⟨.int, of_decide_eq_true z, rfl⟩
          · rw [Bool.and_eq_true] at z
            refine ⟨.boolean, of_decide_eq_true z.2, ?_⟩
            unfold xrac at hbo
            rw [z.1] at hbo
            rcases hbo.2 with rfl | rfl <;> rfl
        obtain ⟨ty, t1, t2⟩ := hty
        exact W.zret (ty := ty) B.exec B.bytes (B.returns.trans t1) t2 (fun t' ht' hW' => ⟨t, rfl, by rw [ht']; exact h1, h5, h2.F ht'⟩) hf hd B.notSynchronized
      | [], _, _, hr2, _ => cases hr2
      | [.inl (.inr v)], _, _, hr2, _ => cases hr2
      | [.inr v], _, _, hr2, _ => cases hr2
    | lreturn =>
      obtain ⟨hz, rfl⟩ := xbif hq
      rw [Bool.and_eq_true] at hz
      match rs, hrs, hr2, h5 with
      | [.inl (.inr v)], _, _, h5 =>
        exact W.lret B.exec B.bytes (B.returns.trans (of_decide_eq_true hz.1)) (fun t' ht' hW' => ⟨t, rfl, by rw [ht']; exact h1, h5, h2.F ht'⟩) hf hd B.notSynchronized
      | [], _, hr2, _ => cases hr2
      | [.inl (.inl v)], _, hr2, _ => cases hr2
      | [.inr v], _, hr2, _ => cases hr2
    | return_ =>
      obtain ⟨hz, rfl⟩ := xbif hq
      rw [Bool.and_eq_true] at hz
      match rs, hrs, hr2, h5 with
      | [], _, _, h5 =>
        exact W.vret B.exec B.bytes (B.returns.trans (of_decide_eq_true hz.1)) (fun t' ht' hW' => ⟨t, rfl, by rw [ht']; exact h1, h5, h2.F ht'⟩) hf hd B.notSynchronized
      | [.inl (.inl v)], _, hr2, _ => cases hr2
      | [.inl (.inr v)], _, hr2, _ => cases hr2
      | [.inr v], _, hr2, _ => cases hr2
    | _ => cases hr1
theorem xend_len {i : Instr} {st : List XV} (h : xend i st = true) : st.length ≤ 1 := by
  unfold xend at h
  split at h
  · exact Nat.le_refl _
  · exact Nat.le_refl _
  · exact Nat.zero_le _
  · cases h
theorem xlen_eq : ∀ {l : List XV} {n : Nat}, xlen l n = true → l.length = n
  | [], 0, _ => rfl
  | _ :: _, _ + 1, h => congrArg (· + 1) (xlen_eq h)
  | [], _ + 1, h => by cases h
  | _ :: _, 0, h => by cases h
theorem xrt_spec {M pc : Nat} {L st : List XV} {h : XH} {o : List Nat} {acc : Prop} {r : XP} (hs : (bif xrb M then xrt1 pc L st h o acc else some (pc, L, st, h, o, acc)) = some r) : r.1 = pc ∧ r.2.1 = L ∧ r.2.2.1 = st ∧ r.2.2.2.1 = h ∧ (r.2.2.2.2.2 → acc ∧ xrac M st True) := by
  cases hb : xrb M with
  | false =>
    rw [hb] at hs
    obtain rfl := Option.some.inj hs
    refine ⟨rfl, rfl, rfl, rfl, fun z => ⟨z, ?_⟩⟩
    unfold xrac
    rw [hb]
    trivial
  | true =>
    rw [hb] at hs
    have hs : xrt1 pc L st h o acc = some r := hs
    unfold xrt1 at hs
    split at hs
    · obtain rfl := Option.some.inj hs
      refine ⟨rfl, rfl, rfl, rfl, fun z => ⟨z.1, ?_⟩⟩
      unfold xrac
      rw [hb]
      exact ⟨trivial, z.2⟩
    · rename_i hne
      obtain rfl := Option.some.inj hs
      refine ⟨rfl, rfl, rfl, rfl, fun z => ⟨z, ?_⟩⟩
      unfold xrac
      rw [hb]
      dsimp only [cond]
      split
      · exact (hne _ rfl).elim
      · trivial
/-- what a path keeps, and where it ends -/
theorem xrun_kp {full : Bool} {inl : List Nat} : ∀ (sc : XSc) (n fr lo : Nat) (sp : List Nat) (fresh : Bool) (M pc : Nat) (L st : List XV) (h : XH) (o : List Nat) (acc : Prop) (r : XP),
    xrun full inl sc n fr lo sp fresh M pc L st h o acc = some r → XKp L h acc r ∧ (sp.elem r.1 = true ∨ (XE M r.1 r.2.2.1 ∧ (r.2.2.2.2.2 → xrac M r.2.2.1 True)))
  | _, 0, _, _, _, _, _, _, _, _, _, _, _, _, hs => by cases hs
  | sc, n + 1, fr, lo, sp, fresh, M, pc, L, st, h, o, acc, r, hs => by
    unfold xrun at hs
    cases hst : (!fresh && sp.elem pc) with
    | true =>
      rw [hst] at hs
      obtain rfl := Option.some.inj hs
      rw [Bool.and_eq_true] at hst
      exact ⟨⟨rfl, XM.rf, fun z => z⟩, Or.inl hst.2⟩
    | false =>
      rw [hst] at hs
      dsimp only [cond] at hs
      split at hs
      · cases hs
      · rename_i i aux nx hi
        split at hs
        · rename_i K hK
          split at hs
          · split at hs
            · rename_i a1 a2 v h1 o1 acc1 hc
              obtain ⟨⟨c1, c2, c3⟩, c4⟩ := xrun_kp _ n _ _ _ _ _ _ _ _ _ _ _ _ hc
              obtain ⟨⟨d1, d2, d3⟩, d4⟩ := xrun_kp _ n _ _ _ _ _ _ _ _ _ _ _ _ hs
              exact ⟨⟨d1, c2.tr d2, fun z => c3 (d3 z)⟩, d4⟩
            · cases hs
          · cases hs
        · split at hs
          · rename_i hr
            split at hs
            · rename_i he
              obtain ⟨e1, e2, e3, e4, e5⟩ := xrt_spec hs
              refine ⟨⟨by rw [e2], by rw [e4]; exact XM.rf, fun z => (e5 z).1⟩, Or.inr ⟨by rw [e1, e3]; exact ⟨i, aux, nx, hi, hr, he⟩, fun z => by rw [e3]; exact (e5 z).2⟩⟩
            · cases hs
          · split at hs
            · rename_i p1 p2 p3 p4 p5 p6 hx
              obtain ⟨c1, c2, c3⟩ := xstep_kp hx
              obtain ⟨⟨d1, d2, d3⟩, d4⟩ := xrun_kp _ n _ _ _ _ _ _ _ _ _ _ _ _ hs
              exact ⟨⟨d1.trans c1, c2.tr d2, fun z => c3 (d3 z)⟩, d4⟩
            · cases hs
/-- THE PATH'S LAW: if what a path met holds, the machine goes along it -/
theorem xrun_ok {l : Launch} {full : Bool} {inl : List Nat} (hin : ∀ K ∈ inl, XW K) : ∀ (sc : XSc) (n fr lo : Nat) (sp : List Nat) (fresh : Bool) (M pc : Nat) (L st : List XV) (h : XH) (o : List Nat) (acc : Prop) (r : XP),
    xrun full inl sc n fr lo sp fresh M pc L st h o acc = some r → ∀ {N U Ls : Nat} {p : Program} {e : Env} {R : Room} {s : State} {m : MethodId} {args : Array Value} {below : List Frame} {meth : Method} {c : Code} {Q : State → Prop} {D : va_G} {cA : Nat → ClassId} {base b : Nat} {xs : Nat → Int32} {ads0 : List Nat} {u0 : Nat} {gz : Nat × Nat},
    (sc = none ∨ sc = some (Ls, xs)) → XC M N U Ls fr lo p l e R s m args below meth c D cA base b xs ads0 u0 gz → L.length = xmx M → xN r.2.2.2.1 ≤ N → xU r.2.2.2.1 ≤ U → r.2.2.2.2.2 → WX p l e R s m args below meth c Q D cA base b Ls xs full ads0 u0 gz r.1 r.2.1 r.2.2.1 r.2.2.2.1 → WX p l e R s m args below meth c Q D cA base b Ls xs full ads0 u0 gz pc L st h
  | _, 0, _, _, _, _, _, _, _, _, _, _, _, _, hs => by cases hs
  | sc, n + 1, fr, lo, sp, fresh, M, pc, L, st, h, o, acc, r, hs => by
    intro hsc C hL hN hU ha k
    unfold xrun at hs
    cases hst : (!fresh && sp.elem pc) with
    | true =>
      rw [hst] at hs
      obtain rfl := Option.some.inj hs
      exact k
    | false =>
      rw [hst] at hs
      dsimp only [cond] at hs
      split at hs
      · cases hs
      · rename_i i aux nx hi
        split at hs
        · rename_i K hK
          split at hs
          · rename_i hcnd
            simp only [Bool.and_eq_true] at hcnd
            obtain ⟨b1, b2, b3, b4, b5, b7, b6⟩ := hcnd
            split at hs
            · rename_i a1 a2 v h1 o1 acc1 hc
              obtain ⟨⟨c1, c2, c3⟩, c4⟩ := xrun_kp _ n _ _ _ _ _ _ _ _ _ _ _ _ hc
              obtain ⟨⟨d1, d2, d3⟩, d4⟩ := xrun_kp _ n _ _ _ _ _ _ _ _ _ _ _ _ hs
              have kk := xrun_ok hin _ n _ _ _ _ _ _ _ _ _ _ _ _ hs hsc C hL hN hU ha k
              have hacc1 : acc1 := d3 ha
              have hXW := hin K (List.elem_iff.mp b1)
              have hb2 : 0 < fr := Nat.le_of_ble_eq_true b2
              have hb3 : xmx K + 19 ≤ lo := Nat.le_of_ble_eq_true b3
              rcases c4 with c4 | ⟨c4, c5⟩
              · cases c4
              · have hlenK := xlen_eq b6
                have hvl : v.length ≤ 1 := by
                  obtain ⟨i', x1, x2, -, y1, y2⟩ := c4
                  exact xend_len y2
                have hCX : CX l (fr - 1) (lo - (xmx K + 19)) full K (xtake aux st []).1 h v h1 := CX_of hXW c2 hvl hlenK (c5 hacc1) (fun {p e R s m args below meth c Q D cA base b Ls xs ads0} C' kend =>
                  xrun_ok hin _ n _ _ _ _ _ _ _ _ _ _ _ _ hc (Or.inl rfl) C' hlenK (Nat.le_refl _) (Nat.le_refl _) hacc1 (kend _ _ c4 (c1.trans hlenK)))
                exact WX_call C hi hK hL rfl (xlen_eq b7) b5 hCX (by omega) (by omega) (Nat.le_of_ble_eq_true b4) ⟨Nat.le_trans d2.1 hN, Nat.le_trans d2.2.1 hU⟩ kk
            · cases hs
          · cases hs
        · split at hs
          · split at hs
            · obtain ⟨e1, e2, e3, e4, e5⟩ := xrt_spec hs
              rw [e1, e2, e3, e4] at k
              exact k
            · cases hs
          · split at hs
            · rename_i p1 p2 p3 p4 p5 p6 hx
              obtain ⟨c1, c2, c3⟩ := xstep_kp hx
              obtain ⟨⟨d1, d2, d3⟩, d4⟩ := xrun_kp _ n _ _ _ _ _ _ _ _ _ _ _ _ hs
              have kk := xrun_ok hin _ n _ _ _ _ _ _ _ _ _ _ _ _ hs hsc C (c1.trans hL) hN hU ha k
              exact xstep_ok hsc C hi hL hx ⟨Nat.le_trans d2.1 hN, Nat.le_trans d2.2.1 hU⟩ (d3 ha) kk
            · cases hs
