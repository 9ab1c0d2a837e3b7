/-! TWO CONTRACTS OF ONE START: what both tell of the end is one end's. -/
theorem zt_len {t : State} {below : List Frame} {v : Option Value} (h : Ended t below (.returned v)) : t.frames.length = below.length := by
  cases below with
  | nil =>
    have h : v = none ∧ t.frames = [] := h
    rw [h.2]
  | cons f r => cases f with
    | java g =>
      obtain ⟨c, i, n, -, -, e⟩ := h
      rw [e]; rfl
    | native g =>
      have h : t.frames = .native { g with awaiting := false, answer := some (.returned v) } :: r := h
      rw [h]; rfl
    | proc g =>
      have h : t.frames = .proc { g with awaiting := false, answer := some (.returned v) } :: r := h
      rw [h]; rfl
    | _ =>
      have h : v = none ∧ t.frames = _ := h
      rw [h.2]
theorem zt_not {t : State} {below : List Frame} {o : Outcome} (h : Ended t below o) (w : Within t below) : False := by
  obtain ⟨above, e, n0, n1⟩ := w
  cases o with
  | returned v =>
    have z := zt_len h
    rw [e, List.length_append] at z
    exact n0 (List.length_eq_zero_iff.mp (by omega))
  | threw a =>
    have h : t.frames = .throwing a :: below := h
    rw [h] at e
    have e : [Frame.throwing a] ++ below = above ++ below := e
    exact n1 a (List.append_cancel_right e).symm
theorem zt_tl {v v2 : Option Value} {st : List Value} (e : v.toList ++ st = v2.toList ++ st) : v = v2 := by
  have e4 := List.append_cancel_right e
  cases v with
  | none => cases v2 with
    | none => rfl
    | some x => cases e4
  | some y => cases v2 with
    | none => cases e4
    | some x => cases e4; rfl
theorem zt_hd {f f2 : Frame} {r : List Frame} (h : f :: r = f2 :: r) : f = f2 := (List.cons.inj h).1
theorem zt_some {v v2 : Option Value} (h : some (Outcome.returned v) = some (Outcome.returned v2)) : v = v2 := Outcome.returned.inj (Option.some.inj h)
theorem zt_inj {t : State} {below : List Frame} {o o2 : Outcome} (h : Ended t below o) (h2 : Ended t below o2) : o = o2 := by
  cases o with
  | threw a =>
    have z : t.frames = .throwing a :: below := h
    cases o2 with
    | threw a2 =>
      have z2 : t.frames = .throwing a2 :: below := h2
      rw [z] at z2
      rw [Frame.throwing.inj (zt_hd z2)]
    | returned v2 =>
      exfalso
      have := zt_len h2
      rw [z, List.length_cons] at this
      omega
  | returned v =>
    cases o2 with
    | threw a2 =>
      exfalso
      have z2 : t.frames = .throwing a2 :: below := h2
      have := zt_len h
      rw [z2, List.length_cons] at this
      omega
    | returned v2 =>
      have key : v = v2 := by
        cases below with
        | nil =>
          have h : v = none ∧ t.frames = [] := h
          have h2 : v2 = none ∧ t.frames = [] := h2
          exact h.1.trans h2.1.symm
        | cons f r => cases f with
          | java g =>
            obtain ⟨c, i, n, -, -, e⟩ := h
            obtain ⟨c2, i2, n2, -, -, e2⟩ := h2
            rw [e] at e2
            exact zt_tl (congrArg JFrame.stack (Frame.java.inj (zt_hd e2)))
          | native g =>
            have h : t.frames = .native { g with awaiting := false, answer := some (.returned v) } :: r := h
            have h2 : t.frames = .native { g with awaiting := false, answer := some (.returned v2) } :: r := h2
            rw [h] at h2
            exact zt_some (congrArg NFrame.answer (Frame.native.inj (zt_hd h2)))
          | proc g =>
            have h : t.frames = .proc { g with awaiting := false, answer := some (.returned v) } :: r := h
            have h2 : t.frames = .proc { g with awaiting := false, answer := some (.returned v2) } :: r := h2
            rw [h] at h2
            exact zt_some (congrArg PFrame.answer (Frame.proc.inj (zt_hd h2)))
          | _ =>
            have h : v = none ∧ t.frames = _ := h
            have h2 : v2 = none ∧ t.frames = _ := h2
            exact h.1.trans h2.1.symm
      rw [key]
theorem zt_two {l : Launch} {y : MethodName} {ws : List Cond} {rm : Room} {Pc : Array Value → State → Prop} {Q1 Q2 : Array Value → State → Outcome → State → Prop} {mc ms : Nat} {free : Addr → Prop} (A : Met l y ws rm Pc Q1 mc ms free) (B : Met l y ws rm Pc Q2 mc ms free) : Met l y ws rm Pc (fun a st o t => Q1 a st o t ∧ Q2 a st o t ∧ Pc a st) mc ms free := by
  intro p e ha hc hk s m args below hf happ hP hK
  obtain ⟨n1, o1, w1, r1, e1, q1⟩ := A p e ha hc hk s m args below hf happ hP hK
  obtain ⟨n2, o2, w2, r2, e2, q2⟩ := B p e ha hc hk s m args below hf happ hP hK
  have hn : n1 = n2 := by
    rcases Nat.lt_trichotomy n1 n2 with z | z | z
    · exact (zt_not e1 (w2 n1 z)).elim
    · exact z
    · exact (zt_not e2 (w1 n2 z)).elim
  subst hn
  obtain rfl := zt_inj e1 e2
  exact ⟨n1, o1, w1, r1, e1, ⟨q1.1, q2.1, hP⟩, q1.2⟩
theorem zt_post {l : Launch} {y : MethodName} {ws : List Cond} {rm : Room} {Pc : Array Value → State → Prop} {Q1 Q2 : Array Value → State → Outcome → State → Prop} {mc ms : Nat} {free : Addr → Prop} (A : Met l y ws rm Pc Q1 mc ms free) (h : ∀ a st o t, Q1 a st o t → Q2 a st o t) : Met l y ws rm Pc Q2 mc ms free := by
  intro p e ha hc hk s m args below hf happ hP hK
  obtain ⟨n1, o1, w1, r1, e1, q1⟩ := A p e ha hc hk s m args below hf happ hP hK
  exact ⟨n1, o1, w1, r1, e1, h _ _ _ _ q1.1, q1.2⟩
theorem zt_hasRoom {s : State} {pl : Platform} {r r' : Room} (hf : r.frames ≤ r'.frames) (hl : r.locals ≤ r'.locals) (hc : r.cells ≤ r'.cells) (hs : r.slots ≤ r'.slots) (h : s.hasRoom pl r' = true) : s.hasRoom pl r = true := by
  simp only [State.hasRoom, Bool.and_eq_true, decide_eq_true_eq] at h ⊢
  obtain ⟨⟨⟨⟨y, a, b, c, d, e⟩, f⟩, g⟩, i⟩ := h
  exact ⟨⟨⟨⟨by omega, by omega, by omega, by omega, by omega, e⟩, by omega⟩, by omega⟩, i⟩
theorem zt_room {l : Launch} {y : MethodName} {ws : List Cond} {rm rm' : Room} {Pc : Array Value → State → Prop} {Q1 : Array Value → State → Outcome → State → Prop} {mc ms : Nat} {free : Addr → Prop} (A : Met l y ws rm Pc Q1 mc ms free) (hf : rm.frames ≤ rm'.frames) (hl : rm.locals ≤ rm'.locals) (hc : rm.cells ≤ rm'.cells) (hs : rm.slots ≤ rm'.slots) : Met l y ws rm' Pc Q1 mc ms free := by
  intro p e ha hcs hk s m args below hfr happ hP hK
  obtain ⟨a1, a2, a3, a4, a5, a6, a7, a8⟩ := (Spec.appliesLoose_iff hfr).mp happ
  exact A p e ha hcs hk s m args below hfr ((Spec.appliesLoose_iff hfr).mpr ⟨a1, a2, a3, a4, a5, a6, zt_hasRoom hf hl hc hs a7, a8⟩) hP hK
theorem CX_wide {l : Launch} {fr lo fr' lo' : Nat} {full : Bool} {M : Nat} {vs rs : List XV} {h h' : XH} (A : CX l fr lo full M vs h rs h') (hf : fr ≤ fr') (hl : lo ≤ lo') : CX l fr' lo' full M vs h rs h' :=
  ⟨A.1, fun D cA base b Ls xs ads => zt_room (A.2 D cA base b Ls xs ads) hf hl (Nat.le_refl _) (Nat.le_refl _)⟩
/-- one machine's heap is both pictures' -/
noncomputable def XAG (full : Bool) (vs rs1 rs2 : List XV) (h1 h2 : XH) : Prop := ∃ (D : va_G) (cA : Nat → ClassId) (base b Ls : Nat) (xs : Nat → Int32) (ads : List Nat) (H : Heap), xrel D cA base b Ls xs full ads h1 H ∧ xrel D cA base b Ls xs full ads h2 H ∧ (rs1.map (xcv ads b)).head? = (rs2.map (xcv ads b)).head? ∧ xvs h1 vs ∧ xvs h2 vs
theorem CX_agree {l : Launch} {fr lo : Nat} {full : Bool} {K : Nat} {vs rs1 rs2 : List XV} {h h1 h2 : XH} (A : CX l fr lo full K vs h rs1 h1) (B : CX l fr lo full K vs h rs2 h2) (n1 : xN h1 = xN h ∧ xU h1 = xU h) (n2 : xN h2 = xN h ∧ xU h2 = xU h) : XAG full vs rs1 rs2 h1 h2 ∨ ∀ h3, xN h3 = xN h → xU h3 = xU h → XM h h3 → CX l fr lo full K vs h rs1 h3 := by
  by_cases hz : XAG full vs rs1 rs2 h1 h2
  · exact Or.inl hz
  · refine Or.inr (fun h3 n3 u3 m3 => ⟨⟨m3, A.1.2⟩, fun D cA base b Ls xs ads => ?_⟩)
    have A' := A.2 D cA base b Ls xs ads
    have B' := B.2 D cA base b Ls xs ads
    rw [n1.1, n1.2] at A'
    rw [n2.1, n2.2] at B'
    rw [n3, u3]
    refine zt_post (zt_two A' B') (fun a st o t q => ?_)
    exfalso
    obtain ⟨⟨a1, o1, r1, v1, -⟩, ⟨a2, o2, r2, v2, -⟩, -, hP⟩ := q
    have l0 : ads.length + 2 = xN h := hP.1.1
    have l1 := r1.1
    have l2 := r2.1
    rw [n1.1, List.length_append] at l1
    rw [n2.1, List.length_append] at l2
    obtain rfl : a1 = [] := List.length_eq_zero_iff.mp (by omega)
    obtain rfl : a2 = [] := List.length_eq_zero_iff.mp (by omega)
    rw [List.append_nil] at r1 r2 o1 o2
    exact hz ⟨D, cA, base, b, Ls, xs, ads, t.heap, r1, r2, Outcome.returned.inj (o1.symm.trans o2), xvs_mono A.1.1.2.2 hP.2.2.2.2.2.2.1, xvs_mono B.1.1.2.2 hP.2.2.2.2.2.2.1⟩
theorem XB_no {l : Launch} {Ls : Nat} {xs : Nat → Int32} {fr lo : Nat} {full : Bool} {M N U : Nat} {F : List XV → XH → Prop} {pc : Nat} {L st : List XV} {h : XH} (hz : ∃ c k, xN h ≤ c ∧ ¬ xI h c k = 0) : XB l Ls xs fr lo full M N U F pc L st h := by
  intro p e R s m args below meth c Q D cA base b ads0 u0 gz C hk t H locs ls r1 r2 r3 r4 r5 r6
  obtain ⟨c, k, hc, hn⟩ := hz
  exact absurd (r1.2.2.2.2.2 c k hc).1 hn
theorem XM_no {h h1 : XH} {c k : Nat} {v : Int32} (m : XM h h1) : XM h (xsetI h1 c k v) := ⟨m.1, m.2.1, m.2.2⟩
theorem XB_two {l : Launch} {Ls : Nat} {xs : Nat → Int32} {fr lo : Nat} {full : Bool} {M N U : Nat} {F : List XV → XH → Prop} {pc : Nat} {L st : List XV} {h : XH} {i : Instr} {aux nx K fr' lo' fr2 lo2 : Nat} {vs rs rs2 rest : List XV} {h' h2 : XH} (hi : xins M pc = some (i, aux, nx)) (hK : xcal i = some K) (hL : L.length = xmx M) (hst : xtake aux st [] = (vs, rest)) (hvl : vs.length = aux) (hrc : xrcv i K vs = true)
    (hX : CX l fr' lo' full K vs h rs h') (hX2 : CX l fr2 lo2 full K vs h rs2 h2) (n1 : xN h' = xN h ∧ xU h' = xU h) (n2 : xN h2 = xN h ∧ xU h2 = xU h) (hfr : fr' + 1 ≤ fr) (hfr2 : fr2 + 1 ≤ fr) (hlo : lo' + (xmx K + 19) ≤ lo) (hlo2 : lo2 + (xmx K + 19) ≤ lo) (hw : xw rest ≤ 8) (hN : xN h' ≤ N ∧ xU h' ≤ U) (k : XAG full vs rs rs2 h' h2 → XB l Ls xs fr lo full M N U F nx L (rs ++ rest) h') : XB l Ls xs fr lo full M N U F pc L st h := by
  have a1 : fr' ≤ max fr' fr2 ∧ fr2 ≤ max fr' fr2 ∧ max fr' fr2 + 1 ≤ fr := by omega
  have a2 : lo' ≤ max lo' lo2 ∧ lo2 ≤ max lo' lo2 ∧ max lo' lo2 + (xmx K + 19) ≤ lo := by omega
  have A := CX_wide hX a1.1 a2.1
  rcases CX_agree A (CX_wide hX2 a1.2.1 a2.2.1) n1 n2 with g | g
  · exact XB_call hi hK hL hst hvl hrc A a1.2.2 a2.2.2 hw hN (k g)
  · have z : xI (xsetI h' (xN h') 0 (Int32.ofInt (1))) (xN h') 0 = Int32.ofInt (1) := yI_same
    exact XB_call (h' := xsetI h' (xN h') 0 (Int32.ofInt (1))) hi hK hL hst hvl hrc (g _ n1.1 n1.2 (XM_no hX.1.1)) a1.2.2 a2.2.2 hw hN (XB_no ⟨xN h', 0, Nat.le_refl _, by rw [z]; decide⟩)
section XAg
variable {full : Bool} {vs rs1 rs2 : List XV} {h1 h2 : XH}
theorem XAG.v {a c : Int32} (g : XAG full vs [xi a] [xi c] h1 h2) : a = c := by
  obtain ⟨D, cA, base, b, Ls, xs, ads, H, -, -, e, -⟩ := g
  have e : some (Value.int a) = some (Value.int c) := e
  exact Value.int.inj (Option.some.inj e)
theorem XAG.w {a c : Int64} (g : XAG full vs [xl a] [xl c] h1 h2) : a = c := by
  obtain ⟨D, cA, base, b, Ls, xs, ads, H, -, -, e, -⟩ := g
  have e : some (Value.long a) = some (Value.long c) := e
  exact Value.long.inj (Option.some.inj e)
theorem vp_V_at {n k : Nat} {f : Nat → Value} (h : k < n) : vp_V ((List.range n).map f) k = f k := by
  unfold vp_V
  rw [List.getD_eq_getElem?_getD, lmap_at h]
  rfl
theorem xin_of {lo kd : Nat} (h1 : lo < kd) (h2 : kd < lo + 10000) : xin lo kd = true := by
  unfold xin
  rw [Bool.and_eq_true]
  exact ⟨Nat.ble_eq_true_of_le h1, Nat.ble_eq_true_of_le h2⟩
/-- an object's fields -/
theorem XAG.fld (g : XAG full vs rs1 rs2 h1 h2) {ci c k : Nat} (s1 : xok h1 (ci + 1) c) (s2 : xok h2 (ci + 1) c) (hk : k < xnf ci) (hc : ci < 13) : ∃ ads b, xfv ads b h1 c ci k = xfv ads b h2 c ci k ∧ va_D (fun _ => True) (xws (fun _ => 0) ads b h1) := by
  obtain ⟨D, cA, base, b, Ls, xs, ads, H, r1, r2, -⟩ := g
  have p1 := r1.2.1 (c - 2) _ (xws_at s1.1 s1.2.1)
  have p2 := r2.2.1 (c - 2) _ (xws_at s2.1 s2.2.1)
  rw [xce_obj s1.2.2 hc] at p1
  rw [xce_obj s2.2.2 hc] at p2
  obtain ⟨q1, m1, cell1, e1, -, -, v1⟩ := p1
  obtain ⟨q2, m2, cell2, e2, -, -, v2⟩ := p2
  obtain rfl := Option.some.inj (m1.symm.trans m2)
  obtain rfl := Option.some.inj (e1.symm.trans e2)
  obtain ⟨-, n1, -⟩ := xcl_facts m1
  have w1 := v1 k (by rw [n1]; exact hk)
  have w2 := v2 k (by rw [n1]; exact hk)
  rw [vp_V_at hk] at w1 w2
  refine ⟨ads, b, Option.some.inj (w1.symm.trans w2), ?_, fun _ _ _ => trivial⟩
  intro i j p q hp hq e
  have f : ∀ {i : Nat} {p : Nat × va_E}, (xws (fun _ => 0) ads b h1)[i]? = some p → ∃ p', (xws cA ads b h1)[i]? = some p' ∧ p'.1 = p.1 := by
    intro i p hp
    have hi : i < xN h1 - 2 := by
      have := (List.getElem?_eq_some_iff.mp hp).1
      unfold xws at this
      rw [List.length_map, List.length_range] at this
      exact this
    have a1 := xws_at (cA := fun _ => 0) (ads := ads) (b := b) (h := h1) (e := i + 2) (by omega) (by omega)
    have a2 := xws_at (cA := cA) (ads := ads) (b := b) (h := h1) (e := i + 2) (by omega) (by omega)
    rw [Nat.add_sub_cancel] at a1 a2
    obtain rfl := Option.some.inj (hp.symm.trans a1)
    exact ⟨_, a2, rfl⟩
  obtain ⟨p', x1, x2⟩ := f hp
  obtain ⟨q', y1, y2⟩ := f hq
  exact r1.2.2.1.1 i j p' q' x1 y1 (by rw [x2, y2]; exact e)
theorem XAG.i (g : XAG full vs rs1 rs2 h1 h2) {ci c k : Nat} (s1 : xok h1 (ci + 1) c) (s2 : xok h2 (ci + 1) c) (hk : k < xnf ci) (hc : ci < 13) (ht : xft ci k = 0) : xI h1 c k = xI h2 c k := by
  obtain ⟨ads, b, e, -⟩ := g.fld s1 s2 hk hc
  unfold xfv at e
  rw [ht] at e
  exact Value.int.inj e
theorem XAG.l (g : XAG full vs rs1 rs2 h1 h2) {ci c k : Nat} (s1 : xok h1 (ci + 1) c) (s2 : xok h2 (ci + 1) c) (hk : k < xnf ci) (hc : ci < 13) (ht : xft ci k = 1) : xL h1 c k = xL h2 c k := by
  obtain ⟨ads, b, e, -⟩ := g.fld s1 s2 hk hc
  unfold xfv at e
  rw [ht] at e
  exact Value.long.inj e
theorem XAG.arr (g : XAG full vs rs1 rs2 h1 h2) {kd c : Nat} (s1 : xok h1 kd c) (s2 : xok h2 kd c) {n : Nat} (hx : (kd = 10000 + n ∨ kd = 20000 + n ∨ kd = 30000 + n) ∧ n < 10000) {k : Nat} (hk : k < n) : xI h1 c k = xI h2 c k := by
  obtain ⟨D, cA, base, b, Ls, xs, ads, H, r1, r2, -⟩ := g
  have p1 := r1.2.1 (c - 2) _ (xws_at s1.1 s1.2.1)
  have p2 := r2.2.1 (c - 2) _ (xws_at s2.1 s2.2.1)
  have key : ∀ {cl : ClassId} {H : Heap} {a : Nat} {f f2 : Nat → Int32}, H[a]? = some (arrV cl n (fun j => .int (f j))) → H[a]? = some (arrV cl n (fun j => .int (f2 j))) → f k = f2 k := by
    intro cl H a f f2 e1 e2
    have e := Option.some.inj (e1.symm.trans e2)
    have w1 := arrV_read cl (fun j => Value.int (f j)) hk
    have w2 := arrV_read cl (fun j => Value.int (f2 j)) hk
    rw [e] at w1
    exact Value.int.inj (Option.some.inj (w1.symm.trans w2))
  rcases hx with ⟨rfl | rfl | rfl, hn⟩
  · have hb : xin 10000 (10000 + n) = true := xin_of (by omega) (by omega)
    rw [xce_i s1.2.2 hb, Nat.add_sub_cancel_left] at p1
    rw [xce_i s2.2.2 hb, Nat.add_sub_cancel_left] at p2
    have p1 : H[ads.getD (c - 2) 0]? = some (arrV (cA 0) n (fun j => .int (xI h1 c j))) := p1
    have p2 : H[ads.getD (c - 2) 0]? = some (arrV (cA 0) n (fun j => .int (xI h2 c j))) := p2
    exact key p1 p2
  · have hb : xin 20000 (20000 + n) = true := xin_of (by omega) (by omega)
    rw [xce_b s1.2.2 hb, Nat.add_sub_cancel_left] at p1
    rw [xce_b s2.2.2 hb, Nat.add_sub_cancel_left] at p2
    have p1 : H[ads.getD (c - 2) 0]? = some (arrV (cA 1) n (fun j => .int (xI h1 c j))) := p1
    have p2 : H[ads.getD (c - 2) 0]? = some (arrV (cA 1) n (fun j => .int (xI h2 c j))) := p2
    exact key p1 p2
  · have hb : xin 30000 (30000 + n) = true := xin_of (by omega) (by omega)
    rw [xce_z s1.2.2 hb, Nat.add_sub_cancel_left] at p1
    rw [xce_z s2.2.2 hb, Nat.add_sub_cancel_left] at p2
    have p1 : H[ads.getD (c - 2) 0]? = some (arrV (cA 2) n (fun j => .int (xI h1 c j))) := p1
    have p2 : H[ads.getD (c - 2) 0]? = some (arrV (cA 2) n (fun j => .int (xI h2 c j))) := p2
    exact key p1 p2
/-- the receiver is a cell of its kind -/
theorem XAG.rc {kd c : Nat} {l : List XV} (g : XAG full (xf kd c :: l) rs1 rs2 h1 h2) (hk : kd ≠ 50) : xok h1 kd c ∧ xok h2 kd c := by
  obtain ⟨D, cA, base, b, Ls, xs, ads, H, -, -, -, v1, v2⟩ := g
  exact ⟨(v1.1.resolve_left (fun z => hk z.1)).2, (v2.1.resolve_left (fun z => hk z.1)).2⟩
/-- what a field refers to -/
theorem XAG.to1 (g : XAG full vs rs1 rs2 h1 h2) {ci c k e : Nat} (s1 : xok h1 (ci + 1) c) (hc : ci < 13) (hk : k < xnf ci) (ht : xft ci k = 2) (r : xR h1 c k = e) (he : e ≠ 0) : xok h1 (xfk (ci + 1) k) e := by
  obtain ⟨D, cA, base, b, Ls, xs, ads, H, r1, -⟩ := g
  have z := r1.2.2.2.2.1 c k s1.1 s1.2.1 (by rw [s1.2.2]; omega) (by rw [s1.2.2]; exact hk) (by rw [s1.2.2]; exact ht)
  rw [r, s1.2.2] at z
  exact z.resolve_left (fun y => he y.1)
theorem XAG.to2 (g : XAG full vs rs1 rs2 h1 h2) {ci c k e : Nat} (s1 : xok h2 (ci + 1) c) (hc : ci < 13) (hk : k < xnf ci) (ht : xft ci k = 2) (r : xR h2 c k = e) (he : e ≠ 0) : xok h2 (xfk (ci + 1) k) e := by
  obtain ⟨D, cA, base, b, Ls, xs, ads, H, -, r1, -⟩ := g
  have z := r1.2.2.2.2.1 c k s1.1 s1.2.1 (by rw [s1.2.2]; omega) (by rw [s1.2.2]; exact hk) (by rw [s1.2.2]; exact ht)
  rw [r, s1.2.2] at z
  exact z.resolve_left (fun y => he y.1)
/-- references -/
theorem XAG.r (g : XAG full vs rs1 rs2 h1 h2) {ci c k : Nat} (s1 : xok h1 (ci + 1) c) (s2 : xok h2 (ci + 1) c) (hk : k < xnf ci) (hc : ci < 13) (ht : xft ci k = 2) (d1 : 2 ≤ xR h1 c k ∧ xR h1 c k < xN h1) (d2 : 2 ≤ xR h2 c k ∧ xR h2 c k < xN h1) : xR h1 c k = xR h2 c k := by
  obtain ⟨ads, b, e, hD⟩ := g.fld s1 s2 hk hc
  unfold xfv at e
  rw [ht] at e
  have e : (if xR h1 c k = 0 then Value.null else .ref (xad ads b (xR h1 c k))) = (if xR h2 c k = 0 then Value.null else .ref (xad ads b (xR h2 c k))) := e
  rw [if_neg (by omega), if_neg (by omega), xad_at d1.1, xad_at d2.1] at e
  have e := Value.ref.inj e
  have := hD.1 _ _ _ _ (xws_at (cA := fun _ => 0) (ads := ads) (b := b) (h := h1) d1.1 d1.2) (xws_at (cA := fun _ => 0) (ads := ads) (b := b) (h := h1) d2.1 d2.2) e
  omega
end XAg
