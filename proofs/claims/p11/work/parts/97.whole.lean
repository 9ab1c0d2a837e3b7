theorem xret_dec {M pc aux nx : Nat} (hi : xins M pc = some (.ireturn, aux, nx)) : decode (xbc M) pc = .ok (.ireturn, 1) := by
  obtain ⟨q, hq, hn, hd⟩ := xdecode hi
  obtain ⟨-, rfl⟩ := xbif hq
  exact hd
theorem xbc_law : xbc 288 = code := rfl
theorem xNw_lw {w : Cond} (h : w ∈ xNw) : w ∈ lw_tbl := by
  obtain ⟨x, hx, rfl⟩ := List.mem_map.mp h
  exact List.mem_append_right _ (List.mem_of_getElem? (of_decide_eq_true (List.all_eq_true.mp xml_ok x (List.mem_filter.mp hx).1)))
theorem xzd_in : ∀ x ∈ xzd, Cond.declares x ∈ lw_tbl := by decide +kernel
theorem xzc_in : ∀ q ∈ xzc, Cond.castable q q ∈ lw_tbl := by decide +kernel
theorem xzs_in : ∀ e ∈ xzs, Cond.stringRef "ScaleVote" e.1 e.2 ∈ lw_tbl := by decide +kernel
theorem xzs_ex : ∀ e ∈ xzs, Cond.exactly (.string "ScaleVote" e.1) "java/lang/String" ∈ flatC (Jvm.Cond.and given_1 narrow_1) := by decide +kernel
theorem zel_in : ∀ j, j < 105 → Cond.eq (.elem (.field (.string "ScaleVote$Reader" 238) "java/lang/String" "value" "[B") (.int (Int32.ofNat j))) (.int (zby.getD j 0)) ∈ flatC (Jvm.Cond.and given_1 narrow_1) := by decide +kernel
theorem zS_start {s : State} {b : Addr} (hts : ∀ w ∈ lw_tbl, w.before #[Value.ref b] s = true) (hgs : ∀ w ∈ flatC (Jvm.Cond.and given_1 narrow_1), w.before #[Value.ref b] s = true) (hA0 : ∀ a : Nat, a < s.heap.size → ¬ s.heap.size ≤ a) : ∃ q v : Nat, zS s.heap.size q v s s.heap := by
  obtain ⟨adK, adV, hS, hev⟩ := vk_Sof (args := #[Value.ref b]) (s := s) (N := 1) (tm := fun _ => Term.string "ScaleVote$Reader" 238) (len := [105]) (byt := [zby]) (A := fun q : Nat => s.heap.size ≤ q)
    (fun i hi => by obtain rfl : i = 0 := by omega
                    decide) (fun i _ => hgs _ (by decide +kernel)) (fun i _ => hgs _ (by decide +kernel)) (fun i _ => hgs _ (by decide +kernel))
    (fun i hi => by obtain rfl : i = 0 := by omega
                    exact hgs _ (by decide +kernel))
    (fun i hi j hj => by obtain rfl : i = 0 := by omega
                         exact hgs _ (zel_in j hj))
    (fun i j hi hj hne => absurd (by omega) hne) hA0
  refine ⟨adK 0, adV 0, vk_R.of (A := #[Value.ref b]) (hts _ (by decide +kernel)) (hev 0 (by decide)), ⟨fun i hi => ?_, fun i j hi hj _ => by omega⟩, va_Zof (args := #[Value.ref b]) (hts _ (by decide +kernel)) (hts _ (by decide +kernel)) (va_eqi (hgs _ (by decide +kernel))) hA0, va_Zqof (args := #[Value.ref b]) (hts _ (by decide +kernel)) (hts _ (by decide +kernel)) (hgs _ (by decide +kernel)) hA0⟩
  obtain rfl : i = 0 := by omega
  exact hS.1 0 (by decide)
/-- THE LAW, from its entry: out of the course of its body -/
theorem whole_start {p : Program} {e : Env} {s : State} {m : MethodId} {below : List Frame} {meth : Method} {c : Code} (l : Launch) (hst : l.stackTraces = false) {b L : Nat} {xs : Nat → Int32} (hL : L ≤ 3072) (C0 : lw_At p s m meth c b L xs) : W p l e room_1 s m #[Value.ref b] below meth c s.heap [] 0 0 (lw_Z below #[Value.ref b] s) (entryFrame m ([Value.ref b] : List Value).toArray 7) := by
  obtain ⟨hx, hb, hr, hml, hown, hts, hX, hbl, hlocks, hgv⟩ := id C0
  have htx : ∀ w ∈ xT, w.before #[Value.ref b] s = true := fun w hw => hts w (List.mem_filter.mp hw).1
  have hc : ∀ ci : Nat, ∃ (cC : ClassId) (iS : Nat → Nat), ∀ q, xcl[ci]? = some q → u_Kn s q.1 q.2.1 q.2.2 cC iS := by
    intro ci
    cases h : xcl[ci]? with
    | none => exact ⟨0, fun _ => 0, fun q hq => by cases hq⟩
    | some q =>
      obtain ⟨⟨n0, -⟩, -, n2, -⟩ := xcl_facts h
      obtain ⟨cC, iS, hk⟩ := u_known (C := q.1) (T := q.2.1) (N := q.2.2) (n := q.2.2) htx n2 (htx _ n0)
      exact ⟨cC, iS, fun q' hq => by cases hq; exact hk⟩
  obtain ⟨c0, k0, m0, i1, i2, i3⟩ := Cond.arrayClass_spec (htx _ xT_int)
  obtain ⟨c1, k1, m1, b1, b2, b3⟩ := Cond.arrayClass_spec (htx _ xT_byte)
  obtain ⟨c2, k2, m2, z1, z2, z3⟩ := Cond.arrayClass_spec (htx _ xT_boolean)
  obtain ⟨c3, k3, m3, l1, l2, l3⟩ := Cond.arrayClass_spec (htx _ xT_long)
  obtain ⟨cA, e0, e1, e2, e3⟩ : ∃ cA : Nat → ClassId, cA 0 = c0 ∧ cA 1 = c1 ∧ cA 2 = c2 ∧ cA 3 = c3 := ⟨fun k => if k = 0 then c0 else if k = 1 then c1 else if k = 2 then c2 else c3, rfl, rfl, rfl, rfl⟩
  have hK : va_K ((fun ci => Classical.choose (hc ci), fun ci => Classical.choose (Classical.choose_spec (hc ci))) : va_G) xcl (xtys cA) s := by
    refine ⟨fun ci q hq => Classical.choose_spec (Classical.choose_spec (hc ci)) q hq, fun k q hk => ?_⟩
    unfold xtys at hk
    rw [e0, e1, e2, e3] at hk
    match k, hk with
    | 0, hk => cases hk; exact ⟨fun n z => ⟨fun k h => (by cases h), k0, i2, m0, i3⟩, i1⟩
    | 1, hk => cases hk; exact ⟨fun n z => ⟨fun k h => (by cases h), k1, b2, m1, b3⟩, b1⟩
    | 2, hk => cases hk; exact ⟨fun n z => ⟨fun k h => (by cases h), k2, z2, m2, z3⟩, z1⟩
    | 3, hk => cases hk; exact ⟨fun n z => ⟨fun k h => (by cases h), k3, l2, m3, l3⟩, l1⟩
    | k + 4, hk => simp at hk
  generalize hD : ((fun ci => Classical.choose (hc ci), fun ci => Classical.choose (Classical.choose_spec (hc ci))) : va_G) = D at hK
  have hgs := flat_of_before _ hgv
  have hA0 : ∀ a : Nat, a < s.heap.size → ¬ s.heap.size ≤ a := fun a h1 h2 => absurd h1 (Nat.not_lt.mpr h2)
  have hZ : XZ l s.heap.size s s.heap := by
    refine ⟨hst, ⟨vx_Zqof (hts _ (by decide +kernel)) (hts _ (by decide +kernel)) (hgs _ (by decide +kernel)) hA0, vx_Zqof (hts _ (by decide +kernel)) (hts _ (by decide +kernel)) (hgs _ (by decide +kernel)) hA0⟩, fun e he => ?_, fun x hx => va_tabs rfl rfl (hts _ (xzd_in x hx)), fun q hq => va_tabs rfl rfl (hts _ (xzc_in q hq)), va_Nc.of (args := #[Value.ref b]) (hgs _ (by decide +kernel)), zS_start hts hgs hA0⟩
    obtain ⟨a, c, cA, kA, q1, -⟩ := Cond.exactly_spec (args := #[Value.ref b]) (first := s) (o := none) (s := s) (idx := []) (t := Term.string "ScaleVote" e.1) (cls := "java/lang/String") (hgs _ (xzs_ex e he))
    exact ⟨a, vk_R.of (A := #[Value.ref b]) (hts _ (xzs_in e he)) q1⟩
  have C : XC 288 1179 14255 L 14 538 p l e room_1 s m #[Value.ref b] below meth c D cA s.heap.size b xs [] 0 (0, 0) := by
    refine ⟨hZ, hx, hb, hml, hown, htx, fun z => absurd z (by decide +kernel), hK, fun w hw => ?_, ⟨hX, hbl, Nat.le_refl _⟩, Nat.le_refl _, Nat.le_refl _, Nat.le_refl _, Nat.le_refl _⟩
    have hw2 := hts w (xNw_lw hw)
    obtain ⟨a, i, x, q, rfl⟩ := xNw_tab hw
    exact va_Nw.of rfl hw2
  have hl := lv_entry ([.ref b]) (n := 7) (Nat.le_of_ble_eq_true rfl)
  rw [lg_entry_eq]
  have hls : xlr ([] ++ []) b ((lg_sl ([.ref b]) ++ List.replicate (7 - (lg_sl ([.ref b])).length) Slot.unset).toArray) [xf 50 1, xun, xun, xun, xun, xun, xun] := by
    refine ⟨hl.1, hl.2.1, fun q hq => ?_⟩
    obtain ⟨j, hj, ej⟩ := List.mem_filterMap.mp hq
    match j, ej with
    | 0, ej =>
      rw [if_neg (fun z => by cases z)] at ej
      cases ej
      exact hl.2.2 _ List.mem_cons_self
    | j + 1, ej =>
      have hz : xget [xf 50 1, xun, xun, xun, xun, xun, xun] (j + 1) = xun := xpad_get 6 j
      rw [if_pos hz] at ej
      cases ej
  have hrel : xrel D cA s.heap.size b L xs false ([] ++ []) xh0 s.heap := ⟨rfl, fun k q h => by simp [xws, xh0] at h, ⟨fun i j p q h => by simp [xws, xh0] at h, fun k q h => by simp [xws, xh0] at h⟩, fun c h1 h2 => absurd h2 (by show ¬ c < 2; omega), fun c k h1 h2 => absurd h2 (by show ¬ c < 2; omega), fun c k _ => ⟨rfl, rfl, rfl⟩⟩
  have hvl : xvl xh0 [xf 50 1, xun, xun, xun, xun, xun, xun] := ⟨Or.inr (Or.inl ⟨rfl, rfl⟩), xpad_vl 6⟩
  refine law_start l hL _ _ _ _ _ _ _ _ _ _ _ _ _ _ _ _ _ C ?_ [] s.heap [] _ hrel va_S.rf hls hvl trivial ⟨Nat.le_refl _, Nat.zero_le _, Nat.zero_le _⟩
  rintro gz' pcR L' rs h' - ⟨i, aux, nx, hi, hr1, hr2⟩ rfl hL' t H locs ls h1 h2 h3 h4 h5 h6
  refine va_forget (fun q hq => h2.2.2 q hq) (W.widen (k := 1177) (n := 14255) h6.2.1 h6.2.2 ?_)
  cases i with
  | ireturn =>
    have hd := xret_dec hi
    rw [xbc_law] at hd
    exact lw_ret hx hb hr hlocks hd
  | lreturn => cases hr2
  | return_ => cases hr2
  | _ => cases hr1
-- ===== YOUR PART ENDS =====
set_option maxHeartbeats 4000000 in
theorem lw_walk (l : Launch) (hst : l.stackTraces = false) (b : Addr) (xs : List Int32) : MetFree l x (headSpec (Jvm.Cond.code x code maxLocals ret :: tables_1) room_1) (lw_P b xs) (fun _ _ _ _ _ => True) lw_Q := by
  refine MetFree.of_bodyS (code := code) (maxLocals := maxLocals) (ret := ret) (by decide) ?_ ?_
  · intro args s m h hn
    obtain ⟨meth, c, h1, h2, h3, h4, h5, h6, -, -⟩ := Cond.code_spec hn (atoms_spec (ws := Jvm.Cond.code x code maxLocals ret :: tables_1) h _ List.mem_cons_self)
    exact ⟨meth, c, h1, h2, h3, h4, h5, h6⟩
  · intro p e s m args below meth c s₁ B hml0 hP _
    obtain ⟨rfl, hx, hbd, hgv⟩ := hP
    obtain ⟨scr, harrAt, hlist, hof, hsmall⟩ := hx
    obtain ⟨hcb, hkn, -, -⟩ := State.arrayAt?_spec harrAt
    have hown : s.vm.findClass R_law = some m.cls := findClass_of_methodNamed B.named
    have hts0 : ∀ c ∈ (Jvm.Cond.code x code maxLocals ret :: tables_1), c.before #[Value.ref b] s = true := atoms_spec (ws := Jvm.Cond.code x code maxLocals ret :: tables_1) B.pre
    have hts : ∀ w ∈ lw_tbl, w.before #[Value.ref b] s = true := k2_hts_sels lw_privs (fun w hw => hts0 w (List.mem_cons_of_mem _ hw)) lw_privs_ok
    have hml : c.maxLocals = 7 := B.maxLocals_eq (hts0 _ List.mem_cons_self)
    have X₀ : Stand p l e room_1 s m #[Value.ref b] below meth c s₁ [] 0 0 := Stand.of_body B
    have hh0 : s₁.heap = s.heap := by rw [B.state]; rfl
    have hsz : scr.slots.size = xs.length := by rw [← Array.length_toList, hlist, List.length_map]
    have hval : ∀ j : Nat, j < xs.length → scr.slots[j]? = some (.int (xs.getD j 0)) := fun j hj => by
      rw [← Array.getElem?_toList, hlist]
      simp [hj]
    have hbl : b < s.heap.size := (Array.getElem?_eq_some_iff.mp hcb).1
    have hX : va_X b xs.length (fun j => xs.getD j 0) s s.heap := ⟨scr, hcb, hof, hkn, hsz, hval⟩
    have K : W p l e room_1 s m #[Value.ref b] below meth c s₁.heap [] 0 0 (lw_Z below #[Value.ref b] s) (entryFrame m ([Value.ref b] : List Value).toArray 7) := by
      rw [hh0]
      exact whole_start l hst hbd ⟨B.exec, B.bytes, B.returns, hml, hown, hts, hX, hbl, B.notSynchronized, hgv⟩
    obtain ⟨t, a1, o, b1, b2, b3⟩ := K s₁ rfl X₀
    exact ⟨t, o, a1, b1, b2, b3⟩
theorem lw_pre_spec {args : Array Value} {s : State} (h : (Jvm.Cond.and given_1 narrow_1).before args s = true) (hr : rest_1_c.before args s = true) : ∃ (b : Addr) (xs : List Int32), lw_P b xs args s := by
  have hs := flat_of_before _ h
  have hq := flat_of_before _ hr
  have hc : (Cond.count 1).before args s = true := hs _ (by decide +kernel)
  have harr : (Cond.arrayOf (.arg 0) .int).before args s = true := hs _ (by decide +kernel)
  have hle : (Cond.le (.length (.arg 0)) (.int 3072)).before args s = true := hs _ (by decide +kernel)
  have hlen : (Cond.isInt (.length (.arg 0))).before args s = true := hq _ (by decide +kernel)
  have hall : (Cond.all (.arg 0) (.isInt (.elem (.arg 0) (.index 0)))).before args s = true := hq _ (by decide +kernel)
  obtain ⟨b, xs, hb, hx⟩ := State.ints_of_pre rfl harr hlen hall
  have hsm : xs.length < 2 ^ 31 := hx.choose_spec.2.2.2
  have hev : (Term.length (.arg 0)).eval args s none [] s = some (.int xs.length.toInt32) := hx.length_eval hb
  have hv := Cond.le_ints hev (show (Term.int 3072).eval args s none [] s = some (.int 3072) from rfl)
  have hd : xs.length.toInt32 ≤ 3072 := by
    simpa [Cond.before, Cond.holds, hv] using hle
  have hN : xs.length ≤ 3072 := (Int32.ofNat_le_ofNat hsm (by decide)).mp (show Int32.ofNat xs.length ≤ Int32.ofNat 3072 from hd)
  exact ⟨b, xs, Cond.one_arg hc (show args[0]? = some (.ref b) from hb), hx, hN, h⟩
theorem lw_comes (l : Launch) (hst : l.stackTraces = false) : Comes l x (Jvm.Cond.code x code maxLocals ret :: tables_1) room_1 (fun tb e args s => Calls_1 tb e args s ∧ rest_1 tb e args s ∧ Pre_1 tb e args s)
    (fun _ _ args s o t => lw_Q args s o t) := by
  intro p e ha hc hk s m args below hf hfit hheap happ hpre
  obtain ⟨b, xs, hP⟩ := lw_pre_spec hpre.2.2 hpre.2.1
  obtain ⟨k, o, h1, h2, h3, hQ⟩ := lw_walk l hst b xs p e ha hc hk s m args below hf ((Spec.applies_iff_loose hf).mp happ).1 hP trivial
  exact ⟨k, o, h1, h2, h3, hQ⟩
theorem lw_frame {s t : State} {o : Outcome} {args : Array Value} (h : Framed s o t [] 1177 14255) :
    Framed s o t (fieldLocs frame_1_writes args s ++ arrayLocs frame_1_arrays args s ++ staticLocs frame_1_statics s) 1177 14255 := h
theorem lw_limb (L : Cond) (hL : ∀ (args : Array Value) (s t : State), L.after args s (.returned (some (.int 1))) t = true) :
    ArmFor flags0 classFile x code maxLocals ret World_1 tables_1 room_1 Calls_1 rest_1 Pre_1
      (fun tb e a s o t => postC L tb e a s o t ∧ Framed s o t (fieldLocs frame_1_writes a s ++ arrayLocs frame_1_arrays a s ++ staticLocs frame_1_statics s) 1177 14255) := by
  intro l hfl _ _ p e ha hc hk s m args below hf hfit hheap happ hpre
  obtain ⟨k, o, h1, h2, h3, rfl, hF⟩ := lw_comes l (by unfold Launch.stackTraces; rw [hfl]; decide) p e ha hc hk s m args below hf hfit hheap happ hpre
  exact ⟨k, _, h1, h2, h3, hL args s _, lw_frame hF⟩
theorem i_vc : Claimed_1_1 ∧ Claimed_1_2 := ⟨lw_limb limb_1_1 (fun args s t => by simp [limb_1_1, Cond.after, Cond.holds, Cond.value]), lw_limb limb_1_2 (fun args s t => Cond.after_iff.mpr (by
  first | (rw [show limb_1_2 = Cond.eq .result (.int 1) from rfl, Cond.eq_ints (x := 1) (y := 1) rfl rfl]; simp; done) | (simp [limb_1_2, Cond.value, Term.eval]; done)))⟩
