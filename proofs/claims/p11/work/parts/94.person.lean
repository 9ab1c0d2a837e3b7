/-! PERSON: the class throws where there is no such person; the law's own method catches it and answers 1. -/
theorem xw_p : XW 170 := ⟨⟨xT_tb (i := 1191) (by decide +kernel) (by decide +kernel), xT_tb (i := 1) (by decide +kernel) (by decide +kernel), by decide +kernel, by decide +kernel, by decide +kernel, by decide +kernel⟩, (fun h => absurd h (by decide +kernel)), (fun _ => xT_tb (i := 1189) (by decide +kernel) (by decide +kernel)), (fun h => absurd h (by decide +kernel)), (fun _ => xT_tb (i := 1190) (by decide +kernel) (by decide +kernel))⟩
def yLp : MethodName := ⟨"ScaleVoteLaw", "person", "(LScaleVote;II[J)I"⟩
def hLp : List (Nat × Nat × Nat × Nat) := [(0, 10, 13, 13), (0, 10, 17, 15)]
theorem lp_w : Cond.codeWith yLp method_3_code 5 (some .int) hLp ∈ xT := xT_tb (i := 1185) (by decide +kernel) (by decide +kernel)
noncomputable def XVx (D : va_G) (cA : Nat → ClassId) (base b Ls : Nat) (xs : Nat → Int32) (ads : List Nat) (h : XH) (X : String) : String → State → State → Prop := fun E st t =>
  E = X ∧ xrel D cA base b Ls xs false ads h t.heap ∧ va_F (fun q : Nat => base ≤ q) st t
theorem xrel_kept {D : va_G} {cA : Nat → ClassId} {base b Ls : Nat} {xs : Nat → Int32} {full : Bool} {ads : List Nat} {g : XH} {H H1 : Heap} (h : xrel D cA base b Ls xs full ads g H) (hq : ∀ q : Nat, q < H.size → H1[q]? = H[q]?) : xrel D cA base b Ls xs full ads g H1 :=
  ⟨h.1, h.2.1.kept (fun k q hk => hq q.1 (vx_lt h.2.1 hk)), h.2.2⟩
theorem xlr_entry {n : Nat} {ads : List Nat} {b : Nat} (vs : List XV) (hlen : (xent n vs).length = n) : xlr (ads ++ []) b ((lg_sl (vs.map (xcv ads b)) ++ List.replicate (n - (lg_sl (vs.map (xcv ads b))).length) Slot.unset).toArray) (xent n vs) := by
  have hwl : xw vs ≤ n := by
    have := xent_len vs n
    omega
  have hl := lv_entry (vs.map (xcv ads b)) (n := n) (by rw [lg_len]; exact hwl)
  rw [List.append_nil]
  refine ⟨hl.1.trans hlen.symm, hl.2.1, fun q hq => ?_⟩
  obtain ⟨j, hj, ej⟩ := List.mem_filterMap.mp hq
  by_cases hz : xget (xent n vs) j = xun
  · rw [if_pos hz] at ej; cases ej
  · rw [if_neg hz] at ej
    cases ej
    have z := xent_get (ads := ads) (b := b) vs n 0 j hz
    rw [Nat.zero_add] at z
    exact hl.2.2 _ z
theorem px_at1 : ∀ w ∈ (vx_atS "ScaleVote" 138 "java/lang/IndexOutOfBoundsException" ["java/lang/RuntimeException", "java/lang/Exception"]).filter goodWord, w ∈ lw_tbl := by decide +kernel
theorem px_no1 : ∀ w ∈ (vx_atS "ScaleVote" 138 "java/lang/IndexOutOfBoundsException" ["java/lang/RuntimeException", "java/lang/Exception"]).filter (fun w => !goodWord w), w ∈ xzd.map Cond.declares ++ xzc.map (fun q => Cond.castable q q) := by decide +kernel
theorem px_ot1 : ∀ w ∈ Cond.classLink "ScaleVote" 134 "java/lang/IndexOutOfBoundsException" :: Cond.initialized "java/lang/IndexOutOfBoundsException" :: vx_atS "ScaleVote" 138 "java/lang/IndexOutOfBoundsException" ["java/lang/RuntimeException", "java/lang/Exception"], vx_ot w = true := by decide +kernel
set_option maxRecDepth 100000 in
set_option maxHeartbeats 1000000 in
theorem px_met1 (l : Launch) (h : XH) (e : Nat) (p0 p1 : Int32) {o : List Nat} {r : XP} (hs : xrun false [85] none 40 12 492 [8] true 170 0 [xf 12 e, xi p0, xi p1] [] h o True = some r) (hr : r.1 = 8 ∧ r.2.1 = [xf 12 e, xi p0, xi p1] ∧ r.2.2.1 = [] ∧ r.2.2.2.1 = h) (ha : r.2.2.2.2.2) (D : va_G) (cA : Nat → ClassId) (base b Ls : Nat) (xs : Nat → Int32) (ads : List Nat) :
    vx_Met l (xnm 170) (Cond.code (xnm 170) (xbc 170) (xmx 170) (xrt 170) :: xT) ({ frames := 12, cells := 1, slots := 6, locals := 492 } : Room) (va_Pc ([xf 12 e, xi p0, xi p1].map (xcv ads b)) (XPc l D cA base b Ls xs false ads [xf 12 e, xi p0, xi p1] h)) (fun _ _ _ _ => False) (XVx D cA base b Ls xs ads h "java/lang/IndexOutOfBoundsException") 1 6 (fun q : Nat => base ≤ q) := by
  obtain ⟨⟨w1, w2, w3, w4, w5, w6⟩, -⟩ := xw_p
  obtain ⟨r1, r2, r3, r4⟩ := hr
  refine vx_ofW (cc := xbc 170) (maxL := xmx 170) (ret := xrt 170) (by decide +kernel) rfl ?_
  intro p e' s m args below meth c s₁ B hml ht hv
  obtain ⟨rfl, hrel, hK, hNw, hXs, hb, hbase, hvs, hZ⟩ := hv
  have hts := atoms_spec (ws := Cond.code (xnm 170) (xbc 170) (xmx 170) (xrt 170) :: xT) B.pre
  have htx : ∀ w ∈ xT, w.before (([xf 12 e, xi p0, xi p1].map (xcv ads b)).toArray) s = true := fun w hw => hts w (List.mem_cons_of_mem _ hw)
  have hown : s.vm.findClass (xos (xow 170)) = some m.cls := by rw [w5]; exact findClass_of_methodNamed B.named
  have hl0 := hrel.1
  have C : XC 170 (xN h) (xU h) Ls 12 492 p l e' (headSpec (Cond.code (xnm 170) (xbc 170) (xmx 170) (xrt 170) :: xT) ({ frames := 12, cells := 1, slots := 6, locals := 492 } : Room)).room s m (([xf 12 e, xi p0, xi p1].map (xcv ads b)).toArray) below meth c D cA base b xs ads (xU h) (0, 0) := by
    refine ⟨hZ, B.exec, B.bytes, hml, hown, htx, fun z => absurd z (by decide +kernel), hK, hNw, ⟨hXs, hb, hbase⟩, Nat.le_refl _, Nat.le_refl _, ?_, ?_⟩
    · show xN h ≤ ads.length + 2 + 1
      omega
    · show xU h ≤ xU h + 6
      omega
  rw [lg_entry_eq]
  have hls := xlr_entry (n := xmx 170) (ads := ads) (b := b) [xf 12 e, xi p0, xi p1] rfl
  have e0 : xN h - (ads.length + 2) = 0 := by omega
  have fin := xrun_ok (l := l) (xin_ok rfl) none 40 12 492 [8] true 170 0 _ _ h o True _ hs (Or.inl rfl) (Q := vx_MQ below (fun _ _ _ _ => False) (XVx D cA base b Ls xs ads h "java/lang/IndexOutOfBoundsException") (([xf 12 e, xi p0, xi p1].map (xcv ads b)).toArray) s 1 6 (fun q : Nat => base ≤ q)) C rfl (by rw [r4]; exact Nat.le_refl _) (by rw [r4]; exact Nat.le_refl _) ha ?_ [] s.heap [] _ (by rw [List.append_nil]; exact hrel) va_S.rf hls (xent_vl [xf 12 e, xi p0, xi p1] 3 hvs) trivial ⟨Nat.le_refl _, by dsimp only; omega, by dsimp only; omega⟩
  · dsimp only [Nat.add_zero] at fin
    rw [e0, Nat.sub_self] at fin
    exact fin
  · rw [r1, r2, r3, r4]
    intro t H locs ls h1 h2 h3 h4 h5 h6
    have hl1 := h1.1
    rw [List.length_append] at hl1
    have ht0 : t = [] := List.eq_nil_of_length_eq_zero (by omega)
    subst ht0
    rw [List.append_nil] at h1
    dsimp only [Nat.add_zero]
    rw [e0, Nat.sub_self]
    obtain ⟨sa, hsa⟩ := hZ.2.2.1 (136, "no such person") (by decide)
    have hown2 : s.vm.findClass "ScaleVote" = some m.cls := hown
    refine vx_throwS (own := "ScaleVote") (cls := "java/lang/IndexOutOfBoundsException") (text := "no such person") (names := ["java/lang/RuntimeException", "java/lang/Exception"]) (ik := 134) (is := 136) (ic := 138) (sa := sa) (A := fun q : Nat => base ≤ q) (cc := xbc 170) B.exec B.bytes hZ.1 hown2 (by decide +kernel) (by decide +kernel)
      (htx _ (xT_tb (i := 1192) (by decide +kernel) (by decide +kernel))) (htx _ (xT_tb (i := 24) (by decide +kernel) (by decide +kernel))) hsa (vx_hat (fun w hw => htx w (List.mem_filter.mpr ⟨px_at1 w hw, (List.mem_filter.mp hw).2⟩)) px_no1 (fun w hw => by
        rcases List.mem_append.mp hw with hw | hw
        · obtain ⟨x, hx, rfl⟩ := List.mem_map.mp hw
          exact va_tabs rfl rfl (hZ.2.2.2.1 x hx)
        · obtain ⟨x, hx, rfl⟩ := List.mem_map.mp hw
          exact va_tabs rfl rfl (hZ.2.2.2.2.1 x hx))) px_ot1 hZ.2.1.1 hZ.2.1.2 h2 (h3.1.trans hml.symm)
      (by decide +kernel) (by decide +kernel) (by decide +kernel) (by decide +kernel) (by decide +kernel) (fun x hx => (ht x hx).elim) (by decide) (show 0 + (13 * (2 + 1) + 43) ≤ 492 by decide) (by decide) (by decide) B.notSynchronized ?_ (fun z hz => h2.2.2 z hz) (by decide) (by decide)
    intro t _ hsz hq
    exact ⟨rfl, xrel_kept h1 hq, ⟨Nat.le_trans h2.1 hsz, fun q g1 g2 => by rw [hq q (Nat.lt_of_lt_of_le g1 h2.1)]; exact h2.2.1 q g1 g2⟩⟩
theorem px_at2 : ∀ w ∈ (vx_atX "ScaleVote" 164 "java/util/NoSuchElementException" "java/lang/RuntimeException" 13 prog_31_method_4_code ["java/lang/Exception"]).filter goodWord, w ∈ lw_tbl := by decide +kernel
theorem px_no2 : ∀ w ∈ (vx_atX "ScaleVote" 164 "java/util/NoSuchElementException" "java/lang/RuntimeException" 13 prog_31_method_4_code ["java/lang/Exception"]).filter (fun w => !goodWord w), w ∈ xzd.map Cond.declares ++ xzc.map (fun q => Cond.castable q q) := by decide +kernel
theorem px_ot2 : ∀ w ∈ Cond.classLink "ScaleVote" 160 "java/util/NoSuchElementException" :: Cond.initialized "java/util/NoSuchElementException" :: vx_atX "ScaleVote" 164 "java/util/NoSuchElementException" "java/lang/RuntimeException" 13 prog_31_method_4_code ["java/lang/Exception"], vx_ot w = true := by decide +kernel
set_option maxRecDepth 100000 in
set_option maxHeartbeats 1000000 in
theorem px_met2 (l : Launch) (h : XH) (e : Nat) (p0 p1 : Int32) {o : List Nat} {r : XP} (hs : xrun false [85] none 40 12 492 [124] true 170 0 [xf 12 e, xi p0, xi p1] [] h o True = some r) (hr : r.1 = 124 ∧ r.2.1 = [xf 12 e, xi p0, xi p1] ∧ r.2.2.1 = [] ∧ r.2.2.2.1 = h) (ha : r.2.2.2.2.2) (D : va_G) (cA : Nat → ClassId) (base b Ls : Nat) (xs : Nat → Int32) (ads : List Nat) :
    vx_Met l (xnm 170) (Cond.code (xnm 170) (xbc 170) (xmx 170) (xrt 170) :: xT) ({ frames := 12, cells := 1, slots := 6, locals := 492 } : Room) (va_Pc ([xf 12 e, xi p0, xi p1].map (xcv ads b)) (XPc l D cA base b Ls xs false ads [xf 12 e, xi p0, xi p1] h)) (fun _ _ _ _ => False) (XVx D cA base b Ls xs ads h "java/util/NoSuchElementException") 1 6 (fun q : Nat => base ≤ q) := by
  obtain ⟨⟨w1, w2, w3, w4, w5, w6⟩, -⟩ := xw_p
  obtain ⟨r1, r2, r3, r4⟩ := hr
  refine vx_ofW (cc := xbc 170) (maxL := xmx 170) (ret := xrt 170) (by decide +kernel) rfl ?_
  intro p e' s m args below meth c s₁ B hml ht hv
  obtain ⟨rfl, hrel, hK, hNw, hXs, hb, hbase, hvs, hZ⟩ := hv
  have hts := atoms_spec (ws := Cond.code (xnm 170) (xbc 170) (xmx 170) (xrt 170) :: xT) B.pre
  have htx : ∀ w ∈ xT, w.before (([xf 12 e, xi p0, xi p1].map (xcv ads b)).toArray) s = true := fun w hw => hts w (List.mem_cons_of_mem _ hw)
  have hown : s.vm.findClass (xos (xow 170)) = some m.cls := by rw [w5]; exact findClass_of_methodNamed B.named
  have hl0 := hrel.1
  have C : XC 170 (xN h) (xU h) Ls 12 492 p l e' (headSpec (Cond.code (xnm 170) (xbc 170) (xmx 170) (xrt 170) :: xT) ({ frames := 12, cells := 1, slots := 6, locals := 492 } : Room)).room s m (([xf 12 e, xi p0, xi p1].map (xcv ads b)).toArray) below meth c D cA base b xs ads (xU h) (0, 0) := by
    refine ⟨hZ, B.exec, B.bytes, hml, hown, htx, fun z => absurd z (by decide +kernel), hK, hNw, ⟨hXs, hb, hbase⟩, Nat.le_refl _, Nat.le_refl _, ?_, ?_⟩
    · show xN h ≤ ads.length + 2 + 1
      omega
    · show xU h ≤ xU h + 6
      omega
  rw [lg_entry_eq]
  have hls := xlr_entry (n := xmx 170) (ads := ads) (b := b) [xf 12 e, xi p0, xi p1] rfl
  have e0 : xN h - (ads.length + 2) = 0 := by omega
  have fin := xrun_ok (l := l) (xin_ok rfl) none 40 12 492 [124] true 170 0 _ _ h o True _ hs (Or.inl rfl) (Q := vx_MQ below (fun _ _ _ _ => False) (XVx D cA base b Ls xs ads h "java/util/NoSuchElementException") (([xf 12 e, xi p0, xi p1].map (xcv ads b)).toArray) s 1 6 (fun q : Nat => base ≤ q)) C rfl (by rw [r4]; exact Nat.le_refl _) (by rw [r4]; exact Nat.le_refl _) ha ?_ [] s.heap [] _ (by rw [List.append_nil]; exact hrel) va_S.rf hls (xent_vl [xf 12 e, xi p0, xi p1] 3 hvs) trivial ⟨Nat.le_refl _, by dsimp only; omega, by dsimp only; omega⟩
  · dsimp only [Nat.add_zero] at fin
    rw [e0, Nat.sub_self] at fin
    exact fin
  · rw [r1, r2, r3, r4]
    intro t H locs ls h1 h2 h3 h4 h5 h6
    have hl1 := h1.1
    rw [List.length_append] at hl1
    have ht0 : t = [] := List.eq_nil_of_length_eq_zero (by omega)
    subst ht0
    rw [List.append_nil] at h1
    dsimp only [Nat.add_zero]
    rw [e0, Nat.sub_self]
    obtain ⟨sa, hsa⟩ := hZ.2.2.1 (162, "no such what") (by decide)
    have hown2 : s.vm.findClass "ScaleVote" = some m.cls := hown
    refine vx_throwX (Y0 := "java/lang/RuntimeException") (ix := 13) (rx := prog_31_method_4_code) (own := "ScaleVote") (cls := "java/util/NoSuchElementException") (text := "no such what") (names := ["java/lang/Exception"]) (ik := 160) (is := 162) (ic := 164) (sa := sa) (A := fun q : Nat => base ≤ q) (cc := xbc 170) B.exec B.bytes hZ.1 (by decide +kernel) (by decide +kernel) (by decide +kernel) (by decide +kernel) hown2 (by decide +kernel) (by decide +kernel) (by decide +kernel)
      (htx _ (xT_tb (i := 1259) (by decide +kernel) (by decide +kernel))) (htx _ (xT_tb (i := 25) (by decide +kernel) (by decide +kernel))) hsa (vx_hat (fun w hw => htx w (List.mem_filter.mpr ⟨px_at2 w hw, (List.mem_filter.mp hw).2⟩)) px_no2 (fun w hw => by
        rcases List.mem_append.mp hw with hw | hw
        · obtain ⟨x, hx, rfl⟩ := List.mem_map.mp hw
          exact va_tabs rfl rfl (hZ.2.2.2.1 x hx)
        · obtain ⟨x, hx, rfl⟩ := List.mem_map.mp hw
          exact va_tabs rfl rfl (hZ.2.2.2.2.1 x hx))) px_ot2 hZ.2.1.1 hZ.2.1.2 h2 (h3.1.trans hml.symm)
      (by decide +kernel) (by decide +kernel) (by decide +kernel) (by decide +kernel) (by decide +kernel) (fun x hx => (ht x hx).elim) (by decide) (show 0 + (13 * (1 + 2) + 43) ≤ 492 by decide) (by decide) (by decide) B.notSynchronized ?_ (fun z hz => h2.2.2 z hz) (by decide) (by decide)
    intro t _ hsz hq
    exact ⟨rfl, xrel_kept h1 hq, ⟨Nat.le_trans h2.1 hsz, fun q g1 g2 => by rw [hq q (Nat.lt_of_lt_of_le g1 h2.1)]; exact h2.2.1 q g1 g2⟩⟩
theorem lp_d5 : decode method_3_code 5 = .ok (.invokevirtual 7, 3) := by decide +kernel
theorem lp_d374 : decode (xbc 288) 374 = .ok (.invokestatic 39, 3) := by decide +kernel
theorem lp_tab {c : Code} (h : c.exceptionTable.toList = tableOf hLp) : c.exceptionTable.toList = [] ++ ({ startPc := 0, endPc := 10, handlerPc := 13, catchType := 13 } : ExceptionTableEntry) :: [({ startPc := 0, endPc := 10, handlerPc := 17, catchType := 15 } : ExceptionTableEntry)] := by
  rw [h]
  rfl
theorem lp_tab2 {c : Code} (h : c.exceptionTable.toList = tableOf hLp) : c.exceptionTable.toList = [({ startPc := 0, endPc := 10, handlerPc := 13, catchType := 13 } : ExceptionTableEntry)] ++ ({ startPc := 0, endPc := 10, handlerPc := 17, catchType := 15 } : ExceptionTableEntry) :: [] := by
  rw [h]
  rfl
set_option maxRecDepth 100000 in
set_option maxHeartbeats 1000000 in
theorem lp_met1 (l : Launch) (h : XH) (e o4 : Nat) (p0 p1 : Int32) (hM : ∀ (D : va_G) (cA : Nat → ClassId) (base b Ls : Nat) (xs : Nat → Int32) (ads : List Nat), vx_Met l (xnm 170) (Cond.code (xnm 170) (xbc 170) (xmx 170) (xrt 170) :: xT) ({ frames := 12, cells := 1, slots := 6, locals := 492 } : Room) (va_Pc ([xf 12 e, xi p0, xi p1].map (xcv ads b)) (XPc l D cA base b Ls xs false ads [xf 12 e, xi p0, xi p1] h)) (fun _ _ _ _ => False) (XVx D cA base b Ls xs ads h "java/lang/IndexOutOfBoundsException") 1 6 (fun q : Nat => base ≤ q))
    (D : va_G) (cA : Nat → ClassId) (base b Ls : Nat) (xs : Nat → Int32) (ads : List Nat) :
    vx_Met l yLp (Cond.codeWith yLp method_3_code 5 (some .int) hLp :: xT) ({ frames := 13, cells := 1, slots := 6, locals := 514 } : Room) (va_Pc ([xf 12 e, xi p0, xi p1, xf 40001 o4].map (xcv ads b)) (XPc l D cA base b Ls xs false ads [xf 12 e, xi p0, xi p1, xf 40001 o4] h)) (XQc D cA base b Ls xs false ads [xi 1] h) (fun _ _ _ => False) 1 6 (fun q : Nat => base ≤ q) := by
  obtain ⟨⟨w1, w2, w3, w4, w5, w6⟩, w7, w8, w9, w10⟩ := xw_p
  refine vx_ofWH (cc := method_3_code) (maxL := 5) (ret := some .int) (hh := hLp) (by decide +kernel) rfl ?_
  intro p e' s m args below meth c s₁ B hml hv
  obtain ⟨rfl, hrel, hK, hNw, hXs, hb, hbase, hvs, hZ⟩ := hv
  have hts := atoms_spec (ws := Cond.codeWith yLp method_3_code 5 (some .int) hLp :: xT) B.pre
  have htx : ∀ w ∈ xT, w.before (([xf 12 e, xi p0, xi p1, xf 40001 o4].map (xcv ads b)).toArray) s = true := fun w hw => hts w (List.mem_cons_of_mem _ hw)
  have hown : s.vm.findClass "ScaleVoteLaw" = some m.cls := findClass_of_methodNamed B.named
  have htab := lp_tab (vx_table (x := yLp) B (hts _ List.mem_cons_self))
  rw [lg_entry_eq]
  have hls := xlr_entry (n := 5) (ads := ads) (b := b) [xf 12 e, xi p0, xi p1, xf 40001 o4] rfl
  rw [List.append_nil] at hls
  obtain ⟨ls, els⟩ : ∃ ls, ls = ((lg_sl ([xf 12 e, xi p0, xi p1, xf 40001 o4].map (xcv ads b)) ++ List.replicate (5 - (lg_sl ([xf 12 e, xi p0, xi p1, xf 40001 o4].map (xcv ads b))).length) Slot.unset).toArray) := ⟨_, rfl⟩
  rw [← els] at hls ⊢
  have g0 : ls[0]? = some (.val (.ref (xad ads b e))) := xlr_get hls (i := 0) (v := xf 12 e) rfl (fun z => by cases z)
  have g1 : ls[1]? = some (.val (.int p0)) := xlr_get hls (i := 1) (v := xi p0) rfl (fun z => by cases z)
  have g2 : ls[2]? = some (.val (.int p1)) := xlr_get hls (i := 2) (v := xi p1) rfl (fun z => by cases z)
  have g3 : ls[3]? = some (.val (.ref (xad ads b o4))) := xlr_get hls (i := 3) (v := xf 40001 o4) rfl (fun z => by cases z)
  refine lv_aload_n (cc := method_3_code) (k := 3) (i := 3) B.exec B.bytes (by decide +kernel) rfl g3 ?_
  refine lv_iconst (cc := method_3_code) (n := 0) (v := 0) B.exec B.bytes (by decide +kernel) rfl ?_
  refine lv_aload_n (cc := method_3_code) (k := 0) (i := 0) B.exec B.bytes (by decide +kernel) rfl g0 ?_
  refine lv_iload_n (cc := method_3_code) (k := 1) (i := 1) B.exec B.bytes (by decide +kernel) rfl g1 ?_
  refine lv_iload_n (cc := method_3_code) (k := 2) (i := 2) B.exec B.bytes (by decide +kernel) rfl g2 ?_
  have hrecv : ∃ cellB : Cell, s.heap[xad ads b e]? = some cellB ∧ cellB.vm.isStatics = false ∧ s.vm.findClass (xnm 170).cls = some cellB.cls := by
    rcases hvs.1 with ⟨z, -⟩ | ⟨-, o1, o2, o3⟩
    · cases z
    · have he := xws_at (cA := cA) (ads := ads) (b := b) o1 o2
      rw [xce_obj (ci := 11) o3 (by decide)] at he
      obtain ⟨w, hwc⟩ := xcl_kind hrel.2.1 he
      have z := va_recv hK hrel.2.1 hwc he
      have e11 : xos (xow 170) = w.1 := (xos_cl hwc).symm
      rw [xad_at o1, ← w5, e11]
      exact z
  have hPc : ∀ U : State, U.heap = s.heap → s.WarmedH U.vm → va_Pc ([xf 12 e, xi p0, xi p1].map (xcv ads b)) (XPc l D cA base b Ls xs false ads [xf 12 e, xi p0, xi p1] h) ([xf 12 e, xi p0, xi p1].map (xcv ads b)).toArray U := fun U hU hW =>
    ⟨rfl, by rw [hU]; exact hrel, va_K.moved hW.alike hK, xNw_warm hW hNw, by rw [hU]; exact va_X.moved hW.alike hXs, hb, by rw [hU]; exact hbase, ⟨hvs.1, trivial, trivial, trivial⟩, by rw [hU]; exact XZ.warm hW hZ⟩
  have hr := vx_runV (C := (xnm 170).cls) (b := xad ads b e) (As := [.int p0, .int p1]) (rest := [.int 0, .ref (xad ads b o4)]) (g := F0 m 5 ls [.int p1, .int p0, .ref (xad ads b e), .int 0, .ref (xad ads b o4)]) (H := s.heap) (locs := []) (cells := 0) (slots := 0)
    (S := (⟨B.exec, B.bytes, hml, hown, htx⟩ : CallFix p m c method_3_code 5 s (([xf 12 e, xi p0, xi p1, xf 40001 o4].map (xcv ads b)).toArray) xT "ScaleVoteLaw")) (hM D cA base b Ls xs ads) (R := (headSpec (Cond.codeWith yLp method_3_code 5 (some .int) hLp :: xT) ({ frames := 13, cells := 1, slots := 6, locals := 514 } : Room)).room) (e := e') (below := below) (meth := meth)
    ⟨callB_of (index := 7) (xnp 170) htx (xT_in w1) rfl rfl rfl (htx _ w2) (htx _ (xT_tb (i := 1188) (by decide +kernel) (by decide +kernel))) w3 ⟨Nat.le_refl _, Nat.le_refl _⟩, htx _ (xT_tb (i := 1189) (by decide +kernel) (by decide +kernel)), htx _ (xT_tb (i := 1190) (by decide +kernel) (by decide +kernel))⟩ ⟨XPc_blind, hrecv, hPc⟩ rfl rfl hls.1 rfl (lv_room (show 2 ≤ 8 by decide)) lp_d5 ⟨Nat.le_refl _, Nat.le_refl _⟩
  show W p l e' _ s m _ below meth c s.heap [] 0 0 _ (F0 m 5 ls [.int p1, .int p0, .ref (xad ads b e), .int 0, .ref (xad ads b o4)])
  intro T hT X
  rcases hr T hT X with ⟨v, st₀, t, T', L, h0, X', hL, e1, e2, hq, st⟩ | ⟨q, st₀, t, T', L, E, ce, h0, X', hL, e1, e2, hx, hce, hcv, hcl, st⟩
  · exact False.elim hq
  · obtain ⟨rfl, hx2, hx3⟩ := hx
    have hlocs : ∀ z ∈ [] ++ L, base ≤ z.base := fun z hz => hL z hz
    have kk : W p l e' (headSpec (Cond.codeWith yLp method_3_code 5 (some .int) hLp :: xT) ({ frames := 13, cells := 1, slots := 6, locals := 514 } : Room)).room s m (([xf 12 e, xi p0, xi p1, xf 40001 o4].map (xcv ads b)).toArray) below meth c T'.heap ([] ++ L) 1 6 (vx_MQ below (XQc D cA base b Ls xs false ads [xi 1] h) (fun _ _ _ => False) (([xf 12 e, xi p0, xi p1, xf 40001 o4].map (xcv ads b)).toArray) s 1 6 (fun q : Nat => base ≤ q)) (F0 m 13 ls [.ref q]) := by
      refine lv_astore (cc := method_3_code) (i := 4) (nL := 5) (lv := []) B.exec B.bytes (by decide +kernel) ⟨hls.1, hls.2.1, fun _ z => nomatch z⟩ (by decide) rfl (fun ls2 hl2 => ?_)
      refine lv_iconst (cc := method_3_code) (n := 1) (v := 1) B.exec B.bytes (by decide +kernel) rfl ?_
      refine vx_ret (W.zret (ty := .int) B.exec B.bytes B.returns rfl (fun t' ht' hW' => ?_) hlocs (by decide +kernel) B.notSynchronized)
      exact ⟨[], rfl, by rw [List.append_nil, ht', e1]; exact hx2, ⟨trivial, trivial⟩, by rw [ht', e1, ← h0]; exact hx3.1, fun q a1 a2 => by rw [ht', e1, hx3.2 q (by rw [h0]; exact a1) a2, h0]⟩
    obtain ⟨t2, a1, b1⟩ := vx_catch (pc := 5) (ls := ls) (rest := [.int 0, .ref (xad ads b o4)]) (own := "ScaleVoteLaw") (name := "java/lang/IndexOutOfBoundsException") hown [] _ _ htab (fun _ z => nomatch z) (by decide) (by decide) (htx _ (xT_tb (i := 1186) (by decide +kernel) (by decide +kernel))) (va_tabs rfl rfl (hZ.2.2.2.2.1 "java/lang/IndexOutOfBoundsException" (by decide))) (by rw [e1]; exact hce) hcv hcl kk T' rfl X'
    exact ⟨t2, st.trans a1, b1⟩
set_option maxRecDepth 100000 in
set_option maxHeartbeats 1000000 in
theorem lp_met2 (l : Launch) (h : XH) (e o4 : Nat) (p0 p1 : Int32) (hM : ∀ (D : va_G) (cA : Nat → ClassId) (base b Ls : Nat) (xs : Nat → Int32) (ads : List Nat), vx_Met l (xnm 170) (Cond.code (xnm 170) (xbc 170) (xmx 170) (xrt 170) :: xT) ({ frames := 12, cells := 1, slots := 6, locals := 492 } : Room) (va_Pc ([xf 12 e, xi p0, xi p1].map (xcv ads b)) (XPc l D cA base b Ls xs false ads [xf 12 e, xi p0, xi p1] h)) (fun _ _ _ _ => False) (XVx D cA base b Ls xs ads h "java/util/NoSuchElementException") 1 6 (fun q : Nat => base ≤ q))
    (D : va_G) (cA : Nat → ClassId) (base b Ls : Nat) (xs : Nat → Int32) (ads : List Nat) :
    vx_Met l yLp (Cond.codeWith yLp method_3_code 5 (some .int) hLp :: xT) ({ frames := 13, cells := 1, slots := 6, locals := 514 } : Room) (va_Pc ([xf 12 e, xi p0, xi p1, xf 40001 o4].map (xcv ads b)) (XPc l D cA base b Ls xs false ads [xf 12 e, xi p0, xi p1, xf 40001 o4] h)) (XQc D cA base b Ls xs false ads [xi 2] h) (fun _ _ _ => False) 1 6 (fun q : Nat => base ≤ q) := by
  obtain ⟨⟨w1, w2, w3, w4, w5, w6⟩, w7, w8, w9, w10⟩ := xw_p
  refine vx_ofWH (cc := method_3_code) (maxL := 5) (ret := some .int) (hh := hLp) (by decide +kernel) rfl ?_
  intro p e' s m args below meth c s₁ B hml hv
  obtain ⟨rfl, hrel, hK, hNw, hXs, hb, hbase, hvs, hZ⟩ := hv
  have hts := atoms_spec (ws := Cond.codeWith yLp method_3_code 5 (some .int) hLp :: xT) B.pre
  have htx : ∀ w ∈ xT, w.before (([xf 12 e, xi p0, xi p1, xf 40001 o4].map (xcv ads b)).toArray) s = true := fun w hw => hts w (List.mem_cons_of_mem _ hw)
  have hown : s.vm.findClass "ScaleVoteLaw" = some m.cls := findClass_of_methodNamed B.named
  have htab := lp_tab2 (vx_table (x := yLp) B (hts _ List.mem_cons_self))
  rw [lg_entry_eq]
  have hls := xlr_entry (n := 5) (ads := ads) (b := b) [xf 12 e, xi p0, xi p1, xf 40001 o4] rfl
  rw [List.append_nil] at hls
  obtain ⟨ls, els⟩ : ∃ ls, ls = ((lg_sl ([xf 12 e, xi p0, xi p1, xf 40001 o4].map (xcv ads b)) ++ List.replicate (5 - (lg_sl ([xf 12 e, xi p0, xi p1, xf 40001 o4].map (xcv ads b))).length) Slot.unset).toArray) := ⟨_, rfl⟩
  rw [← els] at hls ⊢
  have g0 : ls[0]? = some (.val (.ref (xad ads b e))) := xlr_get hls (i := 0) (v := xf 12 e) rfl (fun z => by cases z)
  have g1 : ls[1]? = some (.val (.int p0)) := xlr_get hls (i := 1) (v := xi p0) rfl (fun z => by cases z)
  have g2 : ls[2]? = some (.val (.int p1)) := xlr_get hls (i := 2) (v := xi p1) rfl (fun z => by cases z)
  have g3 : ls[3]? = some (.val (.ref (xad ads b o4))) := xlr_get hls (i := 3) (v := xf 40001 o4) rfl (fun z => by cases z)
  refine lv_aload_n (cc := method_3_code) (k := 3) (i := 3) B.exec B.bytes (by decide +kernel) rfl g3 ?_
  refine lv_iconst (cc := method_3_code) (n := 0) (v := 0) B.exec B.bytes (by decide +kernel) rfl ?_
  refine lv_aload_n (cc := method_3_code) (k := 0) (i := 0) B.exec B.bytes (by decide +kernel) rfl g0 ?_
  refine lv_iload_n (cc := method_3_code) (k := 1) (i := 1) B.exec B.bytes (by decide +kernel) rfl g1 ?_
  refine lv_iload_n (cc := method_3_code) (k := 2) (i := 2) B.exec B.bytes (by decide +kernel) rfl g2 ?_
  have hrecv : ∃ cellB : Cell, s.heap[xad ads b e]? = some cellB ∧ cellB.vm.isStatics = false ∧ s.vm.findClass (xnm 170).cls = some cellB.cls := by
    rcases hvs.1 with ⟨z, -⟩ | ⟨-, o1, o2, o3⟩
    · cases z
    · have he := xws_at (cA := cA) (ads := ads) (b := b) o1 o2
      rw [xce_obj (ci := 11) o3 (by decide)] at he
      obtain ⟨w, hwc⟩ := xcl_kind hrel.2.1 he
      have z := va_recv hK hrel.2.1 hwc he
      have e11 : xos (xow 170) = w.1 := (xos_cl hwc).symm
      rw [xad_at o1, ← w5, e11]
      exact z
  have hPc : ∀ U : State, U.heap = s.heap → s.WarmedH U.vm → va_Pc ([xf 12 e, xi p0, xi p1].map (xcv ads b)) (XPc l D cA base b Ls xs false ads [xf 12 e, xi p0, xi p1] h) ([xf 12 e, xi p0, xi p1].map (xcv ads b)).toArray U := fun U hU hW =>
    ⟨rfl, by rw [hU]; exact hrel, va_K.moved hW.alike hK, xNw_warm hW hNw, by rw [hU]; exact va_X.moved hW.alike hXs, hb, by rw [hU]; exact hbase, ⟨hvs.1, trivial, trivial, trivial⟩, by rw [hU]; exact XZ.warm hW hZ⟩
  have hr := vx_runV (C := (xnm 170).cls) (b := xad ads b e) (As := [.int p0, .int p1]) (rest := [.int 0, .ref (xad ads b o4)]) (g := F0 m 5 ls [.int p1, .int p0, .ref (xad ads b e), .int 0, .ref (xad ads b o4)]) (H := s.heap) (locs := []) (cells := 0) (slots := 0)
    (S := (⟨B.exec, B.bytes, hml, hown, htx⟩ : CallFix p m c method_3_code 5 s (([xf 12 e, xi p0, xi p1, xf 40001 o4].map (xcv ads b)).toArray) xT "ScaleVoteLaw")) (hM D cA base b Ls xs ads) (R := (headSpec (Cond.codeWith yLp method_3_code 5 (some .int) hLp :: xT) ({ frames := 13, cells := 1, slots := 6, locals := 514 } : Room)).room) (e := e') (below := below) (meth := meth)
    ⟨callB_of (index := 7) (xnp 170) htx (xT_in w1) rfl rfl rfl (htx _ w2) (htx _ (xT_tb (i := 1188) (by decide +kernel) (by decide +kernel))) w3 ⟨Nat.le_refl _, Nat.le_refl _⟩, htx _ (xT_tb (i := 1189) (by decide +kernel) (by decide +kernel)), htx _ (xT_tb (i := 1190) (by decide +kernel) (by decide +kernel))⟩ ⟨XPc_blind, hrecv, hPc⟩ rfl rfl hls.1 rfl (lv_room (show 2 ≤ 8 by decide)) lp_d5 ⟨Nat.le_refl _, Nat.le_refl _⟩
  show W p l e' _ s m _ below meth c s.heap [] 0 0 _ (F0 m 5 ls [.int p1, .int p0, .ref (xad ads b e), .int 0, .ref (xad ads b o4)])
  intro T hT X
  rcases hr T hT X with ⟨v, st₀, t, T', L, h0, X', hL, e1, e2, hq, st⟩ | ⟨q, st₀, t, T', L, E, ce, h0, X', hL, e1, e2, hx, hce, hcv, hcl, st⟩
  · exact False.elim hq
  · obtain ⟨rfl, hx2, hx3⟩ := hx
    have hlocs : ∀ z ∈ [] ++ L, base ≤ z.base := fun z hz => hL z hz
    have kk : W p l e' (headSpec (Cond.codeWith yLp method_3_code 5 (some .int) hLp :: xT) ({ frames := 13, cells := 1, slots := 6, locals := 514 } : Room)).room s m (([xf 12 e, xi p0, xi p1, xf 40001 o4].map (xcv ads b)).toArray) below meth c T'.heap ([] ++ L) 1 6 (vx_MQ below (XQc D cA base b Ls xs false ads [xi 2] h) (fun _ _ _ => False) (([xf 12 e, xi p0, xi p1, xf 40001 o4].map (xcv ads b)).toArray) s 1 6 (fun q : Nat => base ≤ q)) (F0 m 17 ls [.ref q]) := by
      refine lv_astore (cc := method_3_code) (i := 4) (nL := 5) (lv := []) B.exec B.bytes (by decide +kernel) ⟨hls.1, hls.2.1, fun _ z => nomatch z⟩ (by decide) rfl (fun ls2 hl2 => ?_)
      refine lv_iconst (cc := method_3_code) (n := 2) (v := 2) B.exec B.bytes (by decide +kernel) rfl ?_
      refine vx_ret (W.zret (ty := .int) B.exec B.bytes B.returns rfl (fun t' ht' hW' => ?_) hlocs (by decide +kernel) B.notSynchronized)
      exact ⟨[], rfl, by rw [List.append_nil, ht', e1]; exact hx2, ⟨trivial, trivial⟩, by rw [ht', e1, ← h0]; exact hx3.1, fun q a1 a2 => by rw [ht', e1, hx3.2 q (by rw [h0]; exact a1) a2, h0]⟩
    obtain ⟨t2, a1, b1⟩ := vx_catch (pc := 5) (ls := ls) (rest := [.int 0, .ref (xad ads b o4)]) (own := "ScaleVoteLaw") (name := "java/util/NoSuchElementException") hown [_] _ _ htab (fun z hz => by
      obtain rfl := List.mem_singleton.mp hz
      exact Or.inr ⟨by decide, "java/lang/IndexOutOfBoundsException", htx _ (xT_tb (i := 1186) (by decide +kernel) (by decide +kernel)), hZ.2.2.2.2.2.1⟩) (by decide) (by decide) (htx _ (xT_tb (i := 1187) (by decide +kernel) (by decide +kernel))) (va_tabs rfl rfl (hZ.2.2.2.2.1 "java/util/NoSuchElementException" (by decide))) (by rw [e1]; exact hce) hcv hcl kk T' rfl X'
    exact ⟨t2, st.trans a1, b1⟩
set_option maxRecDepth 100000 in
set_option maxHeartbeats 1000000 in
theorem lp_metN (l : Launch) (h : XH) (e o4 : Nat) (p0 p1 : Int32) {v : Int32} {h1 : XH} (hC : CX l 12 492 false 170 [xf 12 e, xi p0, xi p1] h [xi v] h1) (hn : xN h1 = xN h ∧ xU h1 = xU h) (ho4 : o4 = 152)
    (D : va_G) (cA : Nat → ClassId) (base b Ls : Nat) (xs : Nat → Int32) (ads : List Nat) :
    vx_Met l yLp (Cond.codeWith yLp method_3_code 5 (some .int) hLp :: xT) ({ frames := 13, cells := 1, slots := 6, locals := 514 } : Room) (va_Pc ([xf 12 e, xi p0, xi p1, xf 40001 o4].map (xcv ads b)) (XPc l D cA base b Ls xs false ads [xf 12 e, xi p0, xi p1, xf 40001 o4] h)) (XQc D cA base b Ls xs false ads [xi 0] (xsetL h1 152 0 v.toInt64)) (fun _ _ _ => False) 1 6 (fun q : Nat => base ≤ q) := by
  obtain ⟨⟨w1, w2, w3, w4, w5, w6⟩, w7, w8, w9, w10⟩ := xw_p
  refine vx_ofWH (cc := method_3_code) (maxL := 5) (ret := some .int) (hh := hLp) (by decide +kernel) rfl ?_
  intro p e' s m args below meth c s₁ B hml hv
  obtain ⟨rfl, hrel, hK, hNw, hXs, hb, hbase, hvs, hZ⟩ := hv
  have hts := atoms_spec (ws := Cond.codeWith yLp method_3_code 5 (some .int) hLp :: xT) B.pre
  have htx : ∀ w ∈ xT, w.before (([xf 12 e, xi p0, xi p1, xf 40001 o4].map (xcv ads b)).toArray) s = true := fun w hw => hts w (List.mem_cons_of_mem _ hw)
  have hown : s.vm.findClass "ScaleVoteLaw" = some m.cls := findClass_of_methodNamed B.named
  have htab := lp_tab (vx_table (x := yLp) B (hts _ List.mem_cons_self))
  rw [lg_entry_eq]
  have hls := xlr_entry (n := 5) (ads := ads) (b := b) [xf 12 e, xi p0, xi p1, xf 40001 o4] rfl
  rw [List.append_nil] at hls
  obtain ⟨ls, els⟩ : ∃ ls, ls = ((lg_sl ([xf 12 e, xi p0, xi p1, xf 40001 o4].map (xcv ads b)) ++ List.replicate (5 - (lg_sl ([xf 12 e, xi p0, xi p1, xf 40001 o4].map (xcv ads b))).length) Slot.unset).toArray) := ⟨_, rfl⟩
  rw [← els] at hls ⊢
  have g0 : ls[0]? = some (.val (.ref (xad ads b e))) := xlr_get hls (i := 0) (v := xf 12 e) rfl (fun z => by cases z)
  have g1 : ls[1]? = some (.val (.int p0)) := xlr_get hls (i := 1) (v := xi p0) rfl (fun z => by cases z)
  have g2 : ls[2]? = some (.val (.int p1)) := xlr_get hls (i := 2) (v := xi p1) rfl (fun z => by cases z)
  have g3 : ls[3]? = some (.val (.ref (xad ads b o4))) := xlr_get hls (i := 3) (v := xf 40001 o4) rfl (fun z => by cases z)
  refine lv_aload_n (cc := method_3_code) (k := 3) (i := 3) B.exec B.bytes (by decide +kernel) rfl g3 ?_
  refine lv_iconst (cc := method_3_code) (n := 0) (v := 0) B.exec B.bytes (by decide +kernel) rfl ?_
  refine lv_aload_n (cc := method_3_code) (k := 0) (i := 0) B.exec B.bytes (by decide +kernel) rfl g0 ?_
  refine lv_iload_n (cc := method_3_code) (k := 1) (i := 1) B.exec B.bytes (by decide +kernel) rfl g1 ?_
  refine lv_iload_n (cc := method_3_code) (k := 2) (i := 2) B.exec B.bytes (by decide +kernel) rfl g2 ?_
  have hrecv : ∃ cellB : Cell, s.heap[xad ads b e]? = some cellB ∧ cellB.vm.isStatics = false ∧ s.vm.findClass (xnm 170).cls = some cellB.cls := by
    rcases hvs.1 with ⟨z, -⟩ | ⟨-, o1, o2, o3⟩
    · cases z
    · have he := xws_at (cA := cA) (ads := ads) (b := b) o1 o2
      rw [xce_obj (ci := 11) o3 (by decide)] at he
      obtain ⟨w, hwc⟩ := xcl_kind hrel.2.1 he
      have z := va_recv hK hrel.2.1 hwc he
      have e11 : xos (xow 170) = w.1 := (xos_cl hwc).symm
      rw [xad_at o1, ← w5, e11]
      exact z
  have hPc : ∀ U : State, U.heap = s.heap → s.WarmedH U.vm → va_Pc ([xf 12 e, xi p0, xi p1].map (xcv ads b)) (XPc l D cA base b Ls xs false ads [xf 12 e, xi p0, xi p1] h) ([xf 12 e, xi p0, xi p1].map (xcv ads b)).toArray U := fun U hU hW =>
    ⟨rfl, by rw [hU]; exact hrel, va_K.moved hW.alike hK, xNw_warm hW hNw, by rw [hU]; exact va_X.moved hW.alike hXs, hb, by rw [hU]; exact hbase, ⟨hvs.1, trivial, trivial, trivial⟩, by rw [hU]; exact XZ.warm hW hZ⟩
  have hMet := hC.2 D cA base b Ls xs ads
  rw [hn.1, hn.2, Nat.sub_self, Nat.sub_self] at hMet
  have hr := va_runV (C := (xnm 170).cls) (b := xad ads b e) (As := [.int p0, .int p1]) (rest := [.int 0, .ref (xad ads b o4)]) (g := F0 m 5 ls [.int p1, .int p0, .ref (xad ads b e), .int 0, .ref (xad ads b o4)]) (H := s.heap) (locs := []) (cells := 0) (slots := 0)
    (S := (⟨B.exec, B.bytes, hml, hown, htx⟩ : CallFix p m c method_3_code 5 s (([xf 12 e, xi p0, xi p1, xf 40001 o4].map (xcv ads b)).toArray) xT "ScaleVoteLaw")) hMet (R := (headSpec (Cond.codeWith yLp method_3_code 5 (some .int) hLp :: xT) ({ frames := 13, cells := 1, slots := 6, locals := 514 } : Room)).room) (e := e') (below := below) (meth := meth)
    ⟨callB_of (index := 7) (xnp 170) htx (xT_in w1) rfl rfl rfl (htx _ w2) (htx _ (xT_tb (i := 1188) (by decide +kernel) (by decide +kernel))) w3 ⟨Nat.le_refl _, Nat.le_refl _⟩, htx _ (xT_tb (i := 1189) (by decide +kernel) (by decide +kernel)), htx _ (xT_tb (i := 1190) (by decide +kernel) (by decide +kernel))⟩ ⟨XPc_blind, hrecv, hPc⟩ rfl rfl hls.1 rfl (lv_room (show 2 ≤ 8 by decide)) lp_d5 ⟨Nat.zero_le _, Nat.zero_le _⟩
  refine vx_ret ?_
  show W p l e' _ s m _ below meth c s.heap [] 0 0 _ (F0 m 5 ls [.int p1, .int p0, .ref (xad ads b e), .int 0, .ref (xad ads b o4)])
  refine W_call hr fun v1 st₀ t L2 e0 hq hL2 => ?_
  obtain ⟨ads', hv1, hrel1, -, hF⟩ := hq
  have hl1 := hrel1.1
  rw [List.length_append] at hl1
  have hl0 := hrel.1
  have h1n := hn.1
  obtain rfl : ads' = [] := List.eq_nil_of_length_eq_zero (by omega)
  rw [List.append_nil] at hrel1
  obtain rfl : v1 = some (.int v) := Outcome.returned.inj hv1
  have hS1 : va_S (fun q : Nat => base ≤ q) s.heap t.heap ([] ++ L2) := ⟨by rw [← e0]; exact hF.1, fun q q1 q2 => by rw [hF.2 q (by rw [e0]; exact q1) q2, e0], fun q hq => hL2 q hq⟩
  show W p l e' _ s m _ below meth c t.heap ([] ++ L2) 0 0 _ (F0 m 8 ls [.int v, .int 0, .ref (xad ads b o4)])
  refine lv_i2l (cc := method_3_code) (pc := 8) B.exec B.bytes (show decode method_3_code 8 = .ok (.i2l, 1) by decide +kernel) rfl ?_
  have o4k := hC.1.1.2.2 40001 o4
  rcases hvs.2.2.2.1 with ⟨z, -⟩ | ⟨-, o1, o2, o3⟩
  · cases z
  have o2' : o4 < xN h1 := by rw [hn.1]; exact o2
  have o3' : xS h1 o4 = 40001 := (o4k ⟨o1, o2, o3⟩).2.2
  have he := xws_at (cA := cA) (ads := ads) (b := b) o1 o2'
  rw [xce_l o3' (by decide)] at he
  rw [xad_at o1]
  refine va_last (cc := method_3_code) B.exec B.bytes hK hrel1.2.1 hrel1.2.2.1 hS1 (o4 - 2) 3 he rfl (vp_of (i := 0) (n := 40001 - 40000) (by decide) (by decide)) (show decode method_3_code 9 = .ok (.lastore, 1) by decide +kernel) (fun H1 locs1 hP hD hS2 => ?_)
  have e1 := xws_set (cA := cA) (ads := ads) (b := b) (h := h1) (h' := xsetL h1 o4 (0 : Int32).toNatClampNeg v.toInt64) o1 o2' rfl (x := .inl (cA 3, 40001 - 40000, .inr (.inl (vp_updL (xL h1 o4) (0 : Int32).toNatClampNeg v.toInt64)))) ?_ (fun c' hc' _ => ?_)
  · rw [e1] at hP hD
    refine lv_goto (cc := method_3_code) (pc := 10) (tgt := 21) B.exec B.bytes (show decode method_3_code 10 = .ok (.goto 11, 3) by decide +kernel) (by decide) ?_
    refine lv_iconst (cc := method_3_code) (n := 0) (v := 0) B.exec B.bytes (by decide +kernel) rfl ?_
    have hrel2 : xrel D cA base b Ls xs false ads (xsetL h1 o4 (0 : Int32).toNatClampNeg v.toInt64) H1 := xrel_wL hrel1 o1 o2' (fun c' hc' => xu_ne hc') hP hD
    refine W.widen (k := 1) (n := 6) (Nat.zero_le _) (Nat.zero_le _) ?_
    refine W.zret (ty := .int) B.exec B.bytes B.returns rfl (fun t' ht' hW' => ?_) hS2.2.2 (by decide +kernel) B.notSynchronized
    subst ho4
    exact ⟨[], rfl, by rw [List.append_nil, ht']; exact hrel2, ⟨trivial, trivial⟩, by rw [ht']; exact hS2.1, fun q a1 a2 => by rw [ht']; exact hS2.2.1 q a1 a2⟩
  · rw [xce_l (h := xsetL h1 o4 (0 : Int32).toNatClampNeg v.toInt64) o3' (by decide)]
    refine congrArg Sum.inl (congrArg (Prod.mk _) (congrArg (Prod.mk _) (congrArg Sum.inr (congrArg Sum.inl ?_))))
    funext j
    show xu _ o4 (0 : Int32).toNatClampNeg _ o4 j = vp_updL _ _ _ j
    by_cases hj : j = (0 : Int32).toNatClampNeg
    · subst hj
      rw [xu_self]
      simp [vp_updL]
    · rw [xu_nk hj]
      exact (if_neg hj).symm
  · exact xce_congr rfl rfl (xu_ne hc') rfl
section XPerson
variable {p : Program} {l : Launch} {e : Env} {R : Room} {s : State} {m : MethodId} {args : Array Value} {below : List Frame} {meth : Method} {c : Code} {Q : State → Prop}
variable {D : va_G} {cA : Nat → ClassId} {base b Ls : Nat} {xs : Nat → Int32} {ads0 : List Nat} {gz : Nat × Nat} {u0 N U : Nat} {L : List XV} {h : XH}
set_option maxRecDepth 100000 in
set_option maxHeartbeats 1000000 in
theorem WX_person {e4 o4 : Nat} {p0 p1 r : Int32} {h' : XH} (hXM : XM h h') (hn : xN h' = xN h ∧ xU h' = xU h) (C : XC 288 N U Ls 14 538 p l e R s m args below meth c D cA base b xs ads0 u0 gz) (hL : L.length = xmx 288) (hN : xN h + 1 ≤ N ∧ xU h + 6 ≤ U)
    (hM : ∀ (ads : List Nat), vx_Met l yLp (Cond.codeWith yLp method_3_code 5 (some .int) hLp :: xT) ({ frames := 13, cells := 1, slots := 6, locals := 514 } : Room) (va_Pc ([xf 12 e4, xi p0, xi p1, xf 40001 o4].map (xcv ads b)) (XPc l D cA base b Ls xs false ads [xf 12 e4, xi p0, xi p1, xf 40001 o4] h)) (XQc D cA base b Ls xs false ads [xi r] h') (fun _ _ _ => False) 1 6 (fun q : Nat => base ≤ q))
    (k : WX p l e R s m args below meth c Q D cA base b Ls xs false ads0 u0 (gz.1 + 1, gz.2 + 6) 377 L [xi r] h') : WX p l e R s m args below meth c Q D cA base b Ls xs false ads0 u0 gz 374 L [xf 40001 o4, xi p1, xi p0, xf 12 e4] h := by
  intro t H locs ls h1 h2 h3 h4 h5 h6
  have hlen := h1.1
  rw [List.length_append] at hlen
  have hcs : xN h + gz.1 - (ads0.length + 2) + 1 ≤ R.cells ∧ xU h + gz.2 - u0 + 6 ≤ R.slots := by
    have := C.2.2.2.2.2.2.2.2.2.2.2.2.1
    have := C.2.2.2.2.2.2.2.2.2.2.2.2.2
    omega
  have hRf : 13 + 1 ≤ R.frames := C.2.2.2.2.2.2.2.2.2.2.1
  have hRl : 8 + (5 + 11) + 514 ≤ R.locals := C.2.2.2.2.2.2.2.2.2.2.2.1
  have S : CallFix p m c (xbc 288) (xmx 288) s args xT "ScaleVoteLaw" := ⟨C.2.1, C.2.2.1, C.2.2.2.1, C.2.2.2.2.1, C.2.2.2.2.2.1⟩
  have hPc : ∀ U : State, U.heap = H → s.WarmedH U.vm → va_Pc ([xf 12 e4, xi p0, xi p1, xf 40001 o4].map (xcv (ads0 ++ t) b)) (XPc l D cA base b Ls xs false (ads0 ++ t) [xf 12 e4, xi p0, xi p1, xf 40001 o4] h) ([xf 12 e4, xi p0, xi p1, xf 40001 o4].map (xcv (ads0 ++ t) b)).toArray U := fun U hU hW =>
    ⟨rfl, by rw [hU]; exact h1, va_K.moved hW.alike C.2.2.2.2.2.2.2.1, xNw_warm hW C.2.2.2.2.2.2.2.2.1, by rw [hU]; exact (va_X.moved hW.alike C.2.2.2.2.2.2.2.2.2.1.1).kept (h2.2.1 b (Nat.lt_of_lt_of_le C.2.2.2.2.2.2.2.2.2.1.2.1 C.2.2.2.2.2.2.2.2.2.1.2.2) (Nat.not_le.mpr C.2.2.2.2.2.2.2.2.2.1.2.1)), C.2.2.2.2.2.2.2.2.2.1.2.1, by rw [hU]; exact Nat.le_trans C.2.2.2.2.2.2.2.2.2.1.2.2 h2.1, ⟨h5.2.2.2.1, trivial, trivial, h5.1, trivial⟩, by rw [hU]; exact (XZ.warm hW C.1).kept h2.2.1⟩
  have hr := vx_runSX (l := l) (y := yLp) (H := H) (locs := locs) (cells := xN h + gz.1 - (ads0.length + 2)) (slots := xU h + gz.2 - u0) (e := e) (below := below) (meth := meth) (R := R) (hh := hLp) (bytes := method_3_code) (maxL := 5) (ret := some .int) (index := 39) (rest := []) (As := [xf 12 e4, xi p0, xi p1, xf 40001 o4].map (xcv (ads0 ++ t) b)) (g := F0 m 374 ls ([xf 40001 o4, xi p1, xi p0, xf 12 e4].map (xcv (ads0 ++ t) b))) S (hM (ads0 ++ t))
    (vx_cwSW (Ts := xT) 4 C.2.2.2.2.2.1 (fun w hw => by
      have hw2 : w ∈ xT := by
        rcases List.mem_append.mp hw with hw | hw
        · rcases List.mem_cons.mp hw with rfl | hw
          · exact xT_tb (i := 1183) (by decide +kernel) (by decide +kernel)
          rcases List.mem_cons.mp hw with rfl | hw
          · exact xT_tb (i := 1184) (by decide +kernel) (by decide +kernel)
          rcases List.mem_cons.mp hw with rfl | hw
          · exact xT_tb (i := 0) (by decide +kernel) (by decide +kernel)
          · cases hw
        · rcases List.mem_cons.mp hw with rfl | hw
          · exact lp_w
          · exact hw
      exact ⟨hw2, xT_good hw2⟩) rfl rfl rfl (by decide +kernel) ⟨hRf, hRl⟩) ⟨XPc_blind, hPc⟩ rfl rfl (by rw [← hL]; exact h3.1) rfl (lv_room (Nat.zero_le 8)) lp_d374 hcs
  have e1 : xN h' - xN h + 1 = 1 := by have := hn.1; omega
  have e2 : xU h' - xU h + 6 = 6 := by have := hn.2; omega
  refine WX_back (gc := (1, 6)) (vs := [xf 12 e4, xi p0, xi p1, xf 40001 o4]) (rs := [xi r]) (rest := []) (h' := h') C hXM (Nat.le_refl _) (by rw [hn.1, hn.2]; exact hN) h1 h2 h3 h4 trivial h6 ?_ k
  dsimp only
  rw [e1, e2]
  intro T hT X
  rcases hr T hT X with hq | ⟨q, st₀, t2, T', L2, E, ce, g0, X', hL2, g1, g2, hx, g3⟩
  · exact hq
  · exact False.elim hx
theorem XB_person {F : List XV → XH → Prop} {N' U' e4 o4 : Nat} {p0 p1 r : Int32} {h' : XH} (hXM : XM h h') (hn : xN h' = xN h ∧ xU h' = xU h) (hL : L.length = xmx 288) (hN : N' + 1 ≤ N ∧ U' + 6 ≤ U) (hh : xN h ≤ N' ∧ xU h ≤ U')
    (hM : ∀ (D : va_G) (cA : Nat → ClassId) (base b Ls : Nat) (xs : Nat → Int32) (ads : List Nat), vx_Met l yLp (Cond.codeWith yLp method_3_code 5 (some .int) hLp :: xT) ({ frames := 13, cells := 1, slots := 6, locals := 514 } : Room) (va_Pc ([xf 12 e4, xi p0, xi p1, xf 40001 o4].map (xcv ads b)) (XPc l D cA base b Ls xs false ads [xf 12 e4, xi p0, xi p1, xf 40001 o4] h)) (XQc D cA base b Ls xs false ads [xi r] h') (fun _ _ _ => False) 1 6 (fun q : Nat => base ≤ q))
    (k : XB l Ls xs 14 538 false 288 N' U' F 377 L [xi r] h') : XB l Ls xs 14 538 false 288 N U F 374 L [xf 40001 o4, xi p1, xi p0, xf 12 e4] h :=
  fun p e R s m args below meth c Q D cA base b ads0 u0 gz C hk => WX_person hXM hn C hL ⟨by omega, by omega⟩ (hM D cA base b Ls xs) (k _ _ _ _ _ _ _ _ _ _ _ _ _ _ _ _ _ ⟨C.1, C.2.1, C.2.2.1, C.2.2.2.1, C.2.2.2.2.1, C.2.2.2.2.2.1, C.2.2.2.2.2.2.1, C.2.2.2.2.2.2.2.1, C.2.2.2.2.2.2.2.2.1, C.2.2.2.2.2.2.2.2.2.1, C.2.2.2.2.2.2.2.2.2.2.1, C.2.2.2.2.2.2.2.2.2.2.2.1, (by have := C.2.2.2.2.2.2.2.2.2.2.2.2.1; show N' + (gz.1 + 1) ≤ _; omega), (by have := C.2.2.2.2.2.2.2.2.2.2.2.2.2; show U' + (gz.2 + 6) ≤ _; omega)⟩ (fun gz' pcR L' rs h' _ he hF hL => hk gz' pcR L' rs h' (Or.inl rfl) he hF hL))
end XPerson
theorem CX_ofW {l : Launch} {fr lo : Nat} {full : Bool} {n u : Nat} {vs rs : List XV} {h h' : XH} {L' : List XV} {K pcR : Nat} (hne : K ≠ xlaw) (hW : XW K) (hlen : xlen (xent (xmx K) vs) (xmx K) = true) (hbo : xrac K rs True) (he : XE K pcR rs) (hL' : L'.length = xmx K) (hn : n ≤ xN h' ∧ u ≤ xU h') (t : XT l fr lo full K n u 0 (xent (xmx K) vs) [] h pcR L' rs h') : CX l fr lo full K vs h rs h' := by
  have hrs : rs.length ≤ 1 := by
    obtain ⟨i', x1, x2, -, y1, y2⟩ := id he
    exact xend_len y2
  exact CX_run hne hW t.1 hrs (xlen_eq hlen) hbo (fun Ls xs => t.2 Ls xs _ _ _ hn.1 hn.2 (XB_ret he ⟨rfl, rfl⟩ hL'))
theorem vq_p75 (l : Launch) (x0 : Int32) (h : XH) (hg : sgood vT vR vE 153 6051 h) (a0 : 0 ≤ x0.toInt ∧ x0.toInt ≤ 7) : ∃ (v : Int32) (h' : XH), CX l 4 98 false 75 [xf 11 48, xi x0] h [xi v] h' ∧ sgood vT vR vE 153 6051 h' ∧ sframe ([], []) h h' ∧ (((0 ≤ v.toInt ∧ v.toInt ≤ 0)) ∨ (((-1) ≤ v.toInt ∧ v.toInt ≤ 2)) ∨ ((1 ≤ v.toInt ∧ v.toInt ≤ 1)) ∨ (((-1) ≤ v.toInt ∧ v.toInt ≤ (-1)))) := by
  have ha : sargs (cap vC_96) [xf 11 48, xi x0] := ⟨rfl, a0, trivial⟩
  obtain ⟨ρ, rs, h', ⟨hv, hw⟩, c, g, f, cs, hcs, k1, k2, k3, k4, k5, k6⟩ := vc_96 l [xf 11 48, xi x0] h ha hg (fun q hq => absurd hq List.not_mem_nil) (fun q hq => absurd hq List.not_mem_nil) (fun ρ hρ g hg' => absurd hg' List.not_mem_nil)
  have e0 : ρ 0 = x0.toInt := hv.1
  rcases List.mem_cons.mp hcs with rfl | hcs
  · obtain ⟨v, rfl, kv⟩ := sres_i k3
    exact ⟨v, h', c, g, f, Or.inl kv⟩
  rcases List.mem_cons.mp hcs with rfl | hcs
  · obtain ⟨v, rfl, kv⟩ := sres_i k3
    exact ⟨v, h', c, g, f, Or.inr (Or.inl kv)⟩
  rcases List.mem_cons.mp hcs with rfl | hcs
  · obtain ⟨v, rfl, kv⟩ := sres_i k3
    exact ⟨v, h', c, g, f, Or.inr (Or.inr (Or.inl kv))⟩
  rcases List.mem_cons.mp hcs with rfl | hcs
  · obtain ⟨v, rfl, kv⟩ := sres_i k3
    exact ⟨v, h', c, g, f, Or.inr (Or.inr (Or.inr (kv)))⟩
  exact absurd hcs List.not_mem_nil
set_option maxRecDepth 100000 in
set_option maxHeartbeats 2000000 in
theorem vh_lperson (l : Launch) (p0 p1 : Int32) (h : XH) (hg : sgood vT vR vE 153 6051 h) : ∃ (r : Int32) (h' : XH), XM h h' ∧ vG (cww vC_96) h h' ∧ (∀ (D : va_G) (cA : Nat → ClassId) (base b Ls : Nat) (xs : Nat → Int32) (ads : List Nat), vx_Met l yLp (Cond.codeWith yLp method_3_code 5 (some .int) hLp :: xT) ({ frames := 13, cells := 1, slots := 6, locals := 514 } : Room) (va_Pc ([xf 12 2, xi p0, xi p1, xf 40001 152].map (xcv ads b)) (XPc l D cA base b Ls xs false ads [xf 12 2, xi p0, xi p1, xf 40001 152] h)) (XQc D cA base b Ls xs false ads [xi r] h') (fun _ _ _ => False) 1 6 (fun q : Nat => base ≤ q)) := by
  have e0 : (0 : Int32).toInt = 0 := rfl
  have hr := hg.1.2 2 1 (by decide +kernel)
  have b6 := vbnd hg.1
  rcases List.mem_cons.mp hr with r21 | hr
  · skip
    have bp : 0 ≤ (xI h 3 9).toInt ∧ (xI h 3 9).toInt ≤ 8 := b6 3 9
    by_cases c1 : p0 < 0
    · have d1 : p0.toInt < 0 := Int32.lt_iff_toInt_lt.mp c1
      have y := lp_met1 l h 2 152 p0 p1 (px_met1 l h 2 p0 p1 (o := [1, 0]) rfl ⟨rfl, rfl, rfl, rfl⟩ ⟨⟨⟨trivial, c1⟩, (Or.inl rfl)⟩, rfl⟩)
      exact ⟨1, h, XM.rf, vG.rf hg, y⟩
    · have d1 : 0 ≤ p0.toInt := Int.not_lt.mp (fun z => c1 (Int32.lt_iff_toInt_lt.mpr (by omega)))
      by_cases c2 : (xI h (xR h 2 1) 9) ≤ p0
      · have y := lp_met1 l h 2 152 p0 p1 (px_met1 l h 2 p0 p1 (o := [0, 1, 0]) rfl ⟨rfl, rfl, rfl, rfl⟩ ⟨⟨⟨⟨⟨trivial, c1⟩, (show ¬ xR h 2 1 = 0 from by rw [r21]; decide)⟩, c2⟩, (Or.inl rfl)⟩, rfl⟩)
        exact ⟨1, h, XM.rf, vG.rf hg, y⟩
      · have d2 : p0.toInt < (xI h 3 9).toInt := Int.not_le.mp (fun z => c2 (Int32.le_iff_toInt_le.mpr (by first | omega | (rw [r21]; omega))))
        by_cases k0 : p1.toInt = 0
        · have t3 : XT l 12 492 false 170 153 6051 0 [xf 12 2, xi p0, xi p1] [] h 65 [xf 12 2, xi p0, xi p1] [xi (xI h (xR h (xR h 2 3) 4) (p0).toNatClampNeg)] h := XT_path (l := l) (fr := 12) (lo := 492) (full := false) (M := 170) (n := 153) (u := 6051) (pc := 0) (L := [xf 12 2, xi p0, xi p1]) (st := []) (h := h) (inl := [85]) (n' := 80) (sp := [65]) (o := [0, 0, 1, 1]) rfl rfl ⟨rfl, rfl, rfl⟩ rfl ⟨Nat.le_of_eq hg.2.2.2.1, Nat.le_of_eq hg.2.2.2.2⟩ ⟨⟨⟨⟨⟨⟨⟨⟨⟨trivial, c1⟩, (show ¬ xR h 2 1 = 0 from by rw [r21]; decide)⟩, c2⟩, (Or.inr rfl)⟩, (show ¬ (Int32.ofInt (1)) = 0 from by decide)⟩, ⟨k0, by decide⟩⟩, (vnn hg.1 (rfl : vRf 2 3 = [48]) (by decide))⟩, (show ¬ xR h (xR h 2 3) 4 = 0 from by rw [vref hg.1 (rfl : vRf 2 3 = [48])]; exact vnn hg.1 (rfl : vRf 48 4 = [52]) (by decide))⟩, (vp_of (i := p0) (n := 8) (by omega) (by omega))⟩
          rw [vref hg.1 (rfl : vRf 2 3 = [48]), vref hg.1 (rfl : vRf 48 4 = [52])] at t3
          have hX : CX l 12 492 false 170 [xf 12 2, xi p0, xi p1] h [xi (xI h 52 (p0).toNatClampNeg)] h := CX_ofW (h' := h) (by decide) xw_p rfl trivial ⟨_, _, _, rfl, rfl, rfl⟩ rfl ⟨Nat.le_of_eq hg.2.2.2.1.symm, Nat.le_of_eq hg.2.2.2.2.symm⟩ t3
          have G : vG (cww vC_96) h h := (vG.rf hg)
          have y := fun D cA base b Ls xs ads => lp_metN l h 2 152 p0 p1 hX ⟨G.1.2.2.2.1.trans hg.2.2.2.1.symm, G.1.2.2.2.2.trans hg.2.2.2.2.symm⟩ rfl D cA base b Ls xs ads
          exact ⟨0, xsetL h 152 0 ((xI h 52 (p0).toNatClampNeg)).toInt64, hX.1.1.tr ⟨Nat.le_refl _, Nat.le_refl _, fun _ _ z => z⟩, ⟨sgood_L G.1, G.2.1, G.2.2⟩, y⟩
        by_cases k1 : p1.toInt = 1
        · have t4 : XT l 12 492 false 170 153 6051 0 [xf 12 2, xi p0, xi p1] [] h 75 [xf 12 2, xi p0, xi p1] [xi (xI h (xR h (xR h 2 1) 12) (p0).toNatClampNeg)] h := XT_path (l := l) (fr := 12) (lo := 492) (full := false) (M := 170) (n := 153) (u := 6051) (pc := 0) (L := [xf 12 2, xi p0, xi p1]) (st := []) (h := h) (inl := [85]) (n' := 80) (sp := [75]) (o := [0, 0, 1, 2]) rfl rfl ⟨rfl, rfl, rfl⟩ rfl ⟨Nat.le_of_eq hg.2.2.2.1, Nat.le_of_eq hg.2.2.2.2⟩ ⟨⟨⟨⟨⟨⟨⟨⟨⟨trivial, c1⟩, (show ¬ xR h 2 1 = 0 from by rw [r21]; decide)⟩, c2⟩, (Or.inr rfl)⟩, (show ¬ (Int32.ofInt (1)) = 0 from by decide)⟩, ⟨k1, by decide⟩⟩, (show ¬ xR h 2 1 = 0 from by rw [r21]; decide)⟩, (show ¬ xR h (xR h 2 1) 12 = 0 from by rw [r21]; exact vnn hg.1 (rfl : vRf 3 12 = [13]) (by decide))⟩, (vp_of (i := p0) (n := 8) (by omega) (by omega))⟩
          rw [r21, vref hg.1 (rfl : vRf 3 12 = [13])] at t4
          have hX : CX l 12 492 false 170 [xf 12 2, xi p0, xi p1] h [xi (xI h 13 (p0).toNatClampNeg)] h := CX_ofW (h' := h) (by decide) xw_p rfl trivial ⟨_, _, _, rfl, rfl, rfl⟩ rfl ⟨Nat.le_of_eq hg.2.2.2.1.symm, Nat.le_of_eq hg.2.2.2.2.symm⟩ t4
          have G : vG (cww vC_96) h h := (vG.rf hg)
          have y := fun D cA base b Ls xs ads => lp_metN l h 2 152 p0 p1 hX ⟨G.1.2.2.2.1.trans hg.2.2.2.1.symm, G.1.2.2.2.2.trans hg.2.2.2.2.symm⟩ rfl D cA base b Ls xs ads
          exact ⟨0, xsetL h 152 0 ((xI h 13 (p0).toNatClampNeg)).toInt64, hX.1.1.tr ⟨Nat.le_refl _, Nat.le_refl _, fun _ _ z => z⟩, ⟨sgood_L G.1, G.2.1, G.2.2⟩, y⟩
        by_cases k2 : p1.toInt = 2
        · have t5 : XT l 12 492 false 170 153 6051 0 [xf 12 2, xi p0, xi p1] [] h 85 [xf 12 2, xi p0, xi p1] [xi (xI h (xR h (xR h 2 1) 13) (p0).toNatClampNeg)] h := XT_path (l := l) (fr := 12) (lo := 492) (full := false) (M := 170) (n := 153) (u := 6051) (pc := 0) (L := [xf 12 2, xi p0, xi p1]) (st := []) (h := h) (inl := [85]) (n' := 80) (sp := [85]) (o := [0, 0, 1, 3]) rfl rfl ⟨rfl, rfl, rfl⟩ rfl ⟨Nat.le_of_eq hg.2.2.2.1, Nat.le_of_eq hg.2.2.2.2⟩ ⟨⟨⟨⟨⟨⟨⟨⟨⟨trivial, c1⟩, (show ¬ xR h 2 1 = 0 from by rw [r21]; decide)⟩, c2⟩, (Or.inr rfl)⟩, (show ¬ (Int32.ofInt (1)) = 0 from by decide)⟩, ⟨k2, by decide⟩⟩, (show ¬ xR h 2 1 = 0 from by rw [r21]; decide)⟩, (show ¬ xR h (xR h 2 1) 13 = 0 from by rw [r21]; exact vnn hg.1 (rfl : vRf 3 13 = [14]) (by decide))⟩, (vp_of (i := p0) (n := 8) (by omega) (by omega))⟩
          rw [r21, vref hg.1 (rfl : vRf 3 13 = [14])] at t5
          have hX : CX l 12 492 false 170 [xf 12 2, xi p0, xi p1] h [xi (xI h 14 (p0).toNatClampNeg)] h := CX_ofW (h' := h) (by decide) xw_p rfl trivial ⟨_, _, _, rfl, rfl, rfl⟩ rfl ⟨Nat.le_of_eq hg.2.2.2.1.symm, Nat.le_of_eq hg.2.2.2.2.symm⟩ t5
          have G : vG (cww vC_96) h h := (vG.rf hg)
          have y := fun D cA base b Ls xs ads => lp_metN l h 2 152 p0 p1 hX ⟨G.1.2.2.2.1.trans hg.2.2.2.1.symm, G.1.2.2.2.2.trans hg.2.2.2.2.symm⟩ rfl D cA base b Ls xs ads
          exact ⟨0, xsetL h 152 0 ((xI h 14 (p0).toNatClampNeg)).toInt64, hX.1.1.tr ⟨Nat.le_refl _, Nat.le_refl _, fun _ _ z => z⟩, ⟨sgood_L G.1, G.2.1, G.2.2⟩, y⟩
        by_cases k3 : p1.toInt = 3
        · have t6 : XT l 12 492 false 170 153 6051 0 [xf 12 2, xi p0, xi p1] [] h 91 [xf 12 2, xi p0, xi p1] [xi p0, xf 11 (xR h 2 3)] h := XT_path (l := l) (fr := 12) (lo := 492) (full := false) (M := 170) (n := 153) (u := 6051) (pc := 0) (L := [xf 12 2, xi p0, xi p1]) (st := []) (h := h) (inl := [85]) (n' := 80) (sp := [91]) (o := [0, 0, 1, 4]) rfl rfl ⟨rfl, rfl, rfl⟩ rfl ⟨Nat.le_of_eq hg.2.2.2.1, Nat.le_of_eq hg.2.2.2.2⟩ ⟨⟨⟨⟨⟨⟨⟨trivial, c1⟩, (show ¬ xR h 2 1 = 0 from by rw [r21]; decide)⟩, c2⟩, (Or.inr rfl)⟩, (show ¬ (Int32.ofInt (1)) = 0 from by decide)⟩, ⟨k3, by decide⟩⟩, (vnn hg.1 (rfl : vRf 2 3 = [48]) (by decide))⟩
          rw [vref hg.1 (rfl : vRf 2 3 = [48])] at t6
          obtain ⟨v, h1, c1, g1, f1, -⟩ := vq_p75 l p0 h hg ⟨by omega, by omega⟩
          have t7 : XT l 12 492 false 170 153 6051 91 [xf 12 2, xi p0, xi p1] [xi p0, xf 11 48] h 94 [xf 12 2, xi p0, xi p1] [xi v] h1 := XT_call (l := l) (fr := 12) (lo := 492) (full := false) (M := 170) (n := 153) (u := 6051) (pc := 91) (L := [xf 12 2, xi p0, xi p1]) (st := [xi p0, xf 11 48]) (h := h) (i := .invokevirtual 75) (aux := 2) (nx := 94) (K := 75) (vs := [xf 11 48, xi p0]) (rs := [xi v]) (rest := []) rfl rfl rfl rfl rfl rfl c1 (by decide) (by decide) (Nat.le_of_ble_eq_true rfl) ⟨Nat.le_of_eq g1.2.2.2.1, Nat.le_of_eq g1.2.2.2.2⟩
          have t8 := t6.tr t7
          have hX : CX l 12 492 false 170 [xf 12 2, xi p0, xi p1] h [xi v] h1 := CX_ofW (h' := h1) (by decide) xw_p rfl trivial ⟨_, _, _, rfl, rfl, rfl⟩ rfl ⟨Nat.le_of_eq g1.2.2.2.1.symm, Nat.le_of_eq g1.2.2.2.2.symm⟩ t8
          have G : vG (cww vC_96) h h1 := (⟨g1, f1⟩ : vG (cww vC_96) h h1)
          have y := fun D cA base b Ls xs ads => lp_metN l h 2 152 p0 p1 hX ⟨G.1.2.2.2.1.trans hg.2.2.2.1.symm, G.1.2.2.2.2.trans hg.2.2.2.2.symm⟩ rfl D cA base b Ls xs ads
          exact ⟨0, xsetL h1 152 0 (v).toInt64, hX.1.1.tr ⟨Nat.le_refl _, Nat.le_refl _, fun _ _ z => z⟩, ⟨sgood_L G.1, G.2.1, G.2.2⟩, y⟩
        by_cases k4 : p1.toInt = 4
        · have t9 : XT l 12 492 false 170 153 6051 0 [xf 12 2, xi p0, xi p1] [] h 104 [xf 12 2, xi p0, xi p1] [xi (xI h (xR h (xR h 2 3) 6) (p0).toNatClampNeg)] h := XT_path (l := l) (fr := 12) (lo := 492) (full := false) (M := 170) (n := 153) (u := 6051) (pc := 0) (L := [xf 12 2, xi p0, xi p1]) (st := []) (h := h) (inl := [85]) (n' := 80) (sp := [104]) (o := [0, 0, 1, 5]) rfl rfl ⟨rfl, rfl, rfl⟩ rfl ⟨Nat.le_of_eq hg.2.2.2.1, Nat.le_of_eq hg.2.2.2.2⟩ ⟨⟨⟨⟨⟨⟨⟨⟨⟨trivial, c1⟩, (show ¬ xR h 2 1 = 0 from by rw [r21]; decide)⟩, c2⟩, (Or.inr rfl)⟩, (show ¬ (Int32.ofInt (1)) = 0 from by decide)⟩, ⟨k4, by decide⟩⟩, (vnn hg.1 (rfl : vRf 2 3 = [48]) (by decide))⟩, (show ¬ xR h (xR h 2 3) 6 = 0 from by rw [vref hg.1 (rfl : vRf 2 3 = [48])]; exact vnn hg.1 (rfl : vRf 48 6 = [54]) (by decide))⟩, (vp_of (i := p0) (n := 8) (by omega) (by omega))⟩
          rw [vref hg.1 (rfl : vRf 2 3 = [48]), vref hg.1 (rfl : vRf 48 6 = [54])] at t9
          have hX : CX l 12 492 false 170 [xf 12 2, xi p0, xi p1] h [xi (xI h 54 (p0).toNatClampNeg)] h := CX_ofW (h' := h) (by decide) xw_p rfl trivial ⟨_, _, _, rfl, rfl, rfl⟩ rfl ⟨Nat.le_of_eq hg.2.2.2.1.symm, Nat.le_of_eq hg.2.2.2.2.symm⟩ t9
          have G : vG (cww vC_96) h h := (vG.rf hg)
          have y := fun D cA base b Ls xs ads => lp_metN l h 2 152 p0 p1 hX ⟨G.1.2.2.2.1.trans hg.2.2.2.1.symm, G.1.2.2.2.2.trans hg.2.2.2.2.symm⟩ rfl D cA base b Ls xs ads
          exact ⟨0, xsetL h 152 0 ((xI h 54 (p0).toNatClampNeg)).toInt64, hX.1.1.tr ⟨Nat.le_refl _, Nat.le_refl _, fun _ _ z => z⟩, ⟨sgood_L G.1, G.2.1, G.2.2⟩, y⟩
        by_cases k5 : p1.toInt = 5
        · by_cases c10 : (xI h (xR h (xR h 2 3) 5) (p0).toNatClampNeg) = (Int32.ofInt (2))
          · have t11 : XT l 12 492 false 170 153 6051 0 [xf 12 2, xi p0, xi p1] [] h 123 [xf 12 2, xi p0, xi p1] [xi (Int32.ofInt (0))] h := XT_path (l := l) (fr := 12) (lo := 492) (full := false) (M := 170) (n := 153) (u := 6051) (pc := 0) (L := [xf 12 2, xi p0, xi p1]) (st := []) (h := h) (inl := [85]) (n' := 80) (sp := [123]) (o := [0, 0, 1, 6, 0]) rfl rfl ⟨rfl, rfl, rfl⟩ rfl ⟨Nat.le_of_eq hg.2.2.2.1, Nat.le_of_eq hg.2.2.2.2⟩ ⟨⟨⟨⟨⟨⟨⟨⟨⟨⟨trivial, c1⟩, (show ¬ xR h 2 1 = 0 from by rw [r21]; decide)⟩, c2⟩, (Or.inr rfl)⟩, (show ¬ (Int32.ofInt (1)) = 0 from by decide)⟩, ⟨k5, by decide⟩⟩, (vnn hg.1 (rfl : vRf 2 3 = [48]) (by decide))⟩, (show ¬ xR h (xR h 2 3) 5 = 0 from by rw [vref hg.1 (rfl : vRf 2 3 = [48])]; exact vnn hg.1 (rfl : vRf 48 5 = [53]) (by decide))⟩, (vp_of (i := p0) (n := 8) (by omega) (by omega))⟩, c10⟩
            have hX : CX l 12 492 false 170 [xf 12 2, xi p0, xi p1] h [xi (Int32.ofInt (0))] h := CX_ofW (h' := h) (by decide) xw_p rfl trivial ⟨_, _, _, rfl, rfl, rfl⟩ rfl ⟨Nat.le_of_eq hg.2.2.2.1.symm, Nat.le_of_eq hg.2.2.2.2.symm⟩ t11
            have G : vG (cww vC_96) h h := (vG.rf hg)
            have y := fun D cA base b Ls xs ads => lp_metN l h 2 152 p0 p1 hX ⟨G.1.2.2.2.1.trans hg.2.2.2.1.symm, G.1.2.2.2.2.trans hg.2.2.2.2.symm⟩ rfl D cA base b Ls xs ads
            exact ⟨0, xsetL h 152 0 ((Int32.ofInt (0))).toInt64, hX.1.1.tr ⟨Nat.le_refl _, Nat.le_refl _, fun _ _ z => z⟩, ⟨sgood_L G.1, G.2.1, G.2.2⟩, y⟩
          · have t12 : XT l 12 492 false 170 153 6051 0 [xf 12 2, xi p0, xi p1] [] h 123 [xf 12 2, xi p0, xi p1] [xi (Int32.ofInt (1))] h := XT_path (l := l) (fr := 12) (lo := 492) (full := false) (M := 170) (n := 153) (u := 6051) (pc := 0) (L := [xf 12 2, xi p0, xi p1]) (st := []) (h := h) (inl := [85]) (n' := 80) (sp := [123]) (o := [0, 0, 1, 6, 1]) rfl rfl ⟨rfl, rfl, rfl⟩ rfl ⟨Nat.le_of_eq hg.2.2.2.1, Nat.le_of_eq hg.2.2.2.2⟩ ⟨⟨⟨⟨⟨⟨⟨⟨⟨⟨trivial, c1⟩, (show ¬ xR h 2 1 = 0 from by rw [r21]; decide)⟩, c2⟩, (Or.inr rfl)⟩, (show ¬ (Int32.ofInt (1)) = 0 from by decide)⟩, ⟨k5, by decide⟩⟩, (vnn hg.1 (rfl : vRf 2 3 = [48]) (by decide))⟩, (show ¬ xR h (xR h 2 3) 5 = 0 from by rw [vref hg.1 (rfl : vRf 2 3 = [48])]; exact vnn hg.1 (rfl : vRf 48 5 = [53]) (by decide))⟩, (vp_of (i := p0) (n := 8) (by omega) (by omega))⟩, c10⟩
            have hX : CX l 12 492 false 170 [xf 12 2, xi p0, xi p1] h [xi (Int32.ofInt (1))] h := CX_ofW (h' := h) (by decide) xw_p rfl trivial ⟨_, _, _, rfl, rfl, rfl⟩ rfl ⟨Nat.le_of_eq hg.2.2.2.1.symm, Nat.le_of_eq hg.2.2.2.2.symm⟩ t12
            have G : vG (cww vC_96) h h := (vG.rf hg)
            have y := fun D cA base b Ls xs ads => lp_metN l h 2 152 p0 p1 hX ⟨G.1.2.2.2.1.trans hg.2.2.2.1.symm, G.1.2.2.2.2.trans hg.2.2.2.2.symm⟩ rfl D cA base b Ls xs ads
            exact ⟨0, xsetL h 152 0 ((Int32.ofInt (1))).toInt64, hX.1.1.tr ⟨Nat.le_refl _, Nat.le_refl _, fun _ _ z => z⟩, ⟨sgood_L G.1, G.2.1, G.2.2⟩, y⟩
        have y := lp_met2 l h 2 152 p0 p1 (px_met2 l h 2 p0 p1 (o := [0, 0, 1, 0]) rfl ⟨rfl, rfl, rfl, rfl⟩ ⟨⟨⟨⟨⟨⟨trivial, c1⟩, (show ¬ xR h 2 1 = 0 from by rw [r21]; decide)⟩, c2⟩, (Or.inr rfl)⟩, (show ¬ (Int32.ofInt (1)) = 0 from by decide)⟩, (by omega)⟩)
        exact ⟨2, h, XM.rf, vG.rf hg, y⟩
  · have r21 : xR h 2 1 = 24 := List.mem_singleton.mp hr
    have bp : 0 ≤ (xI h 24 9).toInt ∧ (xI h 24 9).toInt ≤ 8 := b6 24 9
    by_cases c1 : p0 < 0
    · have d1 : p0.toInt < 0 := Int32.lt_iff_toInt_lt.mp c1
      have y := lp_met1 l h 2 152 p0 p1 (px_met1 l h 2 p0 p1 (o := [1, 0]) rfl ⟨rfl, rfl, rfl, rfl⟩ ⟨⟨⟨trivial, c1⟩, (Or.inl rfl)⟩, rfl⟩)
      exact ⟨1, h, XM.rf, vG.rf hg, y⟩
    · have d1 : 0 ≤ p0.toInt := Int.not_lt.mp (fun z => c1 (Int32.lt_iff_toInt_lt.mpr (by omega)))
      by_cases c2 : (xI h (xR h 2 1) 9) ≤ p0
      · have y := lp_met1 l h 2 152 p0 p1 (px_met1 l h 2 p0 p1 (o := [0, 1, 0]) rfl ⟨rfl, rfl, rfl, rfl⟩ ⟨⟨⟨⟨⟨trivial, c1⟩, (show ¬ xR h 2 1 = 0 from by rw [r21]; decide)⟩, c2⟩, (Or.inl rfl)⟩, rfl⟩)
        exact ⟨1, h, XM.rf, vG.rf hg, y⟩
      · have d2 : p0.toInt < (xI h 24 9).toInt := Int.not_le.mp (fun z => c2 (Int32.le_iff_toInt_le.mpr (by first | omega | (rw [r21]; omega))))
        by_cases k0 : p1.toInt = 0
        · have t3 : XT l 12 492 false 170 153 6051 0 [xf 12 2, xi p0, xi p1] [] h 65 [xf 12 2, xi p0, xi p1] [xi (xI h (xR h (xR h 2 3) 4) (p0).toNatClampNeg)] h := XT_path (l := l) (fr := 12) (lo := 492) (full := false) (M := 170) (n := 153) (u := 6051) (pc := 0) (L := [xf 12 2, xi p0, xi p1]) (st := []) (h := h) (inl := [85]) (n' := 80) (sp := [65]) (o := [0, 0, 1, 1]) rfl rfl ⟨rfl, rfl, rfl⟩ rfl ⟨Nat.le_of_eq hg.2.2.2.1, Nat.le_of_eq hg.2.2.2.2⟩ ⟨⟨⟨⟨⟨⟨⟨⟨⟨trivial, c1⟩, (show ¬ xR h 2 1 = 0 from by rw [r21]; decide)⟩, c2⟩, (Or.inr rfl)⟩, (show ¬ (Int32.ofInt (1)) = 0 from by decide)⟩, ⟨k0, by decide⟩⟩, (vnn hg.1 (rfl : vRf 2 3 = [48]) (by decide))⟩, (show ¬ xR h (xR h 2 3) 4 = 0 from by rw [vref hg.1 (rfl : vRf 2 3 = [48])]; exact vnn hg.1 (rfl : vRf 48 4 = [52]) (by decide))⟩, (vp_of (i := p0) (n := 8) (by omega) (by omega))⟩
          rw [vref hg.1 (rfl : vRf 2 3 = [48]), vref hg.1 (rfl : vRf 48 4 = [52])] at t3
          have hX : CX l 12 492 false 170 [xf 12 2, xi p0, xi p1] h [xi (xI h 52 (p0).toNatClampNeg)] h := CX_ofW (h' := h) (by decide) xw_p rfl trivial ⟨_, _, _, rfl, rfl, rfl⟩ rfl ⟨Nat.le_of_eq hg.2.2.2.1.symm, Nat.le_of_eq hg.2.2.2.2.symm⟩ t3
          have G : vG (cww vC_96) h h := (vG.rf hg)
          have y := fun D cA base b Ls xs ads => lp_metN l h 2 152 p0 p1 hX ⟨G.1.2.2.2.1.trans hg.2.2.2.1.symm, G.1.2.2.2.2.trans hg.2.2.2.2.symm⟩ rfl D cA base b Ls xs ads
          exact ⟨0, xsetL h 152 0 ((xI h 52 (p0).toNatClampNeg)).toInt64, hX.1.1.tr ⟨Nat.le_refl _, Nat.le_refl _, fun _ _ z => z⟩, ⟨sgood_L G.1, G.2.1, G.2.2⟩, y⟩
        by_cases k1 : p1.toInt = 1
        · have t4 : XT l 12 492 false 170 153 6051 0 [xf 12 2, xi p0, xi p1] [] h 75 [xf 12 2, xi p0, xi p1] [xi (xI h (xR h (xR h 2 1) 12) (p0).toNatClampNeg)] h := XT_path (l := l) (fr := 12) (lo := 492) (full := false) (M := 170) (n := 153) (u := 6051) (pc := 0) (L := [xf 12 2, xi p0, xi p1]) (st := []) (h := h) (inl := [85]) (n' := 80) (sp := [75]) (o := [0, 0, 1, 2]) rfl rfl ⟨rfl, rfl, rfl⟩ rfl ⟨Nat.le_of_eq hg.2.2.2.1, Nat.le_of_eq hg.2.2.2.2⟩ ⟨⟨⟨⟨⟨⟨⟨⟨⟨trivial, c1⟩, (show ¬ xR h 2 1 = 0 from by rw [r21]; decide)⟩, c2⟩, (Or.inr rfl)⟩, (show ¬ (Int32.ofInt (1)) = 0 from by decide)⟩, ⟨k1, by decide⟩⟩, (show ¬ xR h 2 1 = 0 from by rw [r21]; decide)⟩, (show ¬ xR h (xR h 2 1) 12 = 0 from by rw [r21]; exact vnn hg.1 (rfl : vRf 24 12 = [34]) (by decide))⟩, (vp_of (i := p0) (n := 8) (by omega) (by omega))⟩
          rw [r21, vref hg.1 (rfl : vRf 24 12 = [34])] at t4
          have hX : CX l 12 492 false 170 [xf 12 2, xi p0, xi p1] h [xi (xI h 34 (p0).toNatClampNeg)] h := CX_ofW (h' := h) (by decide) xw_p rfl trivial ⟨_, _, _, rfl, rfl, rfl⟩ rfl ⟨Nat.le_of_eq hg.2.2.2.1.symm, Nat.le_of_eq hg.2.2.2.2.symm⟩ t4
          have G : vG (cww vC_96) h h := (vG.rf hg)
          have y := fun D cA base b Ls xs ads => lp_metN l h 2 152 p0 p1 hX ⟨G.1.2.2.2.1.trans hg.2.2.2.1.symm, G.1.2.2.2.2.trans hg.2.2.2.2.symm⟩ rfl D cA base b Ls xs ads
          exact ⟨0, xsetL h 152 0 ((xI h 34 (p0).toNatClampNeg)).toInt64, hX.1.1.tr ⟨Nat.le_refl _, Nat.le_refl _, fun _ _ z => z⟩, ⟨sgood_L G.1, G.2.1, G.2.2⟩, y⟩
        by_cases k2 : p1.toInt = 2
        · have t5 : XT l 12 492 false 170 153 6051 0 [xf 12 2, xi p0, xi p1] [] h 85 [xf 12 2, xi p0, xi p1] [xi (xI h (xR h (xR h 2 1) 13) (p0).toNatClampNeg)] h := XT_path (l := l) (fr := 12) (lo := 492) (full := false) (M := 170) (n := 153) (u := 6051) (pc := 0) (L := [xf 12 2, xi p0, xi p1]) (st := []) (h := h) (inl := [85]) (n' := 80) (sp := [85]) (o := [0, 0, 1, 3]) rfl rfl ⟨rfl, rfl, rfl⟩ rfl ⟨Nat.le_of_eq hg.2.2.2.1, Nat.le_of_eq hg.2.2.2.2⟩ ⟨⟨⟨⟨⟨⟨⟨⟨⟨trivial, c1⟩, (show ¬ xR h 2 1 = 0 from by rw [r21]; decide)⟩, c2⟩, (Or.inr rfl)⟩, (show ¬ (Int32.ofInt (1)) = 0 from by decide)⟩, ⟨k2, by decide⟩⟩, (show ¬ xR h 2 1 = 0 from by rw [r21]; decide)⟩, (show ¬ xR h (xR h 2 1) 13 = 0 from by rw [r21]; exact vnn hg.1 (rfl : vRf 24 13 = [35]) (by decide))⟩, (vp_of (i := p0) (n := 8) (by omega) (by omega))⟩
          rw [r21, vref hg.1 (rfl : vRf 24 13 = [35])] at t5
          have hX : CX l 12 492 false 170 [xf 12 2, xi p0, xi p1] h [xi (xI h 35 (p0).toNatClampNeg)] h := CX_ofW (h' := h) (by decide) xw_p rfl trivial ⟨_, _, _, rfl, rfl, rfl⟩ rfl ⟨Nat.le_of_eq hg.2.2.2.1.symm, Nat.le_of_eq hg.2.2.2.2.symm⟩ t5
          have G : vG (cww vC_96) h h := (vG.rf hg)
          have y := fun D cA base b Ls xs ads => lp_metN l h 2 152 p0 p1 hX ⟨G.1.2.2.2.1.trans hg.2.2.2.1.symm, G.1.2.2.2.2.trans hg.2.2.2.2.symm⟩ rfl D cA base b Ls xs ads
          exact ⟨0, xsetL h 152 0 ((xI h 35 (p0).toNatClampNeg)).toInt64, hX.1.1.tr ⟨Nat.le_refl _, Nat.le_refl _, fun _ _ z => z⟩, ⟨sgood_L G.1, G.2.1, G.2.2⟩, y⟩
        by_cases k3 : p1.toInt = 3
        · have t6 : XT l 12 492 false 170 153 6051 0 [xf 12 2, xi p0, xi p1] [] h 91 [xf 12 2, xi p0, xi p1] [xi p0, xf 11 (xR h 2 3)] h := XT_path (l := l) (fr := 12) (lo := 492) (full := false) (M := 170) (n := 153) (u := 6051) (pc := 0) (L := [xf 12 2, xi p0, xi p1]) (st := []) (h := h) (inl := [85]) (n' := 80) (sp := [91]) (o := [0, 0, 1, 4]) rfl rfl ⟨rfl, rfl, rfl⟩ rfl ⟨Nat.le_of_eq hg.2.2.2.1, Nat.le_of_eq hg.2.2.2.2⟩ ⟨⟨⟨⟨⟨⟨⟨trivial, c1⟩, (show ¬ xR h 2 1 = 0 from by rw [r21]; decide)⟩, c2⟩, (Or.inr rfl)⟩, (show ¬ (Int32.ofInt (1)) = 0 from by decide)⟩, ⟨k3, by decide⟩⟩, (vnn hg.1 (rfl : vRf 2 3 = [48]) (by decide))⟩
          rw [vref hg.1 (rfl : vRf 2 3 = [48])] at t6
          obtain ⟨v, h1, c1, g1, f1, -⟩ := vq_p75 l p0 h hg ⟨by omega, by omega⟩
          have t7 : XT l 12 492 false 170 153 6051 91 [xf 12 2, xi p0, xi p1] [xi p0, xf 11 48] h 94 [xf 12 2, xi p0, xi p1] [xi v] h1 := XT_call (l := l) (fr := 12) (lo := 492) (full := false) (M := 170) (n := 153) (u := 6051) (pc := 91) (L := [xf 12 2, xi p0, xi p1]) (st := [xi p0, xf 11 48]) (h := h) (i := .invokevirtual 75) (aux := 2) (nx := 94) (K := 75) (vs := [xf 11 48, xi p0]) (rs := [xi v]) (rest := []) rfl rfl rfl rfl rfl rfl c1 (by decide) (by decide) (Nat.le_of_ble_eq_true rfl) ⟨Nat.le_of_eq g1.2.2.2.1, Nat.le_of_eq g1.2.2.2.2⟩
          have t8 := t6.tr t7
          have hX : CX l 12 492 false 170 [xf 12 2, xi p0, xi p1] h [xi v] h1 := CX_ofW (h' := h1) (by decide) xw_p rfl trivial ⟨_, _, _, rfl, rfl, rfl⟩ rfl ⟨Nat.le_of_eq g1.2.2.2.1.symm, Nat.le_of_eq g1.2.2.2.2.symm⟩ t8
          have G : vG (cww vC_96) h h1 := (⟨g1, f1⟩ : vG (cww vC_96) h h1)
          have y := fun D cA base b Ls xs ads => lp_metN l h 2 152 p0 p1 hX ⟨G.1.2.2.2.1.trans hg.2.2.2.1.symm, G.1.2.2.2.2.trans hg.2.2.2.2.symm⟩ rfl D cA base b Ls xs ads
          exact ⟨0, xsetL h1 152 0 (v).toInt64, hX.1.1.tr ⟨Nat.le_refl _, Nat.le_refl _, fun _ _ z => z⟩, ⟨sgood_L G.1, G.2.1, G.2.2⟩, y⟩
        by_cases k4 : p1.toInt = 4
        · have t9 : XT l 12 492 false 170 153 6051 0 [xf 12 2, xi p0, xi p1] [] h 104 [xf 12 2, xi p0, xi p1] [xi (xI h (xR h (xR h 2 3) 6) (p0).toNatClampNeg)] h := XT_path (l := l) (fr := 12) (lo := 492) (full := false) (M := 170) (n := 153) (u := 6051) (pc := 0) (L := [xf 12 2, xi p0, xi p1]) (st := []) (h := h) (inl := [85]) (n' := 80) (sp := [104]) (o := [0, 0, 1, 5]) rfl rfl ⟨rfl, rfl, rfl⟩ rfl ⟨Nat.le_of_eq hg.2.2.2.1, Nat.le_of_eq hg.2.2.2.2⟩ ⟨⟨⟨⟨⟨⟨⟨⟨⟨trivial, c1⟩, (show ¬ xR h 2 1 = 0 from by rw [r21]; decide)⟩, c2⟩, (Or.inr rfl)⟩, (show ¬ (Int32.ofInt (1)) = 0 from by decide)⟩, ⟨k4, by decide⟩⟩, (vnn hg.1 (rfl : vRf 2 3 = [48]) (by decide))⟩, (show ¬ xR h (xR h 2 3) 6 = 0 from by rw [vref hg.1 (rfl : vRf 2 3 = [48])]; exact vnn hg.1 (rfl : vRf 48 6 = [54]) (by decide))⟩, (vp_of (i := p0) (n := 8) (by omega) (by omega))⟩
          rw [vref hg.1 (rfl : vRf 2 3 = [48]), vref hg.1 (rfl : vRf 48 6 = [54])] at t9
          have hX : CX l 12 492 false 170 [xf 12 2, xi p0, xi p1] h [xi (xI h 54 (p0).toNatClampNeg)] h := CX_ofW (h' := h) (by decide) xw_p rfl trivial ⟨_, _, _, rfl, rfl, rfl⟩ rfl ⟨Nat.le_of_eq hg.2.2.2.1.symm, Nat.le_of_eq hg.2.2.2.2.symm⟩ t9
          have G : vG (cww vC_96) h h := (vG.rf hg)
          have y := fun D cA base b Ls xs ads => lp_metN l h 2 152 p0 p1 hX ⟨G.1.2.2.2.1.trans hg.2.2.2.1.symm, G.1.2.2.2.2.trans hg.2.2.2.2.symm⟩ rfl D cA base b Ls xs ads
          exact ⟨0, xsetL h 152 0 ((xI h 54 (p0).toNatClampNeg)).toInt64, hX.1.1.tr ⟨Nat.le_refl _, Nat.le_refl _, fun _ _ z => z⟩, ⟨sgood_L G.1, G.2.1, G.2.2⟩, y⟩
        by_cases k5 : p1.toInt = 5
        · by_cases c10 : (xI h (xR h (xR h 2 3) 5) (p0).toNatClampNeg) = (Int32.ofInt (2))
          · have t11 : XT l 12 492 false 170 153 6051 0 [xf 12 2, xi p0, xi p1] [] h 123 [xf 12 2, xi p0, xi p1] [xi (Int32.ofInt (0))] h := XT_path (l := l) (fr := 12) (lo := 492) (full := false) (M := 170) (n := 153) (u := 6051) (pc := 0) (L := [xf 12 2, xi p0, xi p1]) (st := []) (h := h) (inl := [85]) (n' := 80) (sp := [123]) (o := [0, 0, 1, 6, 0]) rfl rfl ⟨rfl, rfl, rfl⟩ rfl ⟨Nat.le_of_eq hg.2.2.2.1, Nat.le_of_eq hg.2.2.2.2⟩ ⟨⟨⟨⟨⟨⟨⟨⟨⟨⟨trivial, c1⟩, (show ¬ xR h 2 1 = 0 from by rw [r21]; decide)⟩, c2⟩, (Or.inr rfl)⟩, (show ¬ (Int32.ofInt (1)) = 0 from by decide)⟩, ⟨k5, by decide⟩⟩, (vnn hg.1 (rfl : vRf 2 3 = [48]) (by decide))⟩, (show ¬ xR h (xR h 2 3) 5 = 0 from by rw [vref hg.1 (rfl : vRf 2 3 = [48])]; exact vnn hg.1 (rfl : vRf 48 5 = [53]) (by decide))⟩, (vp_of (i := p0) (n := 8) (by omega) (by omega))⟩, c10⟩
            have hX : CX l 12 492 false 170 [xf 12 2, xi p0, xi p1] h [xi (Int32.ofInt (0))] h := CX_ofW (h' := h) (by decide) xw_p rfl trivial ⟨_, _, _, rfl, rfl, rfl⟩ rfl ⟨Nat.le_of_eq hg.2.2.2.1.symm, Nat.le_of_eq hg.2.2.2.2.symm⟩ t11
            have G : vG (cww vC_96) h h := (vG.rf hg)
            have y := fun D cA base b Ls xs ads => lp_metN l h 2 152 p0 p1 hX ⟨G.1.2.2.2.1.trans hg.2.2.2.1.symm, G.1.2.2.2.2.trans hg.2.2.2.2.symm⟩ rfl D cA base b Ls xs ads
            exact ⟨0, xsetL h 152 0 ((Int32.ofInt (0))).toInt64, hX.1.1.tr ⟨Nat.le_refl _, Nat.le_refl _, fun _ _ z => z⟩, ⟨sgood_L G.1, G.2.1, G.2.2⟩, y⟩
          · have t12 : XT l 12 492 false 170 153 6051 0 [xf 12 2, xi p0, xi p1] [] h 123 [xf 12 2, xi p0, xi p1] [xi (Int32.ofInt (1))] h := XT_path (l := l) (fr := 12) (lo := 492) (full := false) (M := 170) (n := 153) (u := 6051) (pc := 0) (L := [xf 12 2, xi p0, xi p1]) (st := []) (h := h) (inl := [85]) (n' := 80) (sp := [123]) (o := [0, 0, 1, 6, 1]) rfl rfl ⟨rfl, rfl, rfl⟩ rfl ⟨Nat.le_of_eq hg.2.2.2.1, Nat.le_of_eq hg.2.2.2.2⟩ ⟨⟨⟨⟨⟨⟨⟨⟨⟨⟨trivial, c1⟩, (show ¬ xR h 2 1 = 0 from by rw [r21]; decide)⟩, c2⟩, (Or.inr rfl)⟩, (show ¬ (Int32.ofInt (1)) = 0 from by decide)⟩, ⟨k5, by decide⟩⟩, (vnn hg.1 (rfl : vRf 2 3 = [48]) (by decide))⟩, (show ¬ xR h (xR h 2 3) 5 = 0 from by rw [vref hg.1 (rfl : vRf 2 3 = [48])]; exact vnn hg.1 (rfl : vRf 48 5 = [53]) (by decide))⟩, (vp_of (i := p0) (n := 8) (by omega) (by omega))⟩, c10⟩
            have hX : CX l 12 492 false 170 [xf 12 2, xi p0, xi p1] h [xi (Int32.ofInt (1))] h := CX_ofW (h' := h) (by decide) xw_p rfl trivial ⟨_, _, _, rfl, rfl, rfl⟩ rfl ⟨Nat.le_of_eq hg.2.2.2.1.symm, Nat.le_of_eq hg.2.2.2.2.symm⟩ t12
            have G : vG (cww vC_96) h h := (vG.rf hg)
            have y := fun D cA base b Ls xs ads => lp_metN l h 2 152 p0 p1 hX ⟨G.1.2.2.2.1.trans hg.2.2.2.1.symm, G.1.2.2.2.2.trans hg.2.2.2.2.symm⟩ rfl D cA base b Ls xs ads
            exact ⟨0, xsetL h 152 0 ((Int32.ofInt (1))).toInt64, hX.1.1.tr ⟨Nat.le_refl _, Nat.le_refl _, fun _ _ z => z⟩, ⟨sgood_L G.1, G.2.1, G.2.2⟩, y⟩
        have y := lp_met2 l h 2 152 p0 p1 (px_met2 l h 2 p0 p1 (o := [0, 0, 1, 0]) rfl ⟨rfl, rfl, rfl, rfl⟩ ⟨⟨⟨⟨⟨⟨trivial, c1⟩, (show ¬ xR h 2 1 = 0 from by rw [r21]; decide)⟩, c2⟩, (Or.inr rfl)⟩, (show ¬ (Int32.ofInt (1)) = 0 from by decide)⟩, (by omega)⟩)
        exact ⟨2, h, XM.rf, vG.rf hg, y⟩
