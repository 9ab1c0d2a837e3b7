/-! PERSON: the class throws where there is no such person; the law's own method catches it and answers 1. -/
theorem xw_p : XW 170 := ⟨⟨xT_tb (i := 1191) (by decide +kernel) (by decide +kernel), xT_tb (i := 1) (by decide +kernel) (by decide +kernel), by decide +kernel, by decide +kernel, by decide +kernel, by decide +kernel⟩, (fun h => absurd h (by decide +kernel)), (fun _ => xT_tb (i := 1189) (by decide +kernel) (by decide +kernel)), (fun h => absurd h (by decide +kernel)), (fun _ => xT_tb (i := 1190) (by decide +kernel) (by decide +kernel))⟩
def yLp : MethodName := ⟨"ScaleVoteLaw", "person", "(LScaleVote;II[J)I"⟩
def hLp : List (Nat × Nat × Nat × Nat) := [(0, 10, 13, 13), (0, 10, 17, 15)]
theorem lp_w : Cond.codeWith yLp method_3_code 5 (some .int) hLp ∈ xT := xT_tb (i := 1185) (by decide +kernel) (by decide +kernel)
noncomputable def XVx (D : va_G) (cA : Nat → ClassId) (base b Ls : Nat) (xs : Nat → Int32) (ads : List Nat) (h : XH) : String → State → State → Prop := fun E st t =>
  E = "java/lang/IndexOutOfBoundsException" ∧ xrel D cA base b Ls xs false ads h t.heap ∧ va_F (fun q : Nat => base ≤ q) st t
theorem xrel_kept {D : va_G} {cA : Nat → ClassId} {base b Ls : Nat} {xs : Nat → Int32} {full : Bool} {ads : List Nat} {g : XH} {H H1 : Heap} (h : xrel D cA base b Ls xs full ads g H) (hq : ∀ q : Nat, q < H.size → H1[q]? = H[q]?) : xrel D cA base b Ls xs full ads g H1 :=
  ⟨h.1, h.2.1.kept (fun k q hk => hq q.1 (vx_lt h.2.1 hk)), h.2.2⟩
theorem xlr_entry {n : Nat} {ads : List Nat} {b : Nat} (vs : List XV) (hlen : (xent n vs).length = n) : xlr (ads ++ []) b ((lg_sl (vs.map (xcv ads b)) ++ List.replicate (n - (lg_sl (vs.map (xcv ads b))).length) Slot.unset).toArray) (xent n vs) := by
  have hwl : xw vs ≤ n := by
    have := xent_len vs n
    omega
  have hl := lv_entry (vs.map (xcv ads b)) (n := n) (by rw [lg_len]; exact hwl)
  rw [List.append_nil]
  refine ⟨hl.1.trans hlen.symm, hl.2.1, fun q hq => ?_⟩
  obtain ⟨j, hj, ej⟩ := List.mem_filterMap.mp hq
  by_cases hz : xget (xent n vs) j = xun
  · rw [if_pos hz] at ej; cases ej
  · rw [if_neg hz] at ej
    cases ej
    have z := xent_get (ads := ads) (b := b) vs n 0 j hz
    rw [Nat.zero_add] at z
    exact hl.2.2 _ z
theorem px_at : ∀ w ∈ (vx_atS "ScaleVote" 138 "java/lang/IndexOutOfBoundsException" ["java/lang/RuntimeException", "java/lang/Exception"]).filter goodWord, w ∈ lw_tbl := by decide +kernel
theorem px_no : ∀ w ∈ (vx_atS "ScaleVote" 138 "java/lang/IndexOutOfBoundsException" ["java/lang/RuntimeException", "java/lang/Exception"]).filter (fun w => !goodWord w), w ∈ ([] : List Cond) := by decide +kernel
theorem px_ot : ∀ w ∈ Cond.classLink "ScaleVote" 134 "java/lang/IndexOutOfBoundsException" :: Cond.initialized "java/lang/IndexOutOfBoundsException" :: vx_atS "ScaleVote" 138 "java/lang/IndexOutOfBoundsException" ["java/lang/RuntimeException", "java/lang/Exception"], vx_ot w = true := by decide +kernel
set_option maxRecDepth 100000 in
set_option maxHeartbeats 1000000 in
theorem px_met (l : Launch) (h : XH) (e : Nat) (p0 p1 : Int32) {o : List Nat} {r : XP} (hs : xrun false [85] none 40 12 494 [8] true 170 0 [xf 12 e, xi p0, xi p1] [] h o True = some r) (hr : r.1 = 8 ∧ r.2.1 = [xf 12 e, xi p0, xi p1] ∧ r.2.2.1 = [] ∧ r.2.2.2.1 = h) (ha : r.2.2.2.2.2) (D : va_G) (cA : Nat → ClassId) (base b Ls : Nat) (xs : Nat → Int32) (ads : List Nat) :
    vx_Met l (xnm 170) (Cond.code (xnm 170) (xbc 170) (xmx 170) (xrt 170) :: xT) ({ frames := 12, cells := 1, slots := 6, locals := 494 } : Room) (va_Pc ([xf 12 e, xi p0, xi p1].map (xcv ads b)) (XPc l D cA base b Ls xs false ads [xf 12 e, xi p0, xi p1] h)) (fun _ _ _ _ => False) (XVx D cA base b Ls xs ads h) 1 6 (fun q : Nat => base ≤ q) := by
  obtain ⟨⟨w1, w2, w3, w4, w5, w6⟩, -⟩ := xw_p
  obtain ⟨r1, r2, r3, r4⟩ := hr
  refine vx_ofW (cc := xbc 170) (maxL := xmx 170) (ret := xrt 170) (by decide +kernel) rfl ?_
  intro p e' s m args below meth c s₁ B hml ht hv
  obtain ⟨rfl, hrel, hK, hNw, hXs, hb, hbase, hvs, hZ⟩ := hv
  have hts := atoms_spec (ws := Cond.code (xnm 170) (xbc 170) (xmx 170) (xrt 170) :: xT) B.pre
  have htx : ∀ w ∈ xT, w.before (([xf 12 e, xi p0, xi p1].map (xcv ads b)).toArray) s = true := fun w hw => hts w (List.mem_cons_of_mem _ hw)
  have hown : s.vm.findClass (xos (xow 170)) = some m.cls := by rw [w5]; exact findClass_of_methodNamed B.named
  have hl0 := hrel.1
  have C : XC 170 (xN h) (xU h) Ls 12 494 p l e' (headSpec (Cond.code (xnm 170) (xbc 170) (xmx 170) (xrt 170) :: xT) ({ frames := 12, cells := 1, slots := 6, locals := 494 } : Room)).room s m (([xf 12 e, xi p0, xi p1].map (xcv ads b)).toArray) below meth c D cA base b xs ads (xU h) (0, 0) := by
    refine ⟨hZ, B.exec, B.bytes, hml, hown, htx, fun z => absurd z (by decide +kernel), hK, hNw, ⟨hXs, hb, hbase⟩, Nat.le_refl _, Nat.le_refl _, ?_, ?_⟩
    · show xN h ≤ ads.length + 2 + 1
      omega
    · show xU h ≤ xU h + 6
      omega
  rw [lg_entry_eq]
  have hls := xlr_entry (n := xmx 170) (ads := ads) (b := b) [xf 12 e, xi p0, xi p1] rfl
  have e0 : xN h - (ads.length + 2) = 0 := by omega
  have fin := xrun_ok (l := l) (xin_ok rfl) none 40 12 494 [8] true 170 0 _ _ h o True _ hs (Or.inl rfl) (Q := vx_MQ below (fun _ _ _ _ => False) (XVx D cA base b Ls xs ads h) (([xf 12 e, xi p0, xi p1].map (xcv ads b)).toArray) s 1 6 (fun q : Nat => base ≤ q)) C rfl (by rw [r4]; exact Nat.le_refl _) (by rw [r4]; exact Nat.le_refl _) ha ?_ [] s.heap [] _ (by rw [List.append_nil]; exact hrel) va_S.rf hls (xent_vl [xf 12 e, xi p0, xi p1] 3 hvs) trivial ⟨Nat.le_refl _, by dsimp only; omega, by dsimp only; omega⟩
  · dsimp only [Nat.add_zero] at fin
    rw [e0, Nat.sub_self] at fin
    exact fin
  · rw [r1, r2, r3, r4]
    intro t H locs ls h1 h2 h3 h4 h5 h6
    have hl1 := h1.1
    rw [List.length_append] at hl1
    have ht0 : t = [] := List.eq_nil_of_length_eq_zero (by omega)
    subst ht0
    rw [List.append_nil] at h1
    dsimp only [Nat.add_zero]
    rw [e0, Nat.sub_self]
    obtain ⟨sa, hsa⟩ := hZ.2.2 (136, "no such person") (by decide)
    have hown2 : s.vm.findClass "ScaleVote" = some m.cls := hown
    refine vx_throwS (own := "ScaleVote") (cls := "java/lang/IndexOutOfBoundsException") (text := "no such person") (names := ["java/lang/RuntimeException", "java/lang/Exception"]) (ik := 134) (is := 136) (ic := 138) (sa := sa) (A := fun q : Nat => base ≤ q) (cc := xbc 170) B.exec B.bytes hZ.1 hown2 (by decide +kernel) (by decide +kernel)
      (htx _ (xT_tb (i := 1192) (by decide +kernel) (by decide +kernel))) (htx _ (xT_tb (i := 24) (by decide +kernel) (by decide +kernel))) hsa (vx_hat (fun w hw => htx w (List.mem_filter.mpr ⟨px_at w hw, (List.mem_filter.mp hw).2⟩)) px_no vx_n) px_ot hZ.2.1.1 hZ.2.1.2 h2 (h3.1.trans hml.symm)
      (by decide +kernel) (by decide +kernel) (by decide +kernel) (by decide +kernel) (by decide +kernel) (fun x hx => (ht x hx).elim) (by decide) (by decide) (by decide) (by decide) B.notSynchronized ?_ (fun z hz => h2.2.2 z hz) (by decide) (by decide)
    intro t _ hsz hq
    exact ⟨rfl, xrel_kept h1 hq, ⟨Nat.le_trans h2.1 hsz, fun q g1 g2 => by rw [hq q (Nat.lt_of_lt_of_le g1 h2.1)]; exact h2.2.1 q g1 g2⟩⟩
