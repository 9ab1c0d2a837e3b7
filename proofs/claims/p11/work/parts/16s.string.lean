/-! THE CONSTANT OF WORDS: how long it is, which sign stands where; the JDK's own methods over it. -/
section ZStr
variable {p : Program} {l : Launch} {e : Env} {R : Room} {s : State} {m : MethodId} {args : Array Value} {below : List Frame} {meth : Method} {c : Code} {H : Heap} {locs : List Loc} {cells slots : Nat} {Q : State → Prop}
variable {base q v fr lo fr' lo' K M idx pc : Nat} {ls : Array Slot} {as rest : List Value} {ro : Option Value}
noncomputable def ZM (l : Launch) (base q v fr lo K : Nat) (as : List Value) (ro : Option Value) : Prop :=
  Met l (xnm K) (Cond.code (xnm K) (xbc K) (xmx K) (xrt K) :: xT) ({ frames := fr, cells := 0, slots := 0, locals := lo } : Room) (va_Pc as (fun U => zS base q v U U.heap)) (fun _ st oc t => oc = .returned ro ∧ t.heap = st.heap) 0 0 (fun z : Nat => base ≤ z)
theorem ZM_of (hW : XW K) (hB : ∀ (p : Program) (e : Env) (R : Room) (s : State) (m : MethodId) (args : Array Value) (below : List Frame) (meth : Method) (c : Code), zS base q v s s.heap → CallFix p m c (xbc K) (xmx K) s args xT (xos (xow K)) → (fr ≤ R.frames ∧ lo ≤ R.locals) → meth.sig.returnType = xrt K → meth.locks = false → W p l e R s m args below meth c s.heap [] 0 0 (MQ below (fun _ st oc t => oc = .returned ro ∧ t.heap = st.heap) args s 0 0 (fun z : Nat => base ≤ z)) (entryFrame m as.toArray (xmx K))) : ZM l base q v fr lo K as ro := by
  obtain ⟨⟨w1, w2, w3, w4, w5, w6⟩, -⟩ := hW
  refine va_MetF (cc := xbc K) (maxL := xmx K) (ret := xrt K) w4 rfl ?_
  intro p e s m args below meth c s₁ B hml hv
  obtain ⟨rfl, hz⟩ := hv
  have hts := atoms_spec (ws := Cond.code (xnm K) (xbc K) (xmx K) (xrt K) :: xT) B.pre
  have hown : s.vm.findClass (xos (xow K)) = some m.cls := by rw [w5]; exact findClass_of_methodNamed B.named
  exact hB p e _ s m _ below meth c hz ⟨B.exec, B.bytes, hml, hown, fun w hw => hts w (List.mem_cons_of_mem _ hw)⟩ ⟨Nat.le_refl _, Nat.le_refl _⟩ B.returns B.notSynchronized
theorem z_blind {av : List Value} : FrameBlind (va_Pc av (fun U => zS base q v U U.heap)) := fun a U g mk h => ⟨h.1, zS.same (s := U) (U := U.calling g mk a) rfl h.2⟩
theorem z_S {L : List Loc} (hS : va_S (fun z : Nat => base ≤ z) s.heap H locs) (hL : ∀ z ∈ L, base ≤ z.base) : va_S (fun z : Nat => base ≤ z) s.heap H (locs ++ L) := ⟨hS.1, hS.2.1, fun z hz => (List.mem_append.mp hz).elim (hS.2.2 z) (hL z)⟩
theorem Z_virt (hz : zS base q v s s.heap) (S : CallFix p m c (xbc M) (xmx M) s args xT (xos (xow M))) (hS : va_S (fun z : Nat => base ≤ z) s.heap H locs) (hW : XW K) (hM : ZM l base q v fr' lo' K (.ref q :: as) ro) (h3 : xwst K = 3) (hlk : Cond.methodLink (xos (xow M)) idx (xnm K) ∈ xT) (hc : (xnm K).cls = "java/lang/String") (hn : as.length = xnp K) (hfr : fr' + 1 ≤ R.frames) (hlo : 8 + (xmx K + 11) + lo' ≤ R.locals) (hsz : ls.size = xmx M) (hw : (rest.map fun v => v.category).sum ≤ 8) (hd : decode (xbc M) pc = .ok (.invokevirtual idx, 3)) (hcs : cells ≤ R.cells ∧ slots ≤ R.slots)
    (kk : ∀ locs', va_S (fun z : Nat => base ≤ z) s.heap H locs' → W p l e R s m args below meth c H locs' cells slots Q (F0 m (pc + 3) ls (ro.toList ++ rest))) : W p l e R s m args below meth c H locs cells slots Q (F0 m pc ls (as.reverse ++ .ref q :: rest)) := by
  obtain ⟨⟨w1, w2, w3, w4, w5, w6⟩, w7, w8, w9, w10⟩ := hW
  have hts := S.2.2.2.2
  have hrecv : ∃ cellB : Cell, H[q]? = some cellB ∧ cellB.vm.isStatics = false ∧ s.vm.findClass (xnm K).cls = some cellB.cls := by
    rw [hc]
    exact vk_recv (i := 0) hz.2.1 (by decide) hS
  refine W_call (va_runV (C := (xnm K).cls) (b := q) (As := as) (g := F0 m pc ls (as.reverse ++ .ref q :: rest)) (rest := rest) S hM ⟨callB_of (xnp K) hts (xT_in w1) rfl rfl rfl (hts _ w2) (hts _ hlk) w3 ⟨hfr, hlo⟩, hts _ (w8 (by omega)), hts _ (w10 h3)⟩ ⟨z_blind, hrecv, fun U hU hWm => ⟨rfl, show zS base q v U U.heap from by rw [hU]; exact (zS.warm hWm hz).kept hS.2.1⟩⟩ rfl hn hsz rfl (lv_room hw) hd hcs) fun vv st₀ t L e0 hq hL => ?_
  obtain ⟨e1, e2⟩ := hq
  obtain rfl := Outcome.returned.inj e1
  rw [e2, e0]
  exact kk (locs ++ L) (z_S hS hL)
theorem Z_stat (hz : zS base q v s s.heap) (S : CallFix p m c (xbc M) (xmx M) s args xT (xos (xow M))) (hS : va_S (fun z : Nat => base ≤ z) s.heap H locs) (hW : XW K) (hM : ZM l base q v fr' lo' K as ro) (h3 : xwst K = 1) (hlk : Cond.methodLink (xos (xow M)) idx (xnm K) ∈ xT) (hn : as.length = xnp K) (hfr : fr' + 1 ≤ R.frames) (hlo : 8 + (xmx K + 11) + lo' ≤ R.locals) (hsz : ls.size = xmx M) (hw : (rest.map fun v => v.category).sum ≤ 8) (hd : decode (xbc M) pc = .ok (.invokestatic idx, 3)) (hcs : cells ≤ R.cells ∧ slots ≤ R.slots)
    (kk : ∀ locs', va_S (fun z : Nat => base ≤ z) s.heap H locs' → W p l e R s m args below meth c H locs' cells slots Q (F0 m (pc + 3) ls (ro.toList ++ rest))) : W p l e R s m args below meth c H locs cells slots Q (F0 m pc ls (as.reverse ++ rest)) := by
  obtain ⟨⟨w1, w2, w3, w4, w5, w6⟩, w7, w8, w9, w10⟩ := hW
  have hts := S.2.2.2.2
  refine W_call (va_runS (As := as) (g := F0 m pc ls (as.reverse ++ rest)) (rest := rest) S hM ⟨callB_of (xnp K) hts (xT_in w1) rfl rfl rfl (hts _ w2) (hts _ hlk) w3 ⟨hfr, hlo⟩, hts _ (w7 h3)⟩ ⟨z_blind, fun U hU hWm => ⟨rfl, show zS base q v U U.heap from by rw [hU]; exact (zS.warm hWm hz).kept hS.2.1⟩⟩ rfl hn hsz rfl (lv_room hw) hd hcs) fun vv st₀ t L e0 hq hL => ?_
  obtain ⟨e1, e2⟩ := hq
  obtain rfl := Outcome.returned.inj e1
  rw [e2, e0]
  exact kk (locs ++ L) (z_S hS hL)
end ZStr
theorem zw_cs : Cond.fieldLink "java/lang/String" 38 "java/lang/String" "COMPACT_STRINGS" "Z" ∈ xT := xT_tb (i := 548) (by decide +kernel) (by decide +kernel)
theorem zw_fm : Cond.fieldLink "java/lang/String" 1053 "jdk/internal/util/Preconditions" "SIOOBE_FORMATTER" "Ljava/util/function/BiFunction;" ∈ xT := xT_tb (i := 564) (by decide +kernel) (by decide +kernel)
theorem zw_va : Cond.fieldLink "java/lang/String" 9 "java/lang/String" "value" "[B" ∈ xT := xT_tb (i := 2007) (by decide +kernel) (by decide +kernel)
theorem zw_co : Cond.fieldLink "java/lang/String" 15 "java/lang/String" "coder" "B" ∈ xT := xT_tb (i := 2008) (by decide +kernel) (by decide +kernel)
theorem zl_23 : Cond.methodLink (xos 6) 240 (xnm 23) ∈ xT := xT_tb (i := 540) (of_decide_eq_true (List.all_eq_true.mp xml_ok (6, 240, 23, 2, 540) (by decide))) rfl
theorem zk_23 : XW 23 := xwK (List.elem_iff.mp rfl)
theorem zl_25 : Cond.methodLink (xos 6) 244 (xnm 25) ∈ xT := xT_tb (i := 550) (of_decide_eq_true (List.all_eq_true.mp xml_ok (6, 244, 25, 2, 550) (by decide))) rfl
theorem zk_25 : XW 25 := xwK (List.elem_iff.mp rfl)
theorem zl_24 : Cond.methodLink (xos 15) 335 (xnm 24) ∈ xT := xT_tb (i := 544) (of_decide_eq_true (List.all_eq_true.mp xml_ok (15, 335, 24, 2, 544) (by decide))) rfl
theorem zk_24 : XW 24 := xwK (List.elem_iff.mp rfl)
theorem zl_26 : Cond.methodLink (xos 15) 492 (xnm 26) ∈ xT := xT_tb (i := 554) (of_decide_eq_true (List.all_eq_true.mp xml_ok (15, 492, 26, 2, 554) (by decide))) rfl
theorem zk_26 : XW 26 := xwK (List.elem_iff.mp rfl)
theorem zl_27 : Cond.methodLink (xos 15) 495 (xnm 27) ∈ xT := xT_tb (i := 558) (of_decide_eq_true (List.all_eq_true.mp xml_ok (15, 495, 27, 0, 558) (by decide))) rfl
theorem zk_27 : XW 27 := xwK (List.elem_iff.mp rfl)
theorem zl_29 : Cond.methodLink (xos 15) 1059 (xnm 29) ∈ xT := xT_tb (i := 566) (of_decide_eq_true (List.all_eq_true.mp xml_ok (15, 1059, 29, 0, 566) (by decide))) rfl
theorem zk_29 : XW 29 := xwK (List.elem_iff.mp rfl)
theorem zl_28 : Cond.methodLink (xos 16) 9 (xnm 28) ∈ xT := xT_tb (i := 561) (of_decide_eq_true (List.all_eq_true.mp xml_ok (16, 9, 28, 0, 561) (by decide))) rfl
theorem zk_28 : XW 28 := xwK (List.elem_iff.mp rfl)
def zch (i : Int32) : Int32 := zby.getD i.toNatClampNeg 0
theorem zby_1 : ∀ j, j < 105 → ((zby.getD j 0 &&& 255).toUInt32 % 65536).toInt32 = zby.getD j 0 := by decide +kernel
theorem zby_2 : ∀ j, j < 105 → narrow .char (.int (zby.getD j 0)) = .int (zby.getD j 0) := by decide +kernel
theorem vp_lt0 {x : Int32} {n : Nat} (h : vp_in x n) : x.toNatClampNeg < n := Nat.not_le.mp fun z => h (Or.inr z)
set_option maxRecDepth 100000 in
theorem z_coder {l : Launch} {base q v : Nat}  : ZM l base q v 0 0 24 [.ref q] (some (.int 0)) := by
  refine ZM_of (zk_24) (fun p e R s m args below meth c hz S hR hr hk => ?_)
  have hS : va_S (fun z : Nat => base ≤ z) s.heap s.heap [] := va_S.rf
  have ho : s.vm.findClass "java/lang/String" = some m.cls := S.2.2.2.1
  have hl := lv_entry [.ref q] (n := xmx 24) (Nat.le_of_ble_eq_true rfl)
  rw [lg_entry_eq]
  refine va_gets S.1 S.2.1 hz.2.2.1 hS ho (S.2.2.2.2 _ zw_cs) (fun x h => h) (show decode (xbc 24) 0 = .ok (.getstatic 38, 3) by decide +kernel) ?_
  refine lv_if_eq S.1 S.2.1 (tgt := 13) (show decode (xbc 24) 3 = .ok (.ifCond .eq 10, 3) by decide +kernel) rfl (fun z => absurd z (by decide)) (fun _ => ?_)
  refine lv_aload_n S.1 S.2.1 (k := 0) (i := 0) (show decode (xbc 24) 6 = .ok (.aload_n 0, 1) by decide +kernel) rfl (lv_at hl 0 rfl) ?_
  refine vk_getf S.1 S.2.1 (hz.2.1.1 0 (by decide)).2.1 hS ho (S.2.2.2.2 _ zw_co) (fun x h => h) (show decode (xbc 24) 7 = .ok (.getfield 15, 3) by decide +kernel) ?_
  refine lv_goto S.1 S.2.1 (tgt := 14) (show decode (xbc 24) 10 = .ok (.goto 4, 3) by decide +kernel) rfl ?_
  exact W.zret (ty := .byte) S.1 S.2.1 (hr.trans rfl) rfl (fun t ht _ => ⟨rfl, ht⟩) hS.2.2 (show decode (xbc 24) 14 = .ok (.ireturn, 1) by decide +kernel) hk
set_option maxRecDepth 100000 in
theorem z_latin {l : Launch} {base q v : Nat}  : ZM l base q v 0 0 26 [.ref q] (some (.int 1)) := by
  refine ZM_of (zk_26) (fun p e R s m args below meth c hz S hR hr hk => ?_)
  have hS : va_S (fun z : Nat => base ≤ z) s.heap s.heap [] := va_S.rf
  have ho : s.vm.findClass "java/lang/String" = some m.cls := S.2.2.2.1
  have hl := lv_entry [.ref q] (n := xmx 26) (Nat.le_of_ble_eq_true rfl)
  rw [lg_entry_eq]
  refine va_gets S.1 S.2.1 hz.2.2.1 hS ho (S.2.2.2.2 _ zw_cs) (fun x h => h) (show decode (xbc 26) 0 = .ok (.getstatic 38, 3) by decide +kernel) ?_
  refine lv_if_eq S.1 S.2.1 (tgt := 17) (show decode (xbc 26) 3 = .ok (.ifCond .eq 14, 3) by decide +kernel) rfl (fun z => absurd z (by decide)) (fun _ => ?_)
  refine lv_aload_n S.1 S.2.1 (k := 0) (i := 0) (show decode (xbc 26) 6 = .ok (.aload_n 0, 1) by decide +kernel) rfl (lv_at hl 0 rfl) ?_
  refine vk_getf S.1 S.2.1 (hz.2.1.1 0 (by decide)).2.1 hS ho (S.2.2.2.2 _ zw_co) (fun x h => h) (show decode (xbc 26) 7 = .ok (.getfield 15, 3) by decide +kernel) ?_
  refine lv_if_ne S.1 S.2.1 (tgt := 17) (show decode (xbc 26) 10 = .ok (.ifCond .ne 7, 3) by decide +kernel) rfl (fun z => absurd rfl z) (fun _ => ?_)
  refine lv_iconst S.1 S.2.1 (v := 1) (show decode (xbc 26) 13 = .ok (.iconst 1, 1) by decide +kernel) rfl ?_
  refine lv_goto S.1 S.2.1 (tgt := 18) (show decode (xbc 26) 14 = .ok (.goto 4, 3) by decide +kernel) rfl ?_
  exact W.zret (ty := .boolean) S.1 S.2.1 (hr.trans rfl) rfl (fun t ht _ => ⟨rfl, ht⟩) hS.2.2 (show decode (xbc 26) 18 = .ok (.ireturn, 1) by decide +kernel) hk
set_option maxRecDepth 100000 in
theorem z_length {l : Launch} {base q v : Nat}  : ZM l base q v 1 20 23 [.ref q] (some (.int 105)) := by
  refine ZM_of (zk_23) (fun p e R s m args below meth c hz S hR hr hk => ?_)
  have hS : va_S (fun z : Nat => base ≤ z) s.heap s.heap [] := va_S.rf
  have ho : s.vm.findClass "java/lang/String" = some m.cls := S.2.2.2.1
  have hl := lv_entry [.ref q] (n := xmx 23) (Nat.le_of_ble_eq_true rfl)
  rw [lg_entry_eq]
  refine lv_aload_n S.1 S.2.1 (k := 0) (i := 0) (show decode (xbc 23) 0 = .ok (.aload_n 0, 1) by decide +kernel) rfl (lv_at hl 0 rfl) ?_
  refine vk_getf S.1 S.2.1 (hz.2.1.1 0 (by decide)).2.2.1 hS ho (S.2.2.2.2 _ zw_va) (fun x h => h) (show decode (xbc 23) 1 = .ok (.getfield 9, 3) by decide +kernel) ?_
  refine va_tlen S.1 S.2.1 (hz.2.1.1 0 (by decide)).2.2.2 hS (v := 105) rfl (show decode (xbc 23) 4 = .ok (.arraylength, 1) by decide +kernel) ?_
  refine lv_aload_n S.1 S.2.1 (k := 0) (i := 0) (show decode (xbc 23) 5 = .ok (.aload_n 0, 1) by decide +kernel) rfl (lv_at hl 0 rfl) ?_
  refine Z_virt (as := []) (rest := [.int 105]) hz S hS zk_24 z_coder rfl zl_24 rfl rfl (Nat.le_trans (by decide) hR.1) (Nat.le_trans (by decide) hR.2) hl.1 (Nat.le_of_ble_eq_true rfl) (show decode (xbc 23) 6 = .ok (.invokevirtual 335, 3) by decide +kernel) ⟨Nat.zero_le _, Nat.zero_le _⟩ (fun locs0 hS => ?_)
  refine lv_ishr (x := 105) (y := 0) S.1 S.2.1 (show decode (xbc 23) 9 = .ok (.ishr, 1) by decide +kernel) ?_
  rw [show (105 : Int32) >>> ((0 : Int32) &&& 31) = 105 from by decide]
  exact W.zret (ty := .int) S.1 S.2.1 (hr.trans rfl) rfl (fun t ht _ => ⟨rfl, ht⟩) hS.2.2 (show decode (xbc 23) 10 = .ok (.ireturn, 1) by decide +kernel) hk
set_option maxRecDepth 100000 in
theorem z_checkN {l : Launch} {base q v : Nat} {i n : Int32} {t : Nat} (h0 : ¬ i < 0) (h1 : i < n) : ZM l base q v 0 0 29 [.int i, .int n, .null] (some (.int i)) := by
  refine ZM_of (zk_29) (fun p e R s m args below meth c hz S hR hr hk => ?_)
  have hS : va_S (fun z : Nat => base ≤ z) s.heap s.heap [] := va_S.rf
  have ho : s.vm.findClass "jdk/internal/util/Preconditions" = some m.cls := S.2.2.2.1
  have hl := lv_entry [.int i, .int n, .null] (n := xmx 29) (Nat.le_of_ble_eq_true rfl)
  rw [lg_entry_eq]
  refine lv_iload_n S.1 S.2.1 (k := 0) (i := 0) (show decode (xbc 29) 0 = .ok (.iload_n 0, 1) by decide +kernel) rfl (lv_at hl 0 rfl) ?_
  refine lv_if_lt S.1 S.2.1 (tgt := 9) (show decode (xbc 29) 1 = .ok (.ifCond .lt 8, 3) by decide +kernel) rfl (fun z => absurd z h0) (fun _ => ?_)
  refine lv_iload_n S.1 S.2.1 (k := 0) (i := 0) (show decode (xbc 29) 4 = .ok (.iload_n 0, 1) by decide +kernel) rfl (lv_at hl 0 rfl) ?_
  refine lv_iload_n S.1 S.2.1 (k := 1) (i := 1) (show decode (xbc 29) 5 = .ok (.iload_n 1, 1) by decide +kernel) rfl (lv_at hl 1 rfl) ?_
  refine lv_icmp_lt S.1 S.2.1 (tgt := 16) (show decode (xbc 29) 6 = .ok (.if_icmp .lt 10, 3) by decide +kernel) rfl (fun _ => ?_) (fun z => absurd h1 z)
  refine lv_iload_n S.1 S.2.1 (k := 0) (i := 0) (show decode (xbc 29) 16 = .ok (.iload_n 0, 1) by decide +kernel) rfl (lv_at hl 0 rfl) ?_
  exact W.zret (ty := .int) S.1 S.2.1 (hr.trans rfl) rfl (fun t ht _ => ⟨rfl, ht⟩) hS.2.2 (show decode (xbc 29) 17 = .ok (.ireturn, 1) by decide +kernel) hk
set_option maxRecDepth 100000 in
theorem z_checkR {l : Launch} {base q v : Nat} {i n : Int32} {t : Nat} (h0 : ¬ i < 0) (h1 : i < n) : ZM l base q v 0 0 29 [.int i, .int n, .ref t] (some (.int i)) := by
  refine ZM_of (zk_29) (fun p e R s m args below meth c hz S hR hr hk => ?_)
  have hS : va_S (fun z : Nat => base ≤ z) s.heap s.heap [] := va_S.rf
  have ho : s.vm.findClass "jdk/internal/util/Preconditions" = some m.cls := S.2.2.2.1
  have hl := lv_entry [.int i, .int n, .ref t] (n := xmx 29) (Nat.le_of_ble_eq_true rfl)
  rw [lg_entry_eq]
  refine lv_iload_n S.1 S.2.1 (k := 0) (i := 0) (show decode (xbc 29) 0 = .ok (.iload_n 0, 1) by decide +kernel) rfl (lv_at hl 0 rfl) ?_
  refine lv_if_lt S.1 S.2.1 (tgt := 9) (show decode (xbc 29) 1 = .ok (.ifCond .lt 8, 3) by decide +kernel) rfl (fun z => absurd z h0) (fun _ => ?_)
  refine lv_iload_n S.1 S.2.1 (k := 0) (i := 0) (show decode (xbc 29) 4 = .ok (.iload_n 0, 1) by decide +kernel) rfl (lv_at hl 0 rfl) ?_
  refine lv_iload_n S.1 S.2.1 (k := 1) (i := 1) (show decode (xbc 29) 5 = .ok (.iload_n 1, 1) by decide +kernel) rfl (lv_at hl 1 rfl) ?_
  refine lv_icmp_lt S.1 S.2.1 (tgt := 16) (show decode (xbc 29) 6 = .ok (.if_icmp .lt 10, 3) by decide +kernel) rfl (fun _ => ?_) (fun z => absurd h1 z)
  refine lv_iload_n S.1 S.2.1 (k := 0) (i := 0) (show decode (xbc 29) 16 = .ok (.iload_n 0, 1) by decide +kernel) rfl (lv_at hl 0 rfl) ?_
  exact W.zret (ty := .int) S.1 S.2.1 (hr.trans rfl) rfl (fun t ht _ => ⟨rfl, ht⟩) hS.2.2 (show decode (xbc 29) 17 = .ok (.ireturn, 1) by decide +kernel) hk
set_option maxRecDepth 100000 in
theorem z_check {l : Launch} {base q v : Nat} {i n : Int32} (h0 : ¬ i < 0) (h1 : i < n) : ZM l base q v 1 22 28 [.int i, .int n] (none) := by
  refine ZM_of (zk_28) (fun p e R s m args below meth c hz S hR hr hk => ?_)
  have hS : va_S (fun z : Nat => base ≤ z) s.heap s.heap [] := va_S.rf
  have ho : s.vm.findClass "java/lang/String" = some m.cls := S.2.2.2.1
  have hl := lv_entry [.int i, .int n] (n := xmx 28) (Nat.le_of_ble_eq_true rfl)
  rw [lg_entry_eq]
  refine lv_iload_n S.1 S.2.1 (k := 0) (i := 0) (show decode (xbc 28) 0 = .ok (.iload_n 0, 1) by decide +kernel) rfl (lv_at hl 0 rfl) ?_
  refine lv_iload_n S.1 S.2.1 (k := 1) (i := 1) (show decode (xbc 28) 1 = .ok (.iload_n 1, 1) by decide +kernel) rfl (lv_at hl 1 rfl) ?_
  have hfin : ∀ (ls : Array Slot) (locs' : List Loc), va_S (fun z : Nat => base ≤ z) s.heap s.heap locs' → W p l e R s m args below meth c s.heap locs' 0 0 (MQ below (fun _ st oc t => oc = .returned none ∧ t.heap = st.heap) args s 0 0 (fun z : Nat => base ≤ z)) (F0 m (5 + 3) ls ([.int i] ++ [])) := fun ls locs' hS => by
    refine lv_pop S.1 S.2.1 (show decode (xbc 28) 8 = .ok (.pop, 1) by decide +kernel) rfl ?_
    exact W.vret S.1 S.2.1 (hr.trans rfl) (fun t ht _ => ⟨rfl, ht⟩) hS.2.2 (show decode (xbc 28) 9 = .ok (.return_, 1) by decide +kernel) hk
  rcases hz.2.2.2 with hf | ⟨t, hf⟩
  · refine va_gets S.1 S.2.1 hf hS ho (S.2.2.2.2 _ zw_fm) (fun x h => h) (show decode (xbc 28) 2 = .ok (.getstatic 1053, 3) by decide +kernel) ?_
    exact Z_stat (as := [.int i, .int n, .null]) (rest := []) hz S hS zk_29 (z_checkN (t := 0) h0 h1) rfl zl_29 rfl (Nat.le_trans (by decide) hR.1) (Nat.le_trans (by decide) hR.2) hl.1 (Nat.le_of_ble_eq_true rfl) (show decode (xbc 28) 5 = .ok (.invokestatic 1059, 3) by decide +kernel) ⟨Nat.zero_le _, Nat.zero_le _⟩ (hfin _)
  · refine va_gets S.1 S.2.1 hf hS ho (S.2.2.2.2 _ zw_fm) (fun x h => h) (show decode (xbc 28) 2 = .ok (.getstatic 1053, 3) by decide +kernel) ?_
    exact Z_stat (as := [.int i, .int n, .ref t]) (rest := []) hz S hS zk_29 (z_checkR h0 h1) rfl zl_29 rfl (Nat.le_trans (by decide) hR.1) (Nat.le_trans (by decide) hR.2) hl.1 (Nat.le_of_ble_eq_true rfl) (show decode (xbc 28) 5 = .ok (.invokestatic 1059, 3) by decide +kernel) ⟨Nat.zero_le _, Nat.zero_le _⟩ (hfin _)
set_option maxRecDepth 100000 in
theorem z_lcharAt {l : Launch} {base q v : Nat} {i : Int32} (h0 : ¬ i < 0) (h1 : i < 105) (hi : vp_in i 105) : ZM l base q v 2 43 27 [.ref v, .int i] (some (.int (zch i))) := by
  refine ZM_of (zk_27) (fun p e R s m args below meth c hz S hR hr hk => ?_)
  have hS : va_S (fun z : Nat => base ≤ z) s.heap s.heap [] := va_S.rf
  have ho : s.vm.findClass "java/lang/StringLatin1" = some m.cls := S.2.2.2.1
  have hl := lv_entry [.ref v, .int i] (n := xmx 27) (Nat.le_of_ble_eq_true rfl)
  rw [lg_entry_eq]
  refine lv_iload_n S.1 S.2.1 (k := 1) (i := 1) (show decode (xbc 27) 0 = .ok (.iload_n 1, 1) by decide +kernel) rfl (lv_at hl 1 rfl) ?_
  refine lv_aload_n S.1 S.2.1 (k := 0) (i := 0) (show decode (xbc 27) 1 = .ok (.aload_n 0, 1) by decide +kernel) rfl (lv_at hl 0 rfl) ?_
  refine va_tlen S.1 S.2.1 (hz.2.1.1 0 (by decide)).2.2.2 hS (v := 105) rfl (show decode (xbc 27) 2 = .ok (.arraylength, 1) by decide +kernel) ?_
  refine Z_stat (as := [.int i, .int 105]) (rest := []) hz S hS zk_28 (z_check h0 h1) rfl zl_28 rfl (Nat.le_trans (by decide) hR.1) (Nat.le_trans (by decide) hR.2) hl.1 (Nat.le_of_ble_eq_true rfl) (show decode (xbc 27) 3 = .ok (.invokestatic 9, 3) by decide +kernel) ⟨Nat.zero_le _, Nat.zero_le _⟩ (fun locs0 hS => ?_)
  refine lv_aload_n S.1 S.2.1 (k := 0) (i := 0) (show decode (xbc 27) 6 = .ok (.aload_n 0, 1) by decide +kernel) rfl (lv_at hl 0 rfl) ?_
  refine lv_iload_n S.1 S.2.1 (k := 1) (i := 1) (show decode (xbc 27) 7 = .ok (.iload_n 1, 1) by decide +kernel) rfl (lv_at hl 1 rfl) ?_
  refine va_tb S.1 S.2.1 (hz.2.1.1 0 (by decide)).2.2.2 hS (i := i) hi (v := .int (zch i)) rfl (show decode (xbc 27) 8 = .ok (.baload, 1) by decide +kernel) ?_
  refine lv_sipush S.1 S.2.1 (v := 255) (show decode (xbc 27) 9 = .ok (.sipush 255, 3) by decide +kernel) rfl ?_
  refine lv_iand S.1 S.2.1 (show decode (xbc 27) 12 = .ok (.iand, 1) by decide +kernel) ?_
  refine lv_i2c S.1 S.2.1 (show decode (xbc 27) 13 = .ok (.i2c, 1) by decide +kernel) (v := zch i) (zby_1 _ (vp_lt0 hi)) ?_
  exact W.zret (ty := .char) S.1 S.2.1 (hr.trans rfl) (zby_2 _ (vp_lt0 hi)) (fun t ht _ => ⟨rfl, ht⟩) hS.2.2 (show decode (xbc 27) 14 = .ok (.ireturn, 1) by decide +kernel) hk
set_option maxRecDepth 100000 in
theorem z_charAt {l : Launch} {base q v : Nat} {i : Int32} (h0 : ¬ i < 0) (h1 : i < 105) (hi : vp_in i 105) : ZM l base q v 3 64 25 [.ref q, .int i] (some (.int (zch i))) := by
  refine ZM_of (zk_25) (fun p e R s m args below meth c hz S hR hr hk => ?_)
  have hS : va_S (fun z : Nat => base ≤ z) s.heap s.heap [] := va_S.rf
  have ho : s.vm.findClass "java/lang/String" = some m.cls := S.2.2.2.1
  have hl := lv_entry [.ref q, .int i] (n := xmx 25) (Nat.le_of_ble_eq_true rfl)
  rw [lg_entry_eq]
  refine lv_aload_n S.1 S.2.1 (k := 0) (i := 0) (show decode (xbc 25) 0 = .ok (.aload_n 0, 1) by decide +kernel) rfl (lv_at hl 0 rfl) ?_
  refine Z_virt (as := []) (rest := []) hz S hS zk_26 z_latin rfl zl_26 rfl rfl (Nat.le_trans (by decide) hR.1) (Nat.le_trans (by decide) hR.2) hl.1 (Nat.le_of_ble_eq_true rfl) (show decode (xbc 25) 1 = .ok (.invokevirtual 492, 3) by decide +kernel) ⟨Nat.zero_le _, Nat.zero_le _⟩ (fun locs0 hS => ?_)
  refine lv_if_eq S.1 S.2.1 (tgt := 16) (show decode (xbc 25) 4 = .ok (.ifCond .eq 12, 3) by decide +kernel) rfl (fun z => absurd z (by decide)) (fun _ => ?_)
  refine lv_aload_n S.1 S.2.1 (k := 0) (i := 0) (show decode (xbc 25) 7 = .ok (.aload_n 0, 1) by decide +kernel) rfl (lv_at hl 0 rfl) ?_
  refine vk_getf S.1 S.2.1 (hz.2.1.1 0 (by decide)).2.2.1 hS ho (S.2.2.2.2 _ zw_va) (fun x h => h) (show decode (xbc 25) 8 = .ok (.getfield 9, 3) by decide +kernel) ?_
  refine lv_iload_n S.1 S.2.1 (k := 1) (i := 1) (show decode (xbc 25) 11 = .ok (.iload_n 1, 1) by decide +kernel) rfl (lv_at hl 1 rfl) ?_
  refine Z_stat (as := [.ref v, .int i]) (rest := []) hz S hS zk_27 (z_lcharAt h0 h1 hi) rfl zl_27 rfl (Nat.le_trans (by decide) hR.1) (Nat.le_trans (by decide) hR.2) hl.1 (Nat.le_of_ble_eq_true rfl) (show decode (xbc 25) 12 = .ok (.invokestatic 495, 3) by decide +kernel) ⟨Nat.zero_le _, Nat.zero_le _⟩ (fun locs1 hS => ?_)
  exact W.zret (ty := .char) S.1 S.2.1 (hr.trans rfl) (zby_2 _ (vp_lt0 hi)) (fun t ht _ => ⟨rfl, ht⟩) hS.2.2 (show decode (xbc 25) 15 = .ok (.ireturn, 1) by decide +kernel) hk
section ZWord
variable {l : Launch} {fr lo n u : Nat} {full : Bool} {L st : List XV} {h : XH}
theorem XT_zlen (hL : L.length = 6) (hf : 2 ≤ fr) (hlo : 40 ≤ lo) (hw : xw st ≤ 8) : XT l fr lo full 22 n u 13 L st h 18 L (xi 105 :: st) h := by
  refine ⟨⟨Nat.le_refl _, Nat.le_refl _, fun _ _ z => z⟩, fun Ls xs N U F hN hU k => fun p e R s m args below meth c Q D cA base b ads0 u0 gz C hk => ?_⟩
  have kk := k p e R s m args below meth c Q D cA base b ads0 u0 gz C hk
  intro t H locs ls h1 h2 h3 h4 h5 h6
  obtain ⟨q, v, hz⟩ := C.1.2.2.2.2.2.2
  have S : CallFix p m c (xbc 22) (xmx 22) s args xT (xos (xow 22)) := ⟨C.2.1, C.2.2.1, C.2.2.2.1, C.2.2.2.2.1, C.2.2.2.2.2.1⟩
  refine va_ldcS C.2.1 C.2.2.1 (show s.vm.findClass "ScaleVote$Reader" = some m.cls from C.2.2.2.2.1) hz.1 (show decode (xbc 22) 13 = .ok (.ldc 238, 2) by decide +kernel) ?_
  exact Z_virt (as := []) (rest := st.map (xcv (ads0 ++ t) b)) hz S h2 zk_23 z_length rfl zl_23 rfl rfl (Nat.le_trans hf C.2.2.2.2.2.2.2.2.2.2.1) (Nat.le_trans hlo C.2.2.2.2.2.2.2.2.2.2.2.1) (h3.1.trans hL) (by rw [xw_cat]; exact hw) (show decode (xbc 22) 15 = .ok (.invokevirtual 240, 3) by decide +kernel) h6.2 (fun locs' hS => kk t H locs' ls h1 hS h3 h4 ⟨trivial, h5⟩ h6)
theorem XT_zchr {i : Int32} (hL : L.length = 6) (hg : xget L 4 = xi i) (hf : 4 ≤ fr) (hlo : 85 ≤ lo) (h0 : ¬ i < 0) (hi1 : i < 105) (hi : vp_in i 105) : XT l fr lo full 22 n u 21 L [] h 28 L [xi (zch i)] h := by
  refine ⟨⟨Nat.le_refl _, Nat.le_refl _, fun _ _ z => z⟩, fun Ls xs N U F hN hU k => fun p e R s m args below meth c Q D cA base b ads0 u0 gz C hk => ?_⟩
  have kk := k p e R s m args below meth c Q D cA base b ads0 u0 gz C hk
  intro t H locs ls h1 h2 h3 h4 h5 h6
  obtain ⟨q, v, hz⟩ := C.1.2.2.2.2.2.2
  have S : CallFix p m c (xbc 22) (xmx 22) s args xT (xos (xow 22)) := ⟨C.2.1, C.2.2.1, C.2.2.2.1, C.2.2.2.2.1, C.2.2.2.2.2.1⟩
  refine va_ldcS C.2.1 C.2.2.1 (show s.vm.findClass "ScaleVote$Reader" = some m.cls from C.2.2.2.2.1) hz.1 (show decode (xbc 22) 21 = .ok (.ldc 238, 2) by decide +kernel) ?_
  refine lv_iload C.2.1 C.2.2.1 (show decode (xbc 22) 23 = .ok (.iload 4, 2) by decide +kernel) (xlr_get h3 hg (fun z => by cases z)) ?_
  exact Z_virt (as := [.int i]) (rest := []) hz S h2 zk_25 (z_charAt h0 hi1 hi) rfl zl_25 rfl rfl (Nat.le_trans hf C.2.2.2.2.2.2.2.2.2.2.1) (Nat.le_trans hlo C.2.2.2.2.2.2.2.2.2.2.2.1) (h3.1.trans hL) (Nat.le_of_ble_eq_true rfl) (show decode (xbc 22) 25 = .ok (.invokevirtual 244, 3) by decide +kernel) h6.2 (fun locs' hS => kk t H locs' ls h1 hS h3 h4 ⟨trivial, trivial⟩ h6)
end ZWord
