/-! THE ROWS: what one encoded instruction does, of the machine. WX: from the frame at pc with locals L and stack st, the heap as h tells, the machine comes to Q. XC: what holds in the frame's method. -/
noncomputable def WX (p : Program) (l : Launch) (e : Env) (R : Room) (s : State) (m : MethodId) (args : Array Value) (below : List Frame) (meth : Method) (c : Code) (Q : State → Prop) (D : va_G) (cA : Nat → ClassId) (base b Ls : Nat) (xs : Nat → Int32) (full : Bool) (ads0 : List Nat) (u0 : Nat) (gz : Nat × Nat) (pc : Nat) (L st : List XV) (h : XH) : Prop :=
  ∀ (t : List Nat) (H : Heap) (locs : List Loc) (ls : Array Slot), xrel D cA base b Ls xs full (ads0 ++ t) h H → va_S (fun q : Nat => base ≤ q) s.heap H locs → xlr (ads0 ++ t) b ls L → xvl h L → xvs h st → (u0 ≤ xU h ∧ xN h + gz.1 - (ads0.length + 2) ≤ R.cells ∧ xU h + gz.2 - u0 ≤ R.slots) →
    W p l e R s m args below meth c H locs (xN h + gz.1 - (ads0.length + 2)) (xU h + gz.2 - u0) Q (F0 m pc ls (st.map (xcv (ads0 ++ t) b)))
/-- the constant of words: an ordinary String (its bytes, coder 0), and the statics that its methods look at -/
def zby : List Int32 := [114, 101, 103, 105, 111, 110, 32, 106, 111, 105, 110, 32, 112, 101, 114, 115, 111, 110, 32, 100, 101, 98, 116, 32, 116, 101, 97, 114, 32, 108, 97, 119, 32, 121, 97, 114, 100, 32, 103, 97, 105, 110, 32, 121, 105, 101, 108, 100, 32, 119, 97, 121, 32, 111, 114, 32, 97, 110, 100, 32, 110, 111, 116, 32, 115, 99, 97, 108, 101, 32, 115, 105, 122, 101, 32, 97, 114, 101, 97, 32, 108, 101, 110, 103, 116, 104, 32, 99, 114, 111, 119, 100, 32, 116, 111, 114, 110, 32, 115, 101, 97, 115, 111, 110, 32]
def zS (base q v : Nat) (U : State) (H : Heap) : Prop :=
  vk_R "ScaleVote$Reader" 238 "region join person debt tear law yard gain yield way or and not scale size area length crowd torn season " q U ∧ vk_S 1 [105] [zby] (fun _ => q) (fun _ => v) (fun z : Nat => base ≤ z) U H ∧ va_Z "java/lang/String" "COMPACT_STRINGS" "Z" (.int 1) (fun z : Nat => base ≤ z) U H ∧ va_Zq "jdk/internal/util/Preconditions" "SIOOBE_FORMATTER" "Ljava/util/function/BiFunction;" (fun z : Nat => base ≤ z) U H
theorem zS.warm {base q v : Nat} {s U : State} {H : Heap} (hW : s.WarmedH U.vm) (h : zS base q v s H) : zS base q v U H := ⟨vk_R.warm hW h.1, vk_S.moved hW.alike h.2.1, va_Z.moved hW.alike h.2.2.1, va_Zq.moved hW.alike h.2.2.2⟩
theorem zS.same {base q v : Nat} {s U : State} {H : Heap} (hv : U.vm = s.vm) (h : zS base q v s H) : zS base q v U H := by
  have ha : s.vm.Alike U.vm := by rw [hv]; exact Vm.Alike.refl s.vm
  exact ⟨vk_R.same hv h.1, vk_S.moved ha h.2.1, va_Z.moved ha h.2.2.1, va_Zq.moved ha h.2.2.2⟩
theorem zS.kept {base q v : Nat} {s : State} {H H1 : Heap} (h : zS base q v s H) (hq : ∀ a : Nat, a < H.size → ¬ base ≤ a → H1[a]? = H[a]?) : zS base q v s H1 := ⟨h.1, h.2.1.kept hq, h.2.2.1.kept hq, h.2.2.2.kept hq⟩
/-- what throwing needs of the launch and of the heap that was there -/
noncomputable def XZ (l : Launch) (base : Nat) (U : State) (H : Heap) : Prop :=
  l.stackTraces = false ∧ (vx_Zq Bundle.tN "UNASSIGNED_STACK" Bundle.steD (fun q : Nat => base ≤ q) U H ∧ vx_Zq Bundle.tN "SUPPRESSED_SENTINEL" Bundle.listD (fun q : Nat => base ≤ q) U H) ∧ (∀ e ∈ xzs, ∃ sa : Nat, vk_R "ScaleVote" e.1 e.2 sa U) ∧ (∀ x ∈ xzd, va_Nw (.declares x) U) ∧ (∀ q ∈ xzc, va_Nw (.castable q q) U) ∧ va_Nc "java/util/NoSuchElementException" "java/lang/IndexOutOfBoundsException" U ∧ ∃ q v : Nat, zS base q v U H
theorem XZ.warm {l : Launch} {base : Nat} {s U : State} {H : Heap} (hW : s.WarmedH U.vm) (h : XZ l base s H) : XZ l base U H := ⟨h.1, ⟨vx_Zq.moved hW.alike h.2.1.1, vx_Zq.moved hW.alike h.2.1.2⟩, fun e he => (h.2.2.1 e he).imp fun _ z => vk_R.warm hW z, fun x hx => va_Nw.warmD hW (h.2.2.2.1 x hx), fun q hq => va_Nw.warmC hW (h.2.2.2.2.1 q hq), va_Nc.moved hW.alike h.2.2.2.2.2.1, h.2.2.2.2.2.2.imp fun _ z => z.imp fun _ z => zS.warm hW z⟩
theorem XZ.same {l : Launch} {base : Nat} {s U : State} {H : Heap} (hv : U.vm = s.vm) (h : XZ l base s H) : XZ l base U H := by
  have ha : s.vm.Alike U.vm := by rw [hv]; exact Vm.Alike.refl s.vm
  exact ⟨h.1, ⟨vx_Zq.moved ha h.2.1.1, vx_Zq.moved ha h.2.1.2⟩, fun e he => (h.2.2.1 e he).imp fun _ z => vk_R.same hv z, fun x hx => va_Nw.same rfl hv.symm (h.2.2.2.1 x hx), fun q hq => va_Nw.same rfl hv.symm (h.2.2.2.2.1 q hq), va_Nc.moved ha h.2.2.2.2.2.1, h.2.2.2.2.2.2.imp fun _ z => z.imp fun _ z => zS.same hv z⟩
theorem XZ.kept {l : Launch} {base : Nat} {s : State} {H H1 : Heap} (h : XZ l base s H) (hq : ∀ a : Nat, a < H.size → ¬ base ≤ a → H1[a]? = H[a]?) : XZ l base s H1 := ⟨h.1, ⟨h.2.1.1.kept hq, h.2.1.2.kept hq⟩, h.2.2.1, h.2.2.2.1, h.2.2.2.2.1, h.2.2.2.2.2.1, h.2.2.2.2.2.2.imp fun _ z => z.imp fun _ z => zS.kept z hq⟩
def xtys (cA : Nat → ClassId) : List (ClassId × FieldType) := [(cA 0, .int), (cA 1, .byte), (cA 2, .boolean), (cA 3, .long)]
noncomputable def XC (M N U Ls fr lo : Nat) (p : Program) (l : Launch) (e : Env) (R : Room) (s : State) (m : MethodId) (args : Array Value) (below : List Frame) (meth : Method) (c : Code) (D : va_G) (cA : Nat → ClassId) (base b : Nat) (xs : Nat → Int32) (ads0 : List Nat) (u0 : Nat) (gz : Nat × Nat) : Prop :=
  XZ l base s s.heap ∧ p.tables.exec = Jvm.exec ∧ c.code = xbc M ∧ c.maxLocals = xmx M ∧ s.vm.findClass (xos (xow M)) = some m.cls ∧ (∀ w ∈ xT, w.before args s = true) ∧ ((xnm M).name = "<init>" → meth.name = "<init>") ∧ va_K D xcl (xtys cA) s ∧ (∀ w ∈ xNw, va_Nw w s) ∧
  (va_X b Ls xs s s.heap ∧ b < base ∧ base ≤ s.heap.size) ∧ (fr ≤ R.frames ∧ lo ≤ R.locals ∧ N + gz.1 ≤ ads0.length + 2 + R.cells ∧ U + gz.2 ≤ u0 + R.slots)
theorem xdecode {M pc : Nat} {i : Instr} {aux nx : Nat} (hi : xins M pc = some (i, aux, nx)) : ∃ q ∈ xraw M pc i aux nx, nx = pc + q.2 ∧ decode (xbc M) pc = .ok q := by
  have hk := xk M pc
  unfold xchk at hk
  rw [hi] at hk
  obtain ⟨q, hq, hz⟩ := List.any_eq_true.mp hk
  rw [Bool.and_eq_true] at hz
  refine ⟨q, hq, Nat.eq_of_beq_eq_true hz.1, ?_⟩
  have h2 := hz.2
  unfold xdec at h2
  split at h2
  · rename_i r hr
    rw [hr, of_decide_eq_true h2]
  · cases h2
theorem xbif {α : Type} {d : Bool} {x q : α} (h : q ∈ (bif d then [x] else [])) : d = true ∧ q = x := by
  cases d with
  | false => exact absurd h List.not_mem_nil
  | true => exact ⟨rfl, List.mem_singleton.mp h⟩
theorem xbif2 {α : Type} {d : Bool} {l : List α} {q : α} (h : q ∈ (bif d then l else [])) : d = true ∧ q ∈ l := by
  cases d with
  | false => exact absurd h List.not_mem_nil
  | true => exact ⟨rfl, h⟩
/-- what hangs on the numbers alone: a list of the tables' rows, by a test -/
theorem xfilt {α β : Type} {l : List α} {f : α → Bool} {g : α → β} {q : β} (h : q ∈ (l.filter f).map g) : ∃ x ∈ l, f x = true ∧ q = g x := by
  obtain ⟨x, hx, rfl⟩ := List.mem_map.mp h
  exact ⟨x, (List.mem_filter.mp hx).1, (List.mem_filter.mp hx).2, rfl⟩
theorem xgood_spec {w : Cond} {i : Nat} (h : xgood (some w) i = true) : w ∈ xT := by
  unfold xgood at h
  rw [Bool.and_eq_true] at h
  exact xT_tb (of_decide_eq_true h.2) h.1

section XRows
variable {p : Program} {l : Launch} {e : Env} {R : Room} {s : State} {m : MethodId} {args : Array Value} {below : List Frame} {meth : Method} {c : Code} {Q : State → Prop}
variable {D : va_G} {cA : Nat → ClassId} {base b Ls : Nat} {xs : Nat → Int32} {full : Bool} {ads0 : List Nat} {gz : Nat × Nat} {u0 N U fr lo M pc aux nx : Nat} {L st : List XV} {h : XH} {o : List Nat} {acc : Prop} {r : XP} {sc : XSc}

theorem xo_iadd (C : XC M N U Ls fr lo p l e R s m args below meth c D cA base b xs ads0 u0 gz) (hi : xins M pc = some (.iadd, aux, nx)) (hs : xd_iadd nx L st h o acc = some r) (ha : r.2.2.2.2.2) (k : WX p l e R s m args below meth c Q D cA base b Ls xs full ads0 u0 gz r.1 r.2.1 r.2.2.1 r.2.2.2.1) : acc ∧ WX p l e R s m args below meth c Q D cA base b Ls xs full ads0 u0 gz pc L st h := by
  obtain ⟨q, hq, hn, hd⟩ := xdecode hi
  have hq : q ∈ [(.iadd, 1)] := hq
  obtain rfl := List.mem_singleton.mp hq
  subst hn
  unfold xd_iadd at hs
  split at hs
  · obtain rfl := Option.some.inj hs
    exact ⟨ha, fun t H locs ls h1 h2 h3 h4 h5 h6 => lv_iadd C.2.1 C.2.2.1 hd (k t H locs ls h1 h2 h3 h4 ⟨trivial, h5.2.2⟩ h6)⟩
  · cases hs

theorem xo_isub (C : XC M N U Ls fr lo p l e R s m args below meth c D cA base b xs ads0 u0 gz) (hi : xins M pc = some (.isub, aux, nx)) (hs : xd_isub nx L st h o acc = some r) (ha : r.2.2.2.2.2) (k : WX p l e R s m args below meth c Q D cA base b Ls xs full ads0 u0 gz r.1 r.2.1 r.2.2.1 r.2.2.2.1) : acc ∧ WX p l e R s m args below meth c Q D cA base b Ls xs full ads0 u0 gz pc L st h := by
  obtain ⟨q, hq, hn, hd⟩ := xdecode hi
  have hq : q ∈ [(.isub, 1)] := hq
  obtain rfl := List.mem_singleton.mp hq
  subst hn
  unfold xd_isub at hs
  split at hs
  · obtain rfl := Option.some.inj hs
    exact ⟨ha, fun t H locs ls h1 h2 h3 h4 h5 h6 => lv_isub C.2.1 C.2.2.1 hd (k t H locs ls h1 h2 h3 h4 ⟨trivial, h5.2.2⟩ h6)⟩
  · cases hs

theorem xo_imul (C : XC M N U Ls fr lo p l e R s m args below meth c D cA base b xs ads0 u0 gz) (hi : xins M pc = some (.imul, aux, nx)) (hs : xd_imul nx L st h o acc = some r) (ha : r.2.2.2.2.2) (k : WX p l e R s m args below meth c Q D cA base b Ls xs full ads0 u0 gz r.1 r.2.1 r.2.2.1 r.2.2.2.1) : acc ∧ WX p l e R s m args below meth c Q D cA base b Ls xs full ads0 u0 gz pc L st h := by
  obtain ⟨q, hq, hn, hd⟩ := xdecode hi
  have hq : q ∈ [(.imul, 1)] := hq
  obtain rfl := List.mem_singleton.mp hq
  subst hn
  unfold xd_imul at hs
  split at hs
  · obtain rfl := Option.some.inj hs
    exact ⟨ha, fun t H locs ls h1 h2 h3 h4 h5 h6 => lv_imul C.2.1 C.2.2.1 hd (k t H locs ls h1 h2 h3 h4 ⟨trivial, h5.2.2⟩ h6)⟩
  · cases hs

theorem xo_iand (C : XC M N U Ls fr lo p l e R s m args below meth c D cA base b xs ads0 u0 gz) (hi : xins M pc = some (.iand, aux, nx)) (hs : xd_iand nx L st h o acc = some r) (ha : r.2.2.2.2.2) (k : WX p l e R s m args below meth c Q D cA base b Ls xs full ads0 u0 gz r.1 r.2.1 r.2.2.1 r.2.2.2.1) : acc ∧ WX p l e R s m args below meth c Q D cA base b Ls xs full ads0 u0 gz pc L st h := by
  obtain ⟨q, hq, hn, hd⟩ := xdecode hi
  have hq : q ∈ [(.iand, 1)] := hq
  obtain rfl := List.mem_singleton.mp hq
  subst hn
  unfold xd_iand at hs
  split at hs
  · obtain rfl := Option.some.inj hs
    exact ⟨ha, fun t H locs ls h1 h2 h3 h4 h5 h6 => lv_iand C.2.1 C.2.2.1 hd (k t H locs ls h1 h2 h3 h4 ⟨trivial, h5.2.2⟩ h6)⟩
  · cases hs

theorem xo_ior (C : XC M N U Ls fr lo p l e R s m args below meth c D cA base b xs ads0 u0 gz) (hi : xins M pc = some (.ior, aux, nx)) (hs : xd_ior nx L st h o acc = some r) (ha : r.2.2.2.2.2) (k : WX p l e R s m args below meth c Q D cA base b Ls xs full ads0 u0 gz r.1 r.2.1 r.2.2.1 r.2.2.2.1) : acc ∧ WX p l e R s m args below meth c Q D cA base b Ls xs full ads0 u0 gz pc L st h := by
  obtain ⟨q, hq, hn, hd⟩ := xdecode hi
  have hq : q ∈ [(.ior, 1)] := hq
  obtain rfl := List.mem_singleton.mp hq
  subst hn
  unfold xd_ior at hs
  split at hs
  · obtain rfl := Option.some.inj hs
    exact ⟨ha, fun t H locs ls h1 h2 h3 h4 h5 h6 => lv_ior C.2.1 C.2.2.1 hd (k t H locs ls h1 h2 h3 h4 ⟨trivial, h5.2.2⟩ h6)⟩
  · cases hs

theorem xo_ixor (C : XC M N U Ls fr lo p l e R s m args below meth c D cA base b xs ads0 u0 gz) (hi : xins M pc = some (.ixor, aux, nx)) (hs : xd_ixor nx L st h o acc = some r) (ha : r.2.2.2.2.2) (k : WX p l e R s m args below meth c Q D cA base b Ls xs full ads0 u0 gz r.1 r.2.1 r.2.2.1 r.2.2.2.1) : acc ∧ WX p l e R s m args below meth c Q D cA base b Ls xs full ads0 u0 gz pc L st h := by
  obtain ⟨q, hq, hn, hd⟩ := xdecode hi
  have hq : q ∈ [(.ixor, 1)] := hq
  obtain rfl := List.mem_singleton.mp hq
  subst hn
  unfold xd_ixor at hs
  split at hs
  · obtain rfl := Option.some.inj hs
    exact ⟨ha, fun t H locs ls h1 h2 h3 h4 h5 h6 => lv_ixor C.2.1 C.2.2.1 hd (k t H locs ls h1 h2 h3 h4 ⟨trivial, h5.2.2⟩ h6)⟩
  · cases hs

theorem xo_ishl (C : XC M N U Ls fr lo p l e R s m args below meth c D cA base b xs ads0 u0 gz) (hi : xins M pc = some (.ishl, aux, nx)) (hs : xd_ishl nx L st h o acc = some r) (ha : r.2.2.2.2.2) (k : WX p l e R s m args below meth c Q D cA base b Ls xs full ads0 u0 gz r.1 r.2.1 r.2.2.1 r.2.2.2.1) : acc ∧ WX p l e R s m args below meth c Q D cA base b Ls xs full ads0 u0 gz pc L st h := by
  obtain ⟨q, hq, hn, hd⟩ := xdecode hi
  have hq : q ∈ [(.ishl, 1)] := hq
  obtain rfl := List.mem_singleton.mp hq
  subst hn
  unfold xd_ishl at hs
  split at hs
  · obtain rfl := Option.some.inj hs
    exact ⟨ha, fun t H locs ls h1 h2 h3 h4 h5 h6 => lv_ishl C.2.1 C.2.2.1 hd (k t H locs ls h1 h2 h3 h4 ⟨trivial, h5.2.2⟩ h6)⟩
  · cases hs

theorem xo_ishr (C : XC M N U Ls fr lo p l e R s m args below meth c D cA base b xs ads0 u0 gz) (hi : xins M pc = some (.ishr, aux, nx)) (hs : xd_ishr nx L st h o acc = some r) (ha : r.2.2.2.2.2) (k : WX p l e R s m args below meth c Q D cA base b Ls xs full ads0 u0 gz r.1 r.2.1 r.2.2.1 r.2.2.2.1) : acc ∧ WX p l e R s m args below meth c Q D cA base b Ls xs full ads0 u0 gz pc L st h := by
  obtain ⟨q, hq, hn, hd⟩ := xdecode hi
  have hq : q ∈ [(.ishr, 1)] := hq
  obtain rfl := List.mem_singleton.mp hq
  subst hn
  unfold xd_ishr at hs
  split at hs
  · obtain rfl := Option.some.inj hs
    exact ⟨ha, fun t H locs ls h1 h2 h3 h4 h5 h6 => lv_ishr C.2.1 C.2.2.1 hd (k t H locs ls h1 h2 h3 h4 ⟨trivial, h5.2.2⟩ h6)⟩
  · cases hs

theorem xo_ladd (C : XC M N U Ls fr lo p l e R s m args below meth c D cA base b xs ads0 u0 gz) (hi : xins M pc = some (.ladd, aux, nx)) (hs : xd_ladd nx L st h o acc = some r) (ha : r.2.2.2.2.2) (k : WX p l e R s m args below meth c Q D cA base b Ls xs full ads0 u0 gz r.1 r.2.1 r.2.2.1 r.2.2.2.1) : acc ∧ WX p l e R s m args below meth c Q D cA base b Ls xs full ads0 u0 gz pc L st h := by
  obtain ⟨q, hq, hn, hd⟩ := xdecode hi
  have hq : q ∈ [(.ladd, 1)] := hq
  obtain rfl := List.mem_singleton.mp hq
  subst hn
  unfold xd_ladd at hs
  split at hs
  · obtain rfl := Option.some.inj hs
    exact ⟨ha, fun t H locs ls h1 h2 h3 h4 h5 h6 => lv_ladd C.2.1 C.2.2.1 hd (k t H locs ls h1 h2 h3 h4 ⟨trivial, h5.2.2⟩ h6)⟩
  · cases hs

theorem xo_lsub (C : XC M N U Ls fr lo p l e R s m args below meth c D cA base b xs ads0 u0 gz) (hi : xins M pc = some (.lsub, aux, nx)) (hs : xd_lsub nx L st h o acc = some r) (ha : r.2.2.2.2.2) (k : WX p l e R s m args below meth c Q D cA base b Ls xs full ads0 u0 gz r.1 r.2.1 r.2.2.1 r.2.2.2.1) : acc ∧ WX p l e R s m args below meth c Q D cA base b Ls xs full ads0 u0 gz pc L st h := by
  obtain ⟨q, hq, hn, hd⟩ := xdecode hi
  have hq : q ∈ [(.lsub, 1)] := hq
  obtain rfl := List.mem_singleton.mp hq
  subst hn
  unfold xd_lsub at hs
  split at hs
  · obtain rfl := Option.some.inj hs
    exact ⟨ha, fun t H locs ls h1 h2 h3 h4 h5 h6 => lv_lsub C.2.1 C.2.2.1 hd (k t H locs ls h1 h2 h3 h4 ⟨trivial, h5.2.2⟩ h6)⟩
  · cases hs

theorem xo_lmul (C : XC M N U Ls fr lo p l e R s m args below meth c D cA base b xs ads0 u0 gz) (hi : xins M pc = some (.lmul, aux, nx)) (hs : xd_lmul nx L st h o acc = some r) (ha : r.2.2.2.2.2) (k : WX p l e R s m args below meth c Q D cA base b Ls xs full ads0 u0 gz r.1 r.2.1 r.2.2.1 r.2.2.2.1) : acc ∧ WX p l e R s m args below meth c Q D cA base b Ls xs full ads0 u0 gz pc L st h := by
  obtain ⟨q, hq, hn, hd⟩ := xdecode hi
  have hq : q ∈ [(.lmul, 1)] := hq
  obtain rfl := List.mem_singleton.mp hq
  subst hn
  unfold xd_lmul at hs
  split at hs
  · obtain rfl := Option.some.inj hs
    exact ⟨ha, fun t H locs ls h1 h2 h3 h4 h5 h6 => lv_lmul C.2.1 C.2.2.1 hd (k t H locs ls h1 h2 h3 h4 ⟨trivial, h5.2.2⟩ h6)⟩
  · cases hs

theorem xo_land (C : XC M N U Ls fr lo p l e R s m args below meth c D cA base b xs ads0 u0 gz) (hi : xins M pc = some (.land, aux, nx)) (hs : xd_land nx L st h o acc = some r) (ha : r.2.2.2.2.2) (k : WX p l e R s m args below meth c Q D cA base b Ls xs full ads0 u0 gz r.1 r.2.1 r.2.2.1 r.2.2.2.1) : acc ∧ WX p l e R s m args below meth c Q D cA base b Ls xs full ads0 u0 gz pc L st h := by
  obtain ⟨q, hq, hn, hd⟩ := xdecode hi
  have hq : q ∈ [(.land, 1)] := hq
  obtain rfl := List.mem_singleton.mp hq
  subst hn
  unfold xd_land at hs
  split at hs
  · obtain rfl := Option.some.inj hs
    exact ⟨ha, fun t H locs ls h1 h2 h3 h4 h5 h6 => lv_land C.2.1 C.2.2.1 hd (k t H locs ls h1 h2 h3 h4 ⟨trivial, h5.2.2⟩ h6)⟩
  · cases hs

theorem xo_lxor (C : XC M N U Ls fr lo p l e R s m args below meth c D cA base b xs ads0 u0 gz) (hi : xins M pc = some (.lxor, aux, nx)) (hs : xd_lxor nx L st h o acc = some r) (ha : r.2.2.2.2.2) (k : WX p l e R s m args below meth c Q D cA base b Ls xs full ads0 u0 gz r.1 r.2.1 r.2.2.1 r.2.2.2.1) : acc ∧ WX p l e R s m args below meth c Q D cA base b Ls xs full ads0 u0 gz pc L st h := by
  obtain ⟨q, hq, hn, hd⟩ := xdecode hi
  have hq : q ∈ [(.lxor, 1)] := hq
  obtain rfl := List.mem_singleton.mp hq
  subst hn
  unfold xd_lxor at hs
  split at hs
  · obtain rfl := Option.some.inj hs
    exact ⟨ha, fun t H locs ls h1 h2 h3 h4 h5 h6 => lv_lxor C.2.1 C.2.2.1 hd (k t H locs ls h1 h2 h3 h4 ⟨trivial, h5.2.2⟩ h6)⟩
  · cases hs

theorem xo_iushr (C : XC M N U Ls fr lo p l e R s m args below meth c D cA base b xs ads0 u0 gz) (hi : xins M pc = some (.iushr, aux, nx)) (hs : xd_iushr nx L st h o acc = some r) (ha : r.2.2.2.2.2) (k : WX p l e R s m args below meth c Q D cA base b Ls xs full ads0 u0 gz r.1 r.2.1 r.2.2.1 r.2.2.2.1) : acc ∧ WX p l e R s m args below meth c Q D cA base b Ls xs full ads0 u0 gz pc L st h := by
  obtain ⟨q, hq, hn, hd⟩ := xdecode hi
  have hq : q ∈ [(.iushr, 1)] := hq
  obtain rfl := List.mem_singleton.mp hq
  subst hn
  unfold xd_iushr at hs
  split at hs
  · obtain rfl := Option.some.inj hs
    exact ⟨ha, fun t H locs ls h1 h2 h3 h4 h5 h6 => lv_iushr C.2.1 C.2.2.1 hd rfl (k t H locs ls h1 h2 h3 h4 ⟨trivial, h5.2.2⟩ h6)⟩
  · cases hs

theorem xo_idiv (C : XC M N U Ls fr lo p l e R s m args below meth c D cA base b xs ads0 u0 gz) (hi : xins M pc = some (.idiv, aux, nx)) (hs : xd_idiv nx L st h o acc = some r) (ha : r.2.2.2.2.2) (k : WX p l e R s m args below meth c Q D cA base b Ls xs full ads0 u0 gz r.1 r.2.1 r.2.2.1 r.2.2.2.1) : acc ∧ WX p l e R s m args below meth c Q D cA base b Ls xs full ads0 u0 gz pc L st h := by
  obtain ⟨q, hq, hn, hd⟩ := xdecode hi
  have hq : q ∈ [(.idiv, 1)] := hq
  obtain rfl := List.mem_singleton.mp hq
  subst hn
  unfold xd_idiv at hs
  split at hs
  · obtain rfl := Option.some.inj hs
    exact ⟨ha.1, fun t H locs ls h1 h2 h3 h4 h5 h6 => lv_idiv C.2.1 C.2.2.1 hd ha.2 (k t H locs ls h1 h2 h3 h4 ⟨trivial, h5.2.2⟩ h6)⟩
  · cases hs

theorem xo_irem (C : XC M N U Ls fr lo p l e R s m args below meth c D cA base b xs ads0 u0 gz) (hi : xins M pc = some (.irem, aux, nx)) (hs : xd_irem nx L st h o acc = some r) (ha : r.2.2.2.2.2) (k : WX p l e R s m args below meth c Q D cA base b Ls xs full ads0 u0 gz r.1 r.2.1 r.2.2.1 r.2.2.2.1) : acc ∧ WX p l e R s m args below meth c Q D cA base b Ls xs full ads0 u0 gz pc L st h := by
  obtain ⟨q, hq, hn, hd⟩ := xdecode hi
  have hq : q ∈ [(.irem, 1)] := hq
  obtain rfl := List.mem_singleton.mp hq
  subst hn
  unfold xd_irem at hs
  split at hs
  · obtain rfl := Option.some.inj hs
    exact ⟨ha.1, fun t H locs ls h1 h2 h3 h4 h5 h6 => lv_irem C.2.1 C.2.2.1 hd ha.2 (k t H locs ls h1 h2 h3 h4 ⟨trivial, h5.2.2⟩ h6)⟩
  · cases hs

theorem xo_ldiv (C : XC M N U Ls fr lo p l e R s m args below meth c D cA base b xs ads0 u0 gz) (hi : xins M pc = some (.ldiv, aux, nx)) (hs : xd_ldiv nx L st h o acc = some r) (ha : r.2.2.2.2.2) (k : WX p l e R s m args below meth c Q D cA base b Ls xs full ads0 u0 gz r.1 r.2.1 r.2.2.1 r.2.2.2.1) : acc ∧ WX p l e R s m args below meth c Q D cA base b Ls xs full ads0 u0 gz pc L st h := by
  obtain ⟨q, hq, hn, hd⟩ := xdecode hi
  have hq : q ∈ [(.ldiv, 1)] := hq
  obtain rfl := List.mem_singleton.mp hq
  subst hn
  unfold xd_ldiv at hs
  split at hs
  · obtain rfl := Option.some.inj hs
    exact ⟨ha.1, fun t H locs ls h1 h2 h3 h4 h5 h6 => lv_ldiv C.2.1 C.2.2.1 hd ha.2 (k t H locs ls h1 h2 h3 h4 ⟨trivial, h5.2.2⟩ h6)⟩
  · cases hs

theorem xo_lrem (C : XC M N U Ls fr lo p l e R s m args below meth c D cA base b xs ads0 u0 gz) (hi : xins M pc = some (.lrem, aux, nx)) (hs : xd_lrem nx L st h o acc = some r) (ha : r.2.2.2.2.2) (k : WX p l e R s m args below meth c Q D cA base b Ls xs full ads0 u0 gz r.1 r.2.1 r.2.2.1 r.2.2.2.1) : acc ∧ WX p l e R s m args below meth c Q D cA base b Ls xs full ads0 u0 gz pc L st h := by
  obtain ⟨q, hq, hn, hd⟩ := xdecode hi
  have hq : q ∈ [(.lrem, 1)] := hq
  obtain rfl := List.mem_singleton.mp hq
  subst hn
  unfold xd_lrem at hs
  split at hs
  · obtain rfl := Option.some.inj hs
    exact ⟨ha.1, fun t H locs ls h1 h2 h3 h4 h5 h6 => lv_lrem C.2.1 C.2.2.1 hd ha.2 (k t H locs ls h1 h2 h3 h4 ⟨trivial, h5.2.2⟩ h6)⟩
  · cases hs

theorem xo_lcmp (C : XC M N U Ls fr lo p l e R s m args below meth c D cA base b xs ads0 u0 gz) (hi : xins M pc = some (.lcmp, aux, nx)) (hs : xd_lcmp nx L st h o acc = some r) (ha : r.2.2.2.2.2) (k : WX p l e R s m args below meth c Q D cA base b Ls xs full ads0 u0 gz r.1 r.2.1 r.2.2.1 r.2.2.2.1) : acc ∧ WX p l e R s m args below meth c Q D cA base b Ls xs full ads0 u0 gz pc L st h := by
  obtain ⟨q, hq, hn, hd⟩ := xdecode hi
  have hq : q ∈ [(.lcmp, 1)] := hq
  obtain rfl := List.mem_singleton.mp hq
  subst hn
  unfold xd_lcmp at hs
  split at hs
  · obtain rfl := Option.some.inj hs
    exact ⟨ha, fun t H locs ls h1 h2 h3 h4 h5 h6 => W.lcmp C.2.1 C.2.2.1 hd (k t H locs ls h1 h2 h3 h4 ⟨trivial, h5.2.2⟩ h6)⟩
  · cases hs

theorem xo_ineg (C : XC M N U Ls fr lo p l e R s m args below meth c D cA base b xs ads0 u0 gz) (hi : xins M pc = some (.ineg, aux, nx)) (hs : xd_ineg nx L st h o acc = some r) (ha : r.2.2.2.2.2) (k : WX p l e R s m args below meth c Q D cA base b Ls xs full ads0 u0 gz r.1 r.2.1 r.2.2.1 r.2.2.2.1) : acc ∧ WX p l e R s m args below meth c Q D cA base b Ls xs full ads0 u0 gz pc L st h := by
  obtain ⟨q, hq, hn, hd⟩ := xdecode hi
  have hq : q ∈ [(.ineg, 1)] := hq
  obtain rfl := List.mem_singleton.mp hq
  subst hn
  unfold xd_ineg at hs
  split at hs
  · obtain rfl := Option.some.inj hs
    exact ⟨ha, fun t H locs ls h1 h2 h3 h4 h5 h6 => lv_ineg C.2.1 C.2.2.1 hd (k t H locs ls h1 h2 h3 h4 ⟨trivial, h5.2⟩ h6)⟩
  · cases hs

theorem xo_lneg (C : XC M N U Ls fr lo p l e R s m args below meth c D cA base b xs ads0 u0 gz) (hi : xins M pc = some (.lneg, aux, nx)) (hs : xd_lneg nx L st h o acc = some r) (ha : r.2.2.2.2.2) (k : WX p l e R s m args below meth c Q D cA base b Ls xs full ads0 u0 gz r.1 r.2.1 r.2.2.1 r.2.2.2.1) : acc ∧ WX p l e R s m args below meth c Q D cA base b Ls xs full ads0 u0 gz pc L st h := by
  obtain ⟨q, hq, hn, hd⟩ := xdecode hi
  have hq : q ∈ [(.lneg, 1)] := hq
  obtain rfl := List.mem_singleton.mp hq
  subst hn
  unfold xd_lneg at hs
  split at hs
  · obtain rfl := Option.some.inj hs
    exact ⟨ha, fun t H locs ls h1 h2 h3 h4 h5 h6 => lv_lneg C.2.1 C.2.2.1 hd (k t H locs ls h1 h2 h3 h4 ⟨trivial, h5.2⟩ h6)⟩
  · cases hs

theorem xo_i2l (C : XC M N U Ls fr lo p l e R s m args below meth c D cA base b xs ads0 u0 gz) (hi : xins M pc = some (.i2l, aux, nx)) (hs : xd_i2l nx L st h o acc = some r) (ha : r.2.2.2.2.2) (k : WX p l e R s m args below meth c Q D cA base b Ls xs full ads0 u0 gz r.1 r.2.1 r.2.2.1 r.2.2.2.1) : acc ∧ WX p l e R s m args below meth c Q D cA base b Ls xs full ads0 u0 gz pc L st h := by
  obtain ⟨q, hq, hn, hd⟩ := xdecode hi
  have hq : q ∈ [(.i2l, 1)] := hq
  obtain rfl := List.mem_singleton.mp hq
  subst hn
  unfold xd_i2l at hs
  split at hs
  · obtain rfl := Option.some.inj hs
    exact ⟨ha, fun t H locs ls h1 h2 h3 h4 h5 h6 => lv_i2l C.2.1 C.2.2.1 hd rfl (k t H locs ls h1 h2 h3 h4 ⟨trivial, h5.2⟩ h6)⟩
  · cases hs

theorem xo_l2i (C : XC M N U Ls fr lo p l e R s m args below meth c D cA base b xs ads0 u0 gz) (hi : xins M pc = some (.l2i, aux, nx)) (hs : xd_l2i nx L st h o acc = some r) (ha : r.2.2.2.2.2) (k : WX p l e R s m args below meth c Q D cA base b Ls xs full ads0 u0 gz r.1 r.2.1 r.2.2.1 r.2.2.2.1) : acc ∧ WX p l e R s m args below meth c Q D cA base b Ls xs full ads0 u0 gz pc L st h := by
  obtain ⟨q, hq, hn, hd⟩ := xdecode hi
  have hq : q ∈ [(.l2i, 1)] := hq
  obtain rfl := List.mem_singleton.mp hq
  subst hn
  unfold xd_l2i at hs
  split at hs
  · obtain rfl := Option.some.inj hs
    exact ⟨ha, fun t H locs ls h1 h2 h3 h4 h5 h6 => lv_l2i C.2.1 C.2.2.1 hd rfl (k t H locs ls h1 h2 h3 h4 ⟨trivial, h5.2⟩ h6)⟩
  · cases hs

theorem xo_i2b (C : XC M N U Ls fr lo p l e R s m args below meth c D cA base b xs ads0 u0 gz) (hi : xins M pc = some (.i2b, aux, nx)) (hs : xd_i2b nx L st h o acc = some r) (ha : r.2.2.2.2.2) (k : WX p l e R s m args below meth c Q D cA base b Ls xs full ads0 u0 gz r.1 r.2.1 r.2.2.1 r.2.2.2.1) : acc ∧ WX p l e R s m args below meth c Q D cA base b Ls xs full ads0 u0 gz pc L st h := by
  obtain ⟨q, hq, hn, hd⟩ := xdecode hi
  have hq : q ∈ [(.i2b, 1)] := hq
  obtain rfl := List.mem_singleton.mp hq
  subst hn
  unfold xd_i2b at hs
  split at hs
  · obtain rfl := Option.some.inj hs
    exact ⟨ha, fun t H locs ls h1 h2 h3 h4 h5 h6 => lv_i2b C.2.1 C.2.2.1 hd rfl (k t H locs ls h1 h2 h3 h4 ⟨trivial, h5.2⟩ h6)⟩
  · cases hs

theorem xo_dup (C : XC M N U Ls fr lo p l e R s m args below meth c D cA base b xs ads0 u0 gz) (hi : xins M pc = some (.dup, aux, nx)) (hs : xd_dup nx L st h o acc = some r) (ha : r.2.2.2.2.2) (k : WX p l e R s m args below meth c Q D cA base b Ls xs full ads0 u0 gz r.1 r.2.1 r.2.2.1 r.2.2.2.1) : acc ∧ WX p l e R s m args below meth c Q D cA base b Ls xs full ads0 u0 gz pc L st h := by
  obtain ⟨q, hq, hn, hd⟩ := xdecode hi
  have hq : q ∈ [(.dup, 1)] := hq
  obtain rfl := List.mem_singleton.mp hq
  subst hn
  unfold xd_dup at hs
  split at hs
  · obtain rfl := Option.some.inj hs
    exact ⟨ha, fun t H locs ls h1 h2 h3 h4 h5 h6 => lv_dup C.2.1 C.2.2.1 hd rfl (k t H locs ls h1 h2 h3 h4 ⟨trivial, h5⟩ h6)⟩
  · obtain rfl := Option.some.inj hs
    exact ⟨ha, fun t H locs ls h1 h2 h3 h4 h5 h6 => lv_dup C.2.1 C.2.2.1 hd rfl (k t H locs ls h1 h2 h3 h4 ⟨h5.1, h5⟩ h6)⟩
  · cases hs

theorem xo_dup2 (C : XC M N U Ls fr lo p l e R s m args below meth c D cA base b xs ads0 u0 gz) (hi : xins M pc = some (.dup2, aux, nx)) (hs : xd_dup2 nx L st h o acc = some r) (ha : r.2.2.2.2.2) (k : WX p l e R s m args below meth c Q D cA base b Ls xs full ads0 u0 gz r.1 r.2.1 r.2.2.1 r.2.2.2.1) : acc ∧ WX p l e R s m args below meth c Q D cA base b Ls xs full ads0 u0 gz pc L st h := by
  obtain ⟨q, hq, hn, hd⟩ := xdecode hi
  have hq : q ∈ [(.dup2, 1)] := hq
  obtain rfl := List.mem_singleton.mp hq
  subst hn
  unfold xd_dup2 at hs
  split at hs
  · obtain rfl := Option.some.inj hs
    exact ⟨ha, fun t H locs ls h1 h2 h3 h4 h5 h6 => lv_dup2_11 C.2.1 C.2.2.1 hd rfl rfl (k t H locs ls h1 h2 h3 h4 ⟨h5.1, h5.2.1, h5⟩ h6)⟩
  · cases hs

theorem xo_pop (C : XC M N U Ls fr lo p l e R s m args below meth c D cA base b xs ads0 u0 gz) (hi : xins M pc = some (.pop, aux, nx)) (hs : xd_pop nx L st h o acc = some r) (ha : r.2.2.2.2.2) (k : WX p l e R s m args below meth c Q D cA base b Ls xs full ads0 u0 gz r.1 r.2.1 r.2.2.1 r.2.2.2.1) : acc ∧ WX p l e R s m args below meth c Q D cA base b Ls xs full ads0 u0 gz pc L st h := by
  obtain ⟨q, hq, hn, hd⟩ := xdecode hi
  have hq : q ∈ [(.pop, 1)] := hq
  obtain rfl := List.mem_singleton.mp hq
  subst hn
  unfold xd_pop at hs
  split at hs
  · obtain rfl := Option.some.inj hs
    exact ⟨ha, fun t H locs ls h1 h2 h3 h4 h5 h6 => lv_pop C.2.1 C.2.2.1 hd rfl (k t H locs ls h1 h2 h3 h4 h5.2 h6)⟩
  · obtain rfl := Option.some.inj hs
    exact ⟨ha, fun t H locs ls h1 h2 h3 h4 h5 h6 => lv_pop C.2.1 C.2.2.1 hd rfl (k t H locs ls h1 h2 h3 h4 h5.2 h6)⟩
  · cases hs

theorem xo_iconst {v : Int} (C : XC M N U Ls fr lo p l e R s m args below meth c D cA base b xs ads0 u0 gz) (hi : xins M pc = some (.iconst v, aux, nx)) (k : WX p l e R s m args below meth c Q D cA base b Ls xs full ads0 u0 gz nx L (.inl (.inl (Int32.ofInt v)) :: st) h) : WX p l e R s m args below meth c Q D cA base b Ls xs full ads0 u0 gz pc L st h := by
  obtain ⟨q, hq, hn, hd⟩ := xdecode hi
  subst hn
  intro t H locs ls h1 h2 h3 h4 h5 h6
  have kk := k t H locs ls h1 h2 h3 h4 ⟨trivial, h5⟩ h6
  rcases List.mem_append.mp hq with hq | hq
  · obtain rfl := List.mem_singleton.mp hq
    exact lv_iconst C.2.1 C.2.2.1 hd rfl kk
  rcases List.mem_append.mp hq with hq | hq
  · obtain ⟨hz, rfl⟩ := xbif hq
    exact lv_bipush C.2.1 C.2.2.1 hd (of_decide_eq_true hz) kk
  rcases List.mem_append.mp hq with hq | hq
  · obtain ⟨hz, rfl⟩ := xbif hq
    exact lv_sipush C.2.1 C.2.2.1 hd (of_decide_eq_true hz) kk
  obtain ⟨x, hx, hq⟩ := List.mem_flatMap.mp hq
  obtain ⟨hx1, hx2⟩ := List.mem_filter.mp hx
  rw [Bool.and_eq_true] at hx2
  have e1 : x.1 = xow M := Nat.eq_of_beq_eq_true hx2.1
  have e2 : x.2.2.1 = v := of_decide_eq_true hx2.2
  have hw := C.2.2.2.2.2.1 _ (xgood_spec (List.all_eq_true.mp xkl_ok x hx1))
  rw [e1, e2] at hw
  rcases List.mem_cons.mp hq with rfl | hq
  · exact lv_ldc C.2.1 C.2.2.1 C.2.2.2.2.1 hw hd kk
  · obtain rfl := List.mem_singleton.mp hq
    exact lv_ldcw C.2.1 C.2.2.1 C.2.2.2.2.1 hw hd kk
theorem xo_lconst {v : Int} (C : XC M N U Ls fr lo p l e R s m args below meth c D cA base b xs ads0 u0 gz) (hi : xins M pc = some (.sipush v, aux, nx)) (k : WX p l e R s m args below meth c Q D cA base b Ls xs full ads0 u0 gz nx L (.inl (.inr (Int64.ofInt v)) :: st) h) : WX p l e R s m args below meth c Q D cA base b Ls xs full ads0 u0 gz pc L st h := by
  obtain ⟨q, hq, hn, hd⟩ := xdecode hi
  subst hn
  intro t H locs ls h1 h2 h3 h4 h5 h6
  have kk := k t H locs ls h1 h2 h3 h4 ⟨trivial, h5⟩ h6
  rcases List.mem_append.mp hq with hq | hq
  · by_cases e0 : v = 0
    · subst e0
      have hq : q ∈ [(Instr.lconst 0, 1)] := hq
      obtain rfl := List.mem_singleton.mp hq
      exact lv_lconst C.2.1 C.2.2.1 hd rfl kk
    · rw [show decide (v = 0) = false from decide_eq_false e0] at hq
      obtain ⟨hz, rfl⟩ := xbif (show q ∈ (bif decide (v = 1) then [(Instr.lconst 1, 1)] else []) from hq)
      obtain rfl : v = 1 := of_decide_eq_true hz
      exact lv_lconst C.2.1 C.2.2.1 hd rfl kk
  obtain ⟨x, hx1, hx2, rfl⟩ := xfilt hq
  rw [Bool.and_eq_true] at hx2
  have e1 : x.1 = xow M := Nat.eq_of_beq_eq_true hx2.1
  have e2 : x.2.2.1 = v := of_decide_eq_true hx2.2
  have hw := C.2.2.2.2.2.1 _ (xgood_spec (List.all_eq_true.mp xjl_ok x hx1))
  rw [e1, e2] at hw
  exact lv_ldc2 C.2.1 C.2.2.1 C.2.2.2.2.1 hw hd kk
theorem xo_goto {v : Int} (C : XC M N U Ls fr lo p l e R s m args below meth c D cA base b xs ads0 u0 gz) (hi : xins M pc = some (.goto v, aux, nx)) (k : WX p l e R s m args below meth c Q D cA base b Ls xs full ads0 u0 gz v.toNat L st h) : WX p l e R s m args below meth c Q D cA base b Ls xs full ads0 u0 gz pc L st h := by
  obtain ⟨q, hq, hn, hd⟩ := xdecode hi
  subst hn
  obtain ⟨hz, rfl⟩ := xbif hq
  have hz := of_decide_eq_true hz
  exact fun t H locs ls h1 h2 h3 h4 h5 h6 => lv_goto C.2.1 C.2.2.1 hd (by omega) (k t H locs ls h1 h2 h3 h4 h5 h6)

theorem xo_iload {i : Nat} (C : XC M N U Ls fr lo p l e R s m args below meth c D cA base b xs ads0 u0 gz) (hi : xins M pc = some (.iload i, aux, nx)) (hs : xd_iload i nx L st h o acc = some r) (ha : r.2.2.2.2.2) (k : WX p l e R s m args below meth c Q D cA base b Ls xs full ads0 u0 gz r.1 r.2.1 r.2.2.1 r.2.2.2.1) : acc ∧ WX p l e R s m args below meth c Q D cA base b Ls xs full ads0 u0 gz pc L st h := by
  obtain ⟨q, hq, hn, hd⟩ := xdecode hi
  subst hn
  unfold xd_iload at hs
  split at hs
  · rename_i a hg
    obtain rfl := Option.some.inj hs
    refine ⟨ha, fun t H locs ls h1 h2 h3 h4 h5 h6 => ?_⟩
    have kk := k t H locs ls h1 h2 h3 h4 ⟨trivial, h5⟩ h6
    have hl := xlr_get h3 hg (fun z => by cases z)
    rcases List.mem_append.mp hq with hq | hq
    · obtain rfl := List.mem_singleton.mp hq
      exact lv_iload C.2.1 C.2.2.1 hd hl kk
    · obtain ⟨hz, rfl⟩ := xbif hq
      have hz : i < 4 := Nat.le_of_ble_eq_true hz
      exact lv_iload_n C.2.1 C.2.2.1 hd (Nat.mod_eq_of_lt hz) hl kk
  · cases hs

theorem xo_lload {i : Nat} (C : XC M N U Ls fr lo p l e R s m args below meth c D cA base b xs ads0 u0 gz) (hi : xins M pc = some (.lload i, aux, nx)) (hs : xd_lload i nx L st h o acc = some r) (ha : r.2.2.2.2.2) (k : WX p l e R s m args below meth c Q D cA base b Ls xs full ads0 u0 gz r.1 r.2.1 r.2.2.1 r.2.2.2.1) : acc ∧ WX p l e R s m args below meth c Q D cA base b Ls xs full ads0 u0 gz pc L st h := by
  obtain ⟨q, hq, hn, hd⟩ := xdecode hi
  subst hn
  unfold xd_lload at hs
  split at hs
  · rename_i a hg
    obtain rfl := Option.some.inj hs
    refine ⟨ha, fun t H locs ls h1 h2 h3 h4 h5 h6 => ?_⟩
    have kk := k t H locs ls h1 h2 h3 h4 ⟨trivial, h5⟩ h6
    have hl := xlr_get h3 hg (fun z => by cases z)
    rcases List.mem_append.mp hq with hq | hq
    · obtain rfl := List.mem_singleton.mp hq
      exact lv_lload C.2.1 C.2.2.1 hd hl kk
    · obtain ⟨hz, rfl⟩ := xbif hq
      have hz : i < 4 := Nat.le_of_ble_eq_true hz
      exact lv_lload_n C.2.1 C.2.2.1 hd (Nat.mod_eq_of_lt hz) hl kk
  · cases hs

theorem xo_aload {i : Nat} (C : XC M N U Ls fr lo p l e R s m args below meth c D cA base b xs ads0 u0 gz) (hi : xins M pc = some (.aload i, aux, nx)) (hs : xd_aload i nx L st h o acc = some r) (ha : r.2.2.2.2.2) (k : WX p l e R s m args below meth c Q D cA base b Ls xs full ads0 u0 gz r.1 r.2.1 r.2.2.1 r.2.2.2.1) : acc ∧ WX p l e R s m args below meth c Q D cA base b Ls xs full ads0 u0 gz pc L st h := by
  obtain ⟨q, hq, hn, hd⟩ := xdecode hi
  subst hn
  unfold xd_aload at hs
  split at hs
  · rename_i kd e0 hg
    by_cases hk0 : Nat.beq kd 0 = true
    · rw [hk0] at hs; cases hs
    · rw [Bool.eq_false_iff.mpr hk0] at hs
      obtain rfl := Option.some.inj hs
      have hne : kd ≠ 0 := fun z => hk0 (by rw [z]; rfl)
      have hnu : (Sum.inr (kd, e0) : XV) ≠ xun := fun z => hne (congrArg Prod.fst (Sum.inr.inj z))
      refine ⟨ha, fun t H locs ls h1 h2 h3 h4 h5 h6 => ?_⟩
      have hv := (xvl_get h4 i).resolve_left (fun z => hnu (hg.symm.trans z))
      rw [hg] at hv
      have kk := k t H locs ls h1 h2 h3 h4 ⟨hv, h5⟩ h6
      have hl := xlr_get h3 hg hnu
      rcases List.mem_append.mp hq with hq | hq
      · obtain rfl := List.mem_singleton.mp hq
        exact lv_aload C.2.1 C.2.2.1 hd hl kk
      · obtain ⟨hz, rfl⟩ := xbif hq
        have hz : i < 4 := Nat.le_of_ble_eq_true hz
        exact lv_aload_n C.2.1 C.2.2.1 hd (Nat.mod_eq_of_lt hz) hl kk
  · cases hs

theorem xo_istore {i : Nat} (hL : L.length = xmx M) (C : XC M N U Ls fr lo p l e R s m args below meth c D cA base b xs ads0 u0 gz) (hi : xins M pc = some (.istore i, aux, nx)) (hs : xd_istore i nx L st h o acc = some r) (ha : r.2.2.2.2.2) (k : WX p l e R s m args below meth c Q D cA base b Ls xs full ads0 u0 gz r.1 r.2.1 r.2.2.1 r.2.2.2.1) : acc ∧ WX p l e R s m args below meth c Q D cA base b Ls xs full ads0 u0 gz pc L st h := by
  obtain ⟨q, hq, hn, hd⟩ := xdecode hi
  subst hn
  obtain ⟨hi2, hq⟩ := xbif2 hq
  have hi2 : i < xmx M := Nat.le_of_ble_eq_true hi2
  unfold xd_istore at hs
  split at hs
  · obtain rfl := Option.some.inj hs
    refine ⟨ha, fun t H locs ls h1 h2 h3 h4 h5 h6 => ?_⟩
    have hi3 : i < L.length := by rw [hL]; exact hi2
    rcases List.mem_append.mp hq with hq | hq
    · obtain rfl := List.mem_singleton.mp hq
      exact lv_istore C.2.1 C.2.2.1 hd h3 hi3 rfl (fun ls' h' => k t H locs ls' h1 h2 (xlr_st h' hi3) (xvl_st (Or.inr h5.1) h4 i) h5.2 h6)
    · obtain ⟨hz, rfl⟩ := xbif hq
      have hz : i < 4 := Nat.le_of_ble_eq_true hz
      exact lv_istore_n C.2.1 C.2.2.1 hd (Nat.mod_eq_of_lt hz) h3 hi3 rfl (fun ls' h' => k t H locs ls' h1 h2 (xlr_st h' hi3) (xvl_st (Or.inr h5.1) h4 i) h5.2 h6)
  · cases hs

theorem xo_astore {i : Nat} (hL : L.length = xmx M) (C : XC M N U Ls fr lo p l e R s m args below meth c D cA base b xs ads0 u0 gz) (hi : xins M pc = some (.astore i, aux, nx)) (hs : xd_astore i nx L st h o acc = some r) (ha : r.2.2.2.2.2) (k : WX p l e R s m args below meth c Q D cA base b Ls xs full ads0 u0 gz r.1 r.2.1 r.2.2.1 r.2.2.2.1) : acc ∧ WX p l e R s m args below meth c Q D cA base b Ls xs full ads0 u0 gz pc L st h := by
  obtain ⟨q, hq, hn, hd⟩ := xdecode hi
  subst hn
  obtain ⟨hi2, hq⟩ := xbif2 hq
  have hi2 : i < xmx M := Nat.le_of_ble_eq_true hi2
  unfold xd_astore at hs
  split at hs
  · obtain rfl := Option.some.inj hs
    refine ⟨ha, fun t H locs ls h1 h2 h3 h4 h5 h6 => ?_⟩
    have hi3 : i < L.length := by rw [hL]; exact hi2
    rcases List.mem_append.mp hq with hq | hq
    · obtain rfl := List.mem_singleton.mp hq
      exact lv_astore C.2.1 C.2.2.1 hd h3 hi3 rfl (fun ls' h' => k t H locs ls' h1 h2 (xlr_st h' hi3) (xvl_st (Or.inr h5.1) h4 i) h5.2 h6)
    · obtain ⟨hz, rfl⟩ := xbif hq
      have hz : i < 4 := Nat.le_of_ble_eq_true hz
      exact lv_astore_n C.2.1 C.2.2.1 hd (Nat.mod_eq_of_lt hz) h3 hi3 rfl (fun ls' h' => k t H locs ls' h1 h2 (xlr_st h' hi3) (xvl_st (Or.inr h5.1) h4 i) h5.2 h6)
  · cases hs

theorem xo_lstore {i : Nat} (hL : L.length = xmx M) (C : XC M N U Ls fr lo p l e R s m args below meth c D cA base b xs ads0 u0 gz) (hi : xins M pc = some (.lstore i, aux, nx)) (hs : xd_lstore i nx L st h o acc = some r) (ha : r.2.2.2.2.2) (k : WX p l e R s m args below meth c Q D cA base b Ls xs full ads0 u0 gz r.1 r.2.1 r.2.2.1 r.2.2.2.1) : acc ∧ WX p l e R s m args below meth c Q D cA base b Ls xs full ads0 u0 gz pc L st h := by
  obtain ⟨q, hq, hn, hd⟩ := xdecode hi
  subst hn
  obtain ⟨hi2, hq⟩ := xbif2 hq
  have hi2 : i + 1 < xmx M := Nat.le_of_ble_eq_true hi2
  unfold xd_lstore at hs
  split at hs
  · obtain rfl := Option.some.inj hs
    refine ⟨ha, fun t H locs ls h1 h2 h3 h4 h5 h6 => ?_⟩
    have hi3 : i + 1 < L.length := by rw [hL]; exact hi2
    rcases List.mem_append.mp hq with hq | hq
    · obtain rfl := List.mem_singleton.mp hq
      exact lv_lstore C.2.1 C.2.2.1 hd h3 hi3 rfl (fun ls' h' => k t H locs ls' h1 h2 (xlr_st2 h' (by omega)) (xvl_set (Or.inl rfl) (xvl_st (Or.inr h5.1) h4 i) (i + 1)) h5.2 h6)
    · obtain ⟨hz, rfl⟩ := xbif hq
      have hz : i < 4 := Nat.le_of_ble_eq_true hz
      exact lv_lstore_n C.2.1 C.2.2.1 hd (Nat.mod_eq_of_lt hz) h3 hi3 rfl (fun ls' h' => k t H locs ls' h1 h2 (xlr_st2 h' (by omega)) (xvl_set (Or.inl rfl) (xvl_st (Or.inr h5.1) h4 i) (i + 1)) h5.2 h6)
  · cases hs

theorem xo_iinc {i : Nat} {v : Int} (C : XC M N U Ls fr lo p l e R s m args below meth c D cA base b xs ads0 u0 gz) (hi : xins M pc = some (.iinc i v, aux, nx)) (hs : xd_iinc i v nx L st h o acc = some r) (ha : r.2.2.2.2.2) (k : WX p l e R s m args below meth c Q D cA base b Ls xs full ads0 u0 gz r.1 r.2.1 r.2.2.1 r.2.2.2.1) : acc ∧ WX p l e R s m args below meth c Q D cA base b Ls xs full ads0 u0 gz pc L st h := by
  obtain ⟨q, hq, hn, hd⟩ := xdecode hi
  obtain rfl := List.mem_singleton.mp hq
  subst hn
  unfold xd_iinc at hs
  split at hs
  · rename_i a hg
    obtain rfl := Option.some.inj hs
    refine ⟨ha, fun t H locs ls h1 h2 h3 h4 h5 h6 => ?_⟩
    have hnu : xget L i ≠ xun := fun z => by rw [hg] at z; cases z
    have hi3 : i < L.length := xget_lt hnu
    have hm := xen_mem (ads := ads0 ++ t) (b := b) hnu
    rw [hg] at hm
    obtain ⟨n, hn⟩ := List.getElem?_of_mem hm
    exact lv_iinc C.2.1 C.2.2.1 hd h3 hn rfl hi3 rfl (fun ls' h' => k t H locs ls' h1 h2 (xlr_st (v := .inl (.inl (a + Int32.ofInt v))) h' hi3) (xvl_st (v := .inl (.inl (a + Int32.ofInt v))) (Or.inr (show xvo h (.inl (.inl (a + Int32.ofInt v))) from trivial)) h4 i) h5 h6)
  · cases hs

theorem xjmp_spec {cc : Prop} {t : Int} (hs : xjmp cc t nx L st h o acc = some r) (ha : r.2.2.2.2.2) : r.2.1 = L ∧ r.2.2.1 = st ∧ r.2.2.2.1 = h ∧ ((cc ∧ acc ∧ r.1 = t.toNat) ∨ (¬ cc ∧ acc ∧ r.1 = nx)) := by
  unfold xjmp at hs
  split at hs
  · rename_i d o'
    cases hd : Nat.beq d 1 with
    | true =>
      rw [hd] at hs
      obtain rfl := Option.some.inj hs
      exact ⟨rfl, rfl, rfl, Or.inl ⟨ha.2, ha.1, rfl⟩⟩
    | false =>
      rw [hd] at hs
      obtain rfl := Option.some.inj hs
      exact ⟨rfl, rfl, rfl, Or.inr ⟨ha.2, ha.1, rfl⟩⟩
  · cases hs
theorem xjmn_spec {cc : Prop} {t : Int} (hs : xjmn cc t nx L st h o acc = some r) (ha : r.2.2.2.2.2) : r.2.1 = L ∧ r.2.2.1 = st ∧ r.2.2.2.1 = h ∧ ((¬ cc ∧ acc ∧ r.1 = t.toNat) ∨ (cc ∧ acc ∧ r.1 = nx)) := by
  unfold xjmn at hs
  split at hs
  · rename_i d o'
    cases hd : Nat.beq d 1 with
    | true =>
      rw [hd] at hs
      obtain rfl := Option.some.inj hs
      exact ⟨rfl, rfl, rfl, Or.inl ⟨ha.2, ha.1, rfl⟩⟩
    | false =>
      rw [hd] at hs
      obtain rfl := Option.some.inj hs
      exact ⟨rfl, rfl, rfl, Or.inr ⟨ha.2, ha.1, rfl⟩⟩
  · cases hs

theorem xo_if {cd : ClassFile.Cond} {v : Int} (C : XC M N U Ls fr lo p l e R s m args below meth c D cA base b xs ads0 u0 gz) (hi : xins M pc = some (.ifCond cd v, aux, nx)) (hs : xd_if cd v nx L st h o acc = some r) (ha : r.2.2.2.2.2) (k : WX p l e R s m args below meth c Q D cA base b Ls xs full ads0 u0 gz r.1 r.2.1 r.2.2.1 r.2.2.2.1) : acc ∧ WX p l e R s m args below meth c Q D cA base b Ls xs full ads0 u0 gz pc L st h := by
  obtain ⟨q, hq, hn, hd⟩ := xdecode hi
  subst hn
  obtain ⟨hz, rfl⟩ := xbif hq
  have hz := of_decide_eq_true hz
  unfold xd_if at hs
  split at hs
  · unfold xif at hs
    cases cd with
    | eq =>
      obtain ⟨e1, e2, e3, hc⟩ := xjmp_spec hs ha
      rw [e1, e2, e3] at k
      rcases hc with ⟨c1, c2, c3⟩ | ⟨c1, c2, c3⟩
      · rw [c3] at k
        exact ⟨c2, fun t H locs ls h1 h2 h3 h4 h5 h6 => lv_if_eq C.2.1 C.2.2.1 hd (tgt := v.toNat) (by omega) (fun _ => k t H locs ls h1 h2 h3 h4 h5.2 h6) (fun z => absurd c1 z)⟩
      · rw [c3] at k
        exact ⟨c2, fun t H locs ls h1 h2 h3 h4 h5 h6 => lv_if_eq C.2.1 C.2.2.1 hd (tgt := v.toNat) (by omega) (fun z => absurd z c1) (fun _ => k t H locs ls h1 h2 h3 h4 h5.2 h6)⟩
    | ne =>
      obtain ⟨e1, e2, e3, hc⟩ := xjmn_spec hs ha
      rw [e1, e2, e3] at k
      rcases hc with ⟨c1, c2, c3⟩ | ⟨c1, c2, c3⟩
      · rw [c3] at k
        exact ⟨c2, fun t H locs ls h1 h2 h3 h4 h5 h6 => lv_if_ne C.2.1 C.2.2.1 hd (tgt := v.toNat) (by omega) (fun _ => k t H locs ls h1 h2 h3 h4 h5.2 h6) (fun z => absurd z c1)⟩
      · rw [c3] at k
        exact ⟨c2, fun t H locs ls h1 h2 h3 h4 h5 h6 => lv_if_ne C.2.1 C.2.2.1 hd (tgt := v.toNat) (by omega) (fun z => absurd c1 z) (fun _ => k t H locs ls h1 h2 h3 h4 h5.2 h6)⟩
    | lt =>
      obtain ⟨e1, e2, e3, hc⟩ := xjmp_spec hs ha
      rw [e1, e2, e3] at k
      rcases hc with ⟨c1, c2, c3⟩ | ⟨c1, c2, c3⟩
      · rw [c3] at k
        exact ⟨c2, fun t H locs ls h1 h2 h3 h4 h5 h6 => lv_if_lt C.2.1 C.2.2.1 hd (tgt := v.toNat) (by omega) (fun _ => k t H locs ls h1 h2 h3 h4 h5.2 h6) (fun z => absurd c1 z)⟩
      · rw [c3] at k
        exact ⟨c2, fun t H locs ls h1 h2 h3 h4 h5 h6 => lv_if_lt C.2.1 C.2.2.1 hd (tgt := v.toNat) (by omega) (fun z => absurd z c1) (fun _ => k t H locs ls h1 h2 h3 h4 h5.2 h6)⟩
    | ge =>
      obtain ⟨e1, e2, e3, hc⟩ := xjmp_spec hs ha
      rw [e1, e2, e3] at k
      rcases hc with ⟨c1, c2, c3⟩ | ⟨c1, c2, c3⟩
      · rw [c3] at k
        exact ⟨c2, fun t H locs ls h1 h2 h3 h4 h5 h6 => lv_if_ge C.2.1 C.2.2.1 hd (tgt := v.toNat) (by omega) (fun _ => k t H locs ls h1 h2 h3 h4 h5.2 h6) (fun z => absurd c1 z)⟩
      · rw [c3] at k
        exact ⟨c2, fun t H locs ls h1 h2 h3 h4 h5 h6 => lv_if_ge C.2.1 C.2.2.1 hd (tgt := v.toNat) (by omega) (fun z => absurd z c1) (fun _ => k t H locs ls h1 h2 h3 h4 h5.2 h6)⟩
    | gt =>
      obtain ⟨e1, e2, e3, hc⟩ := xjmp_spec hs ha
      rw [e1, e2, e3] at k
      rcases hc with ⟨c1, c2, c3⟩ | ⟨c1, c2, c3⟩
      · rw [c3] at k
        exact ⟨c2, fun t H locs ls h1 h2 h3 h4 h5 h6 => lv_if_gt C.2.1 C.2.2.1 hd (tgt := v.toNat) (by omega) (fun _ => k t H locs ls h1 h2 h3 h4 h5.2 h6) (fun z => absurd c1 z)⟩
      · rw [c3] at k
        exact ⟨c2, fun t H locs ls h1 h2 h3 h4 h5 h6 => lv_if_gt C.2.1 C.2.2.1 hd (tgt := v.toNat) (by omega) (fun z => absurd z c1) (fun _ => k t H locs ls h1 h2 h3 h4 h5.2 h6)⟩
    | le =>
      obtain ⟨e1, e2, e3, hc⟩ := xjmp_spec hs ha
      rw [e1, e2, e3] at k
      rcases hc with ⟨c1, c2, c3⟩ | ⟨c1, c2, c3⟩
      · rw [c3] at k
        exact ⟨c2, fun t H locs ls h1 h2 h3 h4 h5 h6 => lv_if_le C.2.1 C.2.2.1 hd (tgt := v.toNat) (by omega) (fun _ => k t H locs ls h1 h2 h3 h4 h5.2 h6) (fun z => absurd c1 z)⟩
      · rw [c3] at k
        exact ⟨c2, fun t H locs ls h1 h2 h3 h4 h5 h6 => lv_if_le C.2.1 C.2.2.1 hd (tgt := v.toNat) (by omega) (fun z => absurd z c1) (fun _ => k t H locs ls h1 h2 h3 h4 h5.2 h6)⟩
  · cases hs

theorem xo_icmp {cd : ClassFile.Cond} {v : Int} (C : XC M N U Ls fr lo p l e R s m args below meth c D cA base b xs ads0 u0 gz) (hi : xins M pc = some (.if_icmp cd v, aux, nx)) (hs : xd_icmp cd v nx L st h o acc = some r) (ha : r.2.2.2.2.2) (k : WX p l e R s m args below meth c Q D cA base b Ls xs full ads0 u0 gz r.1 r.2.1 r.2.2.1 r.2.2.2.1) : acc ∧ WX p l e R s m args below meth c Q D cA base b Ls xs full ads0 u0 gz pc L st h := by
  obtain ⟨q, hq, hn, hd⟩ := xdecode hi
  subst hn
  obtain ⟨hz, rfl⟩ := xbif hq
  have hz := of_decide_eq_true hz
  unfold xd_icmp at hs
  split at hs
  · unfold xif at hs
    cases cd with
    | eq =>
      obtain ⟨e1, e2, e3, hc⟩ := xjmp_spec hs ha
      rw [e1, e2, e3] at k
      rcases hc with ⟨c1, c2, c3⟩ | ⟨c1, c2, c3⟩
      · rw [c3] at k
        exact ⟨c2, fun t H locs ls h1 h2 h3 h4 h5 h6 => lv_icmp_eq C.2.1 C.2.2.1 hd (tgt := v.toNat) (by omega) (fun _ => k t H locs ls h1 h2 h3 h4 h5.2.2 h6) (fun z => absurd c1 z)⟩
      · rw [c3] at k
        exact ⟨c2, fun t H locs ls h1 h2 h3 h4 h5 h6 => lv_icmp_eq C.2.1 C.2.2.1 hd (tgt := v.toNat) (by omega) (fun z => absurd z c1) (fun _ => k t H locs ls h1 h2 h3 h4 h5.2.2 h6)⟩
    | ne =>
      obtain ⟨e1, e2, e3, hc⟩ := xjmn_spec hs ha
      rw [e1, e2, e3] at k
      rcases hc with ⟨c1, c2, c3⟩ | ⟨c1, c2, c3⟩
      · rw [c3] at k
        exact ⟨c2, fun t H locs ls h1 h2 h3 h4 h5 h6 => lv_icmp_ne C.2.1 C.2.2.1 hd (tgt := v.toNat) (by omega) (fun _ => k t H locs ls h1 h2 h3 h4 h5.2.2 h6) (fun z => absurd z c1)⟩
      · rw [c3] at k
        exact ⟨c2, fun t H locs ls h1 h2 h3 h4 h5 h6 => lv_icmp_ne C.2.1 C.2.2.1 hd (tgt := v.toNat) (by omega) (fun z => absurd c1 z) (fun _ => k t H locs ls h1 h2 h3 h4 h5.2.2 h6)⟩
    | lt =>
      obtain ⟨e1, e2, e3, hc⟩ := xjmp_spec hs ha
      rw [e1, e2, e3] at k
      rcases hc with ⟨c1, c2, c3⟩ | ⟨c1, c2, c3⟩
      · rw [c3] at k
        exact ⟨c2, fun t H locs ls h1 h2 h3 h4 h5 h6 => lv_icmp_lt C.2.1 C.2.2.1 hd (tgt := v.toNat) (by omega) (fun _ => k t H locs ls h1 h2 h3 h4 h5.2.2 h6) (fun z => absurd c1 z)⟩
      · rw [c3] at k
        exact ⟨c2, fun t H locs ls h1 h2 h3 h4 h5 h6 => lv_icmp_lt C.2.1 C.2.2.1 hd (tgt := v.toNat) (by omega) (fun z => absurd z c1) (fun _ => k t H locs ls h1 h2 h3 h4 h5.2.2 h6)⟩
    | ge =>
      obtain ⟨e1, e2, e3, hc⟩ := xjmp_spec hs ha
      rw [e1, e2, e3] at k
      rcases hc with ⟨c1, c2, c3⟩ | ⟨c1, c2, c3⟩
      · rw [c3] at k
        exact ⟨c2, fun t H locs ls h1 h2 h3 h4 h5 h6 => lv_icmp_ge C.2.1 C.2.2.1 hd (tgt := v.toNat) (by omega) (fun _ => k t H locs ls h1 h2 h3 h4 h5.2.2 h6) (fun z => absurd c1 z)⟩
      · rw [c3] at k
        exact ⟨c2, fun t H locs ls h1 h2 h3 h4 h5 h6 => lv_icmp_ge C.2.1 C.2.2.1 hd (tgt := v.toNat) (by omega) (fun z => absurd z c1) (fun _ => k t H locs ls h1 h2 h3 h4 h5.2.2 h6)⟩
    | gt =>
      obtain ⟨e1, e2, e3, hc⟩ := xjmp_spec hs ha
      rw [e1, e2, e3] at k
      rcases hc with ⟨c1, c2, c3⟩ | ⟨c1, c2, c3⟩
      · rw [c3] at k
        exact ⟨c2, fun t H locs ls h1 h2 h3 h4 h5 h6 => lv_icmp_gt C.2.1 C.2.2.1 hd (tgt := v.toNat) (by omega) (fun _ => k t H locs ls h1 h2 h3 h4 h5.2.2 h6) (fun z => absurd c1 z)⟩
      · rw [c3] at k
        exact ⟨c2, fun t H locs ls h1 h2 h3 h4 h5 h6 => lv_icmp_gt C.2.1 C.2.2.1 hd (tgt := v.toNat) (by omega) (fun z => absurd z c1) (fun _ => k t H locs ls h1 h2 h3 h4 h5.2.2 h6)⟩
    | le =>
      obtain ⟨e1, e2, e3, hc⟩ := xjmp_spec hs ha
      rw [e1, e2, e3] at k
      rcases hc with ⟨c1, c2, c3⟩ | ⟨c1, c2, c3⟩
      · rw [c3] at k
        exact ⟨c2, fun t H locs ls h1 h2 h3 h4 h5 h6 => lv_icmp_le C.2.1 C.2.2.1 hd (tgt := v.toNat) (by omega) (fun _ => k t H locs ls h1 h2 h3 h4 h5.2.2 h6) (fun z => absurd c1 z)⟩
      · rw [c3] at k
        exact ⟨c2, fun t H locs ls h1 h2 h3 h4 h5 h6 => lv_icmp_le C.2.1 C.2.2.1 hd (tgt := v.toNat) (by omega) (fun z => absurd z c1) (fun _ => k t H locs ls h1 h2 h3 h4 h5.2.2 h6)⟩
  · cases hs

theorem xoff {pc : Nat} : ∀ {ps : List (Int × Int)} {dflt x : Int}, Op.lookupswitch.offset (ps.map (fun t => (t.1, t.2 - (pc : Int)))) (dflt - pc) x = Op.lookupswitch.offset ps dflt x - pc
  | [], _, _ => rfl
  | (a, v) :: ps, dflt, x => by
    rw [List.map_cons, Op.lookupswitch.offset_cons, Op.lookupswitch.offset_cons, xoff]
    split <;> rfl
theorem xzip {pc : Nat} : ∀ (ps : List (Int × Int)), ((ps.map (fun t => (t.1, t.2 - (pc : Int)))).zip ((ps.map (fun t => (t.1, t.2 - (pc : Int)))).drop 1)).all (fun (a, next) => a.1 < next.1) = (ps.zip (ps.drop 1)).all (fun (a, next) => a.1 < next.1)
  | [] => rfl
  | [a] => rfl
  | a :: d :: ps => by
    have ih := xzip (pc := pc) (d :: ps)
    simp only [List.map_cons, List.drop_succ_cons, List.drop_zero, List.zip_cons_cons, List.all_cons] at ih ⊢
    rw [ih]
theorem xo_lsw {d : Int} {ps : Array (Int × Int)} (C : XC M N U Ls fr lo p l e R s m args below meth c D cA base b xs ads0 u0 gz) (hi : xins M pc = some (.lookupswitch d ps, aux, nx)) (hs : xd_lsw d ps nx L st h o acc = some r) (ha : r.2.2.2.2.2) (k : WX p l e R s m args below meth c Q D cA base b Ls xs full ads0 u0 gz r.1 r.2.1 r.2.2.1 r.2.2.2.1) : acc ∧ WX p l e R s m args below meth c Q D cA base b Ls xs full ads0 u0 gz pc L st h := by
  obtain ⟨q, hq, hn, hd⟩ := xdecode hi
  obtain ⟨hz, rfl⟩ := xbif hq
  rw [Bool.and_eq_true, Bool.and_eq_true] at hz
  obtain ⟨⟨z1, z2⟩, z3⟩ := hz
  have z1 := of_decide_eq_true z1
  unfold xd_lsw at hs
  split at hs
  · unfold xlsw at hs
    split at hs
    · obtain rfl := Option.some.inj hs
      refine ⟨ha.1, fun t H locs ls h1 h2 h3 h4 h5 h6 => lv_lookup C.2.1 C.2.2.1 hd (off := d - pc) (tgt := d.toNat) (by rw [List.toList_toArray, xzip]; exact z3) (by rw [List.toList_toArray]; exact xoff.trans (congrArg (· - (pc : Int)) ha.2)) (by omega) (k t H locs ls h1 h2 h3 h4 h5.2 h6)⟩
    · split at hs
      · rename_i q2 hq2
        obtain rfl := Option.some.inj hs
        have z4 := of_decide_eq_true (List.all_eq_true.mp z2 _ (List.mem_of_getElem? hq2))
        refine ⟨ha.1, fun t H locs ls h1 h2 h3 h4 h5 h6 => lv_lookup C.2.1 C.2.2.1 hd (off := q2.2 - pc) (tgt := q2.2.toNat) (by rw [List.toList_toArray, xzip]; exact z3) (by rw [List.toList_toArray]; exact xoff.trans (congrArg (· - (pc : Int)) ha.2)) (by omega) (k t H locs ls h1 h2 h3 h4 h5.2 h6)⟩
      · cases hs
    · cases hs
  · cases hs
theorem xo_tsw {d lw hg : Int} {ts : Array Int} (C : XC M N U Ls fr lo p l e R s m args below meth c D cA base b xs ads0 u0 gz) (hi : xins M pc = some (.tableswitch d lw hg ts, aux, nx)) (hs : xd_tsw d lw hg ts nx L st h o acc = some r) (ha : r.2.2.2.2.2) (k : WX p l e R s m args below meth c Q D cA base b Ls xs full ads0 u0 gz r.1 r.2.1 r.2.2.1 r.2.2.2.1) : acc ∧ WX p l e R s m args below meth c Q D cA base b Ls xs full ads0 u0 gz pc L st h := by
  obtain ⟨q, hq, hn, hd⟩ := xdecode hi
  obtain ⟨hz, rfl⟩ := xbif hq
  rw [Bool.and_eq_true, Bool.and_eq_true] at hz
  obtain ⟨⟨z1, z2⟩, z3⟩ := hz
  have z1 := of_decide_eq_true z1
  unfold xd_tsw at hs
  split at hs
  · unfold xtsw at hs
    split at hs
    · obtain rfl := Option.some.inj hs
      exact ⟨ha.1, fun t H locs ls h1 h2 h3 h4 h5 h6 => lv_tableOut C.2.1 C.2.2.1 hd (tgt := d.toNat) ha.2 (by omega) (k t H locs ls h1 h2 h3 h4 h5.2 h6)⟩
    · split at hs
      · rename_i t0 ht0
        obtain rfl := Option.some.inj hs
        have z4 := of_decide_eq_true (List.all_eq_true.mp z2 _ (List.mem_of_getElem? ht0))
        have ha2 := ha.2
        refine ⟨ha.1, fun t H locs ls h1 h2 h3 h4 h5 h6 => lv_tableIn C.2.1 C.2.2.1 hd (tgt := t0.toNat) (off := t0 - pc) (by omega) (by omega) ?_ (by omega) (k t H locs ls h1 h2 h3 h4 h5.2 h6)⟩
        rw [ha2.1, show ∀ k0 : Nat, (lw + (k0 : Int) - lw).toNat = k0 from fun k0 => by omega]
        simp [ht0]
      · cases hs
    · cases hs
  · cases hs

end XRows
