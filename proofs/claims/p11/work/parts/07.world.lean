/-! THE ABSTRACT HEAP'S PICTURE in the machine's: the cells 2, 3 .. lie at the addresses ads, the script at b. -/
def xad (ads : List Nat) (b e : Nat) : Nat := if e = 1 then b else ads.getD (e - 2) 0
def xcv (ads : List Nat) (b : Nat) : XV → Value
  | .inl (.inl a) => .int a
  | .inl (.inr a) => .long a
  | .inr (_, e) => .ref (xad ads b e)
noncomputable def xfv (ads : List Nat) (b : Nat) (h : XH) (c ci k : Nat) : Value := match xft ci k with
  | 0 => .int (xI h c k)
  | 1 => .long (xL h c k)
  | _ => if xR h c k = 0 then .null else .ref (xad ads b (xR h c k))
noncomputable def xce (cA : Nat → ClassId) (ads : List Nat) (b : Nat) (h : XH) (c : Nat) : va_E :=
  if xS h c < 10000 then .inr (xS h c - 1, (List.range (xnf (xS h c - 1))).map (xfv ads b h c (xS h c - 1)))
  else if xS h c < 20000 then .inl (cA 0, xS h c - 10000, .inl (xI h c))
  else if xS h c < 30000 then .inl (cA 1, xS h c - 20000, .inl (xI h c))
  else if xS h c < 40000 then .inl (cA 2, xS h c - 30000, .inl (xI h c))
  else .inl (cA 3, xS h c - 40000, .inr (.inl (xL h c)))
noncomputable def xws (cA : Nat → ClassId) (ads : List Nat) (b : Nat) (h : XH) : va_W := (List.range (xN h - 2)).map (fun i => (ads.getD i 0, xce cA ads b h (i + 2)))
/-- a kind that a cell may have -/
def xkok (k : Nat) : Prop := (1 ≤ k ∧ k ≤ 13) ∨ (10000 ≤ k ∧ k < 50000)
/-- e is a cell of kind k -/
def xok (h : XH) (k e : Nat) : Prop := 2 ≤ e ∧ e < xN h ∧ xS h e = k
def xvo (h : XH) : XV → Prop
  | .inl _ => True
  | .inr (k, e) => (k = 50 ∧ e = 1) ∨ (k ≠ 50 ∧ xok h k e)
/-- the stack's values; the locals' -/
def xvs (h : XH) : List XV → Prop
  | [] => True
  | v :: l => xvo h v ∧ xvs h l
def xvl (h : XH) : List XV → Prop
  | [] => True
  | v :: l => (v = xun ∨ xvo h v) ∧ xvl h l
noncomputable def xrel (D : va_G) (cA : Nat → ClassId) (base b Ls : Nat) (xs : Nat → Int32) (full : Bool) (ads : List Nat) (h : XH) (H : Heap) : Prop :=
  ads.length + 2 = xN h ∧ va_P D xcl (xws cA ads b h) H ∧ va_D (fun q : Nat => base ≤ q) (xws cA ads b h) ∧ (∀ c, 2 ≤ c → c < xN h → xkok (xS h c)) ∧
  (∀ c k, 2 ≤ c → c < xN h → xS h c < 10000 → k < xnf (xS h c - 1) → xft (xS h c - 1) k = 2 → (xR h c k = 0 ∧ full = false) ∨ xok h (xfk (xS h c) k) (xR h c k)) ∧
  (∀ c k, xN h ≤ c → xI h c k = 0 ∧ xL h c k = 0 ∧ xR h c k = 0)
def xen (ads : List Nat) (b : Nat) (L : List XV) : List (Nat × Value) := (List.range L.length).filterMap (fun i => if xget L i = xun then none else some (i, xcv ads b (xget L i)))
def xlr (ads : List Nat) (b : Nat) (ls : Array Slot) (L : List XV) : Prop := lv_has ls L.length (xen ads b L)
theorem xget_out : ∀ (L : List XV) (i : Nat), L.length ≤ i → xget L i = xun
  | [], _, _ => rfl
  | _ :: _, 0, h => absurd h (Nat.not_succ_le_zero _)
  | _ :: l, k + 1, h => xget_out l k (Nat.le_of_succ_le_succ h)
theorem xget_lt {L : List XV} {i : Nat} (h : xget L i ≠ xun) : i < L.length := Nat.not_le.mp fun q => h (xget_out L i q)
theorem xset_len : ∀ (L : List XV) (i : Nat) (v : XV), (xset L i v).length = L.length
  | [], _, _ => rfl
  | _ :: _, 0, _ => rfl
  | _ :: l, k + 1, v => congrArg (· + 1) (xset_len l k v)
theorem xget_set : ∀ (L : List XV) (i j : Nat) (v : XV), xget (xset L i v) j = if j = i then (if i < L.length then v else xun) else xget L j
  | [], i, j, v => by simp [xset, xget]
  | a :: l, 0, 0, v => by simp [xset, xget]
  | a :: l, 0, j + 1, v => by simp [xset, xget]
  | a :: l, i + 1, 0, v => by simp [xset, xget]
  | a :: l, i + 1, j + 1, v => by
    show xget (xset l i v) j = _
    rw [xget_set l i j v]
    simp [xget]
theorem xst_len (L : List XV) (i : Nat) (v : XV) : (xst L i v).length = L.length := by
  unfold xst
  split
  · exact xset_len _ _ _
  · split
    · rw [xset_len, xset_len]
    · exact xset_len _ _ _
def xlong (v : XV) : Bool := match v with
  | .inl (.inr _) => true
  | _ => false
theorem xget_st (L : List XV) (i j : Nat) (v : XV) : xget (xst L i v) j = if j = i then (if i < L.length then v else xun) else if j + 1 = i ∧ xlong (xget L j) = true then xun else xget L j := by
  unfold xst
  split
  · rw [xget_set]
    by_cases h : j = 0
    · simp [h]
    · simp [h]
  · rename_i k
    split
    · rename_i a hk
      rw [xget_set, xset_len]
      by_cases h : j = k + 1
      · simp [h]
      · rw [if_neg h, if_neg h, xget_set]
        by_cases h2 : j = k
        · subst h2
          simp [hk, xlong]
        · rw [if_neg h2, if_neg (by omega)]
    · rename_i hk
      rw [xget_set]
      by_cases h : j = k + 1
      · simp [h]
      · rw [if_neg h, if_neg h]
        by_cases h2 : j = k
        · subst h2
          have : xlong (xget L j) = false := by
            unfold xlong
            split
            · rename_i a ha
              exact absurd ha (hk a)
            · rfl
          simp [this]
        · rw [if_neg (by omega)]
theorem xvl_get {h : XH} : ∀ {L : List XV}, xvl h L → ∀ i, xget L i = xun ∨ xvo h (xget L i)
  | [], _, _ => Or.inl rfl
  | _ :: _, q, 0 => q.1
  | _ :: _, q, i + 1 => xvl_get q.2 i
theorem xvl_set {h : XH} {v : XV} (hv : v = xun ∨ xvo h v) : ∀ {L : List XV}, xvl h L → ∀ i, xvl h (xset L i v)
  | [], _, _ => trivial
  | _ :: _, q, 0 => ⟨hv, q.2⟩
  | _ :: _, q, i + 1 => ⟨q.1, xvl_set hv q.2 i⟩
theorem xvl_st {h : XH} {v : XV} {L : List XV} (hv : v = xun ∨ xvo h v) (q : xvl h L) (i : Nat) : xvl h (xst L i v) := by
  unfold xst
  split
  · exact xvl_set hv q _
  · split
    · exact xvl_set hv (xvl_set (Or.inl rfl) q _) _
    · exact xvl_set hv q _
theorem xvs_app {h : XH} : ∀ {a c : List XV}, xvs h a → xvs h c → xvs h (a ++ c)
  | [], _, _, q => q
  | _ :: _, _, q, r => ⟨q.1, xvs_app q.2 r⟩
theorem xen_mem {ads : List Nat} {b : Nat} {L : List XV} {i : Nat} (h : xget L i ≠ xun) : (i, xcv ads b (xget L i)) ∈ xen ads b L :=
  List.mem_filterMap.mpr ⟨i, List.mem_range.mpr (xget_lt h), by rw [if_neg h]⟩
theorem xlr_get {ads : List Nat} {b : Nat} {ls : Array Slot} {L : List XV} (h : xlr ads b ls L) {i : Nat} {v : XV} (e : xget L i = v) (hv : v ≠ xun) : ls[i]? = some (.val (xcv ads b v)) := by
  subst e
  exact h.2.2 _ (xen_mem hv)
theorem xcv_cat {ads : List Nat} {b : Nat} {v : XV} (h : xlong v = false) : (xcv ads b v).category = 1 := by
  unfold xcv
  split
  · rfl
  · cases h
  · rfl
theorem xlr_st {ads : List Nat} {b : Nat} {ls' : Array Slot} {L : List XV} {i : Nat} {v : XV} (h' : lv_has ls' L.length ((i, xcv ads b v) :: (xen ads b L).filter (fun q => !(q.1 == i) && !(q.1 + 1 == i && q.2.category == 2)))) (hi : i < L.length) : xlr ads b ls' (xst L i v) := by
  refine ⟨h'.1.trans (xst_len L i v).symm, h'.2.1, fun q hq => ?_⟩
  obtain ⟨j, hj, e⟩ := List.mem_filterMap.mp hq
  by_cases hz : xget (xst L i v) j = xun
  · rw [if_pos hz] at e; cases e
  · rw [if_neg hz] at e
    cases e
    apply h'.2.2
    rw [xget_st] at hz ⊢
    by_cases hji : j = i
    · rw [if_pos hji, if_pos hi]
      subst hji
      exact List.mem_cons_self
    · rw [if_neg hji] at hz ⊢
      by_cases hl : j + 1 = i ∧ xlong (xget L j) = true
      · rw [if_pos hl] at hz; exact absurd rfl hz
      · rw [if_neg hl] at hz ⊢
        refine List.mem_cons_of_mem _ (List.mem_filter.mpr ⟨xen_mem hz, ?_⟩)
        have e1 : (j == i) = false := by simpa using hji
        by_cases hj1 : j + 1 = i
        · have h2 : xlong (xget L j) = false := by
            cases hx : xlong (xget L j) with
            | false => rfl
            | true => exact absurd ⟨hj1, hx⟩ hl
          simp [e1, xcv_cat h2]
        · have e2 : (j + 1 == i) = false := by simpa using hj1
          simp [e1, e2]
theorem xlr_st2 {ads : List Nat} {b : Nat} {ls' : Array Slot} {L : List XV} {i : Nat} {a : Int64} (h' : lv_has ls' L.length ((i, xcv ads b (.inl (.inr a))) :: (xen ads b L).filter (fun q => !(q.1 == i) && (!(q.1 == i + 1) && !(q.1 + 1 == i && q.2.category == 2))))) (hi : i < L.length) : xlr ads b ls' (xset (xst L i (.inl (.inr a))) (i + 1) xun) := by
  refine ⟨h'.1.trans ((xset_len _ _ _).trans (xst_len L i _)).symm, h'.2.1, fun q hq => ?_⟩
  obtain ⟨j, hj, e⟩ := List.mem_filterMap.mp hq
  by_cases hz : xget (xset (xst L i (.inl (.inr a))) (i + 1) xun) j = xun
  · rw [if_pos hz] at e; cases e
  · rw [if_neg hz] at e
    cases e
    apply h'.2.2
    rw [xget_set] at hz ⊢
    by_cases h0 : j = i + 1
    · rw [if_pos h0] at hz
      exfalso
      apply hz
      split <;> rfl
    · rw [if_neg h0] at hz ⊢
      rw [xget_st] at hz ⊢
      by_cases hji : j = i
      · rw [if_pos hji, if_pos hi]
        subst hji
        exact List.mem_cons_self
      · rw [if_neg hji] at hz ⊢
        by_cases hl : j + 1 = i ∧ xlong (xget L j) = true
        · rw [if_pos hl] at hz; exact absurd rfl hz
        · rw [if_neg hl] at hz ⊢
          refine List.mem_cons_of_mem _ (List.mem_filter.mpr ⟨xen_mem hz, ?_⟩)
          have e1 : (j == i) = false := by simpa using hji
          have e0 : (j == i + 1) = false := by simpa using h0
          by_cases hj1 : j + 1 = i
          · have h2 : xlong (xget L j) = false := by
              cases hx : xlong (xget L j) with
              | false => rfl
              | true => exact absurd ⟨hj1, hx⟩ hl
            simp [e1, e0, xcv_cat h2]
          · have e2 : (j + 1 == i) = false := by simpa using hj1
            simp [e1, e0, e2]
theorem xws_at {cA : Nat → ClassId} {ads : List Nat} {b : Nat} {h : XH} {e : Nat} (h1 : 2 ≤ e) (h2 : e < xN h) : (xws cA ads b h)[e - 2]? = some (ads.getD (e - 2) 0, xce cA ads b h e) := by
  unfold xws
  rw [List.getElem?_map, List.getElem?_range (by omega), Option.map_some, show e - 2 + 2 = e by omega]
theorem xad_at {ads : List Nat} {b e : Nat} (h1 : 2 ≤ e) : xad ads b e = ads.getD (e - 2) 0 := by
  unfold xad
  rw [if_neg (by omega)]
theorem xad_1 {ads : List Nat} {b : Nat} : xad ads b 1 = b := by simp [xad]
theorem lset_map {α : Type} {n i : Nat} {f g : Nat → α} {x : α} (hi : i < n) (hx : g i = x) (ho : ∀ j, j ≠ i → g j = f j) : ((List.range n).map f).set i x = (List.range n).map g := by
  apply List.ext_getElem?
  intro j
  by_cases hj : j = i
  · subst hj
    rw [List.getElem?_set_self (by simpa using hi), List.getElem?_map, List.getElem?_range hi, Option.map_some, hx]
  · rw [List.getElem?_set_ne (Ne.symm hj), List.getElem?_map, List.getElem?_map]
    by_cases hl : j < n
    · rw [List.getElem?_range hl, Option.map_some, Option.map_some, ho j hj]
    · rw [List.getElem?_eq_none (by simpa using Nat.not_lt.mp hl)]
      rfl
/-- a write to the cell e changes the picture at its place alone -/
theorem xws_set {cA : Nat → ClassId} {ads : List Nat} {b : Nat} {h h' : XH} {e : Nat} {x : va_E} (h1 : 2 ≤ e) (h2 : e < xN h) (hN : xN h' = xN h) (hx : xce cA ads b h' e = x) (ho : ∀ c, c ≠ e → 2 ≤ c → xce cA ads b h' c = xce cA ads b h c) :
    (xws cA ads b h).set (e - 2) (ads.getD (e - 2) 0, x) = xws cA ads b h' := by
  have e1 : xws cA ads b h' = (List.range (xN h - 2)).map (fun i => (ads.getD i 0, xce cA ads b h' (i + 2))) := by
    unfold xws
    rw [hN]
  rw [e1]
  exact lset_map (by omega) (Prod.ext rfl ((congrArg (xce cA ads b h') (show e - 2 + 2 = e by omega)).trans hx)) (fun j hj => Prod.ext rfl (ho (j + 2) (by omega) (by omega)))
theorem getD_app {l t : List Nat} {i : Nat} (h : i < l.length) : (l ++ t).getD i 0 = l.getD i 0 := by
  simp [List.getD_eq_getElem?_getD, List.getElem?_append_left h]
theorem xad_app {ads t : List Nat} {b e : Nat} (h1 : 2 ≤ e) (h : e < ads.length + 2) : xad (ads ++ t) b e = xad ads b e := by
  rw [xad_at h1, xad_at h1]
  exact getD_app (by omega)
theorem xcv_app {h : XH} {ads t : List Nat} {b : Nat} (hl : ads.length + 2 = xN h) : ∀ {v : XV}, xvo h v → xcv (ads ++ t) b v = xcv ads b v
  | .inl (.inl _), _ => rfl
  | .inl (.inr _), _ => rfl
  | .inr (k, e), hv => by
    show Value.ref _ = Value.ref _
    rcases hv with ⟨-, rfl⟩ | ⟨-, h2, h3, -⟩
    · rw [xad_1, xad_1]
    · rw [xad_app h2 (by omega)]
theorem xcvs_app {h : XH} {ads t : List Nat} {b : Nat} (hl : ads.length + 2 = xN h) : ∀ {st : List XV}, xvs h st → st.map (xcv (ads ++ t) b) = st.map (xcv ads b)
  | [], _ => rfl
  | v :: st, q => by
    show _ :: _ = _ :: _
    rw [xcv_app hl q.1]
    exact congrArg _ (xcvs_app hl q.2)
theorem xlr_app {h : XH} {ads t : List Nat} {b : Nat} {ls : Array Slot} {L : List XV} (hl : ads.length + 2 = xN h) (hv : xvl h L) (q : xlr ads b ls L) : xlr (ads ++ t) b ls L := by
  refine ⟨q.1, q.2.1, fun z hz => ?_⟩
  obtain ⟨j, hj, e⟩ := List.mem_filterMap.mp hz
  by_cases hx : xget L j = xun
  · rw [if_pos hx] at e; cases e
  · rw [if_neg hx] at e
    cases e
    rw [xcv_app hl ((xvl_get hv j).resolve_left hx)]
    exact q.2.2 _ (xen_mem hx)
