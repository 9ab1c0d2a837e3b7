/-! HEAPS WRITTEN BY HAND: what is kept. -/
section VSet
variable {h : XH}
theorem vref (hg : sinv vT h) {c k x : Nat} (e : vRf c k = [x]) : xR h c k = x := by
  have h1 : xR h c k ∈ vRf c k := hg.2 c k (by show vRf c k ≠ []; rw [e]; exact List.cons_ne_nil _ _)
  rw [e] at h1
  exact List.mem_singleton.mp h1
theorem vbnd (hg : sinv vT h) (c k : Nat) : (vI c k).1 ≤ (xI h c k).toInt ∧ (xI h c k).toInt ≤ (vI c k).2 := hg.1 c k
theorem sinv_setI (hg : sinv vT h) {c k : Nat} {v : Int32} (hv : (vI c k).1 ≤ v.toInt ∧ v.toInt ≤ (vI c k).2) : sinv vT (xsetI h c k v) := by
  refine ⟨fun c' k' => ?_, hg.2⟩
  by_cases hc : c' = c ∧ k' = k
  · obtain ⟨rfl, rfl⟩ := hc
    rw [yI_same]
    exact hv
  · rw [yI_ne (eq_false hc)]
    exact hg.1 c' k'
theorem srw_setI (hr : srw vR [] h) {c k : Nat} {v : Int32} (hn : stou vRC (c, k, false) = false) : srw vR [] (xsetI h c k v) := by
  have h1 : srw vR ([(c, k, false)] ++ []) (xsetI h c k v) := srw_frame hr (fun c' k' hc => yI_ne (eq_false (swin1 hc)))
  have h2 := srw_rel (v := [(c, k, false)]) (w := []) vR_c h1
  have e : ([(c, k, false)] : SWl).filter (stou vRC) = [] := by
    show (bif stou vRC (c, k, false) then _ else _) = _
    rw [hn]
    rfl
  rw [e] at h2
  exact h2
theorem srw_row (hr : srw vR [] h) {c : Nat} {g : Nat → Int32} (hn : stou vRC (c, 0, true) = false) : srw vR [] (xrowI h c g) := by
  have h1 : srw vR ([(c, 0, true)] ++ []) (xrowI h c g) := srw_frame hr (fun c' k' hc => yI_row (eq_false (swin2 hc)))
  have h2 := srw_rel (v := [(c, 0, true)]) (w := []) vR_c h1
  have e : ([(c, 0, true)] : SWl).filter (stou vRC) = [] := by
    show (bif stou vRC (c, 0, true) then _ else _) = _
    rw [hn]
    rfl
  rw [e] at h2
  exact h2
theorem sinv_row (hg : sinv vT h) {c : Nat} {g : Nat → Int32} (hv : ∀ k, (vI c k).1 ≤ (g k).toInt ∧ (g k).toInt ≤ (vI c k).2) : sinv vT (xrowI h c g) := by
  refine ⟨fun c' k' => ?_, hg.2⟩
  by_cases hc : c' = c
  · subst hc
    rw [yI_rowS]
    exact hv k'
  · rw [yI_row (eq_false hc)]
    exact hg.1 c' k'
end VSet
