/-! CONTRACTS OUT OF PATHS; TRANSITIONS: XT: in method M, from pc to pc', whatever comes then. -/
theorem xin_ok {inl : List Nat} (h : inl.all (fun K => xca.elem K) = true) : ∀ K ∈ inl, XW K := fun K hK => xwK (List.elem_iff.mp (List.all_eq_true.mp h K hK))
theorem CX_path {l : Launch} {full : Bool} {inl : List Nat} {n fr lo K : Nat} {vs rs : List XV} {h : XH} {o : List Nat} {r : XP} (hin : inl.all (fun K => xca.elem K) = true) (hW : xca.elem K = true) (hlen : xlen (xent (xmx K) vs) (xmx K) = true) (hs : xrun full inl none n fr lo [] false K 0 (xent (xmx K) vs) [] h o True = some r) (hr : r.2.2.1 = rs) (ha : r.2.2.2.2.2) : CX l fr lo full K vs h rs r.2.2.2.1 := by
  subst hr
  obtain ⟨⟨c1, c2, c3⟩, c4⟩ := xrun_kp none n _ _ _ _ _ _ _ _ _ _ _ _ hs
  rcases c4 with c4 | ⟨c4, c5⟩
  · cases c4
  · have hlenK := xlen_eq hlen
    have hvl : r.2.2.1.length ≤ 1 := by
      obtain ⟨i', x1, x2, -, y1, y2⟩ := c4
      exact xend_len y2
    exact CX_of (xwK (List.elem_iff.mp hW)) c2 hvl hlenK (c5 ha) (fun {p e R s m args below meth c Q D cA base b Ls xs ads0} C' kend =>
      xrun_ok (xin_ok hin) _ n _ _ _ _ _ _ _ _ _ _ _ _ hs (Or.inl rfl) C' hlenK (Nat.le_refl _) (Nat.le_refl _) ha (kend _ _ c4 (c1.trans hlenK)))
noncomputable def XT (l : Launch) (fr lo : Nat) (full : Bool) (M n u pc : Nat) (L st : List XV) (h : XH) (pc' : Nat) (L' st' : List XV) (h' : XH) : Prop :=
  XM h h' ∧ ∀ (Ls : Nat) (xs : Nat → Int32) (N U : Nat) (F : List XV → XH → Prop), n ≤ N → u ≤ U → XB l Ls xs fr lo full M N U F pc' L' st' h' → XB l Ls xs fr lo full M N U F pc L st h
section XTrans
variable {l : Launch} {fr lo : Nat} {full : Bool} {M n u pc : Nat} {L st : List XV} {h : XH} {pc' : Nat} {L' st' : List XV} {h' : XH}
theorem XT.tr {pc'' : Nat} {L'' st'' : List XV} {h'' : XH} (a : XT l fr lo full M n u pc L st h pc' L' st' h') (b : XT l fr lo full M n u pc' L' st' h' pc'' L'' st'' h'') : XT l fr lo full M n u pc L st h pc'' L'' st'' h'' :=
  ⟨a.1.tr b.1, fun Ls xs N U F hN hU k => a.2 Ls xs N U F hN hU (b.2 Ls xs N U F hN hU k)⟩
theorem XT_path {inl : List Nat} {n' : Nat} {sp o : List Nat} {r : XP} (hin : inl.all (fun K => xca.elem K) = true) (hs : xrun full inl none n' fr lo sp true M pc L st h o True = some r) (hr : r.1 = pc' ∧ r.2.1 = L' ∧ r.2.2.1 = st') (hL : L.length = xmx M) (hn : xN r.2.2.2.1 ≤ n ∧ xU r.2.2.2.1 ≤ u) (ha : r.2.2.2.2.2) : XT l fr lo full M n u pc L st h pc' L' st' r.2.2.2.1 := by
  obtain ⟨rfl, rfl, rfl⟩ := hr
  exact ⟨(xrun_kp none n' _ _ _ _ _ _ _ _ _ _ _ _ hs).1.2.1, fun Ls xs N U F hN hU k => XB_path (xin_ok hin) (Or.inl rfl) hs hL (Nat.le_trans hn.1 hN) (Nat.le_trans hn.2 hU) ha k⟩
theorem XT_call {i : Instr} {aux nx K fr' lo' : Nat} {vs rs rest : List XV} (hi : xins M pc = some (i, aux, nx)) (hK : xcal i = some K) (hL : L.length = xmx M) (hst : xtake aux st [] = (vs, rest)) (hvl : vs.length = aux) (hrc : xrcv i K vs = true) (hX : CX l fr' lo' full K vs h rs h') (hfr : fr' + 1 ≤ fr) (hlo : lo' + (xmx K + 19) ≤ lo) (hw : xw rest ≤ 8) (hn : xN h' ≤ n ∧ xU h' ≤ u) :
    XT l fr lo full M n u pc L st h nx L (rs ++ rest) h' :=
  ⟨hX.1.1, fun Ls xs N U F hN hU k => XB_call hi hK hL hst hvl hrc hX hfr hlo hw ⟨Nat.le_trans hn.1 hN, Nat.le_trans hn.2 hU⟩ k⟩
theorem CX_ofT {K pcR : Nat} {vs rs : List XV} (hne : K ≠ xlaw) (hW : xca.elem K = true) (hlen : xlen (xent (xmx K) vs) (xmx K) = true) (hbo : xrac K rs True) (he : XE K pcR rs) (hL' : L'.length = xmx K) (hn : n ≤ xN h' ∧ u ≤ xU h') (t : XT l fr lo full K n u 0 (xent (xmx K) vs) [] h pcR L' rs h') : CX l fr lo full K vs h rs h' := by
  have hrs : rs.length ≤ 1 := by
    obtain ⟨i', x1, x2, -, y1, y2⟩ := id he
    exact xend_len y2
  exact CX_run hne (xwK (List.elem_iff.mp hW)) t.1 hrs (xlen_eq hlen) hbo (fun Ls xs => t.2 Ls xs _ _ _ hn.1 hn.2 (XB_ret he ⟨rfl, rfl⟩ hL'))
end XTrans
/-! reads behind writes -/
theorem yI_same {h : XH} {c k : Nat} {v : Int32} : xI (xsetI h c k v) c k = v := xu_self
theorem yI_ne {h : XH} {c k c' k' : Nat} {v : Int32} (hn : (c' = c ∧ k' = k) = False) : xI (xsetI h c k v) c' k' = xI h c' k' := by
  show xu h.1 c k v c' k' = _
  unfold xu
  rw [if_neg (fun z => (hn ▸ z : False))]
theorem yI_c {h : XH} {c k c' k' : Nat} {v : Int32} (hn : (c' = c) = False) : xI (xsetI h c k v) c' k' = xI h c' k' := yI_ne (by rw [hn]; exact false_and _)
theorem yR_I {h : XH} {c k c' k' : Nat} {v : Int32} : xR (xsetI h c k v) c' k' = xR h c' k' := rfl
theorem yL_I {h : XH} {c k c' k' : Nat} {v : Int32} : xL (xsetI h c k v) c' k' = xL h c' k' := rfl
theorem yI_row {h : XH} {c c' k' : Nat} {g : Nat → Int32} (hn : (c' = c) = False) : xI (xrowI h c g) c' k' = xI h c' k' := by
  show xr h.1 c g c' k' = _
  unfold xr
  rw [if_neg (fun z => (hn ▸ z : False))]
theorem yI_rowS {h : XH} {c k' : Nat} {g : Nat → Int32} : xI (xrowI h c g) c k' = g k' := by
  show xr h.1 c g c k' = _
  unfold xr
  rw [if_pos rfl]
theorem yR_row {h : XH} {c c' k' : Nat} {g : Nat → Int32} : xR (xrowI h c g) c' k' = xR h c' k' := rfl
theorem yI_R {h : XH} {c k c' k' v : Nat} : xI (xsetR h c k v) c' k' = xI h c' k' := rfl
theorem yR_ne {h : XH} {c k c' k' v : Nat} (hn : (c' = c ∧ k' = k) = False) : xR (xsetR h c k v) c' k' = xR h c' k' := by
  show xu h.2.2.1 c k v c' k' = _
  unfold xu
  rw [if_neg (fun z => (hn ▸ z : False))]
theorem yR_same {h : XH} {c k v : Nat} : xR (xsetR h c k v) c k = v := xu_self
theorem yI_L {h : XH} {c k c' k' : Nat} {v : Int64} : xI (xsetL h c k v) c' k' = xI h c' k' := rfl
theorem yR_L {h : XH} {c k c' k' : Nat} {v : Int64} : xR (xsetL h c k v) c' k' = xR h c' k' := rfl
theorem yN_I {h : XH} {c k : Nat} {v : Int32} : xN (xsetI h c k v) = xN h := rfl
theorem yN_R {h : XH} {c k v : Nat} : xN (xsetR h c k v) = xN h := rfl
theorem yN_L {h : XH} {c k : Nat} {v : Int64} : xN (xsetL h c k v) = xN h := rfl
theorem yN_row {h : XH} {c : Nat} {g : Nat → Int32} : xN (xrowI h c g) = xN h := rfl
theorem yU_I {h : XH} {c k : Nat} {v : Int32} : xU (xsetI h c k v) = xU h := rfl
theorem yU_R {h : XH} {c k v : Nat} : xU (xsetR h c k v) = xU h := rfl
theorem yU_L {h : XH} {c k : Nat} {v : Int64} : xU (xsetL h c k v) = xU h := rfl
theorem yU_row {h : XH} {c : Nat} {g : Nat → Int32} : xU (xrowI h c g) = xU h := rfl
/-! a list of facts about the first objects: reference slots, int slots, cells, slots -/
def FYL (rR : List (Nat × Nat × Nat)) (rI : List (Nat × Nat × Int32)) (h : XH) : Prop := (∀ e ∈ rR, xR h e.1 e.2.1 = e.2.2) ∧ (∀ e ∈ rI, xI h e.1 e.2.1 = e.2.2) ∧ xN h = 153 ∧ xU h = 6051
section XFacts
variable {rR : List (Nat × Nat × Nat)} {rI : List (Nat × Nat × Int32)} {h : XH}
theorem FYL.setI {c k : Nat} {v : Int32} (F : FYL rR rI h) (hn : rI.all (fun e => !(Nat.beq e.1 c && Nat.beq e.2.1 k)) = true) : FYL rR rI (xsetI h c k v) := by
  refine ⟨F.1, fun e he => ?_, F.2.2⟩
  have hz := List.all_eq_true.mp hn e he
  rw [yI_ne]
  · exact F.2.1 e he
  · refine eq_false fun z => ?_
    rw [z.1, z.2, Nat.beq_refl, Nat.beq_refl] at hz
    cases hz
theorem FYL.setC {c k : Nat} {v : Int32} (F : FYL rR rI h) (hn : rI.all (fun e => !Nat.beq e.1 c) = true) : FYL rR rI (xsetI h c k v) := by
  refine ⟨F.1, fun e he => ?_, F.2.2⟩
  have hz := List.all_eq_true.mp hn e he
  rw [yI_c]
  · exact F.2.1 e he
  · refine eq_false fun z => ?_
    rw [z, Nat.beq_refl] at hz
    cases hz
theorem FYL.row {c : Nat} {g : Nat → Int32} (F : FYL rR rI h) (hn : rI.all (fun e => !Nat.beq e.1 c) = true) : FYL rR rI (xrowI h c g) := by
  refine ⟨F.1, fun e he => ?_, F.2.2⟩
  have hz := List.all_eq_true.mp hn e he
  rw [yI_row]
  · exact F.2.1 e he
  · refine eq_false fun z => ?_
    rw [z, Nat.beq_refl] at hz
    cases hz
theorem FYL.setR {c k v : Nat} (F : FYL rR rI h) (hn : rR.all (fun e => !(Nat.beq e.1 c && Nat.beq e.2.1 k) || Nat.beq e.2.2 v) = true) : FYL rR rI (xsetR h c k v) := by
  refine ⟨fun e he => ?_, F.2.1, F.2.2⟩
  have hz := List.all_eq_true.mp hn e he
  show xu h.2.2.1 c k v e.1 e.2.1 = _
  unfold xu
  by_cases hc : e.1 = c ∧ e.2.1 = k
  · rw [if_pos hc]
    rw [hc.1, hc.2, Nat.beq_refl, Nat.beq_refl] at hz
    exact (Nat.eq_of_beq_eq_true hz).symm
  · rw [if_neg hc]
    exact F.1 e he
theorem FYL.setRv {c k v w : Nat} (F : FYL rR rI h) (hv : v = w) (hn : rR.all (fun e => !(Nat.beq e.1 c && Nat.beq e.2.1 k) || Nat.beq e.2.2 w) = true) : FYL rR rI (xsetR h c k v) := by
  subst hv
  exact F.setR hn
theorem FYL.setL {c k : Nat} {v : Int64} (F : FYL rR rI h) : FYL rR rI (xsetL h c k v) := F
end XFacts
/-! ints -/
theorem yo {z : Int} {x : Int32} (h : Int32.ofInt z = x) : Int32.ofInt z = x := h
theorem y_succ {k : Int32} (h0 : 0 ≤ k.toInt) (h1 : k.toInt < 100000) : (k + 1).toInt = k.toInt + 1 := by
  rw [Int32.toInt_add, show (1 : Int32).toInt = 1 from rfl]
  exact Int.bmod_eq_of_le (by omega) (by omega)
