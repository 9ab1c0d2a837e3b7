/-! PAIRS: what is tried comes out alike on heaps that agree but for votes and the mark of an error. -/
def vHs (hs h : XH) : Prop := (∀ k, k < 6 → xI h 134 k = xI hs 134 k) ∧ (∀ k, k < 8 → xI h 136 k = xI hs 136 k) ∧ (∀ k, k < 8 → xI h 137 k = xI hs 137 k)
def vEs (hs h : XH) : Prop := vE h ∧ vHs hs h
def vECs : SWl := vEC ++ [(134, 0, false), (134, 1, false), (134, 2, false), (134, 3, false), (134, 4, false), (134, 5, false), (136, 0, false), (136, 1, false), (136, 2, false), (136, 3, false), (136, 4, false), (136, 5, false), (136, 6, false), (136, 7, false), (137, 0, false), (137, 1, false), (137, 2, false), (137, 3, false), (137, 4, false), (137, 5, false), (137, 6, false), (137, 7, false)]
def vD : SWl := [(139, 0, true), (104, 54, false)]
theorem vECs_1 {c k : Nat} (h : swin vEC c k = true) : swin vECs c k = true := by
  unfold swin at h ⊢
  unfold vECs
  rw [List.any_append, h]
  rfl
theorem vECs_2 : (∀ k, k < 6 → swin vECs 134 k = true) ∧ (∀ k, k < 8 → swin vECs 136 k = true) ∧ (∀ k, k < 8 → swin vECs 137 k = true) := by decide +kernel
theorem vtabs (hs : XH) : stab vT vR (vEs hs) vRC vECs := ⟨vT_ok, vT_w, vR_c, fun h h' hf H => ⟨vE_fr h h' (fun c k hck => hf c k (vECs_1 hck)) H.1, fun k hk => (hf 134 k (vECs_2.1 k hk)).trans (H.2.1 k hk), fun k hk => (hf 136 k (vECs_2.2.1 k hk)).trans (H.2.2.1 k hk), fun k hk => (hf 137 k (vECs_2.2.2 k hk)).trans (H.2.2.2 k hk)⟩⟩
theorem smemP0 {l : Launch} {hs : XH} {P : XLP} : ∀ F ∈ ([] : List SCt), scmP l vT vR (vEs hs) 153 6051 vD P F := fun F hF => absurd hF List.not_mem_nil
theorem smemP1 {l : Launch} {hs : XH} {P : XLP} {C : SCt} {CS : List SCt} (h : scmP l vT vR (vEs hs) 153 6051 vD P C) (k : ∀ F ∈ CS, scmP l vT vR (vEs hs) 153 6051 vD P F) : ∀ F ∈ C :: CS, scmP l vT vR (vEs hs) 153 6051 vD P F := fun F hF => by
  rcases List.mem_cons.mp hF with rfl | hF
  · exact h
  · exact k F hF
theorem vp_78 (l : Launch) (hs : XH) (P : XLP) : scmP l vT vR (vEs hs) 153 6051 vD P vC_78 := scmP_of (RC := vRC) (EC := vECs) (CS := []) (HN := []) (IT := []) (fu := 6000) (vtabs hs) smemP0 (by decide +kernel)
theorem vp_79 (l : Launch) (hs : XH) (P : XLP) : scmP l vT vR (vEs hs) 153 6051 vD P vC_79 := scmP_of (RC := vRC) (EC := vECs) (CS := [vC_78]) (HN := [(33, [(0, (1, 0, 0), [])])]) (IT := []) (fu := 6000) (vtabs hs) (smemP1 (vp_78 l hs P) smemP0) (by decide +kernel)
theorem vp_77 (l : Launch) (hs : XH) (P : XLP) : scmP l vT vR (vEs hs) 153 6051 vD P vC_77 := scmP_of (RC := vRC) (EC := vECs) (CS := []) (HN := []) (IT := [((5, ([((0, 1), 0, 0), ((0, 5), 0, 0), ((0, 8), 0, 0), (sfull, 0, 0)], [], [sref 13 104, sint (1, 0), sint (2, 0), sint (4, 0), sint (3, 0)], [], ([], [])), 2, [(0, 4, 0), (0, 3, 0)], [], 1, []), [])]) (fu := 6000) (vtabs hs) smemP0 (by decide +kernel)
theorem vp_80 (l : Launch) (hs : XH) (P : XLP) : scmP l vT vR (vEs hs) 153 6051 vD P vC_80 := scmP_of (RC := vRC) (EC := vECs) (CS := [vC_79]) (HN := []) (IT := [((5, ([((0, 1), 0, 0), ((0, 5), 0, 0), ((0, 9), 0, 0), (sfull, 0, 0)], [], [sref 13 104, sint (1, 0), sint (2, 0), sint (4, 0), sint (3, 0)], [], ([], [])), 2, [(0, 4, 0), (0, 3, 0)], [], 1, []), [])]) (fu := 6000) (vtabs hs) (smemP1 (vp_79 l hs P) smemP0) (by decide +kernel)
theorem vp_103 (l : Launch) (hs : XH) (P : XLP) : scmP l vT vR (vEs hs) 153 6051 vD P vC_103 := scmP_of (RC := vRC) (EC := vECs) (CS := []) (HN := []) (IT := []) (fu := 6000) (vtabs hs) smemP0 (by decide +kernel)
theorem vp_182 (l : Launch) (hs : XH) (P : XLP) : scmP l vT vR (vEs hs) 153 6051 vD P vC_182 := scmP_of (RC := vRC) (EC := vECs) (CS := []) (HN := []) (IT := []) (fu := 6000) (vtabs hs) smemP0 (by decide +kernel)
