/-! the same, an item at a time -/
noncomputable def sctk0 (T : ST) (R : List SRl) (RC EC : SWl) (CS : List SCt) (C : SCt) (HN : List (Nat × List SHn)) (IT : List SIt) (fu : Nat) : Bool :=
  (((!Nat.beq C.1 xlaw && xca.elem C.1) && Nat.beq (sinE (xmx C.1) 0 0 (cap C)).length (xmx C.1)) && (CS.all (fun D => swsub (cww D).1 (cww C).1 && (cww D).2.all (fun q => swiR (cww C).2 q.1 q.2)) && (ccs C).all (fun cs => Nat.ble cs.1.length (sarn (cap C)) && Nat.ble cs.2.1.length (cwt C).length))) && ((senv IT IT.length []).all (fun e => Nat.ble (slev e) (sna C) && Nat.ble (sna C) e.2.2.1) && srn T R RC EC CS C.2.1 C.2.2.1 C.1 C HN (senv IT IT.length []) fu 0 true (sini (xmx C.1) C) ((cpr C).map (fun g => (g.2.1, g.1, g.2.2))) [] && (cpr C).all (fun g => Nat.blt g.1 (sna C) && Nat.blt g.2.1 (sna C)))
theorem scm_of2 {l : Launch} {T : ST} {R : List SRl} {E : XH → Prop} {RC EC : SWl} {nn uu : Nat} {CS : List SCt} {C : SCt} {HN : List (Nat × List SHn)} {IT : List SIt} {fu : Nat} (hT : stab T R E RC EC) (hCS : ∀ D ∈ CS, scm l T R E nn uu D) (hit : ∀ j, j < IT.length → sck T R RC EC CS C.2.1 C.2.2.1 C.1 C HN IT fu j = true) (hd : sctk0 T R RC EC CS C HN IT fu = true) : scm l T R E nn uu C := by
  refine scm_of (CS := CS) (HN := HN) (IT := IT) (fu := fu) hT hCS ?_
  unfold sctk0 at hd
  unfold sctk
  rw [Bool.and_eq_true] at hd ⊢
  refine ⟨hd.1, ?_⟩
  rw [Bool.and_eq_true]
  exact ⟨List.all_eq_true.mpr fun j hj => hit j (List.mem_range.mp hj), hd.2⟩
