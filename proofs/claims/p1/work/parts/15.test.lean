theorem xin_ok {inl : List Nat} (h : inl.all (fun K => xca.elem K) = true) : ∀ K ∈ inl, XW K := fun K hK => xwK (List.elem_iff.mp (List.all_eq_true.mp h K hK))
abbrev xlh : List XV := [xf 50 1, xf 12 2, xf 13 104, xf 40001 152, xi 0, xun, xun]
set_option maxRecDepth 100000 in
set_option maxHeartbeats 4000000 in
theorem tst_c2 (l : Launch) (xs : Nat → Int32) (h : XH) : XB l 6 xs 14 540 false 289 157 6079 (fun rs _ => rs = [xi 1]) 23 xlh [] h := by
  refine XB_path (sc := some (6, xs)) (inl := [69, 212]) (n := 57) (sp := []) (o := [0, 3, 1, 0, 1, 1]) (xin_ok rfl) (Or.inr rfl) rfl rfl ?_ ?_ ?_ (XB_ret ?_ ?_ rfl)
  · sorry
  · sorry
  · trace_state
    sorry
  · exact ⟨_, _, _, rfl, rfl, rfl⟩
  · rfl
