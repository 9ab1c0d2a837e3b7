/-! CONTRACTS BY HAND: Past. -/
theorem vp_of {i : Int32} {n : Nat} (h0 : 0 ≤ i.toInt) (h1 : i.toInt < n) : vp_in i n := by
  rintro (z | z)
  · have z := Int32.lt_iff_toInt_lt.mp z
    have e0 : (0 : Int32).toInt = 0 := rfl
    omega
  · have e : i.toNatClampNeg = i.toInt.toNat := rfl
    rw [e] at z
    omega
set_option maxRecDepth 100000 in
set_option maxHeartbeats 1000000 in
theorem vh_take_run (l : Launch) (h : XH) (hg : sinv vT h) (hs : (0 : Int32) < xI h 81 0) : ∃ s1 : Int32, s1.toInt = (xI h 81 0).toInt - 1 ∧ CX l 0 0 false 162 [xf 6 81] h [xi 1] (xsetI (xsetI (xsetI (xsetI h 81 0 s1) 81 1 (xI h 82 s1.toNatClampNeg)) 81 2 (xI h 83 s1.toNatClampNeg)) 81 3 (xI h 84 s1.toNatClampNeg)) := by
  have r4 : xR h 81 4 = 82 := vref hg rfl
  have r5 : xR h 81 5 = 83 := vref hg rfl
  have r6 : xR h 81 6 = 84 := vref hg rfl
  have hb : (0 : Int) ≤ (xI h 81 0).toInt ∧ (xI h 81 0).toInt ≤ 20 := vbnd hg 81 0
  have hs' := Int32.lt_iff_toInt_lt.mp hs
  have e0 : (0 : Int32).toInt = 0 := rfl
  have es : (xI h 81 0 - 1).toInt = (xI h 81 0).toInt - 1 := by
    rw [Int32.toInt_sub, show (1 : Int32).toInt = 1 from rfl]
    exact Int.bmod_eq_of_le (by omega) (by omega)
  have hin : vp_in (xI h 81 0 - 1) 20 := vp_of (by omega) (by omega)
  refine ⟨xI h 81 0 - 1, es, ?_⟩
  have key := CX_path (l := l) (full := false) (inl := []) (n := 60) (fr := 0) (lo := 0) (K := 162) (vs := [xf 6 81]) (h := h) (rs := [xi 1]) (o := [1]) rfl rfl rfl rfl rfl
  simp [r4, r5, r6, yI_same, yI_ne, yI_c, yR_I] at key
  exact key hs hin hin hin
/-- four fields of one cell written -/
theorem vfields {h : XH} {c : Nat} {a b x y : Int32} (hg : sgood vT vR vE 153 6051 h) (h0 : (vI c 0).1 ≤ a.toInt ∧ a.toInt ≤ (vI c 0).2) (h1 : (vI c 1).1 ≤ b.toInt ∧ b.toInt ≤ (vI c 1).2) (h2 : (vI c 2).1 ≤ x.toInt ∧ x.toInt ≤ (vI c 2).2) (h3 : (vI c 3).1 ≤ y.toInt ∧ y.toInt ≤ (vI c 3).2) (n0 : stou vRC (c, 0, false) = false) (n1 : stou vRC (c, 1, false) = false) (n2 : stou vRC (c, 2, false) = false) (n3 : stou vRC (c, 3, false) = false) (ne : ∀ k, swin vEC c k = false) : sgood vT vR vE 153 6051 (xsetI (xsetI (xsetI (xsetI h c 0 a) c 1 b) c 2 x) c 3 y) := by
  refine ⟨sinv_setI (sinv_setI (sinv_setI (sinv_setI hg.1 h0) h1) h2) h3, srw_setI (srw_setI (srw_setI (srw_setI hg.2.1 n0) n1) n2) n3, ?_, hg.2.2.2⟩
  refine vE_fr h _ (fun c' k' hck => ?_) hg.2.2.1
  have hc : ¬ c' = c := fun z => by
    rw [z, ne k'] at hck
    cases hck
  rw [yI_c (eq_false hc), yI_c (eq_false hc), yI_c (eq_false hc), yI_c (eq_false hc)]
theorem vh_take (l : Launch) : scm l vT vR vE 153 6051 (162, 0, 0, [.inr (.inr (6, 81))], [], [], [([], [], some (.inl (0, 0)), [], [], []), ([], [], some (.inl (1, 1)), [(81, 1, (0, 0)), (81, 2, (0, 7)), (81, 3, (-1, 2))], [], []), ([], [], some (.inl (1, 1)), [(81, 1, (1, 1)), (81, 2, (0, 7)), (81, 3, (0, 5))], [], []), ([], [], some (.inl (1, 1)), [(81, 1, (2, 2)), (81, 2, (0, 5)), (81, 3, (0, 9))], [], [])], ([(81, 0, false), (81, 1, false), (81, 2, false), (81, 3, false)], []), []) := by
  intro vs h ha hg hR hW hP
  match vs, ha with
  | [.inr w], ha =>
    obtain rfl : w = (6, 81) := ha.1
    have nil1 : ∀ {ρ : Nat → Int} {k : Nat}, ∀ i q, ([] : List SI)[i]? = some q → q.1 ≤ ρ (k + i) ∧ ρ (k + i) ≤ q.2 := fun i q hq => by cases hq
    have hb : (0 : Int) ≤ (xI h 81 0).toInt ∧ (xI h 81 0).toInt ≤ 20 := vbnd hg.1 81 0
    by_cases hs : (0 : Int32) < xI h 81 0
    · obtain ⟨s1, e1, hX⟩ := vh_take_run l h hg.1 hs
      have hs' := Int32.lt_iff_toInt_lt.mp hs
      have e0 : (0 : Int32).toInt = 0 := rfl
      have hn : s1.toNatClampNeg < 20 := by
        show s1.toInt.toNat < 20
        omega
      have b1 : (0 : Int) ≤ (xI h 82 s1.toNatClampNeg).toInt ∧ (xI h 82 s1.toNatClampNeg).toInt ≤ 2 := vbnd hg.1 82 _
      have b2 : (0 : Int) ≤ (xI h 83 s1.toNatClampNeg).toInt ∧ (xI h 83 s1.toNatClampNeg).toInt ≤ 7 := vbnd hg.1 83 _
      have b3 : (-1 : Int) ≤ (xI h 84 s1.toNatClampNeg).toInt ∧ (xI h 84 s1.toNatClampNeg).toInt ≤ 9 := vbnd hg.1 84 _
      obtain ⟨p1, p2, p3⟩ := hg.2.2.1.1 _ hn
      have hgood := vfields (c := 81) (a := s1) (b := xI h 82 s1.toNatClampNeg) (x := xI h 83 s1.toNatClampNeg) (y := xI h 84 s1.toNatClampNeg) hg (show (0 : Int) ≤ _ ∧ _ ≤ (20 : Int) from ⟨by omega, by omega⟩) b1 b2 b3 rfl rfl rfl rfl (fun k => rfl)
      have hfr : sframe ([(81, 0, false), (81, 1, false), (81, 2, false), (81, 3, false)], []) h (xsetI (xsetI (xsetI (xsetI h 81 0 s1) 81 1 (xI h 82 s1.toNatClampNeg)) 81 2 (xI h 83 s1.toNatClampNeg)) 81 3 (xI h 84 s1.toNatClampNeg)) := by
        refine ⟨fun c k hck => ?_, fun _ _ _ => rfl⟩
        have d : ∀ j, j < 4 → ¬ (c = 81 ∧ k = j) := fun j hj z => by
          rw [z.1, z.2] at hck
          revert hck
          match j, hj with
          | 0, _ => exact fun z => by cases z
          | 1, _ => exact fun z => by cases z
          | 2, _ => exact fun z => by cases z
          | 3, _ => exact fun z => by cases z
        rw [yI_ne (eq_false (d 3 (by decide))), yI_ne (eq_false (d 2 (by decide))), yI_ne (eq_false (d 1 (by decide))), yI_ne (eq_false (d 0 (by decide)))]
      have rd : xI (xsetI (xsetI (xsetI (xsetI h 81 0 s1) 81 1 (xI h 82 s1.toNatClampNeg)) 81 2 (xI h 83 s1.toNatClampNeg)) 81 3 (xI h 84 s1.toNatClampNeg)) 81 1 = xI h 82 s1.toNatClampNeg ∧ xI (xsetI (xsetI (xsetI (xsetI h 81 0 s1) 81 1 (xI h 82 s1.toNatClampNeg)) 81 2 (xI h 83 s1.toNatClampNeg)) 81 3 (xI h 84 s1.toNatClampNeg)) 81 2 = xI h 83 s1.toNatClampNeg ∧ xI (xsetI (xsetI (xsetI (xsetI h 81 0 s1) 81 1 (xI h 82 s1.toNatClampNeg)) 81 2 (xI h 83 s1.toNatClampNeg)) 81 3 (xI h 84 s1.toNatClampNeg)) 81 3 = xI h 84 s1.toNatClampNeg := by
        refine ⟨?_, ?_, ?_⟩ <;> simp [yI_same, yI_ne]
      have fin : ∀ cs ∈ ([([], [], some (.inl (1, 1)), [(81, 1, (0, 0)), (81, 2, (0, 7)), (81, 3, (-1, 2))], [], []), ([], [], some (.inl (1, 1)), [(81, 1, (1, 1)), (81, 2, (0, 7)), (81, 3, (0, 5))], [], []), ([], [], some (.inl (1, 1)), [(81, 1, (2, 2)), (81, 2, (0, 5)), (81, 3, (0, 9))], [], [])] : List SCs), (∀ q ∈ cs.2.2.2.1, sqin (xsetI (xsetI (xsetI (xsetI h 81 0 s1) 81 1 (xI h 82 s1.toNatClampNeg)) 81 2 (xI h 83 s1.toNatClampNeg)) 81 3 (xI h 84 s1.toNatClampNeg)) q) → cs.1 = [] ∧ cs.2.1 = [] ∧ cs.2.2.1 = some (.inl (1, 1)) ∧ cs.2.2.2.2 = ([], []) → ∃ ρ rs h', svals (162, 0, 0, [.inr (.inr (6, 81))], [], [], [([], [], some (.inl (0, 0)), [], [], []), ([], [], some (.inl (1, 1)), [(81, 1, (0, 0)), (81, 2, (0, 7)), (81, 3, (-1, 2))], [], []), ([], [], some (.inl (1, 1)), [(81, 1, (1, 1)), (81, 2, (0, 7)), (81, 3, (0, 5))], [], []), ([], [], some (.inl (1, 1)), [(81, 1, (2, 2)), (81, 2, (0, 5)), (81, 3, (0, 9))], [], [])], ([(81, 0, false), (81, 1, false), (81, 2, false), (81, 3, false)], []), []) [.inr (6, 81)] h ρ ∧ CX l 0 0 false 162 [.inr (6, 81)] h rs h' ∧ spost vT vR vE 153 6051 (162, 0, 0, [.inr (.inr (6, 81))], [], [], [([], [], some (.inl (0, 0)), [], [], []), ([], [], some (.inl (1, 1)), [(81, 1, (0, 0)), (81, 2, (0, 7)), (81, 3, (-1, 2))], [], []), ([], [], some (.inl (1, 1)), [(81, 1, (1, 1)), (81, 2, (0, 7)), (81, 3, (0, 5))], [], []), ([], [], some (.inl (1, 1)), [(81, 1, (2, 2)), (81, 2, (0, 5)), (81, 3, (0, 9))], [], [])], ([(81, 0, false), (81, 1, false), (81, 2, false), (81, 3, false)], []), []) ρ h rs h' := fun cs hcs hq hz => by
        refine ⟨fun _ => 0, _, _, ⟨trivial, fun i q hq => by cases hq⟩, hX, hgood, hfr, cs, List.mem_cons_of_mem _ hcs, ?_, ?_, ?_, hq, ?_, ?_⟩
        · rw [hz.1]; exact fun i q hq => by cases hq
        · rw [hz.2.1]; exact fun i q hq => by cases hq
        · rw [hz.2.2.1]; exact ⟨by decide, by decide⟩
        · rw [hz.2.2.2]; exact fun q hq => absurd hq List.not_mem_nil
        · rw [hz.2.2.2]; exact fun q hq => absurd hq List.not_mem_nil
      have three : ∀ (x y z : SI), (x.1 ≤ (xI h 82 s1.toNatClampNeg).toInt ∧ (xI h 82 s1.toNatClampNeg).toInt ≤ x.2) → (y.1 ≤ (xI h 83 s1.toNatClampNeg).toInt ∧ (xI h 83 s1.toNatClampNeg).toInt ≤ y.2) → (z.1 ≤ (xI h 84 s1.toNatClampNeg).toInt ∧ (xI h 84 s1.toNatClampNeg).toInt ≤ z.2) → ∀ q ∈ ([(81, 1, x), (81, 2, y), (81, 3, z)] : List SQ), sqin (xsetI (xsetI (xsetI (xsetI h 81 0 s1) 81 1 (xI h 82 s1.toNatClampNeg)) 81 2 (xI h 83 s1.toNatClampNeg)) 81 3 (xI h 84 s1.toNatClampNeg)) q := fun x y z hx hy hz q hq => by
        rcases List.mem_cons.mp hq with rfl | hq
        · unfold sqin
          dsimp only
          rw [rd.1]
          exact hx
        · rcases List.mem_cons.mp hq with rfl | hq
          · unfold sqin
            dsimp only
            rw [rd.2.1]
            exact hy
          · rw [List.mem_singleton.mp hq]
            unfold sqin
            dsimp only
            rw [rd.2.2]
            exact hz
      rcases (show (xI h 82 s1.toNatClampNeg).toInt = 0 ∨ (xI h 82 s1.toNatClampNeg).toInt = 1 ∨ (xI h 82 s1.toNatClampNeg).toInt = 2 by omega) with z | z | z
      · exact fin _ List.mem_cons_self (three _ _ _ ⟨by show (0 : Int) ≤ _; omega, by show _ ≤ (0 : Int); omega⟩ b2 (p1 z)) ⟨rfl, rfl, rfl, rfl⟩
      · exact fin _ (List.mem_cons_of_mem _ List.mem_cons_self) (three _ _ _ ⟨by show (1 : Int) ≤ _; omega, by show _ ≤ (1 : Int); omega⟩ b2 (p2 z)) ⟨rfl, rfl, rfl, rfl⟩
      · have p3' := p3 z
        exact fin _ (List.mem_cons_of_mem _ (List.mem_cons_of_mem _ List.mem_cons_self)) (three _ _ _ ⟨by show (2 : Int) ≤ _; omega, by show _ ≤ (2 : Int); omega⟩ ⟨by show (0 : Int) ≤ _; omega, by show _ ≤ (5 : Int); omega⟩ p3'.2) ⟨rfl, rfl, rfl, rfl⟩
    · have hX := CX_path (l := l) (full := false) (inl := []) (n := 60) (fr := 0) (lo := 0) (K := 162) (vs := [xf 6 81]) (h := h) (rs := [xi 0]) (o := [0]) rfl rfl rfl rfl rfl ⟨⟨trivial, hs⟩, Or.inl rfl⟩
      exact ⟨fun _ => 0, _, _, ⟨trivial, fun i q hq => by cases hq⟩, hX, hg, sframe.rf, _, List.mem_cons_self, scas_one (fun i q hq => by cases hq) (fun i q hq => by cases hq) ⟨by decide, by decide⟩⟩
