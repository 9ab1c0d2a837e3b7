/-! CONTRACTS BY HAND: Past.add. -/
def vCadd (kd w1 w2 a1 a2 : Int) : SCt := (93, 1, 45, [.inr (.inr (6, 81)), .inl (kd, kd), .inl (w1, w2), .inl (a1, a2)], [], [], [([(kd, kd), (w1, w2), (a1, a2)], [], none, [], [], [])], ([(81, 0, false), (82, 0, true), (83, 0, true), (84, 0, true)], []), [])
set_option maxRecDepth 100000 in
set_option maxHeartbeats 1000000 in
theorem vh_add_run1 (l : Launch) (h : XH) (hg : sinv vT h) (x y z : Int32) (hs : xI h 81 0 < 20) : ∃ s1 : Int32, s1.toInt = (xI h 81 0).toInt + 1 ∧ CX l 1 45 false 93 [xf 6 81, xi x, xi y, xi z] h [] (xsetI (xsetI (xsetI (xsetI h 82 (xI h 81 0).toNatClampNeg x) 83 (xI h 81 0).toNatClampNeg y) 84 (xI h 81 0).toNatClampNeg z) 81 0 s1) := by
  have r4 : xR h 81 4 = 82 := vref hg rfl
  have r5 : xR h 81 5 = 83 := vref hg rfl
  have r6 : xR h 81 6 = 84 := vref hg rfl
  have hb : (0 : Int) ≤ (xI h 81 0).toInt ∧ (xI h 81 0).toInt ≤ 20 := vbnd hg 81 0
  have hs' := Int32.lt_iff_toInt_lt.mp hs
  have e0 : (20 : Int32).toInt = 20 := rfl
  have es : (xI h 81 0 + 1).toInt = (xI h 81 0).toInt + 1 := by
    rw [Int32.toInt_add, show (1 : Int32).toInt = 1 from rfl]
    exact Int.bmod_eq_of_le (by omega) (by omega)
  have hin : vp_in (xI h 81 0) 20 := vp_of (by omega) (by omega)
  refine ⟨xI h 81 0 + 1, es, ?_⟩
  have key := CX_path (l := l) (full := false) (inl := []) (n := 60) (fr := 1) (lo := 45) (K := 93) (vs := [xf 6 81, xi x, xi y, xi z]) (h := h) (rs := []) (o := [1]) rfl rfl rfl rfl rfl
  simp [r4, r5, r6, yI_same, yI_ne, yI_c, yR_I] at key
  exact key hs hin hin hin
set_option maxRecDepth 100000 in
set_option maxHeartbeats 1000000 in
theorem vh_add_run2 (l : Launch) (h : XH) (hg : sinv vT h) (x y z : Int32) (hs : ¬ xI h 81 0 < 20) : CX l 1 45 false 93 [xf 6 81, xi x, xi y, xi z] h [] (xsetI (xsetI (xsetI (xsetI (xrowI (xrowI (xrowI (xsetI h 81 0 19) 82 (va_cpy (xI h 82) (xI h 82) 1 0 19)) 83 (va_cpy (xI h 83) (xI h 83) 1 0 19)) 84 (va_cpy (xI h 84) (xI h 84) 1 0 19)) 82 19 x) 83 19 y) 84 19 z) 81 0 20) := by
  have r4 : xR h 81 4 = 82 := vref hg rfl
  have r5 : xR h 81 5 = 83 := vref hg rfl
  have r6 : xR h 81 6 = 84 := vref hg rfl
  have f82 : ∀ v, xI (xsetI h 81 0 v) 82 = xI h 82 := fun v => funext fun k => yI_c (by decide)
  have f83 : ∀ v g, xI (xrowI (xsetI h 81 0 v) 82 g) 83 = xI h 83 := fun v g => funext fun k => by rw [yI_row (by decide), yI_c (by decide)]
  have f84 : ∀ v g g', xI (xrowI (xrowI (xsetI h 81 0 v) 82 g) 83 g') 84 = xI h 84 := fun v g g' => funext fun k => by rw [yI_row (by decide), yI_row (by decide), yI_c (by decide)]
  have key := CX_path (l := l) (full := false) (inl := []) (n := 60) (fr := 1) (lo := 45) (K := 93) (vs := [xf 6 81, xi x, xi y, xi z]) (h := h) (rs := []) (o := [0]) rfl rfl rfl rfl rfl
  simp [r4, r5, r6, yI_same, yI_ne, yI_c, yR_I, yI_row, yR_row, f82, f83, f84] at key
  exact key (Int32.not_lt.mp hs) (Nat.le_refl 20) (by decide) (Nat.le_refl 20) (by decide) (Nat.le_refl 20) (by decide) (vp_of (n := 20) (by decide) (by decide)) (vp_of (n := 20) (by decide) (by decide)) (vp_of (n := 20) (by decide) (by decide))
theorem vh_add (l : Launch) (kd w1 w2 a1 a2 : Int) (hk : 0 ≤ kd ∧ kd ≤ 2) (hw : 0 ≤ w1 ∧ w2 ≤ 7) (ha' : -1 ≤ a1 ∧ a2 ≤ 9) (hr : (kd = 0 → a2 ≤ 2) ∧ (kd = 1 → 0 ≤ a1 ∧ a2 ≤ 5) ∧ (kd = 2 → w2 ≤ 5 ∧ 0 ≤ a1)) : scm l vT vR vE 153 6051 (vCadd kd w1 w2 a1 a2) := by
  intro vs h ha hg hR hW hP
  match vs, ha with
  | [.inr w, .inl (.inl x), .inl (.inl y), .inl (.inl z)], ha =>
    obtain rfl : w = (6, 81) := ha.1
    have bx : kd ≤ x.toInt ∧ x.toInt ≤ kd := ha.2.1
    have by' : w1 ≤ y.toInt ∧ y.toInt ≤ w2 := ha.2.2.1
    have bz : a1 ≤ z.toInt ∧ z.toInt ≤ a2 := ha.2.2.2.1
    have hb : (0 : Int) ≤ (xI h 81 0).toInt ∧ (xI h 81 0).toInt ≤ 20 := vbnd hg.1 81 0
    have ex : x.toInt = kd := by omega
    have hp : prel x y z := by
      unfold prel
      rw [ex]
      exact ⟨fun e => ⟨by omega, by have := hr.1 e; omega⟩, fun e => ⟨by have := hr.2.1 e; omega, by have := hr.2.1 e; omega⟩, fun e => ⟨by have := hr.2.2 e; omega, by have := hr.2.2 e; omega, by omega⟩⟩
    have u82 : ∀ k, vI 82 k = (0, 2) := vI_u (by decide +kernel) (by decide +kernel)
    have vx : ∀ k, (vI 82 k).1 ≤ x.toInt ∧ x.toInt ≤ (vI 82 k).2 := fun k => by
      rw [u82 k]
      exact ⟨by show (0 : Int) ≤ _; omega, by show _ ≤ (2 : Int); omega⟩
    have k82 : ∀ k b, stou vRC (82, k, b) = false := fun k b => stou_no (by decide +kernel)
    have u83 : ∀ k, vI 83 k = (0, 7) := vI_u (by decide +kernel) (by decide +kernel)
    have vy : ∀ k, (vI 83 k).1 ≤ y.toInt ∧ y.toInt ≤ (vI 83 k).2 := fun k => by
      rw [u83 k]
      exact ⟨by show (0 : Int) ≤ _; omega, by show _ ≤ (7 : Int); omega⟩
    have k83 : ∀ k b, stou vRC (83, k, b) = false := fun k b => stou_no (by decide +kernel)
    have u84 : ∀ k, vI 84 k = (-1, 9) := vI_u (by decide +kernel) (by decide +kernel)
    have vz' : ∀ k, (vI 84 k).1 ≤ z.toInt ∧ z.toInt ≤ (vI 84 k).2 := fun k => by
      rw [u84 k]
      exact ⟨by show (-1 : Int) ≤ _; omega, by show _ ≤ (9 : Int); omega⟩
    have k84 : ∀ k b, stou vRC (84, k, b) = false := fun k b => stou_no (by decide +kernel)
    have k81 : ∀ k b, stou vRC (81, k, b) = false := fun k b => stou_no (by decide +kernel)
    have fin : ∀ h', CX l 1 45 false 93 [xf 6 81, xi x, xi y, xi z] h [] h' → sgood vT vR vE 153 6051 h' → (∀ c k, c ≠ 82 → c ≠ 83 → c ≠ 84 → ¬ (c = 81 ∧ k = 0) → xI h' c k = xI h c k) → (∀ c k, xR h' c k = xR h c k) → ∃ ρ rs h', svals (vCadd kd w1 w2 a1 a2) [.inr (6, 81), .inl (.inl x), .inl (.inl y), .inl (.inl z)] h ρ ∧ CX l 1 45 false 93 [.inr (6, 81), .inl (.inl x), .inl (.inl y), .inl (.inl z)] h rs h' ∧ spost vT vR vE 153 6051 (vCadd kd w1 w2 a1 a2) ρ h rs h' := fun h' hX hgd hf hfR => by
      refine ⟨fun i => if i = 0 then x.toInt else if i = 1 then y.toInt else z.toInt, [], h', ⟨⟨rfl, rfl, rfl, trivial⟩, fun i q hq => by cases hq⟩, hX, hgd, ⟨fun c k hck => ?_, fun c k _ => hfR c k⟩, _, List.mem_singleton.mpr rfl, scas_one (fun i q hq => ?_) (fun i q hq => by cases hq) trivial⟩
      · refine hf c k (fun e => ?_) (fun e => ?_) (fun e => ?_) (fun e => ?_)
        · rw [e] at hck; cases hck
        · rw [e] at hck; cases hck
        · rw [e] at hck; cases hck
        · rw [e.1, e.2] at hck; cases hck
      · match i, hq with
        | 0, hq => obtain rfl := Option.some.inj hq; exact bx
        | 1, hq => obtain rfl := Option.some.inj hq; exact by'
        | 2, hq => obtain rfl := Option.some.inj hq; exact bz
    by_cases hs : xI h 81 0 < 20
    · obtain ⟨s1, e1, hX⟩ := vh_add_run1 l h hg.1 x y z hs
      have hs' := Int32.lt_iff_toInt_lt.mp hs
      have e20 : (20 : Int32).toInt = 20 := rfl
      have oth : ∀ c k, c ≠ 82 → c ≠ 83 → c ≠ 84 → ¬ (c = 81 ∧ k = 0) → xI (xsetI (xsetI (xsetI (xsetI h 82 (xI h 81 0).toNatClampNeg x) 83 (xI h 81 0).toNatClampNeg y) 84 (xI h 81 0).toNatClampNeg z) 81 0 s1) c k = xI h c k := fun c k n1 n2 n3 n4 => by
        rw [yI_ne (eq_false n4), yI_c (eq_false n3), yI_c (eq_false n2), yI_c (eq_false n1)]
      refine fin _ hX ⟨sinv_setI (sinv_setI (sinv_setI (sinv_setI hg.1 (vx _)) (vy _)) (vz' _)) (show (0 : Int) ≤ _ ∧ _ ≤ (20 : Int) from ⟨by omega, by omega⟩), srw_setI (srw_setI (srw_setI (srw_setI hg.2.1 (k82 _ _)) (k83 _ _)) (k84 _ _)) (k81 _ _), ⟨fun k hk20 => ?_, vEu_of (fun v _ => oth 110 v (by decide) (by decide) (by decide) (fun e => absurd e.1 (by decide))) (fun k => oth 149 k (by decide) (by decide) (by decide) (fun e => absurd e.1 (by decide))) (fun k => oth 150 k (by decide) (by decide) (by decide) (fun e => absurd e.1 (by decide))) hg.2.2.1.2.1, vEk_of (fun c c1 c2 k => oth c k (by omega) (by omega) (by omega) (fun e => by omega)) hg.2.2.1.2.2.1, vEj_of (oth 3 5 (by decide) (by decide) (by decide) (fun e => absurd e.1 (by decide))) (oth 24 5 (by decide) (by decide) (by decide) (fun e => absurd e.1 (by decide))) (fun c hc k => oth c k (by omega) (by omega) (by omega) (fun e => by omega)) hg.2.2.1.2.2.2⟩, hg.2.2.2⟩ oth (fun _ _ => rfl)
      by_cases hkn : k = (xI h 81 0).toNatClampNeg
      · subst hkn
        simp [yI_same, yI_ne, yI_c]
        exact hp
      · simp [yI_same, yI_ne, yI_c, hkn]
        exact hg.2.2.1.1 k hk20
    · have hX := vh_add_run2 l h hg.1 x y z hs
      have oth : ∀ c k, c ≠ 82 → c ≠ 83 → c ≠ 84 → ¬ (c = 81 ∧ k = 0) → xI (xsetI (xsetI (xsetI (xsetI (xrowI (xrowI (xrowI (xsetI h 81 0 19) 82 (va_cpy (xI h 82) (xI h 82) 1 0 19)) 83 (va_cpy (xI h 83) (xI h 83) 1 0 19)) 84 (va_cpy (xI h 84) (xI h 84) 1 0 19)) 82 19 x) 83 19 y) 84 19 z) 81 0 20) c k = xI h c k := fun c k n1 n2 n3 n4 => by
        rw [yI_ne (eq_false n4), yI_c (eq_false n3), yI_c (eq_false n2), yI_c (eq_false n1), yI_row (eq_false n3), yI_row (eq_false n2), yI_row (eq_false n1), yI_ne (eq_false n4)]
      have cpy : ∀ (c : Nat) (k : Nat), va_cpy (xI h c) (xI h c) 1 0 19 k = xI h c (if k < 19 then k + 1 else k) := fun c k => by
        unfold va_cpy
        by_cases hk : k < 19
        · rw [if_pos ⟨Nat.zero_le _, by omega⟩, if_pos hk]
          congr 1
          omega
        · rw [if_neg (fun e => hk (by omega)), if_neg hk]
      have gd : ∀ c, (∀ k k', vI c k = vI c k') → ∀ k, (vI c k).1 ≤ (va_cpy (xI h c) (xI h c) 1 0 19 k).toInt ∧ (va_cpy (xI h c) (xI h c) 1 0 19 k).toInt ≤ (vI c k).2 := fun c hu k => by
        rw [cpy, hu k (if k < 19 then k + 1 else k)]
        exact vbnd hg.1 c _
      refine fin _ hX ⟨sinv_setI (sinv_setI (sinv_setI (sinv_setI (sinv_row (sinv_row (sinv_row (sinv_setI hg.1 (show (0 : Int) ≤ _ ∧ _ ≤ (20 : Int) from ⟨by decide, by decide⟩)) (gd 82 (fun k k' => by rw [u82, u82]))) (gd 83 (fun k k' => by rw [u83, u83]))) (gd 84 (fun k k' => by rw [u84, u84]))) (vx _)) (vy _)) (vz' _)) (show (0 : Int) ≤ _ ∧ _ ≤ (20 : Int) from ⟨by decide, by decide⟩), srw_setI (srw_setI (srw_setI (srw_setI (srw_row (srw_row (srw_row (srw_setI hg.2.1 (k81 _ _)) (k82 _ _)) (k83 _ _)) (k84 _ _)) (k82 _ _)) (k83 _ _)) (k84 _ _)) (k81 _ _), ⟨fun k hk20 => ?_, vEu_of (fun v _ => oth 110 v (by decide) (by decide) (by decide) (fun e => absurd e.1 (by decide))) (fun k => oth 149 k (by decide) (by decide) (by decide) (fun e => absurd e.1 (by decide))) (fun k => oth 150 k (by decide) (by decide) (by decide) (fun e => absurd e.1 (by decide))) hg.2.2.1.2.1, vEk_of (fun c c1 c2 k => oth c k (by omega) (by omega) (by omega) (fun e => by omega)) hg.2.2.1.2.2.1, vEj_of (oth 3 5 (by decide) (by decide) (by decide) (fun e => absurd e.1 (by decide))) (oth 24 5 (by decide) (by decide) (by decide) (fun e => absurd e.1 (by decide))) (fun c hc k => oth c k (by omega) (by omega) (by omega) (fun e => by omega)) hg.2.2.1.2.2.2⟩, hg.2.2.2⟩ oth (fun _ _ => rfl)
      by_cases hkn : k = 19
      · subst hkn
        simp [yI_same, yI_ne, yI_c]
        exact hp
      · have hk19 : k < 19 := by omega
        simp [yI_same, yI_ne, yI_c, yI_row, yI_rowS, hkn, cpy, hk19]
        exact hg.2.2.1.1 (k + 1) (by omega)
