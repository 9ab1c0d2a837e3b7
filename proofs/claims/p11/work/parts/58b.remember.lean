/-! CONTRACTS BY HAND: remember; put, take and remember as contracts. -/
theorem vS149_sh : ∀ k, k < 418 → vI 149 (k + 22) = vI 149 k := by decide +kernel
theorem vI10476 : vI 104 76 = (0, 20) := by decide +kernel
theorem stou10476 : stou vRC (104, 76, false) = false := by decide +kernel
theorem vEC104 : vEC.all (fun q => !Nat.beq q.1 104) = true := by decide +kernel
theorem vundos {h : XH} (hg : sgood vT vR vE 153 6051 h) {v : Int32} (hv : 0 ≤ v.toInt ∧ v.toInt ≤ 20) : sgood vT vR vE 153 6051 (xsetI h 104 76 v) := vset0 hg (by rw [vI10476]; exact hv) stou10476 vEC104
set_option maxRecDepth 100000 in
set_option maxHeartbeats 1000000 in
theorem vh_shift (l : Launch) : ∀ (m : Nat) (x : Int32) (h : XH), 0 ≤ x.toInt → x.toInt + m = 418 → sgood vT vR vE 153 6051 h → ∃ x' h', XT l 2 60 false 239 153 6051 11 [xf 13 104, xi x] [] h 39 [xf 13 104, xi x'] [] h' ∧ sgood vT vR vE 153 6051 h' ∧ (∀ c k, c ≠ 149 → xI h' c k = xI h c k) ∧ (∀ c k, xR h' c k = xR h c k)
  | 0, x, h, h0, hm, hg => by
    have e8' : (Int32.ofInt 418).toInt = 418 := rfl
    have key := XT_path (l := l) (fr := 2) (lo := 60) (full := false) (M := 239) (n := 153) (u := 6051) (pc := 11) (L := [xf 13 104, xi x]) (st := []) (h := h) (inl := []) (n' := 40) (sp := [39]) (o := [1]) rfl rfl ⟨rfl, rfl, rfl⟩ rfl ⟨Nat.le_of_eq hg.2.2.2.1, Nat.le_of_eq hg.2.2.2.2⟩ ⟨trivial, Int32.le_iff_toInt_le.mpr (by omega)⟩
    exact ⟨x, h, key, hg, fun _ _ _ => rfl, fun _ _ => rfl⟩
  | m + 1, x, h, h0, hm, hg => by
    have e8 : (418 : Int32).toInt = 418 := rfl
    have e8' : (Int32.ofInt 418).toInt = 418 := rfl
    have r77 : xR h 104 77 = 149 := vref hg.1 rfl
    have ei : (x + 22).toInt = x.toInt + 22 := by
      rw [Int32.toInt_add, show (22 : Int32).toInt = 22 from rfl]
      exact Int.bmod_eq_of_le (by omega) (by omega)
    have ex : (x + 1).toInt = x.toInt + 1 := y_succ h0 (by omega)
    have nx : x.toNatClampNeg = x.toInt.toNat := rfl
    have n1 : (x + 22).toNatClampNeg = x.toNatClampNeg + 22 := by
      show (x + 22).toInt.toNat = _
      omega
    have key := XT_path (l := l) (fr := 2) (lo := 60) (full := false) (M := 239) (n := 153) (u := 6051) (pc := 11) (L := [xf 13 104, xi x]) (st := []) (h := h) (inl := []) (n' := 60) (sp := [11]) (o := [0]) rfl rfl ⟨rfl, rfl, rfl⟩ rfl ⟨Nat.le_of_eq hg.2.2.2.1, Nat.le_of_eq hg.2.2.2.2⟩
    simp [r77, yI_same, yI_ne, yI_c, yR_I, n1] at key
    have key := key (Int32.lt_iff_toInt_lt.mpr (by omega)) (vp_of (n := 440) (by omega) (by omega)) (vp_of (n := 440) (by omega) (by omega))
    have hx8 : x.toNatClampNeg < 418 := by omega
    have g2 : sgood vT vR vE 153 6051 (xsetI h 149 x.toNatClampNeg (xI h 149 (x.toNatClampNeg + 22))) := vput149 hg (by
      have := vbnd hg.1 149 (x.toNatClampNeg + 22)
      rw [vS149_sh _ hx8] at this
      exact this) (by
      rcases hg.2.2.1.2.1.1 (x.toNatClampNeg + 22) with z | z | z
      · exact Or.inl z
      · exact Or.inr (Or.inl (by omega))
      · exact Or.inr (Or.inr (by omega)))
    obtain ⟨x', h', t, g', f', fR'⟩ := vh_shift l m (x + 1) _ (by omega) (by omega) g2
    refine ⟨x', h', key.tr t, g', fun c k hc => ?_, fun c k => fR' c k⟩
    rw [f' c k hc, yI_c (eq_false hc)]
set_option maxRecDepth 100000 in
set_option maxHeartbeats 1000000 in
theorem vh_rem2 (l : Launch) (x : XV) (h : XH) (hg : sgood vT vR vE 153 6051 h) (ht : (xI h 104 76).toInt ≤ 19) : ∃ L' h', XT l 2 60 false 239 153 6051 49 [xf 13 104, x] [] h 74 L' [] h' ∧ L'.length = 2 ∧ sgood vT vR vE 153 6051 h' ∧ (∀ c k, c ≠ 149 → ¬ (c = 104 ∧ k = 76) → xI h' c k = xI h c k) ∧ (∀ c k, xR h' c k = xR h c k) := by
  have hb : (0 : Int) ≤ (xI h 104 76).toInt ∧ (xI h 104 76).toInt ≤ 20 := by
    have := vbnd hg.1 104 76
    rw [vI10476] at this
    exact this
  have r77 : xR h 104 77 = 149 := vref hg.1 rfl
  have ei : (22 * xI h 104 76).toInt = 22 * ((xI h 104 76).toInt.toNat : Nat) := by
    rw [Int32.toInt_mul, show (22 : Int32).toInt = 22 from rfl]
    rw [show ((xI h 104 76).toInt.toNat : Int) = (xI h 104 76).toInt by omega]
    exact Int.bmod_eq_of_le (by omega) (by omega)
  have t0 := XT_path (l := l) (fr := 2) (lo := 60) (full := false) (M := 239) (n := 153) (u := 6051) (pc := 49) (L := [xf 13 104, x]) (st := []) (h := h) (inl := []) (n' := 60) (sp := [61]) (o := []) rfl rfl ⟨rfl, rfl, rfl⟩ rfl ⟨Nat.le_of_eq hg.2.2.2.1, Nat.le_of_eq hg.2.2.2.2⟩ ⟨trivial, by rw [r77]; decide⟩
  obtain ⟨h1, c1, g1, f1, q1⟩ := vh_put149 l (xI h 104 76).toInt.toNat (by omega) (22 * xI h 104 76) ei h hg
  have t1 := XT_call (l := l) (fr := 2) (lo := 60) (full := false) (M := 239) (n := 153) (u := 6051) (pc := 61) (L := [xf 13 104, x]) (st := [xi (22 * xI h 104 76), xf 10440 149, xf 13 104]) (h := h) (i := .invokevirtual 240) (aux := 3) (nx := 64) (K := 240) (vs := [xf 13 104, xf 10440 149, xi (22 * xI h 104 76)]) (rest := []) rfl rfl rfl rfl rfl rfl c1 (by decide) (by decide) (by decide) ⟨Nat.le_of_eq g1.2.2.2.1, Nat.le_of_eq g1.2.2.2.2⟩
  have e76 : xI h1 104 76 = xI h 104 76 := f1 104 76 (by decide)
  have es : (xI h1 104 76 + Int32.ofInt 1).toInt = (xI h 104 76).toInt + 1 := by
    rw [e76, Int32.toInt_add, show (Int32.ofInt 1).toInt = 1 from rfl]
    exact Int.bmod_eq_of_le (by omega) (by omega)
  have t2 := XT_path (l := l) (fr := 2) (lo := 60) (full := false) (M := 239) (n := 153) (u := 6051) (pc := 64) (L := [xf 13 104, x]) (st := []) (h := h1) (inl := []) (n' := 60) (sp := [74]) (o := []) rfl rfl ⟨rfl, rfl, rfl⟩ rfl ⟨Nat.le_of_eq g1.2.2.2.1, Nat.le_of_eq g1.2.2.2.2⟩ trivial
  rw [r77] at t0
  refine ⟨_, _, (t0.tr t1).tr t2, rfl, vundos g1 (by rw [es]; omega), fun c k hc hd => ?_, fun c k => q1 c k⟩
  show xI (xsetI h1 104 76 _) c k = _
  rw [yI_ne (eq_false hd)]
  exact f1 c k hc
set_option maxRecDepth 100000 in
set_option maxHeartbeats 1000000 in
theorem vh_remember (l : Launch) : scm l vT vR vE 153 6051 (239, 2, 60, [.inr (.inr (13, 104))], [], [], [([], [], none, [], [], [])], ([(104, 76, false), (149, 0, true)], []), []) := by
  intro vs h ha hg hR hW hP
  match vs, ha with
  | [.inr w], ha =>
    obtain rfl : w = (13, 104) := ha.1
    have hb : (0 : Int) ≤ (xI h 104 76).toInt ∧ (xI h 104 76).toInt ≤ 20 := by
      have := vbnd hg.1 104 76
      rw [vI10476] at this
      exact this
    have e20 : (20 : Int32).toInt = 20 := rfl
    have fin : ∀ L' h', XT l 2 60 false 239 153 6051 0 [xf 13 104, xun] [] h 74 L' [] h' → L'.length = 2 → sgood vT vR vE 153 6051 h' → (∀ c k, c ≠ 149 → ¬ (c = 104 ∧ k = 76) → xI h' c k = xI h c k) → (∀ c k, xR h' c k = xR h c k) → ∃ ρ rs h', svals (239, 2, 60, [.inr (.inr (13, 104))], [], [], [([], [], none, [], [], [])], ([(104, 76, false), (149, 0, true)], []), []) [.inr (13, 104)] h ρ ∧ CX l 2 60 false 239 [.inr (13, 104)] h rs h' ∧ spost vT vR vE 153 6051 (239, 2, 60, [.inr (.inr (13, 104))], [], [], [([], [], none, [], [], [])], ([(104, 76, false), (149, 0, true)], []), []) ρ h rs h' := fun L' h' t hl g f q => by
      refine ⟨fun _ => 0, [], h', ⟨trivial, fun i q hq => by cases hq⟩, CX_ofT (by decide) rfl rfl trivial ⟨_, _, _, rfl, rfl, rfl⟩ hl ⟨Nat.le_of_eq g.2.2.2.1.symm, Nat.le_of_eq g.2.2.2.2.symm⟩ t, g, ⟨fun c k hck => f c k (fun e => ?_) (fun e => ?_), fun c k _ => q c k⟩, _, List.mem_singleton.mpr rfl, scas_one (fun i q hq => by cases hq) (fun i q hq => by cases hq) trivial⟩
      · rw [e] at hck; cases hck
      · rw [e.1, e.2] at hck; cases hck
    by_cases hs : xI h 104 76 = 20
    · have t0 := XT_path (l := l) (fr := 2) (lo := 60) (full := false) (M := 239) (n := 153) (u := 6051) (pc := 0) (L := [xf 13 104, xun]) (st := []) (h := h) (inl := []) (n' := 60) (sp := [11]) (o := [0]) rfl rfl ⟨rfl, rfl, rfl⟩ rfl ⟨Nat.le_of_eq hg.2.2.2.1, Nat.le_of_eq hg.2.2.2.2⟩ ⟨trivial, hs⟩
      have e0 : (Int32.ofInt 0).toInt = 0 := rfl
      obtain ⟨x1, h1, t1, g1, f1, q1⟩ := vh_shift l 418 (Int32.ofInt 0) h (by rw [e0]; omega) (by rw [e0]; omega) hg
      have e76 : xI h1 104 76 = 20 := (f1 104 76 (by decide)).trans hs
      have t2 := XT_path (l := l) (fr := 2) (lo := 60) (full := false) (M := 239) (n := 153) (u := 6051) (pc := 39) (L := [xf 13 104, xi x1]) (st := []) (h := h1) (inl := []) (n' := 60) (sp := [49]) (o := []) rfl rfl ⟨rfl, rfl, rfl⟩ rfl ⟨Nat.le_of_eq g1.2.2.2.1, Nat.le_of_eq g1.2.2.2.2⟩ trivial
      have e19 : (xI h1 104 76 - Int32.ofInt 1).toInt = 19 := by rw [e76]; rfl
      have g2 := vundos g1 (v := xI h1 104 76 - Int32.ofInt 1) (by rw [e19]; omega)
      obtain ⟨L', h', t3, l3, g3, f3, q3⟩ := vh_rem2 l (xi x1) _ g2 (by rw [yI_same, e19]; decide)
      refine fin L' h' (((t0.tr t1).tr t2).tr t3) l3 g3 (fun c k hc hd => ?_) (fun c k => (q3 c k).trans (q1 c k))
      rw [f3 c k hc hd, yI_ne (eq_false hd), f1 c k hc]
    · have t0 := XT_path (l := l) (fr := 2) (lo := 60) (full := false) (M := 239) (n := 153) (u := 6051) (pc := 0) (L := [xf 13 104, xun]) (st := []) (h := h) (inl := []) (n' := 60) (sp := [49]) (o := [1]) rfl rfl ⟨rfl, rfl, rfl⟩ rfl ⟨Nat.le_of_eq hg.2.2.2.1, Nat.le_of_eq hg.2.2.2.2⟩ ⟨trivial, hs⟩
      have h19 : (xI h 104 76).toInt ≤ 19 := by
        rcases (show (xI h 104 76).toInt ≤ 19 ∨ (xI h 104 76).toInt = 20 by omega) with z | z
        · exact z
        · exact absurd (Int32.toInt_inj.mp (z.trans e20.symm)) hs
      obtain ⟨L', h', t3, l3, g3, f3, q3⟩ := vh_rem2 l xun h hg h19
      exact fin L' h' (t0.tr t3) l3 g3 f3 q3
theorem vh_takeC149 (l : Launch) (u : Nat) (hu : u < 20) : scm l vT vR vE 153 6051 (284, 0, 0, [.inr (.inr (13, 104)), .inr (.inr (10440, 149)), .inl (22 * u, 22 * u)], [], [], [([(22 * u, 22 * u)], [], none, [], [], [])], ([(133, 0, true), (135, 0, true), (136, 0, true)], []), []) := by
  intro vs h ha hg hR hW hP
  match vs, ha with
  | [.inr w, .inr w2, .inl (.inl i)], ha =>
    obtain rfl : w = (13, 104) := ha.1
    obtain rfl : w2 = (10440, 149) := ha.2.1
    have hi : (22 * u : Int) ≤ i.toInt ∧ i.toInt ≤ 22 * u := ha.2.2.1
    obtain ⟨h', c, g, f, q⟩ := vh_tk149 l u hu i (by omega) h hg
    refine ⟨fun _ => 22 * u, [], h', ⟨⟨by show (22 * u : Int) = _; omega, trivial⟩, fun i q hq => by cases hq⟩, c, g, ⟨fun c k hck => f c k (fun e => ?_) (fun e => ?_) (fun e => ?_), fun c k _ => q c k⟩, _, List.mem_singleton.mpr rfl, scas_one (fun i q hq => ?_) (fun i q hq => by cases hq) trivial⟩
    · rw [e] at hck; cases hck
    · rw [e] at hck; cases hck
    · rw [e] at hck; cases hck
    · match i, hq with
      | 0, hq => obtain rfl := Option.some.inj hq; exact ⟨Int.le_refl _, Int.le_refl _⟩
theorem vh_takeC150 (l : Launch) : scm l vT vR vE 153 6051 (284, 0, 0, [.inr (.inr (13, 104)), .inr (.inr (10022, 150)), .inl (0, 0)], [], [], [([(0, 0)], [], none, [], [], [])], ([(133, 0, true), (135, 0, true), (136, 0, true)], []), []) := by
  intro vs h ha hg hR hW hP
  match vs, ha with
  | [.inr w, .inr w2, .inl (.inl i)], ha =>
    obtain rfl : w = (13, 104) := ha.1
    obtain rfl : w2 = (10022, 150) := ha.2.1
    have hi : (0 : Int) ≤ i.toInt ∧ i.toInt ≤ 0 := ha.2.2.1
    obtain ⟨h', c, g, f, q⟩ := vh_tk150 l 0 (by decide) i (by omega) h hg
    refine ⟨fun _ => 0, [], h', ⟨⟨by show (0 : Int) = _; omega, trivial⟩, fun i q hq => by cases hq⟩, c, g, ⟨fun c k hck => f c k (fun e => ?_) (fun e => ?_) (fun e => ?_), fun c k _ => q c k⟩, _, List.mem_singleton.mpr rfl, scas_one (fun i q hq => ?_) (fun i q hq => by cases hq) trivial⟩
    · rw [e] at hck; cases hck
    · rw [e] at hck; cases hck
    · rw [e] at hck; cases hck
    · match i, hq with
      | 0, hq => obtain rfl := Option.some.inj hq; exact ⟨Int.le_refl _, Int.le_refl _⟩
theorem vh_putC150 (l : Launch) : scm l vT vR vE 153 6051 (240, 0, 0, [.inr (.inr (13, 104)), .inr (.inr (10022, 150)), .inl (0, 0)], [], [], [([(0, 0)], [], none, [], [], [])], ([(149, 0, true), (150, 0, true)], []), []) := by
  intro vs h ha hg hR hW hP
  match vs, ha with
  | [.inr w, .inr w2, .inl (.inl i)], ha =>
    obtain rfl : w = (13, 104) := ha.1
    obtain rfl : w2 = (10022, 150) := ha.2.1
    have hi : (0 : Int) ≤ i.toInt ∧ i.toInt ≤ 0 := ha.2.2.1
    obtain ⟨h', c, g, f, q⟩ := vh_put150 l 0 (by decide) i (by omega) h hg
    refine ⟨fun _ => 0, [], h', ⟨⟨by show (0 : Int) = _; omega, trivial⟩, fun i q hq => by cases hq⟩, c, g, ⟨fun c k hck => f c k (fun e => ?_), fun c k _ => q c k⟩, _, List.mem_singleton.mpr rfl, scas_one (fun i q hq => ?_) (fun i q hq => by cases hq) trivial⟩
    · rw [e] at hck; cases hck
    · match i, hq with
      | 0, hq => obtain rfl := Option.some.inj hq; exact ⟨Int.le_refl _, Int.le_refl _⟩
