/-! A WORLD THAT STARTS: what it holds. -/
theorem vG.cpy {W : SW} {h h' : XH} (a : vG W h h') {e f : Nat} {q : SI} {s d n : Nat} (we : vWr e = true) (re : vRow e = q) (wf : vWr f = true) (rf_ : vRow f = q) (hrc : vRC.all (fun q => !Nat.beq q.1 e) = true) (hec : vEC.all (fun q => !Nat.beq q.1 e) = true) (hw : ∀ k, swin W.1 e k = true) : vG W h (xrowI h' e (va_cpy (xI h' f) (xI h' e) s d n)) := by
  refine ⟨⟨sinv_row a.1.1 (fun k => ?_), srw_row a.1.2.1 (stou_no hrc), vE_fr h' _ (fun c' k' hck => yI_row (eq_false (fun z => ?_))) a.1.2.2.1, a.1.2.2.2⟩, a.2.tr (sframe_row hw)⟩
  · rw [vI_u we re]
    rcases va_cpy_cases (f := xI h' f) (g := xI h' e) (s := s) (d := d) (k := n) (i := k) with ⟨j, z⟩ | z
    · rw [z]
      have := vbnd a.1.1 f j
      rw [vI_u wf rf_] at this
      exact this
    · rw [z]
      have := vbnd a.1.1 e k
      rw [vI_u we re] at this
      exact this
  · rw [z, vEC_no hec] at hck
    cases hck
theorem cpy_at {f g : Nat → Int32} {k n : Nat} (hk : k < n) : va_cpy f g 0 0 n k = f k := by
  unfold va_cpy
  rw [if_pos ⟨Nat.zero_le _, by omega⟩, Nat.sub_zero, Nat.zero_add]
theorem vrf2 {h : XH} (hg : sinv vT h) {c : Nat} (e : vRf c 0 = [3, 24]) : xR h c 0 ∈ [3, 24] ∧ ¬ xR h c 0 = 0 := by
  have z := hg.2 c 0 (by rw [show vT.2.2.2 c 0 = vRf c 0 from rfl, e]; decide)
  rw [show vT.2.2.2 c 0 = vRf c 0 from rfl, e] at z
  refine ⟨z, fun y => ?_⟩
  rw [y] at z
  exact absurd z (by decide)
theorem sf_mono {V W : SW} {h h' : XH} (a : sframe V h h') (h1 : swsub V.1 W.1 = true) (h2 : V.2 = W.2) : sframe W h h' :=
  ⟨fun c k hc => a.1 c k (swsub_in h1 hc), fun c k hc => a.2 c k (by rw [h2]; exact hc)⟩
set_option maxRecDepth 100000 in
set_option maxHeartbeats 4000000 in
theorem ck_fill50L (l : Launch) (h : XH) : ∀ (m : Nat) (k : Int32) (h' : XH), vG ([(50, 0, true)], []) h h' → 0 ≤ k.toInt → k.toInt + m = 6 → (∀ r : Nat, (r : Int) < k.toInt → xI h' 50 r = (Int32.ofInt (0))) → ∃ k' h'', XT l 0 0 false 5 153 6051 5 [xf 10006 50, xi (Int32.ofInt (0)), xi k, xi (Int32.ofNat (10006 - 10000))] [] h' 20 [xf 10006 50, xi (Int32.ofInt (0)), xi k', xi (Int32.ofNat (10006 - 10000))] [] h'' ∧ vG ([(50, 0, true)], []) h h'' ∧ (∀ r : Nat, r < 6 → xI h'' 50 r = (Int32.ofInt (0)))
  | 0, k, h', G, a1, a2, hz => by
    have e6 : (Int32.ofNat (10006 - 10000)).toInt = 6 := by decide
    have t1 : XT l 0 0 false 5 153 6051 5 [xf 10006 50, xi (Int32.ofInt (0)), xi k, xi (Int32.ofNat (10006 - 10000))] [] h' 20 [xf 10006 50, xi (Int32.ofInt (0)), xi k, xi (Int32.ofNat (10006 - 10000))] [] h' := XT_path (l := l) (fr := 0) (lo := 0) (full := false) (M := 5) (n := 153) (u := 6051) (pc := 5) (L := [xf 10006 50, xi (Int32.ofInt (0)), xi k, xi (Int32.ofNat (10006 - 10000))]) (st := []) (h := h') (inl := []) (n' := 80) (sp := [20]) (o := [1]) rfl rfl ⟨rfl, rfl, rfl⟩ rfl ⟨Nat.le_of_eq G.1.2.2.2.1, Nat.le_of_eq G.1.2.2.2.2⟩ ⟨trivial, (Int32.le_iff_toInt_le.mpr (by omega))⟩
    exact ⟨k, h', t1, G, fun r hr => hz r (by omega)⟩
  | m + 1, k, h', G, a1, a2, hz => by
    have e6 : (Int32.ofNat (10006 - 10000)).toInt = 6 := by decide
    have t2 : XT l 0 0 false 5 153 6051 5 [xf 10006 50, xi (Int32.ofInt (0)), xi k, xi (Int32.ofNat (10006 - 10000))] [] h' 5 [xf 10006 50, xi (Int32.ofInt (0)), xi (k + Int32.ofInt (1)), xi (Int32.ofNat (10006 - 10000))] [] (xsetI h' 50 (k).toNatClampNeg (Int32.ofInt (0))) := XT_path (l := l) (fr := 0) (lo := 0) (full := false) (M := 5) (n := 153) (u := 6051) (pc := 5) (L := [xf 10006 50, xi (Int32.ofInt (0)), xi k, xi (Int32.ofNat (10006 - 10000))]) (st := []) (h := h') (inl := []) (n' := 80) (sp := [5]) (o := [0]) rfl rfl ⟨rfl, rfl, rfl⟩ rfl ⟨Nat.le_of_eq G.1.2.2.2.1, Nat.le_of_eq G.1.2.2.2.2⟩ ⟨⟨trivial, (fun z => absurd (Int32.le_iff_toInt_le.mp z) (by omega))⟩, (vp_of (n := 6) (by omega) (by omega))⟩
    have ek : (k + Int32.ofInt (1)).toInt = k.toInt + 1 := y_suc1 (by omega) (by omega)
    have nk : k.toNatClampNeg = k.toInt.toNat := rfl
    obtain ⟨k', h2, z1, z2, z3⟩ := ck_fill50L l h m (k + Int32.ofInt (1)) (xsetI h' 50 (k).toNatClampNeg (Int32.ofInt (0))) (G.set (by rw [vI_u rfl (rfl : vRow 50 = sfull)]; exact i32r_of _) (stou_no (by decide +kernel)) (by decide +kernel) rfl) (by omega) (by omega) (fun r hr => by
      by_cases e : r = k.toNatClampNeg
      · rw [e]; exact yI_same
      · rw [yI_ne (eq_false (fun z => e z.2))]; exact hz r (by omega))
    exact ⟨k', h2, t2.tr z1, z2, z3⟩
set_option maxRecDepth 100000 in
set_option maxHeartbeats 4000000 in
theorem ck_fill50 (l : Launch) (h : XH) (hg : sgood vT vR vE 153 6051 h) : ∃ h', CX l 0 0 false 5 [xf 10006 50, xi (Int32.ofInt (0))] h [] h' ∧ vG ([(50, 0, true)], []) h h' ∧ (∀ r : Nat, r < 6 → xI h' 50 r = (Int32.ofInt (0))) := by
  have t3 : XT l 0 0 false 5 153 6051 0 [xf 10006 50, xi (Int32.ofInt (0)), xun, xun] [] h 5 [xf 10006 50, xi (Int32.ofInt (0)), xi (Int32.ofInt (0)), xi (Int32.ofNat (10006 - 10000))] [] h := XT_path (l := l) (fr := 0) (lo := 0) (full := false) (M := 5) (n := 153) (u := 6051) (pc := 0) (L := [xf 10006 50, xi (Int32.ofInt (0)), xun, xun]) (st := []) (h := h) (inl := []) (n' := 80) (sp := [5]) (o := []) rfl rfl ⟨rfl, rfl, rfl⟩ rfl ⟨Nat.le_of_eq hg.2.2.2.1, Nat.le_of_eq hg.2.2.2.2⟩ trivial
  obtain ⟨k', h2, z1, z2, z3⟩ := ck_fill50L l h 6 (Int32.ofInt (0)) h (vG.rf hg) (by decide) (by decide) (fun r hr => absurd hr (by rw [show (Int32.ofInt (0)).toInt = 0 from rfl]; omega))
  exact ⟨h2, CX_ofT (h' := h2) (by decide) rfl rfl trivial ⟨_, _, _, rfl, rfl, rfl⟩ rfl ⟨Nat.le_of_eq z2.1.2.2.2.1.symm, Nat.le_of_eq z2.1.2.2.2.2.symm⟩ (t3.tr z1), z2, z3⟩
set_option maxRecDepth 100000 in
set_option maxHeartbeats 4000000 in
theorem ck_fill54L (l : Launch) (h : XH) : ∀ (m : Nat) (k : Int32) (h' : XH), vG ([(54, 0, true)], []) h h' → 0 ≤ k.toInt → k.toInt + m = 8 → (∀ r : Nat, (r : Int) < k.toInt → xI h' 54 r = (Int32.ofInt (0))) → ∃ k' h'', XT l 0 0 false 5 153 6051 5 [xf 10008 54, xi (Int32.ofInt (0)), xi k, xi (Int32.ofNat (10008 - 10000))] [] h' 20 [xf 10008 54, xi (Int32.ofInt (0)), xi k', xi (Int32.ofNat (10008 - 10000))] [] h'' ∧ vG ([(54, 0, true)], []) h h'' ∧ (∀ r : Nat, r < 8 → xI h'' 54 r = (Int32.ofInt (0)))
  | 0, k, h', G, a1, a2, hz => by
    have e6 : (Int32.ofNat (10008 - 10000)).toInt = 8 := by decide
    have t1 : XT l 0 0 false 5 153 6051 5 [xf 10008 54, xi (Int32.ofInt (0)), xi k, xi (Int32.ofNat (10008 - 10000))] [] h' 20 [xf 10008 54, xi (Int32.ofInt (0)), xi k, xi (Int32.ofNat (10008 - 10000))] [] h' := XT_path (l := l) (fr := 0) (lo := 0) (full := false) (M := 5) (n := 153) (u := 6051) (pc := 5) (L := [xf 10008 54, xi (Int32.ofInt (0)), xi k, xi (Int32.ofNat (10008 - 10000))]) (st := []) (h := h') (inl := []) (n' := 80) (sp := [20]) (o := [1]) rfl rfl ⟨rfl, rfl, rfl⟩ rfl ⟨Nat.le_of_eq G.1.2.2.2.1, Nat.le_of_eq G.1.2.2.2.2⟩ ⟨trivial, (Int32.le_iff_toInt_le.mpr (by omega))⟩
    exact ⟨k, h', t1, G, fun r hr => hz r (by omega)⟩
  | m + 1, k, h', G, a1, a2, hz => by
    have e6 : (Int32.ofNat (10008 - 10000)).toInt = 8 := by decide
    have t2 : XT l 0 0 false 5 153 6051 5 [xf 10008 54, xi (Int32.ofInt (0)), xi k, xi (Int32.ofNat (10008 - 10000))] [] h' 5 [xf 10008 54, xi (Int32.ofInt (0)), xi (k + Int32.ofInt (1)), xi (Int32.ofNat (10008 - 10000))] [] (xsetI h' 54 (k).toNatClampNeg (Int32.ofInt (0))) := XT_path (l := l) (fr := 0) (lo := 0) (full := false) (M := 5) (n := 153) (u := 6051) (pc := 5) (L := [xf 10008 54, xi (Int32.ofInt (0)), xi k, xi (Int32.ofNat (10008 - 10000))]) (st := []) (h := h') (inl := []) (n' := 80) (sp := [5]) (o := [0]) rfl rfl ⟨rfl, rfl, rfl⟩ rfl ⟨Nat.le_of_eq G.1.2.2.2.1, Nat.le_of_eq G.1.2.2.2.2⟩ ⟨⟨trivial, (fun z => absurd (Int32.le_iff_toInt_le.mp z) (by omega))⟩, (vp_of (n := 8) (by omega) (by omega))⟩
    have ek : (k + Int32.ofInt (1)).toInt = k.toInt + 1 := y_suc1 (by omega) (by omega)
    have nk : k.toNatClampNeg = k.toInt.toNat := rfl
    obtain ⟨k', h2, z1, z2, z3⟩ := ck_fill54L l h m (k + Int32.ofInt (1)) (xsetI h' 54 (k).toNatClampNeg (Int32.ofInt (0))) (G.set (by rw [vI_u rfl (rfl : vRow 54 = sfull)]; exact i32r_of _) (stou_no (by decide +kernel)) (by decide +kernel) rfl) (by omega) (by omega) (fun r hr => by
      by_cases e : r = k.toNatClampNeg
      · rw [e]; exact yI_same
      · rw [yI_ne (eq_false (fun z => e z.2))]; exact hz r (by omega))
    exact ⟨k', h2, t2.tr z1, z2, z3⟩
set_option maxRecDepth 100000 in
set_option maxHeartbeats 4000000 in
theorem ck_fill54 (l : Launch) (h : XH) (hg : sgood vT vR vE 153 6051 h) : ∃ h', CX l 0 0 false 5 [xf 10008 54, xi (Int32.ofInt (0))] h [] h' ∧ vG ([(54, 0, true)], []) h h' ∧ (∀ r : Nat, r < 8 → xI h' 54 r = (Int32.ofInt (0))) := by
  have t3 : XT l 0 0 false 5 153 6051 0 [xf 10008 54, xi (Int32.ofInt (0)), xun, xun] [] h 5 [xf 10008 54, xi (Int32.ofInt (0)), xi (Int32.ofInt (0)), xi (Int32.ofNat (10008 - 10000))] [] h := XT_path (l := l) (fr := 0) (lo := 0) (full := false) (M := 5) (n := 153) (u := 6051) (pc := 0) (L := [xf 10008 54, xi (Int32.ofInt (0)), xun, xun]) (st := []) (h := h) (inl := []) (n' := 80) (sp := [5]) (o := []) rfl rfl ⟨rfl, rfl, rfl⟩ rfl ⟨Nat.le_of_eq hg.2.2.2.1, Nat.le_of_eq hg.2.2.2.2⟩ trivial
  obtain ⟨k', h2, z1, z2, z3⟩ := ck_fill54L l h 8 (Int32.ofInt (0)) h (vG.rf hg) (by decide) (by decide) (fun r hr => absurd hr (by rw [show (Int32.ofInt (0)).toInt = 0 from rfl]; omega))
  exact ⟨h2, CX_ofT (h' := h2) (by decide) rfl rfl trivial ⟨_, _, _, rfl, rfl, rfl⟩ rfl ⟨Nat.le_of_eq z2.1.2.2.2.1.symm, Nat.le_of_eq z2.1.2.2.2.2.symm⟩ (t3.tr z1), z2, z3⟩
set_option maxRecDepth 100000 in
set_option maxHeartbeats 4000000 in
theorem ck_fill53L (l : Launch) (h : XH) : ∀ (m : Nat) (k : Int32) (h' : XH), vG ([(53, 0, true)], []) h h' → 0 ≤ k.toInt → k.toInt + m = 8 → (∀ r : Nat, (r : Int) < k.toInt → xI h' 53 r = (Int32.ofInt (2))) → ∃ k' h'', XT l 0 0 false 5 153 6051 5 [xf 10008 53, xi (Int32.ofInt (2)), xi k, xi (Int32.ofNat (10008 - 10000))] [] h' 20 [xf 10008 53, xi (Int32.ofInt (2)), xi k', xi (Int32.ofNat (10008 - 10000))] [] h'' ∧ vG ([(53, 0, true)], []) h h'' ∧ (∀ r : Nat, r < 8 → xI h'' 53 r = (Int32.ofInt (2)))
  | 0, k, h', G, a1, a2, hz => by
    have e6 : (Int32.ofNat (10008 - 10000)).toInt = 8 := by decide
    have t1 : XT l 0 0 false 5 153 6051 5 [xf 10008 53, xi (Int32.ofInt (2)), xi k, xi (Int32.ofNat (10008 - 10000))] [] h' 20 [xf 10008 53, xi (Int32.ofInt (2)), xi k, xi (Int32.ofNat (10008 - 10000))] [] h' := XT_path (l := l) (fr := 0) (lo := 0) (full := false) (M := 5) (n := 153) (u := 6051) (pc := 5) (L := [xf 10008 53, xi (Int32.ofInt (2)), xi k, xi (Int32.ofNat (10008 - 10000))]) (st := []) (h := h') (inl := []) (n' := 80) (sp := [20]) (o := [1]) rfl rfl ⟨rfl, rfl, rfl⟩ rfl ⟨Nat.le_of_eq G.1.2.2.2.1, Nat.le_of_eq G.1.2.2.2.2⟩ ⟨trivial, (Int32.le_iff_toInt_le.mpr (by omega))⟩
    exact ⟨k, h', t1, G, fun r hr => hz r (by omega)⟩
  | m + 1, k, h', G, a1, a2, hz => by
    have e6 : (Int32.ofNat (10008 - 10000)).toInt = 8 := by decide
    have t2 : XT l 0 0 false 5 153 6051 5 [xf 10008 53, xi (Int32.ofInt (2)), xi k, xi (Int32.ofNat (10008 - 10000))] [] h' 5 [xf 10008 53, xi (Int32.ofInt (2)), xi (k + Int32.ofInt (1)), xi (Int32.ofNat (10008 - 10000))] [] (xsetI h' 53 (k).toNatClampNeg (Int32.ofInt (2))) := XT_path (l := l) (fr := 0) (lo := 0) (full := false) (M := 5) (n := 153) (u := 6051) (pc := 5) (L := [xf 10008 53, xi (Int32.ofInt (2)), xi k, xi (Int32.ofNat (10008 - 10000))]) (st := []) (h := h') (inl := []) (n' := 80) (sp := [5]) (o := [0]) rfl rfl ⟨rfl, rfl, rfl⟩ rfl ⟨Nat.le_of_eq G.1.2.2.2.1, Nat.le_of_eq G.1.2.2.2.2⟩ ⟨⟨trivial, (fun z => absurd (Int32.le_iff_toInt_le.mp z) (by omega))⟩, (vp_of (n := 8) (by omega) (by omega))⟩
    have ek : (k + Int32.ofInt (1)).toInt = k.toInt + 1 := y_suc1 (by omega) (by omega)
    have nk : k.toNatClampNeg = k.toInt.toNat := rfl
    obtain ⟨k', h2, z1, z2, z3⟩ := ck_fill53L l h m (k + Int32.ofInt (1)) (xsetI h' 53 (k).toNatClampNeg (Int32.ofInt (2))) (G.set (by rw [vI_u rfl (rfl : vRow 53 = (-1, 2))]; exact (by decide)) (stou_no (by decide +kernel)) (by decide +kernel) rfl) (by omega) (by omega) (fun r hr => by
      by_cases e : r = k.toNatClampNeg
      · rw [e]; exact yI_same
      · rw [yI_ne (eq_false (fun z => e z.2))]; exact hz r (by omega))
    exact ⟨k', h2, t2.tr z1, z2, z3⟩
set_option maxRecDepth 100000 in
set_option maxHeartbeats 4000000 in
theorem ck_fill53 (l : Launch) (h : XH) (hg : sgood vT vR vE 153 6051 h) : ∃ h', CX l 0 0 false 5 [xf 10008 53, xi (Int32.ofInt (2))] h [] h' ∧ vG ([(53, 0, true)], []) h h' ∧ (∀ r : Nat, r < 8 → xI h' 53 r = (Int32.ofInt (2))) := by
  have t3 : XT l 0 0 false 5 153 6051 0 [xf 10008 53, xi (Int32.ofInt (2)), xun, xun] [] h 5 [xf 10008 53, xi (Int32.ofInt (2)), xi (Int32.ofInt (0)), xi (Int32.ofNat (10008 - 10000))] [] h := XT_path (l := l) (fr := 0) (lo := 0) (full := false) (M := 5) (n := 153) (u := 6051) (pc := 0) (L := [xf 10008 53, xi (Int32.ofInt (2)), xun, xun]) (st := []) (h := h) (inl := []) (n' := 80) (sp := [5]) (o := []) rfl rfl ⟨rfl, rfl, rfl⟩ rfl ⟨Nat.le_of_eq hg.2.2.2.1, Nat.le_of_eq hg.2.2.2.2⟩ trivial
  obtain ⟨k', h2, z1, z2, z3⟩ := ck_fill53L l h 8 (Int32.ofInt (0)) h (vG.rf hg) (by decide) (by decide) (fun r hr => absurd hr (by rw [show (Int32.ofInt (0)).toInt = 0 from rfl]; omega))
  exact ⟨h2, CX_ofT (h' := h2) (by decide) rfl rfl trivial ⟨_, _, _, rfl, rfl, rfl⟩ rfl ⟨Nat.le_of_eq z2.1.2.2.2.1.symm, Nat.le_of_eq z2.1.2.2.2.2.symm⟩ (t3.tr z1), z2, z3⟩
set_option maxRecDepth 100000 in
set_option maxHeartbeats 4000000 in
theorem ck_fill56L (l : Launch) (h : XH) : ∀ (m : Nat) (k : Int32) (h' : XH), vG ([(56, 0, true)], []) h h' → 0 ≤ k.toInt → k.toInt + m = 6 → (∀ r : Nat, (r : Int) < k.toInt → xI h' 56 r = (Int32.ofInt (0))) → ∃ k' h'', XT l 0 0 false 5 153 6051 5 [xf 10006 56, xi (Int32.ofInt (0)), xi k, xi (Int32.ofNat (10006 - 10000))] [] h' 20 [xf 10006 56, xi (Int32.ofInt (0)), xi k', xi (Int32.ofNat (10006 - 10000))] [] h'' ∧ vG ([(56, 0, true)], []) h h'' ∧ (∀ r : Nat, r < 6 → xI h'' 56 r = (Int32.ofInt (0)))
  | 0, k, h', G, a1, a2, hz => by
    have e6 : (Int32.ofNat (10006 - 10000)).toInt = 6 := by decide
    have t1 : XT l 0 0 false 5 153 6051 5 [xf 10006 56, xi (Int32.ofInt (0)), xi k, xi (Int32.ofNat (10006 - 10000))] [] h' 20 [xf 10006 56, xi (Int32.ofInt (0)), xi k, xi (Int32.ofNat (10006 - 10000))] [] h' := XT_path (l := l) (fr := 0) (lo := 0) (full := false) (M := 5) (n := 153) (u := 6051) (pc := 5) (L := [xf 10006 56, xi (Int32.ofInt (0)), xi k, xi (Int32.ofNat (10006 - 10000))]) (st := []) (h := h') (inl := []) (n' := 80) (sp := [20]) (o := [1]) rfl rfl ⟨rfl, rfl, rfl⟩ rfl ⟨Nat.le_of_eq G.1.2.2.2.1, Nat.le_of_eq G.1.2.2.2.2⟩ ⟨trivial, (Int32.le_iff_toInt_le.mpr (by omega))⟩
    exact ⟨k, h', t1, G, fun r hr => hz r (by omega)⟩
  | m + 1, k, h', G, a1, a2, hz => by
    have e6 : (Int32.ofNat (10006 - 10000)).toInt = 6 := by decide
    have t2 : XT l 0 0 false 5 153 6051 5 [xf 10006 56, xi (Int32.ofInt (0)), xi k, xi (Int32.ofNat (10006 - 10000))] [] h' 5 [xf 10006 56, xi (Int32.ofInt (0)), xi (k + Int32.ofInt (1)), xi (Int32.ofNat (10006 - 10000))] [] (xsetI h' 56 (k).toNatClampNeg (Int32.ofInt (0))) := XT_path (l := l) (fr := 0) (lo := 0) (full := false) (M := 5) (n := 153) (u := 6051) (pc := 5) (L := [xf 10006 56, xi (Int32.ofInt (0)), xi k, xi (Int32.ofNat (10006 - 10000))]) (st := []) (h := h') (inl := []) (n' := 80) (sp := [5]) (o := [0]) rfl rfl ⟨rfl, rfl, rfl⟩ rfl ⟨Nat.le_of_eq G.1.2.2.2.1, Nat.le_of_eq G.1.2.2.2.2⟩ ⟨⟨trivial, (fun z => absurd (Int32.le_iff_toInt_le.mp z) (by omega))⟩, (vp_of (n := 6) (by omega) (by omega))⟩
    have ek : (k + Int32.ofInt (1)).toInt = k.toInt + 1 := y_suc1 (by omega) (by omega)
    have nk : k.toNatClampNeg = k.toInt.toNat := rfl
    obtain ⟨k', h2, z1, z2, z3⟩ := ck_fill56L l h m (k + Int32.ofInt (1)) (xsetI h' 56 (k).toNatClampNeg (Int32.ofInt (0))) (G.set (by rw [vI_u rfl (rfl : vRow 56 = sfull)]; exact i32r_of _) (stou_no (by decide +kernel)) (by decide +kernel) rfl) (by omega) (by omega) (fun r hr => by
      by_cases e : r = k.toNatClampNeg
      · rw [e]; exact yI_same
      · rw [yI_ne (eq_false (fun z => e z.2))]; exact hz r (by omega))
    exact ⟨k', h2, t2.tr z1, z2, z3⟩
set_option maxRecDepth 100000 in
set_option maxHeartbeats 4000000 in
theorem ck_fill56 (l : Launch) (h : XH) (hg : sgood vT vR vE 153 6051 h) : ∃ h', CX l 0 0 false 5 [xf 10006 56, xi (Int32.ofInt (0))] h [] h' ∧ vG ([(56, 0, true)], []) h h' ∧ (∀ r : Nat, r < 6 → xI h' 56 r = (Int32.ofInt (0))) := by
  have t3 : XT l 0 0 false 5 153 6051 0 [xf 10006 56, xi (Int32.ofInt (0)), xun, xun] [] h 5 [xf 10006 56, xi (Int32.ofInt (0)), xi (Int32.ofInt (0)), xi (Int32.ofNat (10006 - 10000))] [] h := XT_path (l := l) (fr := 0) (lo := 0) (full := false) (M := 5) (n := 153) (u := 6051) (pc := 0) (L := [xf 10006 56, xi (Int32.ofInt (0)), xun, xun]) (st := []) (h := h) (inl := []) (n' := 80) (sp := [5]) (o := []) rfl rfl ⟨rfl, rfl, rfl⟩ rfl ⟨Nat.le_of_eq hg.2.2.2.1, Nat.le_of_eq hg.2.2.2.2⟩ trivial
  obtain ⟨k', h2, z1, z2, z3⟩ := ck_fill56L l h 6 (Int32.ofInt (0)) h (vG.rf hg) (by decide) (by decide) (fun r hr => absurd hr (by rw [show (Int32.ofInt (0)).toInt = 0 from rfl]; omega))
  exact ⟨h2, CX_ofT (h' := h2) (by decide) rfl rfl trivial ⟨_, _, _, rfl, rfl, rfl⟩ rfl ⟨Nat.le_of_eq z2.1.2.2.2.1.symm, Nat.le_of_eq z2.1.2.2.2.2.symm⟩ (t3.tr z1), z2, z3⟩
theorem vt_tear48 (l : Launch)  (h : XH) (hg : sgood vT vR vE 153 6051 h)  : ∃ (h' : XH), CX l 1 23 false 66 [xf 11 48] h [] h' ∧ sgood vT vR vE 153 6051 h' ∧ sframe ([(51, 0, true), (55, 0, true)], []) h h' ∧ ((True)) := by
  have ha : sargs (cap vC_61) [xf 11 48] := ⟨rfl, trivial⟩
  obtain ⟨ρ, rs, h', ⟨hv, hw⟩, c, g, f, cs, hcs, k1, k2, k3, k4, k5, k6⟩ := vc_61 l [xf 11 48] h ha hg (fun q hq => absurd hq List.not_mem_nil) (fun q hq => absurd hq List.not_mem_nil) (fun ρ hρ g hg' => absurd hg' List.not_mem_nil)
  rcases List.mem_cons.mp hcs with rfl | hcs
  · obtain rfl := sres_n k3
    exact ⟨h', c, g, f, trivial⟩
  exact absurd hcs List.not_mem_nil
theorem sw_row {e c k : Nat} (z : ¬ c = e) : swin [(e, 0, true)] c k = false := sw_no (fun q hq y => by
  rw [List.mem_singleton.mp hq] at y
  exact z y.1.symm)
set_option maxRecDepth 100000 in
set_option maxHeartbeats 4000000 in
theorem ck_crowd48_3 (l : Launch) (h : XH) : ∀ (m : Nat) (i : Int32) (h' : XH), vG ([(56, 0, true)], []) h h' → 0 ≤ i.toInt → i.toInt + m = (xI h 3 9).toInt → ∃ i' h'', XT l 2 47 false 65 153 6051 69 [xf 11 48, xf 8 3, xi i] [] h' 98 [xf 11 48, xf 8 3, xi i'] [] h'' ∧ vG ([(56, 0, true)], []) h h''
  | 0, i, h', G, i0, im => by
    have eb : xI h' 3 9 = xI h 3 9 := G.2.1 3 9 rfl
    have t1 : XT l 2 47 false 65 153 6051 69 [xf 11 48, xf 8 3, xi i] [] h' 98 [xf 11 48, xf 8 3, xi i] [] h' := XT_path (l := l) (fr := 2) (lo := 47) (full := false) (M := 65) (n := 153) (u := 6051) (pc := 69) (L := [xf 11 48, xf 8 3, xi i]) (st := []) (h := h') (inl := []) (n' := 80) (sp := [98]) (o := [1]) rfl rfl ⟨rfl, rfl, rfl⟩ rfl ⟨Nat.le_of_eq G.1.2.2.2.1, Nat.le_of_eq G.1.2.2.2.2⟩ ⟨trivial, (Int32.le_iff_toInt_le.mpr (by rw [eb]; omega))⟩
    exact ⟨i, h', t1, G⟩
  | m + 1, i, h', G, i0, im => by
    have eb : xI h' 3 9 = xI h 3 9 := G.2.1 3 9 rfl
    have b0 : 0 ≤ (xI h 3 9).toInt ∧ (xI h 3 9).toInt ≤ 8 := by have z := vbnd G.1.1 3 9; rw [eb] at z; exact z
    have ej := y_suc1 i0 (by omega)
    have ni : i.toNatClampNeg = i.toInt.toNat := rfl
    have bh : 0 ≤ (xI h' 52 i.toNatClampNeg).toInt ∧ (xI h' 52 i.toNatClampNeg).toInt ≤ 5 := by have z := vbnd G.1.1 52 i.toNatClampNeg; rw [vI_u rfl (rfl : vRow 52 = (0, 5))] at z; exact z
    have t1 : XT l 2 47 false 65 153 6051 69 [xf 11 48, xf 8 3, xi i] [] h' 69 [xf 11 48, xf 8 3, xi (i + Int32.ofInt (1))] [] (xsetI h' (xR h' 48 9) ((xI h' (xR h' 48 4) (i).toNatClampNeg)).toNatClampNeg ((xI h' (xR h' 48 9) ((xI h' (xR h' 48 4) (i).toNatClampNeg)).toNatClampNeg) + (Int32.ofInt (1)))) := XT_path (l := l) (fr := 2) (lo := 47) (full := false) (M := 65) (n := 153) (u := 6051) (pc := 69) (L := [xf 11 48, xf 8 3, xi i]) (st := []) (h := h') (inl := []) (n' := 80) (sp := [69]) (o := [0]) rfl rfl ⟨rfl, rfl, rfl⟩ rfl ⟨Nat.le_of_eq G.1.2.2.2.1, Nat.le_of_eq G.1.2.2.2.2⟩ ⟨⟨⟨⟨⟨⟨trivial, (fun z => absurd (Int32.le_iff_toInt_le.mp z) (by rw [eb]; omega))⟩, (vnn G.1.1 (rfl : vRf 48 9 = [56]) (by decide))⟩, (vnn G.1.1 (rfl : vRf 48 4 = [52]) (by decide))⟩, (vp_of (i := i) (n := 8) (by omega) (by omega))⟩, (by rw [vref G.1.1 (rfl : vRf 48 4 = [52])]; exact vp_of (n := 6) bh.1 (by omega))⟩, (by rw [vref G.1.1 (rfl : vRf 48 4 = [52])]; exact vp_of (n := 6) bh.1 (by omega))⟩
    rw [vref G.1.1 (rfl : vRf 48 9 = [56]), vref G.1.1 (rfl : vRf 48 4 = [52])] at t1
    have G2 : vG ([(56, 0, true)], []) h (xsetI h' 56 ((xI h' 52 (i).toNatClampNeg)).toNatClampNeg ((xI h' 56 ((xI h' 52 (i).toNatClampNeg)).toNatClampNeg) + (Int32.ofInt (1)))) := (G : vG ([(56, 0, true)], []) h h').set (c := 56) (k := ((xI h' 52 (i).toNatClampNeg)).toNatClampNeg) (v := ((xI h' 56 ((xI h' 52 (i).toNatClampNeg)).toNatClampNeg) + (Int32.ofInt (1)))) (by rw [vI_u (c := 56) (q := (-2147483648, 2147483647)) (by decide +kernel) (by decide +kernel)]; exact i32r_of _) rfl (by decide +kernel) rfl
    obtain ⟨i', h2, z1, z2⟩ := ck_crowd48_3 l h m (i + (Int32.ofInt (1))) _ G2 (by omega) (by omega)
    exact ⟨i', h2, t1.tr z1, z2⟩
set_option maxRecDepth 100000 in
set_option maxHeartbeats 4000000 in
theorem ck_start48_3 (l : Launch) (h : XH) (hg : sgood vT vR vE 153 6051 h) : ∃ h', CX l 2 47 false 65 [xf 11 48, xf 8 3] h [] h' ∧ sgood vT vR vE 153 6051 h' ∧ sframe ([(48, 7, false), (48, 10, false), (49, 0, true), (50, 0, true), (51, 0, true), (52, 0, true), (53, 0, true), (54, 0, true), (55, 0, true), (56, 0, true)], [(48, 0)]) h h' ∧ (∀ k, k < 6 → xI h' 49 k = xI h 5 k) ∧ (∀ k, k < 8 → xI h' 52 k = xI h 12 k) ∧ (∀ k, k < 6 → xI h' 50 k = (Int32.ofInt (0))) ∧ (∀ k, k < 8 → xI h' 54 k = (Int32.ofInt (0))) ∧ (∀ k, k < 8 → xI h' 53 k = (Int32.ofInt (2))) ∧ xI h' 48 7 = (Int32.ofInt (0)) ∧ xI h' 48 10 = (Int32.ofInt (-1)) ∧ xR h' 48 0 = 3 := by
  have tB : XT l 2 47 false 65 153 6051 0 [xf 11 48, xf 8 3, xun] [] h 5 [xf 11 48, xf 8 3, xun] [] (xsetR h 48 0 3) := XT_path (l := l) (fr := 2) (lo := 47) (full := false) (M := 65) (n := 153) (u := 6051) (pc := 0) (L := [xf 11 48, xf 8 3, xun]) (st := []) (h := h) (inl := []) (n' := 80) (sp := [5]) (o := []) rfl rfl ⟨rfl, rfl, rfl⟩ rfl ⟨Nat.le_of_eq hg.2.2.2.1, Nat.le_of_eq hg.2.2.2.2⟩ trivial
  have G00 : vG ([(48, 7, false), (48, 10, false), (49, 0, true), (50, 0, true), (51, 0, true), (52, 0, true), (53, 0, true), (54, 0, true), (55, 0, true), (56, 0, true)], [(48, 0)]) h (xsetR h 48 0 3) := (vG.rf hg).setR (c := 48) (k := 0) (x := 3) (by decide) rfl
  obtain ⟨k0, ek0⟩ : ∃ x, x = xsetR h 48 0 3 := ⟨_, rfl⟩
  have q0 : xR k0 48 0 = 3 := by rw [ek0]; exact yR_same
  have o0 : ∀ c k, xI k0 c k = xI h c k := fun c k => by rw [ek0]; rfl
  rw [← ek0] at tB G00
  have G0 := G00
  have t1 : XT l 2 47 false 65 153 6051 5 [xf 11 48, xf 8 3, xun] [] k0 20 [xf 11 48, xf 8 3, xun] [] (xrowI k0 (xR k0 48 1) (va_cpy (xI k0 (xR k0 3 2)) (xI k0 (xR k0 48 1)) ((Int32.ofInt (0))).toNatClampNeg ((Int32.ofInt (0))).toNatClampNeg ((Int32.ofInt (6))).toNatClampNeg)) := XT_path (l := l) (fr := 2) (lo := 47) (full := false) (M := 65) (n := 153) (u := 6051) (pc := 5) (L := [xf 11 48, xf 8 3, xun]) (st := []) (h := k0) (inl := []) (n' := 120) (sp := [20]) (o := []) rfl rfl ⟨rfl, rfl, rfl⟩ rfl ⟨Nat.le_of_eq G0.1.2.2.2.1, Nat.le_of_eq G0.1.2.2.2.2⟩ ⟨⟨⟨trivial, (vnn G0.1.1 (rfl : vRf 3 2 = [5]) (by decide))⟩, (vnn G0.1.1 (rfl : vRf 48 1 = [49]) (by decide))⟩, ⟨⟨by decide, by decide, by decide⟩, by decide, by decide⟩⟩
  rw [vref G0.1.1 (rfl : vRf 48 1 = [49]), vref G0.1.1 (rfl : vRf 3 2 = [5])] at t1
  have t2 := tB.tr t1
  have G10 : vG ([(48, 7, false), (48, 10, false), (49, 0, true), (50, 0, true), (51, 0, true), (52, 0, true), (53, 0, true), (54, 0, true), (55, 0, true), (56, 0, true)], [(48, 0)]) h (xrowI k0 49 (va_cpy (xI k0 5) (xI k0 49) ((Int32.ofInt (0))).toNatClampNeg ((Int32.ofInt (0))).toNatClampNeg ((Int32.ofInt (6))).toNatClampNeg)) := G0.cpy (e := 49) (f := 5) (q := (0, 9)) rfl rfl rfl rfl (by decide +kernel) (by decide +kernel) (fun _ => rfl)
  have w10 : ∀ k, k < 6 → xI (xrowI k0 49 (va_cpy (xI k0 5) (xI k0 49) ((Int32.ofInt (0))).toNatClampNeg ((Int32.ofInt (0))).toNatClampNeg ((Int32.ofInt (6))).toNatClampNeg)) 49 k = xI k0 5 k := fun k hk => yI_rowS.trans (cpy_at hk)
  obtain ⟨k1, ek1⟩ : ∃ x, x = (xrowI k0 49 (va_cpy (xI k0 5) (xI k0 49) ((Int32.ofInt (0))).toNatClampNeg ((Int32.ofInt (0))).toNatClampNeg ((Int32.ofInt (6))).toNatClampNeg)) := ⟨_, rfl⟩
  have o1 : ∀ c k, ¬ c = 49 → xI k1 c k = xI k0 c k := fun c k z => by rw [ek1]; exact yI_row (eq_false z)
  have p1 : xR k1 48 0 = xR k0 48 0 := by rw [ek1]; rfl
  rw [← ek1] at t2 G10 w10
  have G1 := G10
  have w1 := w10
  have t3 : XT l 2 47 false 65 153 6051 20 [xf 11 48, xf 8 3, xun] [] k1 35 [xf 11 48, xf 8 3, xun] [] (xrowI k1 (xR k1 48 4) (va_cpy (xI k1 (xR k1 3 11)) (xI k1 (xR k1 48 4)) ((Int32.ofInt (0))).toNatClampNeg ((Int32.ofInt (0))).toNatClampNeg ((Int32.ofInt (8))).toNatClampNeg)) := XT_path (l := l) (fr := 2) (lo := 47) (full := false) (M := 65) (n := 153) (u := 6051) (pc := 20) (L := [xf 11 48, xf 8 3, xun]) (st := []) (h := k1) (inl := []) (n' := 120) (sp := [35]) (o := []) rfl rfl ⟨rfl, rfl, rfl⟩ rfl ⟨Nat.le_of_eq G1.1.2.2.2.1, Nat.le_of_eq G1.1.2.2.2.2⟩ ⟨⟨⟨trivial, (vnn G1.1.1 (rfl : vRf 3 11 = [12]) (by decide))⟩, (vnn G1.1.1 (rfl : vRf 48 4 = [52]) (by decide))⟩, ⟨⟨by decide, by decide, by decide⟩, by decide, by decide⟩⟩
  rw [vref G1.1.1 (rfl : vRf 48 4 = [52]), vref G1.1.1 (rfl : vRf 3 11 = [12])] at t3
  have t4 := t2.tr t3
  have G20 : vG ([(48, 7, false), (48, 10, false), (49, 0, true), (50, 0, true), (51, 0, true), (52, 0, true), (53, 0, true), (54, 0, true), (55, 0, true), (56, 0, true)], [(48, 0)]) h (xrowI k1 52 (va_cpy (xI k1 12) (xI k1 52) ((Int32.ofInt (0))).toNatClampNeg ((Int32.ofInt (0))).toNatClampNeg ((Int32.ofInt (8))).toNatClampNeg)) := G1.cpy (e := 52) (f := 12) (q := (0, 5)) rfl rfl rfl rfl (by decide +kernel) (by decide +kernel) (fun _ => rfl)
  have w20 : ∀ k, k < 8 → xI (xrowI k1 52 (va_cpy (xI k1 12) (xI k1 52) ((Int32.ofInt (0))).toNatClampNeg ((Int32.ofInt (0))).toNatClampNeg ((Int32.ofInt (8))).toNatClampNeg)) 52 k = xI k1 12 k := fun k hk => yI_rowS.trans (cpy_at hk)
  obtain ⟨k2, ek2⟩ : ∃ x, x = (xrowI k1 52 (va_cpy (xI k1 12) (xI k1 52) ((Int32.ofInt (0))).toNatClampNeg ((Int32.ofInt (0))).toNatClampNeg ((Int32.ofInt (8))).toNatClampNeg)) := ⟨_, rfl⟩
  have o2 : ∀ c k, ¬ c = 52 → xI k2 c k = xI k1 c k := fun c k z => by rw [ek2]; exact yI_row (eq_false z)
  have p2 : xR k2 48 0 = xR k1 48 0 := by rw [ek2]; rfl
  rw [← ek2] at t4 G20 w20
  have G2 := G20
  have w2 := w20
  have t5 : XT l 2 47 false 65 153 6051 35 [xf 11 48, xf 8 3, xun] [] k2 40 [xf 11 48, xf 8 3, xun] [xi (Int32.ofInt (0)), xf 10006 (xR k2 48 2)] k2 := XT_path (l := l) (fr := 2) (lo := 47) (full := false) (M := 65) (n := 153) (u := 6051) (pc := 35) (L := [xf 11 48, xf 8 3, xun]) (st := []) (h := k2) (inl := []) (n' := 120) (sp := [40]) (o := []) rfl rfl ⟨rfl, rfl, rfl⟩ rfl ⟨Nat.le_of_eq G2.1.2.2.2.1, Nat.le_of_eq G2.1.2.2.2.2⟩ ⟨trivial, (vnn G2.1.1 (rfl : vRf 48 2 = [50]) (by decide))⟩
  rw [vref G2.1.1 (rfl : vRf 48 2 = [50])] at t5
  have t6 := t4.tr t5
  obtain ⟨k3, c3, g3, w3⟩ := ck_fill50 l k2 G2.1
  have G3 : vG ([(48, 7, false), (48, 10, false), (49, 0, true), (50, 0, true), (51, 0, true), (52, 0, true), (53, 0, true), (54, 0, true), (55, 0, true), (56, 0, true)], [(48, 0)]) h k3 := ⟨g3.1, G2.2.tr (g3.2.mono rfl rfl)⟩
  have o3 : ∀ c k, ¬ c = 50 → xI k3 c k = xI k2 c k := fun c k z => g3.2.1 c k (sw_row z)
  have p3 : xR k3 48 0 = xR k2 48 0 := g3.2.2 48 0 rfl
  have t7 : XT l 2 47 false 65 153 6051 40 [xf 11 48, xf 8 3, xun] [xi (Int32.ofInt (0)), xf 10006 50] k2 43 [xf 11 48, xf 8 3, xun] [] k3 := XT_call (l := l) (fr := 2) (lo := 47) (full := false) (M := 65) (n := 153) (u := 6051) (pc := 40) (L := [xf 11 48, xf 8 3, xun]) (st := [xi (Int32.ofInt (0)), xf 10006 50]) (h := k2) (i := .invokestatic 5) (aux := 2) (nx := 43) (K := 5) (vs := [xf 10006 50, xi (Int32.ofInt (0))]) (rs := []) (rest := []) rfl rfl rfl rfl rfl rfl c3 (by decide) (by decide) (Nat.le_of_ble_eq_true rfl) ⟨Nat.le_of_eq G3.1.2.2.2.1, Nat.le_of_eq G3.1.2.2.2.2⟩
  have t8 := t6.tr t7
  have t9 : XT l 2 47 false 65 153 6051 43 [xf 11 48, xf 8 3, xun] [] k3 48 [xf 11 48, xf 8 3, xun] [xi (Int32.ofInt (0)), xf 10008 (xR k3 48 6)] k3 := XT_path (l := l) (fr := 2) (lo := 47) (full := false) (M := 65) (n := 153) (u := 6051) (pc := 43) (L := [xf 11 48, xf 8 3, xun]) (st := []) (h := k3) (inl := []) (n' := 120) (sp := [48]) (o := []) rfl rfl ⟨rfl, rfl, rfl⟩ rfl ⟨Nat.le_of_eq G3.1.2.2.2.1, Nat.le_of_eq G3.1.2.2.2.2⟩ ⟨trivial, (vnn G3.1.1 (rfl : vRf 48 6 = [54]) (by decide))⟩
  rw [vref G3.1.1 (rfl : vRf 48 6 = [54])] at t9
  have t10 := t8.tr t9
  obtain ⟨k4, c4, g4, w4⟩ := ck_fill54 l k3 G3.1
  have G4 : vG ([(48, 7, false), (48, 10, false), (49, 0, true), (50, 0, true), (51, 0, true), (52, 0, true), (53, 0, true), (54, 0, true), (55, 0, true), (56, 0, true)], [(48, 0)]) h k4 := ⟨g4.1, G3.2.tr (g4.2.mono rfl rfl)⟩
  have o4 : ∀ c k, ¬ c = 54 → xI k4 c k = xI k3 c k := fun c k z => g4.2.1 c k (sw_row z)
  have p4 : xR k4 48 0 = xR k3 48 0 := g4.2.2 48 0 rfl
  have t11 : XT l 2 47 false 65 153 6051 48 [xf 11 48, xf 8 3, xun] [xi (Int32.ofInt (0)), xf 10008 54] k3 51 [xf 11 48, xf 8 3, xun] [] k4 := XT_call (l := l) (fr := 2) (lo := 47) (full := false) (M := 65) (n := 153) (u := 6051) (pc := 48) (L := [xf 11 48, xf 8 3, xun]) (st := [xi (Int32.ofInt (0)), xf 10008 54]) (h := k3) (i := .invokestatic 5) (aux := 2) (nx := 51) (K := 5) (vs := [xf 10008 54, xi (Int32.ofInt (0))]) (rs := []) (rest := []) rfl rfl rfl rfl rfl rfl c4 (by decide) (by decide) (Nat.le_of_ble_eq_true rfl) ⟨Nat.le_of_eq G4.1.2.2.2.1, Nat.le_of_eq G4.1.2.2.2.2⟩
  have t12 := t10.tr t11
  have t13 : XT l 2 47 false 65 153 6051 51 [xf 11 48, xf 8 3, xun] [] k4 56 [xf 11 48, xf 8 3, xun] [xi (Int32.ofInt (2)), xf 10008 (xR k4 48 5)] k4 := XT_path (l := l) (fr := 2) (lo := 47) (full := false) (M := 65) (n := 153) (u := 6051) (pc := 51) (L := [xf 11 48, xf 8 3, xun]) (st := []) (h := k4) (inl := []) (n' := 120) (sp := [56]) (o := []) rfl rfl ⟨rfl, rfl, rfl⟩ rfl ⟨Nat.le_of_eq G4.1.2.2.2.1, Nat.le_of_eq G4.1.2.2.2.2⟩ ⟨trivial, (vnn G4.1.1 (rfl : vRf 48 5 = [53]) (by decide))⟩
  rw [vref G4.1.1 (rfl : vRf 48 5 = [53])] at t13
  have t14 := t12.tr t13
  obtain ⟨k5, c5, g5, w5⟩ := ck_fill53 l k4 G4.1
  have G5 : vG ([(48, 7, false), (48, 10, false), (49, 0, true), (50, 0, true), (51, 0, true), (52, 0, true), (53, 0, true), (54, 0, true), (55, 0, true), (56, 0, true)], [(48, 0)]) h k5 := ⟨g5.1, G4.2.tr (g5.2.mono rfl rfl)⟩
  have o5 : ∀ c k, ¬ c = 53 → xI k5 c k = xI k4 c k := fun c k z => g5.2.1 c k (sw_row z)
  have p5 : xR k5 48 0 = xR k4 48 0 := g5.2.2 48 0 rfl
  have t15 : XT l 2 47 false 65 153 6051 56 [xf 11 48, xf 8 3, xun] [xi (Int32.ofInt (2)), xf 10008 53] k4 59 [xf 11 48, xf 8 3, xun] [] k5 := XT_call (l := l) (fr := 2) (lo := 47) (full := false) (M := 65) (n := 153) (u := 6051) (pc := 56) (L := [xf 11 48, xf 8 3, xun]) (st := [xi (Int32.ofInt (2)), xf 10008 53]) (h := k4) (i := .invokestatic 5) (aux := 2) (nx := 59) (K := 5) (vs := [xf 10008 53, xi (Int32.ofInt (2))]) (rs := []) (rest := []) rfl rfl rfl rfl rfl rfl c5 (by decide) (by decide) (Nat.le_of_ble_eq_true rfl) ⟨Nat.le_of_eq G5.1.2.2.2.1, Nat.le_of_eq G5.1.2.2.2.2⟩
  have t16 := t14.tr t15
  have t17 : XT l 2 47 false 65 153 6051 59 [xf 11 48, xf 8 3, xun] [] k5 64 [xf 11 48, xf 8 3, xun] [xi (Int32.ofInt (0)), xf 10006 (xR k5 48 9)] k5 := XT_path (l := l) (fr := 2) (lo := 47) (full := false) (M := 65) (n := 153) (u := 6051) (pc := 59) (L := [xf 11 48, xf 8 3, xun]) (st := []) (h := k5) (inl := []) (n' := 120) (sp := [64]) (o := []) rfl rfl ⟨rfl, rfl, rfl⟩ rfl ⟨Nat.le_of_eq G5.1.2.2.2.1, Nat.le_of_eq G5.1.2.2.2.2⟩ ⟨trivial, (vnn G5.1.1 (rfl : vRf 48 9 = [56]) (by decide))⟩
  rw [vref G5.1.1 (rfl : vRf 48 9 = [56])] at t17
  have t18 := t16.tr t17
  obtain ⟨k6, c6, g6, w6⟩ := ck_fill56 l k5 G5.1
  have G6 : vG ([(48, 7, false), (48, 10, false), (49, 0, true), (50, 0, true), (51, 0, true), (52, 0, true), (53, 0, true), (54, 0, true), (55, 0, true), (56, 0, true)], [(48, 0)]) h k6 := ⟨g6.1, G5.2.tr (g6.2.mono rfl rfl)⟩
  have o6 : ∀ c k, ¬ c = 56 → xI k6 c k = xI k5 c k := fun c k z => g6.2.1 c k (sw_row z)
  have p6 : xR k6 48 0 = xR k5 48 0 := g6.2.2 48 0 rfl
  have t19 : XT l 2 47 false 65 153 6051 64 [xf 11 48, xf 8 3, xun] [xi (Int32.ofInt (0)), xf 10006 56] k5 67 [xf 11 48, xf 8 3, xun] [] k6 := XT_call (l := l) (fr := 2) (lo := 47) (full := false) (M := 65) (n := 153) (u := 6051) (pc := 64) (L := [xf 11 48, xf 8 3, xun]) (st := [xi (Int32.ofInt (0)), xf 10006 56]) (h := k5) (i := .invokestatic 5) (aux := 2) (nx := 67) (K := 5) (vs := [xf 10006 56, xi (Int32.ofInt (0))]) (rs := []) (rest := []) rfl rfl rfl rfl rfl rfl c6 (by decide) (by decide) (Nat.le_of_ble_eq_true rfl) ⟨Nat.le_of_eq G6.1.2.2.2.1, Nat.le_of_eq G6.1.2.2.2.2⟩
  have t20 := t18.tr t19
  have t21 : XT l 2 47 false 65 153 6051 67 [xf 11 48, xf 8 3, xun] [] k6 69 [xf 11 48, xf 8 3, xi (Int32.ofInt (0))] [] k6 := XT_path (l := l) (fr := 2) (lo := 47) (full := false) (M := 65) (n := 153) (u := 6051) (pc := 67) (L := [xf 11 48, xf 8 3, xun]) (st := []) (h := k6) (inl := []) (n' := 120) (sp := [69]) (o := []) rfl rfl ⟨rfl, rfl, rfl⟩ rfl ⟨Nat.le_of_eq G6.1.2.2.2.1, Nat.le_of_eq G6.1.2.2.2.2⟩ trivial
  have t22 := t20.tr t21
  have bn : 0 ≤ (xI k6 3 9).toInt ∧ (xI k6 3 9).toInt ≤ 8 := vbnd G6.1.1 3 9
  obtain ⟨i', k7, z7, g7⟩ := ck_crowd48_3 l k6 (xI k6 3 9).toInt.toNat (Int32.ofInt (0)) k6 (vG.rf G6.1) (by decide) (by rw [show (Int32.ofInt (0)).toInt = 0 from rfl]; omega)
  have G7 : vG ([(48, 7, false), (48, 10, false), (49, 0, true), (50, 0, true), (51, 0, true), (52, 0, true), (53, 0, true), (54, 0, true), (55, 0, true), (56, 0, true)], [(48, 0)]) h k7 := ⟨g7.1, G6.2.tr (g7.2.mono rfl rfl)⟩
  have o7 : ∀ c k, ¬ c = 56 → xI k7 c k = xI k6 c k := fun c k z => g7.2.1 c k (sw_row z)
  have p7 : xR k7 48 0 = xR k6 48 0 := g7.2.2 48 0 rfl
  have T7 := t22.tr z7
  have t23 : XT l 2 47 false 65 153 6051 98 [xf 11 48, xf 8 3, xi i'] [] k7 109 [xf 11 48, xf 8 3, xi i'] [xf 11 48] (xsetI (xsetI k7 48 7 (Int32.ofInt (0))) 48 10 (Int32.ofInt (-1))) := XT_path (l := l) (fr := 2) (lo := 47) (full := false) (M := 65) (n := 153) (u := 6051) (pc := 98) (L := [xf 11 48, xf 8 3, xi i']) (st := []) (h := k7) (inl := []) (n' := 120) (sp := [109]) (o := []) rfl rfl ⟨rfl, rfl, rfl⟩ rfl ⟨Nat.le_of_eq G7.1.2.2.2.1, Nat.le_of_eq G7.1.2.2.2.2⟩ trivial
  have t24 := T7.tr t23
  have w25 : vG ([(48, 7, false), (48, 10, false), (49, 0, true), (50, 0, true), (51, 0, true), (52, 0, true), (53, 0, true), (54, 0, true), (55, 0, true), (56, 0, true)], [(48, 0)]) h (xsetI k7 48 7 (Int32.ofInt (0))) := (G7 : vG ([(48, 7, false), (48, 10, false), (49, 0, true), (50, 0, true), (51, 0, true), (52, 0, true), (53, 0, true), (54, 0, true), (55, 0, true), (56, 0, true)], [(48, 0)]) h k7).set (c := 48) (k := 7) (v := (Int32.ofInt (0))) (show (-2147483648 : Int) ≤ _ ∧ _ ≤ 2147483647 from (by decide)) (by decide +kernel) (by decide +kernel) rfl
  have GS : vG ([(48, 7, false), (48, 10, false), (49, 0, true), (50, 0, true), (51, 0, true), (52, 0, true), (53, 0, true), (54, 0, true), (55, 0, true), (56, 0, true)], [(48, 0)]) h (xsetI (xsetI k7 48 7 (Int32.ofInt (0))) 48 10 (Int32.ofInt (-1))) := (w25 : vG ([(48, 7, false), (48, 10, false), (49, 0, true), (50, 0, true), (51, 0, true), (52, 0, true), (53, 0, true), (54, 0, true), (55, 0, true), (56, 0, true)], [(48, 0)]) h (xsetI k7 48 7 (Int32.ofInt (0)))).set (c := 48) (k := 10) (v := (Int32.ofInt (-1))) (show (-1 : Int) ≤ _ ∧ _ ≤ 4 from (by decide)) (by decide +kernel) (by decide +kernel) rfl
  obtain ⟨kT, cT, gT, fT, -⟩ := vt_tear48 l (xsetI (xsetI k7 48 7 (Int32.ofInt (0))) 48 10 (Int32.ofInt (-1))) GS.1
  have GT : vG ([(48, 7, false), (48, 10, false), (49, 0, true), (50, 0, true), (51, 0, true), (52, 0, true), (53, 0, true), (54, 0, true), (55, 0, true), (56, 0, true)], [(48, 0)]) h kT := ⟨gT, GS.2.tr (fT.mono rfl rfl)⟩
  have oS : ∀ c k, ¬ c = 48 → xI (xsetI (xsetI k7 48 7 (Int32.ofInt (0))) 48 10 (Int32.ofInt (-1))) c k = xI k7 c k := fun c k z => by rw [yI_c (eq_false z), yI_c (eq_false z)]
  have t26 : XT l 2 47 false 65 153 6051 109 [xf 11 48, xf 8 3, xi i'] [xf 11 48] (xsetI (xsetI k7 48 7 (Int32.ofInt (0))) 48 10 (Int32.ofInt (-1))) 112 [xf 11 48, xf 8 3, xi i'] [] kT := XT_call (l := l) (fr := 2) (lo := 47) (full := false) (M := 65) (n := 153) (u := 6051) (pc := 109) (L := [xf 11 48, xf 8 3, xi i']) (st := [xf 11 48]) (h := (xsetI (xsetI k7 48 7 (Int32.ofInt (0))) 48 10 (Int32.ofInt (-1)))) (i := .invokevirtual 66) (aux := 1) (nx := 112) (K := 66) (vs := [xf 11 48]) (rs := []) (rest := []) rfl rfl rfl rfl rfl rfl cT (by decide) (by decide) (Nat.le_of_ble_eq_true rfl) ⟨Nat.le_of_eq GT.1.2.2.2.1, Nat.le_of_eq GT.1.2.2.2.2⟩
  have t27 := t24.tr t26
  have rr : xR kT 48 0 = 3 := (fT.2 48 0 rfl).trans ((show xR (xsetI (xsetI k7 48 7 (Int32.ofInt (0))) 48 10 (Int32.ofInt (-1))) 48 0 = xR k7 48 0 from rfl).trans ((p7).trans ((p6).trans ((p5).trans ((p4).trans ((p3).trans ((p2).trans ((p1).trans (q0)))))))))
  exact ⟨kT, CX_ofT (h' := kT) (by decide) rfl rfl trivial ⟨_, _, _, rfl, rfl, rfl⟩ rfl ⟨Nat.le_of_eq GT.1.2.2.2.1.symm, Nat.le_of_eq GT.1.2.2.2.2.symm⟩ t27, GT.1, GT.2, fun k hk => ((fT.1 49 k rfl)).trans (((oS 49 k (by decide))).trans (((o7 49 k (by decide))).trans (((o6 49 k (by decide))).trans (((o5 49 k (by decide))).trans (((o4 49 k (by decide))).trans (((o3 49 k (by decide))).trans (((o2 49 k (by decide))).trans (((w1 k hk)).trans ((o0 5 k)))))))))), fun k hk => ((fT.1 52 k rfl)).trans (((oS 52 k (by decide))).trans (((o7 52 k (by decide))).trans (((o6 52 k (by decide))).trans (((o5 52 k (by decide))).trans (((o4 52 k (by decide))).trans (((o3 52 k (by decide))).trans (((w2 k hk)).trans (((o1 12 k (by decide))).trans ((o0 12 k)))))))))), fun k hk => ((fT.1 50 k rfl)).trans (((oS 50 k (by decide))).trans (((o7 50 k (by decide))).trans (((o6 50 k (by decide))).trans (((o5 50 k (by decide))).trans (((o4 50 k (by decide))).trans ((w3 k hk))))))), fun k hk => ((fT.1 54 k rfl)).trans (((oS 54 k (by decide))).trans (((o7 54 k (by decide))).trans (((o6 54 k (by decide))).trans (((o5 54 k (by decide))).trans ((w4 k hk)))))), fun k hk => ((fT.1 53 k rfl)).trans (((oS 53 k (by decide))).trans (((o7 53 k (by decide))).trans (((o6 53 k (by decide))).trans ((w5 k hk))))), (fT.1 48 7 rfl).trans ((yI_ne (by decide)).trans (yI_same)), (fT.1 48 10 rfl).trans (yI_same), rr⟩
set_option maxRecDepth 100000 in
set_option maxHeartbeats 4000000 in
theorem ck_crowd48_24 (l : Launch) (h : XH) : ∀ (m : Nat) (i : Int32) (h' : XH), vG ([(56, 0, true)], []) h h' → 0 ≤ i.toInt → i.toInt + m = (xI h 24 9).toInt → ∃ i' h'', XT l 2 47 false 65 153 6051 69 [xf 11 48, xf 8 24, xi i] [] h' 98 [xf 11 48, xf 8 24, xi i'] [] h'' ∧ vG ([(56, 0, true)], []) h h''
  | 0, i, h', G, i0, im => by
    have eb : xI h' 24 9 = xI h 24 9 := G.2.1 24 9 rfl
    have t1 : XT l 2 47 false 65 153 6051 69 [xf 11 48, xf 8 24, xi i] [] h' 98 [xf 11 48, xf 8 24, xi i] [] h' := XT_path (l := l) (fr := 2) (lo := 47) (full := false) (M := 65) (n := 153) (u := 6051) (pc := 69) (L := [xf 11 48, xf 8 24, xi i]) (st := []) (h := h') (inl := []) (n' := 80) (sp := [98]) (o := [1]) rfl rfl ⟨rfl, rfl, rfl⟩ rfl ⟨Nat.le_of_eq G.1.2.2.2.1, Nat.le_of_eq G.1.2.2.2.2⟩ ⟨trivial, (Int32.le_iff_toInt_le.mpr (by rw [eb]; omega))⟩
    exact ⟨i, h', t1, G⟩
  | m + 1, i, h', G, i0, im => by
    have eb : xI h' 24 9 = xI h 24 9 := G.2.1 24 9 rfl
    have b0 : 0 ≤ (xI h 24 9).toInt ∧ (xI h 24 9).toInt ≤ 8 := by have z := vbnd G.1.1 24 9; rw [eb] at z; exact z
    have ej := y_suc1 i0 (by omega)
    have ni : i.toNatClampNeg = i.toInt.toNat := rfl
    have bh : 0 ≤ (xI h' 52 i.toNatClampNeg).toInt ∧ (xI h' 52 i.toNatClampNeg).toInt ≤ 5 := by have z := vbnd G.1.1 52 i.toNatClampNeg; rw [vI_u rfl (rfl : vRow 52 = (0, 5))] at z; exact z
    have t1 : XT l 2 47 false 65 153 6051 69 [xf 11 48, xf 8 24, xi i] [] h' 69 [xf 11 48, xf 8 24, xi (i + Int32.ofInt (1))] [] (xsetI h' (xR h' 48 9) ((xI h' (xR h' 48 4) (i).toNatClampNeg)).toNatClampNeg ((xI h' (xR h' 48 9) ((xI h' (xR h' 48 4) (i).toNatClampNeg)).toNatClampNeg) + (Int32.ofInt (1)))) := XT_path (l := l) (fr := 2) (lo := 47) (full := false) (M := 65) (n := 153) (u := 6051) (pc := 69) (L := [xf 11 48, xf 8 24, xi i]) (st := []) (h := h') (inl := []) (n' := 80) (sp := [69]) (o := [0]) rfl rfl ⟨rfl, rfl, rfl⟩ rfl ⟨Nat.le_of_eq G.1.2.2.2.1, Nat.le_of_eq G.1.2.2.2.2⟩ ⟨⟨⟨⟨⟨⟨trivial, (fun z => absurd (Int32.le_iff_toInt_le.mp z) (by rw [eb]; omega))⟩, (vnn G.1.1 (rfl : vRf 48 9 = [56]) (by decide))⟩, (vnn G.1.1 (rfl : vRf 48 4 = [52]) (by decide))⟩, (vp_of (i := i) (n := 8) (by omega) (by omega))⟩, (by rw [vref G.1.1 (rfl : vRf 48 4 = [52])]; exact vp_of (n := 6) bh.1 (by omega))⟩, (by rw [vref G.1.1 (rfl : vRf 48 4 = [52])]; exact vp_of (n := 6) bh.1 (by omega))⟩
    rw [vref G.1.1 (rfl : vRf 48 9 = [56]), vref G.1.1 (rfl : vRf 48 4 = [52])] at t1
    have G2 : vG ([(56, 0, true)], []) h (xsetI h' 56 ((xI h' 52 (i).toNatClampNeg)).toNatClampNeg ((xI h' 56 ((xI h' 52 (i).toNatClampNeg)).toNatClampNeg) + (Int32.ofInt (1)))) := (G : vG ([(56, 0, true)], []) h h').set (c := 56) (k := ((xI h' 52 (i).toNatClampNeg)).toNatClampNeg) (v := ((xI h' 56 ((xI h' 52 (i).toNatClampNeg)).toNatClampNeg) + (Int32.ofInt (1)))) (by rw [vI_u (c := 56) (q := (-2147483648, 2147483647)) (by decide +kernel) (by decide +kernel)]; exact i32r_of _) rfl (by decide +kernel) rfl
    obtain ⟨i', h2, z1, z2⟩ := ck_crowd48_24 l h m (i + (Int32.ofInt (1))) _ G2 (by omega) (by omega)
    exact ⟨i', h2, t1.tr z1, z2⟩
set_option maxRecDepth 100000 in
set_option maxHeartbeats 4000000 in
theorem ck_start48_24 (l : Launch) (h : XH) (hg : sgood vT vR vE 153 6051 h) : ∃ h', CX l 2 47 false 65 [xf 11 48, xf 8 24] h [] h' ∧ sgood vT vR vE 153 6051 h' ∧ sframe ([(48, 7, false), (48, 10, false), (49, 0, true), (50, 0, true), (51, 0, true), (52, 0, true), (53, 0, true), (54, 0, true), (55, 0, true), (56, 0, true)], [(48, 0)]) h h' ∧ (∀ k, k < 6 → xI h' 49 k = xI h 26 k) ∧ (∀ k, k < 8 → xI h' 52 k = xI h 33 k) ∧ (∀ k, k < 6 → xI h' 50 k = (Int32.ofInt (0))) ∧ (∀ k, k < 8 → xI h' 54 k = (Int32.ofInt (0))) ∧ (∀ k, k < 8 → xI h' 53 k = (Int32.ofInt (2))) ∧ xI h' 48 7 = (Int32.ofInt (0)) ∧ xI h' 48 10 = (Int32.ofInt (-1)) ∧ xR h' 48 0 = 24 := by
  have tB : XT l 2 47 false 65 153 6051 0 [xf 11 48, xf 8 24, xun] [] h 5 [xf 11 48, xf 8 24, xun] [] (xsetR h 48 0 24) := XT_path (l := l) (fr := 2) (lo := 47) (full := false) (M := 65) (n := 153) (u := 6051) (pc := 0) (L := [xf 11 48, xf 8 24, xun]) (st := []) (h := h) (inl := []) (n' := 80) (sp := [5]) (o := []) rfl rfl ⟨rfl, rfl, rfl⟩ rfl ⟨Nat.le_of_eq hg.2.2.2.1, Nat.le_of_eq hg.2.2.2.2⟩ trivial
  have G00 : vG ([(48, 7, false), (48, 10, false), (49, 0, true), (50, 0, true), (51, 0, true), (52, 0, true), (53, 0, true), (54, 0, true), (55, 0, true), (56, 0, true)], [(48, 0)]) h (xsetR h 48 0 24) := (vG.rf hg).setR (c := 48) (k := 0) (x := 24) (by decide) rfl
  obtain ⟨k0, ek0⟩ : ∃ x, x = xsetR h 48 0 24 := ⟨_, rfl⟩
  have q0 : xR k0 48 0 = 24 := by rw [ek0]; exact yR_same
  have o0 : ∀ c k, xI k0 c k = xI h c k := fun c k => by rw [ek0]; rfl
  rw [← ek0] at tB G00
  have G0 := G00
  have t1 : XT l 2 47 false 65 153 6051 5 [xf 11 48, xf 8 24, xun] [] k0 20 [xf 11 48, xf 8 24, xun] [] (xrowI k0 (xR k0 48 1) (va_cpy (xI k0 (xR k0 24 2)) (xI k0 (xR k0 48 1)) ((Int32.ofInt (0))).toNatClampNeg ((Int32.ofInt (0))).toNatClampNeg ((Int32.ofInt (6))).toNatClampNeg)) := XT_path (l := l) (fr := 2) (lo := 47) (full := false) (M := 65) (n := 153) (u := 6051) (pc := 5) (L := [xf 11 48, xf 8 24, xun]) (st := []) (h := k0) (inl := []) (n' := 120) (sp := [20]) (o := []) rfl rfl ⟨rfl, rfl, rfl⟩ rfl ⟨Nat.le_of_eq G0.1.2.2.2.1, Nat.le_of_eq G0.1.2.2.2.2⟩ ⟨⟨⟨trivial, (vnn G0.1.1 (rfl : vRf 24 2 = [26]) (by decide))⟩, (vnn G0.1.1 (rfl : vRf 48 1 = [49]) (by decide))⟩, ⟨⟨by decide, by decide, by decide⟩, by decide, by decide⟩⟩
  rw [vref G0.1.1 (rfl : vRf 48 1 = [49]), vref G0.1.1 (rfl : vRf 24 2 = [26])] at t1
  have t2 := tB.tr t1
  have G10 : vG ([(48, 7, false), (48, 10, false), (49, 0, true), (50, 0, true), (51, 0, true), (52, 0, true), (53, 0, true), (54, 0, true), (55, 0, true), (56, 0, true)], [(48, 0)]) h (xrowI k0 49 (va_cpy (xI k0 26) (xI k0 49) ((Int32.ofInt (0))).toNatClampNeg ((Int32.ofInt (0))).toNatClampNeg ((Int32.ofInt (6))).toNatClampNeg)) := G0.cpy (e := 49) (f := 26) (q := (0, 9)) rfl rfl rfl rfl (by decide +kernel) (by decide +kernel) (fun _ => rfl)
  have w10 : ∀ k, k < 6 → xI (xrowI k0 49 (va_cpy (xI k0 26) (xI k0 49) ((Int32.ofInt (0))).toNatClampNeg ((Int32.ofInt (0))).toNatClampNeg ((Int32.ofInt (6))).toNatClampNeg)) 49 k = xI k0 26 k := fun k hk => yI_rowS.trans (cpy_at hk)
  obtain ⟨k1, ek1⟩ : ∃ x, x = (xrowI k0 49 (va_cpy (xI k0 26) (xI k0 49) ((Int32.ofInt (0))).toNatClampNeg ((Int32.ofInt (0))).toNatClampNeg ((Int32.ofInt (6))).toNatClampNeg)) := ⟨_, rfl⟩
  have o1 : ∀ c k, ¬ c = 49 → xI k1 c k = xI k0 c k := fun c k z => by rw [ek1]; exact yI_row (eq_false z)
  have p1 : xR k1 48 0 = xR k0 48 0 := by rw [ek1]; rfl
  rw [← ek1] at t2 G10 w10
  have G1 := G10
  have w1 := w10
  have t3 : XT l 2 47 false 65 153 6051 20 [xf 11 48, xf 8 24, xun] [] k1 35 [xf 11 48, xf 8 24, xun] [] (xrowI k1 (xR k1 48 4) (va_cpy (xI k1 (xR k1 24 11)) (xI k1 (xR k1 48 4)) ((Int32.ofInt (0))).toNatClampNeg ((Int32.ofInt (0))).toNatClampNeg ((Int32.ofInt (8))).toNatClampNeg)) := XT_path (l := l) (fr := 2) (lo := 47) (full := false) (M := 65) (n := 153) (u := 6051) (pc := 20) (L := [xf 11 48, xf 8 24, xun]) (st := []) (h := k1) (inl := []) (n' := 120) (sp := [35]) (o := []) rfl rfl ⟨rfl, rfl, rfl⟩ rfl ⟨Nat.le_of_eq G1.1.2.2.2.1, Nat.le_of_eq G1.1.2.2.2.2⟩ ⟨⟨⟨trivial, (vnn G1.1.1 (rfl : vRf 24 11 = [33]) (by decide))⟩, (vnn G1.1.1 (rfl : vRf 48 4 = [52]) (by decide))⟩, ⟨⟨by decide, by decide, by decide⟩, by decide, by decide⟩⟩
  rw [vref G1.1.1 (rfl : vRf 48 4 = [52]), vref G1.1.1 (rfl : vRf 24 11 = [33])] at t3
  have t4 := t2.tr t3
  have G20 : vG ([(48, 7, false), (48, 10, false), (49, 0, true), (50, 0, true), (51, 0, true), (52, 0, true), (53, 0, true), (54, 0, true), (55, 0, true), (56, 0, true)], [(48, 0)]) h (xrowI k1 52 (va_cpy (xI k1 33) (xI k1 52) ((Int32.ofInt (0))).toNatClampNeg ((Int32.ofInt (0))).toNatClampNeg ((Int32.ofInt (8))).toNatClampNeg)) := G1.cpy (e := 52) (f := 33) (q := (0, 5)) rfl rfl rfl rfl (by decide +kernel) (by decide +kernel) (fun _ => rfl)
  have w20 : ∀ k, k < 8 → xI (xrowI k1 52 (va_cpy (xI k1 33) (xI k1 52) ((Int32.ofInt (0))).toNatClampNeg ((Int32.ofInt (0))).toNatClampNeg ((Int32.ofInt (8))).toNatClampNeg)) 52 k = xI k1 33 k := fun k hk => yI_rowS.trans (cpy_at hk)
  obtain ⟨k2, ek2⟩ : ∃ x, x = (xrowI k1 52 (va_cpy (xI k1 33) (xI k1 52) ((Int32.ofInt (0))).toNatClampNeg ((Int32.ofInt (0))).toNatClampNeg ((Int32.ofInt (8))).toNatClampNeg)) := ⟨_, rfl⟩
  have o2 : ∀ c k, ¬ c = 52 → xI k2 c k = xI k1 c k := fun c k z => by rw [ek2]; exact yI_row (eq_false z)
  have p2 : xR k2 48 0 = xR k1 48 0 := by rw [ek2]; rfl
  rw [← ek2] at t4 G20 w20
  have G2 := G20
  have w2 := w20
  have t5 : XT l 2 47 false 65 153 6051 35 [xf 11 48, xf 8 24, xun] [] k2 40 [xf 11 48, xf 8 24, xun] [xi (Int32.ofInt (0)), xf 10006 (xR k2 48 2)] k2 := XT_path (l := l) (fr := 2) (lo := 47) (full := false) (M := 65) (n := 153) (u := 6051) (pc := 35) (L := [xf 11 48, xf 8 24, xun]) (st := []) (h := k2) (inl := []) (n' := 120) (sp := [40]) (o := []) rfl rfl ⟨rfl, rfl, rfl⟩ rfl ⟨Nat.le_of_eq G2.1.2.2.2.1, Nat.le_of_eq G2.1.2.2.2.2⟩ ⟨trivial, (vnn G2.1.1 (rfl : vRf 48 2 = [50]) (by decide))⟩
  rw [vref G2.1.1 (rfl : vRf 48 2 = [50])] at t5
  have t6 := t4.tr t5
  obtain ⟨k3, c3, g3, w3⟩ := ck_fill50 l k2 G2.1
  have G3 : vG ([(48, 7, false), (48, 10, false), (49, 0, true), (50, 0, true), (51, 0, true), (52, 0, true), (53, 0, true), (54, 0, true), (55, 0, true), (56, 0, true)], [(48, 0)]) h k3 := ⟨g3.1, G2.2.tr (g3.2.mono rfl rfl)⟩
  have o3 : ∀ c k, ¬ c = 50 → xI k3 c k = xI k2 c k := fun c k z => g3.2.1 c k (sw_row z)
  have p3 : xR k3 48 0 = xR k2 48 0 := g3.2.2 48 0 rfl
  have t7 : XT l 2 47 false 65 153 6051 40 [xf 11 48, xf 8 24, xun] [xi (Int32.ofInt (0)), xf 10006 50] k2 43 [xf 11 48, xf 8 24, xun] [] k3 := XT_call (l := l) (fr := 2) (lo := 47) (full := false) (M := 65) (n := 153) (u := 6051) (pc := 40) (L := [xf 11 48, xf 8 24, xun]) (st := [xi (Int32.ofInt (0)), xf 10006 50]) (h := k2) (i := .invokestatic 5) (aux := 2) (nx := 43) (K := 5) (vs := [xf 10006 50, xi (Int32.ofInt (0))]) (rs := []) (rest := []) rfl rfl rfl rfl rfl rfl c3 (by decide) (by decide) (Nat.le_of_ble_eq_true rfl) ⟨Nat.le_of_eq G3.1.2.2.2.1, Nat.le_of_eq G3.1.2.2.2.2⟩
  have t8 := t6.tr t7
  have t9 : XT l 2 47 false 65 153 6051 43 [xf 11 48, xf 8 24, xun] [] k3 48 [xf 11 48, xf 8 24, xun] [xi (Int32.ofInt (0)), xf 10008 (xR k3 48 6)] k3 := XT_path (l := l) (fr := 2) (lo := 47) (full := false) (M := 65) (n := 153) (u := 6051) (pc := 43) (L := [xf 11 48, xf 8 24, xun]) (st := []) (h := k3) (inl := []) (n' := 120) (sp := [48]) (o := []) rfl rfl ⟨rfl, rfl, rfl⟩ rfl ⟨Nat.le_of_eq G3.1.2.2.2.1, Nat.le_of_eq G3.1.2.2.2.2⟩ ⟨trivial, (vnn G3.1.1 (rfl : vRf 48 6 = [54]) (by decide))⟩
  rw [vref G3.1.1 (rfl : vRf 48 6 = [54])] at t9
  have t10 := t8.tr t9
  obtain ⟨k4, c4, g4, w4⟩ := ck_fill54 l k3 G3.1
  have G4 : vG ([(48, 7, false), (48, 10, false), (49, 0, true), (50, 0, true), (51, 0, true), (52, 0, true), (53, 0, true), (54, 0, true), (55, 0, true), (56, 0, true)], [(48, 0)]) h k4 := ⟨g4.1, G3.2.tr (g4.2.mono rfl rfl)⟩
  have o4 : ∀ c k, ¬ c = 54 → xI k4 c k = xI k3 c k := fun c k z => g4.2.1 c k (sw_row z)
  have p4 : xR k4 48 0 = xR k3 48 0 := g4.2.2 48 0 rfl
  have t11 : XT l 2 47 false 65 153 6051 48 [xf 11 48, xf 8 24, xun] [xi (Int32.ofInt (0)), xf 10008 54] k3 51 [xf 11 48, xf 8 24, xun] [] k4 := XT_call (l := l) (fr := 2) (lo := 47) (full := false) (M := 65) (n := 153) (u := 6051) (pc := 48) (L := [xf 11 48, xf 8 24, xun]) (st := [xi (Int32.ofInt (0)), xf 10008 54]) (h := k3) (i := .invokestatic 5) (aux := 2) (nx := 51) (K := 5) (vs := [xf 10008 54, xi (Int32.ofInt (0))]) (rs := []) (rest := []) rfl rfl rfl rfl rfl rfl c4 (by decide) (by decide) (Nat.le_of_ble_eq_true rfl) ⟨Nat.le_of_eq G4.1.2.2.2.1, Nat.le_of_eq G4.1.2.2.2.2⟩
  have t12 := t10.tr t11
  have t13 : XT l 2 47 false 65 153 6051 51 [xf 11 48, xf 8 24, xun] [] k4 56 [xf 11 48, xf 8 24, xun] [xi (Int32.ofInt (2)), xf 10008 (xR k4 48 5)] k4 := XT_path (l := l) (fr := 2) (lo := 47) (full := false) (M := 65) (n := 153) (u := 6051) (pc := 51) (L := [xf 11 48, xf 8 24, xun]) (st := []) (h := k4) (inl := []) (n' := 120) (sp := [56]) (o := []) rfl rfl ⟨rfl, rfl, rfl⟩ rfl ⟨Nat.le_of_eq G4.1.2.2.2.1, Nat.le_of_eq G4.1.2.2.2.2⟩ ⟨trivial, (vnn G4.1.1 (rfl : vRf 48 5 = [53]) (by decide))⟩
  rw [vref G4.1.1 (rfl : vRf 48 5 = [53])] at t13
  have t14 := t12.tr t13
  obtain ⟨k5, c5, g5, w5⟩ := ck_fill53 l k4 G4.1
  have G5 : vG ([(48, 7, false), (48, 10, false), (49, 0, true), (50, 0, true), (51, 0, true), (52, 0, true), (53, 0, true), (54, 0, true), (55, 0, true), (56, 0, true)], [(48, 0)]) h k5 := ⟨g5.1, G4.2.tr (g5.2.mono rfl rfl)⟩
  have o5 : ∀ c k, ¬ c = 53 → xI k5 c k = xI k4 c k := fun c k z => g5.2.1 c k (sw_row z)
  have p5 : xR k5 48 0 = xR k4 48 0 := g5.2.2 48 0 rfl
  have t15 : XT l 2 47 false 65 153 6051 56 [xf 11 48, xf 8 24, xun] [xi (Int32.ofInt (2)), xf 10008 53] k4 59 [xf 11 48, xf 8 24, xun] [] k5 := XT_call (l := l) (fr := 2) (lo := 47) (full := false) (M := 65) (n := 153) (u := 6051) (pc := 56) (L := [xf 11 48, xf 8 24, xun]) (st := [xi (Int32.ofInt (2)), xf 10008 53]) (h := k4) (i := .invokestatic 5) (aux := 2) (nx := 59) (K := 5) (vs := [xf 10008 53, xi (Int32.ofInt (2))]) (rs := []) (rest := []) rfl rfl rfl rfl rfl rfl c5 (by decide) (by decide) (Nat.le_of_ble_eq_true rfl) ⟨Nat.le_of_eq G5.1.2.2.2.1, Nat.le_of_eq G5.1.2.2.2.2⟩
  have t16 := t14.tr t15
  have t17 : XT l 2 47 false 65 153 6051 59 [xf 11 48, xf 8 24, xun] [] k5 64 [xf 11 48, xf 8 24, xun] [xi (Int32.ofInt (0)), xf 10006 (xR k5 48 9)] k5 := XT_path (l := l) (fr := 2) (lo := 47) (full := false) (M := 65) (n := 153) (u := 6051) (pc := 59) (L := [xf 11 48, xf 8 24, xun]) (st := []) (h := k5) (inl := []) (n' := 120) (sp := [64]) (o := []) rfl rfl ⟨rfl, rfl, rfl⟩ rfl ⟨Nat.le_of_eq G5.1.2.2.2.1, Nat.le_of_eq G5.1.2.2.2.2⟩ ⟨trivial, (vnn G5.1.1 (rfl : vRf 48 9 = [56]) (by decide))⟩
  rw [vref G5.1.1 (rfl : vRf 48 9 = [56])] at t17
  have t18 := t16.tr t17
  obtain ⟨k6, c6, g6, w6⟩ := ck_fill56 l k5 G5.1
  have G6 : vG ([(48, 7, false), (48, 10, false), (49, 0, true), (50, 0, true), (51, 0, true), (52, 0, true), (53, 0, true), (54, 0, true), (55, 0, true), (56, 0, true)], [(48, 0)]) h k6 := ⟨g6.1, G5.2.tr (g6.2.mono rfl rfl)⟩
  have o6 : ∀ c k, ¬ c = 56 → xI k6 c k = xI k5 c k := fun c k z => g6.2.1 c k (sw_row z)
  have p6 : xR k6 48 0 = xR k5 48 0 := g6.2.2 48 0 rfl
  have t19 : XT l 2 47 false 65 153 6051 64 [xf 11 48, xf 8 24, xun] [xi (Int32.ofInt (0)), xf 10006 56] k5 67 [xf 11 48, xf 8 24, xun] [] k6 := XT_call (l := l) (fr := 2) (lo := 47) (full := false) (M := 65) (n := 153) (u := 6051) (pc := 64) (L := [xf 11 48, xf 8 24, xun]) (st := [xi (Int32.ofInt (0)), xf 10006 56]) (h := k5) (i := .invokestatic 5) (aux := 2) (nx := 67) (K := 5) (vs := [xf 10006 56, xi (Int32.ofInt (0))]) (rs := []) (rest := []) rfl rfl rfl rfl rfl rfl c6 (by decide) (by decide) (Nat.le_of_ble_eq_true rfl) ⟨Nat.le_of_eq G6.1.2.2.2.1, Nat.le_of_eq G6.1.2.2.2.2⟩
  have t20 := t18.tr t19
  have t21 : XT l 2 47 false 65 153 6051 67 [xf 11 48, xf 8 24, xun] [] k6 69 [xf 11 48, xf 8 24, xi (Int32.ofInt (0))] [] k6 := XT_path (l := l) (fr := 2) (lo := 47) (full := false) (M := 65) (n := 153) (u := 6051) (pc := 67) (L := [xf 11 48, xf 8 24, xun]) (st := []) (h := k6) (inl := []) (n' := 120) (sp := [69]) (o := []) rfl rfl ⟨rfl, rfl, rfl⟩ rfl ⟨Nat.le_of_eq G6.1.2.2.2.1, Nat.le_of_eq G6.1.2.2.2.2⟩ trivial
  have t22 := t20.tr t21
  have bn : 0 ≤ (xI k6 24 9).toInt ∧ (xI k6 24 9).toInt ≤ 8 := vbnd G6.1.1 24 9
  obtain ⟨i', k7, z7, g7⟩ := ck_crowd48_24 l k6 (xI k6 24 9).toInt.toNat (Int32.ofInt (0)) k6 (vG.rf G6.1) (by decide) (by rw [show (Int32.ofInt (0)).toInt = 0 from rfl]; omega)
  have G7 : vG ([(48, 7, false), (48, 10, false), (49, 0, true), (50, 0, true), (51, 0, true), (52, 0, true), (53, 0, true), (54, 0, true), (55, 0, true), (56, 0, true)], [(48, 0)]) h k7 := ⟨g7.1, G6.2.tr (g7.2.mono rfl rfl)⟩
  have o7 : ∀ c k, ¬ c = 56 → xI k7 c k = xI k6 c k := fun c k z => g7.2.1 c k (sw_row z)
  have p7 : xR k7 48 0 = xR k6 48 0 := g7.2.2 48 0 rfl
  have T7 := t22.tr z7
  have t23 : XT l 2 47 false 65 153 6051 98 [xf 11 48, xf 8 24, xi i'] [] k7 109 [xf 11 48, xf 8 24, xi i'] [xf 11 48] (xsetI (xsetI k7 48 7 (Int32.ofInt (0))) 48 10 (Int32.ofInt (-1))) := XT_path (l := l) (fr := 2) (lo := 47) (full := false) (M := 65) (n := 153) (u := 6051) (pc := 98) (L := [xf 11 48, xf 8 24, xi i']) (st := []) (h := k7) (inl := []) (n' := 120) (sp := [109]) (o := []) rfl rfl ⟨rfl, rfl, rfl⟩ rfl ⟨Nat.le_of_eq G7.1.2.2.2.1, Nat.le_of_eq G7.1.2.2.2.2⟩ trivial
  have t24 := T7.tr t23
  have w25 : vG ([(48, 7, false), (48, 10, false), (49, 0, true), (50, 0, true), (51, 0, true), (52, 0, true), (53, 0, true), (54, 0, true), (55, 0, true), (56, 0, true)], [(48, 0)]) h (xsetI k7 48 7 (Int32.ofInt (0))) := (G7 : vG ([(48, 7, false), (48, 10, false), (49, 0, true), (50, 0, true), (51, 0, true), (52, 0, true), (53, 0, true), (54, 0, true), (55, 0, true), (56, 0, true)], [(48, 0)]) h k7).set (c := 48) (k := 7) (v := (Int32.ofInt (0))) (show (-2147483648 : Int) ≤ _ ∧ _ ≤ 2147483647 from (by decide)) (by decide +kernel) (by decide +kernel) rfl
  have GS : vG ([(48, 7, false), (48, 10, false), (49, 0, true), (50, 0, true), (51, 0, true), (52, 0, true), (53, 0, true), (54, 0, true), (55, 0, true), (56, 0, true)], [(48, 0)]) h (xsetI (xsetI k7 48 7 (Int32.ofInt (0))) 48 10 (Int32.ofInt (-1))) := (w25 : vG ([(48, 7, false), (48, 10, false), (49, 0, true), (50, 0, true), (51, 0, true), (52, 0, true), (53, 0, true), (54, 0, true), (55, 0, true), (56, 0, true)], [(48, 0)]) h (xsetI k7 48 7 (Int32.ofInt (0)))).set (c := 48) (k := 10) (v := (Int32.ofInt (-1))) (show (-1 : Int) ≤ _ ∧ _ ≤ 4 from (by decide)) (by decide +kernel) (by decide +kernel) rfl
  obtain ⟨kT, cT, gT, fT, -⟩ := vt_tear48 l (xsetI (xsetI k7 48 7 (Int32.ofInt (0))) 48 10 (Int32.ofInt (-1))) GS.1
  have GT : vG ([(48, 7, false), (48, 10, false), (49, 0, true), (50, 0, true), (51, 0, true), (52, 0, true), (53, 0, true), (54, 0, true), (55, 0, true), (56, 0, true)], [(48, 0)]) h kT := ⟨gT, GS.2.tr (fT.mono rfl rfl)⟩
  have oS : ∀ c k, ¬ c = 48 → xI (xsetI (xsetI k7 48 7 (Int32.ofInt (0))) 48 10 (Int32.ofInt (-1))) c k = xI k7 c k := fun c k z => by rw [yI_c (eq_false z), yI_c (eq_false z)]
  have t26 : XT l 2 47 false 65 153 6051 109 [xf 11 48, xf 8 24, xi i'] [xf 11 48] (xsetI (xsetI k7 48 7 (Int32.ofInt (0))) 48 10 (Int32.ofInt (-1))) 112 [xf 11 48, xf 8 24, xi i'] [] kT := XT_call (l := l) (fr := 2) (lo := 47) (full := false) (M := 65) (n := 153) (u := 6051) (pc := 109) (L := [xf 11 48, xf 8 24, xi i']) (st := [xf 11 48]) (h := (xsetI (xsetI k7 48 7 (Int32.ofInt (0))) 48 10 (Int32.ofInt (-1)))) (i := .invokevirtual 66) (aux := 1) (nx := 112) (K := 66) (vs := [xf 11 48]) (rs := []) (rest := []) rfl rfl rfl rfl rfl rfl cT (by decide) (by decide) (Nat.le_of_ble_eq_true rfl) ⟨Nat.le_of_eq GT.1.2.2.2.1, Nat.le_of_eq GT.1.2.2.2.2⟩
  have t27 := t24.tr t26
  have rr : xR kT 48 0 = 24 := (fT.2 48 0 rfl).trans ((show xR (xsetI (xsetI k7 48 7 (Int32.ofInt (0))) 48 10 (Int32.ofInt (-1))) 48 0 = xR k7 48 0 from rfl).trans ((p7).trans ((p6).trans ((p5).trans ((p4).trans ((p3).trans ((p2).trans ((p1).trans (q0)))))))))
  exact ⟨kT, CX_ofT (h' := kT) (by decide) rfl rfl trivial ⟨_, _, _, rfl, rfl, rfl⟩ rfl ⟨Nat.le_of_eq GT.1.2.2.2.1.symm, Nat.le_of_eq GT.1.2.2.2.2.symm⟩ t27, GT.1, GT.2, fun k hk => ((fT.1 49 k rfl)).trans (((oS 49 k (by decide))).trans (((o7 49 k (by decide))).trans (((o6 49 k (by decide))).trans (((o5 49 k (by decide))).trans (((o4 49 k (by decide))).trans (((o3 49 k (by decide))).trans (((o2 49 k (by decide))).trans (((w1 k hk)).trans ((o0 26 k)))))))))), fun k hk => ((fT.1 52 k rfl)).trans (((oS 52 k (by decide))).trans (((o7 52 k (by decide))).trans (((o6 52 k (by decide))).trans (((o5 52 k (by decide))).trans (((o4 52 k (by decide))).trans (((o3 52 k (by decide))).trans (((w2 k hk)).trans (((o1 33 k (by decide))).trans ((o0 33 k)))))))))), fun k hk => ((fT.1 50 k rfl)).trans (((oS 50 k (by decide))).trans (((o7 50 k (by decide))).trans (((o6 50 k (by decide))).trans (((o5 50 k (by decide))).trans (((o4 50 k (by decide))).trans ((w3 k hk))))))), fun k hk => ((fT.1 54 k rfl)).trans (((oS 54 k (by decide))).trans (((o7 54 k (by decide))).trans (((o6 54 k (by decide))).trans (((o5 54 k (by decide))).trans ((w4 k hk)))))), fun k hk => ((fT.1 53 k rfl)).trans (((oS 53 k (by decide))).trans (((o7 53 k (by decide))).trans (((o6 53 k (by decide))).trans ((w5 k hk))))), (fT.1 48 7 rfl).trans ((yI_ne (by decide)).trans (yI_same)), (fT.1 48 10 rfl).trans (yI_same), rr⟩
