/-! THE CLASS'S SEASON. -/
/-- but for some cells all is as it was -/
def mQ (L : List Nat) (h h' : XH) : Prop := mI h' ∧ (∀ e k, ¬ e ∈ L → xI h' e k = xI h e k) ∧ (∀ e k, xR h' e k = xR h e k)
theorem mQ.rf {L : List Nat} {h : XH} (g : mI h) : mQ L h h := ⟨g, fun _ _ _ => rfl, fun _ _ => rfl⟩
theorem mQ.tr {L : List Nat} {a b c : XH} (x : mQ L a b) (y : mQ L b c) : mQ L a c := ⟨y.1, fun e k z => (y.2.1 e k z).trans (x.2.1 e k z), fun e k => (y.2.2 e k).trans (x.2.2 e k)⟩
theorem mQ.mono {L M : List Nat} {a b : XH} (x : mQ L a b) (s : ∀ e ∈ L, e ∈ M) : mQ M a b := ⟨x.1, fun e k z => x.2.1 e k (fun y => z (s e y)), x.2.2⟩
theorem zsum_n {f : Nat → Int32} {n : Nat} {a v : Int32} (ha : a = zsum f n) (hv : f n = v) : a + v = zsum f (n + 1) := by
  rw [ha, ← hv]
  rfl
theorem zsum_m {f : Nat → Int32} {n : Nat} {a : Int32} (ha : a = zsum f n) (hv : f n = Int32.ofInt (0)) : a = zsum f (n + 1) := (Int32.add_zero a).symm.trans (zsum_n ha hv)
theorem mX.q {L : List Nat} {a b : XH} (x : mX a b) : mQ L a b := ⟨x.1, fun e k _ => x.2.1 e k, x.2.2⟩
theorem mQ.set {L : List Nat} {h h' : XH} {c k : Nat} {v : Int32} (x : mQ L h h') (hc : c ∈ L) (hv : (vI c k).1 ≤ v.toInt ∧ v.toInt ≤ (vI c k).2) : mQ L h (xsetI h' c k v) := ⟨⟨sinv_setI x.1.1 hv, trivial, trivial, x.1.2.2.2⟩, fun e j z => (yI_c (eq_false (fun y => z (by rw [y]; exact hc)))).trans (x.2.1 e j z), x.2.2⟩
theorem kTx.q {L : List Nat} {c : Nat} {Z : Nat → Int} {h h' : XH} (a : kTx c Z h) (x : mQ L h h') (hl : ∀ e ∈ L, e < c ∨ c + 19 < e) : kTx c Z h' := a.fr (fun i k i1 i2 => x.2.1 i k (fun y => by have := hl i y; omega))
theorem zSt_p {s v : Int32} (h : 1 ≤ s.toInt ∧ s.toInt ≤ 9) (hv : 0 < v.toInt) : (if s + Int32.ofInt (1) < Int32.ofInt (9) then s + Int32.ofInt (1) else Int32.ofInt (9)) = zSt s v := by
  have e := y_suc1 (k := s) (by omega) (by omega)
  have e9 : (Int32.ofInt (9)).toInt = 9 := rfl
  unfold zSt
  rw [if_pos hv]
  split
  · rename_i z
    have z := Int32.lt_iff_toInt_lt.mp z
    rw [if_pos (by omega)]
  · rename_i z
    have z : ¬ (s + Int32.ofInt (1)).toInt < (Int32.ofInt (9)).toInt := fun y => z (Int32.lt_iff_toInt_lt.mpr y)
    by_cases y : s.toInt < 9
    · rw [if_pos y]
      exact Int32.toInt_inj.mp (by omega)
    · rw [if_neg y]
      exact Int32.toInt_inj.mp (by omega)
theorem zSt_m {s v : Int32} (h : 1 ≤ s.toInt ∧ s.toInt ≤ 9) (h0 : ¬ 0 < v.toInt) (hv : v.toInt < 0) : (if Int32.ofInt (1) < s - Int32.ofInt (1) then s - Int32.ofInt (1) else Int32.ofInt (1)) = zSt s v := by
  have e := y_pred (k := s) (by omega) (by omega)
  have e1 : (Int32.ofInt (1)).toInt = 1 := rfl
  unfold zSt
  rw [if_neg h0, if_pos hv]
  split
  · rename_i z
    have z := Int32.lt_iff_toInt_lt.mp z
    rw [if_pos (by omega)]
  · rename_i z
    have z : ¬ (Int32.ofInt (1)).toInt < (s - Int32.ofInt (1)).toInt := fun y => z (Int32.lt_iff_toInt_lt.mpr y)
    by_cases y : 1 < s.toInt
    · rw [if_pos y]
      exact Int32.toInt_inj.mp (by omega)
    · rw [if_neg y]
      exact Int32.toInt_inj.mp (by omega)
theorem zSt_z {s v : Int32} (h0 : ¬ 0 < v.toInt) (hv : ¬ v.toInt < 0) : s = zSt s v := by
  unfold zSt
  rw [if_neg h0, if_neg hv]
set_option maxRecDepth 100000 in
set_option maxHeartbeats 4000000 in
theorem cm_fill55L (l : Launch) (h : XH) : ∀ (m : Nat) (k : Int32) (h' : XH), mQ [55] h h' → 0 ≤ k.toInt → k.toInt + m = 6 → (∀ r : Nat, (r : Int) < k.toInt → xI h' 55 r = (Int32.ofInt (0))) → ∃ k' h'', XT l 0 0 false 5 153 6051 5 [xf 10006 55, xi (Int32.ofInt (0)), xi k, xi (Int32.ofNat (10006 - 10000))] [] h' 20 [xf 10006 55, xi (Int32.ofInt (0)), xi k', xi (Int32.ofNat (10006 - 10000))] [] h'' ∧ mQ [55] h h'' ∧ (∀ r : Nat, r < 6 → xI h'' 55 r = (Int32.ofInt (0)))
  | 0, k, h', G, a1, a2, hz => by
    have e6 : (Int32.ofNat (10006 - 10000)).toInt = 6 := by decide
    have t1 : XT l 0 0 false 5 153 6051 5 [xf 10006 55, xi (Int32.ofInt (0)), xi k, xi (Int32.ofNat (10006 - 10000))] [] h' 20 [xf 10006 55, xi (Int32.ofInt (0)), xi k, xi (Int32.ofNat (10006 - 10000))] [] h' := XT_path (l := l) (fr := 0) (lo := 0) (full := false) (M := 5) (n := 153) (u := 6051) (pc := 5) (L := [xf 10006 55, xi (Int32.ofInt (0)), xi k, xi (Int32.ofNat (10006 - 10000))]) (st := []) (h := h') (inl := []) (n' := 80) (sp := [20]) (o := [1]) rfl rfl ⟨rfl, rfl, rfl⟩ rfl ⟨Nat.le_of_eq G.1.2.2.2.1, Nat.le_of_eq G.1.2.2.2.2⟩ ⟨trivial, (Int32.le_iff_toInt_le.mpr (by omega))⟩
    exact ⟨k, h', t1, G, fun r hr => hz r (by omega)⟩
  | m + 1, k, h', G, a1, a2, hz => by
    have e6 : (Int32.ofNat (10006 - 10000)).toInt = 6 := by decide
    have t2 : XT l 0 0 false 5 153 6051 5 [xf 10006 55, xi (Int32.ofInt (0)), xi k, xi (Int32.ofNat (10006 - 10000))] [] h' 5 [xf 10006 55, xi (Int32.ofInt (0)), xi (k + Int32.ofInt (1)), xi (Int32.ofNat (10006 - 10000))] [] (xsetI h' 55 (k).toNatClampNeg (Int32.ofInt (0))) := XT_path (l := l) (fr := 0) (lo := 0) (full := false) (M := 5) (n := 153) (u := 6051) (pc := 5) (L := [xf 10006 55, xi (Int32.ofInt (0)), xi k, xi (Int32.ofNat (10006 - 10000))]) (st := []) (h := h') (inl := []) (n' := 80) (sp := [5]) (o := [0]) rfl rfl ⟨rfl, rfl, rfl⟩ rfl ⟨Nat.le_of_eq G.1.2.2.2.1, Nat.le_of_eq G.1.2.2.2.2⟩ ⟨⟨trivial, (fun z => absurd (Int32.le_iff_toInt_le.mp z) (by omega))⟩, (vp_of (n := 6) (by omega) (by omega))⟩
    have ek : (k + Int32.ofInt (1)).toInt = k.toInt + 1 := y_suc1 (by omega) (by omega)
    have nk : k.toNatClampNeg = k.toInt.toNat := rfl
    obtain ⟨k', h2, z1, z2, z3⟩ := cm_fill55L l h m (k + Int32.ofInt (1)) (xsetI h' 55 (k).toNatClampNeg (Int32.ofInt (0))) (G.set (by decide) (by rw [vI_u rfl (rfl : vRow 55 = sfull)]; exact i32r_of _)) (by omega) (by omega) (fun r hr => by
      by_cases e : r = k.toNatClampNeg
      · rw [e]; exact yI_same
      · rw [yI_ne (eq_false (fun z => e z.2))]; exact hz r (by omega))
    exact ⟨k', h2, t2.tr z1, z2, z3⟩
set_option maxRecDepth 100000 in
set_option maxHeartbeats 4000000 in
theorem cm_fill55 (l : Launch) (h : XH) (hg : mI h) : ∃ h', CX l 0 0 false 5 [xf 10006 55, xi (Int32.ofInt (0))] h [] h' ∧ mQ [55] h h' ∧ (∀ r : Nat, r < 6 → xI h' 55 r = (Int32.ofInt (0))) := by
  have t3 : XT l 0 0 false 5 153 6051 0 [xf 10006 55, xi (Int32.ofInt (0)), xun, xun] [] h 5 [xf 10006 55, xi (Int32.ofInt (0)), xi (Int32.ofInt (0)), xi (Int32.ofNat (10006 - 10000))] [] h := XT_path (l := l) (fr := 0) (lo := 0) (full := false) (M := 5) (n := 153) (u := 6051) (pc := 0) (L := [xf 10006 55, xi (Int32.ofInt (0)), xun, xun]) (st := []) (h := h) (inl := []) (n' := 80) (sp := [5]) (o := []) rfl rfl ⟨rfl, rfl, rfl⟩ rfl ⟨Nat.le_of_eq hg.2.2.2.1, Nat.le_of_eq hg.2.2.2.2⟩ trivial
  obtain ⟨k', h2, z1, z2, z3⟩ := cm_fill55L l h 6 (Int32.ofInt (0)) h (mQ.rf hg) (by decide) (by decide) (fun r hr => absurd hr (by rw [show (Int32.ofInt (0)).toInt = 0 from rfl]; omega))
  exact ⟨h2, CX_ofT (h' := h2) (by decide) rfl rfl trivial ⟨_, _, _, rfl, rfl, rfl⟩ rfl ⟨Nat.le_of_eq z2.1.2.2.2.1.symm, Nat.le_of_eq z2.1.2.2.2.2.symm⟩ (t3.tr z1), z2, z3⟩
set_option maxRecDepth 100000 in
set_option maxHeartbeats 4000000 in
theorem cm_fill57L (l : Launch) (h : XH) : ∀ (m : Nat) (k : Int32) (h' : XH), mQ [57] h h' → 0 ≤ k.toInt → k.toInt + m = 6 → (∀ r : Nat, (r : Int) < k.toInt → xI h' 57 r = (Int32.ofInt (0))) → ∃ k' h'', XT l 0 0 false 5 153 6051 5 [xf 10006 57, xi (Int32.ofInt (0)), xi k, xi (Int32.ofNat (10006 - 10000))] [] h' 20 [xf 10006 57, xi (Int32.ofInt (0)), xi k', xi (Int32.ofNat (10006 - 10000))] [] h'' ∧ mQ [57] h h'' ∧ (∀ r : Nat, r < 6 → xI h'' 57 r = (Int32.ofInt (0)))
  | 0, k, h', G, a1, a2, hz => by
    have e6 : (Int32.ofNat (10006 - 10000)).toInt = 6 := by decide
    have t1 : XT l 0 0 false 5 153 6051 5 [xf 10006 57, xi (Int32.ofInt (0)), xi k, xi (Int32.ofNat (10006 - 10000))] [] h' 20 [xf 10006 57, xi (Int32.ofInt (0)), xi k, xi (Int32.ofNat (10006 - 10000))] [] h' := XT_path (l := l) (fr := 0) (lo := 0) (full := false) (M := 5) (n := 153) (u := 6051) (pc := 5) (L := [xf 10006 57, xi (Int32.ofInt (0)), xi k, xi (Int32.ofNat (10006 - 10000))]) (st := []) (h := h') (inl := []) (n' := 80) (sp := [20]) (o := [1]) rfl rfl ⟨rfl, rfl, rfl⟩ rfl ⟨Nat.le_of_eq G.1.2.2.2.1, Nat.le_of_eq G.1.2.2.2.2⟩ ⟨trivial, (Int32.le_iff_toInt_le.mpr (by omega))⟩
    exact ⟨k, h', t1, G, fun r hr => hz r (by omega)⟩
  | m + 1, k, h', G, a1, a2, hz => by
    have e6 : (Int32.ofNat (10006 - 10000)).toInt = 6 := by decide
    have t2 : XT l 0 0 false 5 153 6051 5 [xf 10006 57, xi (Int32.ofInt (0)), xi k, xi (Int32.ofNat (10006 - 10000))] [] h' 5 [xf 10006 57, xi (Int32.ofInt (0)), xi (k + Int32.ofInt (1)), xi (Int32.ofNat (10006 - 10000))] [] (xsetI h' 57 (k).toNatClampNeg (Int32.ofInt (0))) := XT_path (l := l) (fr := 0) (lo := 0) (full := false) (M := 5) (n := 153) (u := 6051) (pc := 5) (L := [xf 10006 57, xi (Int32.ofInt (0)), xi k, xi (Int32.ofNat (10006 - 10000))]) (st := []) (h := h') (inl := []) (n' := 80) (sp := [5]) (o := [0]) rfl rfl ⟨rfl, rfl, rfl⟩ rfl ⟨Nat.le_of_eq G.1.2.2.2.1, Nat.le_of_eq G.1.2.2.2.2⟩ ⟨⟨trivial, (fun z => absurd (Int32.le_iff_toInt_le.mp z) (by omega))⟩, (vp_of (n := 6) (by omega) (by omega))⟩
    have ek : (k + Int32.ofInt (1)).toInt = k.toInt + 1 := y_suc1 (by omega) (by omega)
    have nk : k.toNatClampNeg = k.toInt.toNat := rfl
    obtain ⟨k', h2, z1, z2, z3⟩ := cm_fill57L l h m (k + Int32.ofInt (1)) (xsetI h' 57 (k).toNatClampNeg (Int32.ofInt (0))) (G.set (by decide) (by rw [vI_u rfl (rfl : vRow 57 = sfull)]; exact i32r_of _)) (by omega) (by omega) (fun r hr => by
      by_cases e : r = k.toNatClampNeg
      · rw [e]; exact yI_same
      · rw [yI_ne (eq_false (fun z => e z.2))]; exact hz r (by omega))
    exact ⟨k', h2, t2.tr z1, z2, z3⟩
set_option maxRecDepth 100000 in
set_option maxHeartbeats 4000000 in
theorem cm_fill57 (l : Launch) (h : XH) (hg : mI h) : ∃ h', CX l 0 0 false 5 [xf 10006 57, xi (Int32.ofInt (0))] h [] h' ∧ mQ [57] h h' ∧ (∀ r : Nat, r < 6 → xI h' 57 r = (Int32.ofInt (0))) := by
  have t3 : XT l 0 0 false 5 153 6051 0 [xf 10006 57, xi (Int32.ofInt (0)), xun, xun] [] h 5 [xf 10006 57, xi (Int32.ofInt (0)), xi (Int32.ofInt (0)), xi (Int32.ofNat (10006 - 10000))] [] h := XT_path (l := l) (fr := 0) (lo := 0) (full := false) (M := 5) (n := 153) (u := 6051) (pc := 0) (L := [xf 10006 57, xi (Int32.ofInt (0)), xun, xun]) (st := []) (h := h) (inl := []) (n' := 80) (sp := [5]) (o := []) rfl rfl ⟨rfl, rfl, rfl⟩ rfl ⟨Nat.le_of_eq hg.2.2.2.1, Nat.le_of_eq hg.2.2.2.2⟩ trivial
  obtain ⟨k', h2, z1, z2, z3⟩ := cm_fill57L l h 6 (Int32.ofInt (0)) h (mQ.rf hg) (by decide) (by decide) (fun r hr => absurd hr (by rw [show (Int32.ofInt (0)).toInt = 0 from rfl]; omega))
  exact ⟨h2, CX_ofT (h' := h2) (by decide) rfl rfl trivial ⟨_, _, _, rfl, rfl, rfl⟩ rfl ⟨Nat.le_of_eq z2.1.2.2.2.1.symm, Nat.le_of_eq z2.1.2.2.2.2.symm⟩ (t3.tr z1), z2, z3⟩
set_option maxRecDepth 100000 in
set_option maxHeartbeats 4000000 in
theorem cm_fill53L (l : Launch) (h : XH) : ∀ (m : Nat) (k : Int32) (h' : XH), mQ [53] h h' → 0 ≤ k.toInt → k.toInt + m = 8 → (∀ r : Nat, (r : Int) < k.toInt → xI h' 53 r = (Int32.ofInt (2))) → ∃ k' h'', XT l 0 0 false 5 153 6051 5 [xf 10008 53, xi (Int32.ofInt (2)), xi k, xi (Int32.ofNat (10008 - 10000))] [] h' 20 [xf 10008 53, xi (Int32.ofInt (2)), xi k', xi (Int32.ofNat (10008 - 10000))] [] h'' ∧ mQ [53] h h'' ∧ (∀ r : Nat, r < 8 → xI h'' 53 r = (Int32.ofInt (2)))
  | 0, k, h', G, a1, a2, hz => by
    have e6 : (Int32.ofNat (10008 - 10000)).toInt = 8 := by decide
    have t1 : XT l 0 0 false 5 153 6051 5 [xf 10008 53, xi (Int32.ofInt (2)), xi k, xi (Int32.ofNat (10008 - 10000))] [] h' 20 [xf 10008 53, xi (Int32.ofInt (2)), xi k, xi (Int32.ofNat (10008 - 10000))] [] h' := XT_path (l := l) (fr := 0) (lo := 0) (full := false) (M := 5) (n := 153) (u := 6051) (pc := 5) (L := [xf 10008 53, xi (Int32.ofInt (2)), xi k, xi (Int32.ofNat (10008 - 10000))]) (st := []) (h := h') (inl := []) (n' := 80) (sp := [20]) (o := [1]) rfl rfl ⟨rfl, rfl, rfl⟩ rfl ⟨Nat.le_of_eq G.1.2.2.2.1, Nat.le_of_eq G.1.2.2.2.2⟩ ⟨trivial, (Int32.le_iff_toInt_le.mpr (by omega))⟩
    exact ⟨k, h', t1, G, fun r hr => hz r (by omega)⟩
  | m + 1, k, h', G, a1, a2, hz => by
    have e6 : (Int32.ofNat (10008 - 10000)).toInt = 8 := by decide
    have t2 : XT l 0 0 false 5 153 6051 5 [xf 10008 53, xi (Int32.ofInt (2)), xi k, xi (Int32.ofNat (10008 - 10000))] [] h' 5 [xf 10008 53, xi (Int32.ofInt (2)), xi (k + Int32.ofInt (1)), xi (Int32.ofNat (10008 - 10000))] [] (xsetI h' 53 (k).toNatClampNeg (Int32.ofInt (2))) := XT_path (l := l) (fr := 0) (lo := 0) (full := false) (M := 5) (n := 153) (u := 6051) (pc := 5) (L := [xf 10008 53, xi (Int32.ofInt (2)), xi k, xi (Int32.ofNat (10008 - 10000))]) (st := []) (h := h') (inl := []) (n' := 80) (sp := [5]) (o := [0]) rfl rfl ⟨rfl, rfl, rfl⟩ rfl ⟨Nat.le_of_eq G.1.2.2.2.1, Nat.le_of_eq G.1.2.2.2.2⟩ ⟨⟨trivial, (fun z => absurd (Int32.le_iff_toInt_le.mp z) (by omega))⟩, (vp_of (n := 8) (by omega) (by omega))⟩
    have ek : (k + Int32.ofInt (1)).toInt = k.toInt + 1 := y_suc1 (by omega) (by omega)
    have nk : k.toNatClampNeg = k.toInt.toNat := rfl
    obtain ⟨k', h2, z1, z2, z3⟩ := cm_fill53L l h m (k + Int32.ofInt (1)) (xsetI h' 53 (k).toNatClampNeg (Int32.ofInt (2))) (G.set (by decide) (by rw [vI_u rfl (rfl : vRow 53 = (-1, 2))]; exact (by decide))) (by omega) (by omega) (fun r hr => by
      by_cases e : r = k.toNatClampNeg
      · rw [e]; exact yI_same
      · rw [yI_ne (eq_false (fun z => e z.2))]; exact hz r (by omega))
    exact ⟨k', h2, t2.tr z1, z2, z3⟩
set_option maxRecDepth 100000 in
set_option maxHeartbeats 4000000 in
theorem cm_fill53 (l : Launch) (h : XH) (hg : mI h) : ∃ h', CX l 0 0 false 5 [xf 10008 53, xi (Int32.ofInt (2))] h [] h' ∧ mQ [53] h h' ∧ (∀ r : Nat, r < 8 → xI h' 53 r = (Int32.ofInt (2))) := by
  have t3 : XT l 0 0 false 5 153 6051 0 [xf 10008 53, xi (Int32.ofInt (2)), xun, xun] [] h 5 [xf 10008 53, xi (Int32.ofInt (2)), xi (Int32.ofInt (0)), xi (Int32.ofNat (10008 - 10000))] [] h := XT_path (l := l) (fr := 0) (lo := 0) (full := false) (M := 5) (n := 153) (u := 6051) (pc := 0) (L := [xf 10008 53, xi (Int32.ofInt (2)), xun, xun]) (st := []) (h := h) (inl := []) (n' := 80) (sp := [5]) (o := []) rfl rfl ⟨rfl, rfl, rfl⟩ rfl ⟨Nat.le_of_eq hg.2.2.2.1, Nat.le_of_eq hg.2.2.2.2⟩ trivial
  obtain ⟨k', h2, z1, z2, z3⟩ := cm_fill53L l h 8 (Int32.ofInt (0)) h (mQ.rf hg) (by decide) (by decide) (fun r hr => absurd hr (by rw [show (Int32.ofInt (0)).toInt = 0 from rfl]; omega))
  exact ⟨h2, CX_ofT (h' := h2) (by decide) rfl rfl trivial ⟨_, _, _, rfl, rfl, rfl⟩ rfl ⟨Nat.le_of_eq z2.1.2.2.2.1.symm, Nat.le_of_eq z2.1.2.2.2.2.symm⟩ (t3.tr z1), z2, z3⟩
set_option maxRecDepth 100000 in
set_option maxHeartbeats 4000000 in
theorem cm_fill66L (l : Launch) (h : XH) : ∀ (m : Nat) (k : Int32) (h' : XH), mQ [66] h h' → 0 ≤ k.toInt → k.toInt + m = 6 → (∀ r : Nat, (r : Int) < k.toInt → xI h' 66 r = (Int32.ofInt (0))) → ∃ k' h'', XT l 0 0 false 5 153 6051 5 [xf 10006 66, xi (Int32.ofInt (0)), xi k, xi (Int32.ofNat (10006 - 10000))] [] h' 20 [xf 10006 66, xi (Int32.ofInt (0)), xi k', xi (Int32.ofNat (10006 - 10000))] [] h'' ∧ mQ [66] h h'' ∧ (∀ r : Nat, r < 6 → xI h'' 66 r = (Int32.ofInt (0)))
  | 0, k, h', G, a1, a2, hz => by
    have e6 : (Int32.ofNat (10006 - 10000)).toInt = 6 := by decide
    have t1 : XT l 0 0 false 5 153 6051 5 [xf 10006 66, xi (Int32.ofInt (0)), xi k, xi (Int32.ofNat (10006 - 10000))] [] h' 20 [xf 10006 66, xi (Int32.ofInt (0)), xi k, xi (Int32.ofNat (10006 - 10000))] [] h' := XT_path (l := l) (fr := 0) (lo := 0) (full := false) (M := 5) (n := 153) (u := 6051) (pc := 5) (L := [xf 10006 66, xi (Int32.ofInt (0)), xi k, xi (Int32.ofNat (10006 - 10000))]) (st := []) (h := h') (inl := []) (n' := 80) (sp := [20]) (o := [1]) rfl rfl ⟨rfl, rfl, rfl⟩ rfl ⟨Nat.le_of_eq G.1.2.2.2.1, Nat.le_of_eq G.1.2.2.2.2⟩ ⟨trivial, (Int32.le_iff_toInt_le.mpr (by omega))⟩
    exact ⟨k, h', t1, G, fun r hr => hz r (by omega)⟩
  | m + 1, k, h', G, a1, a2, hz => by
    have e6 : (Int32.ofNat (10006 - 10000)).toInt = 6 := by decide
    have t2 : XT l 0 0 false 5 153 6051 5 [xf 10006 66, xi (Int32.ofInt (0)), xi k, xi (Int32.ofNat (10006 - 10000))] [] h' 5 [xf 10006 66, xi (Int32.ofInt (0)), xi (k + Int32.ofInt (1)), xi (Int32.ofNat (10006 - 10000))] [] (xsetI h' 66 (k).toNatClampNeg (Int32.ofInt (0))) := XT_path (l := l) (fr := 0) (lo := 0) (full := false) (M := 5) (n := 153) (u := 6051) (pc := 5) (L := [xf 10006 66, xi (Int32.ofInt (0)), xi k, xi (Int32.ofNat (10006 - 10000))]) (st := []) (h := h') (inl := []) (n' := 80) (sp := [5]) (o := [0]) rfl rfl ⟨rfl, rfl, rfl⟩ rfl ⟨Nat.le_of_eq G.1.2.2.2.1, Nat.le_of_eq G.1.2.2.2.2⟩ ⟨⟨trivial, (fun z => absurd (Int32.le_iff_toInt_le.mp z) (by omega))⟩, (vp_of (n := 6) (by omega) (by omega))⟩
    have ek : (k + Int32.ofInt (1)).toInt = k.toInt + 1 := y_suc1 (by omega) (by omega)
    have nk : k.toNatClampNeg = k.toInt.toNat := rfl
    obtain ⟨k', h2, z1, z2, z3⟩ := cm_fill66L l h m (k + Int32.ofInt (1)) (xsetI h' 66 (k).toNatClampNeg (Int32.ofInt (0))) (G.set (by decide) (by rw [vI_u rfl (rfl : vRow 66 = sfull)]; exact i32r_of _)) (by omega) (by omega) (fun r hr => by
      by_cases e : r = k.toNatClampNeg
      · rw [e]; exact yI_same
      · rw [yI_ne (eq_false (fun z => e z.2))]; exact hz r (by omega))
    exact ⟨k', h2, t2.tr z1, z2, z3⟩
set_option maxRecDepth 100000 in
set_option maxHeartbeats 4000000 in
theorem cm_fill66 (l : Launch) (h : XH) (hg : mI h) : ∃ h', CX l 0 0 false 5 [xf 10006 66, xi (Int32.ofInt (0))] h [] h' ∧ mQ [66] h h' ∧ (∀ r : Nat, r < 6 → xI h' 66 r = (Int32.ofInt (0))) := by
  have t3 : XT l 0 0 false 5 153 6051 0 [xf 10006 66, xi (Int32.ofInt (0)), xun, xun] [] h 5 [xf 10006 66, xi (Int32.ofInt (0)), xi (Int32.ofInt (0)), xi (Int32.ofNat (10006 - 10000))] [] h := XT_path (l := l) (fr := 0) (lo := 0) (full := false) (M := 5) (n := 153) (u := 6051) (pc := 0) (L := [xf 10006 66, xi (Int32.ofInt (0)), xun, xun]) (st := []) (h := h) (inl := []) (n' := 80) (sp := [5]) (o := []) rfl rfl ⟨rfl, rfl, rfl⟩ rfl ⟨Nat.le_of_eq hg.2.2.2.1, Nat.le_of_eq hg.2.2.2.2⟩ trivial
  obtain ⟨k', h2, z1, z2, z3⟩ := cm_fill66L l h 6 (Int32.ofInt (0)) h (mQ.rf hg) (by decide) (by decide) (fun r hr => absurd hr (by rw [show (Int32.ofInt (0)).toInt = 0 from rfl]; omega))
  exact ⟨h2, CX_ofT (h' := h2) (by decide) rfl rfl trivial ⟨_, _, _, rfl, rfl, rfl⟩ rfl ⟨Nat.le_of_eq z2.1.2.2.2.1.symm, Nat.le_of_eq z2.1.2.2.2.2.symm⟩ (t3.tr z1), z2, z3⟩
set_option maxRecDepth 100000 in
set_option maxHeartbeats 4000000 in
theorem cm_fill68L (l : Launch) (h : XH) : ∀ (m : Nat) (k : Int32) (h' : XH), mQ [68] h h' → 0 ≤ k.toInt → k.toInt + m = 6 → (∀ r : Nat, (r : Int) < k.toInt → xI h' 68 r = (Int32.ofInt (0))) → ∃ k' h'', XT l 0 0 false 5 153 6051 5 [xf 10006 68, xi (Int32.ofInt (0)), xi k, xi (Int32.ofNat (10006 - 10000))] [] h' 20 [xf 10006 68, xi (Int32.ofInt (0)), xi k', xi (Int32.ofNat (10006 - 10000))] [] h'' ∧ mQ [68] h h'' ∧ (∀ r : Nat, r < 6 → xI h'' 68 r = (Int32.ofInt (0)))
  | 0, k, h', G, a1, a2, hz => by
    have e6 : (Int32.ofNat (10006 - 10000)).toInt = 6 := by decide
    have t1 : XT l 0 0 false 5 153 6051 5 [xf 10006 68, xi (Int32.ofInt (0)), xi k, xi (Int32.ofNat (10006 - 10000))] [] h' 20 [xf 10006 68, xi (Int32.ofInt (0)), xi k, xi (Int32.ofNat (10006 - 10000))] [] h' := XT_path (l := l) (fr := 0) (lo := 0) (full := false) (M := 5) (n := 153) (u := 6051) (pc := 5) (L := [xf 10006 68, xi (Int32.ofInt (0)), xi k, xi (Int32.ofNat (10006 - 10000))]) (st := []) (h := h') (inl := []) (n' := 80) (sp := [20]) (o := [1]) rfl rfl ⟨rfl, rfl, rfl⟩ rfl ⟨Nat.le_of_eq G.1.2.2.2.1, Nat.le_of_eq G.1.2.2.2.2⟩ ⟨trivial, (Int32.le_iff_toInt_le.mpr (by omega))⟩
    exact ⟨k, h', t1, G, fun r hr => hz r (by omega)⟩
  | m + 1, k, h', G, a1, a2, hz => by
    have e6 : (Int32.ofNat (10006 - 10000)).toInt = 6 := by decide
    have t2 : XT l 0 0 false 5 153 6051 5 [xf 10006 68, xi (Int32.ofInt (0)), xi k, xi (Int32.ofNat (10006 - 10000))] [] h' 5 [xf 10006 68, xi (Int32.ofInt (0)), xi (k + Int32.ofInt (1)), xi (Int32.ofNat (10006 - 10000))] [] (xsetI h' 68 (k).toNatClampNeg (Int32.ofInt (0))) := XT_path (l := l) (fr := 0) (lo := 0) (full := false) (M := 5) (n := 153) (u := 6051) (pc := 5) (L := [xf 10006 68, xi (Int32.ofInt (0)), xi k, xi (Int32.ofNat (10006 - 10000))]) (st := []) (h := h') (inl := []) (n' := 80) (sp := [5]) (o := [0]) rfl rfl ⟨rfl, rfl, rfl⟩ rfl ⟨Nat.le_of_eq G.1.2.2.2.1, Nat.le_of_eq G.1.2.2.2.2⟩ ⟨⟨trivial, (fun z => absurd (Int32.le_iff_toInt_le.mp z) (by omega))⟩, (vp_of (n := 6) (by omega) (by omega))⟩
    have ek : (k + Int32.ofInt (1)).toInt = k.toInt + 1 := y_suc1 (by omega) (by omega)
    have nk : k.toNatClampNeg = k.toInt.toNat := rfl
    obtain ⟨k', h2, z1, z2, z3⟩ := cm_fill68L l h m (k + Int32.ofInt (1)) (xsetI h' 68 (k).toNatClampNeg (Int32.ofInt (0))) (G.set (by decide) (by rw [vI_u rfl (rfl : vRow 68 = sfull)]; exact i32r_of _)) (by omega) (by omega) (fun r hr => by
      by_cases e : r = k.toNatClampNeg
      · rw [e]; exact yI_same
      · rw [yI_ne (eq_false (fun z => e z.2))]; exact hz r (by omega))
    exact ⟨k', h2, t2.tr z1, z2, z3⟩
set_option maxRecDepth 100000 in
set_option maxHeartbeats 4000000 in
theorem cm_fill68 (l : Launch) (h : XH) (hg : mI h) : ∃ h', CX l 0 0 false 5 [xf 10006 68, xi (Int32.ofInt (0))] h [] h' ∧ mQ [68] h h' ∧ (∀ r : Nat, r < 6 → xI h' 68 r = (Int32.ofInt (0))) := by
  have t3 : XT l 0 0 false 5 153 6051 0 [xf 10006 68, xi (Int32.ofInt (0)), xun, xun] [] h 5 [xf 10006 68, xi (Int32.ofInt (0)), xi (Int32.ofInt (0)), xi (Int32.ofNat (10006 - 10000))] [] h := XT_path (l := l) (fr := 0) (lo := 0) (full := false) (M := 5) (n := 153) (u := 6051) (pc := 0) (L := [xf 10006 68, xi (Int32.ofInt (0)), xun, xun]) (st := []) (h := h) (inl := []) (n' := 80) (sp := [5]) (o := []) rfl rfl ⟨rfl, rfl, rfl⟩ rfl ⟨Nat.le_of_eq hg.2.2.2.1, Nat.le_of_eq hg.2.2.2.2⟩ trivial
  obtain ⟨k', h2, z1, z2, z3⟩ := cm_fill68L l h 6 (Int32.ofInt (0)) h (mQ.rf hg) (by decide) (by decide) (fun r hr => absurd hr (by rw [show (Int32.ofInt (0)).toInt = 0 from rfl]; omega))
  exact ⟨h2, CX_ofT (h' := h2) (by decide) rfl rfl trivial ⟨_, _, _, rfl, rfl, rfl⟩ rfl ⟨Nat.le_of_eq z2.1.2.2.2.1.symm, Nat.le_of_eq z2.1.2.2.2.2.symm⟩ (t3.tr z1), z2, z3⟩
set_option maxRecDepth 100000 in
set_option maxHeartbeats 4000000 in
theorem cm_fill64L (l : Launch) (h : XH) : ∀ (m : Nat) (k : Int32) (h' : XH), mQ [64] h h' → 0 ≤ k.toInt → k.toInt + m = 8 → (∀ r : Nat, (r : Int) < k.toInt → xI h' 64 r = (Int32.ofInt (2))) → ∃ k' h'', XT l 0 0 false 5 153 6051 5 [xf 10008 64, xi (Int32.ofInt (2)), xi k, xi (Int32.ofNat (10008 - 10000))] [] h' 20 [xf 10008 64, xi (Int32.ofInt (2)), xi k', xi (Int32.ofNat (10008 - 10000))] [] h'' ∧ mQ [64] h h'' ∧ (∀ r : Nat, r < 8 → xI h'' 64 r = (Int32.ofInt (2)))
  | 0, k, h', G, a1, a2, hz => by
    have e6 : (Int32.ofNat (10008 - 10000)).toInt = 8 := by decide
    have t1 : XT l 0 0 false 5 153 6051 5 [xf 10008 64, xi (Int32.ofInt (2)), xi k, xi (Int32.ofNat (10008 - 10000))] [] h' 20 [xf 10008 64, xi (Int32.ofInt (2)), xi k, xi (Int32.ofNat (10008 - 10000))] [] h' := XT_path (l := l) (fr := 0) (lo := 0) (full := false) (M := 5) (n := 153) (u := 6051) (pc := 5) (L := [xf 10008 64, xi (Int32.ofInt (2)), xi k, xi (Int32.ofNat (10008 - 10000))]) (st := []) (h := h') (inl := []) (n' := 80) (sp := [20]) (o := [1]) rfl rfl ⟨rfl, rfl, rfl⟩ rfl ⟨Nat.le_of_eq G.1.2.2.2.1, Nat.le_of_eq G.1.2.2.2.2⟩ ⟨trivial, (Int32.le_iff_toInt_le.mpr (by omega))⟩
    exact ⟨k, h', t1, G, fun r hr => hz r (by omega)⟩
  | m + 1, k, h', G, a1, a2, hz => by
    have e6 : (Int32.ofNat (10008 - 10000)).toInt = 8 := by decide
    have t2 : XT l 0 0 false 5 153 6051 5 [xf 10008 64, xi (Int32.ofInt (2)), xi k, xi (Int32.ofNat (10008 - 10000))] [] h' 5 [xf 10008 64, xi (Int32.ofInt (2)), xi (k + Int32.ofInt (1)), xi (Int32.ofNat (10008 - 10000))] [] (xsetI h' 64 (k).toNatClampNeg (Int32.ofInt (2))) := XT_path (l := l) (fr := 0) (lo := 0) (full := false) (M := 5) (n := 153) (u := 6051) (pc := 5) (L := [xf 10008 64, xi (Int32.ofInt (2)), xi k, xi (Int32.ofNat (10008 - 10000))]) (st := []) (h := h') (inl := []) (n' := 80) (sp := [5]) (o := [0]) rfl rfl ⟨rfl, rfl, rfl⟩ rfl ⟨Nat.le_of_eq G.1.2.2.2.1, Nat.le_of_eq G.1.2.2.2.2⟩ ⟨⟨trivial, (fun z => absurd (Int32.le_iff_toInt_le.mp z) (by omega))⟩, (vp_of (n := 8) (by omega) (by omega))⟩
    have ek : (k + Int32.ofInt (1)).toInt = k.toInt + 1 := y_suc1 (by omega) (by omega)
    have nk : k.toNatClampNeg = k.toInt.toNat := rfl
    obtain ⟨k', h2, z1, z2, z3⟩ := cm_fill64L l h m (k + Int32.ofInt (1)) (xsetI h' 64 (k).toNatClampNeg (Int32.ofInt (2))) (G.set (by decide) (by rw [vI_u rfl (rfl : vRow 64 = (-1, 2))]; exact (by decide))) (by omega) (by omega) (fun r hr => by
      by_cases e : r = k.toNatClampNeg
      · rw [e]; exact yI_same
      · rw [yI_ne (eq_false (fun z => e z.2))]; exact hz r (by omega))
    exact ⟨k', h2, t2.tr z1, z2, z3⟩
set_option maxRecDepth 100000 in
set_option maxHeartbeats 4000000 in
theorem cm_fill64 (l : Launch) (h : XH) (hg : mI h) : ∃ h', CX l 0 0 false 5 [xf 10008 64, xi (Int32.ofInt (2))] h [] h' ∧ mQ [64] h h' ∧ (∀ r : Nat, r < 8 → xI h' 64 r = (Int32.ofInt (2))) := by
  have t3 : XT l 0 0 false 5 153 6051 0 [xf 10008 64, xi (Int32.ofInt (2)), xun, xun] [] h 5 [xf 10008 64, xi (Int32.ofInt (2)), xi (Int32.ofInt (0)), xi (Int32.ofNat (10008 - 10000))] [] h := XT_path (l := l) (fr := 0) (lo := 0) (full := false) (M := 5) (n := 153) (u := 6051) (pc := 0) (L := [xf 10008 64, xi (Int32.ofInt (2)), xun, xun]) (st := []) (h := h) (inl := []) (n' := 80) (sp := [5]) (o := []) rfl rfl ⟨rfl, rfl, rfl⟩ rfl ⟨Nat.le_of_eq hg.2.2.2.1, Nat.le_of_eq hg.2.2.2.2⟩ trivial
  obtain ⟨k', h2, z1, z2, z3⟩ := cm_fill64L l h 8 (Int32.ofInt (0)) h (mQ.rf hg) (by decide) (by decide) (fun r hr => absurd hr (by rw [show (Int32.ofInt (0)).toInt = 0 from rfl]; omega))
  exact ⟨h2, CX_ofT (h' := h2) (by decide) rfl rfl trivial ⟨_, _, _, rfl, rfl, rfl⟩ rfl ⟨Nat.le_of_eq z2.1.2.2.2.1.symm, Nat.le_of_eq z2.1.2.2.2.2.symm⟩ (t3.tr z1), z2, z3⟩
set_option maxRecDepth 100000 in
set_option maxHeartbeats 4000000 in
theorem ck_tearL48_3 (l : Launch) (Z : Nat → Int) (Y : Nat → Int32) (tr : Int32) (h : XH) (hg : mI h) (A : zAll Z) (kt : kTx 3 Z h) (kw : kW 48 3 Z Y h) (V : zVd Z Y) (ht : tr.toInt = zTr Z Y) : ∀ (m k : Nat) (kk : Int32) (x3 x4 : XV) (h1 : XH), mQ [51, 55] h h1 → kk.toInt = k → (k : Int) + m = Z 1 → (∀ j : Nat, j < k → (xI h1 51 j).toInt = (if zTr Z Y < zgp Z Y j then 1 else 0)) → (∀ r : Nat, (r : Int) < Z 0 → xI h1 55 r = zsum (fun j => if (Z (140 + j) = r ∨ Z (150 + j) = r) ∧ zTr Z Y < zgp Z Y j then Int32.ofInt (1) else Int32.ofInt (0)) k) → ∃ k2 y3 y4 h2, XT l 1 23 false 66 153 6051 31 [xf 11 48, xi tr, xi kk, x3, x4] [] h1 132 [xf 11 48, xi tr, xi k2, y3, y4] [] h2 ∧ mQ [51, 55] h h2 ∧ (∀ j : Nat, j < (Z 1).toNat → (xI h2 51 j).toInt = (if zTr Z Y < zgp Z Y j then 1 else 0)) ∧ (∀ r : Nat, (r : Int) < Z 0 → xI h2 55 r = zsum (fun j => if (Z (140 + j) = r ∨ Z (150 + j) = r) ∧ zTr Z Y < zgp Z Y j then Int32.ofInt (1) else Int32.ofInt (0)) (Z 1).toNat)
  | 0, k, kk, x3, x4, h1, G, hk, hm, I3, I7 => by
    obtain ⟨⟨⟨B00, B01⟩, ⟨B10, B11⟩, ⟨B20, B21⟩, B30, B31⟩, g6, zj, zv, LW⟩ := id A
    have r0 : xR h1 48 0 = 3 := (G.2.2 48 0).trans kw.2.2.2.2.2
    have hg1 := G.1
    have ej : (xI h1 3 5).toInt = Z 1 := by rw [G.2.1 3 5 (by decide)]; exact kt.1.1 1 (by decide)
    have t1 : XT l 1 23 false 66 153 6051 31 [xf 11 48, xi tr, xi kk, x3, x4] [] h1 132 [xf 11 48, xi tr, xi kk, x3, x4] [] h1 := XT_path (l := l) (fr := 1) (lo := 23) (full := false) (M := 66) (n := 153) (u := 6051) (pc := 31) (L := [xf 11 48, xi tr, xi kk, x3, x4]) (st := []) (h := h1) (inl := []) (n' := 120) (sp := [132]) (o := [1]) rfl rfl ⟨rfl, rfl, rfl⟩ rfl ⟨Nat.le_of_eq hg1.2.2.2.1, Nat.le_of_eq hg1.2.2.2.2⟩ ⟨⟨trivial, (show ¬ xR h1 48 0 = 0 from by rw [r0]; decide)⟩, (show (xI h1 (xR h1 48 0) 5) ≤ kk from by rw [r0]; exact Int32.le_iff_toInt_le.mpr (by omega))⟩
    obtain rfl : k = (Z 1).toNat := by omega
    exact ⟨kk, x3, x4, h1, t1, G, I3, I7⟩
  | m + 1, k, kk, x3, x4, h1, G, hk, hm, I3, I7 => by
    obtain ⟨⟨⟨B00, B01⟩, ⟨B10, B11⟩, ⟨B20, B21⟩, B30, B31⟩, g6, zj, zv, LW⟩ := id A
    have r0 : xR h1 48 0 = 3 := (G.2.2 48 0).trans kw.2.2.2.2.2
    have hg1 := G.1
    have ej : (xI h1 3 5).toInt = Z 1 := by rw [G.2.1 3 5 (by decide)]; exact kt.1.1 1 (by decide)
    have lk : (k : Int) < Z 1 := by omega
    have nk : kk.toNatClampNeg = k := zi_ix hk
    have sk := y_suc1 (k := kk) (by omega) (by omega)
    obtain ⟨⟨o1, o2⟩, ⟨o3, o4⟩, -⟩ := zv.2.1 k lk
    have one := zj k lk
    obtain ⟨A1, hA1⟩ : ∃ n : Nat, n = (Z (140 + k)).toNat := ⟨_, rfl⟩
    obtain ⟨A2, hA2⟩ : ∃ n : Nat, n = (Z (150 + k)).toNat := ⟨_, rfl⟩
    have k1 : (xI h1 8 kk.toNatClampNeg).toInt = A1 := by rw [nk, G.2.1 8 k (by decide)]; exact (show (xI h 8 k).toInt = Z (140 + k) from kt.1.2.2 4 k (by decide) lk).trans (by omega)
    have k2 : (xI h1 9 kk.toNatClampNeg).toInt = A2 := by rw [nk, G.2.1 9 k (by decide)]; exact (show (xI h 9 k).toInt = Z (150 + k) from kt.1.2.2 5 k (by decide) lk).trans (by omega)
    have n1 : (xI h1 8 kk.toNatClampNeg).toNatClampNeg = A1 := zi_ix k1
    have n2 : (xI h1 9 kk.toNatClampNeg).toNatClampNeg = A2 := zi_ix k2
    have s1 : (xI h1 49 (xI h1 8 kk.toNatClampNeg).toNatClampNeg).toInt = (Y A1).toInt := by rw [n1, G.2.1 49 A1 (by decide)]; exact congrArg Int32.toInt (kw.1 A1 (by omega))
    have s2 : (xI h1 49 (xI h1 9 kk.toNatClampNeg).toNatClampNeg).toInt = (Y A2).toInt := by rw [n2, G.2.1 49 A2 (by decide)]; exact congrArg Int32.toInt (kw.1 A2 (by omega))
    have v1 := V.1 A1 (by omega)
    have v2 := V.1 A2 (by omega)
    have sd : ((xI h1 49 (xI h1 8 kk.toNatClampNeg).toNatClampNeg) - (xI h1 49 (xI h1 9 kk.toNatClampNeg).toNatClampNeg)).toInt = (Y A1).toInt - (Y A2).toInt := by rw [y_subb (by omega) (by omega), s1, s2]
    have sa := y_abs (x := (xI h1 49 (xI h1 8 kk.toNatClampNeg).toNatClampNeg) - (xI h1 49 (xI h1 9 kk.toNatClampNeg).toNatClampNeg)) (by omega)
    rw [sd] at sa
    have eg : zgp Z Y k = ((((Y A1).toInt - (Y A2).toInt).natAbs : Nat) : Int) := by unfold zgp; rw [← hA1, ← hA2]
    have ez : (0 : Int32).toInt = 0 := rfl
    by_cases cb1 : (if (0 : Int32) ≤ ((xI h1 (xR h1 48 1) ((xI h1 (xR h1 (xR h1 48 0) 6) (kk).toNatClampNeg)).toNatClampNeg) - (xI h1 (xR h1 48 1) ((xI h1 (xR h1 (xR h1 48 0) 7) (kk).toNatClampNeg)).toNatClampNeg)) then ((xI h1 (xR h1 48 1) ((xI h1 (xR h1 (xR h1 48 0) 6) (kk).toNatClampNeg)).toNatClampNeg) - (xI h1 (xR h1 48 1) ((xI h1 (xR h1 (xR h1 48 0) 7) (kk).toNatClampNeg)).toNatClampNeg)) else (0 : Int32) - ((xI h1 (xR h1 48 1) ((xI h1 (xR h1 (xR h1 48 0) 6) (kk).toNatClampNeg)).toNatClampNeg) - (xI h1 (xR h1 48 1) ((xI h1 (xR h1 (xR h1 48 0) 7) (kk).toNatClampNeg)).toNatClampNeg))) ≤ tr
    · have e_0 : (0 : Int32).toInt = 0 := rfl
      have cb1r := cb1
      rw [vref hg1.1 (rfl : vRf 48 1 = [49]), r0, vref hg1.1 (rfl : vRf 3 6 = [8]), vref hg1.1 (rfl : vRf 3 7 = [9])] at cb1r
      have dcb1 : (if (0 : Int32) ≤ ((xI h1 49 ((xI h1 8 (kk).toNatClampNeg)).toNatClampNeg) - (xI h1 49 ((xI h1 9 (kk).toNatClampNeg)).toNatClampNeg)) then ((xI h1 49 ((xI h1 8 (kk).toNatClampNeg)).toNatClampNeg) - (xI h1 49 ((xI h1 9 (kk).toNatClampNeg)).toNatClampNeg)) else (0 : Int32) - ((xI h1 49 ((xI h1 8 (kk).toNatClampNeg)).toNatClampNeg) - (xI h1 49 ((xI h1 9 (kk).toNatClampNeg)).toNatClampNeg))).toInt ≤ (tr).toInt := Int32.le_iff_toInt_le.mp cb1r
      have t2 : XT l 1 23 false 66 153 6051 31 [xf 11 48, xi tr, xi kk, x3, x4] [] h1 31 [xf 11 48, xi tr, xi (kk + Int32.ofInt (1)), xi (xI h1 (xR h1 (xR h1 48 0) 6) (kk).toNatClampNeg), xi (xI h1 (xR h1 (xR h1 48 0) 7) (kk).toNatClampNeg)] [] (xsetI (xsetI (xsetI h1 (xR h1 48 3) (kk).toNatClampNeg (Int32.ofInt (0))) (xR h1 48 8) ((xI h1 (xR h1 (xR h1 48 0) 6) (kk).toNatClampNeg)).toNatClampNeg ((xI (xsetI h1 (xR h1 48 3) (kk).toNatClampNeg (Int32.ofInt (0))) (xR h1 48 8) ((xI h1 (xR h1 (xR h1 48 0) 6) (kk).toNatClampNeg)).toNatClampNeg) + (xI (xsetI h1 (xR h1 48 3) (kk).toNatClampNeg (Int32.ofInt (0))) (xR h1 48 3) (kk).toNatClampNeg))) (xR h1 48 8) ((xI h1 (xR h1 (xR h1 48 0) 7) (kk).toNatClampNeg)).toNatClampNeg ((xI (xsetI (xsetI h1 (xR h1 48 3) (kk).toNatClampNeg (Int32.ofInt (0))) (xR h1 48 8) ((xI h1 (xR h1 (xR h1 48 0) 6) (kk).toNatClampNeg)).toNatClampNeg ((xI (xsetI h1 (xR h1 48 3) (kk).toNatClampNeg (Int32.ofInt (0))) (xR h1 48 8) ((xI h1 (xR h1 (xR h1 48 0) 6) (kk).toNatClampNeg)).toNatClampNeg) + (xI (xsetI h1 (xR h1 48 3) (kk).toNatClampNeg (Int32.ofInt (0))) (xR h1 48 3) (kk).toNatClampNeg))) (xR h1 48 8) ((xI h1 (xR h1 (xR h1 48 0) 7) (kk).toNatClampNeg)).toNatClampNeg) + (xI (xsetI (xsetI h1 (xR h1 48 3) (kk).toNatClampNeg (Int32.ofInt (0))) (xR h1 48 8) ((xI h1 (xR h1 (xR h1 48 0) 6) (kk).toNatClampNeg)).toNatClampNeg ((xI (xsetI h1 (xR h1 48 3) (kk).toNatClampNeg (Int32.ofInt (0))) (xR h1 48 8) ((xI h1 (xR h1 (xR h1 48 0) 6) (kk).toNatClampNeg)).toNatClampNeg) + (xI (xsetI h1 (xR h1 48 3) (kk).toNatClampNeg (Int32.ofInt (0))) (xR h1 48 3) (kk).toNatClampNeg))) (xR h1 48 3) (kk).toNatClampNeg))) := XT_path (l := l) (fr := 1) (lo := 23) (full := false) (M := 66) (n := 153) (u := 6051) (pc := 31) (L := [xf 11 48, xi tr, xi kk, x3, x4]) (st := []) (h := h1) (inl := []) (n' := 120) (sp := [31]) (o := [0, 1]) rfl rfl ⟨rfl, rfl, rfl⟩ rfl ⟨Nat.le_of_eq hg1.2.2.2.1, Nat.le_of_eq hg1.2.2.2.2⟩ ⟨⟨⟨⟨⟨⟨⟨⟨⟨⟨⟨⟨⟨⟨⟨⟨⟨⟨⟨⟨⟨⟨⟨⟨⟨trivial, (show ¬ xR h1 48 0 = 0 from by rw [r0]; decide)⟩, (show ¬ (xI h1 (xR h1 48 0) 5) ≤ kk from by rw [r0]; exact fun z => absurd (Int32.le_iff_toInt_le.mp z) (by omega))⟩, (show ¬ xR h1 48 0 = 0 from by rw [r0]; decide)⟩, (show ¬ xR h1 (xR h1 48 0) 6 = 0 from by rw [r0]; exact vnn hg1.1 (rfl : vRf 3 6 = [8]) (by decide))⟩, (vp_of (i := kk) (n := 9) (by omega) (by omega))⟩, (show ¬ xR h1 48 0 = 0 from by rw [r0]; decide)⟩, (show ¬ xR h1 (xR h1 48 0) 7 = 0 from by rw [r0]; exact vnn hg1.1 (rfl : vRf 3 7 = [9]) (by decide))⟩, (vp_of (i := kk) (n := 9) (by omega) (by omega))⟩, (vnn hg1.1 (rfl : vRf 48 3 = [51]) (by decide))⟩, (vnn hg1.1 (rfl : vRf 48 1 = [49]) (by decide))⟩, (show vp_in ((xI h1 (xR h1 (xR h1 48 0) 6) (kk).toNatClampNeg)) (6) from (by rw [r0, vref hg1.1 (rfl : vRf 3 6 = [8])]; exact (vp_of (i := (xI h1 8 (kk).toNatClampNeg)) (n := 6) (by omega) (by omega) : vp_in ((xI h1 8 (kk).toNatClampNeg)) (6))))⟩, (vnn hg1.1 (rfl : vRf 48 1 = [49]) (by decide))⟩, (show vp_in ((xI h1 (xR h1 (xR h1 48 0) 7) (kk).toNatClampNeg)) (6) from (by rw [r0, vref hg1.1 (rfl : vRf 3 7 = [9])]; exact (vp_of (i := (xI h1 9 (kk).toNatClampNeg)) (n := 6) (by omega) (by omega) : vp_in ((xI h1 9 (kk).toNatClampNeg)) (6))))⟩, cb1⟩, (vp_of (i := kk) (n := 9) (by omega) (by omega))⟩, (vnn hg1.1 (rfl : vRf 48 8 = [55]) (by decide))⟩, (show vp_in ((xI h1 (xR h1 (xR h1 48 0) 6) (kk).toNatClampNeg)) (6) from (by rw [r0, vref hg1.1 (rfl : vRf 3 6 = [8])]; exact (vp_of (i := (xI h1 8 (kk).toNatClampNeg)) (n := 6) (by omega) (by omega) : vp_in ((xI h1 8 (kk).toNatClampNeg)) (6))))⟩, (vnn hg1.1 (rfl : vRf 48 3 = [51]) (by decide))⟩, (vp_of (i := kk) (n := 9) (by omega) (by omega))⟩, (show vp_in ((xI h1 (xR h1 (xR h1 48 0) 6) (kk).toNatClampNeg)) (6) from (by rw [r0, vref hg1.1 (rfl : vRf 3 6 = [8])]; exact (vp_of (i := (xI h1 8 (kk).toNatClampNeg)) (n := 6) (by omega) (by omega) : vp_in ((xI h1 8 (kk).toNatClampNeg)) (6))))⟩, (vnn hg1.1 (rfl : vRf 48 8 = [55]) (by decide))⟩, (show vp_in ((xI h1 (xR h1 (xR h1 48 0) 7) (kk).toNatClampNeg)) (6) from (by rw [r0, vref hg1.1 (rfl : vRf 3 7 = [9])]; exact (vp_of (i := (xI h1 9 (kk).toNatClampNeg)) (n := 6) (by omega) (by omega) : vp_in ((xI h1 9 (kk).toNatClampNeg)) (6))))⟩, (vnn hg1.1 (rfl : vRf 48 3 = [51]) (by decide))⟩, (vp_of (i := kk) (n := 9) (by omega) (by omega))⟩, (show vp_in ((xI h1 (xR h1 (xR h1 48 0) 7) (kk).toNatClampNeg)) (6) from (by rw [r0, vref hg1.1 (rfl : vRf 3 7 = [9])]; exact (vp_of (i := (xI h1 9 (kk).toNatClampNeg)) (n := 6) (by omega) (by omega) : vp_in ((xI h1 9 (kk).toNatClampNeg)) (6))))⟩
      rw [r0, vref hg1.1 (rfl : vRf 48 3 = [51]), vref hg1.1 (rfl : vRf 48 8 = [55]), vref hg1.1 (rfl : vRf 3 6 = [8]), vref hg1.1 (rfl : vRf 3 7 = [9])] at t2
      have t3 : XT l 1 23 false 66 153 6051 31 [xf 11 48, xi tr, xi kk, x3, x4] [] h1 31 [xf 11 48, xi tr, xi (kk + Int32.ofInt (1)), xi (xI h1 8 (kk).toNatClampNeg), xi (xI h1 9 (kk).toNatClampNeg)] [] (xsetI (xsetI (xsetI h1 51 (kk).toNatClampNeg (Int32.ofInt (0))) 55 ((xI h1 8 (kk).toNatClampNeg)).toNatClampNeg ((xI h1 55 ((xI h1 8 (kk).toNatClampNeg)).toNatClampNeg) + (xI (xsetI h1 51 (kk).toNatClampNeg (Int32.ofInt (0))) 51 (kk).toNatClampNeg))) 55 ((xI h1 9 (kk).toNatClampNeg)).toNatClampNeg ((xI (xsetI (xsetI h1 51 (kk).toNatClampNeg (Int32.ofInt (0))) 55 ((xI h1 8 (kk).toNatClampNeg)).toNatClampNeg ((xI h1 55 ((xI h1 8 (kk).toNatClampNeg)).toNatClampNeg) + (xI (xsetI h1 51 (kk).toNatClampNeg (Int32.ofInt (0))) 51 (kk).toNatClampNeg))) 55 ((xI h1 9 (kk).toNatClampNeg)).toNatClampNeg) + (xI (xsetI h1 51 (kk).toNatClampNeg (Int32.ofInt (0))) 51 (kk).toNatClampNeg))) := t2
      obtain ⟨hE, eE⟩ : ∃ x, x = (xsetI (xsetI (xsetI h1 51 (kk).toNatClampNeg (Int32.ofInt (0))) 55 ((xI h1 8 (kk).toNatClampNeg)).toNatClampNeg ((xI h1 55 ((xI h1 8 (kk).toNatClampNeg)).toNatClampNeg) + (xI (xsetI h1 51 (kk).toNatClampNeg (Int32.ofInt (0))) 51 (kk).toNatClampNeg))) 55 ((xI h1 9 (kk).toNatClampNeg)).toNatClampNeg ((xI (xsetI (xsetI h1 51 (kk).toNatClampNeg (Int32.ofInt (0))) 55 ((xI h1 8 (kk).toNatClampNeg)).toNatClampNeg ((xI h1 55 ((xI h1 8 (kk).toNatClampNeg)).toNatClampNeg) + (xI (xsetI h1 51 (kk).toNatClampNeg (Int32.ofInt (0))) 51 (kk).toNatClampNeg))) 55 ((xI h1 9 (kk).toNatClampNeg)).toNatClampNeg) + (xI (xsetI h1 51 (kk).toNatClampNeg (Int32.ofInt (0))) 51 (kk).toNatClampNeg))) := ⟨_, rfl⟩
      have eE2 : hE = xsetI (xsetI (xsetI h1 51 k (Int32.ofInt (0))) 55 A1 (xI h1 55 A1 + (Int32.ofInt (0)))) 55 A2 (xI h1 55 A2 + (Int32.ofInt (0))) := by
        rw [eE]
        rw [nk] at n1 n2
        simp only [nk, n1, n2]
        rw [show xI (xsetI (xsetI h1 51 k (Int32.ofInt (0))) 55 A1 (xI h1 55 A1 + xI (xsetI h1 51 k (Int32.ofInt (0))) 51 k)) 55 A2 = xI h1 55 A2 from (yI_ne (eq_false (fun z => by have := z.2; omega))).trans (yI_c (by decide)), show xI (xsetI h1 51 k (Int32.ofInt (0))) 51 k = (Int32.ofInt (0)) from yI_same]
      rw [← eE] at t3
      have GE : mQ [51, 55] h hE := by rw [eE2]; exact ((G.set (by decide) (by rw [vI_u rfl (rfl : vRow 51 = (0, 1))]; exact (by decide))).set (by decide) (by rw [vI_u rfl (rfl : vRow 55 = sfull)]; exact i32r_of _)).set (by decide) (by rw [vI_u rfl (rfl : vRow 55 = sfull)]; exact i32r_of _)
      have tk : ((Int32.ofInt (0))).toInt = (if zTr Z Y < zgp Z Y k then 1 else 0) := by rw [if_neg (by omega)]; rfl
      have J3 : ∀ j : Nat, j < k + 1 → (xI hE 51 j).toInt = (if zTr Z Y < zgp Z Y j then 1 else 0) := by
        intro j hj
        rw [eE2, yI_c (by decide), yI_c (by decide)]
        by_cases e : j = k
        · subst e; rw [yI_same]; exact tk
        · rw [yI_ne (eq_false (fun z => e z.2))]; exact I3 j (by omega)
      have J7 : ∀ r : Nat, (r : Int) < Z 0 → xI hE 55 r = zsum (fun j => if (Z (140 + j) = r ∨ Z (150 + j) = r) ∧ zTr Z Y < zgp Z Y j then Int32.ofInt (1) else Int32.ofInt (0)) (k + 1) := by
        intro r hr
        by_cases e1 : r = A1
        · have e2 : ¬ r = A2 := by omega
          rw [eE2, yI_ne (eq_false (fun z => e2 z.2)), e1, yI_same]
          rw [e1] at hr
          exact zsum_n (v := (Int32.ofInt (0))) (I7 A1 hr) (if_neg (fun y => by have := y.2; omega))
        · by_cases e2 : r = A2
          · rw [eE2, e2, yI_same]
            rw [e2] at hr
            exact zsum_n (v := (Int32.ofInt (0))) (I7 A2 hr) (if_neg (fun y => by have := y.2; omega))
          · rw [eE2, yI_ne (eq_false (fun z => e2 z.2)), yI_ne (eq_false (fun z => e1 z.2)), yI_c (by decide)]
            exact zsum_m (I7 r hr) (if_neg (fun y => by have := y.1; omega))
      obtain ⟨k3, y3, y4, h9, t9, G9, I9, I10⟩ := ck_tearL48_3 l Z Y tr h hg A kt kw V ht m (k + 1) (kk + Int32.ofInt (1)) (xi (xI h1 8 (kk).toNatClampNeg)) (xi (xI h1 9 (kk).toNatClampNeg)) hE GE (by omega) (by omega) J3 J7
      exact ⟨k3, y3, y4, h9, t3.tr t9, G9, I9, I10⟩
    · have e_0 : (0 : Int32).toInt = 0 := rfl
      have cb1r := cb1
      rw [vref hg1.1 (rfl : vRf 48 1 = [49]), r0, vref hg1.1 (rfl : vRf 3 6 = [8]), vref hg1.1 (rfl : vRf 3 7 = [9])] at cb1r
      have dcb1 : (tr).toInt < (if (0 : Int32) ≤ ((xI h1 49 ((xI h1 8 (kk).toNatClampNeg)).toNatClampNeg) - (xI h1 49 ((xI h1 9 (kk).toNatClampNeg)).toNatClampNeg)) then ((xI h1 49 ((xI h1 8 (kk).toNatClampNeg)).toNatClampNeg) - (xI h1 49 ((xI h1 9 (kk).toNatClampNeg)).toNatClampNeg)) else (0 : Int32) - ((xI h1 49 ((xI h1 8 (kk).toNatClampNeg)).toNatClampNeg) - (xI h1 49 ((xI h1 9 (kk).toNatClampNeg)).toNatClampNeg))).toInt := Int32.lt_iff_toInt_lt.mp (Int32.not_le.mp cb1r)
      have t4 : XT l 1 23 false 66 153 6051 31 [xf 11 48, xi tr, xi kk, x3, x4] [] h1 31 [xf 11 48, xi tr, xi (kk + Int32.ofInt (1)), xi (xI h1 (xR h1 (xR h1 48 0) 6) (kk).toNatClampNeg), xi (xI h1 (xR h1 (xR h1 48 0) 7) (kk).toNatClampNeg)] [] (xsetI (xsetI (xsetI h1 (xR h1 48 3) (kk).toNatClampNeg (Int32.ofInt (1))) (xR h1 48 8) ((xI h1 (xR h1 (xR h1 48 0) 6) (kk).toNatClampNeg)).toNatClampNeg ((xI (xsetI h1 (xR h1 48 3) (kk).toNatClampNeg (Int32.ofInt (1))) (xR h1 48 8) ((xI h1 (xR h1 (xR h1 48 0) 6) (kk).toNatClampNeg)).toNatClampNeg) + (xI (xsetI h1 (xR h1 48 3) (kk).toNatClampNeg (Int32.ofInt (1))) (xR h1 48 3) (kk).toNatClampNeg))) (xR h1 48 8) ((xI h1 (xR h1 (xR h1 48 0) 7) (kk).toNatClampNeg)).toNatClampNeg ((xI (xsetI (xsetI h1 (xR h1 48 3) (kk).toNatClampNeg (Int32.ofInt (1))) (xR h1 48 8) ((xI h1 (xR h1 (xR h1 48 0) 6) (kk).toNatClampNeg)).toNatClampNeg ((xI (xsetI h1 (xR h1 48 3) (kk).toNatClampNeg (Int32.ofInt (1))) (xR h1 48 8) ((xI h1 (xR h1 (xR h1 48 0) 6) (kk).toNatClampNeg)).toNatClampNeg) + (xI (xsetI h1 (xR h1 48 3) (kk).toNatClampNeg (Int32.ofInt (1))) (xR h1 48 3) (kk).toNatClampNeg))) (xR h1 48 8) ((xI h1 (xR h1 (xR h1 48 0) 7) (kk).toNatClampNeg)).toNatClampNeg) + (xI (xsetI (xsetI h1 (xR h1 48 3) (kk).toNatClampNeg (Int32.ofInt (1))) (xR h1 48 8) ((xI h1 (xR h1 (xR h1 48 0) 6) (kk).toNatClampNeg)).toNatClampNeg ((xI (xsetI h1 (xR h1 48 3) (kk).toNatClampNeg (Int32.ofInt (1))) (xR h1 48 8) ((xI h1 (xR h1 (xR h1 48 0) 6) (kk).toNatClampNeg)).toNatClampNeg) + (xI (xsetI h1 (xR h1 48 3) (kk).toNatClampNeg (Int32.ofInt (1))) (xR h1 48 3) (kk).toNatClampNeg))) (xR h1 48 3) (kk).toNatClampNeg))) := XT_path (l := l) (fr := 1) (lo := 23) (full := false) (M := 66) (n := 153) (u := 6051) (pc := 31) (L := [xf 11 48, xi tr, xi kk, x3, x4]) (st := []) (h := h1) (inl := []) (n' := 120) (sp := [31]) (o := [0, 0]) rfl rfl ⟨rfl, rfl, rfl⟩ rfl ⟨Nat.le_of_eq hg1.2.2.2.1, Nat.le_of_eq hg1.2.2.2.2⟩ ⟨⟨⟨⟨⟨⟨⟨⟨⟨⟨⟨⟨⟨⟨⟨⟨⟨⟨⟨⟨⟨⟨⟨⟨⟨trivial, (show ¬ xR h1 48 0 = 0 from by rw [r0]; decide)⟩, (show ¬ (xI h1 (xR h1 48 0) 5) ≤ kk from by rw [r0]; exact fun z => absurd (Int32.le_iff_toInt_le.mp z) (by omega))⟩, (show ¬ xR h1 48 0 = 0 from by rw [r0]; decide)⟩, (show ¬ xR h1 (xR h1 48 0) 6 = 0 from by rw [r0]; exact vnn hg1.1 (rfl : vRf 3 6 = [8]) (by decide))⟩, (vp_of (i := kk) (n := 9) (by omega) (by omega))⟩, (show ¬ xR h1 48 0 = 0 from by rw [r0]; decide)⟩, (show ¬ xR h1 (xR h1 48 0) 7 = 0 from by rw [r0]; exact vnn hg1.1 (rfl : vRf 3 7 = [9]) (by decide))⟩, (vp_of (i := kk) (n := 9) (by omega) (by omega))⟩, (vnn hg1.1 (rfl : vRf 48 3 = [51]) (by decide))⟩, (vnn hg1.1 (rfl : vRf 48 1 = [49]) (by decide))⟩, (show vp_in ((xI h1 (xR h1 (xR h1 48 0) 6) (kk).toNatClampNeg)) (6) from (by rw [r0, vref hg1.1 (rfl : vRf 3 6 = [8])]; exact (vp_of (i := (xI h1 8 (kk).toNatClampNeg)) (n := 6) (by omega) (by omega) : vp_in ((xI h1 8 (kk).toNatClampNeg)) (6))))⟩, (vnn hg1.1 (rfl : vRf 48 1 = [49]) (by decide))⟩, (show vp_in ((xI h1 (xR h1 (xR h1 48 0) 7) (kk).toNatClampNeg)) (6) from (by rw [r0, vref hg1.1 (rfl : vRf 3 7 = [9])]; exact (vp_of (i := (xI h1 9 (kk).toNatClampNeg)) (n := 6) (by omega) (by omega) : vp_in ((xI h1 9 (kk).toNatClampNeg)) (6))))⟩, cb1⟩, (vp_of (i := kk) (n := 9) (by omega) (by omega))⟩, (vnn hg1.1 (rfl : vRf 48 8 = [55]) (by decide))⟩, (show vp_in ((xI h1 (xR h1 (xR h1 48 0) 6) (kk).toNatClampNeg)) (6) from (by rw [r0, vref hg1.1 (rfl : vRf 3 6 = [8])]; exact (vp_of (i := (xI h1 8 (kk).toNatClampNeg)) (n := 6) (by omega) (by omega) : vp_in ((xI h1 8 (kk).toNatClampNeg)) (6))))⟩, (vnn hg1.1 (rfl : vRf 48 3 = [51]) (by decide))⟩, (vp_of (i := kk) (n := 9) (by omega) (by omega))⟩, (show vp_in ((xI h1 (xR h1 (xR h1 48 0) 6) (kk).toNatClampNeg)) (6) from (by rw [r0, vref hg1.1 (rfl : vRf 3 6 = [8])]; exact (vp_of (i := (xI h1 8 (kk).toNatClampNeg)) (n := 6) (by omega) (by omega) : vp_in ((xI h1 8 (kk).toNatClampNeg)) (6))))⟩, (vnn hg1.1 (rfl : vRf 48 8 = [55]) (by decide))⟩, (show vp_in ((xI h1 (xR h1 (xR h1 48 0) 7) (kk).toNatClampNeg)) (6) from (by rw [r0, vref hg1.1 (rfl : vRf 3 7 = [9])]; exact (vp_of (i := (xI h1 9 (kk).toNatClampNeg)) (n := 6) (by omega) (by omega) : vp_in ((xI h1 9 (kk).toNatClampNeg)) (6))))⟩, (vnn hg1.1 (rfl : vRf 48 3 = [51]) (by decide))⟩, (vp_of (i := kk) (n := 9) (by omega) (by omega))⟩, (show vp_in ((xI h1 (xR h1 (xR h1 48 0) 7) (kk).toNatClampNeg)) (6) from (by rw [r0, vref hg1.1 (rfl : vRf 3 7 = [9])]; exact (vp_of (i := (xI h1 9 (kk).toNatClampNeg)) (n := 6) (by omega) (by omega) : vp_in ((xI h1 9 (kk).toNatClampNeg)) (6))))⟩
      rw [r0, vref hg1.1 (rfl : vRf 48 3 = [51]), vref hg1.1 (rfl : vRf 48 8 = [55]), vref hg1.1 (rfl : vRf 3 6 = [8]), vref hg1.1 (rfl : vRf 3 7 = [9])] at t4
      have t5 : XT l 1 23 false 66 153 6051 31 [xf 11 48, xi tr, xi kk, x3, x4] [] h1 31 [xf 11 48, xi tr, xi (kk + Int32.ofInt (1)), xi (xI h1 8 (kk).toNatClampNeg), xi (xI h1 9 (kk).toNatClampNeg)] [] (xsetI (xsetI (xsetI h1 51 (kk).toNatClampNeg (Int32.ofInt (1))) 55 ((xI h1 8 (kk).toNatClampNeg)).toNatClampNeg ((xI h1 55 ((xI h1 8 (kk).toNatClampNeg)).toNatClampNeg) + (xI (xsetI h1 51 (kk).toNatClampNeg (Int32.ofInt (1))) 51 (kk).toNatClampNeg))) 55 ((xI h1 9 (kk).toNatClampNeg)).toNatClampNeg ((xI (xsetI (xsetI h1 51 (kk).toNatClampNeg (Int32.ofInt (1))) 55 ((xI h1 8 (kk).toNatClampNeg)).toNatClampNeg ((xI h1 55 ((xI h1 8 (kk).toNatClampNeg)).toNatClampNeg) + (xI (xsetI h1 51 (kk).toNatClampNeg (Int32.ofInt (1))) 51 (kk).toNatClampNeg))) 55 ((xI h1 9 (kk).toNatClampNeg)).toNatClampNeg) + (xI (xsetI h1 51 (kk).toNatClampNeg (Int32.ofInt (1))) 51 (kk).toNatClampNeg))) := t4
      obtain ⟨hE, eE⟩ : ∃ x, x = (xsetI (xsetI (xsetI h1 51 (kk).toNatClampNeg (Int32.ofInt (1))) 55 ((xI h1 8 (kk).toNatClampNeg)).toNatClampNeg ((xI h1 55 ((xI h1 8 (kk).toNatClampNeg)).toNatClampNeg) + (xI (xsetI h1 51 (kk).toNatClampNeg (Int32.ofInt (1))) 51 (kk).toNatClampNeg))) 55 ((xI h1 9 (kk).toNatClampNeg)).toNatClampNeg ((xI (xsetI (xsetI h1 51 (kk).toNatClampNeg (Int32.ofInt (1))) 55 ((xI h1 8 (kk).toNatClampNeg)).toNatClampNeg ((xI h1 55 ((xI h1 8 (kk).toNatClampNeg)).toNatClampNeg) + (xI (xsetI h1 51 (kk).toNatClampNeg (Int32.ofInt (1))) 51 (kk).toNatClampNeg))) 55 ((xI h1 9 (kk).toNatClampNeg)).toNatClampNeg) + (xI (xsetI h1 51 (kk).toNatClampNeg (Int32.ofInt (1))) 51 (kk).toNatClampNeg))) := ⟨_, rfl⟩
      have eE2 : hE = xsetI (xsetI (xsetI h1 51 k (Int32.ofInt (1))) 55 A1 (xI h1 55 A1 + (Int32.ofInt (1)))) 55 A2 (xI h1 55 A2 + (Int32.ofInt (1))) := by
        rw [eE]
        rw [nk] at n1 n2
        simp only [nk, n1, n2]
        rw [show xI (xsetI (xsetI h1 51 k (Int32.ofInt (1))) 55 A1 (xI h1 55 A1 + xI (xsetI h1 51 k (Int32.ofInt (1))) 51 k)) 55 A2 = xI h1 55 A2 from (yI_ne (eq_false (fun z => by have := z.2; omega))).trans (yI_c (by decide)), show xI (xsetI h1 51 k (Int32.ofInt (1))) 51 k = (Int32.ofInt (1)) from yI_same]
      rw [← eE] at t5
      have GE : mQ [51, 55] h hE := by rw [eE2]; exact ((G.set (by decide) (by rw [vI_u rfl (rfl : vRow 51 = (0, 1))]; exact (by decide))).set (by decide) (by rw [vI_u rfl (rfl : vRow 55 = sfull)]; exact i32r_of _)).set (by decide) (by rw [vI_u rfl (rfl : vRow 55 = sfull)]; exact i32r_of _)
      have tk : ((Int32.ofInt (1))).toInt = (if zTr Z Y < zgp Z Y k then 1 else 0) := by rw [if_pos (by omega)]; rfl
      have J3 : ∀ j : Nat, j < k + 1 → (xI hE 51 j).toInt = (if zTr Z Y < zgp Z Y j then 1 else 0) := by
        intro j hj
        rw [eE2, yI_c (by decide), yI_c (by decide)]
        by_cases e : j = k
        · subst e; rw [yI_same]; exact tk
        · rw [yI_ne (eq_false (fun z => e z.2))]; exact I3 j (by omega)
      have J7 : ∀ r : Nat, (r : Int) < Z 0 → xI hE 55 r = zsum (fun j => if (Z (140 + j) = r ∨ Z (150 + j) = r) ∧ zTr Z Y < zgp Z Y j then Int32.ofInt (1) else Int32.ofInt (0)) (k + 1) := by
        intro r hr
        by_cases e1 : r = A1
        · have e2 : ¬ r = A2 := by omega
          rw [eE2, yI_ne (eq_false (fun z => e2 z.2)), e1, yI_same]
          rw [e1] at hr
          exact zsum_n (v := (Int32.ofInt (1))) (I7 A1 hr) (if_pos ⟨by omega, by omega⟩)
        · by_cases e2 : r = A2
          · rw [eE2, e2, yI_same]
            rw [e2] at hr
            exact zsum_n (v := (Int32.ofInt (1))) (I7 A2 hr) (if_pos ⟨by omega, by omega⟩)
          · rw [eE2, yI_ne (eq_false (fun z => e2 z.2)), yI_ne (eq_false (fun z => e1 z.2)), yI_c (by decide)]
            exact zsum_m (I7 r hr) (if_neg (fun y => by have := y.1; omega))
      obtain ⟨k3, y3, y4, h9, t9, G9, I9, I10⟩ := ck_tearL48_3 l Z Y tr h hg A kt kw V ht m (k + 1) (kk + Int32.ofInt (1)) (xi (xI h1 8 (kk).toNatClampNeg)) (xi (xI h1 9 (kk).toNatClampNeg)) hE GE (by omega) (by omega) J3 J7
      exact ⟨k3, y3, y4, h9, t5.tr t9, G9, I9, I10⟩
set_option maxRecDepth 100000 in
set_option maxHeartbeats 4000000 in
theorem ck_tear48_3 (l : Launch) (Z : Nat → Int) (Y : Nat → Int32) (h : XH) (hg : mI h) (A : zAll Z) (kt : kTx 3 Z h) (kw : kW 48 3 Z Y h) (V : zVd Z Y) : ∃ h', CX l 1 23 false 66 [xf 11 48] h [] h' ∧ mQ [51, 55] h h' ∧ kD 48 Z Y h' := by
  obtain ⟨⟨⟨B00, B01⟩, ⟨B10, B11⟩, ⟨B20, B21⟩, B30, B31⟩, g6, zj, zv, LW⟩ := id A
  have r0 : xR h 48 0 = 3 := kw.2.2.2.2.2
  have emo : (xI h 48 10).toInt = (Y 51).toInt := congrArg Int32.toInt kw.2.2.2.1
  have ete : (xI h 3 18).toInt = Z 5 := kt.1.2.1
  by_cases cb1 : (xI h 48 10) = (Int32.ofInt (3))
  · have e_3 : (Int32.ofInt (3)).toInt = 3 := rfl
    have dcb1 : (xI h 48 10).toInt = (Int32.ofInt (3)).toInt := congrArg Int32.toInt cb1
    have t2 : XT l 1 23 false 66 153 6051 0 [xf 11 48, xun, xun, xun, xun] [] h 26 [xf 11 48, xi (Int32.ofInt (8)), xun, xun, xun] [xi (Int32.ofInt (0)), xf 10006 (xR h 48 8)] h := XT_path (l := l) (fr := 1) (lo := 23) (full := false) (M := 66) (n := 153) (u := 6051) (pc := 0) (L := [xf 11 48, xun, xun, xun, xun]) (st := []) (h := h) (inl := []) (n' := 120) (sp := [26]) (o := [0]) rfl rfl ⟨rfl, rfl, rfl⟩ rfl ⟨Nat.le_of_eq hg.2.2.2.1, Nat.le_of_eq hg.2.2.2.2⟩ ⟨⟨trivial, cb1⟩, (vnn hg.1 (rfl : vRf 48 8 = [55]) (by decide))⟩
    rw [vref hg.1 (rfl : vRf 48 8 = [55])] at t2
    obtain ⟨h1, c1, G1, z1⟩ := cm_fill55 l h hg
    have r1 : xR h1 48 0 = 3 := (G1.2.2 48 0).trans r0
    have t3 : XT l 1 23 false 66 153 6051 26 [xf 11 48, xi (Int32.ofInt (8)), xun, xun, xun] [xi (Int32.ofInt (0)), xf 10006 55] h 29 [xf 11 48, xi (Int32.ofInt (8)), xun, xun, xun] [] h1 := XT_call (l := l) (fr := 1) (lo := 23) (full := false) (M := 66) (n := 153) (u := 6051) (pc := 26) (L := [xf 11 48, xi (Int32.ofInt (8)), xun, xun, xun]) (st := [xi (Int32.ofInt (0)), xf 10006 55]) (h := h) (i := .invokestatic 5) (aux := 2) (nx := 29) (K := 5) (vs := [xf 10006 55, xi (Int32.ofInt (0))]) (rs := []) (rest := []) rfl rfl rfl rfl rfl rfl c1 (by decide) (by decide) (Nat.le_of_ble_eq_true rfl) ⟨Nat.le_of_eq G1.1.2.2.2.1, Nat.le_of_eq G1.1.2.2.2.2⟩
    have t4 := t2.tr t3
    have t5 : XT l 1 23 false 66 153 6051 29 [xf 11 48, xi (Int32.ofInt (8)), xun, xun, xun] [] h1 31 [xf 11 48, xi (Int32.ofInt (8)), xi (Int32.ofInt (0)), xun, xun] [] h1 := XT_path (l := l) (fr := 1) (lo := 23) (full := false) (M := 66) (n := 153) (u := 6051) (pc := 29) (L := [xf 11 48, xi (Int32.ofInt (8)), xun, xun, xun]) (st := []) (h := h1) (inl := []) (n' := 120) (sp := [31]) (o := []) rfl rfl ⟨rfl, rfl, rfl⟩ rfl ⟨Nat.le_of_eq G1.1.2.2.2.1, Nat.le_of_eq G1.1.2.2.2.2⟩ trivial
    have t6 := t4.tr t5
    have et : ((Int32.ofInt (8))).toInt = zTr Z Y := by unfold zTr; rw [if_pos (by have e3 : ((Int32.ofInt (3))).toInt = 3 := rfl; omega)]; rfl
    obtain ⟨k2, y3, y4, h2, t2, G2, I3, I7⟩ := ck_tearL48_3 l Z Y (Int32.ofInt (8)) h hg A kt kw V et (Z 1).toNat 0 (Int32.ofInt (0)) (xun) (xun) h1 (G1.mono (by decide)) rfl (by omega) (fun j hj => by omega) (fun r hr => z1 r (by omega))
    have T2 := t6.tr t2
    exact ⟨h2, CX_ofT (h' := h2) (by decide) rfl rfl trivial ⟨_, _, _, rfl, rfl, rfl⟩ rfl ⟨Nat.le_of_eq G2.1.2.2.2.1.symm, Nat.le_of_eq G2.1.2.2.2.2.symm⟩ T2, G2, fun j hj => I3 j (by omega), fun r hr => I7 r hr⟩
  · have e_3 : (Int32.ofInt (3)).toInt = 3 := rfl
    have dcb1 : ¬ (xI h 48 10).toInt = (Int32.ofInt (3)).toInt := fun z_ => cb1 (Int32.toInt_inj.mp z_)
    have t7 : XT l 1 23 false 66 153 6051 0 [xf 11 48, xun, xun, xun, xun] [] h 26 [xf 11 48, xi (xI h (xR h 48 0) 18), xun, xun, xun] [xi (Int32.ofInt (0)), xf 10006 (xR h 48 8)] h := XT_path (l := l) (fr := 1) (lo := 23) (full := false) (M := 66) (n := 153) (u := 6051) (pc := 0) (L := [xf 11 48, xun, xun, xun, xun]) (st := []) (h := h) (inl := []) (n' := 120) (sp := [26]) (o := [1]) rfl rfl ⟨rfl, rfl, rfl⟩ rfl ⟨Nat.le_of_eq hg.2.2.2.1, Nat.le_of_eq hg.2.2.2.2⟩ ⟨⟨⟨trivial, cb1⟩, (show ¬ xR h 48 0 = 0 from by rw [r0]; decide)⟩, (vnn hg.1 (rfl : vRf 48 8 = [55]) (by decide))⟩
    rw [r0, vref hg.1 (rfl : vRf 48 8 = [55])] at t7
    obtain ⟨h1, c1, G1, z1⟩ := cm_fill55 l h hg
    have r1 : xR h1 48 0 = 3 := (G1.2.2 48 0).trans r0
    have t8 : XT l 1 23 false 66 153 6051 26 [xf 11 48, xi (xI h 3 18), xun, xun, xun] [xi (Int32.ofInt (0)), xf 10006 55] h 29 [xf 11 48, xi (xI h 3 18), xun, xun, xun] [] h1 := XT_call (l := l) (fr := 1) (lo := 23) (full := false) (M := 66) (n := 153) (u := 6051) (pc := 26) (L := [xf 11 48, xi (xI h 3 18), xun, xun, xun]) (st := [xi (Int32.ofInt (0)), xf 10006 55]) (h := h) (i := .invokestatic 5) (aux := 2) (nx := 29) (K := 5) (vs := [xf 10006 55, xi (Int32.ofInt (0))]) (rs := []) (rest := []) rfl rfl rfl rfl rfl rfl c1 (by decide) (by decide) (Nat.le_of_ble_eq_true rfl) ⟨Nat.le_of_eq G1.1.2.2.2.1, Nat.le_of_eq G1.1.2.2.2.2⟩
    have t9 := t7.tr t8
    have t10 : XT l 1 23 false 66 153 6051 29 [xf 11 48, xi (xI h 3 18), xun, xun, xun] [] h1 31 [xf 11 48, xi (xI h 3 18), xi (Int32.ofInt (0)), xun, xun] [] h1 := XT_path (l := l) (fr := 1) (lo := 23) (full := false) (M := 66) (n := 153) (u := 6051) (pc := 29) (L := [xf 11 48, xi (xI h 3 18), xun, xun, xun]) (st := []) (h := h1) (inl := []) (n' := 120) (sp := [31]) (o := []) rfl rfl ⟨rfl, rfl, rfl⟩ rfl ⟨Nat.le_of_eq G1.1.2.2.2.1, Nat.le_of_eq G1.1.2.2.2.2⟩ trivial
    have t11 := t9.tr t10
    have et : ((xI h 3 18)).toInt = zTr Z Y := by unfold zTr; rw [if_neg (by have e3 : ((Int32.ofInt (3))).toInt = 3 := rfl; omega)]; exact ete
    obtain ⟨k2, y3, y4, h2, t2, G2, I3, I7⟩ := ck_tearL48_3 l Z Y (xI h 3 18) h hg A kt kw V et (Z 1).toNat 0 (Int32.ofInt (0)) (xun) (xun) h1 (G1.mono (by decide)) rfl (by omega) (fun j hj => by omega) (fun r hr => z1 r (by omega))
    have T2 := t11.tr t2
    exact ⟨h2, CX_ofT (h' := h2) (by decide) rfl rfl trivial ⟨_, _, _, rfl, rfl, rfl⟩ rfl ⟨Nat.le_of_eq G2.1.2.2.2.1.symm, Nat.le_of_eq G2.1.2.2.2.2.symm⟩ T2, G2, fun j hj => I3 j (by omega), fun r hr => I7 r hr⟩
set_option maxRecDepth 100000 in
set_option maxHeartbeats 4000000 in
theorem ck_tearL48_24 (l : Launch) (Z : Nat → Int) (Y : Nat → Int32) (tr : Int32) (h : XH) (hg : mI h) (A : zAll Z) (kt : kTx 24 Z h) (kw : kW 48 24 Z Y h) (V : zVd Z Y) (ht : tr.toInt = zTr Z Y) : ∀ (m k : Nat) (kk : Int32) (x3 x4 : XV) (h1 : XH), mQ [51, 55] h h1 → kk.toInt = k → (k : Int) + m = Z 1 → (∀ j : Nat, j < k → (xI h1 51 j).toInt = (if zTr Z Y < zgp Z Y j then 1 else 0)) → (∀ r : Nat, (r : Int) < Z 0 → xI h1 55 r = zsum (fun j => if (Z (140 + j) = r ∨ Z (150 + j) = r) ∧ zTr Z Y < zgp Z Y j then Int32.ofInt (1) else Int32.ofInt (0)) k) → ∃ k2 y3 y4 h2, XT l 1 23 false 66 153 6051 31 [xf 11 48, xi tr, xi kk, x3, x4] [] h1 132 [xf 11 48, xi tr, xi k2, y3, y4] [] h2 ∧ mQ [51, 55] h h2 ∧ (∀ j : Nat, j < (Z 1).toNat → (xI h2 51 j).toInt = (if zTr Z Y < zgp Z Y j then 1 else 0)) ∧ (∀ r : Nat, (r : Int) < Z 0 → xI h2 55 r = zsum (fun j => if (Z (140 + j) = r ∨ Z (150 + j) = r) ∧ zTr Z Y < zgp Z Y j then Int32.ofInt (1) else Int32.ofInt (0)) (Z 1).toNat)
  | 0, k, kk, x3, x4, h1, G, hk, hm, I3, I7 => by
    obtain ⟨⟨⟨B00, B01⟩, ⟨B10, B11⟩, ⟨B20, B21⟩, B30, B31⟩, g6, zj, zv, LW⟩ := id A
    have r0 : xR h1 48 0 = 24 := (G.2.2 48 0).trans kw.2.2.2.2.2
    have hg1 := G.1
    have ej : (xI h1 24 5).toInt = Z 1 := by rw [G.2.1 24 5 (by decide)]; exact kt.1.1 1 (by decide)
    have t1 : XT l 1 23 false 66 153 6051 31 [xf 11 48, xi tr, xi kk, x3, x4] [] h1 132 [xf 11 48, xi tr, xi kk, x3, x4] [] h1 := XT_path (l := l) (fr := 1) (lo := 23) (full := false) (M := 66) (n := 153) (u := 6051) (pc := 31) (L := [xf 11 48, xi tr, xi kk, x3, x4]) (st := []) (h := h1) (inl := []) (n' := 120) (sp := [132]) (o := [1]) rfl rfl ⟨rfl, rfl, rfl⟩ rfl ⟨Nat.le_of_eq hg1.2.2.2.1, Nat.le_of_eq hg1.2.2.2.2⟩ ⟨⟨trivial, (show ¬ xR h1 48 0 = 0 from by rw [r0]; decide)⟩, (show (xI h1 (xR h1 48 0) 5) ≤ kk from by rw [r0]; exact Int32.le_iff_toInt_le.mpr (by omega))⟩
    obtain rfl : k = (Z 1).toNat := by omega
    exact ⟨kk, x3, x4, h1, t1, G, I3, I7⟩
  | m + 1, k, kk, x3, x4, h1, G, hk, hm, I3, I7 => by
    obtain ⟨⟨⟨B00, B01⟩, ⟨B10, B11⟩, ⟨B20, B21⟩, B30, B31⟩, g6, zj, zv, LW⟩ := id A
    have r0 : xR h1 48 0 = 24 := (G.2.2 48 0).trans kw.2.2.2.2.2
    have hg1 := G.1
    have ej : (xI h1 24 5).toInt = Z 1 := by rw [G.2.1 24 5 (by decide)]; exact kt.1.1 1 (by decide)
    have lk : (k : Int) < Z 1 := by omega
    have nk : kk.toNatClampNeg = k := zi_ix hk
    have sk := y_suc1 (k := kk) (by omega) (by omega)
    obtain ⟨⟨o1, o2⟩, ⟨o3, o4⟩, -⟩ := zv.2.1 k lk
    have one := zj k lk
    obtain ⟨A1, hA1⟩ : ∃ n : Nat, n = (Z (140 + k)).toNat := ⟨_, rfl⟩
    obtain ⟨A2, hA2⟩ : ∃ n : Nat, n = (Z (150 + k)).toNat := ⟨_, rfl⟩
    have k1 : (xI h1 29 kk.toNatClampNeg).toInt = A1 := by rw [nk, G.2.1 29 k (by decide)]; exact (show (xI h 29 k).toInt = Z (140 + k) from kt.1.2.2 4 k (by decide) lk).trans (by omega)
    have k2 : (xI h1 30 kk.toNatClampNeg).toInt = A2 := by rw [nk, G.2.1 30 k (by decide)]; exact (show (xI h 30 k).toInt = Z (150 + k) from kt.1.2.2 5 k (by decide) lk).trans (by omega)
    have n1 : (xI h1 29 kk.toNatClampNeg).toNatClampNeg = A1 := zi_ix k1
    have n2 : (xI h1 30 kk.toNatClampNeg).toNatClampNeg = A2 := zi_ix k2
    have s1 : (xI h1 49 (xI h1 29 kk.toNatClampNeg).toNatClampNeg).toInt = (Y A1).toInt := by rw [n1, G.2.1 49 A1 (by decide)]; exact congrArg Int32.toInt (kw.1 A1 (by omega))
    have s2 : (xI h1 49 (xI h1 30 kk.toNatClampNeg).toNatClampNeg).toInt = (Y A2).toInt := by rw [n2, G.2.1 49 A2 (by decide)]; exact congrArg Int32.toInt (kw.1 A2 (by omega))
    have v1 := V.1 A1 (by omega)
    have v2 := V.1 A2 (by omega)
    have sd : ((xI h1 49 (xI h1 29 kk.toNatClampNeg).toNatClampNeg) - (xI h1 49 (xI h1 30 kk.toNatClampNeg).toNatClampNeg)).toInt = (Y A1).toInt - (Y A2).toInt := by rw [y_subb (by omega) (by omega), s1, s2]
    have sa := y_abs (x := (xI h1 49 (xI h1 29 kk.toNatClampNeg).toNatClampNeg) - (xI h1 49 (xI h1 30 kk.toNatClampNeg).toNatClampNeg)) (by omega)
    rw [sd] at sa
    have eg : zgp Z Y k = ((((Y A1).toInt - (Y A2).toInt).natAbs : Nat) : Int) := by unfold zgp; rw [← hA1, ← hA2]
    have ez : (0 : Int32).toInt = 0 := rfl
    by_cases cb1 : (if (0 : Int32) ≤ ((xI h1 (xR h1 48 1) ((xI h1 (xR h1 (xR h1 48 0) 6) (kk).toNatClampNeg)).toNatClampNeg) - (xI h1 (xR h1 48 1) ((xI h1 (xR h1 (xR h1 48 0) 7) (kk).toNatClampNeg)).toNatClampNeg)) then ((xI h1 (xR h1 48 1) ((xI h1 (xR h1 (xR h1 48 0) 6) (kk).toNatClampNeg)).toNatClampNeg) - (xI h1 (xR h1 48 1) ((xI h1 (xR h1 (xR h1 48 0) 7) (kk).toNatClampNeg)).toNatClampNeg)) else (0 : Int32) - ((xI h1 (xR h1 48 1) ((xI h1 (xR h1 (xR h1 48 0) 6) (kk).toNatClampNeg)).toNatClampNeg) - (xI h1 (xR h1 48 1) ((xI h1 (xR h1 (xR h1 48 0) 7) (kk).toNatClampNeg)).toNatClampNeg))) ≤ tr
    · have e_0 : (0 : Int32).toInt = 0 := rfl
      have cb1r := cb1
      rw [vref hg1.1 (rfl : vRf 48 1 = [49]), r0, vref hg1.1 (rfl : vRf 24 6 = [29]), vref hg1.1 (rfl : vRf 24 7 = [30])] at cb1r
      have dcb1 : (if (0 : Int32) ≤ ((xI h1 49 ((xI h1 29 (kk).toNatClampNeg)).toNatClampNeg) - (xI h1 49 ((xI h1 30 (kk).toNatClampNeg)).toNatClampNeg)) then ((xI h1 49 ((xI h1 29 (kk).toNatClampNeg)).toNatClampNeg) - (xI h1 49 ((xI h1 30 (kk).toNatClampNeg)).toNatClampNeg)) else (0 : Int32) - ((xI h1 49 ((xI h1 29 (kk).toNatClampNeg)).toNatClampNeg) - (xI h1 49 ((xI h1 30 (kk).toNatClampNeg)).toNatClampNeg))).toInt ≤ (tr).toInt := Int32.le_iff_toInt_le.mp cb1r
      have t2 : XT l 1 23 false 66 153 6051 31 [xf 11 48, xi tr, xi kk, x3, x4] [] h1 31 [xf 11 48, xi tr, xi (kk + Int32.ofInt (1)), xi (xI h1 (xR h1 (xR h1 48 0) 6) (kk).toNatClampNeg), xi (xI h1 (xR h1 (xR h1 48 0) 7) (kk).toNatClampNeg)] [] (xsetI (xsetI (xsetI h1 (xR h1 48 3) (kk).toNatClampNeg (Int32.ofInt (0))) (xR h1 48 8) ((xI h1 (xR h1 (xR h1 48 0) 6) (kk).toNatClampNeg)).toNatClampNeg ((xI (xsetI h1 (xR h1 48 3) (kk).toNatClampNeg (Int32.ofInt (0))) (xR h1 48 8) ((xI h1 (xR h1 (xR h1 48 0) 6) (kk).toNatClampNeg)).toNatClampNeg) + (xI (xsetI h1 (xR h1 48 3) (kk).toNatClampNeg (Int32.ofInt (0))) (xR h1 48 3) (kk).toNatClampNeg))) (xR h1 48 8) ((xI h1 (xR h1 (xR h1 48 0) 7) (kk).toNatClampNeg)).toNatClampNeg ((xI (xsetI (xsetI h1 (xR h1 48 3) (kk).toNatClampNeg (Int32.ofInt (0))) (xR h1 48 8) ((xI h1 (xR h1 (xR h1 48 0) 6) (kk).toNatClampNeg)).toNatClampNeg ((xI (xsetI h1 (xR h1 48 3) (kk).toNatClampNeg (Int32.ofInt (0))) (xR h1 48 8) ((xI h1 (xR h1 (xR h1 48 0) 6) (kk).toNatClampNeg)).toNatClampNeg) + (xI (xsetI h1 (xR h1 48 3) (kk).toNatClampNeg (Int32.ofInt (0))) (xR h1 48 3) (kk).toNatClampNeg))) (xR h1 48 8) ((xI h1 (xR h1 (xR h1 48 0) 7) (kk).toNatClampNeg)).toNatClampNeg) + (xI (xsetI (xsetI h1 (xR h1 48 3) (kk).toNatClampNeg (Int32.ofInt (0))) (xR h1 48 8) ((xI h1 (xR h1 (xR h1 48 0) 6) (kk).toNatClampNeg)).toNatClampNeg ((xI (xsetI h1 (xR h1 48 3) (kk).toNatClampNeg (Int32.ofInt (0))) (xR h1 48 8) ((xI h1 (xR h1 (xR h1 48 0) 6) (kk).toNatClampNeg)).toNatClampNeg) + (xI (xsetI h1 (xR h1 48 3) (kk).toNatClampNeg (Int32.ofInt (0))) (xR h1 48 3) (kk).toNatClampNeg))) (xR h1 48 3) (kk).toNatClampNeg))) := XT_path (l := l) (fr := 1) (lo := 23) (full := false) (M := 66) (n := 153) (u := 6051) (pc := 31) (L := [xf 11 48, xi tr, xi kk, x3, x4]) (st := []) (h := h1) (inl := []) (n' := 120) (sp := [31]) (o := [0, 1]) rfl rfl ⟨rfl, rfl, rfl⟩ rfl ⟨Nat.le_of_eq hg1.2.2.2.1, Nat.le_of_eq hg1.2.2.2.2⟩ ⟨⟨⟨⟨⟨⟨⟨⟨⟨⟨⟨⟨⟨⟨⟨⟨⟨⟨⟨⟨⟨⟨⟨⟨⟨trivial, (show ¬ xR h1 48 0 = 0 from by rw [r0]; decide)⟩, (show ¬ (xI h1 (xR h1 48 0) 5) ≤ kk from by rw [r0]; exact fun z => absurd (Int32.le_iff_toInt_le.mp z) (by omega))⟩, (show ¬ xR h1 48 0 = 0 from by rw [r0]; decide)⟩, (show ¬ xR h1 (xR h1 48 0) 6 = 0 from by rw [r0]; exact vnn hg1.1 (rfl : vRf 24 6 = [29]) (by decide))⟩, (vp_of (i := kk) (n := 9) (by omega) (by omega))⟩, (show ¬ xR h1 48 0 = 0 from by rw [r0]; decide)⟩, (show ¬ xR h1 (xR h1 48 0) 7 = 0 from by rw [r0]; exact vnn hg1.1 (rfl : vRf 24 7 = [30]) (by decide))⟩, (vp_of (i := kk) (n := 9) (by omega) (by omega))⟩, (vnn hg1.1 (rfl : vRf 48 3 = [51]) (by decide))⟩, (vnn hg1.1 (rfl : vRf 48 1 = [49]) (by decide))⟩, (show vp_in ((xI h1 (xR h1 (xR h1 48 0) 6) (kk).toNatClampNeg)) (6) from (by rw [r0, vref hg1.1 (rfl : vRf 24 6 = [29])]; exact (vp_of (i := (xI h1 29 (kk).toNatClampNeg)) (n := 6) (by omega) (by omega) : vp_in ((xI h1 29 (kk).toNatClampNeg)) (6))))⟩, (vnn hg1.1 (rfl : vRf 48 1 = [49]) (by decide))⟩, (show vp_in ((xI h1 (xR h1 (xR h1 48 0) 7) (kk).toNatClampNeg)) (6) from (by rw [r0, vref hg1.1 (rfl : vRf 24 7 = [30])]; exact (vp_of (i := (xI h1 30 (kk).toNatClampNeg)) (n := 6) (by omega) (by omega) : vp_in ((xI h1 30 (kk).toNatClampNeg)) (6))))⟩, cb1⟩, (vp_of (i := kk) (n := 9) (by omega) (by omega))⟩, (vnn hg1.1 (rfl : vRf 48 8 = [55]) (by decide))⟩, (show vp_in ((xI h1 (xR h1 (xR h1 48 0) 6) (kk).toNatClampNeg)) (6) from (by rw [r0, vref hg1.1 (rfl : vRf 24 6 = [29])]; exact (vp_of (i := (xI h1 29 (kk).toNatClampNeg)) (n := 6) (by omega) (by omega) : vp_in ((xI h1 29 (kk).toNatClampNeg)) (6))))⟩, (vnn hg1.1 (rfl : vRf 48 3 = [51]) (by decide))⟩, (vp_of (i := kk) (n := 9) (by omega) (by omega))⟩, (show vp_in ((xI h1 (xR h1 (xR h1 48 0) 6) (kk).toNatClampNeg)) (6) from (by rw [r0, vref hg1.1 (rfl : vRf 24 6 = [29])]; exact (vp_of (i := (xI h1 29 (kk).toNatClampNeg)) (n := 6) (by omega) (by omega) : vp_in ((xI h1 29 (kk).toNatClampNeg)) (6))))⟩, (vnn hg1.1 (rfl : vRf 48 8 = [55]) (by decide))⟩, (show vp_in ((xI h1 (xR h1 (xR h1 48 0) 7) (kk).toNatClampNeg)) (6) from (by rw [r0, vref hg1.1 (rfl : vRf 24 7 = [30])]; exact (vp_of (i := (xI h1 30 (kk).toNatClampNeg)) (n := 6) (by omega) (by omega) : vp_in ((xI h1 30 (kk).toNatClampNeg)) (6))))⟩, (vnn hg1.1 (rfl : vRf 48 3 = [51]) (by decide))⟩, (vp_of (i := kk) (n := 9) (by omega) (by omega))⟩, (show vp_in ((xI h1 (xR h1 (xR h1 48 0) 7) (kk).toNatClampNeg)) (6) from (by rw [r0, vref hg1.1 (rfl : vRf 24 7 = [30])]; exact (vp_of (i := (xI h1 30 (kk).toNatClampNeg)) (n := 6) (by omega) (by omega) : vp_in ((xI h1 30 (kk).toNatClampNeg)) (6))))⟩
      rw [r0, vref hg1.1 (rfl : vRf 48 3 = [51]), vref hg1.1 (rfl : vRf 48 8 = [55]), vref hg1.1 (rfl : vRf 24 6 = [29]), vref hg1.1 (rfl : vRf 24 7 = [30])] at t2
      have t3 : XT l 1 23 false 66 153 6051 31 [xf 11 48, xi tr, xi kk, x3, x4] [] h1 31 [xf 11 48, xi tr, xi (kk + Int32.ofInt (1)), xi (xI h1 29 (kk).toNatClampNeg), xi (xI h1 30 (kk).toNatClampNeg)] [] (xsetI (xsetI (xsetI h1 51 (kk).toNatClampNeg (Int32.ofInt (0))) 55 ((xI h1 29 (kk).toNatClampNeg)).toNatClampNeg ((xI h1 55 ((xI h1 29 (kk).toNatClampNeg)).toNatClampNeg) + (xI (xsetI h1 51 (kk).toNatClampNeg (Int32.ofInt (0))) 51 (kk).toNatClampNeg))) 55 ((xI h1 30 (kk).toNatClampNeg)).toNatClampNeg ((xI (xsetI (xsetI h1 51 (kk).toNatClampNeg (Int32.ofInt (0))) 55 ((xI h1 29 (kk).toNatClampNeg)).toNatClampNeg ((xI h1 55 ((xI h1 29 (kk).toNatClampNeg)).toNatClampNeg) + (xI (xsetI h1 51 (kk).toNatClampNeg (Int32.ofInt (0))) 51 (kk).toNatClampNeg))) 55 ((xI h1 30 (kk).toNatClampNeg)).toNatClampNeg) + (xI (xsetI h1 51 (kk).toNatClampNeg (Int32.ofInt (0))) 51 (kk).toNatClampNeg))) := t2
      obtain ⟨hE, eE⟩ : ∃ x, x = (xsetI (xsetI (xsetI h1 51 (kk).toNatClampNeg (Int32.ofInt (0))) 55 ((xI h1 29 (kk).toNatClampNeg)).toNatClampNeg ((xI h1 55 ((xI h1 29 (kk).toNatClampNeg)).toNatClampNeg) + (xI (xsetI h1 51 (kk).toNatClampNeg (Int32.ofInt (0))) 51 (kk).toNatClampNeg))) 55 ((xI h1 30 (kk).toNatClampNeg)).toNatClampNeg ((xI (xsetI (xsetI h1 51 (kk).toNatClampNeg (Int32.ofInt (0))) 55 ((xI h1 29 (kk).toNatClampNeg)).toNatClampNeg ((xI h1 55 ((xI h1 29 (kk).toNatClampNeg)).toNatClampNeg) + (xI (xsetI h1 51 (kk).toNatClampNeg (Int32.ofInt (0))) 51 (kk).toNatClampNeg))) 55 ((xI h1 30 (kk).toNatClampNeg)).toNatClampNeg) + (xI (xsetI h1 51 (kk).toNatClampNeg (Int32.ofInt (0))) 51 (kk).toNatClampNeg))) := ⟨_, rfl⟩
      have eE2 : hE = xsetI (xsetI (xsetI h1 51 k (Int32.ofInt (0))) 55 A1 (xI h1 55 A1 + (Int32.ofInt (0)))) 55 A2 (xI h1 55 A2 + (Int32.ofInt (0))) := by
        rw [eE]
        rw [nk] at n1 n2
        simp only [nk, n1, n2]
        rw [show xI (xsetI (xsetI h1 51 k (Int32.ofInt (0))) 55 A1 (xI h1 55 A1 + xI (xsetI h1 51 k (Int32.ofInt (0))) 51 k)) 55 A2 = xI h1 55 A2 from (yI_ne (eq_false (fun z => by have := z.2; omega))).trans (yI_c (by decide)), show xI (xsetI h1 51 k (Int32.ofInt (0))) 51 k = (Int32.ofInt (0)) from yI_same]
      rw [← eE] at t3
      have GE : mQ [51, 55] h hE := by rw [eE2]; exact ((G.set (by decide) (by rw [vI_u rfl (rfl : vRow 51 = (0, 1))]; exact (by decide))).set (by decide) (by rw [vI_u rfl (rfl : vRow 55 = sfull)]; exact i32r_of _)).set (by decide) (by rw [vI_u rfl (rfl : vRow 55 = sfull)]; exact i32r_of _)
      have tk : ((Int32.ofInt (0))).toInt = (if zTr Z Y < zgp Z Y k then 1 else 0) := by rw [if_neg (by omega)]; rfl
      have J3 : ∀ j : Nat, j < k + 1 → (xI hE 51 j).toInt = (if zTr Z Y < zgp Z Y j then 1 else 0) := by
        intro j hj
        rw [eE2, yI_c (by decide), yI_c (by decide)]
        by_cases e : j = k
        · subst e; rw [yI_same]; exact tk
        · rw [yI_ne (eq_false (fun z => e z.2))]; exact I3 j (by omega)
      have J7 : ∀ r : Nat, (r : Int) < Z 0 → xI hE 55 r = zsum (fun j => if (Z (140 + j) = r ∨ Z (150 + j) = r) ∧ zTr Z Y < zgp Z Y j then Int32.ofInt (1) else Int32.ofInt (0)) (k + 1) := by
        intro r hr
        by_cases e1 : r = A1
        · have e2 : ¬ r = A2 := by omega
          rw [eE2, yI_ne (eq_false (fun z => e2 z.2)), e1, yI_same]
          rw [e1] at hr
          exact zsum_n (v := (Int32.ofInt (0))) (I7 A1 hr) (if_neg (fun y => by have := y.2; omega))
        · by_cases e2 : r = A2
          · rw [eE2, e2, yI_same]
            rw [e2] at hr
            exact zsum_n (v := (Int32.ofInt (0))) (I7 A2 hr) (if_neg (fun y => by have := y.2; omega))
          · rw [eE2, yI_ne (eq_false (fun z => e2 z.2)), yI_ne (eq_false (fun z => e1 z.2)), yI_c (by decide)]
            exact zsum_m (I7 r hr) (if_neg (fun y => by have := y.1; omega))
      obtain ⟨k3, y3, y4, h9, t9, G9, I9, I10⟩ := ck_tearL48_24 l Z Y tr h hg A kt kw V ht m (k + 1) (kk + Int32.ofInt (1)) (xi (xI h1 29 (kk).toNatClampNeg)) (xi (xI h1 30 (kk).toNatClampNeg)) hE GE (by omega) (by omega) J3 J7
      exact ⟨k3, y3, y4, h9, t3.tr t9, G9, I9, I10⟩
    · have e_0 : (0 : Int32).toInt = 0 := rfl
      have cb1r := cb1
      rw [vref hg1.1 (rfl : vRf 48 1 = [49]), r0, vref hg1.1 (rfl : vRf 24 6 = [29]), vref hg1.1 (rfl : vRf 24 7 = [30])] at cb1r
      have dcb1 : (tr).toInt < (if (0 : Int32) ≤ ((xI h1 49 ((xI h1 29 (kk).toNatClampNeg)).toNatClampNeg) - (xI h1 49 ((xI h1 30 (kk).toNatClampNeg)).toNatClampNeg)) then ((xI h1 49 ((xI h1 29 (kk).toNatClampNeg)).toNatClampNeg) - (xI h1 49 ((xI h1 30 (kk).toNatClampNeg)).toNatClampNeg)) else (0 : Int32) - ((xI h1 49 ((xI h1 29 (kk).toNatClampNeg)).toNatClampNeg) - (xI h1 49 ((xI h1 30 (kk).toNatClampNeg)).toNatClampNeg))).toInt := Int32.lt_iff_toInt_lt.mp (Int32.not_le.mp cb1r)
      have t4 : XT l 1 23 false 66 153 6051 31 [xf 11 48, xi tr, xi kk, x3, x4] [] h1 31 [xf 11 48, xi tr, xi (kk + Int32.ofInt (1)), xi (xI h1 (xR h1 (xR h1 48 0) 6) (kk).toNatClampNeg), xi (xI h1 (xR h1 (xR h1 48 0) 7) (kk).toNatClampNeg)] [] (xsetI (xsetI (xsetI h1 (xR h1 48 3) (kk).toNatClampNeg (Int32.ofInt (1))) (xR h1 48 8) ((xI h1 (xR h1 (xR h1 48 0) 6) (kk).toNatClampNeg)).toNatClampNeg ((xI (xsetI h1 (xR h1 48 3) (kk).toNatClampNeg (Int32.ofInt (1))) (xR h1 48 8) ((xI h1 (xR h1 (xR h1 48 0) 6) (kk).toNatClampNeg)).toNatClampNeg) + (xI (xsetI h1 (xR h1 48 3) (kk).toNatClampNeg (Int32.ofInt (1))) (xR h1 48 3) (kk).toNatClampNeg))) (xR h1 48 8) ((xI h1 (xR h1 (xR h1 48 0) 7) (kk).toNatClampNeg)).toNatClampNeg ((xI (xsetI (xsetI h1 (xR h1 48 3) (kk).toNatClampNeg (Int32.ofInt (1))) (xR h1 48 8) ((xI h1 (xR h1 (xR h1 48 0) 6) (kk).toNatClampNeg)).toNatClampNeg ((xI (xsetI h1 (xR h1 48 3) (kk).toNatClampNeg (Int32.ofInt (1))) (xR h1 48 8) ((xI h1 (xR h1 (xR h1 48 0) 6) (kk).toNatClampNeg)).toNatClampNeg) + (xI (xsetI h1 (xR h1 48 3) (kk).toNatClampNeg (Int32.ofInt (1))) (xR h1 48 3) (kk).toNatClampNeg))) (xR h1 48 8) ((xI h1 (xR h1 (xR h1 48 0) 7) (kk).toNatClampNeg)).toNatClampNeg) + (xI (xsetI (xsetI h1 (xR h1 48 3) (kk).toNatClampNeg (Int32.ofInt (1))) (xR h1 48 8) ((xI h1 (xR h1 (xR h1 48 0) 6) (kk).toNatClampNeg)).toNatClampNeg ((xI (xsetI h1 (xR h1 48 3) (kk).toNatClampNeg (Int32.ofInt (1))) (xR h1 48 8) ((xI h1 (xR h1 (xR h1 48 0) 6) (kk).toNatClampNeg)).toNatClampNeg) + (xI (xsetI h1 (xR h1 48 3) (kk).toNatClampNeg (Int32.ofInt (1))) (xR h1 48 3) (kk).toNatClampNeg))) (xR h1 48 3) (kk).toNatClampNeg))) := XT_path (l := l) (fr := 1) (lo := 23) (full := false) (M := 66) (n := 153) (u := 6051) (pc := 31) (L := [xf 11 48, xi tr, xi kk, x3, x4]) (st := []) (h := h1) (inl := []) (n' := 120) (sp := [31]) (o := [0, 0]) rfl rfl ⟨rfl, rfl, rfl⟩ rfl ⟨Nat.le_of_eq hg1.2.2.2.1, Nat.le_of_eq hg1.2.2.2.2⟩ ⟨⟨⟨⟨⟨⟨⟨⟨⟨⟨⟨⟨⟨⟨⟨⟨⟨⟨⟨⟨⟨⟨⟨⟨⟨trivial, (show ¬ xR h1 48 0 = 0 from by rw [r0]; decide)⟩, (show ¬ (xI h1 (xR h1 48 0) 5) ≤ kk from by rw [r0]; exact fun z => absurd (Int32.le_iff_toInt_le.mp z) (by omega))⟩, (show ¬ xR h1 48 0 = 0 from by rw [r0]; decide)⟩, (show ¬ xR h1 (xR h1 48 0) 6 = 0 from by rw [r0]; exact vnn hg1.1 (rfl : vRf 24 6 = [29]) (by decide))⟩, (vp_of (i := kk) (n := 9) (by omega) (by omega))⟩, (show ¬ xR h1 48 0 = 0 from by rw [r0]; decide)⟩, (show ¬ xR h1 (xR h1 48 0) 7 = 0 from by rw [r0]; exact vnn hg1.1 (rfl : vRf 24 7 = [30]) (by decide))⟩, (vp_of (i := kk) (n := 9) (by omega) (by omega))⟩, (vnn hg1.1 (rfl : vRf 48 3 = [51]) (by decide))⟩, (vnn hg1.1 (rfl : vRf 48 1 = [49]) (by decide))⟩, (show vp_in ((xI h1 (xR h1 (xR h1 48 0) 6) (kk).toNatClampNeg)) (6) from (by rw [r0, vref hg1.1 (rfl : vRf 24 6 = [29])]; exact (vp_of (i := (xI h1 29 (kk).toNatClampNeg)) (n := 6) (by omega) (by omega) : vp_in ((xI h1 29 (kk).toNatClampNeg)) (6))))⟩, (vnn hg1.1 (rfl : vRf 48 1 = [49]) (by decide))⟩, (show vp_in ((xI h1 (xR h1 (xR h1 48 0) 7) (kk).toNatClampNeg)) (6) from (by rw [r0, vref hg1.1 (rfl : vRf 24 7 = [30])]; exact (vp_of (i := (xI h1 30 (kk).toNatClampNeg)) (n := 6) (by omega) (by omega) : vp_in ((xI h1 30 (kk).toNatClampNeg)) (6))))⟩, cb1⟩, (vp_of (i := kk) (n := 9) (by omega) (by omega))⟩, (vnn hg1.1 (rfl : vRf 48 8 = [55]) (by decide))⟩, (show vp_in ((xI h1 (xR h1 (xR h1 48 0) 6) (kk).toNatClampNeg)) (6) from (by rw [r0, vref hg1.1 (rfl : vRf 24 6 = [29])]; exact (vp_of (i := (xI h1 29 (kk).toNatClampNeg)) (n := 6) (by omega) (by omega) : vp_in ((xI h1 29 (kk).toNatClampNeg)) (6))))⟩, (vnn hg1.1 (rfl : vRf 48 3 = [51]) (by decide))⟩, (vp_of (i := kk) (n := 9) (by omega) (by omega))⟩, (show vp_in ((xI h1 (xR h1 (xR h1 48 0) 6) (kk).toNatClampNeg)) (6) from (by rw [r0, vref hg1.1 (rfl : vRf 24 6 = [29])]; exact (vp_of (i := (xI h1 29 (kk).toNatClampNeg)) (n := 6) (by omega) (by omega) : vp_in ((xI h1 29 (kk).toNatClampNeg)) (6))))⟩, (vnn hg1.1 (rfl : vRf 48 8 = [55]) (by decide))⟩, (show vp_in ((xI h1 (xR h1 (xR h1 48 0) 7) (kk).toNatClampNeg)) (6) from (by rw [r0, vref hg1.1 (rfl : vRf 24 7 = [30])]; exact (vp_of (i := (xI h1 30 (kk).toNatClampNeg)) (n := 6) (by omega) (by omega) : vp_in ((xI h1 30 (kk).toNatClampNeg)) (6))))⟩, (vnn hg1.1 (rfl : vRf 48 3 = [51]) (by decide))⟩, (vp_of (i := kk) (n := 9) (by omega) (by omega))⟩, (show vp_in ((xI h1 (xR h1 (xR h1 48 0) 7) (kk).toNatClampNeg)) (6) from (by rw [r0, vref hg1.1 (rfl : vRf 24 7 = [30])]; exact (vp_of (i := (xI h1 30 (kk).toNatClampNeg)) (n := 6) (by omega) (by omega) : vp_in ((xI h1 30 (kk).toNatClampNeg)) (6))))⟩
      rw [r0, vref hg1.1 (rfl : vRf 48 3 = [51]), vref hg1.1 (rfl : vRf 48 8 = [55]), vref hg1.1 (rfl : vRf 24 6 = [29]), vref hg1.1 (rfl : vRf 24 7 = [30])] at t4
      have t5 : XT l 1 23 false 66 153 6051 31 [xf 11 48, xi tr, xi kk, x3, x4] [] h1 31 [xf 11 48, xi tr, xi (kk + Int32.ofInt (1)), xi (xI h1 29 (kk).toNatClampNeg), xi (xI h1 30 (kk).toNatClampNeg)] [] (xsetI (xsetI (xsetI h1 51 (kk).toNatClampNeg (Int32.ofInt (1))) 55 ((xI h1 29 (kk).toNatClampNeg)).toNatClampNeg ((xI h1 55 ((xI h1 29 (kk).toNatClampNeg)).toNatClampNeg) + (xI (xsetI h1 51 (kk).toNatClampNeg (Int32.ofInt (1))) 51 (kk).toNatClampNeg))) 55 ((xI h1 30 (kk).toNatClampNeg)).toNatClampNeg ((xI (xsetI (xsetI h1 51 (kk).toNatClampNeg (Int32.ofInt (1))) 55 ((xI h1 29 (kk).toNatClampNeg)).toNatClampNeg ((xI h1 55 ((xI h1 29 (kk).toNatClampNeg)).toNatClampNeg) + (xI (xsetI h1 51 (kk).toNatClampNeg (Int32.ofInt (1))) 51 (kk).toNatClampNeg))) 55 ((xI h1 30 (kk).toNatClampNeg)).toNatClampNeg) + (xI (xsetI h1 51 (kk).toNatClampNeg (Int32.ofInt (1))) 51 (kk).toNatClampNeg))) := t4
      obtain ⟨hE, eE⟩ : ∃ x, x = (xsetI (xsetI (xsetI h1 51 (kk).toNatClampNeg (Int32.ofInt (1))) 55 ((xI h1 29 (kk).toNatClampNeg)).toNatClampNeg ((xI h1 55 ((xI h1 29 (kk).toNatClampNeg)).toNatClampNeg) + (xI (xsetI h1 51 (kk).toNatClampNeg (Int32.ofInt (1))) 51 (kk).toNatClampNeg))) 55 ((xI h1 30 (kk).toNatClampNeg)).toNatClampNeg ((xI (xsetI (xsetI h1 51 (kk).toNatClampNeg (Int32.ofInt (1))) 55 ((xI h1 29 (kk).toNatClampNeg)).toNatClampNeg ((xI h1 55 ((xI h1 29 (kk).toNatClampNeg)).toNatClampNeg) + (xI (xsetI h1 51 (kk).toNatClampNeg (Int32.ofInt (1))) 51 (kk).toNatClampNeg))) 55 ((xI h1 30 (kk).toNatClampNeg)).toNatClampNeg) + (xI (xsetI h1 51 (kk).toNatClampNeg (Int32.ofInt (1))) 51 (kk).toNatClampNeg))) := ⟨_, rfl⟩
      have eE2 : hE = xsetI (xsetI (xsetI h1 51 k (Int32.ofInt (1))) 55 A1 (xI h1 55 A1 + (Int32.ofInt (1)))) 55 A2 (xI h1 55 A2 + (Int32.ofInt (1))) := by
        rw [eE]
        rw [nk] at n1 n2
        simp only [nk, n1, n2]
        rw [show xI (xsetI (xsetI h1 51 k (Int32.ofInt (1))) 55 A1 (xI h1 55 A1 + xI (xsetI h1 51 k (Int32.ofInt (1))) 51 k)) 55 A2 = xI h1 55 A2 from (yI_ne (eq_false (fun z => by have := z.2; omega))).trans (yI_c (by decide)), show xI (xsetI h1 51 k (Int32.ofInt (1))) 51 k = (Int32.ofInt (1)) from yI_same]
      rw [← eE] at t5
      have GE : mQ [51, 55] h hE := by rw [eE2]; exact ((G.set (by decide) (by rw [vI_u rfl (rfl : vRow 51 = (0, 1))]; exact (by decide))).set (by decide) (by rw [vI_u rfl (rfl : vRow 55 = sfull)]; exact i32r_of _)).set (by decide) (by rw [vI_u rfl (rfl : vRow 55 = sfull)]; exact i32r_of _)
      have tk : ((Int32.ofInt (1))).toInt = (if zTr Z Y < zgp Z Y k then 1 else 0) := by rw [if_pos (by omega)]; rfl
      have J3 : ∀ j : Nat, j < k + 1 → (xI hE 51 j).toInt = (if zTr Z Y < zgp Z Y j then 1 else 0) := by
        intro j hj
        rw [eE2, yI_c (by decide), yI_c (by decide)]
        by_cases e : j = k
        · subst e; rw [yI_same]; exact tk
        · rw [yI_ne (eq_false (fun z => e z.2))]; exact I3 j (by omega)
      have J7 : ∀ r : Nat, (r : Int) < Z 0 → xI hE 55 r = zsum (fun j => if (Z (140 + j) = r ∨ Z (150 + j) = r) ∧ zTr Z Y < zgp Z Y j then Int32.ofInt (1) else Int32.ofInt (0)) (k + 1) := by
        intro r hr
        by_cases e1 : r = A1
        · have e2 : ¬ r = A2 := by omega
          rw [eE2, yI_ne (eq_false (fun z => e2 z.2)), e1, yI_same]
          rw [e1] at hr
          exact zsum_n (v := (Int32.ofInt (1))) (I7 A1 hr) (if_pos ⟨by omega, by omega⟩)
        · by_cases e2 : r = A2
          · rw [eE2, e2, yI_same]
            rw [e2] at hr
            exact zsum_n (v := (Int32.ofInt (1))) (I7 A2 hr) (if_pos ⟨by omega, by omega⟩)
          · rw [eE2, yI_ne (eq_false (fun z => e2 z.2)), yI_ne (eq_false (fun z => e1 z.2)), yI_c (by decide)]
            exact zsum_m (I7 r hr) (if_neg (fun y => by have := y.1; omega))
      obtain ⟨k3, y3, y4, h9, t9, G9, I9, I10⟩ := ck_tearL48_24 l Z Y tr h hg A kt kw V ht m (k + 1) (kk + Int32.ofInt (1)) (xi (xI h1 29 (kk).toNatClampNeg)) (xi (xI h1 30 (kk).toNatClampNeg)) hE GE (by omega) (by omega) J3 J7
      exact ⟨k3, y3, y4, h9, t5.tr t9, G9, I9, I10⟩
set_option maxRecDepth 100000 in
set_option maxHeartbeats 4000000 in
theorem ck_tear48_24 (l : Launch) (Z : Nat → Int) (Y : Nat → Int32) (h : XH) (hg : mI h) (A : zAll Z) (kt : kTx 24 Z h) (kw : kW 48 24 Z Y h) (V : zVd Z Y) : ∃ h', CX l 1 23 false 66 [xf 11 48] h [] h' ∧ mQ [51, 55] h h' ∧ kD 48 Z Y h' := by
  obtain ⟨⟨⟨B00, B01⟩, ⟨B10, B11⟩, ⟨B20, B21⟩, B30, B31⟩, g6, zj, zv, LW⟩ := id A
  have r0 : xR h 48 0 = 24 := kw.2.2.2.2.2
  have emo : (xI h 48 10).toInt = (Y 51).toInt := congrArg Int32.toInt kw.2.2.2.1
  have ete : (xI h 24 18).toInt = Z 5 := kt.1.2.1
  by_cases cb1 : (xI h 48 10) = (Int32.ofInt (3))
  · have e_3 : (Int32.ofInt (3)).toInt = 3 := rfl
    have dcb1 : (xI h 48 10).toInt = (Int32.ofInt (3)).toInt := congrArg Int32.toInt cb1
    have t2 : XT l 1 23 false 66 153 6051 0 [xf 11 48, xun, xun, xun, xun] [] h 26 [xf 11 48, xi (Int32.ofInt (8)), xun, xun, xun] [xi (Int32.ofInt (0)), xf 10006 (xR h 48 8)] h := XT_path (l := l) (fr := 1) (lo := 23) (full := false) (M := 66) (n := 153) (u := 6051) (pc := 0) (L := [xf 11 48, xun, xun, xun, xun]) (st := []) (h := h) (inl := []) (n' := 120) (sp := [26]) (o := [0]) rfl rfl ⟨rfl, rfl, rfl⟩ rfl ⟨Nat.le_of_eq hg.2.2.2.1, Nat.le_of_eq hg.2.2.2.2⟩ ⟨⟨trivial, cb1⟩, (vnn hg.1 (rfl : vRf 48 8 = [55]) (by decide))⟩
    rw [vref hg.1 (rfl : vRf 48 8 = [55])] at t2
    obtain ⟨h1, c1, G1, z1⟩ := cm_fill55 l h hg
    have r1 : xR h1 48 0 = 24 := (G1.2.2 48 0).trans r0
    have t3 : XT l 1 23 false 66 153 6051 26 [xf 11 48, xi (Int32.ofInt (8)), xun, xun, xun] [xi (Int32.ofInt (0)), xf 10006 55] h 29 [xf 11 48, xi (Int32.ofInt (8)), xun, xun, xun] [] h1 := XT_call (l := l) (fr := 1) (lo := 23) (full := false) (M := 66) (n := 153) (u := 6051) (pc := 26) (L := [xf 11 48, xi (Int32.ofInt (8)), xun, xun, xun]) (st := [xi (Int32.ofInt (0)), xf 10006 55]) (h := h) (i := .invokestatic 5) (aux := 2) (nx := 29) (K := 5) (vs := [xf 10006 55, xi (Int32.ofInt (0))]) (rs := []) (rest := []) rfl rfl rfl rfl rfl rfl c1 (by decide) (by decide) (Nat.le_of_ble_eq_true rfl) ⟨Nat.le_of_eq G1.1.2.2.2.1, Nat.le_of_eq G1.1.2.2.2.2⟩
    have t4 := t2.tr t3
    have t5 : XT l 1 23 false 66 153 6051 29 [xf 11 48, xi (Int32.ofInt (8)), xun, xun, xun] [] h1 31 [xf 11 48, xi (Int32.ofInt (8)), xi (Int32.ofInt (0)), xun, xun] [] h1 := XT_path (l := l) (fr := 1) (lo := 23) (full := false) (M := 66) (n := 153) (u := 6051) (pc := 29) (L := [xf 11 48, xi (Int32.ofInt (8)), xun, xun, xun]) (st := []) (h := h1) (inl := []) (n' := 120) (sp := [31]) (o := []) rfl rfl ⟨rfl, rfl, rfl⟩ rfl ⟨Nat.le_of_eq G1.1.2.2.2.1, Nat.le_of_eq G1.1.2.2.2.2⟩ trivial
    have t6 := t4.tr t5
    have et : ((Int32.ofInt (8))).toInt = zTr Z Y := by unfold zTr; rw [if_pos (by have e3 : ((Int32.ofInt (3))).toInt = 3 := rfl; omega)]; rfl
    obtain ⟨k2, y3, y4, h2, t2, G2, I3, I7⟩ := ck_tearL48_24 l Z Y (Int32.ofInt (8)) h hg A kt kw V et (Z 1).toNat 0 (Int32.ofInt (0)) (xun) (xun) h1 (G1.mono (by decide)) rfl (by omega) (fun j hj => by omega) (fun r hr => z1 r (by omega))
    have T2 := t6.tr t2
    exact ⟨h2, CX_ofT (h' := h2) (by decide) rfl rfl trivial ⟨_, _, _, rfl, rfl, rfl⟩ rfl ⟨Nat.le_of_eq G2.1.2.2.2.1.symm, Nat.le_of_eq G2.1.2.2.2.2.symm⟩ T2, G2, fun j hj => I3 j (by omega), fun r hr => I7 r hr⟩
  · have e_3 : (Int32.ofInt (3)).toInt = 3 := rfl
    have dcb1 : ¬ (xI h 48 10).toInt = (Int32.ofInt (3)).toInt := fun z_ => cb1 (Int32.toInt_inj.mp z_)
    have t7 : XT l 1 23 false 66 153 6051 0 [xf 11 48, xun, xun, xun, xun] [] h 26 [xf 11 48, xi (xI h (xR h 48 0) 18), xun, xun, xun] [xi (Int32.ofInt (0)), xf 10006 (xR h 48 8)] h := XT_path (l := l) (fr := 1) (lo := 23) (full := false) (M := 66) (n := 153) (u := 6051) (pc := 0) (L := [xf 11 48, xun, xun, xun, xun]) (st := []) (h := h) (inl := []) (n' := 120) (sp := [26]) (o := [1]) rfl rfl ⟨rfl, rfl, rfl⟩ rfl ⟨Nat.le_of_eq hg.2.2.2.1, Nat.le_of_eq hg.2.2.2.2⟩ ⟨⟨⟨trivial, cb1⟩, (show ¬ xR h 48 0 = 0 from by rw [r0]; decide)⟩, (vnn hg.1 (rfl : vRf 48 8 = [55]) (by decide))⟩
    rw [r0, vref hg.1 (rfl : vRf 48 8 = [55])] at t7
    obtain ⟨h1, c1, G1, z1⟩ := cm_fill55 l h hg
    have r1 : xR h1 48 0 = 24 := (G1.2.2 48 0).trans r0
    have t8 : XT l 1 23 false 66 153 6051 26 [xf 11 48, xi (xI h 24 18), xun, xun, xun] [xi (Int32.ofInt (0)), xf 10006 55] h 29 [xf 11 48, xi (xI h 24 18), xun, xun, xun] [] h1 := XT_call (l := l) (fr := 1) (lo := 23) (full := false) (M := 66) (n := 153) (u := 6051) (pc := 26) (L := [xf 11 48, xi (xI h 24 18), xun, xun, xun]) (st := [xi (Int32.ofInt (0)), xf 10006 55]) (h := h) (i := .invokestatic 5) (aux := 2) (nx := 29) (K := 5) (vs := [xf 10006 55, xi (Int32.ofInt (0))]) (rs := []) (rest := []) rfl rfl rfl rfl rfl rfl c1 (by decide) (by decide) (Nat.le_of_ble_eq_true rfl) ⟨Nat.le_of_eq G1.1.2.2.2.1, Nat.le_of_eq G1.1.2.2.2.2⟩
    have t9 := t7.tr t8
    have t10 : XT l 1 23 false 66 153 6051 29 [xf 11 48, xi (xI h 24 18), xun, xun, xun] [] h1 31 [xf 11 48, xi (xI h 24 18), xi (Int32.ofInt (0)), xun, xun] [] h1 := XT_path (l := l) (fr := 1) (lo := 23) (full := false) (M := 66) (n := 153) (u := 6051) (pc := 29) (L := [xf 11 48, xi (xI h 24 18), xun, xun, xun]) (st := []) (h := h1) (inl := []) (n' := 120) (sp := [31]) (o := []) rfl rfl ⟨rfl, rfl, rfl⟩ rfl ⟨Nat.le_of_eq G1.1.2.2.2.1, Nat.le_of_eq G1.1.2.2.2.2⟩ trivial
    have t11 := t9.tr t10
    have et : ((xI h 24 18)).toInt = zTr Z Y := by unfold zTr; rw [if_neg (by have e3 : ((Int32.ofInt (3))).toInt = 3 := rfl; omega)]; exact ete
    obtain ⟨k2, y3, y4, h2, t2, G2, I3, I7⟩ := ck_tearL48_24 l Z Y (xI h 24 18) h hg A kt kw V et (Z 1).toNat 0 (Int32.ofInt (0)) (xun) (xun) h1 (G1.mono (by decide)) rfl (by omega) (fun j hj => by omega) (fun r hr => z1 r (by omega))
    have T2 := t11.tr t2
    exact ⟨h2, CX_ofT (h' := h2) (by decide) rfl rfl trivial ⟨_, _, _, rfl, rfl, rfl⟩ rfl ⟨Nat.le_of_eq G2.1.2.2.2.1.symm, Nat.le_of_eq G2.1.2.2.2.2.symm⟩ T2, G2, fun j hj => I3 j (by omega), fun r hr => I7 r hr⟩
set_option maxRecDepth 100000 in
set_option maxHeartbeats 4000000 in
theorem ck_tearL59_3 (l : Launch) (Z : Nat → Int) (Y : Nat → Int32) (tr : Int32) (h : XH) (hg : mI h) (A : zAll Z) (kt : kTx 3 Z h) (kw : kW 59 3 Z Y h) (V : zVd Z Y) (ht : tr.toInt = zTr Z Y) : ∀ (m k : Nat) (kk : Int32) (x3 x4 : XV) (h1 : XH), mQ [62, 66] h h1 → kk.toInt = k → (k : Int) + m = Z 1 → (∀ j : Nat, j < k → (xI h1 62 j).toInt = (if zTr Z Y < zgp Z Y j then 1 else 0)) → (∀ r : Nat, (r : Int) < Z 0 → xI h1 66 r = zsum (fun j => if (Z (140 + j) = r ∨ Z (150 + j) = r) ∧ zTr Z Y < zgp Z Y j then Int32.ofInt (1) else Int32.ofInt (0)) k) → ∃ k2 y3 y4 h2, XT l 1 23 false 66 153 6051 31 [xf 11 59, xi tr, xi kk, x3, x4] [] h1 132 [xf 11 59, xi tr, xi k2, y3, y4] [] h2 ∧ mQ [62, 66] h h2 ∧ (∀ j : Nat, j < (Z 1).toNat → (xI h2 62 j).toInt = (if zTr Z Y < zgp Z Y j then 1 else 0)) ∧ (∀ r : Nat, (r : Int) < Z 0 → xI h2 66 r = zsum (fun j => if (Z (140 + j) = r ∨ Z (150 + j) = r) ∧ zTr Z Y < zgp Z Y j then Int32.ofInt (1) else Int32.ofInt (0)) (Z 1).toNat)
  | 0, k, kk, x3, x4, h1, G, hk, hm, I3, I7 => by
    obtain ⟨⟨⟨B00, B01⟩, ⟨B10, B11⟩, ⟨B20, B21⟩, B30, B31⟩, g6, zj, zv, LW⟩ := id A
    have r0 : xR h1 59 0 = 3 := (G.2.2 59 0).trans kw.2.2.2.2.2
    have hg1 := G.1
    have ej : (xI h1 3 5).toInt = Z 1 := by rw [G.2.1 3 5 (by decide)]; exact kt.1.1 1 (by decide)
    have t1 : XT l 1 23 false 66 153 6051 31 [xf 11 59, xi tr, xi kk, x3, x4] [] h1 132 [xf 11 59, xi tr, xi kk, x3, x4] [] h1 := XT_path (l := l) (fr := 1) (lo := 23) (full := false) (M := 66) (n := 153) (u := 6051) (pc := 31) (L := [xf 11 59, xi tr, xi kk, x3, x4]) (st := []) (h := h1) (inl := []) (n' := 120) (sp := [132]) (o := [1]) rfl rfl ⟨rfl, rfl, rfl⟩ rfl ⟨Nat.le_of_eq hg1.2.2.2.1, Nat.le_of_eq hg1.2.2.2.2⟩ ⟨⟨trivial, (show ¬ xR h1 59 0 = 0 from by rw [r0]; decide)⟩, (show (xI h1 (xR h1 59 0) 5) ≤ kk from by rw [r0]; exact Int32.le_iff_toInt_le.mpr (by omega))⟩
    obtain rfl : k = (Z 1).toNat := by omega
    exact ⟨kk, x3, x4, h1, t1, G, I3, I7⟩
  | m + 1, k, kk, x3, x4, h1, G, hk, hm, I3, I7 => by
    obtain ⟨⟨⟨B00, B01⟩, ⟨B10, B11⟩, ⟨B20, B21⟩, B30, B31⟩, g6, zj, zv, LW⟩ := id A
    have r0 : xR h1 59 0 = 3 := (G.2.2 59 0).trans kw.2.2.2.2.2
    have hg1 := G.1
    have ej : (xI h1 3 5).toInt = Z 1 := by rw [G.2.1 3 5 (by decide)]; exact kt.1.1 1 (by decide)
    have lk : (k : Int) < Z 1 := by omega
    have nk : kk.toNatClampNeg = k := zi_ix hk
    have sk := y_suc1 (k := kk) (by omega) (by omega)
    obtain ⟨⟨o1, o2⟩, ⟨o3, o4⟩, -⟩ := zv.2.1 k lk
    have one := zj k lk
    obtain ⟨A1, hA1⟩ : ∃ n : Nat, n = (Z (140 + k)).toNat := ⟨_, rfl⟩
    obtain ⟨A2, hA2⟩ : ∃ n : Nat, n = (Z (150 + k)).toNat := ⟨_, rfl⟩
    have k1 : (xI h1 8 kk.toNatClampNeg).toInt = A1 := by rw [nk, G.2.1 8 k (by decide)]; exact (show (xI h 8 k).toInt = Z (140 + k) from kt.1.2.2 4 k (by decide) lk).trans (by omega)
    have k2 : (xI h1 9 kk.toNatClampNeg).toInt = A2 := by rw [nk, G.2.1 9 k (by decide)]; exact (show (xI h 9 k).toInt = Z (150 + k) from kt.1.2.2 5 k (by decide) lk).trans (by omega)
    have n1 : (xI h1 8 kk.toNatClampNeg).toNatClampNeg = A1 := zi_ix k1
    have n2 : (xI h1 9 kk.toNatClampNeg).toNatClampNeg = A2 := zi_ix k2
    have s1 : (xI h1 60 (xI h1 8 kk.toNatClampNeg).toNatClampNeg).toInt = (Y A1).toInt := by rw [n1, G.2.1 60 A1 (by decide)]; exact congrArg Int32.toInt (kw.1 A1 (by omega))
    have s2 : (xI h1 60 (xI h1 9 kk.toNatClampNeg).toNatClampNeg).toInt = (Y A2).toInt := by rw [n2, G.2.1 60 A2 (by decide)]; exact congrArg Int32.toInt (kw.1 A2 (by omega))
    have v1 := V.1 A1 (by omega)
    have v2 := V.1 A2 (by omega)
    have sd : ((xI h1 60 (xI h1 8 kk.toNatClampNeg).toNatClampNeg) - (xI h1 60 (xI h1 9 kk.toNatClampNeg).toNatClampNeg)).toInt = (Y A1).toInt - (Y A2).toInt := by rw [y_subb (by omega) (by omega), s1, s2]
    have sa := y_abs (x := (xI h1 60 (xI h1 8 kk.toNatClampNeg).toNatClampNeg) - (xI h1 60 (xI h1 9 kk.toNatClampNeg).toNatClampNeg)) (by omega)
    rw [sd] at sa
    have eg : zgp Z Y k = ((((Y A1).toInt - (Y A2).toInt).natAbs : Nat) : Int) := by unfold zgp; rw [← hA1, ← hA2]
    have ez : (0 : Int32).toInt = 0 := rfl
    by_cases cb1 : (if (0 : Int32) ≤ ((xI h1 (xR h1 59 1) ((xI h1 (xR h1 (xR h1 59 0) 6) (kk).toNatClampNeg)).toNatClampNeg) - (xI h1 (xR h1 59 1) ((xI h1 (xR h1 (xR h1 59 0) 7) (kk).toNatClampNeg)).toNatClampNeg)) then ((xI h1 (xR h1 59 1) ((xI h1 (xR h1 (xR h1 59 0) 6) (kk).toNatClampNeg)).toNatClampNeg) - (xI h1 (xR h1 59 1) ((xI h1 (xR h1 (xR h1 59 0) 7) (kk).toNatClampNeg)).toNatClampNeg)) else (0 : Int32) - ((xI h1 (xR h1 59 1) ((xI h1 (xR h1 (xR h1 59 0) 6) (kk).toNatClampNeg)).toNatClampNeg) - (xI h1 (xR h1 59 1) ((xI h1 (xR h1 (xR h1 59 0) 7) (kk).toNatClampNeg)).toNatClampNeg))) ≤ tr
    · have e_0 : (0 : Int32).toInt = 0 := rfl
      have cb1r := cb1
      rw [vref hg1.1 (rfl : vRf 59 1 = [60]), r0, vref hg1.1 (rfl : vRf 3 6 = [8]), vref hg1.1 (rfl : vRf 3 7 = [9])] at cb1r
      have dcb1 : (if (0 : Int32) ≤ ((xI h1 60 ((xI h1 8 (kk).toNatClampNeg)).toNatClampNeg) - (xI h1 60 ((xI h1 9 (kk).toNatClampNeg)).toNatClampNeg)) then ((xI h1 60 ((xI h1 8 (kk).toNatClampNeg)).toNatClampNeg) - (xI h1 60 ((xI h1 9 (kk).toNatClampNeg)).toNatClampNeg)) else (0 : Int32) - ((xI h1 60 ((xI h1 8 (kk).toNatClampNeg)).toNatClampNeg) - (xI h1 60 ((xI h1 9 (kk).toNatClampNeg)).toNatClampNeg))).toInt ≤ (tr).toInt := Int32.le_iff_toInt_le.mp cb1r
      have t2 : XT l 1 23 false 66 153 6051 31 [xf 11 59, xi tr, xi kk, x3, x4] [] h1 31 [xf 11 59, xi tr, xi (kk + Int32.ofInt (1)), xi (xI h1 (xR h1 (xR h1 59 0) 6) (kk).toNatClampNeg), xi (xI h1 (xR h1 (xR h1 59 0) 7) (kk).toNatClampNeg)] [] (xsetI (xsetI (xsetI h1 (xR h1 59 3) (kk).toNatClampNeg (Int32.ofInt (0))) (xR h1 59 8) ((xI h1 (xR h1 (xR h1 59 0) 6) (kk).toNatClampNeg)).toNatClampNeg ((xI (xsetI h1 (xR h1 59 3) (kk).toNatClampNeg (Int32.ofInt (0))) (xR h1 59 8) ((xI h1 (xR h1 (xR h1 59 0) 6) (kk).toNatClampNeg)).toNatClampNeg) + (xI (xsetI h1 (xR h1 59 3) (kk).toNatClampNeg (Int32.ofInt (0))) (xR h1 59 3) (kk).toNatClampNeg))) (xR h1 59 8) ((xI h1 (xR h1 (xR h1 59 0) 7) (kk).toNatClampNeg)).toNatClampNeg ((xI (xsetI (xsetI h1 (xR h1 59 3) (kk).toNatClampNeg (Int32.ofInt (0))) (xR h1 59 8) ((xI h1 (xR h1 (xR h1 59 0) 6) (kk).toNatClampNeg)).toNatClampNeg ((xI (xsetI h1 (xR h1 59 3) (kk).toNatClampNeg (Int32.ofInt (0))) (xR h1 59 8) ((xI h1 (xR h1 (xR h1 59 0) 6) (kk).toNatClampNeg)).toNatClampNeg) + (xI (xsetI h1 (xR h1 59 3) (kk).toNatClampNeg (Int32.ofInt (0))) (xR h1 59 3) (kk).toNatClampNeg))) (xR h1 59 8) ((xI h1 (xR h1 (xR h1 59 0) 7) (kk).toNatClampNeg)).toNatClampNeg) + (xI (xsetI (xsetI h1 (xR h1 59 3) (kk).toNatClampNeg (Int32.ofInt (0))) (xR h1 59 8) ((xI h1 (xR h1 (xR h1 59 0) 6) (kk).toNatClampNeg)).toNatClampNeg ((xI (xsetI h1 (xR h1 59 3) (kk).toNatClampNeg (Int32.ofInt (0))) (xR h1 59 8) ((xI h1 (xR h1 (xR h1 59 0) 6) (kk).toNatClampNeg)).toNatClampNeg) + (xI (xsetI h1 (xR h1 59 3) (kk).toNatClampNeg (Int32.ofInt (0))) (xR h1 59 3) (kk).toNatClampNeg))) (xR h1 59 3) (kk).toNatClampNeg))) := XT_path (l := l) (fr := 1) (lo := 23) (full := false) (M := 66) (n := 153) (u := 6051) (pc := 31) (L := [xf 11 59, xi tr, xi kk, x3, x4]) (st := []) (h := h1) (inl := []) (n' := 120) (sp := [31]) (o := [0, 1]) rfl rfl ⟨rfl, rfl, rfl⟩ rfl ⟨Nat.le_of_eq hg1.2.2.2.1, Nat.le_of_eq hg1.2.2.2.2⟩ ⟨⟨⟨⟨⟨⟨⟨⟨⟨⟨⟨⟨⟨⟨⟨⟨⟨⟨⟨⟨⟨⟨⟨⟨⟨trivial, (show ¬ xR h1 59 0 = 0 from by rw [r0]; decide)⟩, (show ¬ (xI h1 (xR h1 59 0) 5) ≤ kk from by rw [r0]; exact fun z => absurd (Int32.le_iff_toInt_le.mp z) (by omega))⟩, (show ¬ xR h1 59 0 = 0 from by rw [r0]; decide)⟩, (show ¬ xR h1 (xR h1 59 0) 6 = 0 from by rw [r0]; exact vnn hg1.1 (rfl : vRf 3 6 = [8]) (by decide))⟩, (vp_of (i := kk) (n := 9) (by omega) (by omega))⟩, (show ¬ xR h1 59 0 = 0 from by rw [r0]; decide)⟩, (show ¬ xR h1 (xR h1 59 0) 7 = 0 from by rw [r0]; exact vnn hg1.1 (rfl : vRf 3 7 = [9]) (by decide))⟩, (vp_of (i := kk) (n := 9) (by omega) (by omega))⟩, (vnn hg1.1 (rfl : vRf 59 3 = [62]) (by decide))⟩, (vnn hg1.1 (rfl : vRf 59 1 = [60]) (by decide))⟩, (show vp_in ((xI h1 (xR h1 (xR h1 59 0) 6) (kk).toNatClampNeg)) (6) from (by rw [r0, vref hg1.1 (rfl : vRf 3 6 = [8])]; exact (vp_of (i := (xI h1 8 (kk).toNatClampNeg)) (n := 6) (by omega) (by omega) : vp_in ((xI h1 8 (kk).toNatClampNeg)) (6))))⟩, (vnn hg1.1 (rfl : vRf 59 1 = [60]) (by decide))⟩, (show vp_in ((xI h1 (xR h1 (xR h1 59 0) 7) (kk).toNatClampNeg)) (6) from (by rw [r0, vref hg1.1 (rfl : vRf 3 7 = [9])]; exact (vp_of (i := (xI h1 9 (kk).toNatClampNeg)) (n := 6) (by omega) (by omega) : vp_in ((xI h1 9 (kk).toNatClampNeg)) (6))))⟩, cb1⟩, (vp_of (i := kk) (n := 9) (by omega) (by omega))⟩, (vnn hg1.1 (rfl : vRf 59 8 = [66]) (by decide))⟩, (show vp_in ((xI h1 (xR h1 (xR h1 59 0) 6) (kk).toNatClampNeg)) (6) from (by rw [r0, vref hg1.1 (rfl : vRf 3 6 = [8])]; exact (vp_of (i := (xI h1 8 (kk).toNatClampNeg)) (n := 6) (by omega) (by omega) : vp_in ((xI h1 8 (kk).toNatClampNeg)) (6))))⟩, (vnn hg1.1 (rfl : vRf 59 3 = [62]) (by decide))⟩, (vp_of (i := kk) (n := 9) (by omega) (by omega))⟩, (show vp_in ((xI h1 (xR h1 (xR h1 59 0) 6) (kk).toNatClampNeg)) (6) from (by rw [r0, vref hg1.1 (rfl : vRf 3 6 = [8])]; exact (vp_of (i := (xI h1 8 (kk).toNatClampNeg)) (n := 6) (by omega) (by omega) : vp_in ((xI h1 8 (kk).toNatClampNeg)) (6))))⟩, (vnn hg1.1 (rfl : vRf 59 8 = [66]) (by decide))⟩, (show vp_in ((xI h1 (xR h1 (xR h1 59 0) 7) (kk).toNatClampNeg)) (6) from (by rw [r0, vref hg1.1 (rfl : vRf 3 7 = [9])]; exact (vp_of (i := (xI h1 9 (kk).toNatClampNeg)) (n := 6) (by omega) (by omega) : vp_in ((xI h1 9 (kk).toNatClampNeg)) (6))))⟩, (vnn hg1.1 (rfl : vRf 59 3 = [62]) (by decide))⟩, (vp_of (i := kk) (n := 9) (by omega) (by omega))⟩, (show vp_in ((xI h1 (xR h1 (xR h1 59 0) 7) (kk).toNatClampNeg)) (6) from (by rw [r0, vref hg1.1 (rfl : vRf 3 7 = [9])]; exact (vp_of (i := (xI h1 9 (kk).toNatClampNeg)) (n := 6) (by omega) (by omega) : vp_in ((xI h1 9 (kk).toNatClampNeg)) (6))))⟩
      rw [r0, vref hg1.1 (rfl : vRf 59 3 = [62]), vref hg1.1 (rfl : vRf 59 8 = [66]), vref hg1.1 (rfl : vRf 3 6 = [8]), vref hg1.1 (rfl : vRf 3 7 = [9])] at t2
      have t3 : XT l 1 23 false 66 153 6051 31 [xf 11 59, xi tr, xi kk, x3, x4] [] h1 31 [xf 11 59, xi tr, xi (kk + Int32.ofInt (1)), xi (xI h1 8 (kk).toNatClampNeg), xi (xI h1 9 (kk).toNatClampNeg)] [] (xsetI (xsetI (xsetI h1 62 (kk).toNatClampNeg (Int32.ofInt (0))) 66 ((xI h1 8 (kk).toNatClampNeg)).toNatClampNeg ((xI h1 66 ((xI h1 8 (kk).toNatClampNeg)).toNatClampNeg) + (xI (xsetI h1 62 (kk).toNatClampNeg (Int32.ofInt (0))) 62 (kk).toNatClampNeg))) 66 ((xI h1 9 (kk).toNatClampNeg)).toNatClampNeg ((xI (xsetI (xsetI h1 62 (kk).toNatClampNeg (Int32.ofInt (0))) 66 ((xI h1 8 (kk).toNatClampNeg)).toNatClampNeg ((xI h1 66 ((xI h1 8 (kk).toNatClampNeg)).toNatClampNeg) + (xI (xsetI h1 62 (kk).toNatClampNeg (Int32.ofInt (0))) 62 (kk).toNatClampNeg))) 66 ((xI h1 9 (kk).toNatClampNeg)).toNatClampNeg) + (xI (xsetI h1 62 (kk).toNatClampNeg (Int32.ofInt (0))) 62 (kk).toNatClampNeg))) := t2
      obtain ⟨hE, eE⟩ : ∃ x, x = (xsetI (xsetI (xsetI h1 62 (kk).toNatClampNeg (Int32.ofInt (0))) 66 ((xI h1 8 (kk).toNatClampNeg)).toNatClampNeg ((xI h1 66 ((xI h1 8 (kk).toNatClampNeg)).toNatClampNeg) + (xI (xsetI h1 62 (kk).toNatClampNeg (Int32.ofInt (0))) 62 (kk).toNatClampNeg))) 66 ((xI h1 9 (kk).toNatClampNeg)).toNatClampNeg ((xI (xsetI (xsetI h1 62 (kk).toNatClampNeg (Int32.ofInt (0))) 66 ((xI h1 8 (kk).toNatClampNeg)).toNatClampNeg ((xI h1 66 ((xI h1 8 (kk).toNatClampNeg)).toNatClampNeg) + (xI (xsetI h1 62 (kk).toNatClampNeg (Int32.ofInt (0))) 62 (kk).toNatClampNeg))) 66 ((xI h1 9 (kk).toNatClampNeg)).toNatClampNeg) + (xI (xsetI h1 62 (kk).toNatClampNeg (Int32.ofInt (0))) 62 (kk).toNatClampNeg))) := ⟨_, rfl⟩
      have eE2 : hE = xsetI (xsetI (xsetI h1 62 k (Int32.ofInt (0))) 66 A1 (xI h1 66 A1 + (Int32.ofInt (0)))) 66 A2 (xI h1 66 A2 + (Int32.ofInt (0))) := by
        rw [eE]
        rw [nk] at n1 n2
        simp only [nk, n1, n2]
        rw [show xI (xsetI (xsetI h1 62 k (Int32.ofInt (0))) 66 A1 (xI h1 66 A1 + xI (xsetI h1 62 k (Int32.ofInt (0))) 62 k)) 66 A2 = xI h1 66 A2 from (yI_ne (eq_false (fun z => by have := z.2; omega))).trans (yI_c (by decide)), show xI (xsetI h1 62 k (Int32.ofInt (0))) 62 k = (Int32.ofInt (0)) from yI_same]
      rw [← eE] at t3
      have GE : mQ [62, 66] h hE := by rw [eE2]; exact ((G.set (by decide) (by rw [vI_u rfl (rfl : vRow 62 = (0, 1))]; exact (by decide))).set (by decide) (by rw [vI_u rfl (rfl : vRow 66 = sfull)]; exact i32r_of _)).set (by decide) (by rw [vI_u rfl (rfl : vRow 66 = sfull)]; exact i32r_of _)
      have tk : ((Int32.ofInt (0))).toInt = (if zTr Z Y < zgp Z Y k then 1 else 0) := by rw [if_neg (by omega)]; rfl
      have J3 : ∀ j : Nat, j < k + 1 → (xI hE 62 j).toInt = (if zTr Z Y < zgp Z Y j then 1 else 0) := by
        intro j hj
        rw [eE2, yI_c (by decide), yI_c (by decide)]
        by_cases e : j = k
        · subst e; rw [yI_same]; exact tk
        · rw [yI_ne (eq_false (fun z => e z.2))]; exact I3 j (by omega)
      have J7 : ∀ r : Nat, (r : Int) < Z 0 → xI hE 66 r = zsum (fun j => if (Z (140 + j) = r ∨ Z (150 + j) = r) ∧ zTr Z Y < zgp Z Y j then Int32.ofInt (1) else Int32.ofInt (0)) (k + 1) := by
        intro r hr
        by_cases e1 : r = A1
        · have e2 : ¬ r = A2 := by omega
          rw [eE2, yI_ne (eq_false (fun z => e2 z.2)), e1, yI_same]
          rw [e1] at hr
          exact zsum_n (v := (Int32.ofInt (0))) (I7 A1 hr) (if_neg (fun y => by have := y.2; omega))
        · by_cases e2 : r = A2
          · rw [eE2, e2, yI_same]
            rw [e2] at hr
            exact zsum_n (v := (Int32.ofInt (0))) (I7 A2 hr) (if_neg (fun y => by have := y.2; omega))
          · rw [eE2, yI_ne (eq_false (fun z => e2 z.2)), yI_ne (eq_false (fun z => e1 z.2)), yI_c (by decide)]
            exact zsum_m (I7 r hr) (if_neg (fun y => by have := y.1; omega))
      obtain ⟨k3, y3, y4, h9, t9, G9, I9, I10⟩ := ck_tearL59_3 l Z Y tr h hg A kt kw V ht m (k + 1) (kk + Int32.ofInt (1)) (xi (xI h1 8 (kk).toNatClampNeg)) (xi (xI h1 9 (kk).toNatClampNeg)) hE GE (by omega) (by omega) J3 J7
      exact ⟨k3, y3, y4, h9, t3.tr t9, G9, I9, I10⟩
    · have e_0 : (0 : Int32).toInt = 0 := rfl
      have cb1r := cb1
      rw [vref hg1.1 (rfl : vRf 59 1 = [60]), r0, vref hg1.1 (rfl : vRf 3 6 = [8]), vref hg1.1 (rfl : vRf 3 7 = [9])] at cb1r
      have dcb1 : (tr).toInt < (if (0 : Int32) ≤ ((xI h1 60 ((xI h1 8 (kk).toNatClampNeg)).toNatClampNeg) - (xI h1 60 ((xI h1 9 (kk).toNatClampNeg)).toNatClampNeg)) then ((xI h1 60 ((xI h1 8 (kk).toNatClampNeg)).toNatClampNeg) - (xI h1 60 ((xI h1 9 (kk).toNatClampNeg)).toNatClampNeg)) else (0 : Int32) - ((xI h1 60 ((xI h1 8 (kk).toNatClampNeg)).toNatClampNeg) - (xI h1 60 ((xI h1 9 (kk).toNatClampNeg)).toNatClampNeg))).toInt := Int32.lt_iff_toInt_lt.mp (Int32.not_le.mp cb1r)
      have t4 : XT l 1 23 false 66 153 6051 31 [xf 11 59, xi tr, xi kk, x3, x4] [] h1 31 [xf 11 59, xi tr, xi (kk + Int32.ofInt (1)), xi (xI h1 (xR h1 (xR h1 59 0) 6) (kk).toNatClampNeg), xi (xI h1 (xR h1 (xR h1 59 0) 7) (kk).toNatClampNeg)] [] (xsetI (xsetI (xsetI h1 (xR h1 59 3) (kk).toNatClampNeg (Int32.ofInt (1))) (xR h1 59 8) ((xI h1 (xR h1 (xR h1 59 0) 6) (kk).toNatClampNeg)).toNatClampNeg ((xI (xsetI h1 (xR h1 59 3) (kk).toNatClampNeg (Int32.ofInt (1))) (xR h1 59 8) ((xI h1 (xR h1 (xR h1 59 0) 6) (kk).toNatClampNeg)).toNatClampNeg) + (xI (xsetI h1 (xR h1 59 3) (kk).toNatClampNeg (Int32.ofInt (1))) (xR h1 59 3) (kk).toNatClampNeg))) (xR h1 59 8) ((xI h1 (xR h1 (xR h1 59 0) 7) (kk).toNatClampNeg)).toNatClampNeg ((xI (xsetI (xsetI h1 (xR h1 59 3) (kk).toNatClampNeg (Int32.ofInt (1))) (xR h1 59 8) ((xI h1 (xR h1 (xR h1 59 0) 6) (kk).toNatClampNeg)).toNatClampNeg ((xI (xsetI h1 (xR h1 59 3) (kk).toNatClampNeg (Int32.ofInt (1))) (xR h1 59 8) ((xI h1 (xR h1 (xR h1 59 0) 6) (kk).toNatClampNeg)).toNatClampNeg) + (xI (xsetI h1 (xR h1 59 3) (kk).toNatClampNeg (Int32.ofInt (1))) (xR h1 59 3) (kk).toNatClampNeg))) (xR h1 59 8) ((xI h1 (xR h1 (xR h1 59 0) 7) (kk).toNatClampNeg)).toNatClampNeg) + (xI (xsetI (xsetI h1 (xR h1 59 3) (kk).toNatClampNeg (Int32.ofInt (1))) (xR h1 59 8) ((xI h1 (xR h1 (xR h1 59 0) 6) (kk).toNatClampNeg)).toNatClampNeg ((xI (xsetI h1 (xR h1 59 3) (kk).toNatClampNeg (Int32.ofInt (1))) (xR h1 59 8) ((xI h1 (xR h1 (xR h1 59 0) 6) (kk).toNatClampNeg)).toNatClampNeg) + (xI (xsetI h1 (xR h1 59 3) (kk).toNatClampNeg (Int32.ofInt (1))) (xR h1 59 3) (kk).toNatClampNeg))) (xR h1 59 3) (kk).toNatClampNeg))) := XT_path (l := l) (fr := 1) (lo := 23) (full := false) (M := 66) (n := 153) (u := 6051) (pc := 31) (L := [xf 11 59, xi tr, xi kk, x3, x4]) (st := []) (h := h1) (inl := []) (n' := 120) (sp := [31]) (o := [0, 0]) rfl rfl ⟨rfl, rfl, rfl⟩ rfl ⟨Nat.le_of_eq hg1.2.2.2.1, Nat.le_of_eq hg1.2.2.2.2⟩ ⟨⟨⟨⟨⟨⟨⟨⟨⟨⟨⟨⟨⟨⟨⟨⟨⟨⟨⟨⟨⟨⟨⟨⟨⟨trivial, (show ¬ xR h1 59 0 = 0 from by rw [r0]; decide)⟩, (show ¬ (xI h1 (xR h1 59 0) 5) ≤ kk from by rw [r0]; exact fun z => absurd (Int32.le_iff_toInt_le.mp z) (by omega))⟩, (show ¬ xR h1 59 0 = 0 from by rw [r0]; decide)⟩, (show ¬ xR h1 (xR h1 59 0) 6 = 0 from by rw [r0]; exact vnn hg1.1 (rfl : vRf 3 6 = [8]) (by decide))⟩, (vp_of (i := kk) (n := 9) (by omega) (by omega))⟩, (show ¬ xR h1 59 0 = 0 from by rw [r0]; decide)⟩, (show ¬ xR h1 (xR h1 59 0) 7 = 0 from by rw [r0]; exact vnn hg1.1 (rfl : vRf 3 7 = [9]) (by decide))⟩, (vp_of (i := kk) (n := 9) (by omega) (by omega))⟩, (vnn hg1.1 (rfl : vRf 59 3 = [62]) (by decide))⟩, (vnn hg1.1 (rfl : vRf 59 1 = [60]) (by decide))⟩, (show vp_in ((xI h1 (xR h1 (xR h1 59 0) 6) (kk).toNatClampNeg)) (6) from (by rw [r0, vref hg1.1 (rfl : vRf 3 6 = [8])]; exact (vp_of (i := (xI h1 8 (kk).toNatClampNeg)) (n := 6) (by omega) (by omega) : vp_in ((xI h1 8 (kk).toNatClampNeg)) (6))))⟩, (vnn hg1.1 (rfl : vRf 59 1 = [60]) (by decide))⟩, (show vp_in ((xI h1 (xR h1 (xR h1 59 0) 7) (kk).toNatClampNeg)) (6) from (by rw [r0, vref hg1.1 (rfl : vRf 3 7 = [9])]; exact (vp_of (i := (xI h1 9 (kk).toNatClampNeg)) (n := 6) (by omega) (by omega) : vp_in ((xI h1 9 (kk).toNatClampNeg)) (6))))⟩, cb1⟩, (vp_of (i := kk) (n := 9) (by omega) (by omega))⟩, (vnn hg1.1 (rfl : vRf 59 8 = [66]) (by decide))⟩, (show vp_in ((xI h1 (xR h1 (xR h1 59 0) 6) (kk).toNatClampNeg)) (6) from (by rw [r0, vref hg1.1 (rfl : vRf 3 6 = [8])]; exact (vp_of (i := (xI h1 8 (kk).toNatClampNeg)) (n := 6) (by omega) (by omega) : vp_in ((xI h1 8 (kk).toNatClampNeg)) (6))))⟩, (vnn hg1.1 (rfl : vRf 59 3 = [62]) (by decide))⟩, (vp_of (i := kk) (n := 9) (by omega) (by omega))⟩, (show vp_in ((xI h1 (xR h1 (xR h1 59 0) 6) (kk).toNatClampNeg)) (6) from (by rw [r0, vref hg1.1 (rfl : vRf 3 6 = [8])]; exact (vp_of (i := (xI h1 8 (kk).toNatClampNeg)) (n := 6) (by omega) (by omega) : vp_in ((xI h1 8 (kk).toNatClampNeg)) (6))))⟩, (vnn hg1.1 (rfl : vRf 59 8 = [66]) (by decide))⟩, (show vp_in ((xI h1 (xR h1 (xR h1 59 0) 7) (kk).toNatClampNeg)) (6) from (by rw [r0, vref hg1.1 (rfl : vRf 3 7 = [9])]; exact (vp_of (i := (xI h1 9 (kk).toNatClampNeg)) (n := 6) (by omega) (by omega) : vp_in ((xI h1 9 (kk).toNatClampNeg)) (6))))⟩, (vnn hg1.1 (rfl : vRf 59 3 = [62]) (by decide))⟩, (vp_of (i := kk) (n := 9) (by omega) (by omega))⟩, (show vp_in ((xI h1 (xR h1 (xR h1 59 0) 7) (kk).toNatClampNeg)) (6) from (by rw [r0, vref hg1.1 (rfl : vRf 3 7 = [9])]; exact (vp_of (i := (xI h1 9 (kk).toNatClampNeg)) (n := 6) (by omega) (by omega) : vp_in ((xI h1 9 (kk).toNatClampNeg)) (6))))⟩
      rw [r0, vref hg1.1 (rfl : vRf 59 3 = [62]), vref hg1.1 (rfl : vRf 59 8 = [66]), vref hg1.1 (rfl : vRf 3 6 = [8]), vref hg1.1 (rfl : vRf 3 7 = [9])] at t4
      have t5 : XT l 1 23 false 66 153 6051 31 [xf 11 59, xi tr, xi kk, x3, x4] [] h1 31 [xf 11 59, xi tr, xi (kk + Int32.ofInt (1)), xi (xI h1 8 (kk).toNatClampNeg), xi (xI h1 9 (kk).toNatClampNeg)] [] (xsetI (xsetI (xsetI h1 62 (kk).toNatClampNeg (Int32.ofInt (1))) 66 ((xI h1 8 (kk).toNatClampNeg)).toNatClampNeg ((xI h1 66 ((xI h1 8 (kk).toNatClampNeg)).toNatClampNeg) + (xI (xsetI h1 62 (kk).toNatClampNeg (Int32.ofInt (1))) 62 (kk).toNatClampNeg))) 66 ((xI h1 9 (kk).toNatClampNeg)).toNatClampNeg ((xI (xsetI (xsetI h1 62 (kk).toNatClampNeg (Int32.ofInt (1))) 66 ((xI h1 8 (kk).toNatClampNeg)).toNatClampNeg ((xI h1 66 ((xI h1 8 (kk).toNatClampNeg)).toNatClampNeg) + (xI (xsetI h1 62 (kk).toNatClampNeg (Int32.ofInt (1))) 62 (kk).toNatClampNeg))) 66 ((xI h1 9 (kk).toNatClampNeg)).toNatClampNeg) + (xI (xsetI h1 62 (kk).toNatClampNeg (Int32.ofInt (1))) 62 (kk).toNatClampNeg))) := t4
      obtain ⟨hE, eE⟩ : ∃ x, x = (xsetI (xsetI (xsetI h1 62 (kk).toNatClampNeg (Int32.ofInt (1))) 66 ((xI h1 8 (kk).toNatClampNeg)).toNatClampNeg ((xI h1 66 ((xI h1 8 (kk).toNatClampNeg)).toNatClampNeg) + (xI (xsetI h1 62 (kk).toNatClampNeg (Int32.ofInt (1))) 62 (kk).toNatClampNeg))) 66 ((xI h1 9 (kk).toNatClampNeg)).toNatClampNeg ((xI (xsetI (xsetI h1 62 (kk).toNatClampNeg (Int32.ofInt (1))) 66 ((xI h1 8 (kk).toNatClampNeg)).toNatClampNeg ((xI h1 66 ((xI h1 8 (kk).toNatClampNeg)).toNatClampNeg) + (xI (xsetI h1 62 (kk).toNatClampNeg (Int32.ofInt (1))) 62 (kk).toNatClampNeg))) 66 ((xI h1 9 (kk).toNatClampNeg)).toNatClampNeg) + (xI (xsetI h1 62 (kk).toNatClampNeg (Int32.ofInt (1))) 62 (kk).toNatClampNeg))) := ⟨_, rfl⟩
      have eE2 : hE = xsetI (xsetI (xsetI h1 62 k (Int32.ofInt (1))) 66 A1 (xI h1 66 A1 + (Int32.ofInt (1)))) 66 A2 (xI h1 66 A2 + (Int32.ofInt (1))) := by
        rw [eE]
        rw [nk] at n1 n2
        simp only [nk, n1, n2]
        rw [show xI (xsetI (xsetI h1 62 k (Int32.ofInt (1))) 66 A1 (xI h1 66 A1 + xI (xsetI h1 62 k (Int32.ofInt (1))) 62 k)) 66 A2 = xI h1 66 A2 from (yI_ne (eq_false (fun z => by have := z.2; omega))).trans (yI_c (by decide)), show xI (xsetI h1 62 k (Int32.ofInt (1))) 62 k = (Int32.ofInt (1)) from yI_same]
      rw [← eE] at t5
      have GE : mQ [62, 66] h hE := by rw [eE2]; exact ((G.set (by decide) (by rw [vI_u rfl (rfl : vRow 62 = (0, 1))]; exact (by decide))).set (by decide) (by rw [vI_u rfl (rfl : vRow 66 = sfull)]; exact i32r_of _)).set (by decide) (by rw [vI_u rfl (rfl : vRow 66 = sfull)]; exact i32r_of _)
      have tk : ((Int32.ofInt (1))).toInt = (if zTr Z Y < zgp Z Y k then 1 else 0) := by rw [if_pos (by omega)]; rfl
      have J3 : ∀ j : Nat, j < k + 1 → (xI hE 62 j).toInt = (if zTr Z Y < zgp Z Y j then 1 else 0) := by
        intro j hj
        rw [eE2, yI_c (by decide), yI_c (by decide)]
        by_cases e : j = k
        · subst e; rw [yI_same]; exact tk
        · rw [yI_ne (eq_false (fun z => e z.2))]; exact I3 j (by omega)
      have J7 : ∀ r : Nat, (r : Int) < Z 0 → xI hE 66 r = zsum (fun j => if (Z (140 + j) = r ∨ Z (150 + j) = r) ∧ zTr Z Y < zgp Z Y j then Int32.ofInt (1) else Int32.ofInt (0)) (k + 1) := by
        intro r hr
        by_cases e1 : r = A1
        · have e2 : ¬ r = A2 := by omega
          rw [eE2, yI_ne (eq_false (fun z => e2 z.2)), e1, yI_same]
          rw [e1] at hr
          exact zsum_n (v := (Int32.ofInt (1))) (I7 A1 hr) (if_pos ⟨by omega, by omega⟩)
        · by_cases e2 : r = A2
          · rw [eE2, e2, yI_same]
            rw [e2] at hr
            exact zsum_n (v := (Int32.ofInt (1))) (I7 A2 hr) (if_pos ⟨by omega, by omega⟩)
          · rw [eE2, yI_ne (eq_false (fun z => e2 z.2)), yI_ne (eq_false (fun z => e1 z.2)), yI_c (by decide)]
            exact zsum_m (I7 r hr) (if_neg (fun y => by have := y.1; omega))
      obtain ⟨k3, y3, y4, h9, t9, G9, I9, I10⟩ := ck_tearL59_3 l Z Y tr h hg A kt kw V ht m (k + 1) (kk + Int32.ofInt (1)) (xi (xI h1 8 (kk).toNatClampNeg)) (xi (xI h1 9 (kk).toNatClampNeg)) hE GE (by omega) (by omega) J3 J7
      exact ⟨k3, y3, y4, h9, t5.tr t9, G9, I9, I10⟩
set_option maxRecDepth 100000 in
set_option maxHeartbeats 4000000 in
theorem ck_tear59_3 (l : Launch) (Z : Nat → Int) (Y : Nat → Int32) (h : XH) (hg : mI h) (A : zAll Z) (kt : kTx 3 Z h) (kw : kW 59 3 Z Y h) (V : zVd Z Y) : ∃ h', CX l 1 23 false 66 [xf 11 59] h [] h' ∧ mQ [62, 66] h h' ∧ kD 59 Z Y h' := by
  obtain ⟨⟨⟨B00, B01⟩, ⟨B10, B11⟩, ⟨B20, B21⟩, B30, B31⟩, g6, zj, zv, LW⟩ := id A
  have r0 : xR h 59 0 = 3 := kw.2.2.2.2.2
  have emo : (xI h 59 10).toInt = (Y 51).toInt := congrArg Int32.toInt kw.2.2.2.1
  have ete : (xI h 3 18).toInt = Z 5 := kt.1.2.1
  by_cases cb1 : (xI h 59 10) = (Int32.ofInt (3))
  · have e_3 : (Int32.ofInt (3)).toInt = 3 := rfl
    have dcb1 : (xI h 59 10).toInt = (Int32.ofInt (3)).toInt := congrArg Int32.toInt cb1
    have t2 : XT l 1 23 false 66 153 6051 0 [xf 11 59, xun, xun, xun, xun] [] h 26 [xf 11 59, xi (Int32.ofInt (8)), xun, xun, xun] [xi (Int32.ofInt (0)), xf 10006 (xR h 59 8)] h := XT_path (l := l) (fr := 1) (lo := 23) (full := false) (M := 66) (n := 153) (u := 6051) (pc := 0) (L := [xf 11 59, xun, xun, xun, xun]) (st := []) (h := h) (inl := []) (n' := 120) (sp := [26]) (o := [0]) rfl rfl ⟨rfl, rfl, rfl⟩ rfl ⟨Nat.le_of_eq hg.2.2.2.1, Nat.le_of_eq hg.2.2.2.2⟩ ⟨⟨trivial, cb1⟩, (vnn hg.1 (rfl : vRf 59 8 = [66]) (by decide))⟩
    rw [vref hg.1 (rfl : vRf 59 8 = [66])] at t2
    obtain ⟨h1, c1, G1, z1⟩ := cm_fill66 l h hg
    have r1 : xR h1 59 0 = 3 := (G1.2.2 59 0).trans r0
    have t3 : XT l 1 23 false 66 153 6051 26 [xf 11 59, xi (Int32.ofInt (8)), xun, xun, xun] [xi (Int32.ofInt (0)), xf 10006 66] h 29 [xf 11 59, xi (Int32.ofInt (8)), xun, xun, xun] [] h1 := XT_call (l := l) (fr := 1) (lo := 23) (full := false) (M := 66) (n := 153) (u := 6051) (pc := 26) (L := [xf 11 59, xi (Int32.ofInt (8)), xun, xun, xun]) (st := [xi (Int32.ofInt (0)), xf 10006 66]) (h := h) (i := .invokestatic 5) (aux := 2) (nx := 29) (K := 5) (vs := [xf 10006 66, xi (Int32.ofInt (0))]) (rs := []) (rest := []) rfl rfl rfl rfl rfl rfl c1 (by decide) (by decide) (Nat.le_of_ble_eq_true rfl) ⟨Nat.le_of_eq G1.1.2.2.2.1, Nat.le_of_eq G1.1.2.2.2.2⟩
    have t4 := t2.tr t3
    have t5 : XT l 1 23 false 66 153 6051 29 [xf 11 59, xi (Int32.ofInt (8)), xun, xun, xun] [] h1 31 [xf 11 59, xi (Int32.ofInt (8)), xi (Int32.ofInt (0)), xun, xun] [] h1 := XT_path (l := l) (fr := 1) (lo := 23) (full := false) (M := 66) (n := 153) (u := 6051) (pc := 29) (L := [xf 11 59, xi (Int32.ofInt (8)), xun, xun, xun]) (st := []) (h := h1) (inl := []) (n' := 120) (sp := [31]) (o := []) rfl rfl ⟨rfl, rfl, rfl⟩ rfl ⟨Nat.le_of_eq G1.1.2.2.2.1, Nat.le_of_eq G1.1.2.2.2.2⟩ trivial
    have t6 := t4.tr t5
    have et : ((Int32.ofInt (8))).toInt = zTr Z Y := by unfold zTr; rw [if_pos (by have e3 : ((Int32.ofInt (3))).toInt = 3 := rfl; omega)]; rfl
    obtain ⟨k2, y3, y4, h2, t2, G2, I3, I7⟩ := ck_tearL59_3 l Z Y (Int32.ofInt (8)) h hg A kt kw V et (Z 1).toNat 0 (Int32.ofInt (0)) (xun) (xun) h1 (G1.mono (by decide)) rfl (by omega) (fun j hj => by omega) (fun r hr => z1 r (by omega))
    have T2 := t6.tr t2
    exact ⟨h2, CX_ofT (h' := h2) (by decide) rfl rfl trivial ⟨_, _, _, rfl, rfl, rfl⟩ rfl ⟨Nat.le_of_eq G2.1.2.2.2.1.symm, Nat.le_of_eq G2.1.2.2.2.2.symm⟩ T2, G2, fun j hj => I3 j (by omega), fun r hr => I7 r hr⟩
  · have e_3 : (Int32.ofInt (3)).toInt = 3 := rfl
    have dcb1 : ¬ (xI h 59 10).toInt = (Int32.ofInt (3)).toInt := fun z_ => cb1 (Int32.toInt_inj.mp z_)
    have t7 : XT l 1 23 false 66 153 6051 0 [xf 11 59, xun, xun, xun, xun] [] h 26 [xf 11 59, xi (xI h (xR h 59 0) 18), xun, xun, xun] [xi (Int32.ofInt (0)), xf 10006 (xR h 59 8)] h := XT_path (l := l) (fr := 1) (lo := 23) (full := false) (M := 66) (n := 153) (u := 6051) (pc := 0) (L := [xf 11 59, xun, xun, xun, xun]) (st := []) (h := h) (inl := []) (n' := 120) (sp := [26]) (o := [1]) rfl rfl ⟨rfl, rfl, rfl⟩ rfl ⟨Nat.le_of_eq hg.2.2.2.1, Nat.le_of_eq hg.2.2.2.2⟩ ⟨⟨⟨trivial, cb1⟩, (show ¬ xR h 59 0 = 0 from by rw [r0]; decide)⟩, (vnn hg.1 (rfl : vRf 59 8 = [66]) (by decide))⟩
    rw [r0, vref hg.1 (rfl : vRf 59 8 = [66])] at t7
    obtain ⟨h1, c1, G1, z1⟩ := cm_fill66 l h hg
    have r1 : xR h1 59 0 = 3 := (G1.2.2 59 0).trans r0
    have t8 : XT l 1 23 false 66 153 6051 26 [xf 11 59, xi (xI h 3 18), xun, xun, xun] [xi (Int32.ofInt (0)), xf 10006 66] h 29 [xf 11 59, xi (xI h 3 18), xun, xun, xun] [] h1 := XT_call (l := l) (fr := 1) (lo := 23) (full := false) (M := 66) (n := 153) (u := 6051) (pc := 26) (L := [xf 11 59, xi (xI h 3 18), xun, xun, xun]) (st := [xi (Int32.ofInt (0)), xf 10006 66]) (h := h) (i := .invokestatic 5) (aux := 2) (nx := 29) (K := 5) (vs := [xf 10006 66, xi (Int32.ofInt (0))]) (rs := []) (rest := []) rfl rfl rfl rfl rfl rfl c1 (by decide) (by decide) (Nat.le_of_ble_eq_true rfl) ⟨Nat.le_of_eq G1.1.2.2.2.1, Nat.le_of_eq G1.1.2.2.2.2⟩
    have t9 := t7.tr t8
    have t10 : XT l 1 23 false 66 153 6051 29 [xf 11 59, xi (xI h 3 18), xun, xun, xun] [] h1 31 [xf 11 59, xi (xI h 3 18), xi (Int32.ofInt (0)), xun, xun] [] h1 := XT_path (l := l) (fr := 1) (lo := 23) (full := false) (M := 66) (n := 153) (u := 6051) (pc := 29) (L := [xf 11 59, xi (xI h 3 18), xun, xun, xun]) (st := []) (h := h1) (inl := []) (n' := 120) (sp := [31]) (o := []) rfl rfl ⟨rfl, rfl, rfl⟩ rfl ⟨Nat.le_of_eq G1.1.2.2.2.1, Nat.le_of_eq G1.1.2.2.2.2⟩ trivial
    have t11 := t9.tr t10
    have et : ((xI h 3 18)).toInt = zTr Z Y := by unfold zTr; rw [if_neg (by have e3 : ((Int32.ofInt (3))).toInt = 3 := rfl; omega)]; exact ete
    obtain ⟨k2, y3, y4, h2, t2, G2, I3, I7⟩ := ck_tearL59_3 l Z Y (xI h 3 18) h hg A kt kw V et (Z 1).toNat 0 (Int32.ofInt (0)) (xun) (xun) h1 (G1.mono (by decide)) rfl (by omega) (fun j hj => by omega) (fun r hr => z1 r (by omega))
    have T2 := t11.tr t2
    exact ⟨h2, CX_ofT (h' := h2) (by decide) rfl rfl trivial ⟨_, _, _, rfl, rfl, rfl⟩ rfl ⟨Nat.le_of_eq G2.1.2.2.2.1.symm, Nat.le_of_eq G2.1.2.2.2.2.symm⟩ T2, G2, fun j hj => I3 j (by omega), fun r hr => I7 r hr⟩
set_option maxRecDepth 100000 in
set_option maxHeartbeats 4000000 in
theorem ck_tearL59_24 (l : Launch) (Z : Nat → Int) (Y : Nat → Int32) (tr : Int32) (h : XH) (hg : mI h) (A : zAll Z) (kt : kTx 24 Z h) (kw : kW 59 24 Z Y h) (V : zVd Z Y) (ht : tr.toInt = zTr Z Y) : ∀ (m k : Nat) (kk : Int32) (x3 x4 : XV) (h1 : XH), mQ [62, 66] h h1 → kk.toInt = k → (k : Int) + m = Z 1 → (∀ j : Nat, j < k → (xI h1 62 j).toInt = (if zTr Z Y < zgp Z Y j then 1 else 0)) → (∀ r : Nat, (r : Int) < Z 0 → xI h1 66 r = zsum (fun j => if (Z (140 + j) = r ∨ Z (150 + j) = r) ∧ zTr Z Y < zgp Z Y j then Int32.ofInt (1) else Int32.ofInt (0)) k) → ∃ k2 y3 y4 h2, XT l 1 23 false 66 153 6051 31 [xf 11 59, xi tr, xi kk, x3, x4] [] h1 132 [xf 11 59, xi tr, xi k2, y3, y4] [] h2 ∧ mQ [62, 66] h h2 ∧ (∀ j : Nat, j < (Z 1).toNat → (xI h2 62 j).toInt = (if zTr Z Y < zgp Z Y j then 1 else 0)) ∧ (∀ r : Nat, (r : Int) < Z 0 → xI h2 66 r = zsum (fun j => if (Z (140 + j) = r ∨ Z (150 + j) = r) ∧ zTr Z Y < zgp Z Y j then Int32.ofInt (1) else Int32.ofInt (0)) (Z 1).toNat)
  | 0, k, kk, x3, x4, h1, G, hk, hm, I3, I7 => by
    obtain ⟨⟨⟨B00, B01⟩, ⟨B10, B11⟩, ⟨B20, B21⟩, B30, B31⟩, g6, zj, zv, LW⟩ := id A
    have r0 : xR h1 59 0 = 24 := (G.2.2 59 0).trans kw.2.2.2.2.2
    have hg1 := G.1
    have ej : (xI h1 24 5).toInt = Z 1 := by rw [G.2.1 24 5 (by decide)]; exact kt.1.1 1 (by decide)
    have t1 : XT l 1 23 false 66 153 6051 31 [xf 11 59, xi tr, xi kk, x3, x4] [] h1 132 [xf 11 59, xi tr, xi kk, x3, x4] [] h1 := XT_path (l := l) (fr := 1) (lo := 23) (full := false) (M := 66) (n := 153) (u := 6051) (pc := 31) (L := [xf 11 59, xi tr, xi kk, x3, x4]) (st := []) (h := h1) (inl := []) (n' := 120) (sp := [132]) (o := [1]) rfl rfl ⟨rfl, rfl, rfl⟩ rfl ⟨Nat.le_of_eq hg1.2.2.2.1, Nat.le_of_eq hg1.2.2.2.2⟩ ⟨⟨trivial, (show ¬ xR h1 59 0 = 0 from by rw [r0]; decide)⟩, (show (xI h1 (xR h1 59 0) 5) ≤ kk from by rw [r0]; exact Int32.le_iff_toInt_le.mpr (by omega))⟩
    obtain rfl : k = (Z 1).toNat := by omega
    exact ⟨kk, x3, x4, h1, t1, G, I3, I7⟩
  | m + 1, k, kk, x3, x4, h1, G, hk, hm, I3, I7 => by
    obtain ⟨⟨⟨B00, B01⟩, ⟨B10, B11⟩, ⟨B20, B21⟩, B30, B31⟩, g6, zj, zv, LW⟩ := id A
    have r0 : xR h1 59 0 = 24 := (G.2.2 59 0).trans kw.2.2.2.2.2
    have hg1 := G.1
    have ej : (xI h1 24 5).toInt = Z 1 := by rw [G.2.1 24 5 (by decide)]; exact kt.1.1 1 (by decide)
    have lk : (k : Int) < Z 1 := by omega
    have nk : kk.toNatClampNeg = k := zi_ix hk
    have sk := y_suc1 (k := kk) (by omega) (by omega)
    obtain ⟨⟨o1, o2⟩, ⟨o3, o4⟩, -⟩ := zv.2.1 k lk
    have one := zj k lk
    obtain ⟨A1, hA1⟩ : ∃ n : Nat, n = (Z (140 + k)).toNat := ⟨_, rfl⟩
    obtain ⟨A2, hA2⟩ : ∃ n : Nat, n = (Z (150 + k)).toNat := ⟨_, rfl⟩
    have k1 : (xI h1 29 kk.toNatClampNeg).toInt = A1 := by rw [nk, G.2.1 29 k (by decide)]; exact (show (xI h 29 k).toInt = Z (140 + k) from kt.1.2.2 4 k (by decide) lk).trans (by omega)
    have k2 : (xI h1 30 kk.toNatClampNeg).toInt = A2 := by rw [nk, G.2.1 30 k (by decide)]; exact (show (xI h 30 k).toInt = Z (150 + k) from kt.1.2.2 5 k (by decide) lk).trans (by omega)
    have n1 : (xI h1 29 kk.toNatClampNeg).toNatClampNeg = A1 := zi_ix k1
    have n2 : (xI h1 30 kk.toNatClampNeg).toNatClampNeg = A2 := zi_ix k2
    have s1 : (xI h1 60 (xI h1 29 kk.toNatClampNeg).toNatClampNeg).toInt = (Y A1).toInt := by rw [n1, G.2.1 60 A1 (by decide)]; exact congrArg Int32.toInt (kw.1 A1 (by omega))
    have s2 : (xI h1 60 (xI h1 30 kk.toNatClampNeg).toNatClampNeg).toInt = (Y A2).toInt := by rw [n2, G.2.1 60 A2 (by decide)]; exact congrArg Int32.toInt (kw.1 A2 (by omega))
    have v1 := V.1 A1 (by omega)
    have v2 := V.1 A2 (by omega)
    have sd : ((xI h1 60 (xI h1 29 kk.toNatClampNeg).toNatClampNeg) - (xI h1 60 (xI h1 30 kk.toNatClampNeg).toNatClampNeg)).toInt = (Y A1).toInt - (Y A2).toInt := by rw [y_subb (by omega) (by omega), s1, s2]
    have sa := y_abs (x := (xI h1 60 (xI h1 29 kk.toNatClampNeg).toNatClampNeg) - (xI h1 60 (xI h1 30 kk.toNatClampNeg).toNatClampNeg)) (by omega)
    rw [sd] at sa
    have eg : zgp Z Y k = ((((Y A1).toInt - (Y A2).toInt).natAbs : Nat) : Int) := by unfold zgp; rw [← hA1, ← hA2]
    have ez : (0 : Int32).toInt = 0 := rfl
    by_cases cb1 : (if (0 : Int32) ≤ ((xI h1 (xR h1 59 1) ((xI h1 (xR h1 (xR h1 59 0) 6) (kk).toNatClampNeg)).toNatClampNeg) - (xI h1 (xR h1 59 1) ((xI h1 (xR h1 (xR h1 59 0) 7) (kk).toNatClampNeg)).toNatClampNeg)) then ((xI h1 (xR h1 59 1) ((xI h1 (xR h1 (xR h1 59 0) 6) (kk).toNatClampNeg)).toNatClampNeg) - (xI h1 (xR h1 59 1) ((xI h1 (xR h1 (xR h1 59 0) 7) (kk).toNatClampNeg)).toNatClampNeg)) else (0 : Int32) - ((xI h1 (xR h1 59 1) ((xI h1 (xR h1 (xR h1 59 0) 6) (kk).toNatClampNeg)).toNatClampNeg) - (xI h1 (xR h1 59 1) ((xI h1 (xR h1 (xR h1 59 0) 7) (kk).toNatClampNeg)).toNatClampNeg))) ≤ tr
    · have e_0 : (0 : Int32).toInt = 0 := rfl
      have cb1r := cb1
      rw [vref hg1.1 (rfl : vRf 59 1 = [60]), r0, vref hg1.1 (rfl : vRf 24 6 = [29]), vref hg1.1 (rfl : vRf 24 7 = [30])] at cb1r
      have dcb1 : (if (0 : Int32) ≤ ((xI h1 60 ((xI h1 29 (kk).toNatClampNeg)).toNatClampNeg) - (xI h1 60 ((xI h1 30 (kk).toNatClampNeg)).toNatClampNeg)) then ((xI h1 60 ((xI h1 29 (kk).toNatClampNeg)).toNatClampNeg) - (xI h1 60 ((xI h1 30 (kk).toNatClampNeg)).toNatClampNeg)) else (0 : Int32) - ((xI h1 60 ((xI h1 29 (kk).toNatClampNeg)).toNatClampNeg) - (xI h1 60 ((xI h1 30 (kk).toNatClampNeg)).toNatClampNeg))).toInt ≤ (tr).toInt := Int32.le_iff_toInt_le.mp cb1r
      have t2 : XT l 1 23 false 66 153 6051 31 [xf 11 59, xi tr, xi kk, x3, x4] [] h1 31 [xf 11 59, xi tr, xi (kk + Int32.ofInt (1)), xi (xI h1 (xR h1 (xR h1 59 0) 6) (kk).toNatClampNeg), xi (xI h1 (xR h1 (xR h1 59 0) 7) (kk).toNatClampNeg)] [] (xsetI (xsetI (xsetI h1 (xR h1 59 3) (kk).toNatClampNeg (Int32.ofInt (0))) (xR h1 59 8) ((xI h1 (xR h1 (xR h1 59 0) 6) (kk).toNatClampNeg)).toNatClampNeg ((xI (xsetI h1 (xR h1 59 3) (kk).toNatClampNeg (Int32.ofInt (0))) (xR h1 59 8) ((xI h1 (xR h1 (xR h1 59 0) 6) (kk).toNatClampNeg)).toNatClampNeg) + (xI (xsetI h1 (xR h1 59 3) (kk).toNatClampNeg (Int32.ofInt (0))) (xR h1 59 3) (kk).toNatClampNeg))) (xR h1 59 8) ((xI h1 (xR h1 (xR h1 59 0) 7) (kk).toNatClampNeg)).toNatClampNeg ((xI (xsetI (xsetI h1 (xR h1 59 3) (kk).toNatClampNeg (Int32.ofInt (0))) (xR h1 59 8) ((xI h1 (xR h1 (xR h1 59 0) 6) (kk).toNatClampNeg)).toNatClampNeg ((xI (xsetI h1 (xR h1 59 3) (kk).toNatClampNeg (Int32.ofInt (0))) (xR h1 59 8) ((xI h1 (xR h1 (xR h1 59 0) 6) (kk).toNatClampNeg)).toNatClampNeg) + (xI (xsetI h1 (xR h1 59 3) (kk).toNatClampNeg (Int32.ofInt (0))) (xR h1 59 3) (kk).toNatClampNeg))) (xR h1 59 8) ((xI h1 (xR h1 (xR h1 59 0) 7) (kk).toNatClampNeg)).toNatClampNeg) + (xI (xsetI (xsetI h1 (xR h1 59 3) (kk).toNatClampNeg (Int32.ofInt (0))) (xR h1 59 8) ((xI h1 (xR h1 (xR h1 59 0) 6) (kk).toNatClampNeg)).toNatClampNeg ((xI (xsetI h1 (xR h1 59 3) (kk).toNatClampNeg (Int32.ofInt (0))) (xR h1 59 8) ((xI h1 (xR h1 (xR h1 59 0) 6) (kk).toNatClampNeg)).toNatClampNeg) + (xI (xsetI h1 (xR h1 59 3) (kk).toNatClampNeg (Int32.ofInt (0))) (xR h1 59 3) (kk).toNatClampNeg))) (xR h1 59 3) (kk).toNatClampNeg))) := XT_path (l := l) (fr := 1) (lo := 23) (full := false) (M := 66) (n := 153) (u := 6051) (pc := 31) (L := [xf 11 59, xi tr, xi kk, x3, x4]) (st := []) (h := h1) (inl := []) (n' := 120) (sp := [31]) (o := [0, 1]) rfl rfl ⟨rfl, rfl, rfl⟩ rfl ⟨Nat.le_of_eq hg1.2.2.2.1, Nat.le_of_eq hg1.2.2.2.2⟩ ⟨⟨⟨⟨⟨⟨⟨⟨⟨⟨⟨⟨⟨⟨⟨⟨⟨⟨⟨⟨⟨⟨⟨⟨⟨trivial, (show ¬ xR h1 59 0 = 0 from by rw [r0]; decide)⟩, (show ¬ (xI h1 (xR h1 59 0) 5) ≤ kk from by rw [r0]; exact fun z => absurd (Int32.le_iff_toInt_le.mp z) (by omega))⟩, (show ¬ xR h1 59 0 = 0 from by rw [r0]; decide)⟩, (show ¬ xR h1 (xR h1 59 0) 6 = 0 from by rw [r0]; exact vnn hg1.1 (rfl : vRf 24 6 = [29]) (by decide))⟩, (vp_of (i := kk) (n := 9) (by omega) (by omega))⟩, (show ¬ xR h1 59 0 = 0 from by rw [r0]; decide)⟩, (show ¬ xR h1 (xR h1 59 0) 7 = 0 from by rw [r0]; exact vnn hg1.1 (rfl : vRf 24 7 = [30]) (by decide))⟩, (vp_of (i := kk) (n := 9) (by omega) (by omega))⟩, (vnn hg1.1 (rfl : vRf 59 3 = [62]) (by decide))⟩, (vnn hg1.1 (rfl : vRf 59 1 = [60]) (by decide))⟩, (show vp_in ((xI h1 (xR h1 (xR h1 59 0) 6) (kk).toNatClampNeg)) (6) from (by rw [r0, vref hg1.1 (rfl : vRf 24 6 = [29])]; exact (vp_of (i := (xI h1 29 (kk).toNatClampNeg)) (n := 6) (by omega) (by omega) : vp_in ((xI h1 29 (kk).toNatClampNeg)) (6))))⟩, (vnn hg1.1 (rfl : vRf 59 1 = [60]) (by decide))⟩, (show vp_in ((xI h1 (xR h1 (xR h1 59 0) 7) (kk).toNatClampNeg)) (6) from (by rw [r0, vref hg1.1 (rfl : vRf 24 7 = [30])]; exact (vp_of (i := (xI h1 30 (kk).toNatClampNeg)) (n := 6) (by omega) (by omega) : vp_in ((xI h1 30 (kk).toNatClampNeg)) (6))))⟩, cb1⟩, (vp_of (i := kk) (n := 9) (by omega) (by omega))⟩, (vnn hg1.1 (rfl : vRf 59 8 = [66]) (by decide))⟩, (show vp_in ((xI h1 (xR h1 (xR h1 59 0) 6) (kk).toNatClampNeg)) (6) from (by rw [r0, vref hg1.1 (rfl : vRf 24 6 = [29])]; exact (vp_of (i := (xI h1 29 (kk).toNatClampNeg)) (n := 6) (by omega) (by omega) : vp_in ((xI h1 29 (kk).toNatClampNeg)) (6))))⟩, (vnn hg1.1 (rfl : vRf 59 3 = [62]) (by decide))⟩, (vp_of (i := kk) (n := 9) (by omega) (by omega))⟩, (show vp_in ((xI h1 (xR h1 (xR h1 59 0) 6) (kk).toNatClampNeg)) (6) from (by rw [r0, vref hg1.1 (rfl : vRf 24 6 = [29])]; exact (vp_of (i := (xI h1 29 (kk).toNatClampNeg)) (n := 6) (by omega) (by omega) : vp_in ((xI h1 29 (kk).toNatClampNeg)) (6))))⟩, (vnn hg1.1 (rfl : vRf 59 8 = [66]) (by decide))⟩, (show vp_in ((xI h1 (xR h1 (xR h1 59 0) 7) (kk).toNatClampNeg)) (6) from (by rw [r0, vref hg1.1 (rfl : vRf 24 7 = [30])]; exact (vp_of (i := (xI h1 30 (kk).toNatClampNeg)) (n := 6) (by omega) (by omega) : vp_in ((xI h1 30 (kk).toNatClampNeg)) (6))))⟩, (vnn hg1.1 (rfl : vRf 59 3 = [62]) (by decide))⟩, (vp_of (i := kk) (n := 9) (by omega) (by omega))⟩, (show vp_in ((xI h1 (xR h1 (xR h1 59 0) 7) (kk).toNatClampNeg)) (6) from (by rw [r0, vref hg1.1 (rfl : vRf 24 7 = [30])]; exact (vp_of (i := (xI h1 30 (kk).toNatClampNeg)) (n := 6) (by omega) (by omega) : vp_in ((xI h1 30 (kk).toNatClampNeg)) (6))))⟩
      rw [r0, vref hg1.1 (rfl : vRf 59 3 = [62]), vref hg1.1 (rfl : vRf 59 8 = [66]), vref hg1.1 (rfl : vRf 24 6 = [29]), vref hg1.1 (rfl : vRf 24 7 = [30])] at t2
      have t3 : XT l 1 23 false 66 153 6051 31 [xf 11 59, xi tr, xi kk, x3, x4] [] h1 31 [xf 11 59, xi tr, xi (kk + Int32.ofInt (1)), xi (xI h1 29 (kk).toNatClampNeg), xi (xI h1 30 (kk).toNatClampNeg)] [] (xsetI (xsetI (xsetI h1 62 (kk).toNatClampNeg (Int32.ofInt (0))) 66 ((xI h1 29 (kk).toNatClampNeg)).toNatClampNeg ((xI h1 66 ((xI h1 29 (kk).toNatClampNeg)).toNatClampNeg) + (xI (xsetI h1 62 (kk).toNatClampNeg (Int32.ofInt (0))) 62 (kk).toNatClampNeg))) 66 ((xI h1 30 (kk).toNatClampNeg)).toNatClampNeg ((xI (xsetI (xsetI h1 62 (kk).toNatClampNeg (Int32.ofInt (0))) 66 ((xI h1 29 (kk).toNatClampNeg)).toNatClampNeg ((xI h1 66 ((xI h1 29 (kk).toNatClampNeg)).toNatClampNeg) + (xI (xsetI h1 62 (kk).toNatClampNeg (Int32.ofInt (0))) 62 (kk).toNatClampNeg))) 66 ((xI h1 30 (kk).toNatClampNeg)).toNatClampNeg) + (xI (xsetI h1 62 (kk).toNatClampNeg (Int32.ofInt (0))) 62 (kk).toNatClampNeg))) := t2
      obtain ⟨hE, eE⟩ : ∃ x, x = (xsetI (xsetI (xsetI h1 62 (kk).toNatClampNeg (Int32.ofInt (0))) 66 ((xI h1 29 (kk).toNatClampNeg)).toNatClampNeg ((xI h1 66 ((xI h1 29 (kk).toNatClampNeg)).toNatClampNeg) + (xI (xsetI h1 62 (kk).toNatClampNeg (Int32.ofInt (0))) 62 (kk).toNatClampNeg))) 66 ((xI h1 30 (kk).toNatClampNeg)).toNatClampNeg ((xI (xsetI (xsetI h1 62 (kk).toNatClampNeg (Int32.ofInt (0))) 66 ((xI h1 29 (kk).toNatClampNeg)).toNatClampNeg ((xI h1 66 ((xI h1 29 (kk).toNatClampNeg)).toNatClampNeg) + (xI (xsetI h1 62 (kk).toNatClampNeg (Int32.ofInt (0))) 62 (kk).toNatClampNeg))) 66 ((xI h1 30 (kk).toNatClampNeg)).toNatClampNeg) + (xI (xsetI h1 62 (kk).toNatClampNeg (Int32.ofInt (0))) 62 (kk).toNatClampNeg))) := ⟨_, rfl⟩
      have eE2 : hE = xsetI (xsetI (xsetI h1 62 k (Int32.ofInt (0))) 66 A1 (xI h1 66 A1 + (Int32.ofInt (0)))) 66 A2 (xI h1 66 A2 + (Int32.ofInt (0))) := by
        rw [eE]
        rw [nk] at n1 n2
        simp only [nk, n1, n2]
        rw [show xI (xsetI (xsetI h1 62 k (Int32.ofInt (0))) 66 A1 (xI h1 66 A1 + xI (xsetI h1 62 k (Int32.ofInt (0))) 62 k)) 66 A2 = xI h1 66 A2 from (yI_ne (eq_false (fun z => by have := z.2; omega))).trans (yI_c (by decide)), show xI (xsetI h1 62 k (Int32.ofInt (0))) 62 k = (Int32.ofInt (0)) from yI_same]
      rw [← eE] at t3
      have GE : mQ [62, 66] h hE := by rw [eE2]; exact ((G.set (by decide) (by rw [vI_u rfl (rfl : vRow 62 = (0, 1))]; exact (by decide))).set (by decide) (by rw [vI_u rfl (rfl : vRow 66 = sfull)]; exact i32r_of _)).set (by decide) (by rw [vI_u rfl (rfl : vRow 66 = sfull)]; exact i32r_of _)
      have tk : ((Int32.ofInt (0))).toInt = (if zTr Z Y < zgp Z Y k then 1 else 0) := by rw [if_neg (by omega)]; rfl
      have J3 : ∀ j : Nat, j < k + 1 → (xI hE 62 j).toInt = (if zTr Z Y < zgp Z Y j then 1 else 0) := by
        intro j hj
        rw [eE2, yI_c (by decide), yI_c (by decide)]
        by_cases e : j = k
        · subst e; rw [yI_same]; exact tk
        · rw [yI_ne (eq_false (fun z => e z.2))]; exact I3 j (by omega)
      have J7 : ∀ r : Nat, (r : Int) < Z 0 → xI hE 66 r = zsum (fun j => if (Z (140 + j) = r ∨ Z (150 + j) = r) ∧ zTr Z Y < zgp Z Y j then Int32.ofInt (1) else Int32.ofInt (0)) (k + 1) := by
        intro r hr
        by_cases e1 : r = A1
        · have e2 : ¬ r = A2 := by omega
          rw [eE2, yI_ne (eq_false (fun z => e2 z.2)), e1, yI_same]
          rw [e1] at hr
          exact zsum_n (v := (Int32.ofInt (0))) (I7 A1 hr) (if_neg (fun y => by have := y.2; omega))
        · by_cases e2 : r = A2
          · rw [eE2, e2, yI_same]
            rw [e2] at hr
            exact zsum_n (v := (Int32.ofInt (0))) (I7 A2 hr) (if_neg (fun y => by have := y.2; omega))
          · rw [eE2, yI_ne (eq_false (fun z => e2 z.2)), yI_ne (eq_false (fun z => e1 z.2)), yI_c (by decide)]
            exact zsum_m (I7 r hr) (if_neg (fun y => by have := y.1; omega))
      obtain ⟨k3, y3, y4, h9, t9, G9, I9, I10⟩ := ck_tearL59_24 l Z Y tr h hg A kt kw V ht m (k + 1) (kk + Int32.ofInt (1)) (xi (xI h1 29 (kk).toNatClampNeg)) (xi (xI h1 30 (kk).toNatClampNeg)) hE GE (by omega) (by omega) J3 J7
      exact ⟨k3, y3, y4, h9, t3.tr t9, G9, I9, I10⟩
    · have e_0 : (0 : Int32).toInt = 0 := rfl
      have cb1r := cb1
      rw [vref hg1.1 (rfl : vRf 59 1 = [60]), r0, vref hg1.1 (rfl : vRf 24 6 = [29]), vref hg1.1 (rfl : vRf 24 7 = [30])] at cb1r
      have dcb1 : (tr).toInt < (if (0 : Int32) ≤ ((xI h1 60 ((xI h1 29 (kk).toNatClampNeg)).toNatClampNeg) - (xI h1 60 ((xI h1 30 (kk).toNatClampNeg)).toNatClampNeg)) then ((xI h1 60 ((xI h1 29 (kk).toNatClampNeg)).toNatClampNeg) - (xI h1 60 ((xI h1 30 (kk).toNatClampNeg)).toNatClampNeg)) else (0 : Int32) - ((xI h1 60 ((xI h1 29 (kk).toNatClampNeg)).toNatClampNeg) - (xI h1 60 ((xI h1 30 (kk).toNatClampNeg)).toNatClampNeg))).toInt := Int32.lt_iff_toInt_lt.mp (Int32.not_le.mp cb1r)
      have t4 : XT l 1 23 false 66 153 6051 31 [xf 11 59, xi tr, xi kk, x3, x4] [] h1 31 [xf 11 59, xi tr, xi (kk + Int32.ofInt (1)), xi (xI h1 (xR h1 (xR h1 59 0) 6) (kk).toNatClampNeg), xi (xI h1 (xR h1 (xR h1 59 0) 7) (kk).toNatClampNeg)] [] (xsetI (xsetI (xsetI h1 (xR h1 59 3) (kk).toNatClampNeg (Int32.ofInt (1))) (xR h1 59 8) ((xI h1 (xR h1 (xR h1 59 0) 6) (kk).toNatClampNeg)).toNatClampNeg ((xI (xsetI h1 (xR h1 59 3) (kk).toNatClampNeg (Int32.ofInt (1))) (xR h1 59 8) ((xI h1 (xR h1 (xR h1 59 0) 6) (kk).toNatClampNeg)).toNatClampNeg) + (xI (xsetI h1 (xR h1 59 3) (kk).toNatClampNeg (Int32.ofInt (1))) (xR h1 59 3) (kk).toNatClampNeg))) (xR h1 59 8) ((xI h1 (xR h1 (xR h1 59 0) 7) (kk).toNatClampNeg)).toNatClampNeg ((xI (xsetI (xsetI h1 (xR h1 59 3) (kk).toNatClampNeg (Int32.ofInt (1))) (xR h1 59 8) ((xI h1 (xR h1 (xR h1 59 0) 6) (kk).toNatClampNeg)).toNatClampNeg ((xI (xsetI h1 (xR h1 59 3) (kk).toNatClampNeg (Int32.ofInt (1))) (xR h1 59 8) ((xI h1 (xR h1 (xR h1 59 0) 6) (kk).toNatClampNeg)).toNatClampNeg) + (xI (xsetI h1 (xR h1 59 3) (kk).toNatClampNeg (Int32.ofInt (1))) (xR h1 59 3) (kk).toNatClampNeg))) (xR h1 59 8) ((xI h1 (xR h1 (xR h1 59 0) 7) (kk).toNatClampNeg)).toNatClampNeg) + (xI (xsetI (xsetI h1 (xR h1 59 3) (kk).toNatClampNeg (Int32.ofInt (1))) (xR h1 59 8) ((xI h1 (xR h1 (xR h1 59 0) 6) (kk).toNatClampNeg)).toNatClampNeg ((xI (xsetI h1 (xR h1 59 3) (kk).toNatClampNeg (Int32.ofInt (1))) (xR h1 59 8) ((xI h1 (xR h1 (xR h1 59 0) 6) (kk).toNatClampNeg)).toNatClampNeg) + (xI (xsetI h1 (xR h1 59 3) (kk).toNatClampNeg (Int32.ofInt (1))) (xR h1 59 3) (kk).toNatClampNeg))) (xR h1 59 3) (kk).toNatClampNeg))) := XT_path (l := l) (fr := 1) (lo := 23) (full := false) (M := 66) (n := 153) (u := 6051) (pc := 31) (L := [xf 11 59, xi tr, xi kk, x3, x4]) (st := []) (h := h1) (inl := []) (n' := 120) (sp := [31]) (o := [0, 0]) rfl rfl ⟨rfl, rfl, rfl⟩ rfl ⟨Nat.le_of_eq hg1.2.2.2.1, Nat.le_of_eq hg1.2.2.2.2⟩ ⟨⟨⟨⟨⟨⟨⟨⟨⟨⟨⟨⟨⟨⟨⟨⟨⟨⟨⟨⟨⟨⟨⟨⟨⟨trivial, (show ¬ xR h1 59 0 = 0 from by rw [r0]; decide)⟩, (show ¬ (xI h1 (xR h1 59 0) 5) ≤ kk from by rw [r0]; exact fun z => absurd (Int32.le_iff_toInt_le.mp z) (by omega))⟩, (show ¬ xR h1 59 0 = 0 from by rw [r0]; decide)⟩, (show ¬ xR h1 (xR h1 59 0) 6 = 0 from by rw [r0]; exact vnn hg1.1 (rfl : vRf 24 6 = [29]) (by decide))⟩, (vp_of (i := kk) (n := 9) (by omega) (by omega))⟩, (show ¬ xR h1 59 0 = 0 from by rw [r0]; decide)⟩, (show ¬ xR h1 (xR h1 59 0) 7 = 0 from by rw [r0]; exact vnn hg1.1 (rfl : vRf 24 7 = [30]) (by decide))⟩, (vp_of (i := kk) (n := 9) (by omega) (by omega))⟩, (vnn hg1.1 (rfl : vRf 59 3 = [62]) (by decide))⟩, (vnn hg1.1 (rfl : vRf 59 1 = [60]) (by decide))⟩, (show vp_in ((xI h1 (xR h1 (xR h1 59 0) 6) (kk).toNatClampNeg)) (6) from (by rw [r0, vref hg1.1 (rfl : vRf 24 6 = [29])]; exact (vp_of (i := (xI h1 29 (kk).toNatClampNeg)) (n := 6) (by omega) (by omega) : vp_in ((xI h1 29 (kk).toNatClampNeg)) (6))))⟩, (vnn hg1.1 (rfl : vRf 59 1 = [60]) (by decide))⟩, (show vp_in ((xI h1 (xR h1 (xR h1 59 0) 7) (kk).toNatClampNeg)) (6) from (by rw [r0, vref hg1.1 (rfl : vRf 24 7 = [30])]; exact (vp_of (i := (xI h1 30 (kk).toNatClampNeg)) (n := 6) (by omega) (by omega) : vp_in ((xI h1 30 (kk).toNatClampNeg)) (6))))⟩, cb1⟩, (vp_of (i := kk) (n := 9) (by omega) (by omega))⟩, (vnn hg1.1 (rfl : vRf 59 8 = [66]) (by decide))⟩, (show vp_in ((xI h1 (xR h1 (xR h1 59 0) 6) (kk).toNatClampNeg)) (6) from (by rw [r0, vref hg1.1 (rfl : vRf 24 6 = [29])]; exact (vp_of (i := (xI h1 29 (kk).toNatClampNeg)) (n := 6) (by omega) (by omega) : vp_in ((xI h1 29 (kk).toNatClampNeg)) (6))))⟩, (vnn hg1.1 (rfl : vRf 59 3 = [62]) (by decide))⟩, (vp_of (i := kk) (n := 9) (by omega) (by omega))⟩, (show vp_in ((xI h1 (xR h1 (xR h1 59 0) 6) (kk).toNatClampNeg)) (6) from (by rw [r0, vref hg1.1 (rfl : vRf 24 6 = [29])]; exact (vp_of (i := (xI h1 29 (kk).toNatClampNeg)) (n := 6) (by omega) (by omega) : vp_in ((xI h1 29 (kk).toNatClampNeg)) (6))))⟩, (vnn hg1.1 (rfl : vRf 59 8 = [66]) (by decide))⟩, (show vp_in ((xI h1 (xR h1 (xR h1 59 0) 7) (kk).toNatClampNeg)) (6) from (by rw [r0, vref hg1.1 (rfl : vRf 24 7 = [30])]; exact (vp_of (i := (xI h1 30 (kk).toNatClampNeg)) (n := 6) (by omega) (by omega) : vp_in ((xI h1 30 (kk).toNatClampNeg)) (6))))⟩, (vnn hg1.1 (rfl : vRf 59 3 = [62]) (by decide))⟩, (vp_of (i := kk) (n := 9) (by omega) (by omega))⟩, (show vp_in ((xI h1 (xR h1 (xR h1 59 0) 7) (kk).toNatClampNeg)) (6) from (by rw [r0, vref hg1.1 (rfl : vRf 24 7 = [30])]; exact (vp_of (i := (xI h1 30 (kk).toNatClampNeg)) (n := 6) (by omega) (by omega) : vp_in ((xI h1 30 (kk).toNatClampNeg)) (6))))⟩
      rw [r0, vref hg1.1 (rfl : vRf 59 3 = [62]), vref hg1.1 (rfl : vRf 59 8 = [66]), vref hg1.1 (rfl : vRf 24 6 = [29]), vref hg1.1 (rfl : vRf 24 7 = [30])] at t4
      have t5 : XT l 1 23 false 66 153 6051 31 [xf 11 59, xi tr, xi kk, x3, x4] [] h1 31 [xf 11 59, xi tr, xi (kk + Int32.ofInt (1)), xi (xI h1 29 (kk).toNatClampNeg), xi (xI h1 30 (kk).toNatClampNeg)] [] (xsetI (xsetI (xsetI h1 62 (kk).toNatClampNeg (Int32.ofInt (1))) 66 ((xI h1 29 (kk).toNatClampNeg)).toNatClampNeg ((xI h1 66 ((xI h1 29 (kk).toNatClampNeg)).toNatClampNeg) + (xI (xsetI h1 62 (kk).toNatClampNeg (Int32.ofInt (1))) 62 (kk).toNatClampNeg))) 66 ((xI h1 30 (kk).toNatClampNeg)).toNatClampNeg ((xI (xsetI (xsetI h1 62 (kk).toNatClampNeg (Int32.ofInt (1))) 66 ((xI h1 29 (kk).toNatClampNeg)).toNatClampNeg ((xI h1 66 ((xI h1 29 (kk).toNatClampNeg)).toNatClampNeg) + (xI (xsetI h1 62 (kk).toNatClampNeg (Int32.ofInt (1))) 62 (kk).toNatClampNeg))) 66 ((xI h1 30 (kk).toNatClampNeg)).toNatClampNeg) + (xI (xsetI h1 62 (kk).toNatClampNeg (Int32.ofInt (1))) 62 (kk).toNatClampNeg))) := t4
      obtain ⟨hE, eE⟩ : ∃ x, x = (xsetI (xsetI (xsetI h1 62 (kk).toNatClampNeg (Int32.ofInt (1))) 66 ((xI h1 29 (kk).toNatClampNeg)).toNatClampNeg ((xI h1 66 ((xI h1 29 (kk).toNatClampNeg)).toNatClampNeg) + (xI (xsetI h1 62 (kk).toNatClampNeg (Int32.ofInt (1))) 62 (kk).toNatClampNeg))) 66 ((xI h1 30 (kk).toNatClampNeg)).toNatClampNeg ((xI (xsetI (xsetI h1 62 (kk).toNatClampNeg (Int32.ofInt (1))) 66 ((xI h1 29 (kk).toNatClampNeg)).toNatClampNeg ((xI h1 66 ((xI h1 29 (kk).toNatClampNeg)).toNatClampNeg) + (xI (xsetI h1 62 (kk).toNatClampNeg (Int32.ofInt (1))) 62 (kk).toNatClampNeg))) 66 ((xI h1 30 (kk).toNatClampNeg)).toNatClampNeg) + (xI (xsetI h1 62 (kk).toNatClampNeg (Int32.ofInt (1))) 62 (kk).toNatClampNeg))) := ⟨_, rfl⟩
      have eE2 : hE = xsetI (xsetI (xsetI h1 62 k (Int32.ofInt (1))) 66 A1 (xI h1 66 A1 + (Int32.ofInt (1)))) 66 A2 (xI h1 66 A2 + (Int32.ofInt (1))) := by
        rw [eE]
        rw [nk] at n1 n2
        simp only [nk, n1, n2]
        rw [show xI (xsetI (xsetI h1 62 k (Int32.ofInt (1))) 66 A1 (xI h1 66 A1 + xI (xsetI h1 62 k (Int32.ofInt (1))) 62 k)) 66 A2 = xI h1 66 A2 from (yI_ne (eq_false (fun z => by have := z.2; omega))).trans (yI_c (by decide)), show xI (xsetI h1 62 k (Int32.ofInt (1))) 62 k = (Int32.ofInt (1)) from yI_same]
      rw [← eE] at t5
      have GE : mQ [62, 66] h hE := by rw [eE2]; exact ((G.set (by decide) (by rw [vI_u rfl (rfl : vRow 62 = (0, 1))]; exact (by decide))).set (by decide) (by rw [vI_u rfl (rfl : vRow 66 = sfull)]; exact i32r_of _)).set (by decide) (by rw [vI_u rfl (rfl : vRow 66 = sfull)]; exact i32r_of _)
      have tk : ((Int32.ofInt (1))).toInt = (if zTr Z Y < zgp Z Y k then 1 else 0) := by rw [if_pos (by omega)]; rfl
      have J3 : ∀ j : Nat, j < k + 1 → (xI hE 62 j).toInt = (if zTr Z Y < zgp Z Y j then 1 else 0) := by
        intro j hj
        rw [eE2, yI_c (by decide), yI_c (by decide)]
        by_cases e : j = k
        · subst e; rw [yI_same]; exact tk
        · rw [yI_ne (eq_false (fun z => e z.2))]; exact I3 j (by omega)
      have J7 : ∀ r : Nat, (r : Int) < Z 0 → xI hE 66 r = zsum (fun j => if (Z (140 + j) = r ∨ Z (150 + j) = r) ∧ zTr Z Y < zgp Z Y j then Int32.ofInt (1) else Int32.ofInt (0)) (k + 1) := by
        intro r hr
        by_cases e1 : r = A1
        · have e2 : ¬ r = A2 := by omega
          rw [eE2, yI_ne (eq_false (fun z => e2 z.2)), e1, yI_same]
          rw [e1] at hr
          exact zsum_n (v := (Int32.ofInt (1))) (I7 A1 hr) (if_pos ⟨by omega, by omega⟩)
        · by_cases e2 : r = A2
          · rw [eE2, e2, yI_same]
            rw [e2] at hr
            exact zsum_n (v := (Int32.ofInt (1))) (I7 A2 hr) (if_pos ⟨by omega, by omega⟩)
          · rw [eE2, yI_ne (eq_false (fun z => e2 z.2)), yI_ne (eq_false (fun z => e1 z.2)), yI_c (by decide)]
            exact zsum_m (I7 r hr) (if_neg (fun y => by have := y.1; omega))
      obtain ⟨k3, y3, y4, h9, t9, G9, I9, I10⟩ := ck_tearL59_24 l Z Y tr h hg A kt kw V ht m (k + 1) (kk + Int32.ofInt (1)) (xi (xI h1 29 (kk).toNatClampNeg)) (xi (xI h1 30 (kk).toNatClampNeg)) hE GE (by omega) (by omega) J3 J7
      exact ⟨k3, y3, y4, h9, t5.tr t9, G9, I9, I10⟩
set_option maxRecDepth 100000 in
set_option maxHeartbeats 4000000 in
theorem ck_tear59_24 (l : Launch) (Z : Nat → Int) (Y : Nat → Int32) (h : XH) (hg : mI h) (A : zAll Z) (kt : kTx 24 Z h) (kw : kW 59 24 Z Y h) (V : zVd Z Y) : ∃ h', CX l 1 23 false 66 [xf 11 59] h [] h' ∧ mQ [62, 66] h h' ∧ kD 59 Z Y h' := by
  obtain ⟨⟨⟨B00, B01⟩, ⟨B10, B11⟩, ⟨B20, B21⟩, B30, B31⟩, g6, zj, zv, LW⟩ := id A
  have r0 : xR h 59 0 = 24 := kw.2.2.2.2.2
  have emo : (xI h 59 10).toInt = (Y 51).toInt := congrArg Int32.toInt kw.2.2.2.1
  have ete : (xI h 24 18).toInt = Z 5 := kt.1.2.1
  by_cases cb1 : (xI h 59 10) = (Int32.ofInt (3))
  · have e_3 : (Int32.ofInt (3)).toInt = 3 := rfl
    have dcb1 : (xI h 59 10).toInt = (Int32.ofInt (3)).toInt := congrArg Int32.toInt cb1
    have t2 : XT l 1 23 false 66 153 6051 0 [xf 11 59, xun, xun, xun, xun] [] h 26 [xf 11 59, xi (Int32.ofInt (8)), xun, xun, xun] [xi (Int32.ofInt (0)), xf 10006 (xR h 59 8)] h := XT_path (l := l) (fr := 1) (lo := 23) (full := false) (M := 66) (n := 153) (u := 6051) (pc := 0) (L := [xf 11 59, xun, xun, xun, xun]) (st := []) (h := h) (inl := []) (n' := 120) (sp := [26]) (o := [0]) rfl rfl ⟨rfl, rfl, rfl⟩ rfl ⟨Nat.le_of_eq hg.2.2.2.1, Nat.le_of_eq hg.2.2.2.2⟩ ⟨⟨trivial, cb1⟩, (vnn hg.1 (rfl : vRf 59 8 = [66]) (by decide))⟩
    rw [vref hg.1 (rfl : vRf 59 8 = [66])] at t2
    obtain ⟨h1, c1, G1, z1⟩ := cm_fill66 l h hg
    have r1 : xR h1 59 0 = 24 := (G1.2.2 59 0).trans r0
    have t3 : XT l 1 23 false 66 153 6051 26 [xf 11 59, xi (Int32.ofInt (8)), xun, xun, xun] [xi (Int32.ofInt (0)), xf 10006 66] h 29 [xf 11 59, xi (Int32.ofInt (8)), xun, xun, xun] [] h1 := XT_call (l := l) (fr := 1) (lo := 23) (full := false) (M := 66) (n := 153) (u := 6051) (pc := 26) (L := [xf 11 59, xi (Int32.ofInt (8)), xun, xun, xun]) (st := [xi (Int32.ofInt (0)), xf 10006 66]) (h := h) (i := .invokestatic 5) (aux := 2) (nx := 29) (K := 5) (vs := [xf 10006 66, xi (Int32.ofInt (0))]) (rs := []) (rest := []) rfl rfl rfl rfl rfl rfl c1 (by decide) (by decide) (Nat.le_of_ble_eq_true rfl) ⟨Nat.le_of_eq G1.1.2.2.2.1, Nat.le_of_eq G1.1.2.2.2.2⟩
    have t4 := t2.tr t3
    have t5 : XT l 1 23 false 66 153 6051 29 [xf 11 59, xi (Int32.ofInt (8)), xun, xun, xun] [] h1 31 [xf 11 59, xi (Int32.ofInt (8)), xi (Int32.ofInt (0)), xun, xun] [] h1 := XT_path (l := l) (fr := 1) (lo := 23) (full := false) (M := 66) (n := 153) (u := 6051) (pc := 29) (L := [xf 11 59, xi (Int32.ofInt (8)), xun, xun, xun]) (st := []) (h := h1) (inl := []) (n' := 120) (sp := [31]) (o := []) rfl rfl ⟨rfl, rfl, rfl⟩ rfl ⟨Nat.le_of_eq G1.1.2.2.2.1, Nat.le_of_eq G1.1.2.2.2.2⟩ trivial
    have t6 := t4.tr t5
    have et : ((Int32.ofInt (8))).toInt = zTr Z Y := by unfold zTr; rw [if_pos (by have e3 : ((Int32.ofInt (3))).toInt = 3 := rfl; omega)]; rfl
    obtain ⟨k2, y3, y4, h2, t2, G2, I3, I7⟩ := ck_tearL59_24 l Z Y (Int32.ofInt (8)) h hg A kt kw V et (Z 1).toNat 0 (Int32.ofInt (0)) (xun) (xun) h1 (G1.mono (by decide)) rfl (by omega) (fun j hj => by omega) (fun r hr => z1 r (by omega))
    have T2 := t6.tr t2
    exact ⟨h2, CX_ofT (h' := h2) (by decide) rfl rfl trivial ⟨_, _, _, rfl, rfl, rfl⟩ rfl ⟨Nat.le_of_eq G2.1.2.2.2.1.symm, Nat.le_of_eq G2.1.2.2.2.2.symm⟩ T2, G2, fun j hj => I3 j (by omega), fun r hr => I7 r hr⟩
  · have e_3 : (Int32.ofInt (3)).toInt = 3 := rfl
    have dcb1 : ¬ (xI h 59 10).toInt = (Int32.ofInt (3)).toInt := fun z_ => cb1 (Int32.toInt_inj.mp z_)
    have t7 : XT l 1 23 false 66 153 6051 0 [xf 11 59, xun, xun, xun, xun] [] h 26 [xf 11 59, xi (xI h (xR h 59 0) 18), xun, xun, xun] [xi (Int32.ofInt (0)), xf 10006 (xR h 59 8)] h := XT_path (l := l) (fr := 1) (lo := 23) (full := false) (M := 66) (n := 153) (u := 6051) (pc := 0) (L := [xf 11 59, xun, xun, xun, xun]) (st := []) (h := h) (inl := []) (n' := 120) (sp := [26]) (o := [1]) rfl rfl ⟨rfl, rfl, rfl⟩ rfl ⟨Nat.le_of_eq hg.2.2.2.1, Nat.le_of_eq hg.2.2.2.2⟩ ⟨⟨⟨trivial, cb1⟩, (show ¬ xR h 59 0 = 0 from by rw [r0]; decide)⟩, (vnn hg.1 (rfl : vRf 59 8 = [66]) (by decide))⟩
    rw [r0, vref hg.1 (rfl : vRf 59 8 = [66])] at t7
    obtain ⟨h1, c1, G1, z1⟩ := cm_fill66 l h hg
    have r1 : xR h1 59 0 = 24 := (G1.2.2 59 0).trans r0
    have t8 : XT l 1 23 false 66 153 6051 26 [xf 11 59, xi (xI h 24 18), xun, xun, xun] [xi (Int32.ofInt (0)), xf 10006 66] h 29 [xf 11 59, xi (xI h 24 18), xun, xun, xun] [] h1 := XT_call (l := l) (fr := 1) (lo := 23) (full := false) (M := 66) (n := 153) (u := 6051) (pc := 26) (L := [xf 11 59, xi (xI h 24 18), xun, xun, xun]) (st := [xi (Int32.ofInt (0)), xf 10006 66]) (h := h) (i := .invokestatic 5) (aux := 2) (nx := 29) (K := 5) (vs := [xf 10006 66, xi (Int32.ofInt (0))]) (rs := []) (rest := []) rfl rfl rfl rfl rfl rfl c1 (by decide) (by decide) (Nat.le_of_ble_eq_true rfl) ⟨Nat.le_of_eq G1.1.2.2.2.1, Nat.le_of_eq G1.1.2.2.2.2⟩
    have t9 := t7.tr t8
    have t10 : XT l 1 23 false 66 153 6051 29 [xf 11 59, xi (xI h 24 18), xun, xun, xun] [] h1 31 [xf 11 59, xi (xI h 24 18), xi (Int32.ofInt (0)), xun, xun] [] h1 := XT_path (l := l) (fr := 1) (lo := 23) (full := false) (M := 66) (n := 153) (u := 6051) (pc := 29) (L := [xf 11 59, xi (xI h 24 18), xun, xun, xun]) (st := []) (h := h1) (inl := []) (n' := 120) (sp := [31]) (o := []) rfl rfl ⟨rfl, rfl, rfl⟩ rfl ⟨Nat.le_of_eq G1.1.2.2.2.1, Nat.le_of_eq G1.1.2.2.2.2⟩ trivial
    have t11 := t9.tr t10
    have et : ((xI h 24 18)).toInt = zTr Z Y := by unfold zTr; rw [if_neg (by have e3 : ((Int32.ofInt (3))).toInt = 3 := rfl; omega)]; exact ete
    obtain ⟨k2, y3, y4, h2, t2, G2, I3, I7⟩ := ck_tearL59_24 l Z Y (xI h 24 18) h hg A kt kw V et (Z 1).toNat 0 (Int32.ofInt (0)) (xun) (xun) h1 (G1.mono (by decide)) rfl (by omega) (fun j hj => by omega) (fun r hr => z1 r (by omega))
    have T2 := t11.tr t2
    exact ⟨h2, CX_ofT (h' := h2) (by decide) rfl rfl trivial ⟨_, _, _, rfl, rfl, rfl⟩ rfl ⟨Nat.le_of_eq G2.1.2.2.2.1.symm, Nat.le_of_eq G2.1.2.2.2.2.symm⟩ T2, G2, fun j hj => I3 j (by omega), fun r hr => I7 r hr⟩
theorem kW.q {L : List Nat} {w c : Nat} {Z : Nat → Int} {Y : Nat → Int32} {h h' : XH} (a : kW w c Z Y h) (x : mQ L h h') (hl : ∀ e ∈ L, e < w ∨ e = w + 2 ∨ e = w + 3 ∨ w + 6 ≤ e) : kW w c Z Y h' := by
  obtain ⟨a1, a2, a3, a4, a5, a6⟩ := a
  have f : ∀ e k, (e = w ∨ e = w + 1 ∨ e = w + 4 ∨ e = w + 5) → xI h' e k = xI h e k := fun e k he => x.2.1 e k (fun y => by have := hl e y; omega)
  refine ⟨fun r hr => by rw [f _ _ (by omega)]; exact a1 r hr, fun p hp => by rw [f _ _ (by omega), f _ _ (by omega)]; exact a2 p hp, (f _ _ (by omega)).trans a3, (f _ _ (by omega)).trans a4, fun z => (f _ _ (by omega)).trans (a5 z), (x.2.2 _ _).trans a6⟩
theorem kD.q {L : List Nat} {w : Nat} {Z : Nat → Int} {Y : Nat → Int32} {h h' : XH} (a : kD w Z Y h) (x : mQ L h h') (hl : ∀ e ∈ L, ¬ e = w + 3 ∧ ¬ e = w + 7) : kD w Z Y h' :=
  ⟨fun j hj => by rw [x.2.1 (w + 3) j (fun y => (hl _ y).1 rfl)]; exact a.1 j hj, fun r hr => (x.2.1 (w + 7) r (fun y => (hl _ y).2 rfl)).trans (a.2 r hr)⟩
theorem kE.q {L : List Nat} {w : Nat} {Z : Nat → Int} {Y : Nat → Int32} {h h' : XH} (a : kE w Z Y h) (x : mQ L h h') (hl : ∀ e ∈ L, ¬ e = w + 8) : kE w Z Y h' := fun r hr => (x.2.1 (w + 8) r (fun y => hl _ y rfl)).trans (a r hr)
theorem kY.q {L : List Nat} {w : Nat} {Z : Nat → Int} {Y : Nat → Int32} {h h' : XH} (a : kY w Z Y h) (x : mQ L h h') (hl : ∀ e ∈ L, ¬ e = w + 2 ∧ ¬ e = w + 6) : kY w Z Y h' :=
  ⟨fun r hr => (x.2.1 (w + 2) r (fun y => (hl _ y).1 rfl)).trans (a.1 r hr), fun p hp => (x.2.1 (w + 6) p (fun y => (hl _ y).2 rfl)).trans (a.2 p hp)⟩
theorem i32_e {x : Int32} {v : Int} (h : x.toInt = v) : x = Int32.ofInt v := by rw [← h]; exact (i32_of x).symm
def zhc (Z : Nat → Int) (Y : Nat → Int32) (k : Nat) (v : Int32) : Prop := (v = Int32.ofInt (0) ∧ ∀ r : Nat, r < k → zSt (Y r) (zVs Z Y r) = Y r) ∨ (v = Int32.ofInt (1) ∧ ∃ r : Nat, r < k ∧ ¬ zSt (Y r) (zVs Z Y r) = Y r)
theorem zhc_a {Z : Nat → Int} {Y : Nat → Int32} {k : Nat} {v : Int32} (z : zhc Z Y k v) (h : ¬ v = 0) : zhc Z Y (k + 1) (Int32.ofInt (1)) := by
  rcases z with ⟨a, -⟩ | ⟨-, r, hr, b⟩
  · exact absurd a h
  · exact Or.inr ⟨rfl, r, by omega, b⟩
theorem zhc_b {Z : Nat → Int} {Y : Nat → Int32} {k : Nat} {v : Int32} (z : zhc Z Y k v) (h : v = 0) (e : zSt (Y k) (zVs Z Y k) = Y k) : zhc Z Y (k + 1) (Int32.ofInt (0)) := by
  rcases z with ⟨-, b⟩ | ⟨a, -⟩
  · refine Or.inl ⟨rfl, fun r hr => ?_⟩
    by_cases y : r = k
    · rw [y]; exact e
    · exact b r (by omega)
  · rw [a] at h
    exact absurd h (by decide)
theorem zhc_c {Z : Nat → Int} {Y : Nat → Int32} {k : Nat} (e : ¬ zSt (Y k) (zVs Z Y k) = Y k) : zhc Z Y (k + 1) (Int32.ofInt (1)) := Or.inr ⟨rfl, k, by omega, e⟩
theorem zCr_str {Z : Nat → Int} {Y : Nat → Int32} {r : Nat} (B : zcB Z) : zCr Z (zStr Z Y) r = zCr Z Y r := zsum_eq (fun k hk => by
  have b := B.1.2
  show (if (zStr Z Y (20 + k)).toInt = r then Int32.ofInt (1) else Int32.ofInt (0)) = _
  rw [show zStr Z Y (20 + k) = Y (20 + k) from if_neg (by omega)])
theorem zhc_z {Z : Nat → Int} {Y : Nat → Int32} {k : Nat} {v : Int32} (z : zhc Z Y k v) : v = Int32.ofInt (0) ∨ v = Int32.ofInt (1) := by
  rcases z with ⟨a, -⟩ | ⟨a, -⟩
  · exact Or.inl a
  · exact Or.inr a
theorem zStr_kW {L : List Nat} {w c : Nat} {Z : Nat → Int} {Y : Nat → Int32} {h h' : XH} (a : kW w c Z Y h) (B : Z 0 ≤ 6) (x : mQ L h h') (hl : ∀ e ∈ L, e = w + 1) (I : ∀ r : Nat, (r : Int) < Z 0 → xI h' (w + 1) r = zSt (Y r) (zVs Z Y r)) : kW w c Z (zStr Z Y) h' := by
  obtain ⟨a1, a2, a3, a4, a5, a6⟩ := a
  have f : ∀ e k, ¬ e = w + 1 → xI h' e k = xI h e k := fun e k he => x.2.1 e k (fun y => he (hl e y))
  have g : ∀ i : Nat, 6 ≤ i → zStr Z Y i = Y i := fun i hi => if_neg (by omega)
  refine ⟨fun r hr => (I r hr).trans (show zStr Z Y r = _ from if_pos hr).symm, fun p hp => by rw [f _ _ (by omega), f _ _ (by omega), g _ (by omega), g _ (by omega)]; exact a2 p hp, by rw [f _ _ (by omega), g _ (by omega)]; exact a3, by rw [f _ _ (by omega), g _ (by omega)]; exact a4, fun z => by rw [g _ (by omega)] at z; rw [f _ _ (by omega), g _ (by omega)]; exact a5 z, (x.2.2 _ _).trans a6⟩
set_option maxRecDepth 100000 in
set_option maxHeartbeats 4000000 in
theorem ck_strV48_3 (l : Launch) (Z : Nat → Int) (Y : Nat → Int32) (h : XH) (hg : mI h) (A : zAll Z) (kt : kTx 3 Z h) (kw : kW 48 3 Z Y h) (V : zVd Z Y) (kd : kD 48 Z Y h) (ke : kE 48 Z Y h) : ∀ (m k : Nat) (kk : Int32) (x2 x3 : XV) (h1 : XH), mQ [57] h h1 → kk.toInt = k → (k : Int) + m = Z 2 → (∀ r : Nat, (r : Int) < Z 0 → xI h1 57 r = zsum (fun p => if (Y (20 + p)).toInt = r then zWe Z Y p * zVo Z Y p else Int32.ofInt (0)) k) → ∃ k2 h2, XT l 5 122 false 99 153 6051 10 [xf 11 48, xi kk, x2, x3] [] h1 52 [xf 11 48, xi k2, x2, x3] [] h2 ∧ mQ [57] h h2 ∧ (∀ r : Nat, (r : Int) < Z 0 → xI h2 57 r = zsum (fun p => if (Y (20 + p)).toInt = r then zWe Z Y p * zVo Z Y p else Int32.ofInt (0)) (Z 2).toNat)
  | 0, k, kk, x2, x3, h1, G, hk, hm, I9 => by
    obtain ⟨⟨⟨B00, B01⟩, ⟨B10, B11⟩, ⟨B20, B21⟩, B30, B31⟩, g6, zj, zv, LW⟩ := id A
    have r0 : xR h1 48 0 = 3 := (G.2.2 48 0).trans kw.2.2.2.2.2
    have hg1 := G.1
    have ej : (xI h1 3 9).toInt = Z 2 := by rw [G.2.1 3 9 (by decide)]; exact kt.1.1 2 (by decide)
    have t1 : XT l 5 122 false 99 153 6051 10 [xf 11 48, xi kk, x2, x3] [] h1 52 [xf 11 48, xi kk, x2, x3] [] h1 := XT_path (l := l) (fr := 5) (lo := 122) (full := false) (M := 99) (n := 153) (u := 6051) (pc := 10) (L := [xf 11 48, xi kk, x2, x3]) (st := []) (h := h1) (inl := [74]) (n' := 120) (sp := [52]) (o := [1]) rfl rfl ⟨rfl, rfl, rfl⟩ rfl ⟨Nat.le_of_eq hg1.2.2.2.1, Nat.le_of_eq hg1.2.2.2.2⟩ ⟨⟨trivial, (show ¬ xR h1 48 0 = 0 from by rw [r0]; decide)⟩, (show (xI h1 (xR h1 48 0) 9) ≤ kk from by rw [r0]; exact Int32.le_iff_toInt_le.mpr (by omega))⟩
    obtain rfl : k = (Z 2).toNat := by omega
    exact ⟨kk, h1, t1, G, I9⟩
  | m + 1, k, kk, x2, x3, h1, G, hk, hm, I9 => by
    obtain ⟨⟨⟨B00, B01⟩, ⟨B10, B11⟩, ⟨B20, B21⟩, B30, B31⟩, g6, zj, zv, LW⟩ := id A
    have r0 : xR h1 48 0 = 3 := (G.2.2 48 0).trans kw.2.2.2.2.2
    have hg1 := G.1
    have ej : (xI h1 3 9).toInt = Z 2 := by rw [G.2.1 3 9 (by decide)]; exact kt.1.1 2 (by decide)
    have lk : (k : Int) < Z 2 := by omega
    have nk : kk.toNatClampNeg = k := zi_ix hk
    have sk := y_suc1 (k := kk) (by omega) (by omega)
    have kt1 : kTx 3 Z h1 := kt.q G (by decide)
    have kw1 : kW 48 3 Z Y h1 := kw.q G (by decide)
    have ehh : xI h1 52 kk.toNatClampNeg = Y (20 + k) := by rw [nk]; exact (kw1.2.1 k lk).1
    have eh := congrArg Int32.toInt ehh
    have bh := V.2.1 k lk
    obtain ⟨H, hH⟩ : ∃ H : Nat, (Y (20 + k)).toInt = H := ⟨(Y (20 + k)).toInt.toNat, by omega⟩
    have nh : (xI h1 52 kk.toNatClampNeg).toNatClampNeg = H := zi_ix (by omega)
    have emo : (xI h1 48 10).toInt = (Y 51).toInt := congrArg Int32.toInt kw1.2.2.2.1
    have ewg : xI h1 14 kk.toNatClampNeg = Int32.ofInt (Z (200 + k)) := i32_e (by rw [nk]; exact kt1.1.2.2 10 k (by decide) lk)
    have e_1 : (Int32.ofInt (1)).toInt = 1 := rfl
    by_cases cb1 : (xI h1 48 10) = (Int32.ofInt (1))
    · have e_1 : (Int32.ofInt (1)).toInt = 1 := rfl
      have dcb1 : (xI h1 48 10).toInt = (Int32.ofInt (1)).toInt := congrArg Int32.toInt cb1
      have t2 : XT l 5 122 false 99 153 6051 10 [xf 11 48, xi kk, x2, x3] [] h1 40 [xf 11 48, xi kk, x2, x3] [xi kk, xf 11 48, xi (Int32.ofInt (1)), xi (xI h1 (xR h1 48 12) ((xI h1 (xR h1 48 4) (kk).toNatClampNeg)).toNatClampNeg), xi (xI h1 (xR h1 48 4) (kk).toNatClampNeg), xf 10006 (xR h1 48 12)] h1 := XT_path (l := l) (fr := 5) (lo := 122) (full := false) (M := 99) (n := 153) (u := 6051) (pc := 10) (L := [xf 11 48, xi kk, x2, x3]) (st := []) (h := h1) (inl := [74]) (n' := 120) (sp := [40]) (o := [0, 0]) rfl rfl ⟨rfl, rfl, rfl⟩ rfl ⟨Nat.le_of_eq hg1.2.2.2.1, Nat.le_of_eq hg1.2.2.2.2⟩ ⟨⟨⟨⟨⟨⟨⟨trivial, (show ¬ xR h1 48 0 = 0 from by rw [r0]; decide)⟩, (show ¬ (xI h1 (xR h1 48 0) 9) ≤ kk from by rw [r0]; exact fun z => absurd (Int32.le_iff_toInt_le.mp z) (by omega))⟩, (vnn hg1.1 (rfl : vRf 48 12 = [57]) (by decide))⟩, (vnn hg1.1 (rfl : vRf 48 4 = [52]) (by decide))⟩, (vp_of (i := kk) (n := 8) (by omega) (by omega))⟩, (show vp_in ((xI h1 (xR h1 48 4) (kk).toNatClampNeg)) (6) from (by rw [vref hg1.1 (rfl : vRf 48 4 = [52])]; exact (vp_of (i := (xI h1 52 (kk).toNatClampNeg)) (n := 6) (by omega) (by omega) : vp_in ((xI h1 52 (kk).toNatClampNeg)) (6))))⟩, cb1⟩
      rw [vref hg1.1 (rfl : vRf 48 12 = [57]), vref hg1.1 (rfl : vRf 48 4 = [52])] at t2
      obtain ⟨v, h2, c1, g1, ev⟩ := ck_vote48_3 l Z Y kk k h1 hg1 A kt1 kw1 V (kd.q G (by decide)) (ke.q G (by decide)) hk lk
      have t3 : XT l 5 122 false 99 153 6051 40 [xf 11 48, xi kk, x2, x3] [xi kk, xf 11 48, xi (Int32.ofInt (1)), xi (xI h1 57 ((xI h1 52 (kk).toNatClampNeg)).toNatClampNeg), xi (xI h1 52 (kk).toNatClampNeg), xf 10006 57] h1 43 [xf 11 48, xi kk, x2, x3] [xi v, xi (Int32.ofInt (1)), xi (xI h1 57 ((xI h1 52 (kk).toNatClampNeg)).toNatClampNeg), xi (xI h1 52 (kk).toNatClampNeg), xf 10006 57] h2 := XT_call (l := l) (fr := 5) (lo := 122) (full := false) (M := 99) (n := 153) (u := 6051) (pc := 40) (L := [xf 11 48, xi kk, x2, x3]) (st := [xi kk, xf 11 48, xi (Int32.ofInt (1)), xi (xI h1 57 ((xI h1 52 (kk).toNatClampNeg)).toNatClampNeg), xi (xI h1 52 (kk).toNatClampNeg), xf 10006 57]) (h := h1) (i := .invokevirtual 75) (aux := 2) (nx := 43) (K := 75) (vs := [xf 11 48, xi kk]) (rs := [xi v]) (rest := [xi (Int32.ofInt (1)), xi (xI h1 57 ((xI h1 52 (kk).toNatClampNeg)).toNatClampNeg), xi (xI h1 52 (kk).toNatClampNeg), xf 10006 57]) rfl rfl rfl rfl rfl rfl c1 (by decide) (by decide) (Nat.le_of_ble_eq_true rfl) ⟨Nat.le_of_eq g1.1.2.2.2.1, Nat.le_of_eq g1.1.2.2.2.2⟩
      have t4 := t2.tr t3
      have t5 : XT l 5 122 false 99 153 6051 43 [xf 11 48, xi kk, x2, x3] [xi v, xi (Int32.ofInt (1)), xi (xI h1 57 ((xI h1 52 (kk).toNatClampNeg)).toNatClampNeg), xi (xI h1 52 (kk).toNatClampNeg), xf 10006 57] h2 10 [xf 11 48, xi (kk + Int32.ofInt (1)), x2, x3] [] (xsetI h2 57 ((xI h1 52 (kk).toNatClampNeg)).toNatClampNeg ((xI h1 57 ((xI h1 52 (kk).toNatClampNeg)).toNatClampNeg) + ((Int32.ofInt (1)) * v))) := XT_path (l := l) (fr := 5) (lo := 122) (full := false) (M := 99) (n := 153) (u := 6051) (pc := 43) (L := [xf 11 48, xi kk, x2, x3]) (st := [xi v, xi (Int32.ofInt (1)), xi (xI h1 57 ((xI h1 52 (kk).toNatClampNeg)).toNatClampNeg), xi (xI h1 52 (kk).toNatClampNeg), xf 10006 57]) (h := h2) (inl := [74]) (n' := 120) (sp := [10]) (o := []) rfl rfl ⟨rfl, rfl, rfl⟩ rfl ⟨Nat.le_of_eq g1.1.2.2.2.1, Nat.le_of_eq g1.1.2.2.2.2⟩ ⟨trivial, (vp_of (i := (xI h1 52 (kk).toNatClampNeg)) (n := 6) (by omega) (by omega))⟩
      have t6 := t4.tr t5
      have eWG : (Int32.ofInt (1)) = zWe Z Y k := by unfold zWe; rw [if_pos (by omega)]
      obtain ⟨hE, eE⟩ : ∃ x, x = (xsetI h2 57 ((xI h1 52 (kk).toNatClampNeg)).toNatClampNeg ((xI h1 57 ((xI h1 52 (kk).toNatClampNeg)).toNatClampNeg) + ((Int32.ofInt (1)) * v))) := ⟨_, rfl⟩
      have eE2 : hE = xsetI h2 57 H (xI h1 57 H + zWe Z Y k * zVo Z Y k) := by rw [eE, eWG, ev]; simp only [nh]
      rw [← eE] at t6
      have G2 : mQ [57] h h2 := G.tr g1.q
      have GE : mQ [57] h hE := by rw [eE2]; exact G2.set (by decide) (by rw [vI_u rfl (rfl : vRow 57 = sfull)]; exact i32r_of _)
      have J9 : ∀ r : Nat, (r : Int) < Z 0 → xI hE 57 r = zsum (fun p => if (Y (20 + p)).toInt = r then zWe Z Y p * zVo Z Y p else Int32.ofInt (0)) (k + 1) := by
        intro r hr
        by_cases e1 : r = H
        · rw [e1, eE2, yI_same]
          rw [e1] at hr
          exact zsum_n (I9 H hr) (if_pos hH)
        · rw [eE2, yI_ne (eq_false (fun z => e1 z.2)), g1.2.1]
          exact zsum_m (I9 r hr) (if_neg (by omega))
      obtain ⟨k3, h9, t9, G9, I10⟩ := ck_strV48_3 l Z Y h hg A kt kw V kd ke m (k + 1) (kk + Int32.ofInt (1)) (x2) (x3) hE GE (by omega) (by omega) J9
      exact ⟨k3, h9, t6.tr t9, G9, I10⟩
    · have e_1 : (Int32.ofInt (1)).toInt = 1 := rfl
      have dcb1 : ¬ (xI h1 48 10).toInt = (Int32.ofInt (1)).toInt := fun z_ => cb1 (Int32.toInt_inj.mp z_)
      have t7 : XT l 5 122 false 99 153 6051 10 [xf 11 48, xi kk, x2, x3] [] h1 40 [xf 11 48, xi kk, x2, x3] [xi kk, xf 11 48, xi (xI h1 (xR h1 (xR h1 48 0) 13) (kk).toNatClampNeg), xi (xI h1 (xR h1 48 12) ((xI h1 (xR h1 48 4) (kk).toNatClampNeg)).toNatClampNeg), xi (xI h1 (xR h1 48 4) (kk).toNatClampNeg), xf 10006 (xR h1 48 12)] h1 := XT_path (l := l) (fr := 5) (lo := 122) (full := false) (M := 99) (n := 153) (u := 6051) (pc := 10) (L := [xf 11 48, xi kk, x2, x3]) (st := []) (h := h1) (inl := [74]) (n' := 120) (sp := [40]) (o := [0, 1]) rfl rfl ⟨rfl, rfl, rfl⟩ rfl ⟨Nat.le_of_eq hg1.2.2.2.1, Nat.le_of_eq hg1.2.2.2.2⟩ ⟨⟨⟨⟨⟨⟨⟨⟨⟨⟨trivial, (show ¬ xR h1 48 0 = 0 from by rw [r0]; decide)⟩, (show ¬ (xI h1 (xR h1 48 0) 9) ≤ kk from by rw [r0]; exact fun z => absurd (Int32.le_iff_toInt_le.mp z) (by omega))⟩, (vnn hg1.1 (rfl : vRf 48 12 = [57]) (by decide))⟩, (vnn hg1.1 (rfl : vRf 48 4 = [52]) (by decide))⟩, (vp_of (i := kk) (n := 8) (by omega) (by omega))⟩, (show vp_in ((xI h1 (xR h1 48 4) (kk).toNatClampNeg)) (6) from (by rw [vref hg1.1 (rfl : vRf 48 4 = [52])]; exact (vp_of (i := (xI h1 52 (kk).toNatClampNeg)) (n := 6) (by omega) (by omega) : vp_in ((xI h1 52 (kk).toNatClampNeg)) (6))))⟩, cb1⟩, (show ¬ xR h1 48 0 = 0 from by rw [r0]; decide)⟩, (show ¬ xR h1 (xR h1 48 0) 13 = 0 from by rw [r0]; exact vnn hg1.1 (rfl : vRf 3 13 = [14]) (by decide))⟩, (vp_of (i := kk) (n := 8) (by omega) (by omega))⟩
      rw [r0, vref hg1.1 (rfl : vRf 48 12 = [57]), vref hg1.1 (rfl : vRf 48 4 = [52]), vref hg1.1 (rfl : vRf 3 13 = [14])] at t7
      obtain ⟨v, h2, c1, g1, ev⟩ := ck_vote48_3 l Z Y kk k h1 hg1 A kt1 kw1 V (kd.q G (by decide)) (ke.q G (by decide)) hk lk
      have t8 : XT l 5 122 false 99 153 6051 40 [xf 11 48, xi kk, x2, x3] [xi kk, xf 11 48, xi (xI h1 14 (kk).toNatClampNeg), xi (xI h1 57 ((xI h1 52 (kk).toNatClampNeg)).toNatClampNeg), xi (xI h1 52 (kk).toNatClampNeg), xf 10006 57] h1 43 [xf 11 48, xi kk, x2, x3] [xi v, xi (xI h1 14 (kk).toNatClampNeg), xi (xI h1 57 ((xI h1 52 (kk).toNatClampNeg)).toNatClampNeg), xi (xI h1 52 (kk).toNatClampNeg), xf 10006 57] h2 := XT_call (l := l) (fr := 5) (lo := 122) (full := false) (M := 99) (n := 153) (u := 6051) (pc := 40) (L := [xf 11 48, xi kk, x2, x3]) (st := [xi kk, xf 11 48, xi (xI h1 14 (kk).toNatClampNeg), xi (xI h1 57 ((xI h1 52 (kk).toNatClampNeg)).toNatClampNeg), xi (xI h1 52 (kk).toNatClampNeg), xf 10006 57]) (h := h1) (i := .invokevirtual 75) (aux := 2) (nx := 43) (K := 75) (vs := [xf 11 48, xi kk]) (rs := [xi v]) (rest := [xi (xI h1 14 (kk).toNatClampNeg), xi (xI h1 57 ((xI h1 52 (kk).toNatClampNeg)).toNatClampNeg), xi (xI h1 52 (kk).toNatClampNeg), xf 10006 57]) rfl rfl rfl rfl rfl rfl c1 (by decide) (by decide) (Nat.le_of_ble_eq_true rfl) ⟨Nat.le_of_eq g1.1.2.2.2.1, Nat.le_of_eq g1.1.2.2.2.2⟩
      have t9 := t7.tr t8
      have t10 : XT l 5 122 false 99 153 6051 43 [xf 11 48, xi kk, x2, x3] [xi v, xi (xI h1 14 (kk).toNatClampNeg), xi (xI h1 57 ((xI h1 52 (kk).toNatClampNeg)).toNatClampNeg), xi (xI h1 52 (kk).toNatClampNeg), xf 10006 57] h2 10 [xf 11 48, xi (kk + Int32.ofInt (1)), x2, x3] [] (xsetI h2 57 ((xI h1 52 (kk).toNatClampNeg)).toNatClampNeg ((xI h1 57 ((xI h1 52 (kk).toNatClampNeg)).toNatClampNeg) + ((xI h1 14 (kk).toNatClampNeg) * v))) := XT_path (l := l) (fr := 5) (lo := 122) (full := false) (M := 99) (n := 153) (u := 6051) (pc := 43) (L := [xf 11 48, xi kk, x2, x3]) (st := [xi v, xi (xI h1 14 (kk).toNatClampNeg), xi (xI h1 57 ((xI h1 52 (kk).toNatClampNeg)).toNatClampNeg), xi (xI h1 52 (kk).toNatClampNeg), xf 10006 57]) (h := h2) (inl := [74]) (n' := 120) (sp := [10]) (o := []) rfl rfl ⟨rfl, rfl, rfl⟩ rfl ⟨Nat.le_of_eq g1.1.2.2.2.1, Nat.le_of_eq g1.1.2.2.2.2⟩ ⟨trivial, (vp_of (i := (xI h1 52 (kk).toNatClampNeg)) (n := 6) (by omega) (by omega))⟩
      have t11 := t9.tr t10
      have eWG : (xI h1 14 (kk).toNatClampNeg) = zWe Z Y k := by unfold zWe; rw [if_neg (by omega)]; exact ewg
      obtain ⟨hE, eE⟩ : ∃ x, x = (xsetI h2 57 ((xI h1 52 (kk).toNatClampNeg)).toNatClampNeg ((xI h1 57 ((xI h1 52 (kk).toNatClampNeg)).toNatClampNeg) + ((xI h1 14 (kk).toNatClampNeg) * v))) := ⟨_, rfl⟩
      have eE2 : hE = xsetI h2 57 H (xI h1 57 H + zWe Z Y k * zVo Z Y k) := by rw [eE, eWG, ev]; simp only [nh]
      rw [← eE] at t11
      have G2 : mQ [57] h h2 := G.tr g1.q
      have GE : mQ [57] h hE := by rw [eE2]; exact G2.set (by decide) (by rw [vI_u rfl (rfl : vRow 57 = sfull)]; exact i32r_of _)
      have J9 : ∀ r : Nat, (r : Int) < Z 0 → xI hE 57 r = zsum (fun p => if (Y (20 + p)).toInt = r then zWe Z Y p * zVo Z Y p else Int32.ofInt (0)) (k + 1) := by
        intro r hr
        by_cases e1 : r = H
        · rw [e1, eE2, yI_same]
          rw [e1] at hr
          exact zsum_n (I9 H hr) (if_pos hH)
        · rw [eE2, yI_ne (eq_false (fun z => e1 z.2)), g1.2.1]
          exact zsum_m (I9 r hr) (if_neg (by omega))
      obtain ⟨k3, h9, t9, G9, I10⟩ := ck_strV48_3 l Z Y h hg A kt kw V kd ke m (k + 1) (kk + Int32.ofInt (1)) (x2) (x3) hE GE (by omega) (by omega) J9
      exact ⟨k3, h9, t11.tr t9, G9, I10⟩
set_option maxRecDepth 100000 in
set_option maxHeartbeats 4000000 in
theorem ck_strS48_3 (l : Launch) (Z : Nat → Int) (Y : Nat → Int32) (h : XH) (hg : mI h) (A : zAll Z) (kt : kTx 3 Z h) (kw : kW 48 3 Z Y h) (V : zVd Z Y) (k9 : ∀ r : Nat, (r : Int) < Z 0 → xI h 57 r = zVs Z Y r) : ∀ (m k : Nat) (kk ch : Int32) (x3 : XV) (h1 : XH), mQ [49] h h1 → kk.toInt = k → (k : Int) + m = Z 0 → (∀ r : Nat, r < k → xI h1 49 r = zSt (Y r) (zVs Z Y r)) → (∀ r : Nat, k ≤ r → (r : Int) < Z 0 → xI h1 49 r = Y r) → zhc Z Y k ch → ∃ k2 ch2 y3 h2, XT l 5 122 false 99 153 6051 56 [xf 11 48, xi ch, xi kk, x3] [] h1 116 [xf 11 48, xi ch2, xi k2, y3] [] h2 ∧ mQ [49] h h2 ∧ (∀ r : Nat, (r : Int) < Z 0 → xI h2 49 r = zSt (Y r) (zVs Z Y r)) ∧ zhc Z Y (Z 0).toNat ch2
  | 0, k, kk, ch, x3, h1, G, hk, hm, I1, I2, zc => by
    obtain ⟨⟨⟨B00, B01⟩, ⟨B10, B11⟩, ⟨B20, B21⟩, B30, B31⟩, g6, zj, zv, LW⟩ := id A
    have r0 : xR h1 48 0 = 3 := (G.2.2 48 0).trans kw.2.2.2.2.2
    have hg1 := G.1
    have ej : (xI h1 3 0).toInt = Z 0 := by rw [G.2.1 3 0 (by decide)]; exact kt.1.1 0 (by decide)
    have t1 : XT l 5 122 false 99 153 6051 56 [xf 11 48, xi ch, xi kk, x3] [] h1 116 [xf 11 48, xi ch, xi kk, x3] [] h1 := XT_path (l := l) (fr := 5) (lo := 122) (full := false) (M := 99) (n := 153) (u := 6051) (pc := 56) (L := [xf 11 48, xi ch, xi kk, x3]) (st := []) (h := h1) (inl := [100]) (n' := 120) (sp := [116]) (o := [1]) rfl rfl ⟨rfl, rfl, rfl⟩ rfl ⟨Nat.le_of_eq hg1.2.2.2.1, Nat.le_of_eq hg1.2.2.2.2⟩ ⟨⟨trivial, (show ¬ xR h1 48 0 = 0 from by rw [r0]; decide)⟩, (show (xI h1 (xR h1 48 0) 0) ≤ kk from by rw [r0]; exact Int32.le_iff_toInt_le.mpr (by omega))⟩
    obtain rfl : k = (Z 0).toNat := by omega
    exact ⟨kk, ch, x3, h1, t1, G, fun r hr => I1 r (by omega), zc⟩
  | m + 1, k, kk, ch, x3, h1, G, hk, hm, I1, I2, zc => by
    obtain ⟨⟨⟨B00, B01⟩, ⟨B10, B11⟩, ⟨B20, B21⟩, B30, B31⟩, g6, zj, zv, LW⟩ := id A
    have r0 : xR h1 48 0 = 3 := (G.2.2 48 0).trans kw.2.2.2.2.2
    have hg1 := G.1
    have ej : (xI h1 3 0).toInt = Z 0 := by rw [G.2.1 3 0 (by decide)]; exact kt.1.1 0 (by decide)
    have lk : (k : Int) < Z 0 := by omega
    have nk : kk.toNatClampNeg = k := zi_ix hk
    have sk := y_suc1 (k := kk) (by omega) (by omega)
    have bs := V.1 k lk
    have eS : xI h1 49 kk.toNatClampNeg = Y k := by rw [nk]; exact I2 k (Nat.le_refl _) lk
    have eV : xI h1 57 kk.toNatClampNeg = zVs Z Y k := by rw [nk, G.2.1 57 k (by decide)]; exact k9 k lk
    have eV2 := congrArg Int32.toInt eV
    have ez : (0 : Int32).toInt = 0 := rfl
    by_cases cb1 : (xI h1 (xR h1 48 12) (kk).toNatClampNeg) ≤ 0
    · have e_0 : (0 : Int32).toInt = 0 := rfl
      have cb1r := cb1
      rw [vref hg1.1 (rfl : vRf 48 12 = [57])] at cb1r
      have dcb1 : (xI h1 57 (kk).toNatClampNeg).toInt ≤ (0 : Int32).toInt := Int32.le_iff_toInt_le.mp cb1r
      by_cases cb2 : (0 : Int32) ≤ (xI h1 (xR h1 48 12) (kk).toNatClampNeg)
      · have e_0 : (0 : Int32).toInt = 0 := rfl
        have cb2r := cb2
        rw [vref hg1.1 (rfl : vRf 48 12 = [57])] at cb2r
        have dcb2 : (0 : Int32).toInt ≤ (xI h1 57 (kk).toNatClampNeg).toInt := Int32.le_iff_toInt_le.mp cb2r
        by_cases cb3 : ch = 0
        · have e_0 : (0 : Int32).toInt = 0 := rfl
          have dcb3 : (ch).toInt = (0 : Int32).toInt := congrArg Int32.toInt cb3
          by_cases cb4 : (xI h1 (xR h1 48 1) (kk).toNatClampNeg) = (xI h1 (xR h1 48 1) (kk).toNatClampNeg)
          · have cb4r := cb4
            rw [vref hg1.1 (rfl : vRf 48 1 = [49])] at cb4r
            have dcb4 : (xI h1 49 (kk).toNatClampNeg).toInt = (xI h1 49 (kk).toNatClampNeg).toInt := congrArg Int32.toInt cb4r
            have t5 : XT l 5 122 false 99 153 6051 56 [xf 11 48, xi ch, xi kk, x3] [] h1 56 [xf 11 48, xi (Int32.ofInt (0)), xi (kk + Int32.ofInt (1)), xi (xI h1 (xR h1 48 1) (kk).toNatClampNeg)] [] (xsetI h1 (xR h1 48 1) (kk).toNatClampNeg (xI h1 (xR h1 48 1) (kk).toNatClampNeg)) := XT_path (l := l) (fr := 5) (lo := 122) (full := false) (M := 99) (n := 153) (u := 6051) (pc := 56) (L := [xf 11 48, xi ch, xi kk, x3]) (st := []) (h := h1) (inl := [100]) (n' := 120) (sp := [56]) (o := [0, 1, 1, 0, 1]) rfl rfl ⟨rfl, rfl, rfl⟩ rfl ⟨Nat.le_of_eq hg1.2.2.2.1, Nat.le_of_eq hg1.2.2.2.2⟩ ⟨⟨⟨⟨⟨⟨⟨⟨⟨⟨⟨⟨⟨⟨trivial, (show ¬ xR h1 48 0 = 0 from by rw [r0]; decide)⟩, (show ¬ (xI h1 (xR h1 48 0) 0) ≤ kk from by rw [r0]; exact fun z => absurd (Int32.le_iff_toInt_le.mp z) (by omega))⟩, (vnn hg1.1 (rfl : vRf 48 1 = [49]) (by decide))⟩, (vp_of (i := kk) (n := 6) (by omega) (by omega))⟩, (vnn hg1.1 (rfl : vRf 48 12 = [57]) (by decide))⟩, (vp_of (i := kk) (n := 6) (by omega) (by omega))⟩, cb1⟩, cb2⟩, cb3⟩, (vnn hg1.1 (rfl : vRf 48 1 = [49]) (by decide))⟩, (vp_of (i := kk) (n := 6) (by omega) (by omega))⟩, cb4⟩, (vnn hg1.1 (rfl : vRf 48 1 = [49]) (by decide))⟩, (vp_of (i := kk) (n := 6) (by omega) (by omega))⟩
            rw [vref hg1.1 (rfl : vRf 48 1 = [49])] at t5
            have eN : (xI h1 49 (kk).toNatClampNeg) = zSt (Y k) (zVs Z Y k) := by rw [eS]; exact zSt_z (by omega) (by omega)
            obtain ⟨hE, eE⟩ : ∃ x, x = (xsetI h1 49 (kk).toNatClampNeg (xI h1 49 (kk).toNatClampNeg)) := ⟨_, rfl⟩
            have eE2 : hE = xsetI h1 49 k (zSt (Y k) (zVs Z Y k)) := by rw [eE, eN, nk]
            rw [← eE] at t5
            have bz := zSt_b (v := zVs Z Y k) bs
            have GE : mQ [49] h hE := by rw [eE2]; exact G.set (by decide) (by rw [vI_u rfl (rfl : vRow 49 = (0, 9))]; exact ⟨by show (0 : Int) ≤ _; omega, by show _ ≤ (9 : Int); omega⟩)
            have zc2 : zhc Z Y (k + 1) (Int32.ofInt (0)) := zhc_b zc cb3 (eN.symm.trans ((Int32.toInt_inj.mp dcb4).trans eS))
            obtain ⟨k3, c3, y3, h9, t9, G9, I9, z9⟩ := ck_strS48_3 l Z Y h hg A kt kw V k9 m (k + 1) (kk + Int32.ofInt (1)) (Int32.ofInt (0)) (xi (xI h1 49 (kk).toNatClampNeg)) hE GE (by omega) (by omega) (fun r hr => by rw [eE2]; exact if e : r = k then (by rw [e, yI_same]) else (by rw [yI_ne (eq_false (fun z => e z.2))]; exact I1 r (by omega))) (fun r h1_ h2_ => by rw [eE2, yI_ne (eq_false (fun z => by have := z.2; omega))]; exact I2 r (by omega) h2_) zc2
            exact ⟨k3, c3, y3, h9, t5.tr t9, G9, I9, z9⟩
          · have cb4r := cb4
            rw [vref hg1.1 (rfl : vRf 48 1 = [49])] at cb4r
            have dcb4 : ¬ (xI h1 49 (kk).toNatClampNeg).toInt = (xI h1 49 (kk).toNatClampNeg).toInt := fun z_ => cb4r (Int32.toInt_inj.mp z_)
            have t6 : XT l 5 122 false 99 153 6051 56 [xf 11 48, xi ch, xi kk, x3] [] h1 56 [xf 11 48, xi (Int32.ofInt (1)), xi (kk + Int32.ofInt (1)), xi (xI h1 (xR h1 48 1) (kk).toNatClampNeg)] [] (xsetI h1 (xR h1 48 1) (kk).toNatClampNeg (xI h1 (xR h1 48 1) (kk).toNatClampNeg)) := XT_path (l := l) (fr := 5) (lo := 122) (full := false) (M := 99) (n := 153) (u := 6051) (pc := 56) (L := [xf 11 48, xi ch, xi kk, x3]) (st := []) (h := h1) (inl := [100]) (n' := 120) (sp := [56]) (o := [0, 1, 1, 0, 0]) rfl rfl ⟨rfl, rfl, rfl⟩ rfl ⟨Nat.le_of_eq hg1.2.2.2.1, Nat.le_of_eq hg1.2.2.2.2⟩ ⟨⟨⟨⟨⟨⟨⟨⟨⟨⟨⟨⟨⟨⟨trivial, (show ¬ xR h1 48 0 = 0 from by rw [r0]; decide)⟩, (show ¬ (xI h1 (xR h1 48 0) 0) ≤ kk from by rw [r0]; exact fun z => absurd (Int32.le_iff_toInt_le.mp z) (by omega))⟩, (vnn hg1.1 (rfl : vRf 48 1 = [49]) (by decide))⟩, (vp_of (i := kk) (n := 6) (by omega) (by omega))⟩, (vnn hg1.1 (rfl : vRf 48 12 = [57]) (by decide))⟩, (vp_of (i := kk) (n := 6) (by omega) (by omega))⟩, cb1⟩, cb2⟩, cb3⟩, (vnn hg1.1 (rfl : vRf 48 1 = [49]) (by decide))⟩, (vp_of (i := kk) (n := 6) (by omega) (by omega))⟩, cb4⟩, (vnn hg1.1 (rfl : vRf 48 1 = [49]) (by decide))⟩, (vp_of (i := kk) (n := 6) (by omega) (by omega))⟩
            rw [vref hg1.1 (rfl : vRf 48 1 = [49])] at t6
            have eN : (xI h1 49 (kk).toNatClampNeg) = zSt (Y k) (zVs Z Y k) := by rw [eS]; exact zSt_z (by omega) (by omega)
            obtain ⟨hE, eE⟩ : ∃ x, x = (xsetI h1 49 (kk).toNatClampNeg (xI h1 49 (kk).toNatClampNeg)) := ⟨_, rfl⟩
            have eE2 : hE = xsetI h1 49 k (zSt (Y k) (zVs Z Y k)) := by rw [eE, eN, nk]
            rw [← eE] at t6
            have bz := zSt_b (v := zVs Z Y k) bs
            have GE : mQ [49] h hE := by rw [eE2]; exact G.set (by decide) (by rw [vI_u rfl (rfl : vRow 49 = (0, 9))]; exact ⟨by show (0 : Int) ≤ _; omega, by show _ ≤ (9 : Int); omega⟩)
            have zc2 : zhc Z Y (k + 1) (Int32.ofInt (1)) := zhc_c (fun y => dcb4 (congrArg Int32.toInt ((eN.trans y).trans eS.symm)))
            obtain ⟨k3, c3, y3, h9, t9, G9, I9, z9⟩ := ck_strS48_3 l Z Y h hg A kt kw V k9 m (k + 1) (kk + Int32.ofInt (1)) (Int32.ofInt (1)) (xi (xI h1 49 (kk).toNatClampNeg)) hE GE (by omega) (by omega) (fun r hr => by rw [eE2]; exact if e : r = k then (by rw [e, yI_same]) else (by rw [yI_ne (eq_false (fun z => e z.2))]; exact I1 r (by omega))) (fun r h1_ h2_ => by rw [eE2, yI_ne (eq_false (fun z => by have := z.2; omega))]; exact I2 r (by omega) h2_) zc2
            exact ⟨k3, c3, y3, h9, t6.tr t9, G9, I9, z9⟩
        · have e_0 : (0 : Int32).toInt = 0 := rfl
          have dcb3 : ¬ (ch).toInt = (0 : Int32).toInt := fun z_ => cb3 (Int32.toInt_inj.mp z_)
          have t7 : XT l 5 122 false 99 153 6051 56 [xf 11 48, xi ch, xi kk, x3] [] h1 56 [xf 11 48, xi (Int32.ofInt (1)), xi (kk + Int32.ofInt (1)), xi (xI h1 (xR h1 48 1) (kk).toNatClampNeg)] [] (xsetI h1 (xR h1 48 1) (kk).toNatClampNeg (xI h1 (xR h1 48 1) (kk).toNatClampNeg)) := XT_path (l := l) (fr := 5) (lo := 122) (full := false) (M := 99) (n := 153) (u := 6051) (pc := 56) (L := [xf 11 48, xi ch, xi kk, x3]) (st := []) (h := h1) (inl := [100]) (n' := 120) (sp := [56]) (o := [0, 1, 1, 1]) rfl rfl ⟨rfl, rfl, rfl⟩ rfl ⟨Nat.le_of_eq hg1.2.2.2.1, Nat.le_of_eq hg1.2.2.2.2⟩ ⟨⟨⟨⟨⟨⟨⟨⟨⟨⟨⟨trivial, (show ¬ xR h1 48 0 = 0 from by rw [r0]; decide)⟩, (show ¬ (xI h1 (xR h1 48 0) 0) ≤ kk from by rw [r0]; exact fun z => absurd (Int32.le_iff_toInt_le.mp z) (by omega))⟩, (vnn hg1.1 (rfl : vRf 48 1 = [49]) (by decide))⟩, (vp_of (i := kk) (n := 6) (by omega) (by omega))⟩, (vnn hg1.1 (rfl : vRf 48 12 = [57]) (by decide))⟩, (vp_of (i := kk) (n := 6) (by omega) (by omega))⟩, cb1⟩, cb2⟩, cb3⟩, (vnn hg1.1 (rfl : vRf 48 1 = [49]) (by decide))⟩, (vp_of (i := kk) (n := 6) (by omega) (by omega))⟩
          rw [vref hg1.1 (rfl : vRf 48 1 = [49])] at t7
          have eN : (xI h1 49 (kk).toNatClampNeg) = zSt (Y k) (zVs Z Y k) := by rw [eS]; exact zSt_z (by omega) (by omega)
          obtain ⟨hE, eE⟩ : ∃ x, x = (xsetI h1 49 (kk).toNatClampNeg (xI h1 49 (kk).toNatClampNeg)) := ⟨_, rfl⟩
          have eE2 : hE = xsetI h1 49 k (zSt (Y k) (zVs Z Y k)) := by rw [eE, eN, nk]
          rw [← eE] at t7
          have bz := zSt_b (v := zVs Z Y k) bs
          have GE : mQ [49] h hE := by rw [eE2]; exact G.set (by decide) (by rw [vI_u rfl (rfl : vRow 49 = (0, 9))]; exact ⟨by show (0 : Int) ≤ _; omega, by show _ ≤ (9 : Int); omega⟩)
          have zc2 : zhc Z Y (k + 1) (Int32.ofInt (1)) := zhc_a zc cb3
          obtain ⟨k3, c3, y3, h9, t9, G9, I9, z9⟩ := ck_strS48_3 l Z Y h hg A kt kw V k9 m (k + 1) (kk + Int32.ofInt (1)) (Int32.ofInt (1)) (xi (xI h1 49 (kk).toNatClampNeg)) hE GE (by omega) (by omega) (fun r hr => by rw [eE2]; exact if e : r = k then (by rw [e, yI_same]) else (by rw [yI_ne (eq_false (fun z => e z.2))]; exact I1 r (by omega))) (fun r h1_ h2_ => by rw [eE2, yI_ne (eq_false (fun z => by have := z.2; omega))]; exact I2 r (by omega) h2_) zc2
          exact ⟨k3, c3, y3, h9, t7.tr t9, G9, I9, z9⟩
      · have e_0 : (0 : Int32).toInt = 0 := rfl
        have cb2r := cb2
        rw [vref hg1.1 (rfl : vRf 48 12 = [57])] at cb2r
        have dcb2 : (xI h1 57 (kk).toNatClampNeg).toInt < (0 : Int32).toInt := Int32.lt_iff_toInt_lt.mp (Int32.not_le.mp cb2r)
        by_cases cb8 : ch = 0
        · have e_0 : (0 : Int32).toInt = 0 := rfl
          have dcb8 : (ch).toInt = (0 : Int32).toInt := congrArg Int32.toInt cb8
          by_cases cb9 : (if (Int32.ofInt (1)) < ((xI h1 (xR h1 48 1) (kk).toNatClampNeg) - (Int32.ofInt (1))) then ((xI h1 (xR h1 48 1) (kk).toNatClampNeg) - (Int32.ofInt (1))) else (Int32.ofInt (1))) = (xI h1 (xR h1 48 1) (kk).toNatClampNeg)
          · have e_1 : (Int32.ofInt (1)).toInt = 1 := rfl
            have cb9r := cb9
            rw [vref hg1.1 (rfl : vRf 48 1 = [49])] at cb9r
            have dcb9 : (if (Int32.ofInt (1)) < ((xI h1 49 (kk).toNatClampNeg) - (Int32.ofInt (1))) then ((xI h1 49 (kk).toNatClampNeg) - (Int32.ofInt (1))) else (Int32.ofInt (1))).toInt = (xI h1 49 (kk).toNatClampNeg).toInt := congrArg Int32.toInt cb9r
            have t10 : XT l 5 122 false 99 153 6051 56 [xf 11 48, xi ch, xi kk, x3] [] h1 56 [xf 11 48, xi (Int32.ofInt (0)), xi (kk + Int32.ofInt (1)), xi (if (Int32.ofInt (1)) < ((xI h1 (xR h1 48 1) (kk).toNatClampNeg) - (Int32.ofInt (1))) then ((xI h1 (xR h1 48 1) (kk).toNatClampNeg) - (Int32.ofInt (1))) else (Int32.ofInt (1)))] [] (xsetI h1 (xR h1 48 1) (kk).toNatClampNeg (if (Int32.ofInt (1)) < ((xI h1 (xR h1 48 1) (kk).toNatClampNeg) - (Int32.ofInt (1))) then ((xI h1 (xR h1 48 1) (kk).toNatClampNeg) - (Int32.ofInt (1))) else (Int32.ofInt (1)))) := XT_path (l := l) (fr := 5) (lo := 122) (full := false) (M := 99) (n := 153) (u := 6051) (pc := 56) (L := [xf 11 48, xi ch, xi kk, x3]) (st := []) (h := h1) (inl := [100]) (n' := 120) (sp := [56]) (o := [0, 1, 0, 0, 1]) rfl rfl ⟨rfl, rfl, rfl⟩ rfl ⟨Nat.le_of_eq hg1.2.2.2.1, Nat.le_of_eq hg1.2.2.2.2⟩ ⟨⟨⟨⟨⟨⟨⟨⟨⟨⟨⟨⟨⟨⟨trivial, (show ¬ xR h1 48 0 = 0 from by rw [r0]; decide)⟩, (show ¬ (xI h1 (xR h1 48 0) 0) ≤ kk from by rw [r0]; exact fun z => absurd (Int32.le_iff_toInt_le.mp z) (by omega))⟩, (vnn hg1.1 (rfl : vRf 48 1 = [49]) (by decide))⟩, (vp_of (i := kk) (n := 6) (by omega) (by omega))⟩, (vnn hg1.1 (rfl : vRf 48 12 = [57]) (by decide))⟩, (vp_of (i := kk) (n := 6) (by omega) (by omega))⟩, cb1⟩, cb2⟩, cb8⟩, (vnn hg1.1 (rfl : vRf 48 1 = [49]) (by decide))⟩, (vp_of (i := kk) (n := 6) (by omega) (by omega))⟩, cb9⟩, (vnn hg1.1 (rfl : vRf 48 1 = [49]) (by decide))⟩, (vp_of (i := kk) (n := 6) (by omega) (by omega))⟩
            rw [vref hg1.1 (rfl : vRf 48 1 = [49])] at t10
            have eN : (if (Int32.ofInt (1)) < ((xI h1 49 (kk).toNatClampNeg) - (Int32.ofInt (1))) then ((xI h1 49 (kk).toNatClampNeg) - (Int32.ofInt (1))) else (Int32.ofInt (1))) = zSt (Y k) (zVs Z Y k) := by rw [eS]; exact zSt_m bs (by omega) (by omega)
            obtain ⟨hE, eE⟩ : ∃ x, x = (xsetI h1 49 (kk).toNatClampNeg (if (Int32.ofInt (1)) < ((xI h1 49 (kk).toNatClampNeg) - (Int32.ofInt (1))) then ((xI h1 49 (kk).toNatClampNeg) - (Int32.ofInt (1))) else (Int32.ofInt (1)))) := ⟨_, rfl⟩
            have eE2 : hE = xsetI h1 49 k (zSt (Y k) (zVs Z Y k)) := by rw [eE, eN, nk]
            rw [← eE] at t10
            have bz := zSt_b (v := zVs Z Y k) bs
            have GE : mQ [49] h hE := by rw [eE2]; exact G.set (by decide) (by rw [vI_u rfl (rfl : vRow 49 = (0, 9))]; exact ⟨by show (0 : Int) ≤ _; omega, by show _ ≤ (9 : Int); omega⟩)
            have zc2 : zhc Z Y (k + 1) (Int32.ofInt (0)) := zhc_b zc cb8 (eN.symm.trans ((Int32.toInt_inj.mp dcb9).trans eS))
            obtain ⟨k3, c3, y3, h9, t9, G9, I9, z9⟩ := ck_strS48_3 l Z Y h hg A kt kw V k9 m (k + 1) (kk + Int32.ofInt (1)) (Int32.ofInt (0)) (xi (if (Int32.ofInt (1)) < ((xI h1 49 (kk).toNatClampNeg) - (Int32.ofInt (1))) then ((xI h1 49 (kk).toNatClampNeg) - (Int32.ofInt (1))) else (Int32.ofInt (1)))) hE GE (by omega) (by omega) (fun r hr => by rw [eE2]; exact if e : r = k then (by rw [e, yI_same]) else (by rw [yI_ne (eq_false (fun z => e z.2))]; exact I1 r (by omega))) (fun r h1_ h2_ => by rw [eE2, yI_ne (eq_false (fun z => by have := z.2; omega))]; exact I2 r (by omega) h2_) zc2
            exact ⟨k3, c3, y3, h9, t10.tr t9, G9, I9, z9⟩
          · have e_1 : (Int32.ofInt (1)).toInt = 1 := rfl
            have cb9r := cb9
            rw [vref hg1.1 (rfl : vRf 48 1 = [49])] at cb9r
            have dcb9 : ¬ (if (Int32.ofInt (1)) < ((xI h1 49 (kk).toNatClampNeg) - (Int32.ofInt (1))) then ((xI h1 49 (kk).toNatClampNeg) - (Int32.ofInt (1))) else (Int32.ofInt (1))).toInt = (xI h1 49 (kk).toNatClampNeg).toInt := fun z_ => cb9r (Int32.toInt_inj.mp z_)
            have t11 : XT l 5 122 false 99 153 6051 56 [xf 11 48, xi ch, xi kk, x3] [] h1 56 [xf 11 48, xi (Int32.ofInt (1)), xi (kk + Int32.ofInt (1)), xi (if (Int32.ofInt (1)) < ((xI h1 (xR h1 48 1) (kk).toNatClampNeg) - (Int32.ofInt (1))) then ((xI h1 (xR h1 48 1) (kk).toNatClampNeg) - (Int32.ofInt (1))) else (Int32.ofInt (1)))] [] (xsetI h1 (xR h1 48 1) (kk).toNatClampNeg (if (Int32.ofInt (1)) < ((xI h1 (xR h1 48 1) (kk).toNatClampNeg) - (Int32.ofInt (1))) then ((xI h1 (xR h1 48 1) (kk).toNatClampNeg) - (Int32.ofInt (1))) else (Int32.ofInt (1)))) := XT_path (l := l) (fr := 5) (lo := 122) (full := false) (M := 99) (n := 153) (u := 6051) (pc := 56) (L := [xf 11 48, xi ch, xi kk, x3]) (st := []) (h := h1) (inl := [100]) (n' := 120) (sp := [56]) (o := [0, 1, 0, 0, 0]) rfl rfl ⟨rfl, rfl, rfl⟩ rfl ⟨Nat.le_of_eq hg1.2.2.2.1, Nat.le_of_eq hg1.2.2.2.2⟩ ⟨⟨⟨⟨⟨⟨⟨⟨⟨⟨⟨⟨⟨⟨trivial, (show ¬ xR h1 48 0 = 0 from by rw [r0]; decide)⟩, (show ¬ (xI h1 (xR h1 48 0) 0) ≤ kk from by rw [r0]; exact fun z => absurd (Int32.le_iff_toInt_le.mp z) (by omega))⟩, (vnn hg1.1 (rfl : vRf 48 1 = [49]) (by decide))⟩, (vp_of (i := kk) (n := 6) (by omega) (by omega))⟩, (vnn hg1.1 (rfl : vRf 48 12 = [57]) (by decide))⟩, (vp_of (i := kk) (n := 6) (by omega) (by omega))⟩, cb1⟩, cb2⟩, cb8⟩, (vnn hg1.1 (rfl : vRf 48 1 = [49]) (by decide))⟩, (vp_of (i := kk) (n := 6) (by omega) (by omega))⟩, cb9⟩, (vnn hg1.1 (rfl : vRf 48 1 = [49]) (by decide))⟩, (vp_of (i := kk) (n := 6) (by omega) (by omega))⟩
            rw [vref hg1.1 (rfl : vRf 48 1 = [49])] at t11
            have eN : (if (Int32.ofInt (1)) < ((xI h1 49 (kk).toNatClampNeg) - (Int32.ofInt (1))) then ((xI h1 49 (kk).toNatClampNeg) - (Int32.ofInt (1))) else (Int32.ofInt (1))) = zSt (Y k) (zVs Z Y k) := by rw [eS]; exact zSt_m bs (by omega) (by omega)
            obtain ⟨hE, eE⟩ : ∃ x, x = (xsetI h1 49 (kk).toNatClampNeg (if (Int32.ofInt (1)) < ((xI h1 49 (kk).toNatClampNeg) - (Int32.ofInt (1))) then ((xI h1 49 (kk).toNatClampNeg) - (Int32.ofInt (1))) else (Int32.ofInt (1)))) := ⟨_, rfl⟩
            have eE2 : hE = xsetI h1 49 k (zSt (Y k) (zVs Z Y k)) := by rw [eE, eN, nk]
            rw [← eE] at t11
            have bz := zSt_b (v := zVs Z Y k) bs
            have GE : mQ [49] h hE := by rw [eE2]; exact G.set (by decide) (by rw [vI_u rfl (rfl : vRow 49 = (0, 9))]; exact ⟨by show (0 : Int) ≤ _; omega, by show _ ≤ (9 : Int); omega⟩)
            have zc2 : zhc Z Y (k + 1) (Int32.ofInt (1)) := zhc_c (fun y => dcb9 (congrArg Int32.toInt ((eN.trans y).trans eS.symm)))
            obtain ⟨k3, c3, y3, h9, t9, G9, I9, z9⟩ := ck_strS48_3 l Z Y h hg A kt kw V k9 m (k + 1) (kk + Int32.ofInt (1)) (Int32.ofInt (1)) (xi (if (Int32.ofInt (1)) < ((xI h1 49 (kk).toNatClampNeg) - (Int32.ofInt (1))) then ((xI h1 49 (kk).toNatClampNeg) - (Int32.ofInt (1))) else (Int32.ofInt (1)))) hE GE (by omega) (by omega) (fun r hr => by rw [eE2]; exact if e : r = k then (by rw [e, yI_same]) else (by rw [yI_ne (eq_false (fun z => e z.2))]; exact I1 r (by omega))) (fun r h1_ h2_ => by rw [eE2, yI_ne (eq_false (fun z => by have := z.2; omega))]; exact I2 r (by omega) h2_) zc2
            exact ⟨k3, c3, y3, h9, t11.tr t9, G9, I9, z9⟩
        · have e_0 : (0 : Int32).toInt = 0 := rfl
          have dcb8 : ¬ (ch).toInt = (0 : Int32).toInt := fun z_ => cb8 (Int32.toInt_inj.mp z_)
          have t12 : XT l 5 122 false 99 153 6051 56 [xf 11 48, xi ch, xi kk, x3] [] h1 56 [xf 11 48, xi (Int32.ofInt (1)), xi (kk + Int32.ofInt (1)), xi (if (Int32.ofInt (1)) < ((xI h1 (xR h1 48 1) (kk).toNatClampNeg) - (Int32.ofInt (1))) then ((xI h1 (xR h1 48 1) (kk).toNatClampNeg) - (Int32.ofInt (1))) else (Int32.ofInt (1)))] [] (xsetI h1 (xR h1 48 1) (kk).toNatClampNeg (if (Int32.ofInt (1)) < ((xI h1 (xR h1 48 1) (kk).toNatClampNeg) - (Int32.ofInt (1))) then ((xI h1 (xR h1 48 1) (kk).toNatClampNeg) - (Int32.ofInt (1))) else (Int32.ofInt (1)))) := XT_path (l := l) (fr := 5) (lo := 122) (full := false) (M := 99) (n := 153) (u := 6051) (pc := 56) (L := [xf 11 48, xi ch, xi kk, x3]) (st := []) (h := h1) (inl := [100]) (n' := 120) (sp := [56]) (o := [0, 1, 0, 1]) rfl rfl ⟨rfl, rfl, rfl⟩ rfl ⟨Nat.le_of_eq hg1.2.2.2.1, Nat.le_of_eq hg1.2.2.2.2⟩ ⟨⟨⟨⟨⟨⟨⟨⟨⟨⟨⟨trivial, (show ¬ xR h1 48 0 = 0 from by rw [r0]; decide)⟩, (show ¬ (xI h1 (xR h1 48 0) 0) ≤ kk from by rw [r0]; exact fun z => absurd (Int32.le_iff_toInt_le.mp z) (by omega))⟩, (vnn hg1.1 (rfl : vRf 48 1 = [49]) (by decide))⟩, (vp_of (i := kk) (n := 6) (by omega) (by omega))⟩, (vnn hg1.1 (rfl : vRf 48 12 = [57]) (by decide))⟩, (vp_of (i := kk) (n := 6) (by omega) (by omega))⟩, cb1⟩, cb2⟩, cb8⟩, (vnn hg1.1 (rfl : vRf 48 1 = [49]) (by decide))⟩, (vp_of (i := kk) (n := 6) (by omega) (by omega))⟩
          rw [vref hg1.1 (rfl : vRf 48 1 = [49])] at t12
          have eN : (if (Int32.ofInt (1)) < ((xI h1 49 (kk).toNatClampNeg) - (Int32.ofInt (1))) then ((xI h1 49 (kk).toNatClampNeg) - (Int32.ofInt (1))) else (Int32.ofInt (1))) = zSt (Y k) (zVs Z Y k) := by rw [eS]; exact zSt_m bs (by omega) (by omega)
          obtain ⟨hE, eE⟩ : ∃ x, x = (xsetI h1 49 (kk).toNatClampNeg (if (Int32.ofInt (1)) < ((xI h1 49 (kk).toNatClampNeg) - (Int32.ofInt (1))) then ((xI h1 49 (kk).toNatClampNeg) - (Int32.ofInt (1))) else (Int32.ofInt (1)))) := ⟨_, rfl⟩
          have eE2 : hE = xsetI h1 49 k (zSt (Y k) (zVs Z Y k)) := by rw [eE, eN, nk]
          rw [← eE] at t12
          have bz := zSt_b (v := zVs Z Y k) bs
          have GE : mQ [49] h hE := by rw [eE2]; exact G.set (by decide) (by rw [vI_u rfl (rfl : vRow 49 = (0, 9))]; exact ⟨by show (0 : Int) ≤ _; omega, by show _ ≤ (9 : Int); omega⟩)
          have zc2 : zhc Z Y (k + 1) (Int32.ofInt (1)) := zhc_a zc cb8
          obtain ⟨k3, c3, y3, h9, t9, G9, I9, z9⟩ := ck_strS48_3 l Z Y h hg A kt kw V k9 m (k + 1) (kk + Int32.ofInt (1)) (Int32.ofInt (1)) (xi (if (Int32.ofInt (1)) < ((xI h1 49 (kk).toNatClampNeg) - (Int32.ofInt (1))) then ((xI h1 49 (kk).toNatClampNeg) - (Int32.ofInt (1))) else (Int32.ofInt (1)))) hE GE (by omega) (by omega) (fun r hr => by rw [eE2]; exact if e : r = k then (by rw [e, yI_same]) else (by rw [yI_ne (eq_false (fun z => e z.2))]; exact I1 r (by omega))) (fun r h1_ h2_ => by rw [eE2, yI_ne (eq_false (fun z => by have := z.2; omega))]; exact I2 r (by omega) h2_) zc2
          exact ⟨k3, c3, y3, h9, t12.tr t9, G9, I9, z9⟩
    · have e_0 : (0 : Int32).toInt = 0 := rfl
      have cb1r := cb1
      rw [vref hg1.1 (rfl : vRf 48 12 = [57])] at cb1r
      have dcb1 : (0 : Int32).toInt < (xI h1 57 (kk).toNatClampNeg).toInt := Int32.lt_iff_toInt_lt.mp (Int32.not_le.mp cb1r)
      by_cases cb13 : ch = 0
      · have e_0 : (0 : Int32).toInt = 0 := rfl
        have dcb13 : (ch).toInt = (0 : Int32).toInt := congrArg Int32.toInt cb13
        by_cases cb14 : (if ((xI h1 (xR h1 48 1) (kk).toNatClampNeg) + (Int32.ofInt (1))) < (Int32.ofInt (9)) then ((xI h1 (xR h1 48 1) (kk).toNatClampNeg) + (Int32.ofInt (1))) else (Int32.ofInt (9))) = (xI h1 (xR h1 48 1) (kk).toNatClampNeg)
        · have e_1 : (Int32.ofInt (1)).toInt = 1 := rfl
          have e_9 : (Int32.ofInt (9)).toInt = 9 := rfl
          have cb14r := cb14
          rw [vref hg1.1 (rfl : vRf 48 1 = [49])] at cb14r
          have dcb14 : (if ((xI h1 49 (kk).toNatClampNeg) + (Int32.ofInt (1))) < (Int32.ofInt (9)) then ((xI h1 49 (kk).toNatClampNeg) + (Int32.ofInt (1))) else (Int32.ofInt (9))).toInt = (xI h1 49 (kk).toNatClampNeg).toInt := congrArg Int32.toInt cb14r
          have t15 : XT l 5 122 false 99 153 6051 56 [xf 11 48, xi ch, xi kk, x3] [] h1 56 [xf 11 48, xi (Int32.ofInt (0)), xi (kk + Int32.ofInt (1)), xi (if ((xI h1 (xR h1 48 1) (kk).toNatClampNeg) + (Int32.ofInt (1))) < (Int32.ofInt (9)) then ((xI h1 (xR h1 48 1) (kk).toNatClampNeg) + (Int32.ofInt (1))) else (Int32.ofInt (9)))] [] (xsetI h1 (xR h1 48 1) (kk).toNatClampNeg (if ((xI h1 (xR h1 48 1) (kk).toNatClampNeg) + (Int32.ofInt (1))) < (Int32.ofInt (9)) then ((xI h1 (xR h1 48 1) (kk).toNatClampNeg) + (Int32.ofInt (1))) else (Int32.ofInt (9)))) := XT_path (l := l) (fr := 5) (lo := 122) (full := false) (M := 99) (n := 153) (u := 6051) (pc := 56) (L := [xf 11 48, xi ch, xi kk, x3]) (st := []) (h := h1) (inl := [100]) (n' := 120) (sp := [56]) (o := [0, 0, 0, 1]) rfl rfl ⟨rfl, rfl, rfl⟩ rfl ⟨Nat.le_of_eq hg1.2.2.2.1, Nat.le_of_eq hg1.2.2.2.2⟩ ⟨⟨⟨⟨⟨⟨⟨⟨⟨⟨⟨⟨⟨trivial, (show ¬ xR h1 48 0 = 0 from by rw [r0]; decide)⟩, (show ¬ (xI h1 (xR h1 48 0) 0) ≤ kk from by rw [r0]; exact fun z => absurd (Int32.le_iff_toInt_le.mp z) (by omega))⟩, (vnn hg1.1 (rfl : vRf 48 1 = [49]) (by decide))⟩, (vp_of (i := kk) (n := 6) (by omega) (by omega))⟩, (vnn hg1.1 (rfl : vRf 48 12 = [57]) (by decide))⟩, (vp_of (i := kk) (n := 6) (by omega) (by omega))⟩, cb1⟩, cb13⟩, (vnn hg1.1 (rfl : vRf 48 1 = [49]) (by decide))⟩, (vp_of (i := kk) (n := 6) (by omega) (by omega))⟩, cb14⟩, (vnn hg1.1 (rfl : vRf 48 1 = [49]) (by decide))⟩, (vp_of (i := kk) (n := 6) (by omega) (by omega))⟩
          rw [vref hg1.1 (rfl : vRf 48 1 = [49])] at t15
          have eN : (if ((xI h1 49 (kk).toNatClampNeg) + (Int32.ofInt (1))) < (Int32.ofInt (9)) then ((xI h1 49 (kk).toNatClampNeg) + (Int32.ofInt (1))) else (Int32.ofInt (9))) = zSt (Y k) (zVs Z Y k) := by rw [eS]; exact zSt_p bs (by omega)
          obtain ⟨hE, eE⟩ : ∃ x, x = (xsetI h1 49 (kk).toNatClampNeg (if ((xI h1 49 (kk).toNatClampNeg) + (Int32.ofInt (1))) < (Int32.ofInt (9)) then ((xI h1 49 (kk).toNatClampNeg) + (Int32.ofInt (1))) else (Int32.ofInt (9)))) := ⟨_, rfl⟩
          have eE2 : hE = xsetI h1 49 k (zSt (Y k) (zVs Z Y k)) := by rw [eE, eN, nk]
          rw [← eE] at t15
          have bz := zSt_b (v := zVs Z Y k) bs
          have GE : mQ [49] h hE := by rw [eE2]; exact G.set (by decide) (by rw [vI_u rfl (rfl : vRow 49 = (0, 9))]; exact ⟨by show (0 : Int) ≤ _; omega, by show _ ≤ (9 : Int); omega⟩)
          have zc2 : zhc Z Y (k + 1) (Int32.ofInt (0)) := zhc_b zc cb13 (eN.symm.trans ((Int32.toInt_inj.mp dcb14).trans eS))
          obtain ⟨k3, c3, y3, h9, t9, G9, I9, z9⟩ := ck_strS48_3 l Z Y h hg A kt kw V k9 m (k + 1) (kk + Int32.ofInt (1)) (Int32.ofInt (0)) (xi (if ((xI h1 49 (kk).toNatClampNeg) + (Int32.ofInt (1))) < (Int32.ofInt (9)) then ((xI h1 49 (kk).toNatClampNeg) + (Int32.ofInt (1))) else (Int32.ofInt (9)))) hE GE (by omega) (by omega) (fun r hr => by rw [eE2]; exact if e : r = k then (by rw [e, yI_same]) else (by rw [yI_ne (eq_false (fun z => e z.2))]; exact I1 r (by omega))) (fun r h1_ h2_ => by rw [eE2, yI_ne (eq_false (fun z => by have := z.2; omega))]; exact I2 r (by omega) h2_) zc2
          exact ⟨k3, c3, y3, h9, t15.tr t9, G9, I9, z9⟩
        · have e_1 : (Int32.ofInt (1)).toInt = 1 := rfl
          have e_9 : (Int32.ofInt (9)).toInt = 9 := rfl
          have cb14r := cb14
          rw [vref hg1.1 (rfl : vRf 48 1 = [49])] at cb14r
          have dcb14 : ¬ (if ((xI h1 49 (kk).toNatClampNeg) + (Int32.ofInt (1))) < (Int32.ofInt (9)) then ((xI h1 49 (kk).toNatClampNeg) + (Int32.ofInt (1))) else (Int32.ofInt (9))).toInt = (xI h1 49 (kk).toNatClampNeg).toInt := fun z_ => cb14r (Int32.toInt_inj.mp z_)
          have t16 : XT l 5 122 false 99 153 6051 56 [xf 11 48, xi ch, xi kk, x3] [] h1 56 [xf 11 48, xi (Int32.ofInt (1)), xi (kk + Int32.ofInt (1)), xi (if ((xI h1 (xR h1 48 1) (kk).toNatClampNeg) + (Int32.ofInt (1))) < (Int32.ofInt (9)) then ((xI h1 (xR h1 48 1) (kk).toNatClampNeg) + (Int32.ofInt (1))) else (Int32.ofInt (9)))] [] (xsetI h1 (xR h1 48 1) (kk).toNatClampNeg (if ((xI h1 (xR h1 48 1) (kk).toNatClampNeg) + (Int32.ofInt (1))) < (Int32.ofInt (9)) then ((xI h1 (xR h1 48 1) (kk).toNatClampNeg) + (Int32.ofInt (1))) else (Int32.ofInt (9)))) := XT_path (l := l) (fr := 5) (lo := 122) (full := false) (M := 99) (n := 153) (u := 6051) (pc := 56) (L := [xf 11 48, xi ch, xi kk, x3]) (st := []) (h := h1) (inl := [100]) (n' := 120) (sp := [56]) (o := [0, 0, 0, 0]) rfl rfl ⟨rfl, rfl, rfl⟩ rfl ⟨Nat.le_of_eq hg1.2.2.2.1, Nat.le_of_eq hg1.2.2.2.2⟩ ⟨⟨⟨⟨⟨⟨⟨⟨⟨⟨⟨⟨⟨trivial, (show ¬ xR h1 48 0 = 0 from by rw [r0]; decide)⟩, (show ¬ (xI h1 (xR h1 48 0) 0) ≤ kk from by rw [r0]; exact fun z => absurd (Int32.le_iff_toInt_le.mp z) (by omega))⟩, (vnn hg1.1 (rfl : vRf 48 1 = [49]) (by decide))⟩, (vp_of (i := kk) (n := 6) (by omega) (by omega))⟩, (vnn hg1.1 (rfl : vRf 48 12 = [57]) (by decide))⟩, (vp_of (i := kk) (n := 6) (by omega) (by omega))⟩, cb1⟩, cb13⟩, (vnn hg1.1 (rfl : vRf 48 1 = [49]) (by decide))⟩, (vp_of (i := kk) (n := 6) (by omega) (by omega))⟩, cb14⟩, (vnn hg1.1 (rfl : vRf 48 1 = [49]) (by decide))⟩, (vp_of (i := kk) (n := 6) (by omega) (by omega))⟩
          rw [vref hg1.1 (rfl : vRf 48 1 = [49])] at t16
          have eN : (if ((xI h1 49 (kk).toNatClampNeg) + (Int32.ofInt (1))) < (Int32.ofInt (9)) then ((xI h1 49 (kk).toNatClampNeg) + (Int32.ofInt (1))) else (Int32.ofInt (9))) = zSt (Y k) (zVs Z Y k) := by rw [eS]; exact zSt_p bs (by omega)
          obtain ⟨hE, eE⟩ : ∃ x, x = (xsetI h1 49 (kk).toNatClampNeg (if ((xI h1 49 (kk).toNatClampNeg) + (Int32.ofInt (1))) < (Int32.ofInt (9)) then ((xI h1 49 (kk).toNatClampNeg) + (Int32.ofInt (1))) else (Int32.ofInt (9)))) := ⟨_, rfl⟩
          have eE2 : hE = xsetI h1 49 k (zSt (Y k) (zVs Z Y k)) := by rw [eE, eN, nk]
          rw [← eE] at t16
          have bz := zSt_b (v := zVs Z Y k) bs
          have GE : mQ [49] h hE := by rw [eE2]; exact G.set (by decide) (by rw [vI_u rfl (rfl : vRow 49 = (0, 9))]; exact ⟨by show (0 : Int) ≤ _; omega, by show _ ≤ (9 : Int); omega⟩)
          have zc2 : zhc Z Y (k + 1) (Int32.ofInt (1)) := zhc_c (fun y => dcb14 (congrArg Int32.toInt ((eN.trans y).trans eS.symm)))
          obtain ⟨k3, c3, y3, h9, t9, G9, I9, z9⟩ := ck_strS48_3 l Z Y h hg A kt kw V k9 m (k + 1) (kk + Int32.ofInt (1)) (Int32.ofInt (1)) (xi (if ((xI h1 49 (kk).toNatClampNeg) + (Int32.ofInt (1))) < (Int32.ofInt (9)) then ((xI h1 49 (kk).toNatClampNeg) + (Int32.ofInt (1))) else (Int32.ofInt (9)))) hE GE (by omega) (by omega) (fun r hr => by rw [eE2]; exact if e : r = k then (by rw [e, yI_same]) else (by rw [yI_ne (eq_false (fun z => e z.2))]; exact I1 r (by omega))) (fun r h1_ h2_ => by rw [eE2, yI_ne (eq_false (fun z => by have := z.2; omega))]; exact I2 r (by omega) h2_) zc2
          exact ⟨k3, c3, y3, h9, t16.tr t9, G9, I9, z9⟩
      · have e_0 : (0 : Int32).toInt = 0 := rfl
        have dcb13 : ¬ (ch).toInt = (0 : Int32).toInt := fun z_ => cb13 (Int32.toInt_inj.mp z_)
        have t17 : XT l 5 122 false 99 153 6051 56 [xf 11 48, xi ch, xi kk, x3] [] h1 56 [xf 11 48, xi (Int32.ofInt (1)), xi (kk + Int32.ofInt (1)), xi (if ((xI h1 (xR h1 48 1) (kk).toNatClampNeg) + (Int32.ofInt (1))) < (Int32.ofInt (9)) then ((xI h1 (xR h1 48 1) (kk).toNatClampNeg) + (Int32.ofInt (1))) else (Int32.ofInt (9)))] [] (xsetI h1 (xR h1 48 1) (kk).toNatClampNeg (if ((xI h1 (xR h1 48 1) (kk).toNatClampNeg) + (Int32.ofInt (1))) < (Int32.ofInt (9)) then ((xI h1 (xR h1 48 1) (kk).toNatClampNeg) + (Int32.ofInt (1))) else (Int32.ofInt (9)))) := XT_path (l := l) (fr := 5) (lo := 122) (full := false) (M := 99) (n := 153) (u := 6051) (pc := 56) (L := [xf 11 48, xi ch, xi kk, x3]) (st := []) (h := h1) (inl := [100]) (n' := 120) (sp := [56]) (o := [0, 0, 1]) rfl rfl ⟨rfl, rfl, rfl⟩ rfl ⟨Nat.le_of_eq hg1.2.2.2.1, Nat.le_of_eq hg1.2.2.2.2⟩ ⟨⟨⟨⟨⟨⟨⟨⟨⟨⟨trivial, (show ¬ xR h1 48 0 = 0 from by rw [r0]; decide)⟩, (show ¬ (xI h1 (xR h1 48 0) 0) ≤ kk from by rw [r0]; exact fun z => absurd (Int32.le_iff_toInt_le.mp z) (by omega))⟩, (vnn hg1.1 (rfl : vRf 48 1 = [49]) (by decide))⟩, (vp_of (i := kk) (n := 6) (by omega) (by omega))⟩, (vnn hg1.1 (rfl : vRf 48 12 = [57]) (by decide))⟩, (vp_of (i := kk) (n := 6) (by omega) (by omega))⟩, cb1⟩, cb13⟩, (vnn hg1.1 (rfl : vRf 48 1 = [49]) (by decide))⟩, (vp_of (i := kk) (n := 6) (by omega) (by omega))⟩
        rw [vref hg1.1 (rfl : vRf 48 1 = [49])] at t17
        have eN : (if ((xI h1 49 (kk).toNatClampNeg) + (Int32.ofInt (1))) < (Int32.ofInt (9)) then ((xI h1 49 (kk).toNatClampNeg) + (Int32.ofInt (1))) else (Int32.ofInt (9))) = zSt (Y k) (zVs Z Y k) := by rw [eS]; exact zSt_p bs (by omega)
        obtain ⟨hE, eE⟩ : ∃ x, x = (xsetI h1 49 (kk).toNatClampNeg (if ((xI h1 49 (kk).toNatClampNeg) + (Int32.ofInt (1))) < (Int32.ofInt (9)) then ((xI h1 49 (kk).toNatClampNeg) + (Int32.ofInt (1))) else (Int32.ofInt (9)))) := ⟨_, rfl⟩
        have eE2 : hE = xsetI h1 49 k (zSt (Y k) (zVs Z Y k)) := by rw [eE, eN, nk]
        rw [← eE] at t17
        have bz := zSt_b (v := zVs Z Y k) bs
        have GE : mQ [49] h hE := by rw [eE2]; exact G.set (by decide) (by rw [vI_u rfl (rfl : vRow 49 = (0, 9))]; exact ⟨by show (0 : Int) ≤ _; omega, by show _ ≤ (9 : Int); omega⟩)
        have zc2 : zhc Z Y (k + 1) (Int32.ofInt (1)) := zhc_a zc cb13
        obtain ⟨k3, c3, y3, h9, t9, G9, I9, z9⟩ := ck_strS48_3 l Z Y h hg A kt kw V k9 m (k + 1) (kk + Int32.ofInt (1)) (Int32.ofInt (1)) (xi (if ((xI h1 49 (kk).toNatClampNeg) + (Int32.ofInt (1))) < (Int32.ofInt (9)) then ((xI h1 49 (kk).toNatClampNeg) + (Int32.ofInt (1))) else (Int32.ofInt (9)))) hE GE (by omega) (by omega) (fun r hr => by rw [eE2]; exact if e : r = k then (by rw [e, yI_same]) else (by rw [yI_ne (eq_false (fun z => e z.2))]; exact I1 r (by omega))) (fun r h1_ h2_ => by rw [eE2, yI_ne (eq_false (fun z => by have := z.2; omega))]; exact I2 r (by omega) h2_) zc2
        exact ⟨k3, c3, y3, h9, t17.tr t9, G9, I9, z9⟩
set_option maxRecDepth 100000 in
set_option maxHeartbeats 4000000 in
theorem ck_stretch48_3 (l : Launch) (Z : Nat → Int) (Y : Nat → Int32) (h : XH) (hg : mI h) (A : zAll Z) (kt : kTx 3 Z h) (kw : kW 48 3 Z Y h) (V : zVd Z Y) (kd : kD 48 Z Y h) (ke : kE 48 Z Y h) : ∃ v h', CX l 5 122 false 99 [xf 11 48] h [xi v] h' ∧ mQ [49, 51, 55, 57] h h' ∧ kW 48 3 Z (zStr Z Y) h' ∧ kD 48 Z (zStr Z Y) h' ∧ kE 48 Z (zStr Z Y) h' ∧ zhc Z Y (Z 0).toNat v := by
  obtain ⟨⟨⟨B00, B01⟩, ⟨B10, B11⟩, ⟨B20, B21⟩, B30, B31⟩, g6, zj, zv, LW⟩ := id A
  have r0 : xR h 48 0 = 3 := kw.2.2.2.2.2
  have t1 : XT l 5 122 false 99 153 6051 0 [xf 11 48, xun, xun, xun] [] h 5 [xf 11 48, xun, xun, xun] [xi (Int32.ofInt (0)), xf 10006 (xR h 48 12)] h := XT_path (l := l) (fr := 5) (lo := 122) (full := false) (M := 99) (n := 153) (u := 6051) (pc := 0) (L := [xf 11 48, xun, xun, xun]) (st := []) (h := h) (inl := []) (n' := 120) (sp := [5]) (o := []) rfl rfl ⟨rfl, rfl, rfl⟩ rfl ⟨Nat.le_of_eq hg.2.2.2.1, Nat.le_of_eq hg.2.2.2.2⟩ ⟨trivial, (vnn hg.1 (rfl : vRf 48 12 = [57]) (by decide))⟩
  rw [vref hg.1 (rfl : vRf 48 12 = [57])] at t1
  obtain ⟨h1, c1, G1, z1⟩ := cm_fill57 l h hg
  have t2 : XT l 5 122 false 99 153 6051 5 [xf 11 48, xun, xun, xun] [xi (Int32.ofInt (0)), xf 10006 57] h 8 [xf 11 48, xun, xun, xun] [] h1 := XT_call (l := l) (fr := 5) (lo := 122) (full := false) (M := 99) (n := 153) (u := 6051) (pc := 5) (L := [xf 11 48, xun, xun, xun]) (st := [xi (Int32.ofInt (0)), xf 10006 57]) (h := h) (i := .invokestatic 5) (aux := 2) (nx := 8) (K := 5) (vs := [xf 10006 57, xi (Int32.ofInt (0))]) (rs := []) (rest := []) rfl rfl rfl rfl rfl rfl c1 (by decide) (by decide) (Nat.le_of_ble_eq_true rfl) ⟨Nat.le_of_eq G1.1.2.2.2.1, Nat.le_of_eq G1.1.2.2.2.2⟩
  have t3 := t1.tr t2
  have t4 : XT l 5 122 false 99 153 6051 8 [xf 11 48, xun, xun, xun] [] h1 10 [xf 11 48, xi (Int32.ofInt (0)), xun, xun] [] h1 := XT_path (l := l) (fr := 5) (lo := 122) (full := false) (M := 99) (n := 153) (u := 6051) (pc := 8) (L := [xf 11 48, xun, xun, xun]) (st := []) (h := h1) (inl := []) (n' := 120) (sp := [10]) (o := []) rfl rfl ⟨rfl, rfl, rfl⟩ rfl ⟨Nat.le_of_eq G1.1.2.2.2.1, Nat.le_of_eq G1.1.2.2.2.2⟩ trivial
  have t5 := t3.tr t4
  obtain ⟨k2, h2, t2, G2, I2⟩ := ck_strV48_3 l Z Y h hg A kt kw V kd ke (Z 2).toNat 0 (Int32.ofInt (0)) (xun) (xun) h1 G1 rfl (by omega) (fun r hr => z1 r (by omega))
  have T2 := t5.tr t2
  have t6 : XT l 5 122 false 99 153 6051 52 [xf 11 48, xi k2, xun, xun] [] h2 56 [xf 11 48, xi (Int32.ofInt (0)), xi (Int32.ofInt (0)), xun] [] h2 := XT_path (l := l) (fr := 5) (lo := 122) (full := false) (M := 99) (n := 153) (u := 6051) (pc := 52) (L := [xf 11 48, xi k2, xun, xun]) (st := []) (h := h2) (inl := []) (n' := 120) (sp := [56]) (o := []) rfl rfl ⟨rfl, rfl, rfl⟩ rfl ⟨Nat.le_of_eq G2.1.2.2.2.1, Nat.le_of_eq G2.1.2.2.2.2⟩ trivial
  have t7 := T2.tr t6
  have kt2 : kTx 3 Z h2 := kt.q G2 (by decide)
  have kw2 : kW 48 3 Z Y h2 := kw.q G2 (by decide)
  obtain ⟨k3, ch, y3, h3, t3, G3, I3, z3⟩ := ck_strS48_3 l Z Y h2 G2.1 A kt2 kw2 V I2 (Z 0).toNat 0 (Int32.ofInt (0)) (Int32.ofInt (0)) (xun) h2 (mQ.rf G2.1) rfl (by omega) (fun r hr => by omega) (fun r _ hr => kw2.1 r hr) (Or.inl ⟨rfl, fun r hr => by omega⟩)
  have T3 := t7.tr t3
  have G23 : mQ [49, 51, 55, 57] h h3 := (G2.mono (by decide)).tr (G3.mono (by decide))
  have kw3 : kW 48 3 Z (zStr Z Y) h3 := zStr_kW kw2 B01 G3 (by decide) I3
  have t8 : XT l 5 122 false 99 153 6051 116 [xf 11 48, xi ch, xi k3, y3] [] h3 117 [xf 11 48, xi ch, xi k3, y3] [xf 11 48] h3 := XT_path (l := l) (fr := 5) (lo := 122) (full := false) (M := 99) (n := 153) (u := 6051) (pc := 116) (L := [xf 11 48, xi ch, xi k3, y3]) (st := []) (h := h3) (inl := []) (n' := 120) (sp := [117]) (o := []) rfl rfl ⟨rfl, rfl, rfl⟩ rfl ⟨Nat.le_of_eq G3.1.2.2.2.1, Nat.le_of_eq G3.1.2.2.2.2⟩ trivial
  have t9 := T3.tr t8
  obtain ⟨h4, c4, G4, kd4⟩ := ck_tear48_3 l Z (zStr Z Y) h3 G3.1 A (kt2.q G3 (by decide)) kw3 (zVd_str A.1 V)
  have t10 : XT l 5 122 false 99 153 6051 117 [xf 11 48, xi ch, xi k3, y3] [xf 11 48] h3 120 [xf 11 48, xi ch, xi k3, y3] [] h4 := XT_call (l := l) (fr := 5) (lo := 122) (full := false) (M := 99) (n := 153) (u := 6051) (pc := 117) (L := [xf 11 48, xi ch, xi k3, y3]) (st := [xf 11 48]) (h := h3) (i := .invokevirtual 66) (aux := 1) (nx := 120) (K := 66) (vs := [xf 11 48]) (rs := []) (rest := []) rfl rfl rfl rfl rfl rfl c4 (by decide) (by decide) (Nat.le_of_ble_eq_true rfl) ⟨Nat.le_of_eq G4.1.2.2.2.1, Nat.le_of_eq G4.1.2.2.2.2⟩
  have t11 := t9.tr t10
  have t12 : XT l 5 122 false 99 153 6051 120 [xf 11 48, xi ch, xi k3, y3] [] h4 121 [xf 11 48, xi ch, xi k3, y3] [xi ch] h4 := XT_path (l := l) (fr := 5) (lo := 122) (full := false) (M := 99) (n := 153) (u := 6051) (pc := 120) (L := [xf 11 48, xi ch, xi k3, y3]) (st := []) (h := h4) (inl := []) (n' := 120) (sp := [121]) (o := []) rfl rfl ⟨rfl, rfl, rfl⟩ rfl ⟨Nat.le_of_eq G4.1.2.2.2.1, Nat.le_of_eq G4.1.2.2.2.2⟩ trivial
  have t13 := t11.tr t12
  exact ⟨ch, h4, CX_ofT (h' := h4) (by decide) rfl rfl ⟨trivial, (zhc_z z3)⟩ ⟨_, _, _, rfl, rfl, rfl⟩ rfl ⟨Nat.le_of_eq G4.1.2.2.2.1.symm, Nat.le_of_eq G4.1.2.2.2.2.symm⟩ t13, G23.tr (G4.mono (by decide)), kw3.q G4 (by decide), kd4, fun r hr => by rw [zCr_str A.1]; exact ((ke.q G2 (by decide)).q G3 (by decide)).q G4 (by decide) r hr, z3⟩
set_option maxRecDepth 100000 in
set_option maxHeartbeats 4000000 in
theorem ck_strV48_24 (l : Launch) (Z : Nat → Int) (Y : Nat → Int32) (h : XH) (hg : mI h) (A : zAll Z) (kt : kTx 24 Z h) (kw : kW 48 24 Z Y h) (V : zVd Z Y) (kd : kD 48 Z Y h) (ke : kE 48 Z Y h) : ∀ (m k : Nat) (kk : Int32) (x2 x3 : XV) (h1 : XH), mQ [57] h h1 → kk.toInt = k → (k : Int) + m = Z 2 → (∀ r : Nat, (r : Int) < Z 0 → xI h1 57 r = zsum (fun p => if (Y (20 + p)).toInt = r then zWe Z Y p * zVo Z Y p else Int32.ofInt (0)) k) → ∃ k2 h2, XT l 5 122 false 99 153 6051 10 [xf 11 48, xi kk, x2, x3] [] h1 52 [xf 11 48, xi k2, x2, x3] [] h2 ∧ mQ [57] h h2 ∧ (∀ r : Nat, (r : Int) < Z 0 → xI h2 57 r = zsum (fun p => if (Y (20 + p)).toInt = r then zWe Z Y p * zVo Z Y p else Int32.ofInt (0)) (Z 2).toNat)
  | 0, k, kk, x2, x3, h1, G, hk, hm, I9 => by
    obtain ⟨⟨⟨B00, B01⟩, ⟨B10, B11⟩, ⟨B20, B21⟩, B30, B31⟩, g6, zj, zv, LW⟩ := id A
    have r0 : xR h1 48 0 = 24 := (G.2.2 48 0).trans kw.2.2.2.2.2
    have hg1 := G.1
    have ej : (xI h1 24 9).toInt = Z 2 := by rw [G.2.1 24 9 (by decide)]; exact kt.1.1 2 (by decide)
    have t1 : XT l 5 122 false 99 153 6051 10 [xf 11 48, xi kk, x2, x3] [] h1 52 [xf 11 48, xi kk, x2, x3] [] h1 := XT_path (l := l) (fr := 5) (lo := 122) (full := false) (M := 99) (n := 153) (u := 6051) (pc := 10) (L := [xf 11 48, xi kk, x2, x3]) (st := []) (h := h1) (inl := [74]) (n' := 120) (sp := [52]) (o := [1]) rfl rfl ⟨rfl, rfl, rfl⟩ rfl ⟨Nat.le_of_eq hg1.2.2.2.1, Nat.le_of_eq hg1.2.2.2.2⟩ ⟨⟨trivial, (show ¬ xR h1 48 0 = 0 from by rw [r0]; decide)⟩, (show (xI h1 (xR h1 48 0) 9) ≤ kk from by rw [r0]; exact Int32.le_iff_toInt_le.mpr (by omega))⟩
    obtain rfl : k = (Z 2).toNat := by omega
    exact ⟨kk, h1, t1, G, I9⟩
  | m + 1, k, kk, x2, x3, h1, G, hk, hm, I9 => by
    obtain ⟨⟨⟨B00, B01⟩, ⟨B10, B11⟩, ⟨B20, B21⟩, B30, B31⟩, g6, zj, zv, LW⟩ := id A
    have r0 : xR h1 48 0 = 24 := (G.2.2 48 0).trans kw.2.2.2.2.2
    have hg1 := G.1
    have ej : (xI h1 24 9).toInt = Z 2 := by rw [G.2.1 24 9 (by decide)]; exact kt.1.1 2 (by decide)
    have lk : (k : Int) < Z 2 := by omega
    have nk : kk.toNatClampNeg = k := zi_ix hk
    have sk := y_suc1 (k := kk) (by omega) (by omega)
    have kt1 : kTx 24 Z h1 := kt.q G (by decide)
    have kw1 : kW 48 24 Z Y h1 := kw.q G (by decide)
    have ehh : xI h1 52 kk.toNatClampNeg = Y (20 + k) := by rw [nk]; exact (kw1.2.1 k lk).1
    have eh := congrArg Int32.toInt ehh
    have bh := V.2.1 k lk
    obtain ⟨H, hH⟩ : ∃ H : Nat, (Y (20 + k)).toInt = H := ⟨(Y (20 + k)).toInt.toNat, by omega⟩
    have nh : (xI h1 52 kk.toNatClampNeg).toNatClampNeg = H := zi_ix (by omega)
    have emo : (xI h1 48 10).toInt = (Y 51).toInt := congrArg Int32.toInt kw1.2.2.2.1
    have ewg : xI h1 35 kk.toNatClampNeg = Int32.ofInt (Z (200 + k)) := i32_e (by rw [nk]; exact kt1.1.2.2 10 k (by decide) lk)
    have e_1 : (Int32.ofInt (1)).toInt = 1 := rfl
    by_cases cb1 : (xI h1 48 10) = (Int32.ofInt (1))
    · have e_1 : (Int32.ofInt (1)).toInt = 1 := rfl
      have dcb1 : (xI h1 48 10).toInt = (Int32.ofInt (1)).toInt := congrArg Int32.toInt cb1
      have t2 : XT l 5 122 false 99 153 6051 10 [xf 11 48, xi kk, x2, x3] [] h1 40 [xf 11 48, xi kk, x2, x3] [xi kk, xf 11 48, xi (Int32.ofInt (1)), xi (xI h1 (xR h1 48 12) ((xI h1 (xR h1 48 4) (kk).toNatClampNeg)).toNatClampNeg), xi (xI h1 (xR h1 48 4) (kk).toNatClampNeg), xf 10006 (xR h1 48 12)] h1 := XT_path (l := l) (fr := 5) (lo := 122) (full := false) (M := 99) (n := 153) (u := 6051) (pc := 10) (L := [xf 11 48, xi kk, x2, x3]) (st := []) (h := h1) (inl := [74]) (n' := 120) (sp := [40]) (o := [0, 0]) rfl rfl ⟨rfl, rfl, rfl⟩ rfl ⟨Nat.le_of_eq hg1.2.2.2.1, Nat.le_of_eq hg1.2.2.2.2⟩ ⟨⟨⟨⟨⟨⟨⟨trivial, (show ¬ xR h1 48 0 = 0 from by rw [r0]; decide)⟩, (show ¬ (xI h1 (xR h1 48 0) 9) ≤ kk from by rw [r0]; exact fun z => absurd (Int32.le_iff_toInt_le.mp z) (by omega))⟩, (vnn hg1.1 (rfl : vRf 48 12 = [57]) (by decide))⟩, (vnn hg1.1 (rfl : vRf 48 4 = [52]) (by decide))⟩, (vp_of (i := kk) (n := 8) (by omega) (by omega))⟩, (show vp_in ((xI h1 (xR h1 48 4) (kk).toNatClampNeg)) (6) from (by rw [vref hg1.1 (rfl : vRf 48 4 = [52])]; exact (vp_of (i := (xI h1 52 (kk).toNatClampNeg)) (n := 6) (by omega) (by omega) : vp_in ((xI h1 52 (kk).toNatClampNeg)) (6))))⟩, cb1⟩
      rw [vref hg1.1 (rfl : vRf 48 12 = [57]), vref hg1.1 (rfl : vRf 48 4 = [52])] at t2
      obtain ⟨v, h2, c1, g1, ev⟩ := ck_vote48_24 l Z Y kk k h1 hg1 A kt1 kw1 V (kd.q G (by decide)) (ke.q G (by decide)) hk lk
      have t3 : XT l 5 122 false 99 153 6051 40 [xf 11 48, xi kk, x2, x3] [xi kk, xf 11 48, xi (Int32.ofInt (1)), xi (xI h1 57 ((xI h1 52 (kk).toNatClampNeg)).toNatClampNeg), xi (xI h1 52 (kk).toNatClampNeg), xf 10006 57] h1 43 [xf 11 48, xi kk, x2, x3] [xi v, xi (Int32.ofInt (1)), xi (xI h1 57 ((xI h1 52 (kk).toNatClampNeg)).toNatClampNeg), xi (xI h1 52 (kk).toNatClampNeg), xf 10006 57] h2 := XT_call (l := l) (fr := 5) (lo := 122) (full := false) (M := 99) (n := 153) (u := 6051) (pc := 40) (L := [xf 11 48, xi kk, x2, x3]) (st := [xi kk, xf 11 48, xi (Int32.ofInt (1)), xi (xI h1 57 ((xI h1 52 (kk).toNatClampNeg)).toNatClampNeg), xi (xI h1 52 (kk).toNatClampNeg), xf 10006 57]) (h := h1) (i := .invokevirtual 75) (aux := 2) (nx := 43) (K := 75) (vs := [xf 11 48, xi kk]) (rs := [xi v]) (rest := [xi (Int32.ofInt (1)), xi (xI h1 57 ((xI h1 52 (kk).toNatClampNeg)).toNatClampNeg), xi (xI h1 52 (kk).toNatClampNeg), xf 10006 57]) rfl rfl rfl rfl rfl rfl c1 (by decide) (by decide) (Nat.le_of_ble_eq_true rfl) ⟨Nat.le_of_eq g1.1.2.2.2.1, Nat.le_of_eq g1.1.2.2.2.2⟩
      have t4 := t2.tr t3
      have t5 : XT l 5 122 false 99 153 6051 43 [xf 11 48, xi kk, x2, x3] [xi v, xi (Int32.ofInt (1)), xi (xI h1 57 ((xI h1 52 (kk).toNatClampNeg)).toNatClampNeg), xi (xI h1 52 (kk).toNatClampNeg), xf 10006 57] h2 10 [xf 11 48, xi (kk + Int32.ofInt (1)), x2, x3] [] (xsetI h2 57 ((xI h1 52 (kk).toNatClampNeg)).toNatClampNeg ((xI h1 57 ((xI h1 52 (kk).toNatClampNeg)).toNatClampNeg) + ((Int32.ofInt (1)) * v))) := XT_path (l := l) (fr := 5) (lo := 122) (full := false) (M := 99) (n := 153) (u := 6051) (pc := 43) (L := [xf 11 48, xi kk, x2, x3]) (st := [xi v, xi (Int32.ofInt (1)), xi (xI h1 57 ((xI h1 52 (kk).toNatClampNeg)).toNatClampNeg), xi (xI h1 52 (kk).toNatClampNeg), xf 10006 57]) (h := h2) (inl := [74]) (n' := 120) (sp := [10]) (o := []) rfl rfl ⟨rfl, rfl, rfl⟩ rfl ⟨Nat.le_of_eq g1.1.2.2.2.1, Nat.le_of_eq g1.1.2.2.2.2⟩ ⟨trivial, (vp_of (i := (xI h1 52 (kk).toNatClampNeg)) (n := 6) (by omega) (by omega))⟩
      have t6 := t4.tr t5
      have eWG : (Int32.ofInt (1)) = zWe Z Y k := by unfold zWe; rw [if_pos (by omega)]
      obtain ⟨hE, eE⟩ : ∃ x, x = (xsetI h2 57 ((xI h1 52 (kk).toNatClampNeg)).toNatClampNeg ((xI h1 57 ((xI h1 52 (kk).toNatClampNeg)).toNatClampNeg) + ((Int32.ofInt (1)) * v))) := ⟨_, rfl⟩
      have eE2 : hE = xsetI h2 57 H (xI h1 57 H + zWe Z Y k * zVo Z Y k) := by rw [eE, eWG, ev]; simp only [nh]
      rw [← eE] at t6
      have G2 : mQ [57] h h2 := G.tr g1.q
      have GE : mQ [57] h hE := by rw [eE2]; exact G2.set (by decide) (by rw [vI_u rfl (rfl : vRow 57 = sfull)]; exact i32r_of _)
      have J9 : ∀ r : Nat, (r : Int) < Z 0 → xI hE 57 r = zsum (fun p => if (Y (20 + p)).toInt = r then zWe Z Y p * zVo Z Y p else Int32.ofInt (0)) (k + 1) := by
        intro r hr
        by_cases e1 : r = H
        · rw [e1, eE2, yI_same]
          rw [e1] at hr
          exact zsum_n (I9 H hr) (if_pos hH)
        · rw [eE2, yI_ne (eq_false (fun z => e1 z.2)), g1.2.1]
          exact zsum_m (I9 r hr) (if_neg (by omega))
      obtain ⟨k3, h9, t9, G9, I10⟩ := ck_strV48_24 l Z Y h hg A kt kw V kd ke m (k + 1) (kk + Int32.ofInt (1)) (x2) (x3) hE GE (by omega) (by omega) J9
      exact ⟨k3, h9, t6.tr t9, G9, I10⟩
    · have e_1 : (Int32.ofInt (1)).toInt = 1 := rfl
      have dcb1 : ¬ (xI h1 48 10).toInt = (Int32.ofInt (1)).toInt := fun z_ => cb1 (Int32.toInt_inj.mp z_)
      have t7 : XT l 5 122 false 99 153 6051 10 [xf 11 48, xi kk, x2, x3] [] h1 40 [xf 11 48, xi kk, x2, x3] [xi kk, xf 11 48, xi (xI h1 (xR h1 (xR h1 48 0) 13) (kk).toNatClampNeg), xi (xI h1 (xR h1 48 12) ((xI h1 (xR h1 48 4) (kk).toNatClampNeg)).toNatClampNeg), xi (xI h1 (xR h1 48 4) (kk).toNatClampNeg), xf 10006 (xR h1 48 12)] h1 := XT_path (l := l) (fr := 5) (lo := 122) (full := false) (M := 99) (n := 153) (u := 6051) (pc := 10) (L := [xf 11 48, xi kk, x2, x3]) (st := []) (h := h1) (inl := [74]) (n' := 120) (sp := [40]) (o := [0, 1]) rfl rfl ⟨rfl, rfl, rfl⟩ rfl ⟨Nat.le_of_eq hg1.2.2.2.1, Nat.le_of_eq hg1.2.2.2.2⟩ ⟨⟨⟨⟨⟨⟨⟨⟨⟨⟨trivial, (show ¬ xR h1 48 0 = 0 from by rw [r0]; decide)⟩, (show ¬ (xI h1 (xR h1 48 0) 9) ≤ kk from by rw [r0]; exact fun z => absurd (Int32.le_iff_toInt_le.mp z) (by omega))⟩, (vnn hg1.1 (rfl : vRf 48 12 = [57]) (by decide))⟩, (vnn hg1.1 (rfl : vRf 48 4 = [52]) (by decide))⟩, (vp_of (i := kk) (n := 8) (by omega) (by omega))⟩, (show vp_in ((xI h1 (xR h1 48 4) (kk).toNatClampNeg)) (6) from (by rw [vref hg1.1 (rfl : vRf 48 4 = [52])]; exact (vp_of (i := (xI h1 52 (kk).toNatClampNeg)) (n := 6) (by omega) (by omega) : vp_in ((xI h1 52 (kk).toNatClampNeg)) (6))))⟩, cb1⟩, (show ¬ xR h1 48 0 = 0 from by rw [r0]; decide)⟩, (show ¬ xR h1 (xR h1 48 0) 13 = 0 from by rw [r0]; exact vnn hg1.1 (rfl : vRf 24 13 = [35]) (by decide))⟩, (vp_of (i := kk) (n := 8) (by omega) (by omega))⟩
      rw [r0, vref hg1.1 (rfl : vRf 48 12 = [57]), vref hg1.1 (rfl : vRf 48 4 = [52]), vref hg1.1 (rfl : vRf 24 13 = [35])] at t7
      obtain ⟨v, h2, c1, g1, ev⟩ := ck_vote48_24 l Z Y kk k h1 hg1 A kt1 kw1 V (kd.q G (by decide)) (ke.q G (by decide)) hk lk
      have t8 : XT l 5 122 false 99 153 6051 40 [xf 11 48, xi kk, x2, x3] [xi kk, xf 11 48, xi (xI h1 35 (kk).toNatClampNeg), xi (xI h1 57 ((xI h1 52 (kk).toNatClampNeg)).toNatClampNeg), xi (xI h1 52 (kk).toNatClampNeg), xf 10006 57] h1 43 [xf 11 48, xi kk, x2, x3] [xi v, xi (xI h1 35 (kk).toNatClampNeg), xi (xI h1 57 ((xI h1 52 (kk).toNatClampNeg)).toNatClampNeg), xi (xI h1 52 (kk).toNatClampNeg), xf 10006 57] h2 := XT_call (l := l) (fr := 5) (lo := 122) (full := false) (M := 99) (n := 153) (u := 6051) (pc := 40) (L := [xf 11 48, xi kk, x2, x3]) (st := [xi kk, xf 11 48, xi (xI h1 35 (kk).toNatClampNeg), xi (xI h1 57 ((xI h1 52 (kk).toNatClampNeg)).toNatClampNeg), xi (xI h1 52 (kk).toNatClampNeg), xf 10006 57]) (h := h1) (i := .invokevirtual 75) (aux := 2) (nx := 43) (K := 75) (vs := [xf 11 48, xi kk]) (rs := [xi v]) (rest := [xi (xI h1 35 (kk).toNatClampNeg), xi (xI h1 57 ((xI h1 52 (kk).toNatClampNeg)).toNatClampNeg), xi (xI h1 52 (kk).toNatClampNeg), xf 10006 57]) rfl rfl rfl rfl rfl rfl c1 (by decide) (by decide) (Nat.le_of_ble_eq_true rfl) ⟨Nat.le_of_eq g1.1.2.2.2.1, Nat.le_of_eq g1.1.2.2.2.2⟩
      have t9 := t7.tr t8
      have t10 : XT l 5 122 false 99 153 6051 43 [xf 11 48, xi kk, x2, x3] [xi v, xi (xI h1 35 (kk).toNatClampNeg), xi (xI h1 57 ((xI h1 52 (kk).toNatClampNeg)).toNatClampNeg), xi (xI h1 52 (kk).toNatClampNeg), xf 10006 57] h2 10 [xf 11 48, xi (kk + Int32.ofInt (1)), x2, x3] [] (xsetI h2 57 ((xI h1 52 (kk).toNatClampNeg)).toNatClampNeg ((xI h1 57 ((xI h1 52 (kk).toNatClampNeg)).toNatClampNeg) + ((xI h1 35 (kk).toNatClampNeg) * v))) := XT_path (l := l) (fr := 5) (lo := 122) (full := false) (M := 99) (n := 153) (u := 6051) (pc := 43) (L := [xf 11 48, xi kk, x2, x3]) (st := [xi v, xi (xI h1 35 (kk).toNatClampNeg), xi (xI h1 57 ((xI h1 52 (kk).toNatClampNeg)).toNatClampNeg), xi (xI h1 52 (kk).toNatClampNeg), xf 10006 57]) (h := h2) (inl := [74]) (n' := 120) (sp := [10]) (o := []) rfl rfl ⟨rfl, rfl, rfl⟩ rfl ⟨Nat.le_of_eq g1.1.2.2.2.1, Nat.le_of_eq g1.1.2.2.2.2⟩ ⟨trivial, (vp_of (i := (xI h1 52 (kk).toNatClampNeg)) (n := 6) (by omega) (by omega))⟩
      have t11 := t9.tr t10
      have eWG : (xI h1 35 (kk).toNatClampNeg) = zWe Z Y k := by unfold zWe; rw [if_neg (by omega)]; exact ewg
      obtain ⟨hE, eE⟩ : ∃ x, x = (xsetI h2 57 ((xI h1 52 (kk).toNatClampNeg)).toNatClampNeg ((xI h1 57 ((xI h1 52 (kk).toNatClampNeg)).toNatClampNeg) + ((xI h1 35 (kk).toNatClampNeg) * v))) := ⟨_, rfl⟩
      have eE2 : hE = xsetI h2 57 H (xI h1 57 H + zWe Z Y k * zVo Z Y k) := by rw [eE, eWG, ev]; simp only [nh]
      rw [← eE] at t11
      have G2 : mQ [57] h h2 := G.tr g1.q
      have GE : mQ [57] h hE := by rw [eE2]; exact G2.set (by decide) (by rw [vI_u rfl (rfl : vRow 57 = sfull)]; exact i32r_of _)
      have J9 : ∀ r : Nat, (r : Int) < Z 0 → xI hE 57 r = zsum (fun p => if (Y (20 + p)).toInt = r then zWe Z Y p * zVo Z Y p else Int32.ofInt (0)) (k + 1) := by
        intro r hr
        by_cases e1 : r = H
        · rw [e1, eE2, yI_same]
          rw [e1] at hr
          exact zsum_n (I9 H hr) (if_pos hH)
        · rw [eE2, yI_ne (eq_false (fun z => e1 z.2)), g1.2.1]
          exact zsum_m (I9 r hr) (if_neg (by omega))
      obtain ⟨k3, h9, t9, G9, I10⟩ := ck_strV48_24 l Z Y h hg A kt kw V kd ke m (k + 1) (kk + Int32.ofInt (1)) (x2) (x3) hE GE (by omega) (by omega) J9
      exact ⟨k3, h9, t11.tr t9, G9, I10⟩
set_option maxRecDepth 100000 in
set_option maxHeartbeats 4000000 in
theorem ck_strS48_24 (l : Launch) (Z : Nat → Int) (Y : Nat → Int32) (h : XH) (hg : mI h) (A : zAll Z) (kt : kTx 24 Z h) (kw : kW 48 24 Z Y h) (V : zVd Z Y) (k9 : ∀ r : Nat, (r : Int) < Z 0 → xI h 57 r = zVs Z Y r) : ∀ (m k : Nat) (kk ch : Int32) (x3 : XV) (h1 : XH), mQ [49] h h1 → kk.toInt = k → (k : Int) + m = Z 0 → (∀ r : Nat, r < k → xI h1 49 r = zSt (Y r) (zVs Z Y r)) → (∀ r : Nat, k ≤ r → (r : Int) < Z 0 → xI h1 49 r = Y r) → zhc Z Y k ch → ∃ k2 ch2 y3 h2, XT l 5 122 false 99 153 6051 56 [xf 11 48, xi ch, xi kk, x3] [] h1 116 [xf 11 48, xi ch2, xi k2, y3] [] h2 ∧ mQ [49] h h2 ∧ (∀ r : Nat, (r : Int) < Z 0 → xI h2 49 r = zSt (Y r) (zVs Z Y r)) ∧ zhc Z Y (Z 0).toNat ch2
  | 0, k, kk, ch, x3, h1, G, hk, hm, I1, I2, zc => by
    obtain ⟨⟨⟨B00, B01⟩, ⟨B10, B11⟩, ⟨B20, B21⟩, B30, B31⟩, g6, zj, zv, LW⟩ := id A
    have r0 : xR h1 48 0 = 24 := (G.2.2 48 0).trans kw.2.2.2.2.2
    have hg1 := G.1
    have ej : (xI h1 24 0).toInt = Z 0 := by rw [G.2.1 24 0 (by decide)]; exact kt.1.1 0 (by decide)
    have t1 : XT l 5 122 false 99 153 6051 56 [xf 11 48, xi ch, xi kk, x3] [] h1 116 [xf 11 48, xi ch, xi kk, x3] [] h1 := XT_path (l := l) (fr := 5) (lo := 122) (full := false) (M := 99) (n := 153) (u := 6051) (pc := 56) (L := [xf 11 48, xi ch, xi kk, x3]) (st := []) (h := h1) (inl := [100]) (n' := 120) (sp := [116]) (o := [1]) rfl rfl ⟨rfl, rfl, rfl⟩ rfl ⟨Nat.le_of_eq hg1.2.2.2.1, Nat.le_of_eq hg1.2.2.2.2⟩ ⟨⟨trivial, (show ¬ xR h1 48 0 = 0 from by rw [r0]; decide)⟩, (show (xI h1 (xR h1 48 0) 0) ≤ kk from by rw [r0]; exact Int32.le_iff_toInt_le.mpr (by omega))⟩
    obtain rfl : k = (Z 0).toNat := by omega
    exact ⟨kk, ch, x3, h1, t1, G, fun r hr => I1 r (by omega), zc⟩
  | m + 1, k, kk, ch, x3, h1, G, hk, hm, I1, I2, zc => by
    obtain ⟨⟨⟨B00, B01⟩, ⟨B10, B11⟩, ⟨B20, B21⟩, B30, B31⟩, g6, zj, zv, LW⟩ := id A
    have r0 : xR h1 48 0 = 24 := (G.2.2 48 0).trans kw.2.2.2.2.2
    have hg1 := G.1
    have ej : (xI h1 24 0).toInt = Z 0 := by rw [G.2.1 24 0 (by decide)]; exact kt.1.1 0 (by decide)
    have lk : (k : Int) < Z 0 := by omega
    have nk : kk.toNatClampNeg = k := zi_ix hk
    have sk := y_suc1 (k := kk) (by omega) (by omega)
    have bs := V.1 k lk
    have eS : xI h1 49 kk.toNatClampNeg = Y k := by rw [nk]; exact I2 k (Nat.le_refl _) lk
    have eV : xI h1 57 kk.toNatClampNeg = zVs Z Y k := by rw [nk, G.2.1 57 k (by decide)]; exact k9 k lk
    have eV2 := congrArg Int32.toInt eV
    have ez : (0 : Int32).toInt = 0 := rfl
    by_cases cb1 : (xI h1 (xR h1 48 12) (kk).toNatClampNeg) ≤ 0
    · have e_0 : (0 : Int32).toInt = 0 := rfl
      have cb1r := cb1
      rw [vref hg1.1 (rfl : vRf 48 12 = [57])] at cb1r
      have dcb1 : (xI h1 57 (kk).toNatClampNeg).toInt ≤ (0 : Int32).toInt := Int32.le_iff_toInt_le.mp cb1r
      by_cases cb2 : (0 : Int32) ≤ (xI h1 (xR h1 48 12) (kk).toNatClampNeg)
      · have e_0 : (0 : Int32).toInt = 0 := rfl
        have cb2r := cb2
        rw [vref hg1.1 (rfl : vRf 48 12 = [57])] at cb2r
        have dcb2 : (0 : Int32).toInt ≤ (xI h1 57 (kk).toNatClampNeg).toInt := Int32.le_iff_toInt_le.mp cb2r
        by_cases cb3 : ch = 0
        · have e_0 : (0 : Int32).toInt = 0 := rfl
          have dcb3 : (ch).toInt = (0 : Int32).toInt := congrArg Int32.toInt cb3
          by_cases cb4 : (xI h1 (xR h1 48 1) (kk).toNatClampNeg) = (xI h1 (xR h1 48 1) (kk).toNatClampNeg)
          · have cb4r := cb4
            rw [vref hg1.1 (rfl : vRf 48 1 = [49])] at cb4r
            have dcb4 : (xI h1 49 (kk).toNatClampNeg).toInt = (xI h1 49 (kk).toNatClampNeg).toInt := congrArg Int32.toInt cb4r
            have t5 : XT l 5 122 false 99 153 6051 56 [xf 11 48, xi ch, xi kk, x3] [] h1 56 [xf 11 48, xi (Int32.ofInt (0)), xi (kk + Int32.ofInt (1)), xi (xI h1 (xR h1 48 1) (kk).toNatClampNeg)] [] (xsetI h1 (xR h1 48 1) (kk).toNatClampNeg (xI h1 (xR h1 48 1) (kk).toNatClampNeg)) := XT_path (l := l) (fr := 5) (lo := 122) (full := false) (M := 99) (n := 153) (u := 6051) (pc := 56) (L := [xf 11 48, xi ch, xi kk, x3]) (st := []) (h := h1) (inl := [100]) (n' := 120) (sp := [56]) (o := [0, 1, 1, 0, 1]) rfl rfl ⟨rfl, rfl, rfl⟩ rfl ⟨Nat.le_of_eq hg1.2.2.2.1, Nat.le_of_eq hg1.2.2.2.2⟩ ⟨⟨⟨⟨⟨⟨⟨⟨⟨⟨⟨⟨⟨⟨trivial, (show ¬ xR h1 48 0 = 0 from by rw [r0]; decide)⟩, (show ¬ (xI h1 (xR h1 48 0) 0) ≤ kk from by rw [r0]; exact fun z => absurd (Int32.le_iff_toInt_le.mp z) (by omega))⟩, (vnn hg1.1 (rfl : vRf 48 1 = [49]) (by decide))⟩, (vp_of (i := kk) (n := 6) (by omega) (by omega))⟩, (vnn hg1.1 (rfl : vRf 48 12 = [57]) (by decide))⟩, (vp_of (i := kk) (n := 6) (by omega) (by omega))⟩, cb1⟩, cb2⟩, cb3⟩, (vnn hg1.1 (rfl : vRf 48 1 = [49]) (by decide))⟩, (vp_of (i := kk) (n := 6) (by omega) (by omega))⟩, cb4⟩, (vnn hg1.1 (rfl : vRf 48 1 = [49]) (by decide))⟩, (vp_of (i := kk) (n := 6) (by omega) (by omega))⟩
            rw [vref hg1.1 (rfl : vRf 48 1 = [49])] at t5
            have eN : (xI h1 49 (kk).toNatClampNeg) = zSt (Y k) (zVs Z Y k) := by rw [eS]; exact zSt_z (by omega) (by omega)
            obtain ⟨hE, eE⟩ : ∃ x, x = (xsetI h1 49 (kk).toNatClampNeg (xI h1 49 (kk).toNatClampNeg)) := ⟨_, rfl⟩
            have eE2 : hE = xsetI h1 49 k (zSt (Y k) (zVs Z Y k)) := by rw [eE, eN, nk]
            rw [← eE] at t5
            have bz := zSt_b (v := zVs Z Y k) bs
            have GE : mQ [49] h hE := by rw [eE2]; exact G.set (by decide) (by rw [vI_u rfl (rfl : vRow 49 = (0, 9))]; exact ⟨by show (0 : Int) ≤ _; omega, by show _ ≤ (9 : Int); omega⟩)
            have zc2 : zhc Z Y (k + 1) (Int32.ofInt (0)) := zhc_b zc cb3 (eN.symm.trans ((Int32.toInt_inj.mp dcb4).trans eS))
            obtain ⟨k3, c3, y3, h9, t9, G9, I9, z9⟩ := ck_strS48_24 l Z Y h hg A kt kw V k9 m (k + 1) (kk + Int32.ofInt (1)) (Int32.ofInt (0)) (xi (xI h1 49 (kk).toNatClampNeg)) hE GE (by omega) (by omega) (fun r hr => by rw [eE2]; exact if e : r = k then (by rw [e, yI_same]) else (by rw [yI_ne (eq_false (fun z => e z.2))]; exact I1 r (by omega))) (fun r h1_ h2_ => by rw [eE2, yI_ne (eq_false (fun z => by have := z.2; omega))]; exact I2 r (by omega) h2_) zc2
            exact ⟨k3, c3, y3, h9, t5.tr t9, G9, I9, z9⟩
          · have cb4r := cb4
            rw [vref hg1.1 (rfl : vRf 48 1 = [49])] at cb4r
            have dcb4 : ¬ (xI h1 49 (kk).toNatClampNeg).toInt = (xI h1 49 (kk).toNatClampNeg).toInt := fun z_ => cb4r (Int32.toInt_inj.mp z_)
            have t6 : XT l 5 122 false 99 153 6051 56 [xf 11 48, xi ch, xi kk, x3] [] h1 56 [xf 11 48, xi (Int32.ofInt (1)), xi (kk + Int32.ofInt (1)), xi (xI h1 (xR h1 48 1) (kk).toNatClampNeg)] [] (xsetI h1 (xR h1 48 1) (kk).toNatClampNeg (xI h1 (xR h1 48 1) (kk).toNatClampNeg)) := XT_path (l := l) (fr := 5) (lo := 122) (full := false) (M := 99) (n := 153) (u := 6051) (pc := 56) (L := [xf 11 48, xi ch, xi kk, x3]) (st := []) (h := h1) (inl := [100]) (n' := 120) (sp := [56]) (o := [0, 1, 1, 0, 0]) rfl rfl ⟨rfl, rfl, rfl⟩ rfl ⟨Nat.le_of_eq hg1.2.2.2.1, Nat.le_of_eq hg1.2.2.2.2⟩ ⟨⟨⟨⟨⟨⟨⟨⟨⟨⟨⟨⟨⟨⟨trivial, (show ¬ xR h1 48 0 = 0 from by rw [r0]; decide)⟩, (show ¬ (xI h1 (xR h1 48 0) 0) ≤ kk from by rw [r0]; exact fun z => absurd (Int32.le_iff_toInt_le.mp z) (by omega))⟩, (vnn hg1.1 (rfl : vRf 48 1 = [49]) (by decide))⟩, (vp_of (i := kk) (n := 6) (by omega) (by omega))⟩, (vnn hg1.1 (rfl : vRf 48 12 = [57]) (by decide))⟩, (vp_of (i := kk) (n := 6) (by omega) (by omega))⟩, cb1⟩, cb2⟩, cb3⟩, (vnn hg1.1 (rfl : vRf 48 1 = [49]) (by decide))⟩, (vp_of (i := kk) (n := 6) (by omega) (by omega))⟩, cb4⟩, (vnn hg1.1 (rfl : vRf 48 1 = [49]) (by decide))⟩, (vp_of (i := kk) (n := 6) (by omega) (by omega))⟩
            rw [vref hg1.1 (rfl : vRf 48 1 = [49])] at t6
            have eN : (xI h1 49 (kk).toNatClampNeg) = zSt (Y k) (zVs Z Y k) := by rw [eS]; exact zSt_z (by omega) (by omega)
            obtain ⟨hE, eE⟩ : ∃ x, x = (xsetI h1 49 (kk).toNatClampNeg (xI h1 49 (kk).toNatClampNeg)) := ⟨_, rfl⟩
            have eE2 : hE = xsetI h1 49 k (zSt (Y k) (zVs Z Y k)) := by rw [eE, eN, nk]
            rw [← eE] at t6
            have bz := zSt_b (v := zVs Z Y k) bs
            have GE : mQ [49] h hE := by rw [eE2]; exact G.set (by decide) (by rw [vI_u rfl (rfl : vRow 49 = (0, 9))]; exact ⟨by show (0 : Int) ≤ _; omega, by show _ ≤ (9 : Int); omega⟩)
            have zc2 : zhc Z Y (k + 1) (Int32.ofInt (1)) := zhc_c (fun y => dcb4 (congrArg Int32.toInt ((eN.trans y).trans eS.symm)))
            obtain ⟨k3, c3, y3, h9, t9, G9, I9, z9⟩ := ck_strS48_24 l Z Y h hg A kt kw V k9 m (k + 1) (kk + Int32.ofInt (1)) (Int32.ofInt (1)) (xi (xI h1 49 (kk).toNatClampNeg)) hE GE (by omega) (by omega) (fun r hr => by rw [eE2]; exact if e : r = k then (by rw [e, yI_same]) else (by rw [yI_ne (eq_false (fun z => e z.2))]; exact I1 r (by omega))) (fun r h1_ h2_ => by rw [eE2, yI_ne (eq_false (fun z => by have := z.2; omega))]; exact I2 r (by omega) h2_) zc2
            exact ⟨k3, c3, y3, h9, t6.tr t9, G9, I9, z9⟩
        · have e_0 : (0 : Int32).toInt = 0 := rfl
          have dcb3 : ¬ (ch).toInt = (0 : Int32).toInt := fun z_ => cb3 (Int32.toInt_inj.mp z_)
          have t7 : XT l 5 122 false 99 153 6051 56 [xf 11 48, xi ch, xi kk, x3] [] h1 56 [xf 11 48, xi (Int32.ofInt (1)), xi (kk + Int32.ofInt (1)), xi (xI h1 (xR h1 48 1) (kk).toNatClampNeg)] [] (xsetI h1 (xR h1 48 1) (kk).toNatClampNeg (xI h1 (xR h1 48 1) (kk).toNatClampNeg)) := XT_path (l := l) (fr := 5) (lo := 122) (full := false) (M := 99) (n := 153) (u := 6051) (pc := 56) (L := [xf 11 48, xi ch, xi kk, x3]) (st := []) (h := h1) (inl := [100]) (n' := 120) (sp := [56]) (o := [0, 1, 1, 1]) rfl rfl ⟨rfl, rfl, rfl⟩ rfl ⟨Nat.le_of_eq hg1.2.2.2.1, Nat.le_of_eq hg1.2.2.2.2⟩ ⟨⟨⟨⟨⟨⟨⟨⟨⟨⟨⟨trivial, (show ¬ xR h1 48 0 = 0 from by rw [r0]; decide)⟩, (show ¬ (xI h1 (xR h1 48 0) 0) ≤ kk from by rw [r0]; exact fun z => absurd (Int32.le_iff_toInt_le.mp z) (by omega))⟩, (vnn hg1.1 (rfl : vRf 48 1 = [49]) (by decide))⟩, (vp_of (i := kk) (n := 6) (by omega) (by omega))⟩, (vnn hg1.1 (rfl : vRf 48 12 = [57]) (by decide))⟩, (vp_of (i := kk) (n := 6) (by omega) (by omega))⟩, cb1⟩, cb2⟩, cb3⟩, (vnn hg1.1 (rfl : vRf 48 1 = [49]) (by decide))⟩, (vp_of (i := kk) (n := 6) (by omega) (by omega))⟩
          rw [vref hg1.1 (rfl : vRf 48 1 = [49])] at t7
          have eN : (xI h1 49 (kk).toNatClampNeg) = zSt (Y k) (zVs Z Y k) := by rw [eS]; exact zSt_z (by omega) (by omega)
          obtain ⟨hE, eE⟩ : ∃ x, x = (xsetI h1 49 (kk).toNatClampNeg (xI h1 49 (kk).toNatClampNeg)) := ⟨_, rfl⟩
          have eE2 : hE = xsetI h1 49 k (zSt (Y k) (zVs Z Y k)) := by rw [eE, eN, nk]
          rw [← eE] at t7
          have bz := zSt_b (v := zVs Z Y k) bs
          have GE : mQ [49] h hE := by rw [eE2]; exact G.set (by decide) (by rw [vI_u rfl (rfl : vRow 49 = (0, 9))]; exact ⟨by show (0 : Int) ≤ _; omega, by show _ ≤ (9 : Int); omega⟩)
          have zc2 : zhc Z Y (k + 1) (Int32.ofInt (1)) := zhc_a zc cb3
          obtain ⟨k3, c3, y3, h9, t9, G9, I9, z9⟩ := ck_strS48_24 l Z Y h hg A kt kw V k9 m (k + 1) (kk + Int32.ofInt (1)) (Int32.ofInt (1)) (xi (xI h1 49 (kk).toNatClampNeg)) hE GE (by omega) (by omega) (fun r hr => by rw [eE2]; exact if e : r = k then (by rw [e, yI_same]) else (by rw [yI_ne (eq_false (fun z => e z.2))]; exact I1 r (by omega))) (fun r h1_ h2_ => by rw [eE2, yI_ne (eq_false (fun z => by have := z.2; omega))]; exact I2 r (by omega) h2_) zc2
          exact ⟨k3, c3, y3, h9, t7.tr t9, G9, I9, z9⟩
      · have e_0 : (0 : Int32).toInt = 0 := rfl
        have cb2r := cb2
        rw [vref hg1.1 (rfl : vRf 48 12 = [57])] at cb2r
        have dcb2 : (xI h1 57 (kk).toNatClampNeg).toInt < (0 : Int32).toInt := Int32.lt_iff_toInt_lt.mp (Int32.not_le.mp cb2r)
        by_cases cb8 : ch = 0
        · have e_0 : (0 : Int32).toInt = 0 := rfl
          have dcb8 : (ch).toInt = (0 : Int32).toInt := congrArg Int32.toInt cb8
          by_cases cb9 : (if (Int32.ofInt (1)) < ((xI h1 (xR h1 48 1) (kk).toNatClampNeg) - (Int32.ofInt (1))) then ((xI h1 (xR h1 48 1) (kk).toNatClampNeg) - (Int32.ofInt (1))) else (Int32.ofInt (1))) = (xI h1 (xR h1 48 1) (kk).toNatClampNeg)
          · have e_1 : (Int32.ofInt (1)).toInt = 1 := rfl
            have cb9r := cb9
            rw [vref hg1.1 (rfl : vRf 48 1 = [49])] at cb9r
            have dcb9 : (if (Int32.ofInt (1)) < ((xI h1 49 (kk).toNatClampNeg) - (Int32.ofInt (1))) then ((xI h1 49 (kk).toNatClampNeg) - (Int32.ofInt (1))) else (Int32.ofInt (1))).toInt = (xI h1 49 (kk).toNatClampNeg).toInt := congrArg Int32.toInt cb9r
            have t10 : XT l 5 122 false 99 153 6051 56 [xf 11 48, xi ch, xi kk, x3] [] h1 56 [xf 11 48, xi (Int32.ofInt (0)), xi (kk + Int32.ofInt (1)), xi (if (Int32.ofInt (1)) < ((xI h1 (xR h1 48 1) (kk).toNatClampNeg) - (Int32.ofInt (1))) then ((xI h1 (xR h1 48 1) (kk).toNatClampNeg) - (Int32.ofInt (1))) else (Int32.ofInt (1)))] [] (xsetI h1 (xR h1 48 1) (kk).toNatClampNeg (if (Int32.ofInt (1)) < ((xI h1 (xR h1 48 1) (kk).toNatClampNeg) - (Int32.ofInt (1))) then ((xI h1 (xR h1 48 1) (kk).toNatClampNeg) - (Int32.ofInt (1))) else (Int32.ofInt (1)))) := XT_path (l := l) (fr := 5) (lo := 122) (full := false) (M := 99) (n := 153) (u := 6051) (pc := 56) (L := [xf 11 48, xi ch, xi kk, x3]) (st := []) (h := h1) (inl := [100]) (n' := 120) (sp := [56]) (o := [0, 1, 0, 0, 1]) rfl rfl ⟨rfl, rfl, rfl⟩ rfl ⟨Nat.le_of_eq hg1.2.2.2.1, Nat.le_of_eq hg1.2.2.2.2⟩ ⟨⟨⟨⟨⟨⟨⟨⟨⟨⟨⟨⟨⟨⟨trivial, (show ¬ xR h1 48 0 = 0 from by rw [r0]; decide)⟩, (show ¬ (xI h1 (xR h1 48 0) 0) ≤ kk from by rw [r0]; exact fun z => absurd (Int32.le_iff_toInt_le.mp z) (by omega))⟩, (vnn hg1.1 (rfl : vRf 48 1 = [49]) (by decide))⟩, (vp_of (i := kk) (n := 6) (by omega) (by omega))⟩, (vnn hg1.1 (rfl : vRf 48 12 = [57]) (by decide))⟩, (vp_of (i := kk) (n := 6) (by omega) (by omega))⟩, cb1⟩, cb2⟩, cb8⟩, (vnn hg1.1 (rfl : vRf 48 1 = [49]) (by decide))⟩, (vp_of (i := kk) (n := 6) (by omega) (by omega))⟩, cb9⟩, (vnn hg1.1 (rfl : vRf 48 1 = [49]) (by decide))⟩, (vp_of (i := kk) (n := 6) (by omega) (by omega))⟩
            rw [vref hg1.1 (rfl : vRf 48 1 = [49])] at t10
            have eN : (if (Int32.ofInt (1)) < ((xI h1 49 (kk).toNatClampNeg) - (Int32.ofInt (1))) then ((xI h1 49 (kk).toNatClampNeg) - (Int32.ofInt (1))) else (Int32.ofInt (1))) = zSt (Y k) (zVs Z Y k) := by rw [eS]; exact zSt_m bs (by omega) (by omega)
            obtain ⟨hE, eE⟩ : ∃ x, x = (xsetI h1 49 (kk).toNatClampNeg (if (Int32.ofInt (1)) < ((xI h1 49 (kk).toNatClampNeg) - (Int32.ofInt (1))) then ((xI h1 49 (kk).toNatClampNeg) - (Int32.ofInt (1))) else (Int32.ofInt (1)))) := ⟨_, rfl⟩
            have eE2 : hE = xsetI h1 49 k (zSt (Y k) (zVs Z Y k)) := by rw [eE, eN, nk]
            rw [← eE] at t10
            have bz := zSt_b (v := zVs Z Y k) bs
            have GE : mQ [49] h hE := by rw [eE2]; exact G.set (by decide) (by rw [vI_u rfl (rfl : vRow 49 = (0, 9))]; exact ⟨by show (0 : Int) ≤ _; omega, by show _ ≤ (9 : Int); omega⟩)
            have zc2 : zhc Z Y (k + 1) (Int32.ofInt (0)) := zhc_b zc cb8 (eN.symm.trans ((Int32.toInt_inj.mp dcb9).trans eS))
            obtain ⟨k3, c3, y3, h9, t9, G9, I9, z9⟩ := ck_strS48_24 l Z Y h hg A kt kw V k9 m (k + 1) (kk + Int32.ofInt (1)) (Int32.ofInt (0)) (xi (if (Int32.ofInt (1)) < ((xI h1 49 (kk).toNatClampNeg) - (Int32.ofInt (1))) then ((xI h1 49 (kk).toNatClampNeg) - (Int32.ofInt (1))) else (Int32.ofInt (1)))) hE GE (by omega) (by omega) (fun r hr => by rw [eE2]; exact if e : r = k then (by rw [e, yI_same]) else (by rw [yI_ne (eq_false (fun z => e z.2))]; exact I1 r (by omega))) (fun r h1_ h2_ => by rw [eE2, yI_ne (eq_false (fun z => by have := z.2; omega))]; exact I2 r (by omega) h2_) zc2
            exact ⟨k3, c3, y3, h9, t10.tr t9, G9, I9, z9⟩
          · have e_1 : (Int32.ofInt (1)).toInt = 1 := rfl
            have cb9r := cb9
            rw [vref hg1.1 (rfl : vRf 48 1 = [49])] at cb9r
            have dcb9 : ¬ (if (Int32.ofInt (1)) < ((xI h1 49 (kk).toNatClampNeg) - (Int32.ofInt (1))) then ((xI h1 49 (kk).toNatClampNeg) - (Int32.ofInt (1))) else (Int32.ofInt (1))).toInt = (xI h1 49 (kk).toNatClampNeg).toInt := fun z_ => cb9r (Int32.toInt_inj.mp z_)
            have t11 : XT l 5 122 false 99 153 6051 56 [xf 11 48, xi ch, xi kk, x3] [] h1 56 [xf 11 48, xi (Int32.ofInt (1)), xi (kk + Int32.ofInt (1)), xi (if (Int32.ofInt (1)) < ((xI h1 (xR h1 48 1) (kk).toNatClampNeg) - (Int32.ofInt (1))) then ((xI h1 (xR h1 48 1) (kk).toNatClampNeg) - (Int32.ofInt (1))) else (Int32.ofInt (1)))] [] (xsetI h1 (xR h1 48 1) (kk).toNatClampNeg (if (Int32.ofInt (1)) < ((xI h1 (xR h1 48 1) (kk).toNatClampNeg) - (Int32.ofInt (1))) then ((xI h1 (xR h1 48 1) (kk).toNatClampNeg) - (Int32.ofInt (1))) else (Int32.ofInt (1)))) := XT_path (l := l) (fr := 5) (lo := 122) (full := false) (M := 99) (n := 153) (u := 6051) (pc := 56) (L := [xf 11 48, xi ch, xi kk, x3]) (st := []) (h := h1) (inl := [100]) (n' := 120) (sp := [56]) (o := [0, 1, 0, 0, 0]) rfl rfl ⟨rfl, rfl, rfl⟩ rfl ⟨Nat.le_of_eq hg1.2.2.2.1, Nat.le_of_eq hg1.2.2.2.2⟩ ⟨⟨⟨⟨⟨⟨⟨⟨⟨⟨⟨⟨⟨⟨trivial, (show ¬ xR h1 48 0 = 0 from by rw [r0]; decide)⟩, (show ¬ (xI h1 (xR h1 48 0) 0) ≤ kk from by rw [r0]; exact fun z => absurd (Int32.le_iff_toInt_le.mp z) (by omega))⟩, (vnn hg1.1 (rfl : vRf 48 1 = [49]) (by decide))⟩, (vp_of (i := kk) (n := 6) (by omega) (by omega))⟩, (vnn hg1.1 (rfl : vRf 48 12 = [57]) (by decide))⟩, (vp_of (i := kk) (n := 6) (by omega) (by omega))⟩, cb1⟩, cb2⟩, cb8⟩, (vnn hg1.1 (rfl : vRf 48 1 = [49]) (by decide))⟩, (vp_of (i := kk) (n := 6) (by omega) (by omega))⟩, cb9⟩, (vnn hg1.1 (rfl : vRf 48 1 = [49]) (by decide))⟩, (vp_of (i := kk) (n := 6) (by omega) (by omega))⟩
            rw [vref hg1.1 (rfl : vRf 48 1 = [49])] at t11
            have eN : (if (Int32.ofInt (1)) < ((xI h1 49 (kk).toNatClampNeg) - (Int32.ofInt (1))) then ((xI h1 49 (kk).toNatClampNeg) - (Int32.ofInt (1))) else (Int32.ofInt (1))) = zSt (Y k) (zVs Z Y k) := by rw [eS]; exact zSt_m bs (by omega) (by omega)
            obtain ⟨hE, eE⟩ : ∃ x, x = (xsetI h1 49 (kk).toNatClampNeg (if (Int32.ofInt (1)) < ((xI h1 49 (kk).toNatClampNeg) - (Int32.ofInt (1))) then ((xI h1 49 (kk).toNatClampNeg) - (Int32.ofInt (1))) else (Int32.ofInt (1)))) := ⟨_, rfl⟩
            have eE2 : hE = xsetI h1 49 k (zSt (Y k) (zVs Z Y k)) := by rw [eE, eN, nk]
            rw [← eE] at t11
            have bz := zSt_b (v := zVs Z Y k) bs
            have GE : mQ [49] h hE := by rw [eE2]; exact G.set (by decide) (by rw [vI_u rfl (rfl : vRow 49 = (0, 9))]; exact ⟨by show (0 : Int) ≤ _; omega, by show _ ≤ (9 : Int); omega⟩)
            have zc2 : zhc Z Y (k + 1) (Int32.ofInt (1)) := zhc_c (fun y => dcb9 (congrArg Int32.toInt ((eN.trans y).trans eS.symm)))
            obtain ⟨k3, c3, y3, h9, t9, G9, I9, z9⟩ := ck_strS48_24 l Z Y h hg A kt kw V k9 m (k + 1) (kk + Int32.ofInt (1)) (Int32.ofInt (1)) (xi (if (Int32.ofInt (1)) < ((xI h1 49 (kk).toNatClampNeg) - (Int32.ofInt (1))) then ((xI h1 49 (kk).toNatClampNeg) - (Int32.ofInt (1))) else (Int32.ofInt (1)))) hE GE (by omega) (by omega) (fun r hr => by rw [eE2]; exact if e : r = k then (by rw [e, yI_same]) else (by rw [yI_ne (eq_false (fun z => e z.2))]; exact I1 r (by omega))) (fun r h1_ h2_ => by rw [eE2, yI_ne (eq_false (fun z => by have := z.2; omega))]; exact I2 r (by omega) h2_) zc2
            exact ⟨k3, c3, y3, h9, t11.tr t9, G9, I9, z9⟩
        · have e_0 : (0 : Int32).toInt = 0 := rfl
          have dcb8 : ¬ (ch).toInt = (0 : Int32).toInt := fun z_ => cb8 (Int32.toInt_inj.mp z_)
          have t12 : XT l 5 122 false 99 153 6051 56 [xf 11 48, xi ch, xi kk, x3] [] h1 56 [xf 11 48, xi (Int32.ofInt (1)), xi (kk + Int32.ofInt (1)), xi (if (Int32.ofInt (1)) < ((xI h1 (xR h1 48 1) (kk).toNatClampNeg) - (Int32.ofInt (1))) then ((xI h1 (xR h1 48 1) (kk).toNatClampNeg) - (Int32.ofInt (1))) else (Int32.ofInt (1)))] [] (xsetI h1 (xR h1 48 1) (kk).toNatClampNeg (if (Int32.ofInt (1)) < ((xI h1 (xR h1 48 1) (kk).toNatClampNeg) - (Int32.ofInt (1))) then ((xI h1 (xR h1 48 1) (kk).toNatClampNeg) - (Int32.ofInt (1))) else (Int32.ofInt (1)))) := XT_path (l := l) (fr := 5) (lo := 122) (full := false) (M := 99) (n := 153) (u := 6051) (pc := 56) (L := [xf 11 48, xi ch, xi kk, x3]) (st := []) (h := h1) (inl := [100]) (n' := 120) (sp := [56]) (o := [0, 1, 0, 1]) rfl rfl ⟨rfl, rfl, rfl⟩ rfl ⟨Nat.le_of_eq hg1.2.2.2.1, Nat.le_of_eq hg1.2.2.2.2⟩ ⟨⟨⟨⟨⟨⟨⟨⟨⟨⟨⟨trivial, (show ¬ xR h1 48 0 = 0 from by rw [r0]; decide)⟩, (show ¬ (xI h1 (xR h1 48 0) 0) ≤ kk from by rw [r0]; exact fun z => absurd (Int32.le_iff_toInt_le.mp z) (by omega))⟩, (vnn hg1.1 (rfl : vRf 48 1 = [49]) (by decide))⟩, (vp_of (i := kk) (n := 6) (by omega) (by omega))⟩, (vnn hg1.1 (rfl : vRf 48 12 = [57]) (by decide))⟩, (vp_of (i := kk) (n := 6) (by omega) (by omega))⟩, cb1⟩, cb2⟩, cb8⟩, (vnn hg1.1 (rfl : vRf 48 1 = [49]) (by decide))⟩, (vp_of (i := kk) (n := 6) (by omega) (by omega))⟩
          rw [vref hg1.1 (rfl : vRf 48 1 = [49])] at t12
          have eN : (if (Int32.ofInt (1)) < ((xI h1 49 (kk).toNatClampNeg) - (Int32.ofInt (1))) then ((xI h1 49 (kk).toNatClampNeg) - (Int32.ofInt (1))) else (Int32.ofInt (1))) = zSt (Y k) (zVs Z Y k) := by rw [eS]; exact zSt_m bs (by omega) (by omega)
          obtain ⟨hE, eE⟩ : ∃ x, x = (xsetI h1 49 (kk).toNatClampNeg (if (Int32.ofInt (1)) < ((xI h1 49 (kk).toNatClampNeg) - (Int32.ofInt (1))) then ((xI h1 49 (kk).toNatClampNeg) - (Int32.ofInt (1))) else (Int32.ofInt (1)))) := ⟨_, rfl⟩
          have eE2 : hE = xsetI h1 49 k (zSt (Y k) (zVs Z Y k)) := by rw [eE, eN, nk]
          rw [← eE] at t12
          have bz := zSt_b (v := zVs Z Y k) bs
          have GE : mQ [49] h hE := by rw [eE2]; exact G.set (by decide) (by rw [vI_u rfl (rfl : vRow 49 = (0, 9))]; exact ⟨by show (0 : Int) ≤ _; omega, by show _ ≤ (9 : Int); omega⟩)
          have zc2 : zhc Z Y (k + 1) (Int32.ofInt (1)) := zhc_a zc cb8
          obtain ⟨k3, c3, y3, h9, t9, G9, I9, z9⟩ := ck_strS48_24 l Z Y h hg A kt kw V k9 m (k + 1) (kk + Int32.ofInt (1)) (Int32.ofInt (1)) (xi (if (Int32.ofInt (1)) < ((xI h1 49 (kk).toNatClampNeg) - (Int32.ofInt (1))) then ((xI h1 49 (kk).toNatClampNeg) - (Int32.ofInt (1))) else (Int32.ofInt (1)))) hE GE (by omega) (by omega) (fun r hr => by rw [eE2]; exact if e : r = k then (by rw [e, yI_same]) else (by rw [yI_ne (eq_false (fun z => e z.2))]; exact I1 r (by omega))) (fun r h1_ h2_ => by rw [eE2, yI_ne (eq_false (fun z => by have := z.2; omega))]; exact I2 r (by omega) h2_) zc2
          exact ⟨k3, c3, y3, h9, t12.tr t9, G9, I9, z9⟩
    · have e_0 : (0 : Int32).toInt = 0 := rfl
      have cb1r := cb1
      rw [vref hg1.1 (rfl : vRf 48 12 = [57])] at cb1r
      have dcb1 : (0 : Int32).toInt < (xI h1 57 (kk).toNatClampNeg).toInt := Int32.lt_iff_toInt_lt.mp (Int32.not_le.mp cb1r)
      by_cases cb13 : ch = 0
      · have e_0 : (0 : Int32).toInt = 0 := rfl
        have dcb13 : (ch).toInt = (0 : Int32).toInt := congrArg Int32.toInt cb13
        by_cases cb14 : (if ((xI h1 (xR h1 48 1) (kk).toNatClampNeg) + (Int32.ofInt (1))) < (Int32.ofInt (9)) then ((xI h1 (xR h1 48 1) (kk).toNatClampNeg) + (Int32.ofInt (1))) else (Int32.ofInt (9))) = (xI h1 (xR h1 48 1) (kk).toNatClampNeg)
        · have e_1 : (Int32.ofInt (1)).toInt = 1 := rfl
          have e_9 : (Int32.ofInt (9)).toInt = 9 := rfl
          have cb14r := cb14
          rw [vref hg1.1 (rfl : vRf 48 1 = [49])] at cb14r
          have dcb14 : (if ((xI h1 49 (kk).toNatClampNeg) + (Int32.ofInt (1))) < (Int32.ofInt (9)) then ((xI h1 49 (kk).toNatClampNeg) + (Int32.ofInt (1))) else (Int32.ofInt (9))).toInt = (xI h1 49 (kk).toNatClampNeg).toInt := congrArg Int32.toInt cb14r
          have t15 : XT l 5 122 false 99 153 6051 56 [xf 11 48, xi ch, xi kk, x3] [] h1 56 [xf 11 48, xi (Int32.ofInt (0)), xi (kk + Int32.ofInt (1)), xi (if ((xI h1 (xR h1 48 1) (kk).toNatClampNeg) + (Int32.ofInt (1))) < (Int32.ofInt (9)) then ((xI h1 (xR h1 48 1) (kk).toNatClampNeg) + (Int32.ofInt (1))) else (Int32.ofInt (9)))] [] (xsetI h1 (xR h1 48 1) (kk).toNatClampNeg (if ((xI h1 (xR h1 48 1) (kk).toNatClampNeg) + (Int32.ofInt (1))) < (Int32.ofInt (9)) then ((xI h1 (xR h1 48 1) (kk).toNatClampNeg) + (Int32.ofInt (1))) else (Int32.ofInt (9)))) := XT_path (l := l) (fr := 5) (lo := 122) (full := false) (M := 99) (n := 153) (u := 6051) (pc := 56) (L := [xf 11 48, xi ch, xi kk, x3]) (st := []) (h := h1) (inl := [100]) (n' := 120) (sp := [56]) (o := [0, 0, 0, 1]) rfl rfl ⟨rfl, rfl, rfl⟩ rfl ⟨Nat.le_of_eq hg1.2.2.2.1, Nat.le_of_eq hg1.2.2.2.2⟩ ⟨⟨⟨⟨⟨⟨⟨⟨⟨⟨⟨⟨⟨trivial, (show ¬ xR h1 48 0 = 0 from by rw [r0]; decide)⟩, (show ¬ (xI h1 (xR h1 48 0) 0) ≤ kk from by rw [r0]; exact fun z => absurd (Int32.le_iff_toInt_le.mp z) (by omega))⟩, (vnn hg1.1 (rfl : vRf 48 1 = [49]) (by decide))⟩, (vp_of (i := kk) (n := 6) (by omega) (by omega))⟩, (vnn hg1.1 (rfl : vRf 48 12 = [57]) (by decide))⟩, (vp_of (i := kk) (n := 6) (by omega) (by omega))⟩, cb1⟩, cb13⟩, (vnn hg1.1 (rfl : vRf 48 1 = [49]) (by decide))⟩, (vp_of (i := kk) (n := 6) (by omega) (by omega))⟩, cb14⟩, (vnn hg1.1 (rfl : vRf 48 1 = [49]) (by decide))⟩, (vp_of (i := kk) (n := 6) (by omega) (by omega))⟩
          rw [vref hg1.1 (rfl : vRf 48 1 = [49])] at t15
          have eN : (if ((xI h1 49 (kk).toNatClampNeg) + (Int32.ofInt (1))) < (Int32.ofInt (9)) then ((xI h1 49 (kk).toNatClampNeg) + (Int32.ofInt (1))) else (Int32.ofInt (9))) = zSt (Y k) (zVs Z Y k) := by rw [eS]; exact zSt_p bs (by omega)
          obtain ⟨hE, eE⟩ : ∃ x, x = (xsetI h1 49 (kk).toNatClampNeg (if ((xI h1 49 (kk).toNatClampNeg) + (Int32.ofInt (1))) < (Int32.ofInt (9)) then ((xI h1 49 (kk).toNatClampNeg) + (Int32.ofInt (1))) else (Int32.ofInt (9)))) := ⟨_, rfl⟩
          have eE2 : hE = xsetI h1 49 k (zSt (Y k) (zVs Z Y k)) := by rw [eE, eN, nk]
          rw [← eE] at t15
          have bz := zSt_b (v := zVs Z Y k) bs
          have GE : mQ [49] h hE := by rw [eE2]; exact G.set (by decide) (by rw [vI_u rfl (rfl : vRow 49 = (0, 9))]; exact ⟨by show (0 : Int) ≤ _; omega, by show _ ≤ (9 : Int); omega⟩)
          have zc2 : zhc Z Y (k + 1) (Int32.ofInt (0)) := zhc_b zc cb13 (eN.symm.trans ((Int32.toInt_inj.mp dcb14).trans eS))
          obtain ⟨k3, c3, y3, h9, t9, G9, I9, z9⟩ := ck_strS48_24 l Z Y h hg A kt kw V k9 m (k + 1) (kk + Int32.ofInt (1)) (Int32.ofInt (0)) (xi (if ((xI h1 49 (kk).toNatClampNeg) + (Int32.ofInt (1))) < (Int32.ofInt (9)) then ((xI h1 49 (kk).toNatClampNeg) + (Int32.ofInt (1))) else (Int32.ofInt (9)))) hE GE (by omega) (by omega) (fun r hr => by rw [eE2]; exact if e : r = k then (by rw [e, yI_same]) else (by rw [yI_ne (eq_false (fun z => e z.2))]; exact I1 r (by omega))) (fun r h1_ h2_ => by rw [eE2, yI_ne (eq_false (fun z => by have := z.2; omega))]; exact I2 r (by omega) h2_) zc2
          exact ⟨k3, c3, y3, h9, t15.tr t9, G9, I9, z9⟩
        · have e_1 : (Int32.ofInt (1)).toInt = 1 := rfl
          have e_9 : (Int32.ofInt (9)).toInt = 9 := rfl
          have cb14r := cb14
          rw [vref hg1.1 (rfl : vRf 48 1 = [49])] at cb14r
          have dcb14 : ¬ (if ((xI h1 49 (kk).toNatClampNeg) + (Int32.ofInt (1))) < (Int32.ofInt (9)) then ((xI h1 49 (kk).toNatClampNeg) + (Int32.ofInt (1))) else (Int32.ofInt (9))).toInt = (xI h1 49 (kk).toNatClampNeg).toInt := fun z_ => cb14r (Int32.toInt_inj.mp z_)
          have t16 : XT l 5 122 false 99 153 6051 56 [xf 11 48, xi ch, xi kk, x3] [] h1 56 [xf 11 48, xi (Int32.ofInt (1)), xi (kk + Int32.ofInt (1)), xi (if ((xI h1 (xR h1 48 1) (kk).toNatClampNeg) + (Int32.ofInt (1))) < (Int32.ofInt (9)) then ((xI h1 (xR h1 48 1) (kk).toNatClampNeg) + (Int32.ofInt (1))) else (Int32.ofInt (9)))] [] (xsetI h1 (xR h1 48 1) (kk).toNatClampNeg (if ((xI h1 (xR h1 48 1) (kk).toNatClampNeg) + (Int32.ofInt (1))) < (Int32.ofInt (9)) then ((xI h1 (xR h1 48 1) (kk).toNatClampNeg) + (Int32.ofInt (1))) else (Int32.ofInt (9)))) := XT_path (l := l) (fr := 5) (lo := 122) (full := false) (M := 99) (n := 153) (u := 6051) (pc := 56) (L := [xf 11 48, xi ch, xi kk, x3]) (st := []) (h := h1) (inl := [100]) (n' := 120) (sp := [56]) (o := [0, 0, 0, 0]) rfl rfl ⟨rfl, rfl, rfl⟩ rfl ⟨Nat.le_of_eq hg1.2.2.2.1, Nat.le_of_eq hg1.2.2.2.2⟩ ⟨⟨⟨⟨⟨⟨⟨⟨⟨⟨⟨⟨⟨trivial, (show ¬ xR h1 48 0 = 0 from by rw [r0]; decide)⟩, (show ¬ (xI h1 (xR h1 48 0) 0) ≤ kk from by rw [r0]; exact fun z => absurd (Int32.le_iff_toInt_le.mp z) (by omega))⟩, (vnn hg1.1 (rfl : vRf 48 1 = [49]) (by decide))⟩, (vp_of (i := kk) (n := 6) (by omega) (by omega))⟩, (vnn hg1.1 (rfl : vRf 48 12 = [57]) (by decide))⟩, (vp_of (i := kk) (n := 6) (by omega) (by omega))⟩, cb1⟩, cb13⟩, (vnn hg1.1 (rfl : vRf 48 1 = [49]) (by decide))⟩, (vp_of (i := kk) (n := 6) (by omega) (by omega))⟩, cb14⟩, (vnn hg1.1 (rfl : vRf 48 1 = [49]) (by decide))⟩, (vp_of (i := kk) (n := 6) (by omega) (by omega))⟩
          rw [vref hg1.1 (rfl : vRf 48 1 = [49])] at t16
          have eN : (if ((xI h1 49 (kk).toNatClampNeg) + (Int32.ofInt (1))) < (Int32.ofInt (9)) then ((xI h1 49 (kk).toNatClampNeg) + (Int32.ofInt (1))) else (Int32.ofInt (9))) = zSt (Y k) (zVs Z Y k) := by rw [eS]; exact zSt_p bs (by omega)
          obtain ⟨hE, eE⟩ : ∃ x, x = (xsetI h1 49 (kk).toNatClampNeg (if ((xI h1 49 (kk).toNatClampNeg) + (Int32.ofInt (1))) < (Int32.ofInt (9)) then ((xI h1 49 (kk).toNatClampNeg) + (Int32.ofInt (1))) else (Int32.ofInt (9)))) := ⟨_, rfl⟩
          have eE2 : hE = xsetI h1 49 k (zSt (Y k) (zVs Z Y k)) := by rw [eE, eN, nk]
          rw [← eE] at t16
          have bz := zSt_b (v := zVs Z Y k) bs
          have GE : mQ [49] h hE := by rw [eE2]; exact G.set (by decide) (by rw [vI_u rfl (rfl : vRow 49 = (0, 9))]; exact ⟨by show (0 : Int) ≤ _; omega, by show _ ≤ (9 : Int); omega⟩)
          have zc2 : zhc Z Y (k + 1) (Int32.ofInt (1)) := zhc_c (fun y => dcb14 (congrArg Int32.toInt ((eN.trans y).trans eS.symm)))
          obtain ⟨k3, c3, y3, h9, t9, G9, I9, z9⟩ := ck_strS48_24 l Z Y h hg A kt kw V k9 m (k + 1) (kk + Int32.ofInt (1)) (Int32.ofInt (1)) (xi (if ((xI h1 49 (kk).toNatClampNeg) + (Int32.ofInt (1))) < (Int32.ofInt (9)) then ((xI h1 49 (kk).toNatClampNeg) + (Int32.ofInt (1))) else (Int32.ofInt (9)))) hE GE (by omega) (by omega) (fun r hr => by rw [eE2]; exact if e : r = k then (by rw [e, yI_same]) else (by rw [yI_ne (eq_false (fun z => e z.2))]; exact I1 r (by omega))) (fun r h1_ h2_ => by rw [eE2, yI_ne (eq_false (fun z => by have := z.2; omega))]; exact I2 r (by omega) h2_) zc2
          exact ⟨k3, c3, y3, h9, t16.tr t9, G9, I9, z9⟩
      · have e_0 : (0 : Int32).toInt = 0 := rfl
        have dcb13 : ¬ (ch).toInt = (0 : Int32).toInt := fun z_ => cb13 (Int32.toInt_inj.mp z_)
        have t17 : XT l 5 122 false 99 153 6051 56 [xf 11 48, xi ch, xi kk, x3] [] h1 56 [xf 11 48, xi (Int32.ofInt (1)), xi (kk + Int32.ofInt (1)), xi (if ((xI h1 (xR h1 48 1) (kk).toNatClampNeg) + (Int32.ofInt (1))) < (Int32.ofInt (9)) then ((xI h1 (xR h1 48 1) (kk).toNatClampNeg) + (Int32.ofInt (1))) else (Int32.ofInt (9)))] [] (xsetI h1 (xR h1 48 1) (kk).toNatClampNeg (if ((xI h1 (xR h1 48 1) (kk).toNatClampNeg) + (Int32.ofInt (1))) < (Int32.ofInt (9)) then ((xI h1 (xR h1 48 1) (kk).toNatClampNeg) + (Int32.ofInt (1))) else (Int32.ofInt (9)))) := XT_path (l := l) (fr := 5) (lo := 122) (full := false) (M := 99) (n := 153) (u := 6051) (pc := 56) (L := [xf 11 48, xi ch, xi kk, x3]) (st := []) (h := h1) (inl := [100]) (n' := 120) (sp := [56]) (o := [0, 0, 1]) rfl rfl ⟨rfl, rfl, rfl⟩ rfl ⟨Nat.le_of_eq hg1.2.2.2.1, Nat.le_of_eq hg1.2.2.2.2⟩ ⟨⟨⟨⟨⟨⟨⟨⟨⟨⟨trivial, (show ¬ xR h1 48 0 = 0 from by rw [r0]; decide)⟩, (show ¬ (xI h1 (xR h1 48 0) 0) ≤ kk from by rw [r0]; exact fun z => absurd (Int32.le_iff_toInt_le.mp z) (by omega))⟩, (vnn hg1.1 (rfl : vRf 48 1 = [49]) (by decide))⟩, (vp_of (i := kk) (n := 6) (by omega) (by omega))⟩, (vnn hg1.1 (rfl : vRf 48 12 = [57]) (by decide))⟩, (vp_of (i := kk) (n := 6) (by omega) (by omega))⟩, cb1⟩, cb13⟩, (vnn hg1.1 (rfl : vRf 48 1 = [49]) (by decide))⟩, (vp_of (i := kk) (n := 6) (by omega) (by omega))⟩
        rw [vref hg1.1 (rfl : vRf 48 1 = [49])] at t17
        have eN : (if ((xI h1 49 (kk).toNatClampNeg) + (Int32.ofInt (1))) < (Int32.ofInt (9)) then ((xI h1 49 (kk).toNatClampNeg) + (Int32.ofInt (1))) else (Int32.ofInt (9))) = zSt (Y k) (zVs Z Y k) := by rw [eS]; exact zSt_p bs (by omega)
        obtain ⟨hE, eE⟩ : ∃ x, x = (xsetI h1 49 (kk).toNatClampNeg (if ((xI h1 49 (kk).toNatClampNeg) + (Int32.ofInt (1))) < (Int32.ofInt (9)) then ((xI h1 49 (kk).toNatClampNeg) + (Int32.ofInt (1))) else (Int32.ofInt (9)))) := ⟨_, rfl⟩
        have eE2 : hE = xsetI h1 49 k (zSt (Y k) (zVs Z Y k)) := by rw [eE, eN, nk]
        rw [← eE] at t17
        have bz := zSt_b (v := zVs Z Y k) bs
        have GE : mQ [49] h hE := by rw [eE2]; exact G.set (by decide) (by rw [vI_u rfl (rfl : vRow 49 = (0, 9))]; exact ⟨by show (0 : Int) ≤ _; omega, by show _ ≤ (9 : Int); omega⟩)
        have zc2 : zhc Z Y (k + 1) (Int32.ofInt (1)) := zhc_a zc cb13
        obtain ⟨k3, c3, y3, h9, t9, G9, I9, z9⟩ := ck_strS48_24 l Z Y h hg A kt kw V k9 m (k + 1) (kk + Int32.ofInt (1)) (Int32.ofInt (1)) (xi (if ((xI h1 49 (kk).toNatClampNeg) + (Int32.ofInt (1))) < (Int32.ofInt (9)) then ((xI h1 49 (kk).toNatClampNeg) + (Int32.ofInt (1))) else (Int32.ofInt (9)))) hE GE (by omega) (by omega) (fun r hr => by rw [eE2]; exact if e : r = k then (by rw [e, yI_same]) else (by rw [yI_ne (eq_false (fun z => e z.2))]; exact I1 r (by omega))) (fun r h1_ h2_ => by rw [eE2, yI_ne (eq_false (fun z => by have := z.2; omega))]; exact I2 r (by omega) h2_) zc2
        exact ⟨k3, c3, y3, h9, t17.tr t9, G9, I9, z9⟩
set_option maxRecDepth 100000 in
set_option maxHeartbeats 4000000 in
theorem ck_stretch48_24 (l : Launch) (Z : Nat → Int) (Y : Nat → Int32) (h : XH) (hg : mI h) (A : zAll Z) (kt : kTx 24 Z h) (kw : kW 48 24 Z Y h) (V : zVd Z Y) (kd : kD 48 Z Y h) (ke : kE 48 Z Y h) : ∃ v h', CX l 5 122 false 99 [xf 11 48] h [xi v] h' ∧ mQ [49, 51, 55, 57] h h' ∧ kW 48 24 Z (zStr Z Y) h' ∧ kD 48 Z (zStr Z Y) h' ∧ kE 48 Z (zStr Z Y) h' ∧ zhc Z Y (Z 0).toNat v := by
  obtain ⟨⟨⟨B00, B01⟩, ⟨B10, B11⟩, ⟨B20, B21⟩, B30, B31⟩, g6, zj, zv, LW⟩ := id A
  have r0 : xR h 48 0 = 24 := kw.2.2.2.2.2
  have t1 : XT l 5 122 false 99 153 6051 0 [xf 11 48, xun, xun, xun] [] h 5 [xf 11 48, xun, xun, xun] [xi (Int32.ofInt (0)), xf 10006 (xR h 48 12)] h := XT_path (l := l) (fr := 5) (lo := 122) (full := false) (M := 99) (n := 153) (u := 6051) (pc := 0) (L := [xf 11 48, xun, xun, xun]) (st := []) (h := h) (inl := []) (n' := 120) (sp := [5]) (o := []) rfl rfl ⟨rfl, rfl, rfl⟩ rfl ⟨Nat.le_of_eq hg.2.2.2.1, Nat.le_of_eq hg.2.2.2.2⟩ ⟨trivial, (vnn hg.1 (rfl : vRf 48 12 = [57]) (by decide))⟩
  rw [vref hg.1 (rfl : vRf 48 12 = [57])] at t1
  obtain ⟨h1, c1, G1, z1⟩ := cm_fill57 l h hg
  have t2 : XT l 5 122 false 99 153 6051 5 [xf 11 48, xun, xun, xun] [xi (Int32.ofInt (0)), xf 10006 57] h 8 [xf 11 48, xun, xun, xun] [] h1 := XT_call (l := l) (fr := 5) (lo := 122) (full := false) (M := 99) (n := 153) (u := 6051) (pc := 5) (L := [xf 11 48, xun, xun, xun]) (st := [xi (Int32.ofInt (0)), xf 10006 57]) (h := h) (i := .invokestatic 5) (aux := 2) (nx := 8) (K := 5) (vs := [xf 10006 57, xi (Int32.ofInt (0))]) (rs := []) (rest := []) rfl rfl rfl rfl rfl rfl c1 (by decide) (by decide) (Nat.le_of_ble_eq_true rfl) ⟨Nat.le_of_eq G1.1.2.2.2.1, Nat.le_of_eq G1.1.2.2.2.2⟩
  have t3 := t1.tr t2
  have t4 : XT l 5 122 false 99 153 6051 8 [xf 11 48, xun, xun, xun] [] h1 10 [xf 11 48, xi (Int32.ofInt (0)), xun, xun] [] h1 := XT_path (l := l) (fr := 5) (lo := 122) (full := false) (M := 99) (n := 153) (u := 6051) (pc := 8) (L := [xf 11 48, xun, xun, xun]) (st := []) (h := h1) (inl := []) (n' := 120) (sp := [10]) (o := []) rfl rfl ⟨rfl, rfl, rfl⟩ rfl ⟨Nat.le_of_eq G1.1.2.2.2.1, Nat.le_of_eq G1.1.2.2.2.2⟩ trivial
  have t5 := t3.tr t4
  obtain ⟨k2, h2, t2, G2, I2⟩ := ck_strV48_24 l Z Y h hg A kt kw V kd ke (Z 2).toNat 0 (Int32.ofInt (0)) (xun) (xun) h1 G1 rfl (by omega) (fun r hr => z1 r (by omega))
  have T2 := t5.tr t2
  have t6 : XT l 5 122 false 99 153 6051 52 [xf 11 48, xi k2, xun, xun] [] h2 56 [xf 11 48, xi (Int32.ofInt (0)), xi (Int32.ofInt (0)), xun] [] h2 := XT_path (l := l) (fr := 5) (lo := 122) (full := false) (M := 99) (n := 153) (u := 6051) (pc := 52) (L := [xf 11 48, xi k2, xun, xun]) (st := []) (h := h2) (inl := []) (n' := 120) (sp := [56]) (o := []) rfl rfl ⟨rfl, rfl, rfl⟩ rfl ⟨Nat.le_of_eq G2.1.2.2.2.1, Nat.le_of_eq G2.1.2.2.2.2⟩ trivial
  have t7 := T2.tr t6
  have kt2 : kTx 24 Z h2 := kt.q G2 (by decide)
  have kw2 : kW 48 24 Z Y h2 := kw.q G2 (by decide)
  obtain ⟨k3, ch, y3, h3, t3, G3, I3, z3⟩ := ck_strS48_24 l Z Y h2 G2.1 A kt2 kw2 V I2 (Z 0).toNat 0 (Int32.ofInt (0)) (Int32.ofInt (0)) (xun) h2 (mQ.rf G2.1) rfl (by omega) (fun r hr => by omega) (fun r _ hr => kw2.1 r hr) (Or.inl ⟨rfl, fun r hr => by omega⟩)
  have T3 := t7.tr t3
  have G23 : mQ [49, 51, 55, 57] h h3 := (G2.mono (by decide)).tr (G3.mono (by decide))
  have kw3 : kW 48 24 Z (zStr Z Y) h3 := zStr_kW kw2 B01 G3 (by decide) I3
  have t8 : XT l 5 122 false 99 153 6051 116 [xf 11 48, xi ch, xi k3, y3] [] h3 117 [xf 11 48, xi ch, xi k3, y3] [xf 11 48] h3 := XT_path (l := l) (fr := 5) (lo := 122) (full := false) (M := 99) (n := 153) (u := 6051) (pc := 116) (L := [xf 11 48, xi ch, xi k3, y3]) (st := []) (h := h3) (inl := []) (n' := 120) (sp := [117]) (o := []) rfl rfl ⟨rfl, rfl, rfl⟩ rfl ⟨Nat.le_of_eq G3.1.2.2.2.1, Nat.le_of_eq G3.1.2.2.2.2⟩ trivial
  have t9 := T3.tr t8
  obtain ⟨h4, c4, G4, kd4⟩ := ck_tear48_24 l Z (zStr Z Y) h3 G3.1 A (kt2.q G3 (by decide)) kw3 (zVd_str A.1 V)
  have t10 : XT l 5 122 false 99 153 6051 117 [xf 11 48, xi ch, xi k3, y3] [xf 11 48] h3 120 [xf 11 48, xi ch, xi k3, y3] [] h4 := XT_call (l := l) (fr := 5) (lo := 122) (full := false) (M := 99) (n := 153) (u := 6051) (pc := 117) (L := [xf 11 48, xi ch, xi k3, y3]) (st := [xf 11 48]) (h := h3) (i := .invokevirtual 66) (aux := 1) (nx := 120) (K := 66) (vs := [xf 11 48]) (rs := []) (rest := []) rfl rfl rfl rfl rfl rfl c4 (by decide) (by decide) (Nat.le_of_ble_eq_true rfl) ⟨Nat.le_of_eq G4.1.2.2.2.1, Nat.le_of_eq G4.1.2.2.2.2⟩
  have t11 := t9.tr t10
  have t12 : XT l 5 122 false 99 153 6051 120 [xf 11 48, xi ch, xi k3, y3] [] h4 121 [xf 11 48, xi ch, xi k3, y3] [xi ch] h4 := XT_path (l := l) (fr := 5) (lo := 122) (full := false) (M := 99) (n := 153) (u := 6051) (pc := 120) (L := [xf 11 48, xi ch, xi k3, y3]) (st := []) (h := h4) (inl := []) (n' := 120) (sp := [121]) (o := []) rfl rfl ⟨rfl, rfl, rfl⟩ rfl ⟨Nat.le_of_eq G4.1.2.2.2.1, Nat.le_of_eq G4.1.2.2.2.2⟩ trivial
  have t13 := t11.tr t12
  exact ⟨ch, h4, CX_ofT (h' := h4) (by decide) rfl rfl ⟨trivial, (zhc_z z3)⟩ ⟨_, _, _, rfl, rfl, rfl⟩ rfl ⟨Nat.le_of_eq G4.1.2.2.2.1.symm, Nat.le_of_eq G4.1.2.2.2.2.symm⟩ t13, G23.tr (G4.mono (by decide)), kw3.q G4 (by decide), kd4, fun r hr => by rw [zCr_str A.1]; exact ((ke.q G2 (by decide)).q G3 (by decide)).q G4 (by decide) r hr, z3⟩
set_option maxRecDepth 100000 in
set_option maxHeartbeats 4000000 in
theorem ck_strV59_3 (l : Launch) (Z : Nat → Int) (Y : Nat → Int32) (h : XH) (hg : mI h) (A : zAll Z) (kt : kTx 3 Z h) (kw : kW 59 3 Z Y h) (V : zVd Z Y) (kd : kD 59 Z Y h) (ke : kE 59 Z Y h) : ∀ (m k : Nat) (kk : Int32) (x2 x3 : XV) (h1 : XH), mQ [68] h h1 → kk.toInt = k → (k : Int) + m = Z 2 → (∀ r : Nat, (r : Int) < Z 0 → xI h1 68 r = zsum (fun p => if (Y (20 + p)).toInt = r then zWe Z Y p * zVo Z Y p else Int32.ofInt (0)) k) → ∃ k2 h2, XT l 5 122 false 99 153 6051 10 [xf 11 59, xi kk, x2, x3] [] h1 52 [xf 11 59, xi k2, x2, x3] [] h2 ∧ mQ [68] h h2 ∧ (∀ r : Nat, (r : Int) < Z 0 → xI h2 68 r = zsum (fun p => if (Y (20 + p)).toInt = r then zWe Z Y p * zVo Z Y p else Int32.ofInt (0)) (Z 2).toNat)
  | 0, k, kk, x2, x3, h1, G, hk, hm, I9 => by
    obtain ⟨⟨⟨B00, B01⟩, ⟨B10, B11⟩, ⟨B20, B21⟩, B30, B31⟩, g6, zj, zv, LW⟩ := id A
    have r0 : xR h1 59 0 = 3 := (G.2.2 59 0).trans kw.2.2.2.2.2
    have hg1 := G.1
    have ej : (xI h1 3 9).toInt = Z 2 := by rw [G.2.1 3 9 (by decide)]; exact kt.1.1 2 (by decide)
    have t1 : XT l 5 122 false 99 153 6051 10 [xf 11 59, xi kk, x2, x3] [] h1 52 [xf 11 59, xi kk, x2, x3] [] h1 := XT_path (l := l) (fr := 5) (lo := 122) (full := false) (M := 99) (n := 153) (u := 6051) (pc := 10) (L := [xf 11 59, xi kk, x2, x3]) (st := []) (h := h1) (inl := [74]) (n' := 120) (sp := [52]) (o := [1]) rfl rfl ⟨rfl, rfl, rfl⟩ rfl ⟨Nat.le_of_eq hg1.2.2.2.1, Nat.le_of_eq hg1.2.2.2.2⟩ ⟨⟨trivial, (show ¬ xR h1 59 0 = 0 from by rw [r0]; decide)⟩, (show (xI h1 (xR h1 59 0) 9) ≤ kk from by rw [r0]; exact Int32.le_iff_toInt_le.mpr (by omega))⟩
    obtain rfl : k = (Z 2).toNat := by omega
    exact ⟨kk, h1, t1, G, I9⟩
  | m + 1, k, kk, x2, x3, h1, G, hk, hm, I9 => by
    obtain ⟨⟨⟨B00, B01⟩, ⟨B10, B11⟩, ⟨B20, B21⟩, B30, B31⟩, g6, zj, zv, LW⟩ := id A
    have r0 : xR h1 59 0 = 3 := (G.2.2 59 0).trans kw.2.2.2.2.2
    have hg1 := G.1
    have ej : (xI h1 3 9).toInt = Z 2 := by rw [G.2.1 3 9 (by decide)]; exact kt.1.1 2 (by decide)
    have lk : (k : Int) < Z 2 := by omega
    have nk : kk.toNatClampNeg = k := zi_ix hk
    have sk := y_suc1 (k := kk) (by omega) (by omega)
    have kt1 : kTx 3 Z h1 := kt.q G (by decide)
    have kw1 : kW 59 3 Z Y h1 := kw.q G (by decide)
    have ehh : xI h1 63 kk.toNatClampNeg = Y (20 + k) := by rw [nk]; exact (kw1.2.1 k lk).1
    have eh := congrArg Int32.toInt ehh
    have bh := V.2.1 k lk
    obtain ⟨H, hH⟩ : ∃ H : Nat, (Y (20 + k)).toInt = H := ⟨(Y (20 + k)).toInt.toNat, by omega⟩
    have nh : (xI h1 63 kk.toNatClampNeg).toNatClampNeg = H := zi_ix (by omega)
    have emo : (xI h1 59 10).toInt = (Y 51).toInt := congrArg Int32.toInt kw1.2.2.2.1
    have ewg : xI h1 14 kk.toNatClampNeg = Int32.ofInt (Z (200 + k)) := i32_e (by rw [nk]; exact kt1.1.2.2 10 k (by decide) lk)
    have e_1 : (Int32.ofInt (1)).toInt = 1 := rfl
    by_cases cb1 : (xI h1 59 10) = (Int32.ofInt (1))
    · have e_1 : (Int32.ofInt (1)).toInt = 1 := rfl
      have dcb1 : (xI h1 59 10).toInt = (Int32.ofInt (1)).toInt := congrArg Int32.toInt cb1
      have t2 : XT l 5 122 false 99 153 6051 10 [xf 11 59, xi kk, x2, x3] [] h1 40 [xf 11 59, xi kk, x2, x3] [xi kk, xf 11 59, xi (Int32.ofInt (1)), xi (xI h1 (xR h1 59 12) ((xI h1 (xR h1 59 4) (kk).toNatClampNeg)).toNatClampNeg), xi (xI h1 (xR h1 59 4) (kk).toNatClampNeg), xf 10006 (xR h1 59 12)] h1 := XT_path (l := l) (fr := 5) (lo := 122) (full := false) (M := 99) (n := 153) (u := 6051) (pc := 10) (L := [xf 11 59, xi kk, x2, x3]) (st := []) (h := h1) (inl := [74]) (n' := 120) (sp := [40]) (o := [0, 0]) rfl rfl ⟨rfl, rfl, rfl⟩ rfl ⟨Nat.le_of_eq hg1.2.2.2.1, Nat.le_of_eq hg1.2.2.2.2⟩ ⟨⟨⟨⟨⟨⟨⟨trivial, (show ¬ xR h1 59 0 = 0 from by rw [r0]; decide)⟩, (show ¬ (xI h1 (xR h1 59 0) 9) ≤ kk from by rw [r0]; exact fun z => absurd (Int32.le_iff_toInt_le.mp z) (by omega))⟩, (vnn hg1.1 (rfl : vRf 59 12 = [68]) (by decide))⟩, (vnn hg1.1 (rfl : vRf 59 4 = [63]) (by decide))⟩, (vp_of (i := kk) (n := 8) (by omega) (by omega))⟩, (show vp_in ((xI h1 (xR h1 59 4) (kk).toNatClampNeg)) (6) from (by rw [vref hg1.1 (rfl : vRf 59 4 = [63])]; exact (vp_of (i := (xI h1 63 (kk).toNatClampNeg)) (n := 6) (by omega) (by omega) : vp_in ((xI h1 63 (kk).toNatClampNeg)) (6))))⟩, cb1⟩
      rw [vref hg1.1 (rfl : vRf 59 12 = [68]), vref hg1.1 (rfl : vRf 59 4 = [63])] at t2
      obtain ⟨v, h2, c1, g1, ev⟩ := ck_vote59_3 l Z Y kk k h1 hg1 A kt1 kw1 V (kd.q G (by decide)) (ke.q G (by decide)) hk lk
      have t3 : XT l 5 122 false 99 153 6051 40 [xf 11 59, xi kk, x2, x3] [xi kk, xf 11 59, xi (Int32.ofInt (1)), xi (xI h1 68 ((xI h1 63 (kk).toNatClampNeg)).toNatClampNeg), xi (xI h1 63 (kk).toNatClampNeg), xf 10006 68] h1 43 [xf 11 59, xi kk, x2, x3] [xi v, xi (Int32.ofInt (1)), xi (xI h1 68 ((xI h1 63 (kk).toNatClampNeg)).toNatClampNeg), xi (xI h1 63 (kk).toNatClampNeg), xf 10006 68] h2 := XT_call (l := l) (fr := 5) (lo := 122) (full := false) (M := 99) (n := 153) (u := 6051) (pc := 40) (L := [xf 11 59, xi kk, x2, x3]) (st := [xi kk, xf 11 59, xi (Int32.ofInt (1)), xi (xI h1 68 ((xI h1 63 (kk).toNatClampNeg)).toNatClampNeg), xi (xI h1 63 (kk).toNatClampNeg), xf 10006 68]) (h := h1) (i := .invokevirtual 75) (aux := 2) (nx := 43) (K := 75) (vs := [xf 11 59, xi kk]) (rs := [xi v]) (rest := [xi (Int32.ofInt (1)), xi (xI h1 68 ((xI h1 63 (kk).toNatClampNeg)).toNatClampNeg), xi (xI h1 63 (kk).toNatClampNeg), xf 10006 68]) rfl rfl rfl rfl rfl rfl c1 (by decide) (by decide) (Nat.le_of_ble_eq_true rfl) ⟨Nat.le_of_eq g1.1.2.2.2.1, Nat.le_of_eq g1.1.2.2.2.2⟩
      have t4 := t2.tr t3
      have t5 : XT l 5 122 false 99 153 6051 43 [xf 11 59, xi kk, x2, x3] [xi v, xi (Int32.ofInt (1)), xi (xI h1 68 ((xI h1 63 (kk).toNatClampNeg)).toNatClampNeg), xi (xI h1 63 (kk).toNatClampNeg), xf 10006 68] h2 10 [xf 11 59, xi (kk + Int32.ofInt (1)), x2, x3] [] (xsetI h2 68 ((xI h1 63 (kk).toNatClampNeg)).toNatClampNeg ((xI h1 68 ((xI h1 63 (kk).toNatClampNeg)).toNatClampNeg) + ((Int32.ofInt (1)) * v))) := XT_path (l := l) (fr := 5) (lo := 122) (full := false) (M := 99) (n := 153) (u := 6051) (pc := 43) (L := [xf 11 59, xi kk, x2, x3]) (st := [xi v, xi (Int32.ofInt (1)), xi (xI h1 68 ((xI h1 63 (kk).toNatClampNeg)).toNatClampNeg), xi (xI h1 63 (kk).toNatClampNeg), xf 10006 68]) (h := h2) (inl := [74]) (n' := 120) (sp := [10]) (o := []) rfl rfl ⟨rfl, rfl, rfl⟩ rfl ⟨Nat.le_of_eq g1.1.2.2.2.1, Nat.le_of_eq g1.1.2.2.2.2⟩ ⟨trivial, (vp_of (i := (xI h1 63 (kk).toNatClampNeg)) (n := 6) (by omega) (by omega))⟩
      have t6 := t4.tr t5
      have eWG : (Int32.ofInt (1)) = zWe Z Y k := by unfold zWe; rw [if_pos (by omega)]
      obtain ⟨hE, eE⟩ : ∃ x, x = (xsetI h2 68 ((xI h1 63 (kk).toNatClampNeg)).toNatClampNeg ((xI h1 68 ((xI h1 63 (kk).toNatClampNeg)).toNatClampNeg) + ((Int32.ofInt (1)) * v))) := ⟨_, rfl⟩
      have eE2 : hE = xsetI h2 68 H (xI h1 68 H + zWe Z Y k * zVo Z Y k) := by rw [eE, eWG, ev]; simp only [nh]
      rw [← eE] at t6
      have G2 : mQ [68] h h2 := G.tr g1.q
      have GE : mQ [68] h hE := by rw [eE2]; exact G2.set (by decide) (by rw [vI_u rfl (rfl : vRow 68 = sfull)]; exact i32r_of _)
      have J9 : ∀ r : Nat, (r : Int) < Z 0 → xI hE 68 r = zsum (fun p => if (Y (20 + p)).toInt = r then zWe Z Y p * zVo Z Y p else Int32.ofInt (0)) (k + 1) := by
        intro r hr
        by_cases e1 : r = H
        · rw [e1, eE2, yI_same]
          rw [e1] at hr
          exact zsum_n (I9 H hr) (if_pos hH)
        · rw [eE2, yI_ne (eq_false (fun z => e1 z.2)), g1.2.1]
          exact zsum_m (I9 r hr) (if_neg (by omega))
      obtain ⟨k3, h9, t9, G9, I10⟩ := ck_strV59_3 l Z Y h hg A kt kw V kd ke m (k + 1) (kk + Int32.ofInt (1)) (x2) (x3) hE GE (by omega) (by omega) J9
      exact ⟨k3, h9, t6.tr t9, G9, I10⟩
    · have e_1 : (Int32.ofInt (1)).toInt = 1 := rfl
      have dcb1 : ¬ (xI h1 59 10).toInt = (Int32.ofInt (1)).toInt := fun z_ => cb1 (Int32.toInt_inj.mp z_)
      have t7 : XT l 5 122 false 99 153 6051 10 [xf 11 59, xi kk, x2, x3] [] h1 40 [xf 11 59, xi kk, x2, x3] [xi kk, xf 11 59, xi (xI h1 (xR h1 (xR h1 59 0) 13) (kk).toNatClampNeg), xi (xI h1 (xR h1 59 12) ((xI h1 (xR h1 59 4) (kk).toNatClampNeg)).toNatClampNeg), xi (xI h1 (xR h1 59 4) (kk).toNatClampNeg), xf 10006 (xR h1 59 12)] h1 := XT_path (l := l) (fr := 5) (lo := 122) (full := false) (M := 99) (n := 153) (u := 6051) (pc := 10) (L := [xf 11 59, xi kk, x2, x3]) (st := []) (h := h1) (inl := [74]) (n' := 120) (sp := [40]) (o := [0, 1]) rfl rfl ⟨rfl, rfl, rfl⟩ rfl ⟨Nat.le_of_eq hg1.2.2.2.1, Nat.le_of_eq hg1.2.2.2.2⟩ ⟨⟨⟨⟨⟨⟨⟨⟨⟨⟨trivial, (show ¬ xR h1 59 0 = 0 from by rw [r0]; decide)⟩, (show ¬ (xI h1 (xR h1 59 0) 9) ≤ kk from by rw [r0]; exact fun z => absurd (Int32.le_iff_toInt_le.mp z) (by omega))⟩, (vnn hg1.1 (rfl : vRf 59 12 = [68]) (by decide))⟩, (vnn hg1.1 (rfl : vRf 59 4 = [63]) (by decide))⟩, (vp_of (i := kk) (n := 8) (by omega) (by omega))⟩, (show vp_in ((xI h1 (xR h1 59 4) (kk).toNatClampNeg)) (6) from (by rw [vref hg1.1 (rfl : vRf 59 4 = [63])]; exact (vp_of (i := (xI h1 63 (kk).toNatClampNeg)) (n := 6) (by omega) (by omega) : vp_in ((xI h1 63 (kk).toNatClampNeg)) (6))))⟩, cb1⟩, (show ¬ xR h1 59 0 = 0 from by rw [r0]; decide)⟩, (show ¬ xR h1 (xR h1 59 0) 13 = 0 from by rw [r0]; exact vnn hg1.1 (rfl : vRf 3 13 = [14]) (by decide))⟩, (vp_of (i := kk) (n := 8) (by omega) (by omega))⟩
      rw [r0, vref hg1.1 (rfl : vRf 59 12 = [68]), vref hg1.1 (rfl : vRf 59 4 = [63]), vref hg1.1 (rfl : vRf 3 13 = [14])] at t7
      obtain ⟨v, h2, c1, g1, ev⟩ := ck_vote59_3 l Z Y kk k h1 hg1 A kt1 kw1 V (kd.q G (by decide)) (ke.q G (by decide)) hk lk
      have t8 : XT l 5 122 false 99 153 6051 40 [xf 11 59, xi kk, x2, x3] [xi kk, xf 11 59, xi (xI h1 14 (kk).toNatClampNeg), xi (xI h1 68 ((xI h1 63 (kk).toNatClampNeg)).toNatClampNeg), xi (xI h1 63 (kk).toNatClampNeg), xf 10006 68] h1 43 [xf 11 59, xi kk, x2, x3] [xi v, xi (xI h1 14 (kk).toNatClampNeg), xi (xI h1 68 ((xI h1 63 (kk).toNatClampNeg)).toNatClampNeg), xi (xI h1 63 (kk).toNatClampNeg), xf 10006 68] h2 := XT_call (l := l) (fr := 5) (lo := 122) (full := false) (M := 99) (n := 153) (u := 6051) (pc := 40) (L := [xf 11 59, xi kk, x2, x3]) (st := [xi kk, xf 11 59, xi (xI h1 14 (kk).toNatClampNeg), xi (xI h1 68 ((xI h1 63 (kk).toNatClampNeg)).toNatClampNeg), xi (xI h1 63 (kk).toNatClampNeg), xf 10006 68]) (h := h1) (i := .invokevirtual 75) (aux := 2) (nx := 43) (K := 75) (vs := [xf 11 59, xi kk]) (rs := [xi v]) (rest := [xi (xI h1 14 (kk).toNatClampNeg), xi (xI h1 68 ((xI h1 63 (kk).toNatClampNeg)).toNatClampNeg), xi (xI h1 63 (kk).toNatClampNeg), xf 10006 68]) rfl rfl rfl rfl rfl rfl c1 (by decide) (by decide) (Nat.le_of_ble_eq_true rfl) ⟨Nat.le_of_eq g1.1.2.2.2.1, Nat.le_of_eq g1.1.2.2.2.2⟩
      have t9 := t7.tr t8
      have t10 : XT l 5 122 false 99 153 6051 43 [xf 11 59, xi kk, x2, x3] [xi v, xi (xI h1 14 (kk).toNatClampNeg), xi (xI h1 68 ((xI h1 63 (kk).toNatClampNeg)).toNatClampNeg), xi (xI h1 63 (kk).toNatClampNeg), xf 10006 68] h2 10 [xf 11 59, xi (kk + Int32.ofInt (1)), x2, x3] [] (xsetI h2 68 ((xI h1 63 (kk).toNatClampNeg)).toNatClampNeg ((xI h1 68 ((xI h1 63 (kk).toNatClampNeg)).toNatClampNeg) + ((xI h1 14 (kk).toNatClampNeg) * v))) := XT_path (l := l) (fr := 5) (lo := 122) (full := false) (M := 99) (n := 153) (u := 6051) (pc := 43) (L := [xf 11 59, xi kk, x2, x3]) (st := [xi v, xi (xI h1 14 (kk).toNatClampNeg), xi (xI h1 68 ((xI h1 63 (kk).toNatClampNeg)).toNatClampNeg), xi (xI h1 63 (kk).toNatClampNeg), xf 10006 68]) (h := h2) (inl := [74]) (n' := 120) (sp := [10]) (o := []) rfl rfl ⟨rfl, rfl, rfl⟩ rfl ⟨Nat.le_of_eq g1.1.2.2.2.1, Nat.le_of_eq g1.1.2.2.2.2⟩ ⟨trivial, (vp_of (i := (xI h1 63 (kk).toNatClampNeg)) (n := 6) (by omega) (by omega))⟩
      have t11 := t9.tr t10
      have eWG : (xI h1 14 (kk).toNatClampNeg) = zWe Z Y k := by unfold zWe; rw [if_neg (by omega)]; exact ewg
      obtain ⟨hE, eE⟩ : ∃ x, x = (xsetI h2 68 ((xI h1 63 (kk).toNatClampNeg)).toNatClampNeg ((xI h1 68 ((xI h1 63 (kk).toNatClampNeg)).toNatClampNeg) + ((xI h1 14 (kk).toNatClampNeg) * v))) := ⟨_, rfl⟩
      have eE2 : hE = xsetI h2 68 H (xI h1 68 H + zWe Z Y k * zVo Z Y k) := by rw [eE, eWG, ev]; simp only [nh]
      rw [← eE] at t11
      have G2 : mQ [68] h h2 := G.tr g1.q
      have GE : mQ [68] h hE := by rw [eE2]; exact G2.set (by decide) (by rw [vI_u rfl (rfl : vRow 68 = sfull)]; exact i32r_of _)
      have J9 : ∀ r : Nat, (r : Int) < Z 0 → xI hE 68 r = zsum (fun p => if (Y (20 + p)).toInt = r then zWe Z Y p * zVo Z Y p else Int32.ofInt (0)) (k + 1) := by
        intro r hr
        by_cases e1 : r = H
        · rw [e1, eE2, yI_same]
          rw [e1] at hr
          exact zsum_n (I9 H hr) (if_pos hH)
        · rw [eE2, yI_ne (eq_false (fun z => e1 z.2)), g1.2.1]
          exact zsum_m (I9 r hr) (if_neg (by omega))
      obtain ⟨k3, h9, t9, G9, I10⟩ := ck_strV59_3 l Z Y h hg A kt kw V kd ke m (k + 1) (kk + Int32.ofInt (1)) (x2) (x3) hE GE (by omega) (by omega) J9
      exact ⟨k3, h9, t11.tr t9, G9, I10⟩
set_option maxRecDepth 100000 in
set_option maxHeartbeats 4000000 in
theorem ck_strS59_3 (l : Launch) (Z : Nat → Int) (Y : Nat → Int32) (h : XH) (hg : mI h) (A : zAll Z) (kt : kTx 3 Z h) (kw : kW 59 3 Z Y h) (V : zVd Z Y) (k9 : ∀ r : Nat, (r : Int) < Z 0 → xI h 68 r = zVs Z Y r) : ∀ (m k : Nat) (kk ch : Int32) (x3 : XV) (h1 : XH), mQ [60] h h1 → kk.toInt = k → (k : Int) + m = Z 0 → (∀ r : Nat, r < k → xI h1 60 r = zSt (Y r) (zVs Z Y r)) → (∀ r : Nat, k ≤ r → (r : Int) < Z 0 → xI h1 60 r = Y r) → zhc Z Y k ch → ∃ k2 ch2 y3 h2, XT l 5 122 false 99 153 6051 56 [xf 11 59, xi ch, xi kk, x3] [] h1 116 [xf 11 59, xi ch2, xi k2, y3] [] h2 ∧ mQ [60] h h2 ∧ (∀ r : Nat, (r : Int) < Z 0 → xI h2 60 r = zSt (Y r) (zVs Z Y r)) ∧ zhc Z Y (Z 0).toNat ch2
  | 0, k, kk, ch, x3, h1, G, hk, hm, I1, I2, zc => by
    obtain ⟨⟨⟨B00, B01⟩, ⟨B10, B11⟩, ⟨B20, B21⟩, B30, B31⟩, g6, zj, zv, LW⟩ := id A
    have r0 : xR h1 59 0 = 3 := (G.2.2 59 0).trans kw.2.2.2.2.2
    have hg1 := G.1
    have ej : (xI h1 3 0).toInt = Z 0 := by rw [G.2.1 3 0 (by decide)]; exact kt.1.1 0 (by decide)
    have t1 : XT l 5 122 false 99 153 6051 56 [xf 11 59, xi ch, xi kk, x3] [] h1 116 [xf 11 59, xi ch, xi kk, x3] [] h1 := XT_path (l := l) (fr := 5) (lo := 122) (full := false) (M := 99) (n := 153) (u := 6051) (pc := 56) (L := [xf 11 59, xi ch, xi kk, x3]) (st := []) (h := h1) (inl := [100]) (n' := 120) (sp := [116]) (o := [1]) rfl rfl ⟨rfl, rfl, rfl⟩ rfl ⟨Nat.le_of_eq hg1.2.2.2.1, Nat.le_of_eq hg1.2.2.2.2⟩ ⟨⟨trivial, (show ¬ xR h1 59 0 = 0 from by rw [r0]; decide)⟩, (show (xI h1 (xR h1 59 0) 0) ≤ kk from by rw [r0]; exact Int32.le_iff_toInt_le.mpr (by omega))⟩
    obtain rfl : k = (Z 0).toNat := by omega
    exact ⟨kk, ch, x3, h1, t1, G, fun r hr => I1 r (by omega), zc⟩
  | m + 1, k, kk, ch, x3, h1, G, hk, hm, I1, I2, zc => by
    obtain ⟨⟨⟨B00, B01⟩, ⟨B10, B11⟩, ⟨B20, B21⟩, B30, B31⟩, g6, zj, zv, LW⟩ := id A
    have r0 : xR h1 59 0 = 3 := (G.2.2 59 0).trans kw.2.2.2.2.2
    have hg1 := G.1
    have ej : (xI h1 3 0).toInt = Z 0 := by rw [G.2.1 3 0 (by decide)]; exact kt.1.1 0 (by decide)
    have lk : (k : Int) < Z 0 := by omega
    have nk : kk.toNatClampNeg = k := zi_ix hk
    have sk := y_suc1 (k := kk) (by omega) (by omega)
    have bs := V.1 k lk
    have eS : xI h1 60 kk.toNatClampNeg = Y k := by rw [nk]; exact I2 k (Nat.le_refl _) lk
    have eV : xI h1 68 kk.toNatClampNeg = zVs Z Y k := by rw [nk, G.2.1 68 k (by decide)]; exact k9 k lk
    have eV2 := congrArg Int32.toInt eV
    have ez : (0 : Int32).toInt = 0 := rfl
    by_cases cb1 : (xI h1 (xR h1 59 12) (kk).toNatClampNeg) ≤ 0
    · have e_0 : (0 : Int32).toInt = 0 := rfl
      have cb1r := cb1
      rw [vref hg1.1 (rfl : vRf 59 12 = [68])] at cb1r
      have dcb1 : (xI h1 68 (kk).toNatClampNeg).toInt ≤ (0 : Int32).toInt := Int32.le_iff_toInt_le.mp cb1r
      by_cases cb2 : (0 : Int32) ≤ (xI h1 (xR h1 59 12) (kk).toNatClampNeg)
      · have e_0 : (0 : Int32).toInt = 0 := rfl
        have cb2r := cb2
        rw [vref hg1.1 (rfl : vRf 59 12 = [68])] at cb2r
        have dcb2 : (0 : Int32).toInt ≤ (xI h1 68 (kk).toNatClampNeg).toInt := Int32.le_iff_toInt_le.mp cb2r
        by_cases cb3 : ch = 0
        · have e_0 : (0 : Int32).toInt = 0 := rfl
          have dcb3 : (ch).toInt = (0 : Int32).toInt := congrArg Int32.toInt cb3
          by_cases cb4 : (xI h1 (xR h1 59 1) (kk).toNatClampNeg) = (xI h1 (xR h1 59 1) (kk).toNatClampNeg)
          · have cb4r := cb4
            rw [vref hg1.1 (rfl : vRf 59 1 = [60])] at cb4r
            have dcb4 : (xI h1 60 (kk).toNatClampNeg).toInt = (xI h1 60 (kk).toNatClampNeg).toInt := congrArg Int32.toInt cb4r
            have t5 : XT l 5 122 false 99 153 6051 56 [xf 11 59, xi ch, xi kk, x3] [] h1 56 [xf 11 59, xi (Int32.ofInt (0)), xi (kk + Int32.ofInt (1)), xi (xI h1 (xR h1 59 1) (kk).toNatClampNeg)] [] (xsetI h1 (xR h1 59 1) (kk).toNatClampNeg (xI h1 (xR h1 59 1) (kk).toNatClampNeg)) := XT_path (l := l) (fr := 5) (lo := 122) (full := false) (M := 99) (n := 153) (u := 6051) (pc := 56) (L := [xf 11 59, xi ch, xi kk, x3]) (st := []) (h := h1) (inl := [100]) (n' := 120) (sp := [56]) (o := [0, 1, 1, 0, 1]) rfl rfl ⟨rfl, rfl, rfl⟩ rfl ⟨Nat.le_of_eq hg1.2.2.2.1, Nat.le_of_eq hg1.2.2.2.2⟩ ⟨⟨⟨⟨⟨⟨⟨⟨⟨⟨⟨⟨⟨⟨trivial, (show ¬ xR h1 59 0 = 0 from by rw [r0]; decide)⟩, (show ¬ (xI h1 (xR h1 59 0) 0) ≤ kk from by rw [r0]; exact fun z => absurd (Int32.le_iff_toInt_le.mp z) (by omega))⟩, (vnn hg1.1 (rfl : vRf 59 1 = [60]) (by decide))⟩, (vp_of (i := kk) (n := 6) (by omega) (by omega))⟩, (vnn hg1.1 (rfl : vRf 59 12 = [68]) (by decide))⟩, (vp_of (i := kk) (n := 6) (by omega) (by omega))⟩, cb1⟩, cb2⟩, cb3⟩, (vnn hg1.1 (rfl : vRf 59 1 = [60]) (by decide))⟩, (vp_of (i := kk) (n := 6) (by omega) (by omega))⟩, cb4⟩, (vnn hg1.1 (rfl : vRf 59 1 = [60]) (by decide))⟩, (vp_of (i := kk) (n := 6) (by omega) (by omega))⟩
            rw [vref hg1.1 (rfl : vRf 59 1 = [60])] at t5
            have eN : (xI h1 60 (kk).toNatClampNeg) = zSt (Y k) (zVs Z Y k) := by rw [eS]; exact zSt_z (by omega) (by omega)
            obtain ⟨hE, eE⟩ : ∃ x, x = (xsetI h1 60 (kk).toNatClampNeg (xI h1 60 (kk).toNatClampNeg)) := ⟨_, rfl⟩
            have eE2 : hE = xsetI h1 60 k (zSt (Y k) (zVs Z Y k)) := by rw [eE, eN, nk]
            rw [← eE] at t5
            have bz := zSt_b (v := zVs Z Y k) bs
            have GE : mQ [60] h hE := by rw [eE2]; exact G.set (by decide) (by rw [vI_u rfl (rfl : vRow 60 = (0, 9))]; exact ⟨by show (0 : Int) ≤ _; omega, by show _ ≤ (9 : Int); omega⟩)
            have zc2 : zhc Z Y (k + 1) (Int32.ofInt (0)) := zhc_b zc cb3 (eN.symm.trans ((Int32.toInt_inj.mp dcb4).trans eS))
            obtain ⟨k3, c3, y3, h9, t9, G9, I9, z9⟩ := ck_strS59_3 l Z Y h hg A kt kw V k9 m (k + 1) (kk + Int32.ofInt (1)) (Int32.ofInt (0)) (xi (xI h1 60 (kk).toNatClampNeg)) hE GE (by omega) (by omega) (fun r hr => by rw [eE2]; exact if e : r = k then (by rw [e, yI_same]) else (by rw [yI_ne (eq_false (fun z => e z.2))]; exact I1 r (by omega))) (fun r h1_ h2_ => by rw [eE2, yI_ne (eq_false (fun z => by have := z.2; omega))]; exact I2 r (by omega) h2_) zc2
            exact ⟨k3, c3, y3, h9, t5.tr t9, G9, I9, z9⟩
          · have cb4r := cb4
            rw [vref hg1.1 (rfl : vRf 59 1 = [60])] at cb4r
            have dcb4 : ¬ (xI h1 60 (kk).toNatClampNeg).toInt = (xI h1 60 (kk).toNatClampNeg).toInt := fun z_ => cb4r (Int32.toInt_inj.mp z_)
            have t6 : XT l 5 122 false 99 153 6051 56 [xf 11 59, xi ch, xi kk, x3] [] h1 56 [xf 11 59, xi (Int32.ofInt (1)), xi (kk + Int32.ofInt (1)), xi (xI h1 (xR h1 59 1) (kk).toNatClampNeg)] [] (xsetI h1 (xR h1 59 1) (kk).toNatClampNeg (xI h1 (xR h1 59 1) (kk).toNatClampNeg)) := XT_path (l := l) (fr := 5) (lo := 122) (full := false) (M := 99) (n := 153) (u := 6051) (pc := 56) (L := [xf 11 59, xi ch, xi kk, x3]) (st := []) (h := h1) (inl := [100]) (n' := 120) (sp := [56]) (o := [0, 1, 1, 0, 0]) rfl rfl ⟨rfl, rfl, rfl⟩ rfl ⟨Nat.le_of_eq hg1.2.2.2.1, Nat.le_of_eq hg1.2.2.2.2⟩ ⟨⟨⟨⟨⟨⟨⟨⟨⟨⟨⟨⟨⟨⟨trivial, (show ¬ xR h1 59 0 = 0 from by rw [r0]; decide)⟩, (show ¬ (xI h1 (xR h1 59 0) 0) ≤ kk from by rw [r0]; exact fun z => absurd (Int32.le_iff_toInt_le.mp z) (by omega))⟩, (vnn hg1.1 (rfl : vRf 59 1 = [60]) (by decide))⟩, (vp_of (i := kk) (n := 6) (by omega) (by omega))⟩, (vnn hg1.1 (rfl : vRf 59 12 = [68]) (by decide))⟩, (vp_of (i := kk) (n := 6) (by omega) (by omega))⟩, cb1⟩, cb2⟩, cb3⟩, (vnn hg1.1 (rfl : vRf 59 1 = [60]) (by decide))⟩, (vp_of (i := kk) (n := 6) (by omega) (by omega))⟩, cb4⟩, (vnn hg1.1 (rfl : vRf 59 1 = [60]) (by decide))⟩, (vp_of (i := kk) (n := 6) (by omega) (by omega))⟩
            rw [vref hg1.1 (rfl : vRf 59 1 = [60])] at t6
            have eN : (xI h1 60 (kk).toNatClampNeg) = zSt (Y k) (zVs Z Y k) := by rw [eS]; exact zSt_z (by omega) (by omega)
            obtain ⟨hE, eE⟩ : ∃ x, x = (xsetI h1 60 (kk).toNatClampNeg (xI h1 60 (kk).toNatClampNeg)) := ⟨_, rfl⟩
            have eE2 : hE = xsetI h1 60 k (zSt (Y k) (zVs Z Y k)) := by rw [eE, eN, nk]
            rw [← eE] at t6
            have bz := zSt_b (v := zVs Z Y k) bs
            have GE : mQ [60] h hE := by rw [eE2]; exact G.set (by decide) (by rw [vI_u rfl (rfl : vRow 60 = (0, 9))]; exact ⟨by show (0 : Int) ≤ _; omega, by show _ ≤ (9 : Int); omega⟩)
            have zc2 : zhc Z Y (k + 1) (Int32.ofInt (1)) := zhc_c (fun y => dcb4 (congrArg Int32.toInt ((eN.trans y).trans eS.symm)))
            obtain ⟨k3, c3, y3, h9, t9, G9, I9, z9⟩ := ck_strS59_3 l Z Y h hg A kt kw V k9 m (k + 1) (kk + Int32.ofInt (1)) (Int32.ofInt (1)) (xi (xI h1 60 (kk).toNatClampNeg)) hE GE (by omega) (by omega) (fun r hr => by rw [eE2]; exact if e : r = k then (by rw [e, yI_same]) else (by rw [yI_ne (eq_false (fun z => e z.2))]; exact I1 r (by omega))) (fun r h1_ h2_ => by rw [eE2, yI_ne (eq_false (fun z => by have := z.2; omega))]; exact I2 r (by omega) h2_) zc2
            exact ⟨k3, c3, y3, h9, t6.tr t9, G9, I9, z9⟩
        · have e_0 : (0 : Int32).toInt = 0 := rfl
          have dcb3 : ¬ (ch).toInt = (0 : Int32).toInt := fun z_ => cb3 (Int32.toInt_inj.mp z_)
          have t7 : XT l 5 122 false 99 153 6051 56 [xf 11 59, xi ch, xi kk, x3] [] h1 56 [xf 11 59, xi (Int32.ofInt (1)), xi (kk + Int32.ofInt (1)), xi (xI h1 (xR h1 59 1) (kk).toNatClampNeg)] [] (xsetI h1 (xR h1 59 1) (kk).toNatClampNeg (xI h1 (xR h1 59 1) (kk).toNatClampNeg)) := XT_path (l := l) (fr := 5) (lo := 122) (full := false) (M := 99) (n := 153) (u := 6051) (pc := 56) (L := [xf 11 59, xi ch, xi kk, x3]) (st := []) (h := h1) (inl := [100]) (n' := 120) (sp := [56]) (o := [0, 1, 1, 1]) rfl rfl ⟨rfl, rfl, rfl⟩ rfl ⟨Nat.le_of_eq hg1.2.2.2.1, Nat.le_of_eq hg1.2.2.2.2⟩ ⟨⟨⟨⟨⟨⟨⟨⟨⟨⟨⟨trivial, (show ¬ xR h1 59 0 = 0 from by rw [r0]; decide)⟩, (show ¬ (xI h1 (xR h1 59 0) 0) ≤ kk from by rw [r0]; exact fun z => absurd (Int32.le_iff_toInt_le.mp z) (by omega))⟩, (vnn hg1.1 (rfl : vRf 59 1 = [60]) (by decide))⟩, (vp_of (i := kk) (n := 6) (by omega) (by omega))⟩, (vnn hg1.1 (rfl : vRf 59 12 = [68]) (by decide))⟩, (vp_of (i := kk) (n := 6) (by omega) (by omega))⟩, cb1⟩, cb2⟩, cb3⟩, (vnn hg1.1 (rfl : vRf 59 1 = [60]) (by decide))⟩, (vp_of (i := kk) (n := 6) (by omega) (by omega))⟩
          rw [vref hg1.1 (rfl : vRf 59 1 = [60])] at t7
          have eN : (xI h1 60 (kk).toNatClampNeg) = zSt (Y k) (zVs Z Y k) := by rw [eS]; exact zSt_z (by omega) (by omega)
          obtain ⟨hE, eE⟩ : ∃ x, x = (xsetI h1 60 (kk).toNatClampNeg (xI h1 60 (kk).toNatClampNeg)) := ⟨_, rfl⟩
          have eE2 : hE = xsetI h1 60 k (zSt (Y k) (zVs Z Y k)) := by rw [eE, eN, nk]
          rw [← eE] at t7
          have bz := zSt_b (v := zVs Z Y k) bs
          have GE : mQ [60] h hE := by rw [eE2]; exact G.set (by decide) (by rw [vI_u rfl (rfl : vRow 60 = (0, 9))]; exact ⟨by show (0 : Int) ≤ _; omega, by show _ ≤ (9 : Int); omega⟩)
          have zc2 : zhc Z Y (k + 1) (Int32.ofInt (1)) := zhc_a zc cb3
          obtain ⟨k3, c3, y3, h9, t9, G9, I9, z9⟩ := ck_strS59_3 l Z Y h hg A kt kw V k9 m (k + 1) (kk + Int32.ofInt (1)) (Int32.ofInt (1)) (xi (xI h1 60 (kk).toNatClampNeg)) hE GE (by omega) (by omega) (fun r hr => by rw [eE2]; exact if e : r = k then (by rw [e, yI_same]) else (by rw [yI_ne (eq_false (fun z => e z.2))]; exact I1 r (by omega))) (fun r h1_ h2_ => by rw [eE2, yI_ne (eq_false (fun z => by have := z.2; omega))]; exact I2 r (by omega) h2_) zc2
          exact ⟨k3, c3, y3, h9, t7.tr t9, G9, I9, z9⟩
      · have e_0 : (0 : Int32).toInt = 0 := rfl
        have cb2r := cb2
        rw [vref hg1.1 (rfl : vRf 59 12 = [68])] at cb2r
        have dcb2 : (xI h1 68 (kk).toNatClampNeg).toInt < (0 : Int32).toInt := Int32.lt_iff_toInt_lt.mp (Int32.not_le.mp cb2r)
        by_cases cb8 : ch = 0
        · have e_0 : (0 : Int32).toInt = 0 := rfl
          have dcb8 : (ch).toInt = (0 : Int32).toInt := congrArg Int32.toInt cb8
          by_cases cb9 : (if (Int32.ofInt (1)) < ((xI h1 (xR h1 59 1) (kk).toNatClampNeg) - (Int32.ofInt (1))) then ((xI h1 (xR h1 59 1) (kk).toNatClampNeg) - (Int32.ofInt (1))) else (Int32.ofInt (1))) = (xI h1 (xR h1 59 1) (kk).toNatClampNeg)
          · have e_1 : (Int32.ofInt (1)).toInt = 1 := rfl
            have cb9r := cb9
            rw [vref hg1.1 (rfl : vRf 59 1 = [60])] at cb9r
            have dcb9 : (if (Int32.ofInt (1)) < ((xI h1 60 (kk).toNatClampNeg) - (Int32.ofInt (1))) then ((xI h1 60 (kk).toNatClampNeg) - (Int32.ofInt (1))) else (Int32.ofInt (1))).toInt = (xI h1 60 (kk).toNatClampNeg).toInt := congrArg Int32.toInt cb9r
            have t10 : XT l 5 122 false 99 153 6051 56 [xf 11 59, xi ch, xi kk, x3] [] h1 56 [xf 11 59, xi (Int32.ofInt (0)), xi (kk + Int32.ofInt (1)), xi (if (Int32.ofInt (1)) < ((xI h1 (xR h1 59 1) (kk).toNatClampNeg) - (Int32.ofInt (1))) then ((xI h1 (xR h1 59 1) (kk).toNatClampNeg) - (Int32.ofInt (1))) else (Int32.ofInt (1)))] [] (xsetI h1 (xR h1 59 1) (kk).toNatClampNeg (if (Int32.ofInt (1)) < ((xI h1 (xR h1 59 1) (kk).toNatClampNeg) - (Int32.ofInt (1))) then ((xI h1 (xR h1 59 1) (kk).toNatClampNeg) - (Int32.ofInt (1))) else (Int32.ofInt (1)))) := XT_path (l := l) (fr := 5) (lo := 122) (full := false) (M := 99) (n := 153) (u := 6051) (pc := 56) (L := [xf 11 59, xi ch, xi kk, x3]) (st := []) (h := h1) (inl := [100]) (n' := 120) (sp := [56]) (o := [0, 1, 0, 0, 1]) rfl rfl ⟨rfl, rfl, rfl⟩ rfl ⟨Nat.le_of_eq hg1.2.2.2.1, Nat.le_of_eq hg1.2.2.2.2⟩ ⟨⟨⟨⟨⟨⟨⟨⟨⟨⟨⟨⟨⟨⟨trivial, (show ¬ xR h1 59 0 = 0 from by rw [r0]; decide)⟩, (show ¬ (xI h1 (xR h1 59 0) 0) ≤ kk from by rw [r0]; exact fun z => absurd (Int32.le_iff_toInt_le.mp z) (by omega))⟩, (vnn hg1.1 (rfl : vRf 59 1 = [60]) (by decide))⟩, (vp_of (i := kk) (n := 6) (by omega) (by omega))⟩, (vnn hg1.1 (rfl : vRf 59 12 = [68]) (by decide))⟩, (vp_of (i := kk) (n := 6) (by omega) (by omega))⟩, cb1⟩, cb2⟩, cb8⟩, (vnn hg1.1 (rfl : vRf 59 1 = [60]) (by decide))⟩, (vp_of (i := kk) (n := 6) (by omega) (by omega))⟩, cb9⟩, (vnn hg1.1 (rfl : vRf 59 1 = [60]) (by decide))⟩, (vp_of (i := kk) (n := 6) (by omega) (by omega))⟩
            rw [vref hg1.1 (rfl : vRf 59 1 = [60])] at t10
            have eN : (if (Int32.ofInt (1)) < ((xI h1 60 (kk).toNatClampNeg) - (Int32.ofInt (1))) then ((xI h1 60 (kk).toNatClampNeg) - (Int32.ofInt (1))) else (Int32.ofInt (1))) = zSt (Y k) (zVs Z Y k) := by rw [eS]; exact zSt_m bs (by omega) (by omega)
            obtain ⟨hE, eE⟩ : ∃ x, x = (xsetI h1 60 (kk).toNatClampNeg (if (Int32.ofInt (1)) < ((xI h1 60 (kk).toNatClampNeg) - (Int32.ofInt (1))) then ((xI h1 60 (kk).toNatClampNeg) - (Int32.ofInt (1))) else (Int32.ofInt (1)))) := ⟨_, rfl⟩
            have eE2 : hE = xsetI h1 60 k (zSt (Y k) (zVs Z Y k)) := by rw [eE, eN, nk]
            rw [← eE] at t10
            have bz := zSt_b (v := zVs Z Y k) bs
            have GE : mQ [60] h hE := by rw [eE2]; exact G.set (by decide) (by rw [vI_u rfl (rfl : vRow 60 = (0, 9))]; exact ⟨by show (0 : Int) ≤ _; omega, by show _ ≤ (9 : Int); omega⟩)
            have zc2 : zhc Z Y (k + 1) (Int32.ofInt (0)) := zhc_b zc cb8 (eN.symm.trans ((Int32.toInt_inj.mp dcb9).trans eS))
            obtain ⟨k3, c3, y3, h9, t9, G9, I9, z9⟩ := ck_strS59_3 l Z Y h hg A kt kw V k9 m (k + 1) (kk + Int32.ofInt (1)) (Int32.ofInt (0)) (xi (if (Int32.ofInt (1)) < ((xI h1 60 (kk).toNatClampNeg) - (Int32.ofInt (1))) then ((xI h1 60 (kk).toNatClampNeg) - (Int32.ofInt (1))) else (Int32.ofInt (1)))) hE GE (by omega) (by omega) (fun r hr => by rw [eE2]; exact if e : r = k then (by rw [e, yI_same]) else (by rw [yI_ne (eq_false (fun z => e z.2))]; exact I1 r (by omega))) (fun r h1_ h2_ => by rw [eE2, yI_ne (eq_false (fun z => by have := z.2; omega))]; exact I2 r (by omega) h2_) zc2
            exact ⟨k3, c3, y3, h9, t10.tr t9, G9, I9, z9⟩
          · have e_1 : (Int32.ofInt (1)).toInt = 1 := rfl
            have cb9r := cb9
            rw [vref hg1.1 (rfl : vRf 59 1 = [60])] at cb9r
            have dcb9 : ¬ (if (Int32.ofInt (1)) < ((xI h1 60 (kk).toNatClampNeg) - (Int32.ofInt (1))) then ((xI h1 60 (kk).toNatClampNeg) - (Int32.ofInt (1))) else (Int32.ofInt (1))).toInt = (xI h1 60 (kk).toNatClampNeg).toInt := fun z_ => cb9r (Int32.toInt_inj.mp z_)
            have t11 : XT l 5 122 false 99 153 6051 56 [xf 11 59, xi ch, xi kk, x3] [] h1 56 [xf 11 59, xi (Int32.ofInt (1)), xi (kk + Int32.ofInt (1)), xi (if (Int32.ofInt (1)) < ((xI h1 (xR h1 59 1) (kk).toNatClampNeg) - (Int32.ofInt (1))) then ((xI h1 (xR h1 59 1) (kk).toNatClampNeg) - (Int32.ofInt (1))) else (Int32.ofInt (1)))] [] (xsetI h1 (xR h1 59 1) (kk).toNatClampNeg (if (Int32.ofInt (1)) < ((xI h1 (xR h1 59 1) (kk).toNatClampNeg) - (Int32.ofInt (1))) then ((xI h1 (xR h1 59 1) (kk).toNatClampNeg) - (Int32.ofInt (1))) else (Int32.ofInt (1)))) := XT_path (l := l) (fr := 5) (lo := 122) (full := false) (M := 99) (n := 153) (u := 6051) (pc := 56) (L := [xf 11 59, xi ch, xi kk, x3]) (st := []) (h := h1) (inl := [100]) (n' := 120) (sp := [56]) (o := [0, 1, 0, 0, 0]) rfl rfl ⟨rfl, rfl, rfl⟩ rfl ⟨Nat.le_of_eq hg1.2.2.2.1, Nat.le_of_eq hg1.2.2.2.2⟩ ⟨⟨⟨⟨⟨⟨⟨⟨⟨⟨⟨⟨⟨⟨trivial, (show ¬ xR h1 59 0 = 0 from by rw [r0]; decide)⟩, (show ¬ (xI h1 (xR h1 59 0) 0) ≤ kk from by rw [r0]; exact fun z => absurd (Int32.le_iff_toInt_le.mp z) (by omega))⟩, (vnn hg1.1 (rfl : vRf 59 1 = [60]) (by decide))⟩, (vp_of (i := kk) (n := 6) (by omega) (by omega))⟩, (vnn hg1.1 (rfl : vRf 59 12 = [68]) (by decide))⟩, (vp_of (i := kk) (n := 6) (by omega) (by omega))⟩, cb1⟩, cb2⟩, cb8⟩, (vnn hg1.1 (rfl : vRf 59 1 = [60]) (by decide))⟩, (vp_of (i := kk) (n := 6) (by omega) (by omega))⟩, cb9⟩, (vnn hg1.1 (rfl : vRf 59 1 = [60]) (by decide))⟩, (vp_of (i := kk) (n := 6) (by omega) (by omega))⟩
            rw [vref hg1.1 (rfl : vRf 59 1 = [60])] at t11
            have eN : (if (Int32.ofInt (1)) < ((xI h1 60 (kk).toNatClampNeg) - (Int32.ofInt (1))) then ((xI h1 60 (kk).toNatClampNeg) - (Int32.ofInt (1))) else (Int32.ofInt (1))) = zSt (Y k) (zVs Z Y k) := by rw [eS]; exact zSt_m bs (by omega) (by omega)
            obtain ⟨hE, eE⟩ : ∃ x, x = (xsetI h1 60 (kk).toNatClampNeg (if (Int32.ofInt (1)) < ((xI h1 60 (kk).toNatClampNeg) - (Int32.ofInt (1))) then ((xI h1 60 (kk).toNatClampNeg) - (Int32.ofInt (1))) else (Int32.ofInt (1)))) := ⟨_, rfl⟩
            have eE2 : hE = xsetI h1 60 k (zSt (Y k) (zVs Z Y k)) := by rw [eE, eN, nk]
            rw [← eE] at t11
            have bz := zSt_b (v := zVs Z Y k) bs
            have GE : mQ [60] h hE := by rw [eE2]; exact G.set (by decide) (by rw [vI_u rfl (rfl : vRow 60 = (0, 9))]; exact ⟨by show (0 : Int) ≤ _; omega, by show _ ≤ (9 : Int); omega⟩)
            have zc2 : zhc Z Y (k + 1) (Int32.ofInt (1)) := zhc_c (fun y => dcb9 (congrArg Int32.toInt ((eN.trans y).trans eS.symm)))
            obtain ⟨k3, c3, y3, h9, t9, G9, I9, z9⟩ := ck_strS59_3 l Z Y h hg A kt kw V k9 m (k + 1) (kk + Int32.ofInt (1)) (Int32.ofInt (1)) (xi (if (Int32.ofInt (1)) < ((xI h1 60 (kk).toNatClampNeg) - (Int32.ofInt (1))) then ((xI h1 60 (kk).toNatClampNeg) - (Int32.ofInt (1))) else (Int32.ofInt (1)))) hE GE (by omega) (by omega) (fun r hr => by rw [eE2]; exact if e : r = k then (by rw [e, yI_same]) else (by rw [yI_ne (eq_false (fun z => e z.2))]; exact I1 r (by omega))) (fun r h1_ h2_ => by rw [eE2, yI_ne (eq_false (fun z => by have := z.2; omega))]; exact I2 r (by omega) h2_) zc2
            exact ⟨k3, c3, y3, h9, t11.tr t9, G9, I9, z9⟩
        · have e_0 : (0 : Int32).toInt = 0 := rfl
          have dcb8 : ¬ (ch).toInt = (0 : Int32).toInt := fun z_ => cb8 (Int32.toInt_inj.mp z_)
          have t12 : XT l 5 122 false 99 153 6051 56 [xf 11 59, xi ch, xi kk, x3] [] h1 56 [xf 11 59, xi (Int32.ofInt (1)), xi (kk + Int32.ofInt (1)), xi (if (Int32.ofInt (1)) < ((xI h1 (xR h1 59 1) (kk).toNatClampNeg) - (Int32.ofInt (1))) then ((xI h1 (xR h1 59 1) (kk).toNatClampNeg) - (Int32.ofInt (1))) else (Int32.ofInt (1)))] [] (xsetI h1 (xR h1 59 1) (kk).toNatClampNeg (if (Int32.ofInt (1)) < ((xI h1 (xR h1 59 1) (kk).toNatClampNeg) - (Int32.ofInt (1))) then ((xI h1 (xR h1 59 1) (kk).toNatClampNeg) - (Int32.ofInt (1))) else (Int32.ofInt (1)))) := XT_path (l := l) (fr := 5) (lo := 122) (full := false) (M := 99) (n := 153) (u := 6051) (pc := 56) (L := [xf 11 59, xi ch, xi kk, x3]) (st := []) (h := h1) (inl := [100]) (n' := 120) (sp := [56]) (o := [0, 1, 0, 1]) rfl rfl ⟨rfl, rfl, rfl⟩ rfl ⟨Nat.le_of_eq hg1.2.2.2.1, Nat.le_of_eq hg1.2.2.2.2⟩ ⟨⟨⟨⟨⟨⟨⟨⟨⟨⟨⟨trivial, (show ¬ xR h1 59 0 = 0 from by rw [r0]; decide)⟩, (show ¬ (xI h1 (xR h1 59 0) 0) ≤ kk from by rw [r0]; exact fun z => absurd (Int32.le_iff_toInt_le.mp z) (by omega))⟩, (vnn hg1.1 (rfl : vRf 59 1 = [60]) (by decide))⟩, (vp_of (i := kk) (n := 6) (by omega) (by omega))⟩, (vnn hg1.1 (rfl : vRf 59 12 = [68]) (by decide))⟩, (vp_of (i := kk) (n := 6) (by omega) (by omega))⟩, cb1⟩, cb2⟩, cb8⟩, (vnn hg1.1 (rfl : vRf 59 1 = [60]) (by decide))⟩, (vp_of (i := kk) (n := 6) (by omega) (by omega))⟩
          rw [vref hg1.1 (rfl : vRf 59 1 = [60])] at t12
          have eN : (if (Int32.ofInt (1)) < ((xI h1 60 (kk).toNatClampNeg) - (Int32.ofInt (1))) then ((xI h1 60 (kk).toNatClampNeg) - (Int32.ofInt (1))) else (Int32.ofInt (1))) = zSt (Y k) (zVs Z Y k) := by rw [eS]; exact zSt_m bs (by omega) (by omega)
          obtain ⟨hE, eE⟩ : ∃ x, x = (xsetI h1 60 (kk).toNatClampNeg (if (Int32.ofInt (1)) < ((xI h1 60 (kk).toNatClampNeg) - (Int32.ofInt (1))) then ((xI h1 60 (kk).toNatClampNeg) - (Int32.ofInt (1))) else (Int32.ofInt (1)))) := ⟨_, rfl⟩
          have eE2 : hE = xsetI h1 60 k (zSt (Y k) (zVs Z Y k)) := by rw [eE, eN, nk]
          rw [← eE] at t12
          have bz := zSt_b (v := zVs Z Y k) bs
          have GE : mQ [60] h hE := by rw [eE2]; exact G.set (by decide) (by rw [vI_u rfl (rfl : vRow 60 = (0, 9))]; exact ⟨by show (0 : Int) ≤ _; omega, by show _ ≤ (9 : Int); omega⟩)
          have zc2 : zhc Z Y (k + 1) (Int32.ofInt (1)) := zhc_a zc cb8
          obtain ⟨k3, c3, y3, h9, t9, G9, I9, z9⟩ := ck_strS59_3 l Z Y h hg A kt kw V k9 m (k + 1) (kk + Int32.ofInt (1)) (Int32.ofInt (1)) (xi (if (Int32.ofInt (1)) < ((xI h1 60 (kk).toNatClampNeg) - (Int32.ofInt (1))) then ((xI h1 60 (kk).toNatClampNeg) - (Int32.ofInt (1))) else (Int32.ofInt (1)))) hE GE (by omega) (by omega) (fun r hr => by rw [eE2]; exact if e : r = k then (by rw [e, yI_same]) else (by rw [yI_ne (eq_false (fun z => e z.2))]; exact I1 r (by omega))) (fun r h1_ h2_ => by rw [eE2, yI_ne (eq_false (fun z => by have := z.2; omega))]; exact I2 r (by omega) h2_) zc2
          exact ⟨k3, c3, y3, h9, t12.tr t9, G9, I9, z9⟩
    · have e_0 : (0 : Int32).toInt = 0 := rfl
      have cb1r := cb1
      rw [vref hg1.1 (rfl : vRf 59 12 = [68])] at cb1r
      have dcb1 : (0 : Int32).toInt < (xI h1 68 (kk).toNatClampNeg).toInt := Int32.lt_iff_toInt_lt.mp (Int32.not_le.mp cb1r)
      by_cases cb13 : ch = 0
      · have e_0 : (0 : Int32).toInt = 0 := rfl
        have dcb13 : (ch).toInt = (0 : Int32).toInt := congrArg Int32.toInt cb13
        by_cases cb14 : (if ((xI h1 (xR h1 59 1) (kk).toNatClampNeg) + (Int32.ofInt (1))) < (Int32.ofInt (9)) then ((xI h1 (xR h1 59 1) (kk).toNatClampNeg) + (Int32.ofInt (1))) else (Int32.ofInt (9))) = (xI h1 (xR h1 59 1) (kk).toNatClampNeg)
        · have e_1 : (Int32.ofInt (1)).toInt = 1 := rfl
          have e_9 : (Int32.ofInt (9)).toInt = 9 := rfl
          have cb14r := cb14
          rw [vref hg1.1 (rfl : vRf 59 1 = [60])] at cb14r
          have dcb14 : (if ((xI h1 60 (kk).toNatClampNeg) + (Int32.ofInt (1))) < (Int32.ofInt (9)) then ((xI h1 60 (kk).toNatClampNeg) + (Int32.ofInt (1))) else (Int32.ofInt (9))).toInt = (xI h1 60 (kk).toNatClampNeg).toInt := congrArg Int32.toInt cb14r
          have t15 : XT l 5 122 false 99 153 6051 56 [xf 11 59, xi ch, xi kk, x3] [] h1 56 [xf 11 59, xi (Int32.ofInt (0)), xi (kk + Int32.ofInt (1)), xi (if ((xI h1 (xR h1 59 1) (kk).toNatClampNeg) + (Int32.ofInt (1))) < (Int32.ofInt (9)) then ((xI h1 (xR h1 59 1) (kk).toNatClampNeg) + (Int32.ofInt (1))) else (Int32.ofInt (9)))] [] (xsetI h1 (xR h1 59 1) (kk).toNatClampNeg (if ((xI h1 (xR h1 59 1) (kk).toNatClampNeg) + (Int32.ofInt (1))) < (Int32.ofInt (9)) then ((xI h1 (xR h1 59 1) (kk).toNatClampNeg) + (Int32.ofInt (1))) else (Int32.ofInt (9)))) := XT_path (l := l) (fr := 5) (lo := 122) (full := false) (M := 99) (n := 153) (u := 6051) (pc := 56) (L := [xf 11 59, xi ch, xi kk, x3]) (st := []) (h := h1) (inl := [100]) (n' := 120) (sp := [56]) (o := [0, 0, 0, 1]) rfl rfl ⟨rfl, rfl, rfl⟩ rfl ⟨Nat.le_of_eq hg1.2.2.2.1, Nat.le_of_eq hg1.2.2.2.2⟩ ⟨⟨⟨⟨⟨⟨⟨⟨⟨⟨⟨⟨⟨trivial, (show ¬ xR h1 59 0 = 0 from by rw [r0]; decide)⟩, (show ¬ (xI h1 (xR h1 59 0) 0) ≤ kk from by rw [r0]; exact fun z => absurd (Int32.le_iff_toInt_le.mp z) (by omega))⟩, (vnn hg1.1 (rfl : vRf 59 1 = [60]) (by decide))⟩, (vp_of (i := kk) (n := 6) (by omega) (by omega))⟩, (vnn hg1.1 (rfl : vRf 59 12 = [68]) (by decide))⟩, (vp_of (i := kk) (n := 6) (by omega) (by omega))⟩, cb1⟩, cb13⟩, (vnn hg1.1 (rfl : vRf 59 1 = [60]) (by decide))⟩, (vp_of (i := kk) (n := 6) (by omega) (by omega))⟩, cb14⟩, (vnn hg1.1 (rfl : vRf 59 1 = [60]) (by decide))⟩, (vp_of (i := kk) (n := 6) (by omega) (by omega))⟩
          rw [vref hg1.1 (rfl : vRf 59 1 = [60])] at t15
          have eN : (if ((xI h1 60 (kk).toNatClampNeg) + (Int32.ofInt (1))) < (Int32.ofInt (9)) then ((xI h1 60 (kk).toNatClampNeg) + (Int32.ofInt (1))) else (Int32.ofInt (9))) = zSt (Y k) (zVs Z Y k) := by rw [eS]; exact zSt_p bs (by omega)
          obtain ⟨hE, eE⟩ : ∃ x, x = (xsetI h1 60 (kk).toNatClampNeg (if ((xI h1 60 (kk).toNatClampNeg) + (Int32.ofInt (1))) < (Int32.ofInt (9)) then ((xI h1 60 (kk).toNatClampNeg) + (Int32.ofInt (1))) else (Int32.ofInt (9)))) := ⟨_, rfl⟩
          have eE2 : hE = xsetI h1 60 k (zSt (Y k) (zVs Z Y k)) := by rw [eE, eN, nk]
          rw [← eE] at t15
          have bz := zSt_b (v := zVs Z Y k) bs
          have GE : mQ [60] h hE := by rw [eE2]; exact G.set (by decide) (by rw [vI_u rfl (rfl : vRow 60 = (0, 9))]; exact ⟨by show (0 : Int) ≤ _; omega, by show _ ≤ (9 : Int); omega⟩)
          have zc2 : zhc Z Y (k + 1) (Int32.ofInt (0)) := zhc_b zc cb13 (eN.symm.trans ((Int32.toInt_inj.mp dcb14).trans eS))
          obtain ⟨k3, c3, y3, h9, t9, G9, I9, z9⟩ := ck_strS59_3 l Z Y h hg A kt kw V k9 m (k + 1) (kk + Int32.ofInt (1)) (Int32.ofInt (0)) (xi (if ((xI h1 60 (kk).toNatClampNeg) + (Int32.ofInt (1))) < (Int32.ofInt (9)) then ((xI h1 60 (kk).toNatClampNeg) + (Int32.ofInt (1))) else (Int32.ofInt (9)))) hE GE (by omega) (by omega) (fun r hr => by rw [eE2]; exact if e : r = k then (by rw [e, yI_same]) else (by rw [yI_ne (eq_false (fun z => e z.2))]; exact I1 r (by omega))) (fun r h1_ h2_ => by rw [eE2, yI_ne (eq_false (fun z => by have := z.2; omega))]; exact I2 r (by omega) h2_) zc2
          exact ⟨k3, c3, y3, h9, t15.tr t9, G9, I9, z9⟩
        · have e_1 : (Int32.ofInt (1)).toInt = 1 := rfl
          have e_9 : (Int32.ofInt (9)).toInt = 9 := rfl
          have cb14r := cb14
          rw [vref hg1.1 (rfl : vRf 59 1 = [60])] at cb14r
          have dcb14 : ¬ (if ((xI h1 60 (kk).toNatClampNeg) + (Int32.ofInt (1))) < (Int32.ofInt (9)) then ((xI h1 60 (kk).toNatClampNeg) + (Int32.ofInt (1))) else (Int32.ofInt (9))).toInt = (xI h1 60 (kk).toNatClampNeg).toInt := fun z_ => cb14r (Int32.toInt_inj.mp z_)
          have t16 : XT l 5 122 false 99 153 6051 56 [xf 11 59, xi ch, xi kk, x3] [] h1 56 [xf 11 59, xi (Int32.ofInt (1)), xi (kk + Int32.ofInt (1)), xi (if ((xI h1 (xR h1 59 1) (kk).toNatClampNeg) + (Int32.ofInt (1))) < (Int32.ofInt (9)) then ((xI h1 (xR h1 59 1) (kk).toNatClampNeg) + (Int32.ofInt (1))) else (Int32.ofInt (9)))] [] (xsetI h1 (xR h1 59 1) (kk).toNatClampNeg (if ((xI h1 (xR h1 59 1) (kk).toNatClampNeg) + (Int32.ofInt (1))) < (Int32.ofInt (9)) then ((xI h1 (xR h1 59 1) (kk).toNatClampNeg) + (Int32.ofInt (1))) else (Int32.ofInt (9)))) := XT_path (l := l) (fr := 5) (lo := 122) (full := false) (M := 99) (n := 153) (u := 6051) (pc := 56) (L := [xf 11 59, xi ch, xi kk, x3]) (st := []) (h := h1) (inl := [100]) (n' := 120) (sp := [56]) (o := [0, 0, 0, 0]) rfl rfl ⟨rfl, rfl, rfl⟩ rfl ⟨Nat.le_of_eq hg1.2.2.2.1, Nat.le_of_eq hg1.2.2.2.2⟩ ⟨⟨⟨⟨⟨⟨⟨⟨⟨⟨⟨⟨⟨trivial, (show ¬ xR h1 59 0 = 0 from by rw [r0]; decide)⟩, (show ¬ (xI h1 (xR h1 59 0) 0) ≤ kk from by rw [r0]; exact fun z => absurd (Int32.le_iff_toInt_le.mp z) (by omega))⟩, (vnn hg1.1 (rfl : vRf 59 1 = [60]) (by decide))⟩, (vp_of (i := kk) (n := 6) (by omega) (by omega))⟩, (vnn hg1.1 (rfl : vRf 59 12 = [68]) (by decide))⟩, (vp_of (i := kk) (n := 6) (by omega) (by omega))⟩, cb1⟩, cb13⟩, (vnn hg1.1 (rfl : vRf 59 1 = [60]) (by decide))⟩, (vp_of (i := kk) (n := 6) (by omega) (by omega))⟩, cb14⟩, (vnn hg1.1 (rfl : vRf 59 1 = [60]) (by decide))⟩, (vp_of (i := kk) (n := 6) (by omega) (by omega))⟩
          rw [vref hg1.1 (rfl : vRf 59 1 = [60])] at t16
          have eN : (if ((xI h1 60 (kk).toNatClampNeg) + (Int32.ofInt (1))) < (Int32.ofInt (9)) then ((xI h1 60 (kk).toNatClampNeg) + (Int32.ofInt (1))) else (Int32.ofInt (9))) = zSt (Y k) (zVs Z Y k) := by rw [eS]; exact zSt_p bs (by omega)
          obtain ⟨hE, eE⟩ : ∃ x, x = (xsetI h1 60 (kk).toNatClampNeg (if ((xI h1 60 (kk).toNatClampNeg) + (Int32.ofInt (1))) < (Int32.ofInt (9)) then ((xI h1 60 (kk).toNatClampNeg) + (Int32.ofInt (1))) else (Int32.ofInt (9)))) := ⟨_, rfl⟩
          have eE2 : hE = xsetI h1 60 k (zSt (Y k) (zVs Z Y k)) := by rw [eE, eN, nk]
          rw [← eE] at t16
          have bz := zSt_b (v := zVs Z Y k) bs
          have GE : mQ [60] h hE := by rw [eE2]; exact G.set (by decide) (by rw [vI_u rfl (rfl : vRow 60 = (0, 9))]; exact ⟨by show (0 : Int) ≤ _; omega, by show _ ≤ (9 : Int); omega⟩)
          have zc2 : zhc Z Y (k + 1) (Int32.ofInt (1)) := zhc_c (fun y => dcb14 (congrArg Int32.toInt ((eN.trans y).trans eS.symm)))
          obtain ⟨k3, c3, y3, h9, t9, G9, I9, z9⟩ := ck_strS59_3 l Z Y h hg A kt kw V k9 m (k + 1) (kk + Int32.ofInt (1)) (Int32.ofInt (1)) (xi (if ((xI h1 60 (kk).toNatClampNeg) + (Int32.ofInt (1))) < (Int32.ofInt (9)) then ((xI h1 60 (kk).toNatClampNeg) + (Int32.ofInt (1))) else (Int32.ofInt (9)))) hE GE (by omega) (by omega) (fun r hr => by rw [eE2]; exact if e : r = k then (by rw [e, yI_same]) else (by rw [yI_ne (eq_false (fun z => e z.2))]; exact I1 r (by omega))) (fun r h1_ h2_ => by rw [eE2, yI_ne (eq_false (fun z => by have := z.2; omega))]; exact I2 r (by omega) h2_) zc2
          exact ⟨k3, c3, y3, h9, t16.tr t9, G9, I9, z9⟩
      · have e_0 : (0 : Int32).toInt = 0 := rfl
        have dcb13 : ¬ (ch).toInt = (0 : Int32).toInt := fun z_ => cb13 (Int32.toInt_inj.mp z_)
        have t17 : XT l 5 122 false 99 153 6051 56 [xf 11 59, xi ch, xi kk, x3] [] h1 56 [xf 11 59, xi (Int32.ofInt (1)), xi (kk + Int32.ofInt (1)), xi (if ((xI h1 (xR h1 59 1) (kk).toNatClampNeg) + (Int32.ofInt (1))) < (Int32.ofInt (9)) then ((xI h1 (xR h1 59 1) (kk).toNatClampNeg) + (Int32.ofInt (1))) else (Int32.ofInt (9)))] [] (xsetI h1 (xR h1 59 1) (kk).toNatClampNeg (if ((xI h1 (xR h1 59 1) (kk).toNatClampNeg) + (Int32.ofInt (1))) < (Int32.ofInt (9)) then ((xI h1 (xR h1 59 1) (kk).toNatClampNeg) + (Int32.ofInt (1))) else (Int32.ofInt (9)))) := XT_path (l := l) (fr := 5) (lo := 122) (full := false) (M := 99) (n := 153) (u := 6051) (pc := 56) (L := [xf 11 59, xi ch, xi kk, x3]) (st := []) (h := h1) (inl := [100]) (n' := 120) (sp := [56]) (o := [0, 0, 1]) rfl rfl ⟨rfl, rfl, rfl⟩ rfl ⟨Nat.le_of_eq hg1.2.2.2.1, Nat.le_of_eq hg1.2.2.2.2⟩ ⟨⟨⟨⟨⟨⟨⟨⟨⟨⟨trivial, (show ¬ xR h1 59 0 = 0 from by rw [r0]; decide)⟩, (show ¬ (xI h1 (xR h1 59 0) 0) ≤ kk from by rw [r0]; exact fun z => absurd (Int32.le_iff_toInt_le.mp z) (by omega))⟩, (vnn hg1.1 (rfl : vRf 59 1 = [60]) (by decide))⟩, (vp_of (i := kk) (n := 6) (by omega) (by omega))⟩, (vnn hg1.1 (rfl : vRf 59 12 = [68]) (by decide))⟩, (vp_of (i := kk) (n := 6) (by omega) (by omega))⟩, cb1⟩, cb13⟩, (vnn hg1.1 (rfl : vRf 59 1 = [60]) (by decide))⟩, (vp_of (i := kk) (n := 6) (by omega) (by omega))⟩
        rw [vref hg1.1 (rfl : vRf 59 1 = [60])] at t17
        have eN : (if ((xI h1 60 (kk).toNatClampNeg) + (Int32.ofInt (1))) < (Int32.ofInt (9)) then ((xI h1 60 (kk).toNatClampNeg) + (Int32.ofInt (1))) else (Int32.ofInt (9))) = zSt (Y k) (zVs Z Y k) := by rw [eS]; exact zSt_p bs (by omega)
        obtain ⟨hE, eE⟩ : ∃ x, x = (xsetI h1 60 (kk).toNatClampNeg (if ((xI h1 60 (kk).toNatClampNeg) + (Int32.ofInt (1))) < (Int32.ofInt (9)) then ((xI h1 60 (kk).toNatClampNeg) + (Int32.ofInt (1))) else (Int32.ofInt (9)))) := ⟨_, rfl⟩
        have eE2 : hE = xsetI h1 60 k (zSt (Y k) (zVs Z Y k)) := by rw [eE, eN, nk]
        rw [← eE] at t17
        have bz := zSt_b (v := zVs Z Y k) bs
        have GE : mQ [60] h hE := by rw [eE2]; exact G.set (by decide) (by rw [vI_u rfl (rfl : vRow 60 = (0, 9))]; exact ⟨by show (0 : Int) ≤ _; omega, by show _ ≤ (9 : Int); omega⟩)
        have zc2 : zhc Z Y (k + 1) (Int32.ofInt (1)) := zhc_a zc cb13
        obtain ⟨k3, c3, y3, h9, t9, G9, I9, z9⟩ := ck_strS59_3 l Z Y h hg A kt kw V k9 m (k + 1) (kk + Int32.ofInt (1)) (Int32.ofInt (1)) (xi (if ((xI h1 60 (kk).toNatClampNeg) + (Int32.ofInt (1))) < (Int32.ofInt (9)) then ((xI h1 60 (kk).toNatClampNeg) + (Int32.ofInt (1))) else (Int32.ofInt (9)))) hE GE (by omega) (by omega) (fun r hr => by rw [eE2]; exact if e : r = k then (by rw [e, yI_same]) else (by rw [yI_ne (eq_false (fun z => e z.2))]; exact I1 r (by omega))) (fun r h1_ h2_ => by rw [eE2, yI_ne (eq_false (fun z => by have := z.2; omega))]; exact I2 r (by omega) h2_) zc2
        exact ⟨k3, c3, y3, h9, t17.tr t9, G9, I9, z9⟩
set_option maxRecDepth 100000 in
set_option maxHeartbeats 4000000 in
theorem ck_stretch59_3 (l : Launch) (Z : Nat → Int) (Y : Nat → Int32) (h : XH) (hg : mI h) (A : zAll Z) (kt : kTx 3 Z h) (kw : kW 59 3 Z Y h) (V : zVd Z Y) (kd : kD 59 Z Y h) (ke : kE 59 Z Y h) : ∃ v h', CX l 5 122 false 99 [xf 11 59] h [xi v] h' ∧ mQ [60, 62, 66, 68] h h' ∧ kW 59 3 Z (zStr Z Y) h' ∧ kD 59 Z (zStr Z Y) h' ∧ kE 59 Z (zStr Z Y) h' ∧ zhc Z Y (Z 0).toNat v := by
  obtain ⟨⟨⟨B00, B01⟩, ⟨B10, B11⟩, ⟨B20, B21⟩, B30, B31⟩, g6, zj, zv, LW⟩ := id A
  have r0 : xR h 59 0 = 3 := kw.2.2.2.2.2
  have t1 : XT l 5 122 false 99 153 6051 0 [xf 11 59, xun, xun, xun] [] h 5 [xf 11 59, xun, xun, xun] [xi (Int32.ofInt (0)), xf 10006 (xR h 59 12)] h := XT_path (l := l) (fr := 5) (lo := 122) (full := false) (M := 99) (n := 153) (u := 6051) (pc := 0) (L := [xf 11 59, xun, xun, xun]) (st := []) (h := h) (inl := []) (n' := 120) (sp := [5]) (o := []) rfl rfl ⟨rfl, rfl, rfl⟩ rfl ⟨Nat.le_of_eq hg.2.2.2.1, Nat.le_of_eq hg.2.2.2.2⟩ ⟨trivial, (vnn hg.1 (rfl : vRf 59 12 = [68]) (by decide))⟩
  rw [vref hg.1 (rfl : vRf 59 12 = [68])] at t1
  obtain ⟨h1, c1, G1, z1⟩ := cm_fill68 l h hg
  have t2 : XT l 5 122 false 99 153 6051 5 [xf 11 59, xun, xun, xun] [xi (Int32.ofInt (0)), xf 10006 68] h 8 [xf 11 59, xun, xun, xun] [] h1 := XT_call (l := l) (fr := 5) (lo := 122) (full := false) (M := 99) (n := 153) (u := 6051) (pc := 5) (L := [xf 11 59, xun, xun, xun]) (st := [xi (Int32.ofInt (0)), xf 10006 68]) (h := h) (i := .invokestatic 5) (aux := 2) (nx := 8) (K := 5) (vs := [xf 10006 68, xi (Int32.ofInt (0))]) (rs := []) (rest := []) rfl rfl rfl rfl rfl rfl c1 (by decide) (by decide) (Nat.le_of_ble_eq_true rfl) ⟨Nat.le_of_eq G1.1.2.2.2.1, Nat.le_of_eq G1.1.2.2.2.2⟩
  have t3 := t1.tr t2
  have t4 : XT l 5 122 false 99 153 6051 8 [xf 11 59, xun, xun, xun] [] h1 10 [xf 11 59, xi (Int32.ofInt (0)), xun, xun] [] h1 := XT_path (l := l) (fr := 5) (lo := 122) (full := false) (M := 99) (n := 153) (u := 6051) (pc := 8) (L := [xf 11 59, xun, xun, xun]) (st := []) (h := h1) (inl := []) (n' := 120) (sp := [10]) (o := []) rfl rfl ⟨rfl, rfl, rfl⟩ rfl ⟨Nat.le_of_eq G1.1.2.2.2.1, Nat.le_of_eq G1.1.2.2.2.2⟩ trivial
  have t5 := t3.tr t4
  obtain ⟨k2, h2, t2, G2, I2⟩ := ck_strV59_3 l Z Y h hg A kt kw V kd ke (Z 2).toNat 0 (Int32.ofInt (0)) (xun) (xun) h1 G1 rfl (by omega) (fun r hr => z1 r (by omega))
  have T2 := t5.tr t2
  have t6 : XT l 5 122 false 99 153 6051 52 [xf 11 59, xi k2, xun, xun] [] h2 56 [xf 11 59, xi (Int32.ofInt (0)), xi (Int32.ofInt (0)), xun] [] h2 := XT_path (l := l) (fr := 5) (lo := 122) (full := false) (M := 99) (n := 153) (u := 6051) (pc := 52) (L := [xf 11 59, xi k2, xun, xun]) (st := []) (h := h2) (inl := []) (n' := 120) (sp := [56]) (o := []) rfl rfl ⟨rfl, rfl, rfl⟩ rfl ⟨Nat.le_of_eq G2.1.2.2.2.1, Nat.le_of_eq G2.1.2.2.2.2⟩ trivial
  have t7 := T2.tr t6
  have kt2 : kTx 3 Z h2 := kt.q G2 (by decide)
  have kw2 : kW 59 3 Z Y h2 := kw.q G2 (by decide)
  obtain ⟨k3, ch, y3, h3, t3, G3, I3, z3⟩ := ck_strS59_3 l Z Y h2 G2.1 A kt2 kw2 V I2 (Z 0).toNat 0 (Int32.ofInt (0)) (Int32.ofInt (0)) (xun) h2 (mQ.rf G2.1) rfl (by omega) (fun r hr => by omega) (fun r _ hr => kw2.1 r hr) (Or.inl ⟨rfl, fun r hr => by omega⟩)
  have T3 := t7.tr t3
  have G23 : mQ [60, 62, 66, 68] h h3 := (G2.mono (by decide)).tr (G3.mono (by decide))
  have kw3 : kW 59 3 Z (zStr Z Y) h3 := zStr_kW kw2 B01 G3 (by decide) I3
  have t8 : XT l 5 122 false 99 153 6051 116 [xf 11 59, xi ch, xi k3, y3] [] h3 117 [xf 11 59, xi ch, xi k3, y3] [xf 11 59] h3 := XT_path (l := l) (fr := 5) (lo := 122) (full := false) (M := 99) (n := 153) (u := 6051) (pc := 116) (L := [xf 11 59, xi ch, xi k3, y3]) (st := []) (h := h3) (inl := []) (n' := 120) (sp := [117]) (o := []) rfl rfl ⟨rfl, rfl, rfl⟩ rfl ⟨Nat.le_of_eq G3.1.2.2.2.1, Nat.le_of_eq G3.1.2.2.2.2⟩ trivial
  have t9 := T3.tr t8
  obtain ⟨h4, c4, G4, kd4⟩ := ck_tear59_3 l Z (zStr Z Y) h3 G3.1 A (kt2.q G3 (by decide)) kw3 (zVd_str A.1 V)
  have t10 : XT l 5 122 false 99 153 6051 117 [xf 11 59, xi ch, xi k3, y3] [xf 11 59] h3 120 [xf 11 59, xi ch, xi k3, y3] [] h4 := XT_call (l := l) (fr := 5) (lo := 122) (full := false) (M := 99) (n := 153) (u := 6051) (pc := 117) (L := [xf 11 59, xi ch, xi k3, y3]) (st := [xf 11 59]) (h := h3) (i := .invokevirtual 66) (aux := 1) (nx := 120) (K := 66) (vs := [xf 11 59]) (rs := []) (rest := []) rfl rfl rfl rfl rfl rfl c4 (by decide) (by decide) (Nat.le_of_ble_eq_true rfl) ⟨Nat.le_of_eq G4.1.2.2.2.1, Nat.le_of_eq G4.1.2.2.2.2⟩
  have t11 := t9.tr t10
  have t12 : XT l 5 122 false 99 153 6051 120 [xf 11 59, xi ch, xi k3, y3] [] h4 121 [xf 11 59, xi ch, xi k3, y3] [xi ch] h4 := XT_path (l := l) (fr := 5) (lo := 122) (full := false) (M := 99) (n := 153) (u := 6051) (pc := 120) (L := [xf 11 59, xi ch, xi k3, y3]) (st := []) (h := h4) (inl := []) (n' := 120) (sp := [121]) (o := []) rfl rfl ⟨rfl, rfl, rfl⟩ rfl ⟨Nat.le_of_eq G4.1.2.2.2.1, Nat.le_of_eq G4.1.2.2.2.2⟩ trivial
  have t13 := t11.tr t12
  exact ⟨ch, h4, CX_ofT (h' := h4) (by decide) rfl rfl ⟨trivial, (zhc_z z3)⟩ ⟨_, _, _, rfl, rfl, rfl⟩ rfl ⟨Nat.le_of_eq G4.1.2.2.2.1.symm, Nat.le_of_eq G4.1.2.2.2.2.symm⟩ t13, G23.tr (G4.mono (by decide)), kw3.q G4 (by decide), kd4, fun r hr => by rw [zCr_str A.1]; exact ((ke.q G2 (by decide)).q G3 (by decide)).q G4 (by decide) r hr, z3⟩
set_option maxRecDepth 100000 in
set_option maxHeartbeats 4000000 in
theorem ck_strV59_24 (l : Launch) (Z : Nat → Int) (Y : Nat → Int32) (h : XH) (hg : mI h) (A : zAll Z) (kt : kTx 24 Z h) (kw : kW 59 24 Z Y h) (V : zVd Z Y) (kd : kD 59 Z Y h) (ke : kE 59 Z Y h) : ∀ (m k : Nat) (kk : Int32) (x2 x3 : XV) (h1 : XH), mQ [68] h h1 → kk.toInt = k → (k : Int) + m = Z 2 → (∀ r : Nat, (r : Int) < Z 0 → xI h1 68 r = zsum (fun p => if (Y (20 + p)).toInt = r then zWe Z Y p * zVo Z Y p else Int32.ofInt (0)) k) → ∃ k2 h2, XT l 5 122 false 99 153 6051 10 [xf 11 59, xi kk, x2, x3] [] h1 52 [xf 11 59, xi k2, x2, x3] [] h2 ∧ mQ [68] h h2 ∧ (∀ r : Nat, (r : Int) < Z 0 → xI h2 68 r = zsum (fun p => if (Y (20 + p)).toInt = r then zWe Z Y p * zVo Z Y p else Int32.ofInt (0)) (Z 2).toNat)
  | 0, k, kk, x2, x3, h1, G, hk, hm, I9 => by
    obtain ⟨⟨⟨B00, B01⟩, ⟨B10, B11⟩, ⟨B20, B21⟩, B30, B31⟩, g6, zj, zv, LW⟩ := id A
    have r0 : xR h1 59 0 = 24 := (G.2.2 59 0).trans kw.2.2.2.2.2
    have hg1 := G.1
    have ej : (xI h1 24 9).toInt = Z 2 := by rw [G.2.1 24 9 (by decide)]; exact kt.1.1 2 (by decide)
    have t1 : XT l 5 122 false 99 153 6051 10 [xf 11 59, xi kk, x2, x3] [] h1 52 [xf 11 59, xi kk, x2, x3] [] h1 := XT_path (l := l) (fr := 5) (lo := 122) (full := false) (M := 99) (n := 153) (u := 6051) (pc := 10) (L := [xf 11 59, xi kk, x2, x3]) (st := []) (h := h1) (inl := [74]) (n' := 120) (sp := [52]) (o := [1]) rfl rfl ⟨rfl, rfl, rfl⟩ rfl ⟨Nat.le_of_eq hg1.2.2.2.1, Nat.le_of_eq hg1.2.2.2.2⟩ ⟨⟨trivial, (show ¬ xR h1 59 0 = 0 from by rw [r0]; decide)⟩, (show (xI h1 (xR h1 59 0) 9) ≤ kk from by rw [r0]; exact Int32.le_iff_toInt_le.mpr (by omega))⟩
    obtain rfl : k = (Z 2).toNat := by omega
    exact ⟨kk, h1, t1, G, I9⟩
  | m + 1, k, kk, x2, x3, h1, G, hk, hm, I9 => by
    obtain ⟨⟨⟨B00, B01⟩, ⟨B10, B11⟩, ⟨B20, B21⟩, B30, B31⟩, g6, zj, zv, LW⟩ := id A
    have r0 : xR h1 59 0 = 24 := (G.2.2 59 0).trans kw.2.2.2.2.2
    have hg1 := G.1
    have ej : (xI h1 24 9).toInt = Z 2 := by rw [G.2.1 24 9 (by decide)]; exact kt.1.1 2 (by decide)
    have lk : (k : Int) < Z 2 := by omega
    have nk : kk.toNatClampNeg = k := zi_ix hk
    have sk := y_suc1 (k := kk) (by omega) (by omega)
    have kt1 : kTx 24 Z h1 := kt.q G (by decide)
    have kw1 : kW 59 24 Z Y h1 := kw.q G (by decide)
    have ehh : xI h1 63 kk.toNatClampNeg = Y (20 + k) := by rw [nk]; exact (kw1.2.1 k lk).1
    have eh := congrArg Int32.toInt ehh
    have bh := V.2.1 k lk
    obtain ⟨H, hH⟩ : ∃ H : Nat, (Y (20 + k)).toInt = H := ⟨(Y (20 + k)).toInt.toNat, by omega⟩
    have nh : (xI h1 63 kk.toNatClampNeg).toNatClampNeg = H := zi_ix (by omega)
    have emo : (xI h1 59 10).toInt = (Y 51).toInt := congrArg Int32.toInt kw1.2.2.2.1
    have ewg : xI h1 35 kk.toNatClampNeg = Int32.ofInt (Z (200 + k)) := i32_e (by rw [nk]; exact kt1.1.2.2 10 k (by decide) lk)
    have e_1 : (Int32.ofInt (1)).toInt = 1 := rfl
    by_cases cb1 : (xI h1 59 10) = (Int32.ofInt (1))
    · have e_1 : (Int32.ofInt (1)).toInt = 1 := rfl
      have dcb1 : (xI h1 59 10).toInt = (Int32.ofInt (1)).toInt := congrArg Int32.toInt cb1
      have t2 : XT l 5 122 false 99 153 6051 10 [xf 11 59, xi kk, x2, x3] [] h1 40 [xf 11 59, xi kk, x2, x3] [xi kk, xf 11 59, xi (Int32.ofInt (1)), xi (xI h1 (xR h1 59 12) ((xI h1 (xR h1 59 4) (kk).toNatClampNeg)).toNatClampNeg), xi (xI h1 (xR h1 59 4) (kk).toNatClampNeg), xf 10006 (xR h1 59 12)] h1 := XT_path (l := l) (fr := 5) (lo := 122) (full := false) (M := 99) (n := 153) (u := 6051) (pc := 10) (L := [xf 11 59, xi kk, x2, x3]) (st := []) (h := h1) (inl := [74]) (n' := 120) (sp := [40]) (o := [0, 0]) rfl rfl ⟨rfl, rfl, rfl⟩ rfl ⟨Nat.le_of_eq hg1.2.2.2.1, Nat.le_of_eq hg1.2.2.2.2⟩ ⟨⟨⟨⟨⟨⟨⟨trivial, (show ¬ xR h1 59 0 = 0 from by rw [r0]; decide)⟩, (show ¬ (xI h1 (xR h1 59 0) 9) ≤ kk from by rw [r0]; exact fun z => absurd (Int32.le_iff_toInt_le.mp z) (by omega))⟩, (vnn hg1.1 (rfl : vRf 59 12 = [68]) (by decide))⟩, (vnn hg1.1 (rfl : vRf 59 4 = [63]) (by decide))⟩, (vp_of (i := kk) (n := 8) (by omega) (by omega))⟩, (show vp_in ((xI h1 (xR h1 59 4) (kk).toNatClampNeg)) (6) from (by rw [vref hg1.1 (rfl : vRf 59 4 = [63])]; exact (vp_of (i := (xI h1 63 (kk).toNatClampNeg)) (n := 6) (by omega) (by omega) : vp_in ((xI h1 63 (kk).toNatClampNeg)) (6))))⟩, cb1⟩
      rw [vref hg1.1 (rfl : vRf 59 12 = [68]), vref hg1.1 (rfl : vRf 59 4 = [63])] at t2
      obtain ⟨v, h2, c1, g1, ev⟩ := ck_vote59_24 l Z Y kk k h1 hg1 A kt1 kw1 V (kd.q G (by decide)) (ke.q G (by decide)) hk lk
      have t3 : XT l 5 122 false 99 153 6051 40 [xf 11 59, xi kk, x2, x3] [xi kk, xf 11 59, xi (Int32.ofInt (1)), xi (xI h1 68 ((xI h1 63 (kk).toNatClampNeg)).toNatClampNeg), xi (xI h1 63 (kk).toNatClampNeg), xf 10006 68] h1 43 [xf 11 59, xi kk, x2, x3] [xi v, xi (Int32.ofInt (1)), xi (xI h1 68 ((xI h1 63 (kk).toNatClampNeg)).toNatClampNeg), xi (xI h1 63 (kk).toNatClampNeg), xf 10006 68] h2 := XT_call (l := l) (fr := 5) (lo := 122) (full := false) (M := 99) (n := 153) (u := 6051) (pc := 40) (L := [xf 11 59, xi kk, x2, x3]) (st := [xi kk, xf 11 59, xi (Int32.ofInt (1)), xi (xI h1 68 ((xI h1 63 (kk).toNatClampNeg)).toNatClampNeg), xi (xI h1 63 (kk).toNatClampNeg), xf 10006 68]) (h := h1) (i := .invokevirtual 75) (aux := 2) (nx := 43) (K := 75) (vs := [xf 11 59, xi kk]) (rs := [xi v]) (rest := [xi (Int32.ofInt (1)), xi (xI h1 68 ((xI h1 63 (kk).toNatClampNeg)).toNatClampNeg), xi (xI h1 63 (kk).toNatClampNeg), xf 10006 68]) rfl rfl rfl rfl rfl rfl c1 (by decide) (by decide) (Nat.le_of_ble_eq_true rfl) ⟨Nat.le_of_eq g1.1.2.2.2.1, Nat.le_of_eq g1.1.2.2.2.2⟩
      have t4 := t2.tr t3
      have t5 : XT l 5 122 false 99 153 6051 43 [xf 11 59, xi kk, x2, x3] [xi v, xi (Int32.ofInt (1)), xi (xI h1 68 ((xI h1 63 (kk).toNatClampNeg)).toNatClampNeg), xi (xI h1 63 (kk).toNatClampNeg), xf 10006 68] h2 10 [xf 11 59, xi (kk + Int32.ofInt (1)), x2, x3] [] (xsetI h2 68 ((xI h1 63 (kk).toNatClampNeg)).toNatClampNeg ((xI h1 68 ((xI h1 63 (kk).toNatClampNeg)).toNatClampNeg) + ((Int32.ofInt (1)) * v))) := XT_path (l := l) (fr := 5) (lo := 122) (full := false) (M := 99) (n := 153) (u := 6051) (pc := 43) (L := [xf 11 59, xi kk, x2, x3]) (st := [xi v, xi (Int32.ofInt (1)), xi (xI h1 68 ((xI h1 63 (kk).toNatClampNeg)).toNatClampNeg), xi (xI h1 63 (kk).toNatClampNeg), xf 10006 68]) (h := h2) (inl := [74]) (n' := 120) (sp := [10]) (o := []) rfl rfl ⟨rfl, rfl, rfl⟩ rfl ⟨Nat.le_of_eq g1.1.2.2.2.1, Nat.le_of_eq g1.1.2.2.2.2⟩ ⟨trivial, (vp_of (i := (xI h1 63 (kk).toNatClampNeg)) (n := 6) (by omega) (by omega))⟩
      have t6 := t4.tr t5
      have eWG : (Int32.ofInt (1)) = zWe Z Y k := by unfold zWe; rw [if_pos (by omega)]
      obtain ⟨hE, eE⟩ : ∃ x, x = (xsetI h2 68 ((xI h1 63 (kk).toNatClampNeg)).toNatClampNeg ((xI h1 68 ((xI h1 63 (kk).toNatClampNeg)).toNatClampNeg) + ((Int32.ofInt (1)) * v))) := ⟨_, rfl⟩
      have eE2 : hE = xsetI h2 68 H (xI h1 68 H + zWe Z Y k * zVo Z Y k) := by rw [eE, eWG, ev]; simp only [nh]
      rw [← eE] at t6
      have G2 : mQ [68] h h2 := G.tr g1.q
      have GE : mQ [68] h hE := by rw [eE2]; exact G2.set (by decide) (by rw [vI_u rfl (rfl : vRow 68 = sfull)]; exact i32r_of _)
      have J9 : ∀ r : Nat, (r : Int) < Z 0 → xI hE 68 r = zsum (fun p => if (Y (20 + p)).toInt = r then zWe Z Y p * zVo Z Y p else Int32.ofInt (0)) (k + 1) := by
        intro r hr
        by_cases e1 : r = H
        · rw [e1, eE2, yI_same]
          rw [e1] at hr
          exact zsum_n (I9 H hr) (if_pos hH)
        · rw [eE2, yI_ne (eq_false (fun z => e1 z.2)), g1.2.1]
          exact zsum_m (I9 r hr) (if_neg (by omega))
      obtain ⟨k3, h9, t9, G9, I10⟩ := ck_strV59_24 l Z Y h hg A kt kw V kd ke m (k + 1) (kk + Int32.ofInt (1)) (x2) (x3) hE GE (by omega) (by omega) J9
      exact ⟨k3, h9, t6.tr t9, G9, I10⟩
    · have e_1 : (Int32.ofInt (1)).toInt = 1 := rfl
      have dcb1 : ¬ (xI h1 59 10).toInt = (Int32.ofInt (1)).toInt := fun z_ => cb1 (Int32.toInt_inj.mp z_)
      have t7 : XT l 5 122 false 99 153 6051 10 [xf 11 59, xi kk, x2, x3] [] h1 40 [xf 11 59, xi kk, x2, x3] [xi kk, xf 11 59, xi (xI h1 (xR h1 (xR h1 59 0) 13) (kk).toNatClampNeg), xi (xI h1 (xR h1 59 12) ((xI h1 (xR h1 59 4) (kk).toNatClampNeg)).toNatClampNeg), xi (xI h1 (xR h1 59 4) (kk).toNatClampNeg), xf 10006 (xR h1 59 12)] h1 := XT_path (l := l) (fr := 5) (lo := 122) (full := false) (M := 99) (n := 153) (u := 6051) (pc := 10) (L := [xf 11 59, xi kk, x2, x3]) (st := []) (h := h1) (inl := [74]) (n' := 120) (sp := [40]) (o := [0, 1]) rfl rfl ⟨rfl, rfl, rfl⟩ rfl ⟨Nat.le_of_eq hg1.2.2.2.1, Nat.le_of_eq hg1.2.2.2.2⟩ ⟨⟨⟨⟨⟨⟨⟨⟨⟨⟨trivial, (show ¬ xR h1 59 0 = 0 from by rw [r0]; decide)⟩, (show ¬ (xI h1 (xR h1 59 0) 9) ≤ kk from by rw [r0]; exact fun z => absurd (Int32.le_iff_toInt_le.mp z) (by omega))⟩, (vnn hg1.1 (rfl : vRf 59 12 = [68]) (by decide))⟩, (vnn hg1.1 (rfl : vRf 59 4 = [63]) (by decide))⟩, (vp_of (i := kk) (n := 8) (by omega) (by omega))⟩, (show vp_in ((xI h1 (xR h1 59 4) (kk).toNatClampNeg)) (6) from (by rw [vref hg1.1 (rfl : vRf 59 4 = [63])]; exact (vp_of (i := (xI h1 63 (kk).toNatClampNeg)) (n := 6) (by omega) (by omega) : vp_in ((xI h1 63 (kk).toNatClampNeg)) (6))))⟩, cb1⟩, (show ¬ xR h1 59 0 = 0 from by rw [r0]; decide)⟩, (show ¬ xR h1 (xR h1 59 0) 13 = 0 from by rw [r0]; exact vnn hg1.1 (rfl : vRf 24 13 = [35]) (by decide))⟩, (vp_of (i := kk) (n := 8) (by omega) (by omega))⟩
      rw [r0, vref hg1.1 (rfl : vRf 59 12 = [68]), vref hg1.1 (rfl : vRf 59 4 = [63]), vref hg1.1 (rfl : vRf 24 13 = [35])] at t7
      obtain ⟨v, h2, c1, g1, ev⟩ := ck_vote59_24 l Z Y kk k h1 hg1 A kt1 kw1 V (kd.q G (by decide)) (ke.q G (by decide)) hk lk
      have t8 : XT l 5 122 false 99 153 6051 40 [xf 11 59, xi kk, x2, x3] [xi kk, xf 11 59, xi (xI h1 35 (kk).toNatClampNeg), xi (xI h1 68 ((xI h1 63 (kk).toNatClampNeg)).toNatClampNeg), xi (xI h1 63 (kk).toNatClampNeg), xf 10006 68] h1 43 [xf 11 59, xi kk, x2, x3] [xi v, xi (xI h1 35 (kk).toNatClampNeg), xi (xI h1 68 ((xI h1 63 (kk).toNatClampNeg)).toNatClampNeg), xi (xI h1 63 (kk).toNatClampNeg), xf 10006 68] h2 := XT_call (l := l) (fr := 5) (lo := 122) (full := false) (M := 99) (n := 153) (u := 6051) (pc := 40) (L := [xf 11 59, xi kk, x2, x3]) (st := [xi kk, xf 11 59, xi (xI h1 35 (kk).toNatClampNeg), xi (xI h1 68 ((xI h1 63 (kk).toNatClampNeg)).toNatClampNeg), xi (xI h1 63 (kk).toNatClampNeg), xf 10006 68]) (h := h1) (i := .invokevirtual 75) (aux := 2) (nx := 43) (K := 75) (vs := [xf 11 59, xi kk]) (rs := [xi v]) (rest := [xi (xI h1 35 (kk).toNatClampNeg), xi (xI h1 68 ((xI h1 63 (kk).toNatClampNeg)).toNatClampNeg), xi (xI h1 63 (kk).toNatClampNeg), xf 10006 68]) rfl rfl rfl rfl rfl rfl c1 (by decide) (by decide) (Nat.le_of_ble_eq_true rfl) ⟨Nat.le_of_eq g1.1.2.2.2.1, Nat.le_of_eq g1.1.2.2.2.2⟩
      have t9 := t7.tr t8
      have t10 : XT l 5 122 false 99 153 6051 43 [xf 11 59, xi kk, x2, x3] [xi v, xi (xI h1 35 (kk).toNatClampNeg), xi (xI h1 68 ((xI h1 63 (kk).toNatClampNeg)).toNatClampNeg), xi (xI h1 63 (kk).toNatClampNeg), xf 10006 68] h2 10 [xf 11 59, xi (kk + Int32.ofInt (1)), x2, x3] [] (xsetI h2 68 ((xI h1 63 (kk).toNatClampNeg)).toNatClampNeg ((xI h1 68 ((xI h1 63 (kk).toNatClampNeg)).toNatClampNeg) + ((xI h1 35 (kk).toNatClampNeg) * v))) := XT_path (l := l) (fr := 5) (lo := 122) (full := false) (M := 99) (n := 153) (u := 6051) (pc := 43) (L := [xf 11 59, xi kk, x2, x3]) (st := [xi v, xi (xI h1 35 (kk).toNatClampNeg), xi (xI h1 68 ((xI h1 63 (kk).toNatClampNeg)).toNatClampNeg), xi (xI h1 63 (kk).toNatClampNeg), xf 10006 68]) (h := h2) (inl := [74]) (n' := 120) (sp := [10]) (o := []) rfl rfl ⟨rfl, rfl, rfl⟩ rfl ⟨Nat.le_of_eq g1.1.2.2.2.1, Nat.le_of_eq g1.1.2.2.2.2⟩ ⟨trivial, (vp_of (i := (xI h1 63 (kk).toNatClampNeg)) (n := 6) (by omega) (by omega))⟩
      have t11 := t9.tr t10
      have eWG : (xI h1 35 (kk).toNatClampNeg) = zWe Z Y k := by unfold zWe; rw [if_neg (by omega)]; exact ewg
      obtain ⟨hE, eE⟩ : ∃ x, x = (xsetI h2 68 ((xI h1 63 (kk).toNatClampNeg)).toNatClampNeg ((xI h1 68 ((xI h1 63 (kk).toNatClampNeg)).toNatClampNeg) + ((xI h1 35 (kk).toNatClampNeg) * v))) := ⟨_, rfl⟩
      have eE2 : hE = xsetI h2 68 H (xI h1 68 H + zWe Z Y k * zVo Z Y k) := by rw [eE, eWG, ev]; simp only [nh]
      rw [← eE] at t11
      have G2 : mQ [68] h h2 := G.tr g1.q
      have GE : mQ [68] h hE := by rw [eE2]; exact G2.set (by decide) (by rw [vI_u rfl (rfl : vRow 68 = sfull)]; exact i32r_of _)
      have J9 : ∀ r : Nat, (r : Int) < Z 0 → xI hE 68 r = zsum (fun p => if (Y (20 + p)).toInt = r then zWe Z Y p * zVo Z Y p else Int32.ofInt (0)) (k + 1) := by
        intro r hr
        by_cases e1 : r = H
        · rw [e1, eE2, yI_same]
          rw [e1] at hr
          exact zsum_n (I9 H hr) (if_pos hH)
        · rw [eE2, yI_ne (eq_false (fun z => e1 z.2)), g1.2.1]
          exact zsum_m (I9 r hr) (if_neg (by omega))
      obtain ⟨k3, h9, t9, G9, I10⟩ := ck_strV59_24 l Z Y h hg A kt kw V kd ke m (k + 1) (kk + Int32.ofInt (1)) (x2) (x3) hE GE (by omega) (by omega) J9
      exact ⟨k3, h9, t11.tr t9, G9, I10⟩
set_option maxRecDepth 100000 in
set_option maxHeartbeats 4000000 in
theorem ck_strS59_24 (l : Launch) (Z : Nat → Int) (Y : Nat → Int32) (h : XH) (hg : mI h) (A : zAll Z) (kt : kTx 24 Z h) (kw : kW 59 24 Z Y h) (V : zVd Z Y) (k9 : ∀ r : Nat, (r : Int) < Z 0 → xI h 68 r = zVs Z Y r) : ∀ (m k : Nat) (kk ch : Int32) (x3 : XV) (h1 : XH), mQ [60] h h1 → kk.toInt = k → (k : Int) + m = Z 0 → (∀ r : Nat, r < k → xI h1 60 r = zSt (Y r) (zVs Z Y r)) → (∀ r : Nat, k ≤ r → (r : Int) < Z 0 → xI h1 60 r = Y r) → zhc Z Y k ch → ∃ k2 ch2 y3 h2, XT l 5 122 false 99 153 6051 56 [xf 11 59, xi ch, xi kk, x3] [] h1 116 [xf 11 59, xi ch2, xi k2, y3] [] h2 ∧ mQ [60] h h2 ∧ (∀ r : Nat, (r : Int) < Z 0 → xI h2 60 r = zSt (Y r) (zVs Z Y r)) ∧ zhc Z Y (Z 0).toNat ch2
  | 0, k, kk, ch, x3, h1, G, hk, hm, I1, I2, zc => by
    obtain ⟨⟨⟨B00, B01⟩, ⟨B10, B11⟩, ⟨B20, B21⟩, B30, B31⟩, g6, zj, zv, LW⟩ := id A
    have r0 : xR h1 59 0 = 24 := (G.2.2 59 0).trans kw.2.2.2.2.2
    have hg1 := G.1
    have ej : (xI h1 24 0).toInt = Z 0 := by rw [G.2.1 24 0 (by decide)]; exact kt.1.1 0 (by decide)
    have t1 : XT l 5 122 false 99 153 6051 56 [xf 11 59, xi ch, xi kk, x3] [] h1 116 [xf 11 59, xi ch, xi kk, x3] [] h1 := XT_path (l := l) (fr := 5) (lo := 122) (full := false) (M := 99) (n := 153) (u := 6051) (pc := 56) (L := [xf 11 59, xi ch, xi kk, x3]) (st := []) (h := h1) (inl := [100]) (n' := 120) (sp := [116]) (o := [1]) rfl rfl ⟨rfl, rfl, rfl⟩ rfl ⟨Nat.le_of_eq hg1.2.2.2.1, Nat.le_of_eq hg1.2.2.2.2⟩ ⟨⟨trivial, (show ¬ xR h1 59 0 = 0 from by rw [r0]; decide)⟩, (show (xI h1 (xR h1 59 0) 0) ≤ kk from by rw [r0]; exact Int32.le_iff_toInt_le.mpr (by omega))⟩
    obtain rfl : k = (Z 0).toNat := by omega
    exact ⟨kk, ch, x3, h1, t1, G, fun r hr => I1 r (by omega), zc⟩
  | m + 1, k, kk, ch, x3, h1, G, hk, hm, I1, I2, zc => by
    obtain ⟨⟨⟨B00, B01⟩, ⟨B10, B11⟩, ⟨B20, B21⟩, B30, B31⟩, g6, zj, zv, LW⟩ := id A
    have r0 : xR h1 59 0 = 24 := (G.2.2 59 0).trans kw.2.2.2.2.2
    have hg1 := G.1
    have ej : (xI h1 24 0).toInt = Z 0 := by rw [G.2.1 24 0 (by decide)]; exact kt.1.1 0 (by decide)
    have lk : (k : Int) < Z 0 := by omega
    have nk : kk.toNatClampNeg = k := zi_ix hk
    have sk := y_suc1 (k := kk) (by omega) (by omega)
    have bs := V.1 k lk
    have eS : xI h1 60 kk.toNatClampNeg = Y k := by rw [nk]; exact I2 k (Nat.le_refl _) lk
    have eV : xI h1 68 kk.toNatClampNeg = zVs Z Y k := by rw [nk, G.2.1 68 k (by decide)]; exact k9 k lk
    have eV2 := congrArg Int32.toInt eV
    have ez : (0 : Int32).toInt = 0 := rfl
    by_cases cb1 : (xI h1 (xR h1 59 12) (kk).toNatClampNeg) ≤ 0
    · have e_0 : (0 : Int32).toInt = 0 := rfl
      have cb1r := cb1
      rw [vref hg1.1 (rfl : vRf 59 12 = [68])] at cb1r
      have dcb1 : (xI h1 68 (kk).toNatClampNeg).toInt ≤ (0 : Int32).toInt := Int32.le_iff_toInt_le.mp cb1r
      by_cases cb2 : (0 : Int32) ≤ (xI h1 (xR h1 59 12) (kk).toNatClampNeg)
      · have e_0 : (0 : Int32).toInt = 0 := rfl
        have cb2r := cb2
        rw [vref hg1.1 (rfl : vRf 59 12 = [68])] at cb2r
        have dcb2 : (0 : Int32).toInt ≤ (xI h1 68 (kk).toNatClampNeg).toInt := Int32.le_iff_toInt_le.mp cb2r
        by_cases cb3 : ch = 0
        · have e_0 : (0 : Int32).toInt = 0 := rfl
          have dcb3 : (ch).toInt = (0 : Int32).toInt := congrArg Int32.toInt cb3
          by_cases cb4 : (xI h1 (xR h1 59 1) (kk).toNatClampNeg) = (xI h1 (xR h1 59 1) (kk).toNatClampNeg)
          · have cb4r := cb4
            rw [vref hg1.1 (rfl : vRf 59 1 = [60])] at cb4r
            have dcb4 : (xI h1 60 (kk).toNatClampNeg).toInt = (xI h1 60 (kk).toNatClampNeg).toInt := congrArg Int32.toInt cb4r
            have t5 : XT l 5 122 false 99 153 6051 56 [xf 11 59, xi ch, xi kk, x3] [] h1 56 [xf 11 59, xi (Int32.ofInt (0)), xi (kk + Int32.ofInt (1)), xi (xI h1 (xR h1 59 1) (kk).toNatClampNeg)] [] (xsetI h1 (xR h1 59 1) (kk).toNatClampNeg (xI h1 (xR h1 59 1) (kk).toNatClampNeg)) := XT_path (l := l) (fr := 5) (lo := 122) (full := false) (M := 99) (n := 153) (u := 6051) (pc := 56) (L := [xf 11 59, xi ch, xi kk, x3]) (st := []) (h := h1) (inl := [100]) (n' := 120) (sp := [56]) (o := [0, 1, 1, 0, 1]) rfl rfl ⟨rfl, rfl, rfl⟩ rfl ⟨Nat.le_of_eq hg1.2.2.2.1, Nat.le_of_eq hg1.2.2.2.2⟩ ⟨⟨⟨⟨⟨⟨⟨⟨⟨⟨⟨⟨⟨⟨trivial, (show ¬ xR h1 59 0 = 0 from by rw [r0]; decide)⟩, (show ¬ (xI h1 (xR h1 59 0) 0) ≤ kk from by rw [r0]; exact fun z => absurd (Int32.le_iff_toInt_le.mp z) (by omega))⟩, (vnn hg1.1 (rfl : vRf 59 1 = [60]) (by decide))⟩, (vp_of (i := kk) (n := 6) (by omega) (by omega))⟩, (vnn hg1.1 (rfl : vRf 59 12 = [68]) (by decide))⟩, (vp_of (i := kk) (n := 6) (by omega) (by omega))⟩, cb1⟩, cb2⟩, cb3⟩, (vnn hg1.1 (rfl : vRf 59 1 = [60]) (by decide))⟩, (vp_of (i := kk) (n := 6) (by omega) (by omega))⟩, cb4⟩, (vnn hg1.1 (rfl : vRf 59 1 = [60]) (by decide))⟩, (vp_of (i := kk) (n := 6) (by omega) (by omega))⟩
            rw [vref hg1.1 (rfl : vRf 59 1 = [60])] at t5
            have eN : (xI h1 60 (kk).toNatClampNeg) = zSt (Y k) (zVs Z Y k) := by rw [eS]; exact zSt_z (by omega) (by omega)
            obtain ⟨hE, eE⟩ : ∃ x, x = (xsetI h1 60 (kk).toNatClampNeg (xI h1 60 (kk).toNatClampNeg)) := ⟨_, rfl⟩
            have eE2 : hE = xsetI h1 60 k (zSt (Y k) (zVs Z Y k)) := by rw [eE, eN, nk]
            rw [← eE] at t5
            have bz := zSt_b (v := zVs Z Y k) bs
            have GE : mQ [60] h hE := by rw [eE2]; exact G.set (by decide) (by rw [vI_u rfl (rfl : vRow 60 = (0, 9))]; exact ⟨by show (0 : Int) ≤ _; omega, by show _ ≤ (9 : Int); omega⟩)
            have zc2 : zhc Z Y (k + 1) (Int32.ofInt (0)) := zhc_b zc cb3 (eN.symm.trans ((Int32.toInt_inj.mp dcb4).trans eS))
            obtain ⟨k3, c3, y3, h9, t9, G9, I9, z9⟩ := ck_strS59_24 l Z Y h hg A kt kw V k9 m (k + 1) (kk + Int32.ofInt (1)) (Int32.ofInt (0)) (xi (xI h1 60 (kk).toNatClampNeg)) hE GE (by omega) (by omega) (fun r hr => by rw [eE2]; exact if e : r = k then (by rw [e, yI_same]) else (by rw [yI_ne (eq_false (fun z => e z.2))]; exact I1 r (by omega))) (fun r h1_ h2_ => by rw [eE2, yI_ne (eq_false (fun z => by have := z.2; omega))]; exact I2 r (by omega) h2_) zc2
            exact ⟨k3, c3, y3, h9, t5.tr t9, G9, I9, z9⟩
          · have cb4r := cb4
            rw [vref hg1.1 (rfl : vRf 59 1 = [60])] at cb4r
            have dcb4 : ¬ (xI h1 60 (kk).toNatClampNeg).toInt = (xI h1 60 (kk).toNatClampNeg).toInt := fun z_ => cb4r (Int32.toInt_inj.mp z_)
            have t6 : XT l 5 122 false 99 153 6051 56 [xf 11 59, xi ch, xi kk, x3] [] h1 56 [xf 11 59, xi (Int32.ofInt (1)), xi (kk + Int32.ofInt (1)), xi (xI h1 (xR h1 59 1) (kk).toNatClampNeg)] [] (xsetI h1 (xR h1 59 1) (kk).toNatClampNeg (xI h1 (xR h1 59 1) (kk).toNatClampNeg)) := XT_path (l := l) (fr := 5) (lo := 122) (full := false) (M := 99) (n := 153) (u := 6051) (pc := 56) (L := [xf 11 59, xi ch, xi kk, x3]) (st := []) (h := h1) (inl := [100]) (n' := 120) (sp := [56]) (o := [0, 1, 1, 0, 0]) rfl rfl ⟨rfl, rfl, rfl⟩ rfl ⟨Nat.le_of_eq hg1.2.2.2.1, Nat.le_of_eq hg1.2.2.2.2⟩ ⟨⟨⟨⟨⟨⟨⟨⟨⟨⟨⟨⟨⟨⟨trivial, (show ¬ xR h1 59 0 = 0 from by rw [r0]; decide)⟩, (show ¬ (xI h1 (xR h1 59 0) 0) ≤ kk from by rw [r0]; exact fun z => absurd (Int32.le_iff_toInt_le.mp z) (by omega))⟩, (vnn hg1.1 (rfl : vRf 59 1 = [60]) (by decide))⟩, (vp_of (i := kk) (n := 6) (by omega) (by omega))⟩, (vnn hg1.1 (rfl : vRf 59 12 = [68]) (by decide))⟩, (vp_of (i := kk) (n := 6) (by omega) (by omega))⟩, cb1⟩, cb2⟩, cb3⟩, (vnn hg1.1 (rfl : vRf 59 1 = [60]) (by decide))⟩, (vp_of (i := kk) (n := 6) (by omega) (by omega))⟩, cb4⟩, (vnn hg1.1 (rfl : vRf 59 1 = [60]) (by decide))⟩, (vp_of (i := kk) (n := 6) (by omega) (by omega))⟩
            rw [vref hg1.1 (rfl : vRf 59 1 = [60])] at t6
            have eN : (xI h1 60 (kk).toNatClampNeg) = zSt (Y k) (zVs Z Y k) := by rw [eS]; exact zSt_z (by omega) (by omega)
            obtain ⟨hE, eE⟩ : ∃ x, x = (xsetI h1 60 (kk).toNatClampNeg (xI h1 60 (kk).toNatClampNeg)) := ⟨_, rfl⟩
            have eE2 : hE = xsetI h1 60 k (zSt (Y k) (zVs Z Y k)) := by rw [eE, eN, nk]
            rw [← eE] at t6
            have bz := zSt_b (v := zVs Z Y k) bs
            have GE : mQ [60] h hE := by rw [eE2]; exact G.set (by decide) (by rw [vI_u rfl (rfl : vRow 60 = (0, 9))]; exact ⟨by show (0 : Int) ≤ _; omega, by show _ ≤ (9 : Int); omega⟩)
            have zc2 : zhc Z Y (k + 1) (Int32.ofInt (1)) := zhc_c (fun y => dcb4 (congrArg Int32.toInt ((eN.trans y).trans eS.symm)))
            obtain ⟨k3, c3, y3, h9, t9, G9, I9, z9⟩ := ck_strS59_24 l Z Y h hg A kt kw V k9 m (k + 1) (kk + Int32.ofInt (1)) (Int32.ofInt (1)) (xi (xI h1 60 (kk).toNatClampNeg)) hE GE (by omega) (by omega) (fun r hr => by rw [eE2]; exact if e : r = k then (by rw [e, yI_same]) else (by rw [yI_ne (eq_false (fun z => e z.2))]; exact I1 r (by omega))) (fun r h1_ h2_ => by rw [eE2, yI_ne (eq_false (fun z => by have := z.2; omega))]; exact I2 r (by omega) h2_) zc2
            exact ⟨k3, c3, y3, h9, t6.tr t9, G9, I9, z9⟩
        · have e_0 : (0 : Int32).toInt = 0 := rfl
          have dcb3 : ¬ (ch).toInt = (0 : Int32).toInt := fun z_ => cb3 (Int32.toInt_inj.mp z_)
          have t7 : XT l 5 122 false 99 153 6051 56 [xf 11 59, xi ch, xi kk, x3] [] h1 56 [xf 11 59, xi (Int32.ofInt (1)), xi (kk + Int32.ofInt (1)), xi (xI h1 (xR h1 59 1) (kk).toNatClampNeg)] [] (xsetI h1 (xR h1 59 1) (kk).toNatClampNeg (xI h1 (xR h1 59 1) (kk).toNatClampNeg)) := XT_path (l := l) (fr := 5) (lo := 122) (full := false) (M := 99) (n := 153) (u := 6051) (pc := 56) (L := [xf 11 59, xi ch, xi kk, x3]) (st := []) (h := h1) (inl := [100]) (n' := 120) (sp := [56]) (o := [0, 1, 1, 1]) rfl rfl ⟨rfl, rfl, rfl⟩ rfl ⟨Nat.le_of_eq hg1.2.2.2.1, Nat.le_of_eq hg1.2.2.2.2⟩ ⟨⟨⟨⟨⟨⟨⟨⟨⟨⟨⟨trivial, (show ¬ xR h1 59 0 = 0 from by rw [r0]; decide)⟩, (show ¬ (xI h1 (xR h1 59 0) 0) ≤ kk from by rw [r0]; exact fun z => absurd (Int32.le_iff_toInt_le.mp z) (by omega))⟩, (vnn hg1.1 (rfl : vRf 59 1 = [60]) (by decide))⟩, (vp_of (i := kk) (n := 6) (by omega) (by omega))⟩, (vnn hg1.1 (rfl : vRf 59 12 = [68]) (by decide))⟩, (vp_of (i := kk) (n := 6) (by omega) (by omega))⟩, cb1⟩, cb2⟩, cb3⟩, (vnn hg1.1 (rfl : vRf 59 1 = [60]) (by decide))⟩, (vp_of (i := kk) (n := 6) (by omega) (by omega))⟩
          rw [vref hg1.1 (rfl : vRf 59 1 = [60])] at t7
          have eN : (xI h1 60 (kk).toNatClampNeg) = zSt (Y k) (zVs Z Y k) := by rw [eS]; exact zSt_z (by omega) (by omega)
          obtain ⟨hE, eE⟩ : ∃ x, x = (xsetI h1 60 (kk).toNatClampNeg (xI h1 60 (kk).toNatClampNeg)) := ⟨_, rfl⟩
          have eE2 : hE = xsetI h1 60 k (zSt (Y k) (zVs Z Y k)) := by rw [eE, eN, nk]
          rw [← eE] at t7
          have bz := zSt_b (v := zVs Z Y k) bs
          have GE : mQ [60] h hE := by rw [eE2]; exact G.set (by decide) (by rw [vI_u rfl (rfl : vRow 60 = (0, 9))]; exact ⟨by show (0 : Int) ≤ _; omega, by show _ ≤ (9 : Int); omega⟩)
          have zc2 : zhc Z Y (k + 1) (Int32.ofInt (1)) := zhc_a zc cb3
          obtain ⟨k3, c3, y3, h9, t9, G9, I9, z9⟩ := ck_strS59_24 l Z Y h hg A kt kw V k9 m (k + 1) (kk + Int32.ofInt (1)) (Int32.ofInt (1)) (xi (xI h1 60 (kk).toNatClampNeg)) hE GE (by omega) (by omega) (fun r hr => by rw [eE2]; exact if e : r = k then (by rw [e, yI_same]) else (by rw [yI_ne (eq_false (fun z => e z.2))]; exact I1 r (by omega))) (fun r h1_ h2_ => by rw [eE2, yI_ne (eq_false (fun z => by have := z.2; omega))]; exact I2 r (by omega) h2_) zc2
          exact ⟨k3, c3, y3, h9, t7.tr t9, G9, I9, z9⟩
      · have e_0 : (0 : Int32).toInt = 0 := rfl
        have cb2r := cb2
        rw [vref hg1.1 (rfl : vRf 59 12 = [68])] at cb2r
        have dcb2 : (xI h1 68 (kk).toNatClampNeg).toInt < (0 : Int32).toInt := Int32.lt_iff_toInt_lt.mp (Int32.not_le.mp cb2r)
        by_cases cb8 : ch = 0
        · have e_0 : (0 : Int32).toInt = 0 := rfl
          have dcb8 : (ch).toInt = (0 : Int32).toInt := congrArg Int32.toInt cb8
          by_cases cb9 : (if (Int32.ofInt (1)) < ((xI h1 (xR h1 59 1) (kk).toNatClampNeg) - (Int32.ofInt (1))) then ((xI h1 (xR h1 59 1) (kk).toNatClampNeg) - (Int32.ofInt (1))) else (Int32.ofInt (1))) = (xI h1 (xR h1 59 1) (kk).toNatClampNeg)
          · have e_1 : (Int32.ofInt (1)).toInt = 1 := rfl
            have cb9r := cb9
            rw [vref hg1.1 (rfl : vRf 59 1 = [60])] at cb9r
            have dcb9 : (if (Int32.ofInt (1)) < ((xI h1 60 (kk).toNatClampNeg) - (Int32.ofInt (1))) then ((xI h1 60 (kk).toNatClampNeg) - (Int32.ofInt (1))) else (Int32.ofInt (1))).toInt = (xI h1 60 (kk).toNatClampNeg).toInt := congrArg Int32.toInt cb9r
            have t10 : XT l 5 122 false 99 153 6051 56 [xf 11 59, xi ch, xi kk, x3] [] h1 56 [xf 11 59, xi (Int32.ofInt (0)), xi (kk + Int32.ofInt (1)), xi (if (Int32.ofInt (1)) < ((xI h1 (xR h1 59 1) (kk).toNatClampNeg) - (Int32.ofInt (1))) then ((xI h1 (xR h1 59 1) (kk).toNatClampNeg) - (Int32.ofInt (1))) else (Int32.ofInt (1)))] [] (xsetI h1 (xR h1 59 1) (kk).toNatClampNeg (if (Int32.ofInt (1)) < ((xI h1 (xR h1 59 1) (kk).toNatClampNeg) - (Int32.ofInt (1))) then ((xI h1 (xR h1 59 1) (kk).toNatClampNeg) - (Int32.ofInt (1))) else (Int32.ofInt (1)))) := XT_path (l := l) (fr := 5) (lo := 122) (full := false) (M := 99) (n := 153) (u := 6051) (pc := 56) (L := [xf 11 59, xi ch, xi kk, x3]) (st := []) (h := h1) (inl := [100]) (n' := 120) (sp := [56]) (o := [0, 1, 0, 0, 1]) rfl rfl ⟨rfl, rfl, rfl⟩ rfl ⟨Nat.le_of_eq hg1.2.2.2.1, Nat.le_of_eq hg1.2.2.2.2⟩ ⟨⟨⟨⟨⟨⟨⟨⟨⟨⟨⟨⟨⟨⟨trivial, (show ¬ xR h1 59 0 = 0 from by rw [r0]; decide)⟩, (show ¬ (xI h1 (xR h1 59 0) 0) ≤ kk from by rw [r0]; exact fun z => absurd (Int32.le_iff_toInt_le.mp z) (by omega))⟩, (vnn hg1.1 (rfl : vRf 59 1 = [60]) (by decide))⟩, (vp_of (i := kk) (n := 6) (by omega) (by omega))⟩, (vnn hg1.1 (rfl : vRf 59 12 = [68]) (by decide))⟩, (vp_of (i := kk) (n := 6) (by omega) (by omega))⟩, cb1⟩, cb2⟩, cb8⟩, (vnn hg1.1 (rfl : vRf 59 1 = [60]) (by decide))⟩, (vp_of (i := kk) (n := 6) (by omega) (by omega))⟩, cb9⟩, (vnn hg1.1 (rfl : vRf 59 1 = [60]) (by decide))⟩, (vp_of (i := kk) (n := 6) (by omega) (by omega))⟩
            rw [vref hg1.1 (rfl : vRf 59 1 = [60])] at t10
            have eN : (if (Int32.ofInt (1)) < ((xI h1 60 (kk).toNatClampNeg) - (Int32.ofInt (1))) then ((xI h1 60 (kk).toNatClampNeg) - (Int32.ofInt (1))) else (Int32.ofInt (1))) = zSt (Y k) (zVs Z Y k) := by rw [eS]; exact zSt_m bs (by omega) (by omega)
            obtain ⟨hE, eE⟩ : ∃ x, x = (xsetI h1 60 (kk).toNatClampNeg (if (Int32.ofInt (1)) < ((xI h1 60 (kk).toNatClampNeg) - (Int32.ofInt (1))) then ((xI h1 60 (kk).toNatClampNeg) - (Int32.ofInt (1))) else (Int32.ofInt (1)))) := ⟨_, rfl⟩
            have eE2 : hE = xsetI h1 60 k (zSt (Y k) (zVs Z Y k)) := by rw [eE, eN, nk]
            rw [← eE] at t10
            have bz := zSt_b (v := zVs Z Y k) bs
            have GE : mQ [60] h hE := by rw [eE2]; exact G.set (by decide) (by rw [vI_u rfl (rfl : vRow 60 = (0, 9))]; exact ⟨by show (0 : Int) ≤ _; omega, by show _ ≤ (9 : Int); omega⟩)
            have zc2 : zhc Z Y (k + 1) (Int32.ofInt (0)) := zhc_b zc cb8 (eN.symm.trans ((Int32.toInt_inj.mp dcb9).trans eS))
            obtain ⟨k3, c3, y3, h9, t9, G9, I9, z9⟩ := ck_strS59_24 l Z Y h hg A kt kw V k9 m (k + 1) (kk + Int32.ofInt (1)) (Int32.ofInt (0)) (xi (if (Int32.ofInt (1)) < ((xI h1 60 (kk).toNatClampNeg) - (Int32.ofInt (1))) then ((xI h1 60 (kk).toNatClampNeg) - (Int32.ofInt (1))) else (Int32.ofInt (1)))) hE GE (by omega) (by omega) (fun r hr => by rw [eE2]; exact if e : r = k then (by rw [e, yI_same]) else (by rw [yI_ne (eq_false (fun z => e z.2))]; exact I1 r (by omega))) (fun r h1_ h2_ => by rw [eE2, yI_ne (eq_false (fun z => by have := z.2; omega))]; exact I2 r (by omega) h2_) zc2
            exact ⟨k3, c3, y3, h9, t10.tr t9, G9, I9, z9⟩
          · have e_1 : (Int32.ofInt (1)).toInt = 1 := rfl
            have cb9r := cb9
            rw [vref hg1.1 (rfl : vRf 59 1 = [60])] at cb9r
            have dcb9 : ¬ (if (Int32.ofInt (1)) < ((xI h1 60 (kk).toNatClampNeg) - (Int32.ofInt (1))) then ((xI h1 60 (kk).toNatClampNeg) - (Int32.ofInt (1))) else (Int32.ofInt (1))).toInt = (xI h1 60 (kk).toNatClampNeg).toInt := fun z_ => cb9r (Int32.toInt_inj.mp z_)
            have t11 : XT l 5 122 false 99 153 6051 56 [xf 11 59, xi ch, xi kk, x3] [] h1 56 [xf 11 59, xi (Int32.ofInt (1)), xi (kk + Int32.ofInt (1)), xi (if (Int32.ofInt (1)) < ((xI h1 (xR h1 59 1) (kk).toNatClampNeg) - (Int32.ofInt (1))) then ((xI h1 (xR h1 59 1) (kk).toNatClampNeg) - (Int32.ofInt (1))) else (Int32.ofInt (1)))] [] (xsetI h1 (xR h1 59 1) (kk).toNatClampNeg (if (Int32.ofInt (1)) < ((xI h1 (xR h1 59 1) (kk).toNatClampNeg) - (Int32.ofInt (1))) then ((xI h1 (xR h1 59 1) (kk).toNatClampNeg) - (Int32.ofInt (1))) else (Int32.ofInt (1)))) := XT_path (l := l) (fr := 5) (lo := 122) (full := false) (M := 99) (n := 153) (u := 6051) (pc := 56) (L := [xf 11 59, xi ch, xi kk, x3]) (st := []) (h := h1) (inl := [100]) (n' := 120) (sp := [56]) (o := [0, 1, 0, 0, 0]) rfl rfl ⟨rfl, rfl, rfl⟩ rfl ⟨Nat.le_of_eq hg1.2.2.2.1, Nat.le_of_eq hg1.2.2.2.2⟩ ⟨⟨⟨⟨⟨⟨⟨⟨⟨⟨⟨⟨⟨⟨trivial, (show ¬ xR h1 59 0 = 0 from by rw [r0]; decide)⟩, (show ¬ (xI h1 (xR h1 59 0) 0) ≤ kk from by rw [r0]; exact fun z => absurd (Int32.le_iff_toInt_le.mp z) (by omega))⟩, (vnn hg1.1 (rfl : vRf 59 1 = [60]) (by decide))⟩, (vp_of (i := kk) (n := 6) (by omega) (by omega))⟩, (vnn hg1.1 (rfl : vRf 59 12 = [68]) (by decide))⟩, (vp_of (i := kk) (n := 6) (by omega) (by omega))⟩, cb1⟩, cb2⟩, cb8⟩, (vnn hg1.1 (rfl : vRf 59 1 = [60]) (by decide))⟩, (vp_of (i := kk) (n := 6) (by omega) (by omega))⟩, cb9⟩, (vnn hg1.1 (rfl : vRf 59 1 = [60]) (by decide))⟩, (vp_of (i := kk) (n := 6) (by omega) (by omega))⟩
            rw [vref hg1.1 (rfl : vRf 59 1 = [60])] at t11
            have eN : (if (Int32.ofInt (1)) < ((xI h1 60 (kk).toNatClampNeg) - (Int32.ofInt (1))) then ((xI h1 60 (kk).toNatClampNeg) - (Int32.ofInt (1))) else (Int32.ofInt (1))) = zSt (Y k) (zVs Z Y k) := by rw [eS]; exact zSt_m bs (by omega) (by omega)
            obtain ⟨hE, eE⟩ : ∃ x, x = (xsetI h1 60 (kk).toNatClampNeg (if (Int32.ofInt (1)) < ((xI h1 60 (kk).toNatClampNeg) - (Int32.ofInt (1))) then ((xI h1 60 (kk).toNatClampNeg) - (Int32.ofInt (1))) else (Int32.ofInt (1)))) := ⟨_, rfl⟩
            have eE2 : hE = xsetI h1 60 k (zSt (Y k) (zVs Z Y k)) := by rw [eE, eN, nk]
            rw [← eE] at t11
            have bz := zSt_b (v := zVs Z Y k) bs
            have GE : mQ [60] h hE := by rw [eE2]; exact G.set (by decide) (by rw [vI_u rfl (rfl : vRow 60 = (0, 9))]; exact ⟨by show (0 : Int) ≤ _; omega, by show _ ≤ (9 : Int); omega⟩)
            have zc2 : zhc Z Y (k + 1) (Int32.ofInt (1)) := zhc_c (fun y => dcb9 (congrArg Int32.toInt ((eN.trans y).trans eS.symm)))
            obtain ⟨k3, c3, y3, h9, t9, G9, I9, z9⟩ := ck_strS59_24 l Z Y h hg A kt kw V k9 m (k + 1) (kk + Int32.ofInt (1)) (Int32.ofInt (1)) (xi (if (Int32.ofInt (1)) < ((xI h1 60 (kk).toNatClampNeg) - (Int32.ofInt (1))) then ((xI h1 60 (kk).toNatClampNeg) - (Int32.ofInt (1))) else (Int32.ofInt (1)))) hE GE (by omega) (by omega) (fun r hr => by rw [eE2]; exact if e : r = k then (by rw [e, yI_same]) else (by rw [yI_ne (eq_false (fun z => e z.2))]; exact I1 r (by omega))) (fun r h1_ h2_ => by rw [eE2, yI_ne (eq_false (fun z => by have := z.2; omega))]; exact I2 r (by omega) h2_) zc2
            exact ⟨k3, c3, y3, h9, t11.tr t9, G9, I9, z9⟩
        · have e_0 : (0 : Int32).toInt = 0 := rfl
          have dcb8 : ¬ (ch).toInt = (0 : Int32).toInt := fun z_ => cb8 (Int32.toInt_inj.mp z_)
          have t12 : XT l 5 122 false 99 153 6051 56 [xf 11 59, xi ch, xi kk, x3] [] h1 56 [xf 11 59, xi (Int32.ofInt (1)), xi (kk + Int32.ofInt (1)), xi (if (Int32.ofInt (1)) < ((xI h1 (xR h1 59 1) (kk).toNatClampNeg) - (Int32.ofInt (1))) then ((xI h1 (xR h1 59 1) (kk).toNatClampNeg) - (Int32.ofInt (1))) else (Int32.ofInt (1)))] [] (xsetI h1 (xR h1 59 1) (kk).toNatClampNeg (if (Int32.ofInt (1)) < ((xI h1 (xR h1 59 1) (kk).toNatClampNeg) - (Int32.ofInt (1))) then ((xI h1 (xR h1 59 1) (kk).toNatClampNeg) - (Int32.ofInt (1))) else (Int32.ofInt (1)))) := XT_path (l := l) (fr := 5) (lo := 122) (full := false) (M := 99) (n := 153) (u := 6051) (pc := 56) (L := [xf 11 59, xi ch, xi kk, x3]) (st := []) (h := h1) (inl := [100]) (n' := 120) (sp := [56]) (o := [0, 1, 0, 1]) rfl rfl ⟨rfl, rfl, rfl⟩ rfl ⟨Nat.le_of_eq hg1.2.2.2.1, Nat.le_of_eq hg1.2.2.2.2⟩ ⟨⟨⟨⟨⟨⟨⟨⟨⟨⟨⟨trivial, (show ¬ xR h1 59 0 = 0 from by rw [r0]; decide)⟩, (show ¬ (xI h1 (xR h1 59 0) 0) ≤ kk from by rw [r0]; exact fun z => absurd (Int32.le_iff_toInt_le.mp z) (by omega))⟩, (vnn hg1.1 (rfl : vRf 59 1 = [60]) (by decide))⟩, (vp_of (i := kk) (n := 6) (by omega) (by omega))⟩, (vnn hg1.1 (rfl : vRf 59 12 = [68]) (by decide))⟩, (vp_of (i := kk) (n := 6) (by omega) (by omega))⟩, cb1⟩, cb2⟩, cb8⟩, (vnn hg1.1 (rfl : vRf 59 1 = [60]) (by decide))⟩, (vp_of (i := kk) (n := 6) (by omega) (by omega))⟩
          rw [vref hg1.1 (rfl : vRf 59 1 = [60])] at t12
          have eN : (if (Int32.ofInt (1)) < ((xI h1 60 (kk).toNatClampNeg) - (Int32.ofInt (1))) then ((xI h1 60 (kk).toNatClampNeg) - (Int32.ofInt (1))) else (Int32.ofInt (1))) = zSt (Y k) (zVs Z Y k) := by rw [eS]; exact zSt_m bs (by omega) (by omega)
          obtain ⟨hE, eE⟩ : ∃ x, x = (xsetI h1 60 (kk).toNatClampNeg (if (Int32.ofInt (1)) < ((xI h1 60 (kk).toNatClampNeg) - (Int32.ofInt (1))) then ((xI h1 60 (kk).toNatClampNeg) - (Int32.ofInt (1))) else (Int32.ofInt (1)))) := ⟨_, rfl⟩
          have eE2 : hE = xsetI h1 60 k (zSt (Y k) (zVs Z Y k)) := by rw [eE, eN, nk]
          rw [← eE] at t12
          have bz := zSt_b (v := zVs Z Y k) bs
          have GE : mQ [60] h hE := by rw [eE2]; exact G.set (by decide) (by rw [vI_u rfl (rfl : vRow 60 = (0, 9))]; exact ⟨by show (0 : Int) ≤ _; omega, by show _ ≤ (9 : Int); omega⟩)
          have zc2 : zhc Z Y (k + 1) (Int32.ofInt (1)) := zhc_a zc cb8
          obtain ⟨k3, c3, y3, h9, t9, G9, I9, z9⟩ := ck_strS59_24 l Z Y h hg A kt kw V k9 m (k + 1) (kk + Int32.ofInt (1)) (Int32.ofInt (1)) (xi (if (Int32.ofInt (1)) < ((xI h1 60 (kk).toNatClampNeg) - (Int32.ofInt (1))) then ((xI h1 60 (kk).toNatClampNeg) - (Int32.ofInt (1))) else (Int32.ofInt (1)))) hE GE (by omega) (by omega) (fun r hr => by rw [eE2]; exact if e : r = k then (by rw [e, yI_same]) else (by rw [yI_ne (eq_false (fun z => e z.2))]; exact I1 r (by omega))) (fun r h1_ h2_ => by rw [eE2, yI_ne (eq_false (fun z => by have := z.2; omega))]; exact I2 r (by omega) h2_) zc2
          exact ⟨k3, c3, y3, h9, t12.tr t9, G9, I9, z9⟩
    · have e_0 : (0 : Int32).toInt = 0 := rfl
      have cb1r := cb1
      rw [vref hg1.1 (rfl : vRf 59 12 = [68])] at cb1r
      have dcb1 : (0 : Int32).toInt < (xI h1 68 (kk).toNatClampNeg).toInt := Int32.lt_iff_toInt_lt.mp (Int32.not_le.mp cb1r)
      by_cases cb13 : ch = 0
      · have e_0 : (0 : Int32).toInt = 0 := rfl
        have dcb13 : (ch).toInt = (0 : Int32).toInt := congrArg Int32.toInt cb13
        by_cases cb14 : (if ((xI h1 (xR h1 59 1) (kk).toNatClampNeg) + (Int32.ofInt (1))) < (Int32.ofInt (9)) then ((xI h1 (xR h1 59 1) (kk).toNatClampNeg) + (Int32.ofInt (1))) else (Int32.ofInt (9))) = (xI h1 (xR h1 59 1) (kk).toNatClampNeg)
        · have e_1 : (Int32.ofInt (1)).toInt = 1 := rfl
          have e_9 : (Int32.ofInt (9)).toInt = 9 := rfl
          have cb14r := cb14
          rw [vref hg1.1 (rfl : vRf 59 1 = [60])] at cb14r
          have dcb14 : (if ((xI h1 60 (kk).toNatClampNeg) + (Int32.ofInt (1))) < (Int32.ofInt (9)) then ((xI h1 60 (kk).toNatClampNeg) + (Int32.ofInt (1))) else (Int32.ofInt (9))).toInt = (xI h1 60 (kk).toNatClampNeg).toInt := congrArg Int32.toInt cb14r
          have t15 : XT l 5 122 false 99 153 6051 56 [xf 11 59, xi ch, xi kk, x3] [] h1 56 [xf 11 59, xi (Int32.ofInt (0)), xi (kk + Int32.ofInt (1)), xi (if ((xI h1 (xR h1 59 1) (kk).toNatClampNeg) + (Int32.ofInt (1))) < (Int32.ofInt (9)) then ((xI h1 (xR h1 59 1) (kk).toNatClampNeg) + (Int32.ofInt (1))) else (Int32.ofInt (9)))] [] (xsetI h1 (xR h1 59 1) (kk).toNatClampNeg (if ((xI h1 (xR h1 59 1) (kk).toNatClampNeg) + (Int32.ofInt (1))) < (Int32.ofInt (9)) then ((xI h1 (xR h1 59 1) (kk).toNatClampNeg) + (Int32.ofInt (1))) else (Int32.ofInt (9)))) := XT_path (l := l) (fr := 5) (lo := 122) (full := false) (M := 99) (n := 153) (u := 6051) (pc := 56) (L := [xf 11 59, xi ch, xi kk, x3]) (st := []) (h := h1) (inl := [100]) (n' := 120) (sp := [56]) (o := [0, 0, 0, 1]) rfl rfl ⟨rfl, rfl, rfl⟩ rfl ⟨Nat.le_of_eq hg1.2.2.2.1, Nat.le_of_eq hg1.2.2.2.2⟩ ⟨⟨⟨⟨⟨⟨⟨⟨⟨⟨⟨⟨⟨trivial, (show ¬ xR h1 59 0 = 0 from by rw [r0]; decide)⟩, (show ¬ (xI h1 (xR h1 59 0) 0) ≤ kk from by rw [r0]; exact fun z => absurd (Int32.le_iff_toInt_le.mp z) (by omega))⟩, (vnn hg1.1 (rfl : vRf 59 1 = [60]) (by decide))⟩, (vp_of (i := kk) (n := 6) (by omega) (by omega))⟩, (vnn hg1.1 (rfl : vRf 59 12 = [68]) (by decide))⟩, (vp_of (i := kk) (n := 6) (by omega) (by omega))⟩, cb1⟩, cb13⟩, (vnn hg1.1 (rfl : vRf 59 1 = [60]) (by decide))⟩, (vp_of (i := kk) (n := 6) (by omega) (by omega))⟩, cb14⟩, (vnn hg1.1 (rfl : vRf 59 1 = [60]) (by decide))⟩, (vp_of (i := kk) (n := 6) (by omega) (by omega))⟩
          rw [vref hg1.1 (rfl : vRf 59 1 = [60])] at t15
          have eN : (if ((xI h1 60 (kk).toNatClampNeg) + (Int32.ofInt (1))) < (Int32.ofInt (9)) then ((xI h1 60 (kk).toNatClampNeg) + (Int32.ofInt (1))) else (Int32.ofInt (9))) = zSt (Y k) (zVs Z Y k) := by rw [eS]; exact zSt_p bs (by omega)
          obtain ⟨hE, eE⟩ : ∃ x, x = (xsetI h1 60 (kk).toNatClampNeg (if ((xI h1 60 (kk).toNatClampNeg) + (Int32.ofInt (1))) < (Int32.ofInt (9)) then ((xI h1 60 (kk).toNatClampNeg) + (Int32.ofInt (1))) else (Int32.ofInt (9)))) := ⟨_, rfl⟩
          have eE2 : hE = xsetI h1 60 k (zSt (Y k) (zVs Z Y k)) := by rw [eE, eN, nk]
          rw [← eE] at t15
          have bz := zSt_b (v := zVs Z Y k) bs
          have GE : mQ [60] h hE := by rw [eE2]; exact G.set (by decide) (by rw [vI_u rfl (rfl : vRow 60 = (0, 9))]; exact ⟨by show (0 : Int) ≤ _; omega, by show _ ≤ (9 : Int); omega⟩)
          have zc2 : zhc Z Y (k + 1) (Int32.ofInt (0)) := zhc_b zc cb13 (eN.symm.trans ((Int32.toInt_inj.mp dcb14).trans eS))
          obtain ⟨k3, c3, y3, h9, t9, G9, I9, z9⟩ := ck_strS59_24 l Z Y h hg A kt kw V k9 m (k + 1) (kk + Int32.ofInt (1)) (Int32.ofInt (0)) (xi (if ((xI h1 60 (kk).toNatClampNeg) + (Int32.ofInt (1))) < (Int32.ofInt (9)) then ((xI h1 60 (kk).toNatClampNeg) + (Int32.ofInt (1))) else (Int32.ofInt (9)))) hE GE (by omega) (by omega) (fun r hr => by rw [eE2]; exact if e : r = k then (by rw [e, yI_same]) else (by rw [yI_ne (eq_false (fun z => e z.2))]; exact I1 r (by omega))) (fun r h1_ h2_ => by rw [eE2, yI_ne (eq_false (fun z => by have := z.2; omega))]; exact I2 r (by omega) h2_) zc2
          exact ⟨k3, c3, y3, h9, t15.tr t9, G9, I9, z9⟩
        · have e_1 : (Int32.ofInt (1)).toInt = 1 := rfl
          have e_9 : (Int32.ofInt (9)).toInt = 9 := rfl
          have cb14r := cb14
          rw [vref hg1.1 (rfl : vRf 59 1 = [60])] at cb14r
          have dcb14 : ¬ (if ((xI h1 60 (kk).toNatClampNeg) + (Int32.ofInt (1))) < (Int32.ofInt (9)) then ((xI h1 60 (kk).toNatClampNeg) + (Int32.ofInt (1))) else (Int32.ofInt (9))).toInt = (xI h1 60 (kk).toNatClampNeg).toInt := fun z_ => cb14r (Int32.toInt_inj.mp z_)
          have t16 : XT l 5 122 false 99 153 6051 56 [xf 11 59, xi ch, xi kk, x3] [] h1 56 [xf 11 59, xi (Int32.ofInt (1)), xi (kk + Int32.ofInt (1)), xi (if ((xI h1 (xR h1 59 1) (kk).toNatClampNeg) + (Int32.ofInt (1))) < (Int32.ofInt (9)) then ((xI h1 (xR h1 59 1) (kk).toNatClampNeg) + (Int32.ofInt (1))) else (Int32.ofInt (9)))] [] (xsetI h1 (xR h1 59 1) (kk).toNatClampNeg (if ((xI h1 (xR h1 59 1) (kk).toNatClampNeg) + (Int32.ofInt (1))) < (Int32.ofInt (9)) then ((xI h1 (xR h1 59 1) (kk).toNatClampNeg) + (Int32.ofInt (1))) else (Int32.ofInt (9)))) := XT_path (l := l) (fr := 5) (lo := 122) (full := false) (M := 99) (n := 153) (u := 6051) (pc := 56) (L := [xf 11 59, xi ch, xi kk, x3]) (st := []) (h := h1) (inl := [100]) (n' := 120) (sp := [56]) (o := [0, 0, 0, 0]) rfl rfl ⟨rfl, rfl, rfl⟩ rfl ⟨Nat.le_of_eq hg1.2.2.2.1, Nat.le_of_eq hg1.2.2.2.2⟩ ⟨⟨⟨⟨⟨⟨⟨⟨⟨⟨⟨⟨⟨trivial, (show ¬ xR h1 59 0 = 0 from by rw [r0]; decide)⟩, (show ¬ (xI h1 (xR h1 59 0) 0) ≤ kk from by rw [r0]; exact fun z => absurd (Int32.le_iff_toInt_le.mp z) (by omega))⟩, (vnn hg1.1 (rfl : vRf 59 1 = [60]) (by decide))⟩, (vp_of (i := kk) (n := 6) (by omega) (by omega))⟩, (vnn hg1.1 (rfl : vRf 59 12 = [68]) (by decide))⟩, (vp_of (i := kk) (n := 6) (by omega) (by omega))⟩, cb1⟩, cb13⟩, (vnn hg1.1 (rfl : vRf 59 1 = [60]) (by decide))⟩, (vp_of (i := kk) (n := 6) (by omega) (by omega))⟩, cb14⟩, (vnn hg1.1 (rfl : vRf 59 1 = [60]) (by decide))⟩, (vp_of (i := kk) (n := 6) (by omega) (by omega))⟩
          rw [vref hg1.1 (rfl : vRf 59 1 = [60])] at t16
          have eN : (if ((xI h1 60 (kk).toNatClampNeg) + (Int32.ofInt (1))) < (Int32.ofInt (9)) then ((xI h1 60 (kk).toNatClampNeg) + (Int32.ofInt (1))) else (Int32.ofInt (9))) = zSt (Y k) (zVs Z Y k) := by rw [eS]; exact zSt_p bs (by omega)
          obtain ⟨hE, eE⟩ : ∃ x, x = (xsetI h1 60 (kk).toNatClampNeg (if ((xI h1 60 (kk).toNatClampNeg) + (Int32.ofInt (1))) < (Int32.ofInt (9)) then ((xI h1 60 (kk).toNatClampNeg) + (Int32.ofInt (1))) else (Int32.ofInt (9)))) := ⟨_, rfl⟩
          have eE2 : hE = xsetI h1 60 k (zSt (Y k) (zVs Z Y k)) := by rw [eE, eN, nk]
          rw [← eE] at t16
          have bz := zSt_b (v := zVs Z Y k) bs
          have GE : mQ [60] h hE := by rw [eE2]; exact G.set (by decide) (by rw [vI_u rfl (rfl : vRow 60 = (0, 9))]; exact ⟨by show (0 : Int) ≤ _; omega, by show _ ≤ (9 : Int); omega⟩)
          have zc2 : zhc Z Y (k + 1) (Int32.ofInt (1)) := zhc_c (fun y => dcb14 (congrArg Int32.toInt ((eN.trans y).trans eS.symm)))
          obtain ⟨k3, c3, y3, h9, t9, G9, I9, z9⟩ := ck_strS59_24 l Z Y h hg A kt kw V k9 m (k + 1) (kk + Int32.ofInt (1)) (Int32.ofInt (1)) (xi (if ((xI h1 60 (kk).toNatClampNeg) + (Int32.ofInt (1))) < (Int32.ofInt (9)) then ((xI h1 60 (kk).toNatClampNeg) + (Int32.ofInt (1))) else (Int32.ofInt (9)))) hE GE (by omega) (by omega) (fun r hr => by rw [eE2]; exact if e : r = k then (by rw [e, yI_same]) else (by rw [yI_ne (eq_false (fun z => e z.2))]; exact I1 r (by omega))) (fun r h1_ h2_ => by rw [eE2, yI_ne (eq_false (fun z => by have := z.2; omega))]; exact I2 r (by omega) h2_) zc2
          exact ⟨k3, c3, y3, h9, t16.tr t9, G9, I9, z9⟩
      · have e_0 : (0 : Int32).toInt = 0 := rfl
        have dcb13 : ¬ (ch).toInt = (0 : Int32).toInt := fun z_ => cb13 (Int32.toInt_inj.mp z_)
        have t17 : XT l 5 122 false 99 153 6051 56 [xf 11 59, xi ch, xi kk, x3] [] h1 56 [xf 11 59, xi (Int32.ofInt (1)), xi (kk + Int32.ofInt (1)), xi (if ((xI h1 (xR h1 59 1) (kk).toNatClampNeg) + (Int32.ofInt (1))) < (Int32.ofInt (9)) then ((xI h1 (xR h1 59 1) (kk).toNatClampNeg) + (Int32.ofInt (1))) else (Int32.ofInt (9)))] [] (xsetI h1 (xR h1 59 1) (kk).toNatClampNeg (if ((xI h1 (xR h1 59 1) (kk).toNatClampNeg) + (Int32.ofInt (1))) < (Int32.ofInt (9)) then ((xI h1 (xR h1 59 1) (kk).toNatClampNeg) + (Int32.ofInt (1))) else (Int32.ofInt (9)))) := XT_path (l := l) (fr := 5) (lo := 122) (full := false) (M := 99) (n := 153) (u := 6051) (pc := 56) (L := [xf 11 59, xi ch, xi kk, x3]) (st := []) (h := h1) (inl := [100]) (n' := 120) (sp := [56]) (o := [0, 0, 1]) rfl rfl ⟨rfl, rfl, rfl⟩ rfl ⟨Nat.le_of_eq hg1.2.2.2.1, Nat.le_of_eq hg1.2.2.2.2⟩ ⟨⟨⟨⟨⟨⟨⟨⟨⟨⟨trivial, (show ¬ xR h1 59 0 = 0 from by rw [r0]; decide)⟩, (show ¬ (xI h1 (xR h1 59 0) 0) ≤ kk from by rw [r0]; exact fun z => absurd (Int32.le_iff_toInt_le.mp z) (by omega))⟩, (vnn hg1.1 (rfl : vRf 59 1 = [60]) (by decide))⟩, (vp_of (i := kk) (n := 6) (by omega) (by omega))⟩, (vnn hg1.1 (rfl : vRf 59 12 = [68]) (by decide))⟩, (vp_of (i := kk) (n := 6) (by omega) (by omega))⟩, cb1⟩, cb13⟩, (vnn hg1.1 (rfl : vRf 59 1 = [60]) (by decide))⟩, (vp_of (i := kk) (n := 6) (by omega) (by omega))⟩
        rw [vref hg1.1 (rfl : vRf 59 1 = [60])] at t17
        have eN : (if ((xI h1 60 (kk).toNatClampNeg) + (Int32.ofInt (1))) < (Int32.ofInt (9)) then ((xI h1 60 (kk).toNatClampNeg) + (Int32.ofInt (1))) else (Int32.ofInt (9))) = zSt (Y k) (zVs Z Y k) := by rw [eS]; exact zSt_p bs (by omega)
        obtain ⟨hE, eE⟩ : ∃ x, x = (xsetI h1 60 (kk).toNatClampNeg (if ((xI h1 60 (kk).toNatClampNeg) + (Int32.ofInt (1))) < (Int32.ofInt (9)) then ((xI h1 60 (kk).toNatClampNeg) + (Int32.ofInt (1))) else (Int32.ofInt (9)))) := ⟨_, rfl⟩
        have eE2 : hE = xsetI h1 60 k (zSt (Y k) (zVs Z Y k)) := by rw [eE, eN, nk]
        rw [← eE] at t17
        have bz := zSt_b (v := zVs Z Y k) bs
        have GE : mQ [60] h hE := by rw [eE2]; exact G.set (by decide) (by rw [vI_u rfl (rfl : vRow 60 = (0, 9))]; exact ⟨by show (0 : Int) ≤ _; omega, by show _ ≤ (9 : Int); omega⟩)
        have zc2 : zhc Z Y (k + 1) (Int32.ofInt (1)) := zhc_a zc cb13
        obtain ⟨k3, c3, y3, h9, t9, G9, I9, z9⟩ := ck_strS59_24 l Z Y h hg A kt kw V k9 m (k + 1) (kk + Int32.ofInt (1)) (Int32.ofInt (1)) (xi (if ((xI h1 60 (kk).toNatClampNeg) + (Int32.ofInt (1))) < (Int32.ofInt (9)) then ((xI h1 60 (kk).toNatClampNeg) + (Int32.ofInt (1))) else (Int32.ofInt (9)))) hE GE (by omega) (by omega) (fun r hr => by rw [eE2]; exact if e : r = k then (by rw [e, yI_same]) else (by rw [yI_ne (eq_false (fun z => e z.2))]; exact I1 r (by omega))) (fun r h1_ h2_ => by rw [eE2, yI_ne (eq_false (fun z => by have := z.2; omega))]; exact I2 r (by omega) h2_) zc2
        exact ⟨k3, c3, y3, h9, t17.tr t9, G9, I9, z9⟩
set_option maxRecDepth 100000 in
set_option maxHeartbeats 4000000 in
theorem ck_stretch59_24 (l : Launch) (Z : Nat → Int) (Y : Nat → Int32) (h : XH) (hg : mI h) (A : zAll Z) (kt : kTx 24 Z h) (kw : kW 59 24 Z Y h) (V : zVd Z Y) (kd : kD 59 Z Y h) (ke : kE 59 Z Y h) : ∃ v h', CX l 5 122 false 99 [xf 11 59] h [xi v] h' ∧ mQ [60, 62, 66, 68] h h' ∧ kW 59 24 Z (zStr Z Y) h' ∧ kD 59 Z (zStr Z Y) h' ∧ kE 59 Z (zStr Z Y) h' ∧ zhc Z Y (Z 0).toNat v := by
  obtain ⟨⟨⟨B00, B01⟩, ⟨B10, B11⟩, ⟨B20, B21⟩, B30, B31⟩, g6, zj, zv, LW⟩ := id A
  have r0 : xR h 59 0 = 24 := kw.2.2.2.2.2
  have t1 : XT l 5 122 false 99 153 6051 0 [xf 11 59, xun, xun, xun] [] h 5 [xf 11 59, xun, xun, xun] [xi (Int32.ofInt (0)), xf 10006 (xR h 59 12)] h := XT_path (l := l) (fr := 5) (lo := 122) (full := false) (M := 99) (n := 153) (u := 6051) (pc := 0) (L := [xf 11 59, xun, xun, xun]) (st := []) (h := h) (inl := []) (n' := 120) (sp := [5]) (o := []) rfl rfl ⟨rfl, rfl, rfl⟩ rfl ⟨Nat.le_of_eq hg.2.2.2.1, Nat.le_of_eq hg.2.2.2.2⟩ ⟨trivial, (vnn hg.1 (rfl : vRf 59 12 = [68]) (by decide))⟩
  rw [vref hg.1 (rfl : vRf 59 12 = [68])] at t1
  obtain ⟨h1, c1, G1, z1⟩ := cm_fill68 l h hg
  have t2 : XT l 5 122 false 99 153 6051 5 [xf 11 59, xun, xun, xun] [xi (Int32.ofInt (0)), xf 10006 68] h 8 [xf 11 59, xun, xun, xun] [] h1 := XT_call (l := l) (fr := 5) (lo := 122) (full := false) (M := 99) (n := 153) (u := 6051) (pc := 5) (L := [xf 11 59, xun, xun, xun]) (st := [xi (Int32.ofInt (0)), xf 10006 68]) (h := h) (i := .invokestatic 5) (aux := 2) (nx := 8) (K := 5) (vs := [xf 10006 68, xi (Int32.ofInt (0))]) (rs := []) (rest := []) rfl rfl rfl rfl rfl rfl c1 (by decide) (by decide) (Nat.le_of_ble_eq_true rfl) ⟨Nat.le_of_eq G1.1.2.2.2.1, Nat.le_of_eq G1.1.2.2.2.2⟩
  have t3 := t1.tr t2
  have t4 : XT l 5 122 false 99 153 6051 8 [xf 11 59, xun, xun, xun] [] h1 10 [xf 11 59, xi (Int32.ofInt (0)), xun, xun] [] h1 := XT_path (l := l) (fr := 5) (lo := 122) (full := false) (M := 99) (n := 153) (u := 6051) (pc := 8) (L := [xf 11 59, xun, xun, xun]) (st := []) (h := h1) (inl := []) (n' := 120) (sp := [10]) (o := []) rfl rfl ⟨rfl, rfl, rfl⟩ rfl ⟨Nat.le_of_eq G1.1.2.2.2.1, Nat.le_of_eq G1.1.2.2.2.2⟩ trivial
  have t5 := t3.tr t4
  obtain ⟨k2, h2, t2, G2, I2⟩ := ck_strV59_24 l Z Y h hg A kt kw V kd ke (Z 2).toNat 0 (Int32.ofInt (0)) (xun) (xun) h1 G1 rfl (by omega) (fun r hr => z1 r (by omega))
  have T2 := t5.tr t2
  have t6 : XT l 5 122 false 99 153 6051 52 [xf 11 59, xi k2, xun, xun] [] h2 56 [xf 11 59, xi (Int32.ofInt (0)), xi (Int32.ofInt (0)), xun] [] h2 := XT_path (l := l) (fr := 5) (lo := 122) (full := false) (M := 99) (n := 153) (u := 6051) (pc := 52) (L := [xf 11 59, xi k2, xun, xun]) (st := []) (h := h2) (inl := []) (n' := 120) (sp := [56]) (o := []) rfl rfl ⟨rfl, rfl, rfl⟩ rfl ⟨Nat.le_of_eq G2.1.2.2.2.1, Nat.le_of_eq G2.1.2.2.2.2⟩ trivial
  have t7 := T2.tr t6
  have kt2 : kTx 24 Z h2 := kt.q G2 (by decide)
  have kw2 : kW 59 24 Z Y h2 := kw.q G2 (by decide)
  obtain ⟨k3, ch, y3, h3, t3, G3, I3, z3⟩ := ck_strS59_24 l Z Y h2 G2.1 A kt2 kw2 V I2 (Z 0).toNat 0 (Int32.ofInt (0)) (Int32.ofInt (0)) (xun) h2 (mQ.rf G2.1) rfl (by omega) (fun r hr => by omega) (fun r _ hr => kw2.1 r hr) (Or.inl ⟨rfl, fun r hr => by omega⟩)
  have T3 := t7.tr t3
  have G23 : mQ [60, 62, 66, 68] h h3 := (G2.mono (by decide)).tr (G3.mono (by decide))
  have kw3 : kW 59 24 Z (zStr Z Y) h3 := zStr_kW kw2 B01 G3 (by decide) I3
  have t8 : XT l 5 122 false 99 153 6051 116 [xf 11 59, xi ch, xi k3, y3] [] h3 117 [xf 11 59, xi ch, xi k3, y3] [xf 11 59] h3 := XT_path (l := l) (fr := 5) (lo := 122) (full := false) (M := 99) (n := 153) (u := 6051) (pc := 116) (L := [xf 11 59, xi ch, xi k3, y3]) (st := []) (h := h3) (inl := []) (n' := 120) (sp := [117]) (o := []) rfl rfl ⟨rfl, rfl, rfl⟩ rfl ⟨Nat.le_of_eq G3.1.2.2.2.1, Nat.le_of_eq G3.1.2.2.2.2⟩ trivial
  have t9 := T3.tr t8
  obtain ⟨h4, c4, G4, kd4⟩ := ck_tear59_24 l Z (zStr Z Y) h3 G3.1 A (kt2.q G3 (by decide)) kw3 (zVd_str A.1 V)
  have t10 : XT l 5 122 false 99 153 6051 117 [xf 11 59, xi ch, xi k3, y3] [xf 11 59] h3 120 [xf 11 59, xi ch, xi k3, y3] [] h4 := XT_call (l := l) (fr := 5) (lo := 122) (full := false) (M := 99) (n := 153) (u := 6051) (pc := 117) (L := [xf 11 59, xi ch, xi k3, y3]) (st := [xf 11 59]) (h := h3) (i := .invokevirtual 66) (aux := 1) (nx := 120) (K := 66) (vs := [xf 11 59]) (rs := []) (rest := []) rfl rfl rfl rfl rfl rfl c4 (by decide) (by decide) (Nat.le_of_ble_eq_true rfl) ⟨Nat.le_of_eq G4.1.2.2.2.1, Nat.le_of_eq G4.1.2.2.2.2⟩
  have t11 := t9.tr t10
  have t12 : XT l 5 122 false 99 153 6051 120 [xf 11 59, xi ch, xi k3, y3] [] h4 121 [xf 11 59, xi ch, xi k3, y3] [xi ch] h4 := XT_path (l := l) (fr := 5) (lo := 122) (full := false) (M := 99) (n := 153) (u := 6051) (pc := 120) (L := [xf 11 59, xi ch, xi k3, y3]) (st := []) (h := h4) (inl := []) (n' := 120) (sp := [121]) (o := []) rfl rfl ⟨rfl, rfl, rfl⟩ rfl ⟨Nat.le_of_eq G4.1.2.2.2.1, Nat.le_of_eq G4.1.2.2.2.2⟩ trivial
  have t13 := t11.tr t12
  exact ⟨ch, h4, CX_ofT (h' := h4) (by decide) rfl rfl ⟨trivial, (zhc_z z3)⟩ ⟨_, _, _, rfl, rfl, rfl⟩ rfl ⟨Nat.le_of_eq G4.1.2.2.2.1.symm, Nat.le_of_eq G4.1.2.2.2.2.symm⟩ t13, G23.tr (G4.mono (by decide)), kw3.q G4 (by decide), kd4, fun r hr => by rw [zCr_str A.1]; exact ((ke.q G2 (by decide)).q G3 (by decide)).q G4 (by decide) r hr, z3⟩
