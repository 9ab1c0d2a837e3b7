/-! A WORLD STARTED: its state. -/
def zY0 (Z : Nat → Int) : Nat → Int32 := fun i => if i < 10 then Int32.ofInt (Z (110 + i)) else if i < 20 then Int32.ofInt (0) else if i < 30 then Int32.ofInt (Z (180 + (i - 20))) else if i < 40 then Int32.ofInt (2) else if i = 51 then Int32.ofInt (-1) else Int32.ofInt (0)
theorem zY0_r {Z : Nat → Int} {r : Nat} (h : r < 10) : zY0 Z r = Int32.ofInt (Z (110 + r)) := if_pos h
theorem zY0_y {Z : Nat → Int} {r : Nat} (h : r < 10) : zY0 Z (10 + r) = Int32.ofInt (0) := (if_neg (by omega)).trans (if_pos (by omega))
theorem zY0_h {Z : Nat → Int} {p : Nat} (h : p < 10) : zY0 Z (20 + p) = Int32.ofInt (Z (180 + p)) := (if_neg (by omega)).trans ((if_neg (by omega)).trans ((if_pos (by omega)).trans (by rw [show 20 + p - 20 = p from by omega])))
theorem zY0_c {Z : Nat → Int} {p : Nat} (h : p < 10) : zY0 Z (30 + p) = Int32.ofInt (2) := (if_neg (by omega)).trans ((if_neg (by omega)).trans ((if_neg (by omega)).trans (if_pos (by omega))))
theorem zY0_b {Z : Nat → Int} {p : Nat} (h : p < 10) : zY0 Z (40 + p) = Int32.ofInt (0) := (if_neg (by omega)).trans ((if_neg (by omega)).trans ((if_neg (by omega)).trans ((if_neg (by omega)).trans (if_neg (by omega)))))
theorem i32_oi {v : Int} (h : -100000 ≤ v ∧ v ≤ 100000) : (Int32.ofInt v).toInt = v := i32r_to (show i32r v from ⟨by omega, by omega⟩)
theorem zVd_0 {Z : Nat → Int} (A : zAll Z) : zVd Z (zY0 Z) := by
  obtain ⟨⟨⟨-, B0⟩, -, ⟨-, B2⟩, -⟩, -, -, zv, -⟩ := A
  refine ⟨fun r hr => ?_, fun p hp => ?_, fun p hp => ?_⟩
  · have z := (zv.1 r hr).1
    rw [zY0_r (by omega), i32_oi (by omega)]
    exact z
  · have z := (zv.2.2.1 p hp).1
    rw [zY0_h (by omega), i32_oi (by omega)]
    exact z
  · rw [zY0_c (by omega)]
    decide
theorem mI.setR {h : XH} (a : mI h) {c k x : Nat} (hx : x ∈ vRf c k) : mI (xsetR h c k x) := by
  have hset : ∀ c' k', xR (xsetR h c k x) c' k' = if c' = c ∧ k' = k then x else xR h c' k' := fun _ _ => rfl
  refine ⟨⟨a.1.1, fun c' k' hne => ?_⟩, trivial, trivial, a.2.2.2⟩
  rw [hset]
  by_cases hc : c' = c ∧ k' = k
  · rw [if_pos hc, hc.1, hc.2]
    exact hx
  · rw [if_neg hc]
    exact a.1.2 c' k' hne
theorem mQ.cpy {L : List Nat} {h h' : XH} (a : mQ L h h') {e f : Nat} {q : SI} {s d n : Nat} (we : vWr e = true) (re : vRow e = q) (wf : vWr f = true) (rf_ : vRow f = q) (hl : e ∈ L) : mQ L h (xrowI h' e (va_cpy (xI h' f) (xI h' e) s d n)) := by
  refine ⟨⟨sinv_row a.1.1 (fun k => ?_), trivial, trivial, a.1.2.2.2⟩, fun c k z => (yI_row (eq_false (fun y => z (by rw [y]; exact hl)))).trans (a.2.1 c k z), a.2.2⟩
  rw [vI_u we re]
  rcases va_cpy_cases (f := xI h' f) (g := xI h' e) (s := s) (d := d) (k := n) (i := k) with ⟨j, z⟩ | z
  · rw [z]
    have := vbnd a.1.1 f j
    rw [vI_u wf rf_] at this
    exact this
  · rw [z]
    have := vbnd a.1.1 e k
    rw [vI_u we re] at this
    exact this
set_option maxRecDepth 100000 in
set_option maxHeartbeats 4000000 in
theorem cm_fill50L (l : Launch) (h : XH) : ∀ (m : Nat) (k : Int32) (h' : XH), mQ [50] h h' → 0 ≤ k.toInt → k.toInt + m = 6 → (∀ r : Nat, (r : Int) < k.toInt → xI h' 50 r = (Int32.ofInt (0))) → ∃ k' h'', XT l 0 0 false 5 153 6051 5 [xf 10006 50, xi (Int32.ofInt (0)), xi k, xi (Int32.ofNat (10006 - 10000))] [] h' 20 [xf 10006 50, xi (Int32.ofInt (0)), xi k', xi (Int32.ofNat (10006 - 10000))] [] h'' ∧ mQ [50] h h'' ∧ (∀ r : Nat, r < 6 → xI h'' 50 r = (Int32.ofInt (0)))
  | 0, k, h', G, a1, a2, hz => by
    have e6 : (Int32.ofNat (10006 - 10000)).toInt = 6 := by decide
    have t1 : XT l 0 0 false 5 153 6051 5 [xf 10006 50, xi (Int32.ofInt (0)), xi k, xi (Int32.ofNat (10006 - 10000))] [] h' 20 [xf 10006 50, xi (Int32.ofInt (0)), xi k, xi (Int32.ofNat (10006 - 10000))] [] h' := XT_path (l := l) (fr := 0) (lo := 0) (full := false) (M := 5) (n := 153) (u := 6051) (pc := 5) (L := [xf 10006 50, xi (Int32.ofInt (0)), xi k, xi (Int32.ofNat (10006 - 10000))]) (st := []) (h := h') (inl := []) (n' := 80) (sp := [20]) (o := [1]) rfl rfl ⟨rfl, rfl, rfl⟩ rfl ⟨Nat.le_of_eq G.1.2.2.2.1, Nat.le_of_eq G.1.2.2.2.2⟩ ⟨trivial, (Int32.le_iff_toInt_le.mpr (by omega))⟩
    exact ⟨k, h', t1, G, fun r hr => hz r (by omega)⟩
  | m + 1, k, h', G, a1, a2, hz => by
    have e6 : (Int32.ofNat (10006 - 10000)).toInt = 6 := by decide
    have t2 : XT l 0 0 false 5 153 6051 5 [xf 10006 50, xi (Int32.ofInt (0)), xi k, xi (Int32.ofNat (10006 - 10000))] [] h' 5 [xf 10006 50, xi (Int32.ofInt (0)), xi (k + Int32.ofInt (1)), xi (Int32.ofNat (10006 - 10000))] [] (xsetI h' 50 (k).toNatClampNeg (Int32.ofInt (0))) := XT_path (l := l) (fr := 0) (lo := 0) (full := false) (M := 5) (n := 153) (u := 6051) (pc := 5) (L := [xf 10006 50, xi (Int32.ofInt (0)), xi k, xi (Int32.ofNat (10006 - 10000))]) (st := []) (h := h') (inl := []) (n' := 80) (sp := [5]) (o := [0]) rfl rfl ⟨rfl, rfl, rfl⟩ rfl ⟨Nat.le_of_eq G.1.2.2.2.1, Nat.le_of_eq G.1.2.2.2.2⟩ ⟨⟨trivial, (fun z => absurd (Int32.le_iff_toInt_le.mp z) (by omega))⟩, (vp_of (n := 6) (by omega) (by omega))⟩
    have ek : (k + Int32.ofInt (1)).toInt = k.toInt + 1 := y_suc1 (by omega) (by omega)
    have nk : k.toNatClampNeg = k.toInt.toNat := rfl
    obtain ⟨k', h2, z1, z2, z3⟩ := cm_fill50L l h m (k + Int32.ofInt (1)) (xsetI h' 50 (k).toNatClampNeg (Int32.ofInt (0))) (G.set (by decide) (by rw [vI_u rfl (rfl : vRow 50 = sfull)]; exact i32r_of _)) (by omega) (by omega) (fun r hr => by
      by_cases e : r = k.toNatClampNeg
      · rw [e]; exact yI_same
      · rw [yI_ne (eq_false (fun z => e z.2))]; exact hz r (by omega))
    exact ⟨k', h2, t2.tr z1, z2, z3⟩
set_option maxRecDepth 100000 in
set_option maxHeartbeats 4000000 in
theorem cm_fill50 (l : Launch) (h : XH) (hg : mI h) : ∃ h', CX l 0 0 false 5 [xf 10006 50, xi (Int32.ofInt (0))] h [] h' ∧ mQ [50] h h' ∧ (∀ r : Nat, r < 6 → xI h' 50 r = (Int32.ofInt (0))) := by
  have t3 : XT l 0 0 false 5 153 6051 0 [xf 10006 50, xi (Int32.ofInt (0)), xun, xun] [] h 5 [xf 10006 50, xi (Int32.ofInt (0)), xi (Int32.ofInt (0)), xi (Int32.ofNat (10006 - 10000))] [] h := XT_path (l := l) (fr := 0) (lo := 0) (full := false) (M := 5) (n := 153) (u := 6051) (pc := 0) (L := [xf 10006 50, xi (Int32.ofInt (0)), xun, xun]) (st := []) (h := h) (inl := []) (n' := 80) (sp := [5]) (o := []) rfl rfl ⟨rfl, rfl, rfl⟩ rfl ⟨Nat.le_of_eq hg.2.2.2.1, Nat.le_of_eq hg.2.2.2.2⟩ trivial
  obtain ⟨k', h2, z1, z2, z3⟩ := cm_fill50L l h 6 (Int32.ofInt (0)) h (mQ.rf hg) (by decide) (by decide) (fun r hr => absurd hr (by rw [show (Int32.ofInt (0)).toInt = 0 from rfl]; omega))
  exact ⟨h2, CX_ofT (h' := h2) (by decide) rfl rfl trivial ⟨_, _, _, rfl, rfl, rfl⟩ rfl ⟨Nat.le_of_eq z2.1.2.2.2.1.symm, Nat.le_of_eq z2.1.2.2.2.2.symm⟩ (t3.tr z1), z2, z3⟩
set_option maxRecDepth 100000 in
set_option maxHeartbeats 4000000 in
theorem cm_fill54L (l : Launch) (h : XH) : ∀ (m : Nat) (k : Int32) (h' : XH), mQ [54] h h' → 0 ≤ k.toInt → k.toInt + m = 8 → (∀ r : Nat, (r : Int) < k.toInt → xI h' 54 r = (Int32.ofInt (0))) → ∃ k' h'', XT l 0 0 false 5 153 6051 5 [xf 10008 54, xi (Int32.ofInt (0)), xi k, xi (Int32.ofNat (10008 - 10000))] [] h' 20 [xf 10008 54, xi (Int32.ofInt (0)), xi k', xi (Int32.ofNat (10008 - 10000))] [] h'' ∧ mQ [54] h h'' ∧ (∀ r : Nat, r < 8 → xI h'' 54 r = (Int32.ofInt (0)))
  | 0, k, h', G, a1, a2, hz => by
    have e6 : (Int32.ofNat (10008 - 10000)).toInt = 8 := by decide
    have t1 : XT l 0 0 false 5 153 6051 5 [xf 10008 54, xi (Int32.ofInt (0)), xi k, xi (Int32.ofNat (10008 - 10000))] [] h' 20 [xf 10008 54, xi (Int32.ofInt (0)), xi k, xi (Int32.ofNat (10008 - 10000))] [] h' := XT_path (l := l) (fr := 0) (lo := 0) (full := false) (M := 5) (n := 153) (u := 6051) (pc := 5) (L := [xf 10008 54, xi (Int32.ofInt (0)), xi k, xi (Int32.ofNat (10008 - 10000))]) (st := []) (h := h') (inl := []) (n' := 80) (sp := [20]) (o := [1]) rfl rfl ⟨rfl, rfl, rfl⟩ rfl ⟨Nat.le_of_eq G.1.2.2.2.1, Nat.le_of_eq G.1.2.2.2.2⟩ ⟨trivial, (Int32.le_iff_toInt_le.mpr (by omega))⟩
    exact ⟨k, h', t1, G, fun r hr => hz r (by omega)⟩
  | m + 1, k, h', G, a1, a2, hz => by
    have e6 : (Int32.ofNat (10008 - 10000)).toInt = 8 := by decide
    have t2 : XT l 0 0 false 5 153 6051 5 [xf 10008 54, xi (Int32.ofInt (0)), xi k, xi (Int32.ofNat (10008 - 10000))] [] h' 5 [xf 10008 54, xi (Int32.ofInt (0)), xi (k + Int32.ofInt (1)), xi (Int32.ofNat (10008 - 10000))] [] (xsetI h' 54 (k).toNatClampNeg (Int32.ofInt (0))) := XT_path (l := l) (fr := 0) (lo := 0) (full := false) (M := 5) (n := 153) (u := 6051) (pc := 5) (L := [xf 10008 54, xi (Int32.ofInt (0)), xi k, xi (Int32.ofNat (10008 - 10000))]) (st := []) (h := h') (inl := []) (n' := 80) (sp := [5]) (o := [0]) rfl rfl ⟨rfl, rfl, rfl⟩ rfl ⟨Nat.le_of_eq G.1.2.2.2.1, Nat.le_of_eq G.1.2.2.2.2⟩ ⟨⟨trivial, (fun z => absurd (Int32.le_iff_toInt_le.mp z) (by omega))⟩, (vp_of (n := 8) (by omega) (by omega))⟩
    have ek : (k + Int32.ofInt (1)).toInt = k.toInt + 1 := y_suc1 (by omega) (by omega)
    have nk : k.toNatClampNeg = k.toInt.toNat := rfl
    obtain ⟨k', h2, z1, z2, z3⟩ := cm_fill54L l h m (k + Int32.ofInt (1)) (xsetI h' 54 (k).toNatClampNeg (Int32.ofInt (0))) (G.set (by decide) (by rw [vI_u rfl (rfl : vRow 54 = sfull)]; exact i32r_of _)) (by omega) (by omega) (fun r hr => by
      by_cases e : r = k.toNatClampNeg
      · rw [e]; exact yI_same
      · rw [yI_ne (eq_false (fun z => e z.2))]; exact hz r (by omega))
    exact ⟨k', h2, t2.tr z1, z2, z3⟩
set_option maxRecDepth 100000 in
set_option maxHeartbeats 4000000 in
theorem cm_fill54 (l : Launch) (h : XH) (hg : mI h) : ∃ h', CX l 0 0 false 5 [xf 10008 54, xi (Int32.ofInt (0))] h [] h' ∧ mQ [54] h h' ∧ (∀ r : Nat, r < 8 → xI h' 54 r = (Int32.ofInt (0))) := by
  have t3 : XT l 0 0 false 5 153 6051 0 [xf 10008 54, xi (Int32.ofInt (0)), xun, xun] [] h 5 [xf 10008 54, xi (Int32.ofInt (0)), xi (Int32.ofInt (0)), xi (Int32.ofNat (10008 - 10000))] [] h := XT_path (l := l) (fr := 0) (lo := 0) (full := false) (M := 5) (n := 153) (u := 6051) (pc := 0) (L := [xf 10008 54, xi (Int32.ofInt (0)), xun, xun]) (st := []) (h := h) (inl := []) (n' := 80) (sp := [5]) (o := []) rfl rfl ⟨rfl, rfl, rfl⟩ rfl ⟨Nat.le_of_eq hg.2.2.2.1, Nat.le_of_eq hg.2.2.2.2⟩ trivial
  obtain ⟨k', h2, z1, z2, z3⟩ := cm_fill54L l h 8 (Int32.ofInt (0)) h (mQ.rf hg) (by decide) (by decide) (fun r hr => absurd hr (by rw [show (Int32.ofInt (0)).toInt = 0 from rfl]; omega))
  exact ⟨h2, CX_ofT (h' := h2) (by decide) rfl rfl trivial ⟨_, _, _, rfl, rfl, rfl⟩ rfl ⟨Nat.le_of_eq z2.1.2.2.2.1.symm, Nat.le_of_eq z2.1.2.2.2.2.symm⟩ (t3.tr z1), z2, z3⟩
set_option maxRecDepth 100000 in
set_option maxHeartbeats 4000000 in
theorem cm_fill56L (l : Launch) (h : XH) : ∀ (m : Nat) (k : Int32) (h' : XH), mQ [56] h h' → 0 ≤ k.toInt → k.toInt + m = 6 → (∀ r : Nat, (r : Int) < k.toInt → xI h' 56 r = (Int32.ofInt (0))) → ∃ k' h'', XT l 0 0 false 5 153 6051 5 [xf 10006 56, xi (Int32.ofInt (0)), xi k, xi (Int32.ofNat (10006 - 10000))] [] h' 20 [xf 10006 56, xi (Int32.ofInt (0)), xi k', xi (Int32.ofNat (10006 - 10000))] [] h'' ∧ mQ [56] h h'' ∧ (∀ r : Nat, r < 6 → xI h'' 56 r = (Int32.ofInt (0)))
  | 0, k, h', G, a1, a2, hz => by
    have e6 : (Int32.ofNat (10006 - 10000)).toInt = 6 := by decide
    have t1 : XT l 0 0 false 5 153 6051 5 [xf 10006 56, xi (Int32.ofInt (0)), xi k, xi (Int32.ofNat (10006 - 10000))] [] h' 20 [xf 10006 56, xi (Int32.ofInt (0)), xi k, xi (Int32.ofNat (10006 - 10000))] [] h' := XT_path (l := l) (fr := 0) (lo := 0) (full := false) (M := 5) (n := 153) (u := 6051) (pc := 5) (L := [xf 10006 56, xi (Int32.ofInt (0)), xi k, xi (Int32.ofNat (10006 - 10000))]) (st := []) (h := h') (inl := []) (n' := 80) (sp := [20]) (o := [1]) rfl rfl ⟨rfl, rfl, rfl⟩ rfl ⟨Nat.le_of_eq G.1.2.2.2.1, Nat.le_of_eq G.1.2.2.2.2⟩ ⟨trivial, (Int32.le_iff_toInt_le.mpr (by omega))⟩
    exact ⟨k, h', t1, G, fun r hr => hz r (by omega)⟩
  | m + 1, k, h', G, a1, a2, hz => by
    have e6 : (Int32.ofNat (10006 - 10000)).toInt = 6 := by decide
    have t2 : XT l 0 0 false 5 153 6051 5 [xf 10006 56, xi (Int32.ofInt (0)), xi k, xi (Int32.ofNat (10006 - 10000))] [] h' 5 [xf 10006 56, xi (Int32.ofInt (0)), xi (k + Int32.ofInt (1)), xi (Int32.ofNat (10006 - 10000))] [] (xsetI h' 56 (k).toNatClampNeg (Int32.ofInt (0))) := XT_path (l := l) (fr := 0) (lo := 0) (full := false) (M := 5) (n := 153) (u := 6051) (pc := 5) (L := [xf 10006 56, xi (Int32.ofInt (0)), xi k, xi (Int32.ofNat (10006 - 10000))]) (st := []) (h := h') (inl := []) (n' := 80) (sp := [5]) (o := [0]) rfl rfl ⟨rfl, rfl, rfl⟩ rfl ⟨Nat.le_of_eq G.1.2.2.2.1, Nat.le_of_eq G.1.2.2.2.2⟩ ⟨⟨trivial, (fun z => absurd (Int32.le_iff_toInt_le.mp z) (by omega))⟩, (vp_of (n := 6) (by omega) (by omega))⟩
    have ek : (k + Int32.ofInt (1)).toInt = k.toInt + 1 := y_suc1 (by omega) (by omega)
    have nk : k.toNatClampNeg = k.toInt.toNat := rfl
    obtain ⟨k', h2, z1, z2, z3⟩ := cm_fill56L l h m (k + Int32.ofInt (1)) (xsetI h' 56 (k).toNatClampNeg (Int32.ofInt (0))) (G.set (by decide) (by rw [vI_u rfl (rfl : vRow 56 = sfull)]; exact i32r_of _)) (by omega) (by omega) (fun r hr => by
      by_cases e : r = k.toNatClampNeg
      · rw [e]; exact yI_same
      · rw [yI_ne (eq_false (fun z => e z.2))]; exact hz r (by omega))
    exact ⟨k', h2, t2.tr z1, z2, z3⟩
set_option maxRecDepth 100000 in
set_option maxHeartbeats 4000000 in
theorem cm_fill56 (l : Launch) (h : XH) (hg : mI h) : ∃ h', CX l 0 0 false 5 [xf 10006 56, xi (Int32.ofInt (0))] h [] h' ∧ mQ [56] h h' ∧ (∀ r : Nat, r < 6 → xI h' 56 r = (Int32.ofInt (0))) := by
  have t3 : XT l 0 0 false 5 153 6051 0 [xf 10006 56, xi (Int32.ofInt (0)), xun, xun] [] h 5 [xf 10006 56, xi (Int32.ofInt (0)), xi (Int32.ofInt (0)), xi (Int32.ofNat (10006 - 10000))] [] h := XT_path (l := l) (fr := 0) (lo := 0) (full := false) (M := 5) (n := 153) (u := 6051) (pc := 0) (L := [xf 10006 56, xi (Int32.ofInt (0)), xun, xun]) (st := []) (h := h) (inl := []) (n' := 80) (sp := [5]) (o := []) rfl rfl ⟨rfl, rfl, rfl⟩ rfl ⟨Nat.le_of_eq hg.2.2.2.1, Nat.le_of_eq hg.2.2.2.2⟩ trivial
  obtain ⟨k', h2, z1, z2, z3⟩ := cm_fill56L l h 6 (Int32.ofInt (0)) h (mQ.rf hg) (by decide) (by decide) (fun r hr => absurd hr (by rw [show (Int32.ofInt (0)).toInt = 0 from rfl]; omega))
  exact ⟨h2, CX_ofT (h' := h2) (by decide) rfl rfl trivial ⟨_, _, _, rfl, rfl, rfl⟩ rfl ⟨Nat.le_of_eq z2.1.2.2.2.1.symm, Nat.le_of_eq z2.1.2.2.2.2.symm⟩ (t3.tr z1), z2, z3⟩
set_option maxRecDepth 100000 in
set_option maxHeartbeats 4000000 in
theorem ck_whoS3 (l : Launch) (Z : Nat → Int) (h : XH) (hg : mI h) (A : zAll Z) (ec : (xI h 3 9).toInt = Z 2) (eh : ∀ k : Nat, (k : Int) < Z 2 → xI h 52 k = zY0 Z (20 + k)) : ∀ (m k : Nat) (kk : Int32) (h1 : XH), mQ [56] h h1 → kk.toInt = k → (k : Int) + m = Z 2 → (∀ r : Nat, (r : Int) < Z 0 → xI h1 56 r = zsum (fun p => if (zY0 Z (20 + p)).toInt = r then Int32.ofInt (1) else Int32.ofInt (0)) k) → ∃ k2 h2, XT l 2 47 false 65 153 6051 69 [xf 11 48, xf 8 3, xi kk] [] h1 98 [xf 11 48, xf 8 3, xi k2] [] h2 ∧ mQ [56] h h2 ∧ (∀ r : Nat, (r : Int) < Z 0 → xI h2 56 r = zCr Z (zY0 Z) r)
  | 0, k, kk, h1, G, hk, hm, I1 => by
    obtain ⟨⟨⟨B00, B01⟩, ⟨B10, B11⟩, ⟨B20, B21⟩, B30, B31⟩, g6, zj, zv, LW⟩ := id A
    have hg1 := G.1
    have ej : (xI h1 3 9).toInt = Z 2 := by rw [G.2.1 3 9 (by decide)]; exact ec
    have t1 : XT l 2 47 false 65 153 6051 69 [xf 11 48, xf 8 3, xi kk] [] h1 98 [xf 11 48, xf 8 3, xi kk] [] h1 := XT_path (l := l) (fr := 2) (lo := 47) (full := false) (M := 65) (n := 153) (u := 6051) (pc := 69) (L := [xf 11 48, xf 8 3, xi kk]) (st := []) (h := h1) (inl := []) (n' := 80) (sp := [98]) (o := [1]) rfl rfl ⟨rfl, rfl, rfl⟩ rfl ⟨Nat.le_of_eq hg1.2.2.2.1, Nat.le_of_eq hg1.2.2.2.2⟩ ⟨trivial, (show (xI h1 3 9) ≤ kk from Int32.le_iff_toInt_le.mpr (by omega))⟩
    obtain rfl : k = (Z 2).toNat := by omega
    exact ⟨kk, h1, t1, G, I1⟩
  | m + 1, k, kk, h1, G, hk, hm, I1 => by
    obtain ⟨⟨⟨B00, B01⟩, ⟨B10, B11⟩, ⟨B20, B21⟩, B30, B31⟩, g6, zj, zv, LW⟩ := id A
    have hg1 := G.1
    have ej : (xI h1 3 9).toInt = Z 2 := by rw [G.2.1 3 9 (by decide)]; exact ec
    have lk : (k : Int) < Z 2 := by omega
    have nk : kk.toNatClampNeg = k := zi_ix hk
    have sk := y_suc1 (k := kk) (by omega) (by omega)
    have V := zVd_0 A
    have bh := V.2.1 k lk
    obtain ⟨H, hH⟩ : ∃ H : Nat, (zY0 Z (20 + k)).toInt = H := ⟨(zY0 Z (20 + k)).toInt.toNat, by omega⟩
    have e1 := congrArg Int32.toInt (show xI h1 52 kk.toNatClampNeg = zY0 Z (20 + k) from by rw [nk, G.2.1 52 k (by decide)]; exact eh k lk)
    have nh : (xI h1 52 kk.toNatClampNeg).toNatClampNeg = H := zi_ix (by omega)
    have t1 : XT l 2 47 false 65 153 6051 69 [xf 11 48, xf 8 3, xi kk] [] h1 69 [xf 11 48, xf 8 3, xi (kk + Int32.ofInt (1))] [] (xsetI h1 (xR h1 48 9) ((xI h1 (xR h1 48 4) (kk).toNatClampNeg)).toNatClampNeg ((xI h1 (xR h1 48 9) ((xI h1 (xR h1 48 4) (kk).toNatClampNeg)).toNatClampNeg) + (Int32.ofInt (1)))) := XT_path (l := l) (fr := 2) (lo := 47) (full := false) (M := 65) (n := 153) (u := 6051) (pc := 69) (L := [xf 11 48, xf 8 3, xi kk]) (st := []) (h := h1) (inl := []) (n' := 80) (sp := [69]) (o := [0]) rfl rfl ⟨rfl, rfl, rfl⟩ rfl ⟨Nat.le_of_eq hg1.2.2.2.1, Nat.le_of_eq hg1.2.2.2.2⟩ ⟨⟨⟨⟨⟨⟨trivial, (show ¬ (xI h1 3 9) ≤ kk from fun z => absurd (Int32.le_iff_toInt_le.mp z) (by omega))⟩, (vnn hg1.1 (rfl : vRf 48 9 = [56]) (by decide))⟩, (vnn hg1.1 (rfl : vRf 48 4 = [52]) (by decide))⟩, (vp_of (i := kk) (n := 8) (by omega) (by omega))⟩, (show vp_in ((xI h1 (xR h1 48 4) (kk).toNatClampNeg)) (6) from (by rw [vref hg1.1 (rfl : vRf 48 4 = [52])]; exact (vp_of (i := (xI h1 52 (kk).toNatClampNeg)) (n := 6) (by omega) (by omega) : vp_in ((xI h1 52 (kk).toNatClampNeg)) (6))))⟩, (show vp_in ((xI h1 (xR h1 48 4) (kk).toNatClampNeg)) (6) from (by rw [vref hg1.1 (rfl : vRf 48 4 = [52])]; exact (vp_of (i := (xI h1 52 (kk).toNatClampNeg)) (n := 6) (by omega) (by omega) : vp_in ((xI h1 52 (kk).toNatClampNeg)) (6))))⟩
    rw [vref hg1.1 (rfl : vRf 48 9 = [56]), vref hg1.1 (rfl : vRf 48 4 = [52])] at t1
    obtain ⟨hE, eE⟩ : ∃ x, x = (xsetI h1 56 ((xI h1 52 (kk).toNatClampNeg)).toNatClampNeg ((xI h1 56 ((xI h1 52 (kk).toNatClampNeg)).toNatClampNeg) + (Int32.ofInt (1)))) := ⟨_, rfl⟩
    have eE2 : hE = xsetI h1 56 H (xI h1 56 H + (Int32.ofInt (1))) := by rw [eE]; simp only [nh]
    rw [← eE] at t1
    have GE : mQ [56] h hE := by rw [eE2]; exact G.set (by decide) (by rw [vI_u rfl (rfl : vRow 56 = sfull)]; exact i32r_of _)
    have J : ∀ r : Nat, (r : Int) < Z 0 → xI hE 56 r = zsum (fun p => if (zY0 Z (20 + p)).toInt = r then Int32.ofInt (1) else Int32.ofInt (0)) (k + 1) := by
      intro r hr
      by_cases e : r = H
      · rw [e, eE2, yI_same]
        rw [e] at hr
        exact zsum_n (I1 H hr) (if_pos hH)
      · rw [eE2, yI_ne (eq_false (fun z => e z.2))]
        exact zsum_m (I1 r hr) (if_neg (by omega))
    obtain ⟨k3, h9, t9, G9, I9⟩ := ck_whoS3 l Z h hg A ec eh m (k + 1) (kk + Int32.ofInt (1)) hE GE (by omega) (by omega) J
    exact ⟨k3, h9, t1.tr t9, G9, I9⟩
set_option maxRecDepth 100000 in
set_option maxHeartbeats 4000000 in
theorem ck_startS3 (l : Launch) (Z : Nat → Int) (h : XH) (hg : mI h) (A : zAll Z) (kt : kTx 3 Z h) : ∃ h', CX l 2 47 false 65 [xf 11 48, xf 8 3] h [] h' ∧ mI h' ∧ (∀ e k, ¬ e ∈ [48, 49, 50, 51, 52, 53, 54, 55, 56] → xI h' e k = xI h e k) ∧ kW 48 3 Z (zY0 Z) h' ∧ kD 48 Z (zY0 Z) h' ∧ kE 48 Z (zY0 Z) h' ∧ kY 48 Z (zY0 Z) h' := by
  obtain ⟨⟨⟨B00, B01⟩, ⟨B10, B11⟩, ⟨B20, B21⟩, B30, B31⟩, g6, zj, zv, LW⟩ := id A
  have tB : XT l 2 47 false 65 153 6051 0 [xf 11 48, xf 8 3, xun] [] h 5 [xf 11 48, xf 8 3, xun] [] (xsetR h 48 0 3) := XT_path (l := l) (fr := 2) (lo := 47) (full := false) (M := 65) (n := 153) (u := 6051) (pc := 0) (L := [xf 11 48, xf 8 3, xun]) (st := []) (h := h) (inl := []) (n' := 80) (sp := [5]) (o := []) rfl rfl ⟨rfl, rfl, rfl⟩ rfl ⟨Nat.le_of_eq hg.2.2.2.1, Nat.le_of_eq hg.2.2.2.2⟩ trivial
  have g0 : mI (xsetR h 48 0 3) := hg.setR (c := 48) (k := 0) (x := 3) (by decide)
  obtain ⟨k0, ek0⟩ : ∃ x, x = xsetR h 48 0 3 := ⟨_, rfl⟩
  have q0 : xR k0 48 0 = 3 := by rw [ek0]; exact yR_same
  have o0 : ∀ c k, xI k0 c k = xI h c k := fun c k => by rw [ek0]; rfl
  rw [← ek0] at tB g0
  have G0 : mQ [48, 49, 50, 51, 52, 53, 54, 55, 56] k0 k0 := mQ.rf g0
  have kt0 : kTx 3 Z k0 := kt.fr (fun i k _ _ => o0 i k)
  have t1 : XT l 2 47 false 65 153 6051 5 [xf 11 48, xf 8 3, xun] [] k0 20 [xf 11 48, xf 8 3, xun] [] (xrowI k0 (xR k0 48 1) (va_cpy (xI k0 (xR k0 3 2)) (xI k0 (xR k0 48 1)) ((Int32.ofInt (0))).toNatClampNeg ((Int32.ofInt (0))).toNatClampNeg ((Int32.ofInt (6))).toNatClampNeg)) := XT_path (l := l) (fr := 2) (lo := 47) (full := false) (M := 65) (n := 153) (u := 6051) (pc := 5) (L := [xf 11 48, xf 8 3, xun]) (st := []) (h := k0) (inl := []) (n' := 120) (sp := [20]) (o := []) rfl rfl ⟨rfl, rfl, rfl⟩ rfl ⟨Nat.le_of_eq g0.2.2.2.1, Nat.le_of_eq g0.2.2.2.2⟩ ⟨⟨⟨trivial, (vnn g0.1 (rfl : vRf 3 2 = [5]) (by decide))⟩, (vnn g0.1 (rfl : vRf 48 1 = [49]) (by decide))⟩, ⟨⟨by decide, by decide, by decide⟩, by decide, by decide⟩⟩
  rw [vref g0.1 (rfl : vRf 48 1 = [49]), vref g0.1 (rfl : vRf 3 2 = [5])] at t1
  have t2 := tB.tr t1
  have G10 : mQ [48, 49, 50, 51, 52, 53, 54, 55, 56] k0 (xrowI k0 49 (va_cpy (xI k0 5) (xI k0 49) ((Int32.ofInt (0))).toNatClampNeg ((Int32.ofInt (0))).toNatClampNeg ((Int32.ofInt (6))).toNatClampNeg)) := G0.cpy (e := 49) (f := 5) (q := (0, 9)) rfl rfl rfl rfl (by decide)
  have w10 : ∀ k, k < 6 → xI (xrowI k0 49 (va_cpy (xI k0 5) (xI k0 49) ((Int32.ofInt (0))).toNatClampNeg ((Int32.ofInt (0))).toNatClampNeg ((Int32.ofInt (6))).toNatClampNeg)) 49 k = xI k0 5 k := fun k hk => yI_rowS.trans (cpy_at hk)
  obtain ⟨k1, ek1⟩ : ∃ x, x = (xrowI k0 49 (va_cpy (xI k0 5) (xI k0 49) ((Int32.ofInt (0))).toNatClampNeg ((Int32.ofInt (0))).toNatClampNeg ((Int32.ofInt (6))).toNatClampNeg)) := ⟨_, rfl⟩
  have o1 : ∀ c k, ¬ c = 49 → xI k1 c k = xI k0 c k := fun c k z => by rw [ek1]; exact yI_row (eq_false z)
  rw [← ek1] at t2 G10 w10
  have G1 := G10
  have w1 := w10
  have t3 : XT l 2 47 false 65 153 6051 20 [xf 11 48, xf 8 3, xun] [] k1 35 [xf 11 48, xf 8 3, xun] [] (xrowI k1 (xR k1 48 4) (va_cpy (xI k1 (xR k1 3 11)) (xI k1 (xR k1 48 4)) ((Int32.ofInt (0))).toNatClampNeg ((Int32.ofInt (0))).toNatClampNeg ((Int32.ofInt (8))).toNatClampNeg)) := XT_path (l := l) (fr := 2) (lo := 47) (full := false) (M := 65) (n := 153) (u := 6051) (pc := 20) (L := [xf 11 48, xf 8 3, xun]) (st := []) (h := k1) (inl := []) (n' := 120) (sp := [35]) (o := []) rfl rfl ⟨rfl, rfl, rfl⟩ rfl ⟨Nat.le_of_eq G1.1.2.2.2.1, Nat.le_of_eq G1.1.2.2.2.2⟩ ⟨⟨⟨trivial, (vnn G1.1.1 (rfl : vRf 3 11 = [12]) (by decide))⟩, (vnn G1.1.1 (rfl : vRf 48 4 = [52]) (by decide))⟩, ⟨⟨by decide, by decide, by decide⟩, by decide, by decide⟩⟩
  rw [vref G1.1.1 (rfl : vRf 48 4 = [52]), vref G1.1.1 (rfl : vRf 3 11 = [12])] at t3
  have t4 := t2.tr t3
  have G20 : mQ [48, 49, 50, 51, 52, 53, 54, 55, 56] k0 (xrowI k1 52 (va_cpy (xI k1 12) (xI k1 52) ((Int32.ofInt (0))).toNatClampNeg ((Int32.ofInt (0))).toNatClampNeg ((Int32.ofInt (8))).toNatClampNeg)) := G1.cpy (e := 52) (f := 12) (q := (0, 5)) rfl rfl rfl rfl (by decide)
  have w20 : ∀ k, k < 8 → xI (xrowI k1 52 (va_cpy (xI k1 12) (xI k1 52) ((Int32.ofInt (0))).toNatClampNeg ((Int32.ofInt (0))).toNatClampNeg ((Int32.ofInt (8))).toNatClampNeg)) 52 k = xI k1 12 k := fun k hk => yI_rowS.trans (cpy_at hk)
  obtain ⟨k2, ek2⟩ : ∃ x, x = (xrowI k1 52 (va_cpy (xI k1 12) (xI k1 52) ((Int32.ofInt (0))).toNatClampNeg ((Int32.ofInt (0))).toNatClampNeg ((Int32.ofInt (8))).toNatClampNeg)) := ⟨_, rfl⟩
  have o2 : ∀ c k, ¬ c = 52 → xI k2 c k = xI k1 c k := fun c k z => by rw [ek2]; exact yI_row (eq_false z)
  rw [← ek2] at t4 G20 w20
  have G2 := G20
  have w2 := w20
  have t5 : XT l 2 47 false 65 153 6051 35 [xf 11 48, xf 8 3, xun] [] k2 40 [xf 11 48, xf 8 3, xun] [xi (Int32.ofInt (0)), xf 10006 (xR k2 48 2)] k2 := XT_path (l := l) (fr := 2) (lo := 47) (full := false) (M := 65) (n := 153) (u := 6051) (pc := 35) (L := [xf 11 48, xf 8 3, xun]) (st := []) (h := k2) (inl := []) (n' := 120) (sp := [40]) (o := []) rfl rfl ⟨rfl, rfl, rfl⟩ rfl ⟨Nat.le_of_eq G2.1.2.2.2.1, Nat.le_of_eq G2.1.2.2.2.2⟩ ⟨trivial, (vnn G2.1.1 (rfl : vRf 48 2 = [50]) (by decide))⟩
  rw [vref G2.1.1 (rfl : vRf 48 2 = [50])] at t5
  have t6 := t4.tr t5
  obtain ⟨k3, c3, g3, w3⟩ := cm_fill50 l k2 G2.1
  have G3 : mQ [48, 49, 50, 51, 52, 53, 54, 55, 56] k0 k3 := G2.tr (g3.mono (by decide))
  have o3 : ∀ c k, ¬ c = 50 → xI k3 c k = xI k2 c k := fun c k z => g3.2.1 c k (fun y => z (List.mem_singleton.mp y))
  have t7 : XT l 2 47 false 65 153 6051 40 [xf 11 48, xf 8 3, xun] [xi (Int32.ofInt (0)), xf 10006 50] k2 43 [xf 11 48, xf 8 3, xun] [] k3 := XT_call (l := l) (fr := 2) (lo := 47) (full := false) (M := 65) (n := 153) (u := 6051) (pc := 40) (L := [xf 11 48, xf 8 3, xun]) (st := [xi (Int32.ofInt (0)), xf 10006 50]) (h := k2) (i := .invokestatic 5) (aux := 2) (nx := 43) (K := 5) (vs := [xf 10006 50, xi (Int32.ofInt (0))]) (rs := []) (rest := []) rfl rfl rfl rfl rfl rfl c3 (by decide) (by decide) (Nat.le_of_ble_eq_true rfl) ⟨Nat.le_of_eq G3.1.2.2.2.1, Nat.le_of_eq G3.1.2.2.2.2⟩
  have t8 := t6.tr t7
  have t9 : XT l 2 47 false 65 153 6051 43 [xf 11 48, xf 8 3, xun] [] k3 48 [xf 11 48, xf 8 3, xun] [xi (Int32.ofInt (0)), xf 10008 (xR k3 48 6)] k3 := XT_path (l := l) (fr := 2) (lo := 47) (full := false) (M := 65) (n := 153) (u := 6051) (pc := 43) (L := [xf 11 48, xf 8 3, xun]) (st := []) (h := k3) (inl := []) (n' := 120) (sp := [48]) (o := []) rfl rfl ⟨rfl, rfl, rfl⟩ rfl ⟨Nat.le_of_eq G3.1.2.2.2.1, Nat.le_of_eq G3.1.2.2.2.2⟩ ⟨trivial, (vnn G3.1.1 (rfl : vRf 48 6 = [54]) (by decide))⟩
  rw [vref G3.1.1 (rfl : vRf 48 6 = [54])] at t9
  have t10 := t8.tr t9
  obtain ⟨k4, c4, g4, w4⟩ := cm_fill54 l k3 G3.1
  have G4 : mQ [48, 49, 50, 51, 52, 53, 54, 55, 56] k0 k4 := G3.tr (g4.mono (by decide))
  have o4 : ∀ c k, ¬ c = 54 → xI k4 c k = xI k3 c k := fun c k z => g4.2.1 c k (fun y => z (List.mem_singleton.mp y))
  have t11 : XT l 2 47 false 65 153 6051 48 [xf 11 48, xf 8 3, xun] [xi (Int32.ofInt (0)), xf 10008 54] k3 51 [xf 11 48, xf 8 3, xun] [] k4 := XT_call (l := l) (fr := 2) (lo := 47) (full := false) (M := 65) (n := 153) (u := 6051) (pc := 48) (L := [xf 11 48, xf 8 3, xun]) (st := [xi (Int32.ofInt (0)), xf 10008 54]) (h := k3) (i := .invokestatic 5) (aux := 2) (nx := 51) (K := 5) (vs := [xf 10008 54, xi (Int32.ofInt (0))]) (rs := []) (rest := []) rfl rfl rfl rfl rfl rfl c4 (by decide) (by decide) (Nat.le_of_ble_eq_true rfl) ⟨Nat.le_of_eq G4.1.2.2.2.1, Nat.le_of_eq G4.1.2.2.2.2⟩
  have t12 := t10.tr t11
  have t13 : XT l 2 47 false 65 153 6051 51 [xf 11 48, xf 8 3, xun] [] k4 56 [xf 11 48, xf 8 3, xun] [xi (Int32.ofInt (2)), xf 10008 (xR k4 48 5)] k4 := XT_path (l := l) (fr := 2) (lo := 47) (full := false) (M := 65) (n := 153) (u := 6051) (pc := 51) (L := [xf 11 48, xf 8 3, xun]) (st := []) (h := k4) (inl := []) (n' := 120) (sp := [56]) (o := []) rfl rfl ⟨rfl, rfl, rfl⟩ rfl ⟨Nat.le_of_eq G4.1.2.2.2.1, Nat.le_of_eq G4.1.2.2.2.2⟩ ⟨trivial, (vnn G4.1.1 (rfl : vRf 48 5 = [53]) (by decide))⟩
  rw [vref G4.1.1 (rfl : vRf 48 5 = [53])] at t13
  have t14 := t12.tr t13
  obtain ⟨k5, c5, g5, w5⟩ := cm_fill53 l k4 G4.1
  have G5 : mQ [48, 49, 50, 51, 52, 53, 54, 55, 56] k0 k5 := G4.tr (g5.mono (by decide))
  have o5 : ∀ c k, ¬ c = 53 → xI k5 c k = xI k4 c k := fun c k z => g5.2.1 c k (fun y => z (List.mem_singleton.mp y))
  have t15 : XT l 2 47 false 65 153 6051 56 [xf 11 48, xf 8 3, xun] [xi (Int32.ofInt (2)), xf 10008 53] k4 59 [xf 11 48, xf 8 3, xun] [] k5 := XT_call (l := l) (fr := 2) (lo := 47) (full := false) (M := 65) (n := 153) (u := 6051) (pc := 56) (L := [xf 11 48, xf 8 3, xun]) (st := [xi (Int32.ofInt (2)), xf 10008 53]) (h := k4) (i := .invokestatic 5) (aux := 2) (nx := 59) (K := 5) (vs := [xf 10008 53, xi (Int32.ofInt (2))]) (rs := []) (rest := []) rfl rfl rfl rfl rfl rfl c5 (by decide) (by decide) (Nat.le_of_ble_eq_true rfl) ⟨Nat.le_of_eq G5.1.2.2.2.1, Nat.le_of_eq G5.1.2.2.2.2⟩
  have t16 := t14.tr t15
  have t17 : XT l 2 47 false 65 153 6051 59 [xf 11 48, xf 8 3, xun] [] k5 64 [xf 11 48, xf 8 3, xun] [xi (Int32.ofInt (0)), xf 10006 (xR k5 48 9)] k5 := XT_path (l := l) (fr := 2) (lo := 47) (full := false) (M := 65) (n := 153) (u := 6051) (pc := 59) (L := [xf 11 48, xf 8 3, xun]) (st := []) (h := k5) (inl := []) (n' := 120) (sp := [64]) (o := []) rfl rfl ⟨rfl, rfl, rfl⟩ rfl ⟨Nat.le_of_eq G5.1.2.2.2.1, Nat.le_of_eq G5.1.2.2.2.2⟩ ⟨trivial, (vnn G5.1.1 (rfl : vRf 48 9 = [56]) (by decide))⟩
  rw [vref G5.1.1 (rfl : vRf 48 9 = [56])] at t17
  have t18 := t16.tr t17
  obtain ⟨k6, c6, g6, w6⟩ := cm_fill56 l k5 G5.1
  have G6 : mQ [48, 49, 50, 51, 52, 53, 54, 55, 56] k0 k6 := G5.tr (g6.mono (by decide))
  have o6 : ∀ c k, ¬ c = 56 → xI k6 c k = xI k5 c k := fun c k z => g6.2.1 c k (fun y => z (List.mem_singleton.mp y))
  have t19 : XT l 2 47 false 65 153 6051 64 [xf 11 48, xf 8 3, xun] [xi (Int32.ofInt (0)), xf 10006 56] k5 67 [xf 11 48, xf 8 3, xun] [] k6 := XT_call (l := l) (fr := 2) (lo := 47) (full := false) (M := 65) (n := 153) (u := 6051) (pc := 64) (L := [xf 11 48, xf 8 3, xun]) (st := [xi (Int32.ofInt (0)), xf 10006 56]) (h := k5) (i := .invokestatic 5) (aux := 2) (nx := 67) (K := 5) (vs := [xf 10006 56, xi (Int32.ofInt (0))]) (rs := []) (rest := []) rfl rfl rfl rfl rfl rfl c6 (by decide) (by decide) (Nat.le_of_ble_eq_true rfl) ⟨Nat.le_of_eq G6.1.2.2.2.1, Nat.le_of_eq G6.1.2.2.2.2⟩
  have t20 := t18.tr t19
  have t21 : XT l 2 47 false 65 153 6051 67 [xf 11 48, xf 8 3, xun] [] k6 69 [xf 11 48, xf 8 3, xi (Int32.ofInt (0))] [] k6 := XT_path (l := l) (fr := 2) (lo := 47) (full := false) (M := 65) (n := 153) (u := 6051) (pc := 67) (L := [xf 11 48, xf 8 3, xun]) (st := []) (h := k6) (inl := []) (n' := 120) (sp := [69]) (o := []) rfl rfl ⟨rfl, rfl, rfl⟩ rfl ⟨Nat.le_of_eq G6.1.2.2.2.1, Nat.le_of_eq G6.1.2.2.2.2⟩ trivial
  have t22 := t20.tr t21
  have eh : ∀ k : Nat, (k : Int) < Z 2 → xI k6 52 k = zY0 Z (20 + k) := fun k hk => by
    rw [zY0_h (by omega)]
    refine i32_e ?_
    have z : xI k6 52 k = xI k0 12 k := ((o6 52 k (by decide))).trans (((o5 52 k (by decide))).trans (((o4 52 k (by decide))).trans (((o3 52 k (by decide))).trans (((w2 k (by omega))).trans ((o1 12 k (by decide)))))))
    rw [z]
    exact kt0.1.2.2 8 k (by decide) hk
  have ec : (xI k6 3 9).toInt = Z 2 := by rw [G6.2.1 3 9 (by decide)]; exact kt0.1.1 2 (by decide)
  obtain ⟨i', k7, z7, g7, w7⟩ := ck_whoS3 l Z k6 G6.1 A ec eh (Z 2).toNat 0 (Int32.ofInt (0)) k6 (mQ.rf G6.1) rfl (by omega) (fun r hr => w6 r (by omega))
  have G7 : mQ [48, 49, 50, 51, 52, 53, 54, 55, 56] k0 k7 := G6.tr (g7.mono (by decide))
  have o7 : ∀ c k, ¬ c = 56 → xI k7 c k = xI k6 c k := fun c k z => g7.2.1 c k (fun y => z (List.mem_singleton.mp y))
  have T7 := t22.tr z7
  have t23 : XT l 2 47 false 65 153 6051 98 [xf 11 48, xf 8 3, xi i'] [] k7 109 [xf 11 48, xf 8 3, xi i'] [xf 11 48] (xsetI (xsetI k7 48 7 (Int32.ofInt (0))) 48 10 (Int32.ofInt (-1))) := XT_path (l := l) (fr := 2) (lo := 47) (full := false) (M := 65) (n := 153) (u := 6051) (pc := 98) (L := [xf 11 48, xf 8 3, xi i']) (st := []) (h := k7) (inl := []) (n' := 120) (sp := [109]) (o := []) rfl rfl ⟨rfl, rfl, rfl⟩ rfl ⟨Nat.le_of_eq G7.1.2.2.2.1, Nat.le_of_eq G7.1.2.2.2.2⟩ trivial
  have t24 := T7.tr t23
  obtain ⟨kS, ekS⟩ : ∃ x, x = (xsetI (xsetI k7 48 7 (Int32.ofInt (0))) 48 10 (Int32.ofInt (-1))) := ⟨_, rfl⟩
  have GS : mQ [48, 49, 50, 51, 52, 53, 54, 55, 56] k0 kS := by rw [ekS]; exact (G7.set (by decide) (by show (-2147483648 : Int) ≤ _ ∧ _ ≤ 2147483647; exact i32r_of _)).set (by decide) (by show (-1 : Int) ≤ _ ∧ _ ≤ _; decide)
  have oS : ∀ c k, ¬ c = 48 → xI kS c k = xI k7 c k := fun c k z => by rw [ekS, yI_c (eq_false z), yI_c (eq_false z)]
  have s7 : xI kS 48 7 = (Int32.ofInt (0)) := by rw [ekS]; exact (yI_ne (by decide)).trans (yI_same)
  have s10 : xI kS 48 10 = (Int32.ofInt (-1)) := by rw [ekS]; exact yI_same
  have n7 : zY0 Z 50 = (Int32.ofInt (0)) := rfl
  have n8 : zY0 Z 51 = (Int32.ofInt (-1)) := rfl
  have kS_ : kW 48 3 Z (zY0 Z) kS := by
    refine ⟨fun r hr => ?_, fun p hp => ⟨?_, ?_⟩, s7.trans n7.symm, s10.trans n8.symm, fun z => absurd z (by rw [n8]; decide), (GS.2.2 48 0).trans q0⟩
    · rw [zY0_r (by omega)]
      refine i32_e ?_
      have z : xI kS 49 r = xI k0 5 r := ((oS 49 r (by decide))).trans (((o7 49 r (by decide))).trans (((o6 49 r (by decide))).trans (((o5 49 r (by decide))).trans (((o4 49 r (by decide))).trans (((o3 49 r (by decide))).trans (((o2 49 r (by decide))).trans ((w1 r (by omega)))))))))
      rw [z]
      exact kt0.1.2.2 1 r (by decide) hr
    · rw [zY0_h (by omega)]
      refine i32_e ?_
      have z : xI kS 52 p = xI k0 12 p := ((oS 52 p (by decide))).trans (((o7 52 p (by decide))).trans (((o6 52 p (by decide))).trans (((o5 52 p (by decide))).trans (((o4 52 p (by decide))).trans (((o3 52 p (by decide))).trans (((w2 p (by omega))).trans ((o1 12 p (by decide)))))))))
      rw [z]
      exact kt0.1.2.2 8 p (by decide) hp
    · rw [zY0_c (by omega)]
      exact ((oS 53 p (by decide))).trans (((o7 53 p (by decide))).trans (((o6 53 p (by decide))).trans ((w5 p (by omega)))))
  have yS : kY 48 Z (zY0 Z) kS := ⟨fun r hr => by rw [zY0_y (by omega)]; exact ((oS 50 r (by decide))).trans (((o7 50 r (by decide))).trans (((o6 50 r (by decide))).trans (((o5 50 r (by decide))).trans (((o4 50 r (by decide))).trans ((w3 r (by omega))))))), fun p hp => by rw [zY0_b (by omega)]; exact ((oS 54 p (by decide))).trans (((o7 54 p (by decide))).trans (((o6 54 p (by decide))).trans (((o5 54 p (by decide))).trans ((w4 p (by omega))))))⟩
  have eS : kE 48 Z (zY0 Z) kS := fun r hr => ((oS 56 r (by decide))).trans ((w7 r hr))
  rw [← ekS] at t24
  obtain ⟨kT, cT, gT, dT⟩ := ck_tear48_3 l Z (zY0 Z) kS GS.1 A (kt0.q GS (by decide)) kS_ (zVd_0 A)
  have t25 : XT l 2 47 false 65 153 6051 109 [xf 11 48, xf 8 3, xi i'] [xf 11 48] kS 112 [xf 11 48, xf 8 3, xi i'] [] kT := XT_call (l := l) (fr := 2) (lo := 47) (full := false) (M := 65) (n := 153) (u := 6051) (pc := 109) (L := [xf 11 48, xf 8 3, xi i']) (st := [xf 11 48]) (h := kS) (i := .invokevirtual 66) (aux := 1) (nx := 112) (K := 66) (vs := [xf 11 48]) (rs := []) (rest := []) rfl rfl rfl rfl rfl rfl cT (by decide) (by decide) (Nat.le_of_ble_eq_true rfl) ⟨Nat.le_of_eq gT.1.2.2.2.1, Nat.le_of_eq gT.1.2.2.2.2⟩
  have t26 := t24.tr t25
  exact ⟨kT, CX_ofT (h' := kT) (by decide) rfl rfl trivial ⟨_, _, _, rfl, rfl, rfl⟩ rfl ⟨Nat.le_of_eq gT.1.2.2.2.1.symm, Nat.le_of_eq gT.1.2.2.2.2.symm⟩ t26, gT.1, fun e k he => ((gT.mono (by decide)).2.1 e k he).trans ((GS.2.1 e k he).trans (o0 e k)), kS_.q gT (by decide), dT, eS.q gT (by decide), yS.q gT (by decide)⟩
set_option maxRecDepth 100000 in
set_option maxHeartbeats 4000000 in
theorem ck_whoS24 (l : Launch) (Z : Nat → Int) (h : XH) (hg : mI h) (A : zAll Z) (ec : (xI h 24 9).toInt = Z 2) (eh : ∀ k : Nat, (k : Int) < Z 2 → xI h 52 k = zY0 Z (20 + k)) : ∀ (m k : Nat) (kk : Int32) (h1 : XH), mQ [56] h h1 → kk.toInt = k → (k : Int) + m = Z 2 → (∀ r : Nat, (r : Int) < Z 0 → xI h1 56 r = zsum (fun p => if (zY0 Z (20 + p)).toInt = r then Int32.ofInt (1) else Int32.ofInt (0)) k) → ∃ k2 h2, XT l 2 47 false 65 153 6051 69 [xf 11 48, xf 8 24, xi kk] [] h1 98 [xf 11 48, xf 8 24, xi k2] [] h2 ∧ mQ [56] h h2 ∧ (∀ r : Nat, (r : Int) < Z 0 → xI h2 56 r = zCr Z (zY0 Z) r)
  | 0, k, kk, h1, G, hk, hm, I1 => by
    obtain ⟨⟨⟨B00, B01⟩, ⟨B10, B11⟩, ⟨B20, B21⟩, B30, B31⟩, g6, zj, zv, LW⟩ := id A
    have hg1 := G.1
    have ej : (xI h1 24 9).toInt = Z 2 := by rw [G.2.1 24 9 (by decide)]; exact ec
    have t1 : XT l 2 47 false 65 153 6051 69 [xf 11 48, xf 8 24, xi kk] [] h1 98 [xf 11 48, xf 8 24, xi kk] [] h1 := XT_path (l := l) (fr := 2) (lo := 47) (full := false) (M := 65) (n := 153) (u := 6051) (pc := 69) (L := [xf 11 48, xf 8 24, xi kk]) (st := []) (h := h1) (inl := []) (n' := 80) (sp := [98]) (o := [1]) rfl rfl ⟨rfl, rfl, rfl⟩ rfl ⟨Nat.le_of_eq hg1.2.2.2.1, Nat.le_of_eq hg1.2.2.2.2⟩ ⟨trivial, (show (xI h1 24 9) ≤ kk from Int32.le_iff_toInt_le.mpr (by omega))⟩
    obtain rfl : k = (Z 2).toNat := by omega
    exact ⟨kk, h1, t1, G, I1⟩
  | m + 1, k, kk, h1, G, hk, hm, I1 => by
    obtain ⟨⟨⟨B00, B01⟩, ⟨B10, B11⟩, ⟨B20, B21⟩, B30, B31⟩, g6, zj, zv, LW⟩ := id A
    have hg1 := G.1
    have ej : (xI h1 24 9).toInt = Z 2 := by rw [G.2.1 24 9 (by decide)]; exact ec
    have lk : (k : Int) < Z 2 := by omega
    have nk : kk.toNatClampNeg = k := zi_ix hk
    have sk := y_suc1 (k := kk) (by omega) (by omega)
    have V := zVd_0 A
    have bh := V.2.1 k lk
    obtain ⟨H, hH⟩ : ∃ H : Nat, (zY0 Z (20 + k)).toInt = H := ⟨(zY0 Z (20 + k)).toInt.toNat, by omega⟩
    have e1 := congrArg Int32.toInt (show xI h1 52 kk.toNatClampNeg = zY0 Z (20 + k) from by rw [nk, G.2.1 52 k (by decide)]; exact eh k lk)
    have nh : (xI h1 52 kk.toNatClampNeg).toNatClampNeg = H := zi_ix (by omega)
    have t1 : XT l 2 47 false 65 153 6051 69 [xf 11 48, xf 8 24, xi kk] [] h1 69 [xf 11 48, xf 8 24, xi (kk + Int32.ofInt (1))] [] (xsetI h1 (xR h1 48 9) ((xI h1 (xR h1 48 4) (kk).toNatClampNeg)).toNatClampNeg ((xI h1 (xR h1 48 9) ((xI h1 (xR h1 48 4) (kk).toNatClampNeg)).toNatClampNeg) + (Int32.ofInt (1)))) := XT_path (l := l) (fr := 2) (lo := 47) (full := false) (M := 65) (n := 153) (u := 6051) (pc := 69) (L := [xf 11 48, xf 8 24, xi kk]) (st := []) (h := h1) (inl := []) (n' := 80) (sp := [69]) (o := [0]) rfl rfl ⟨rfl, rfl, rfl⟩ rfl ⟨Nat.le_of_eq hg1.2.2.2.1, Nat.le_of_eq hg1.2.2.2.2⟩ ⟨⟨⟨⟨⟨⟨trivial, (show ¬ (xI h1 24 9) ≤ kk from fun z => absurd (Int32.le_iff_toInt_le.mp z) (by omega))⟩, (vnn hg1.1 (rfl : vRf 48 9 = [56]) (by decide))⟩, (vnn hg1.1 (rfl : vRf 48 4 = [52]) (by decide))⟩, (vp_of (i := kk) (n := 8) (by omega) (by omega))⟩, (show vp_in ((xI h1 (xR h1 48 4) (kk).toNatClampNeg)) (6) from (by rw [vref hg1.1 (rfl : vRf 48 4 = [52])]; exact (vp_of (i := (xI h1 52 (kk).toNatClampNeg)) (n := 6) (by omega) (by omega) : vp_in ((xI h1 52 (kk).toNatClampNeg)) (6))))⟩, (show vp_in ((xI h1 (xR h1 48 4) (kk).toNatClampNeg)) (6) from (by rw [vref hg1.1 (rfl : vRf 48 4 = [52])]; exact (vp_of (i := (xI h1 52 (kk).toNatClampNeg)) (n := 6) (by omega) (by omega) : vp_in ((xI h1 52 (kk).toNatClampNeg)) (6))))⟩
    rw [vref hg1.1 (rfl : vRf 48 9 = [56]), vref hg1.1 (rfl : vRf 48 4 = [52])] at t1
    obtain ⟨hE, eE⟩ : ∃ x, x = (xsetI h1 56 ((xI h1 52 (kk).toNatClampNeg)).toNatClampNeg ((xI h1 56 ((xI h1 52 (kk).toNatClampNeg)).toNatClampNeg) + (Int32.ofInt (1)))) := ⟨_, rfl⟩
    have eE2 : hE = xsetI h1 56 H (xI h1 56 H + (Int32.ofInt (1))) := by rw [eE]; simp only [nh]
    rw [← eE] at t1
    have GE : mQ [56] h hE := by rw [eE2]; exact G.set (by decide) (by rw [vI_u rfl (rfl : vRow 56 = sfull)]; exact i32r_of _)
    have J : ∀ r : Nat, (r : Int) < Z 0 → xI hE 56 r = zsum (fun p => if (zY0 Z (20 + p)).toInt = r then Int32.ofInt (1) else Int32.ofInt (0)) (k + 1) := by
      intro r hr
      by_cases e : r = H
      · rw [e, eE2, yI_same]
        rw [e] at hr
        exact zsum_n (I1 H hr) (if_pos hH)
      · rw [eE2, yI_ne (eq_false (fun z => e z.2))]
        exact zsum_m (I1 r hr) (if_neg (by omega))
    obtain ⟨k3, h9, t9, G9, I9⟩ := ck_whoS24 l Z h hg A ec eh m (k + 1) (kk + Int32.ofInt (1)) hE GE (by omega) (by omega) J
    exact ⟨k3, h9, t1.tr t9, G9, I9⟩
set_option maxRecDepth 100000 in
set_option maxHeartbeats 4000000 in
theorem ck_startS24 (l : Launch) (Z : Nat → Int) (h : XH) (hg : mI h) (A : zAll Z) (kt : kTx 24 Z h) : ∃ h', CX l 2 47 false 65 [xf 11 48, xf 8 24] h [] h' ∧ mI h' ∧ (∀ e k, ¬ e ∈ [48, 49, 50, 51, 52, 53, 54, 55, 56] → xI h' e k = xI h e k) ∧ kW 48 24 Z (zY0 Z) h' ∧ kD 48 Z (zY0 Z) h' ∧ kE 48 Z (zY0 Z) h' ∧ kY 48 Z (zY0 Z) h' := by
  obtain ⟨⟨⟨B00, B01⟩, ⟨B10, B11⟩, ⟨B20, B21⟩, B30, B31⟩, g6, zj, zv, LW⟩ := id A
  have tB : XT l 2 47 false 65 153 6051 0 [xf 11 48, xf 8 24, xun] [] h 5 [xf 11 48, xf 8 24, xun] [] (xsetR h 48 0 24) := XT_path (l := l) (fr := 2) (lo := 47) (full := false) (M := 65) (n := 153) (u := 6051) (pc := 0) (L := [xf 11 48, xf 8 24, xun]) (st := []) (h := h) (inl := []) (n' := 80) (sp := [5]) (o := []) rfl rfl ⟨rfl, rfl, rfl⟩ rfl ⟨Nat.le_of_eq hg.2.2.2.1, Nat.le_of_eq hg.2.2.2.2⟩ trivial
  have g0 : mI (xsetR h 48 0 24) := hg.setR (c := 48) (k := 0) (x := 24) (by decide)
  obtain ⟨k0, ek0⟩ : ∃ x, x = xsetR h 48 0 24 := ⟨_, rfl⟩
  have q0 : xR k0 48 0 = 24 := by rw [ek0]; exact yR_same
  have o0 : ∀ c k, xI k0 c k = xI h c k := fun c k => by rw [ek0]; rfl
  rw [← ek0] at tB g0
  have G0 : mQ [48, 49, 50, 51, 52, 53, 54, 55, 56] k0 k0 := mQ.rf g0
  have kt0 : kTx 24 Z k0 := kt.fr (fun i k _ _ => o0 i k)
  have t1 : XT l 2 47 false 65 153 6051 5 [xf 11 48, xf 8 24, xun] [] k0 20 [xf 11 48, xf 8 24, xun] [] (xrowI k0 (xR k0 48 1) (va_cpy (xI k0 (xR k0 24 2)) (xI k0 (xR k0 48 1)) ((Int32.ofInt (0))).toNatClampNeg ((Int32.ofInt (0))).toNatClampNeg ((Int32.ofInt (6))).toNatClampNeg)) := XT_path (l := l) (fr := 2) (lo := 47) (full := false) (M := 65) (n := 153) (u := 6051) (pc := 5) (L := [xf 11 48, xf 8 24, xun]) (st := []) (h := k0) (inl := []) (n' := 120) (sp := [20]) (o := []) rfl rfl ⟨rfl, rfl, rfl⟩ rfl ⟨Nat.le_of_eq g0.2.2.2.1, Nat.le_of_eq g0.2.2.2.2⟩ ⟨⟨⟨trivial, (vnn g0.1 (rfl : vRf 24 2 = [26]) (by decide))⟩, (vnn g0.1 (rfl : vRf 48 1 = [49]) (by decide))⟩, ⟨⟨by decide, by decide, by decide⟩, by decide, by decide⟩⟩
  rw [vref g0.1 (rfl : vRf 48 1 = [49]), vref g0.1 (rfl : vRf 24 2 = [26])] at t1
  have t2 := tB.tr t1
  have G10 : mQ [48, 49, 50, 51, 52, 53, 54, 55, 56] k0 (xrowI k0 49 (va_cpy (xI k0 26) (xI k0 49) ((Int32.ofInt (0))).toNatClampNeg ((Int32.ofInt (0))).toNatClampNeg ((Int32.ofInt (6))).toNatClampNeg)) := G0.cpy (e := 49) (f := 26) (q := (0, 9)) rfl rfl rfl rfl (by decide)
  have w10 : ∀ k, k < 6 → xI (xrowI k0 49 (va_cpy (xI k0 26) (xI k0 49) ((Int32.ofInt (0))).toNatClampNeg ((Int32.ofInt (0))).toNatClampNeg ((Int32.ofInt (6))).toNatClampNeg)) 49 k = xI k0 26 k := fun k hk => yI_rowS.trans (cpy_at hk)
  obtain ⟨k1, ek1⟩ : ∃ x, x = (xrowI k0 49 (va_cpy (xI k0 26) (xI k0 49) ((Int32.ofInt (0))).toNatClampNeg ((Int32.ofInt (0))).toNatClampNeg ((Int32.ofInt (6))).toNatClampNeg)) := ⟨_, rfl⟩
  have o1 : ∀ c k, ¬ c = 49 → xI k1 c k = xI k0 c k := fun c k z => by rw [ek1]; exact yI_row (eq_false z)
  rw [← ek1] at t2 G10 w10
  have G1 := G10
  have w1 := w10
  have t3 : XT l 2 47 false 65 153 6051 20 [xf 11 48, xf 8 24, xun] [] k1 35 [xf 11 48, xf 8 24, xun] [] (xrowI k1 (xR k1 48 4) (va_cpy (xI k1 (xR k1 24 11)) (xI k1 (xR k1 48 4)) ((Int32.ofInt (0))).toNatClampNeg ((Int32.ofInt (0))).toNatClampNeg ((Int32.ofInt (8))).toNatClampNeg)) := XT_path (l := l) (fr := 2) (lo := 47) (full := false) (M := 65) (n := 153) (u := 6051) (pc := 20) (L := [xf 11 48, xf 8 24, xun]) (st := []) (h := k1) (inl := []) (n' := 120) (sp := [35]) (o := []) rfl rfl ⟨rfl, rfl, rfl⟩ rfl ⟨Nat.le_of_eq G1.1.2.2.2.1, Nat.le_of_eq G1.1.2.2.2.2⟩ ⟨⟨⟨trivial, (vnn G1.1.1 (rfl : vRf 24 11 = [33]) (by decide))⟩, (vnn G1.1.1 (rfl : vRf 48 4 = [52]) (by decide))⟩, ⟨⟨by decide, by decide, by decide⟩, by decide, by decide⟩⟩
  rw [vref G1.1.1 (rfl : vRf 48 4 = [52]), vref G1.1.1 (rfl : vRf 24 11 = [33])] at t3
  have t4 := t2.tr t3
  have G20 : mQ [48, 49, 50, 51, 52, 53, 54, 55, 56] k0 (xrowI k1 52 (va_cpy (xI k1 33) (xI k1 52) ((Int32.ofInt (0))).toNatClampNeg ((Int32.ofInt (0))).toNatClampNeg ((Int32.ofInt (8))).toNatClampNeg)) := G1.cpy (e := 52) (f := 33) (q := (0, 5)) rfl rfl rfl rfl (by decide)
  have w20 : ∀ k, k < 8 → xI (xrowI k1 52 (va_cpy (xI k1 33) (xI k1 52) ((Int32.ofInt (0))).toNatClampNeg ((Int32.ofInt (0))).toNatClampNeg ((Int32.ofInt (8))).toNatClampNeg)) 52 k = xI k1 33 k := fun k hk => yI_rowS.trans (cpy_at hk)
  obtain ⟨k2, ek2⟩ : ∃ x, x = (xrowI k1 52 (va_cpy (xI k1 33) (xI k1 52) ((Int32.ofInt (0))).toNatClampNeg ((Int32.ofInt (0))).toNatClampNeg ((Int32.ofInt (8))).toNatClampNeg)) := ⟨_, rfl⟩
  have o2 : ∀ c k, ¬ c = 52 → xI k2 c k = xI k1 c k := fun c k z => by rw [ek2]; exact yI_row (eq_false z)
  rw [← ek2] at t4 G20 w20
  have G2 := G20
  have w2 := w20
  have t5 : XT l 2 47 false 65 153 6051 35 [xf 11 48, xf 8 24, xun] [] k2 40 [xf 11 48, xf 8 24, xun] [xi (Int32.ofInt (0)), xf 10006 (xR k2 48 2)] k2 := XT_path (l := l) (fr := 2) (lo := 47) (full := false) (M := 65) (n := 153) (u := 6051) (pc := 35) (L := [xf 11 48, xf 8 24, xun]) (st := []) (h := k2) (inl := []) (n' := 120) (sp := [40]) (o := []) rfl rfl ⟨rfl, rfl, rfl⟩ rfl ⟨Nat.le_of_eq G2.1.2.2.2.1, Nat.le_of_eq G2.1.2.2.2.2⟩ ⟨trivial, (vnn G2.1.1 (rfl : vRf 48 2 = [50]) (by decide))⟩
  rw [vref G2.1.1 (rfl : vRf 48 2 = [50])] at t5
  have t6 := t4.tr t5
  obtain ⟨k3, c3, g3, w3⟩ := cm_fill50 l k2 G2.1
  have G3 : mQ [48, 49, 50, 51, 52, 53, 54, 55, 56] k0 k3 := G2.tr (g3.mono (by decide))
  have o3 : ∀ c k, ¬ c = 50 → xI k3 c k = xI k2 c k := fun c k z => g3.2.1 c k (fun y => z (List.mem_singleton.mp y))
  have t7 : XT l 2 47 false 65 153 6051 40 [xf 11 48, xf 8 24, xun] [xi (Int32.ofInt (0)), xf 10006 50] k2 43 [xf 11 48, xf 8 24, xun] [] k3 := XT_call (l := l) (fr := 2) (lo := 47) (full := false) (M := 65) (n := 153) (u := 6051) (pc := 40) (L := [xf 11 48, xf 8 24, xun]) (st := [xi (Int32.ofInt (0)), xf 10006 50]) (h := k2) (i := .invokestatic 5) (aux := 2) (nx := 43) (K := 5) (vs := [xf 10006 50, xi (Int32.ofInt (0))]) (rs := []) (rest := []) rfl rfl rfl rfl rfl rfl c3 (by decide) (by decide) (Nat.le_of_ble_eq_true rfl) ⟨Nat.le_of_eq G3.1.2.2.2.1, Nat.le_of_eq G3.1.2.2.2.2⟩
  have t8 := t6.tr t7
  have t9 : XT l 2 47 false 65 153 6051 43 [xf 11 48, xf 8 24, xun] [] k3 48 [xf 11 48, xf 8 24, xun] [xi (Int32.ofInt (0)), xf 10008 (xR k3 48 6)] k3 := XT_path (l := l) (fr := 2) (lo := 47) (full := false) (M := 65) (n := 153) (u := 6051) (pc := 43) (L := [xf 11 48, xf 8 24, xun]) (st := []) (h := k3) (inl := []) (n' := 120) (sp := [48]) (o := []) rfl rfl ⟨rfl, rfl, rfl⟩ rfl ⟨Nat.le_of_eq G3.1.2.2.2.1, Nat.le_of_eq G3.1.2.2.2.2⟩ ⟨trivial, (vnn G3.1.1 (rfl : vRf 48 6 = [54]) (by decide))⟩
  rw [vref G3.1.1 (rfl : vRf 48 6 = [54])] at t9
  have t10 := t8.tr t9
  obtain ⟨k4, c4, g4, w4⟩ := cm_fill54 l k3 G3.1
  have G4 : mQ [48, 49, 50, 51, 52, 53, 54, 55, 56] k0 k4 := G3.tr (g4.mono (by decide))
  have o4 : ∀ c k, ¬ c = 54 → xI k4 c k = xI k3 c k := fun c k z => g4.2.1 c k (fun y => z (List.mem_singleton.mp y))
  have t11 : XT l 2 47 false 65 153 6051 48 [xf 11 48, xf 8 24, xun] [xi (Int32.ofInt (0)), xf 10008 54] k3 51 [xf 11 48, xf 8 24, xun] [] k4 := XT_call (l := l) (fr := 2) (lo := 47) (full := false) (M := 65) (n := 153) (u := 6051) (pc := 48) (L := [xf 11 48, xf 8 24, xun]) (st := [xi (Int32.ofInt (0)), xf 10008 54]) (h := k3) (i := .invokestatic 5) (aux := 2) (nx := 51) (K := 5) (vs := [xf 10008 54, xi (Int32.ofInt (0))]) (rs := []) (rest := []) rfl rfl rfl rfl rfl rfl c4 (by decide) (by decide) (Nat.le_of_ble_eq_true rfl) ⟨Nat.le_of_eq G4.1.2.2.2.1, Nat.le_of_eq G4.1.2.2.2.2⟩
  have t12 := t10.tr t11
  have t13 : XT l 2 47 false 65 153 6051 51 [xf 11 48, xf 8 24, xun] [] k4 56 [xf 11 48, xf 8 24, xun] [xi (Int32.ofInt (2)), xf 10008 (xR k4 48 5)] k4 := XT_path (l := l) (fr := 2) (lo := 47) (full := false) (M := 65) (n := 153) (u := 6051) (pc := 51) (L := [xf 11 48, xf 8 24, xun]) (st := []) (h := k4) (inl := []) (n' := 120) (sp := [56]) (o := []) rfl rfl ⟨rfl, rfl, rfl⟩ rfl ⟨Nat.le_of_eq G4.1.2.2.2.1, Nat.le_of_eq G4.1.2.2.2.2⟩ ⟨trivial, (vnn G4.1.1 (rfl : vRf 48 5 = [53]) (by decide))⟩
  rw [vref G4.1.1 (rfl : vRf 48 5 = [53])] at t13
  have t14 := t12.tr t13
  obtain ⟨k5, c5, g5, w5⟩ := cm_fill53 l k4 G4.1
  have G5 : mQ [48, 49, 50, 51, 52, 53, 54, 55, 56] k0 k5 := G4.tr (g5.mono (by decide))
  have o5 : ∀ c k, ¬ c = 53 → xI k5 c k = xI k4 c k := fun c k z => g5.2.1 c k (fun y => z (List.mem_singleton.mp y))
  have t15 : XT l 2 47 false 65 153 6051 56 [xf 11 48, xf 8 24, xun] [xi (Int32.ofInt (2)), xf 10008 53] k4 59 [xf 11 48, xf 8 24, xun] [] k5 := XT_call (l := l) (fr := 2) (lo := 47) (full := false) (M := 65) (n := 153) (u := 6051) (pc := 56) (L := [xf 11 48, xf 8 24, xun]) (st := [xi (Int32.ofInt (2)), xf 10008 53]) (h := k4) (i := .invokestatic 5) (aux := 2) (nx := 59) (K := 5) (vs := [xf 10008 53, xi (Int32.ofInt (2))]) (rs := []) (rest := []) rfl rfl rfl rfl rfl rfl c5 (by decide) (by decide) (Nat.le_of_ble_eq_true rfl) ⟨Nat.le_of_eq G5.1.2.2.2.1, Nat.le_of_eq G5.1.2.2.2.2⟩
  have t16 := t14.tr t15
  have t17 : XT l 2 47 false 65 153 6051 59 [xf 11 48, xf 8 24, xun] [] k5 64 [xf 11 48, xf 8 24, xun] [xi (Int32.ofInt (0)), xf 10006 (xR k5 48 9)] k5 := XT_path (l := l) (fr := 2) (lo := 47) (full := false) (M := 65) (n := 153) (u := 6051) (pc := 59) (L := [xf 11 48, xf 8 24, xun]) (st := []) (h := k5) (inl := []) (n' := 120) (sp := [64]) (o := []) rfl rfl ⟨rfl, rfl, rfl⟩ rfl ⟨Nat.le_of_eq G5.1.2.2.2.1, Nat.le_of_eq G5.1.2.2.2.2⟩ ⟨trivial, (vnn G5.1.1 (rfl : vRf 48 9 = [56]) (by decide))⟩
  rw [vref G5.1.1 (rfl : vRf 48 9 = [56])] at t17
  have t18 := t16.tr t17
  obtain ⟨k6, c6, g6, w6⟩ := cm_fill56 l k5 G5.1
  have G6 : mQ [48, 49, 50, 51, 52, 53, 54, 55, 56] k0 k6 := G5.tr (g6.mono (by decide))
  have o6 : ∀ c k, ¬ c = 56 → xI k6 c k = xI k5 c k := fun c k z => g6.2.1 c k (fun y => z (List.mem_singleton.mp y))
  have t19 : XT l 2 47 false 65 153 6051 64 [xf 11 48, xf 8 24, xun] [xi (Int32.ofInt (0)), xf 10006 56] k5 67 [xf 11 48, xf 8 24, xun] [] k6 := XT_call (l := l) (fr := 2) (lo := 47) (full := false) (M := 65) (n := 153) (u := 6051) (pc := 64) (L := [xf 11 48, xf 8 24, xun]) (st := [xi (Int32.ofInt (0)), xf 10006 56]) (h := k5) (i := .invokestatic 5) (aux := 2) (nx := 67) (K := 5) (vs := [xf 10006 56, xi (Int32.ofInt (0))]) (rs := []) (rest := []) rfl rfl rfl rfl rfl rfl c6 (by decide) (by decide) (Nat.le_of_ble_eq_true rfl) ⟨Nat.le_of_eq G6.1.2.2.2.1, Nat.le_of_eq G6.1.2.2.2.2⟩
  have t20 := t18.tr t19
  have t21 : XT l 2 47 false 65 153 6051 67 [xf 11 48, xf 8 24, xun] [] k6 69 [xf 11 48, xf 8 24, xi (Int32.ofInt (0))] [] k6 := XT_path (l := l) (fr := 2) (lo := 47) (full := false) (M := 65) (n := 153) (u := 6051) (pc := 67) (L := [xf 11 48, xf 8 24, xun]) (st := []) (h := k6) (inl := []) (n' := 120) (sp := [69]) (o := []) rfl rfl ⟨rfl, rfl, rfl⟩ rfl ⟨Nat.le_of_eq G6.1.2.2.2.1, Nat.le_of_eq G6.1.2.2.2.2⟩ trivial
  have t22 := t20.tr t21
  have eh : ∀ k : Nat, (k : Int) < Z 2 → xI k6 52 k = zY0 Z (20 + k) := fun k hk => by
    rw [zY0_h (by omega)]
    refine i32_e ?_
    have z : xI k6 52 k = xI k0 33 k := ((o6 52 k (by decide))).trans (((o5 52 k (by decide))).trans (((o4 52 k (by decide))).trans (((o3 52 k (by decide))).trans (((w2 k (by omega))).trans ((o1 33 k (by decide)))))))
    rw [z]
    exact kt0.1.2.2 8 k (by decide) hk
  have ec : (xI k6 24 9).toInt = Z 2 := by rw [G6.2.1 24 9 (by decide)]; exact kt0.1.1 2 (by decide)
  obtain ⟨i', k7, z7, g7, w7⟩ := ck_whoS24 l Z k6 G6.1 A ec eh (Z 2).toNat 0 (Int32.ofInt (0)) k6 (mQ.rf G6.1) rfl (by omega) (fun r hr => w6 r (by omega))
  have G7 : mQ [48, 49, 50, 51, 52, 53, 54, 55, 56] k0 k7 := G6.tr (g7.mono (by decide))
  have o7 : ∀ c k, ¬ c = 56 → xI k7 c k = xI k6 c k := fun c k z => g7.2.1 c k (fun y => z (List.mem_singleton.mp y))
  have T7 := t22.tr z7
  have t23 : XT l 2 47 false 65 153 6051 98 [xf 11 48, xf 8 24, xi i'] [] k7 109 [xf 11 48, xf 8 24, xi i'] [xf 11 48] (xsetI (xsetI k7 48 7 (Int32.ofInt (0))) 48 10 (Int32.ofInt (-1))) := XT_path (l := l) (fr := 2) (lo := 47) (full := false) (M := 65) (n := 153) (u := 6051) (pc := 98) (L := [xf 11 48, xf 8 24, xi i']) (st := []) (h := k7) (inl := []) (n' := 120) (sp := [109]) (o := []) rfl rfl ⟨rfl, rfl, rfl⟩ rfl ⟨Nat.le_of_eq G7.1.2.2.2.1, Nat.le_of_eq G7.1.2.2.2.2⟩ trivial
  have t24 := T7.tr t23
  obtain ⟨kS, ekS⟩ : ∃ x, x = (xsetI (xsetI k7 48 7 (Int32.ofInt (0))) 48 10 (Int32.ofInt (-1))) := ⟨_, rfl⟩
  have GS : mQ [48, 49, 50, 51, 52, 53, 54, 55, 56] k0 kS := by rw [ekS]; exact (G7.set (by decide) (by show (-2147483648 : Int) ≤ _ ∧ _ ≤ 2147483647; exact i32r_of _)).set (by decide) (by show (-1 : Int) ≤ _ ∧ _ ≤ _; decide)
  have oS : ∀ c k, ¬ c = 48 → xI kS c k = xI k7 c k := fun c k z => by rw [ekS, yI_c (eq_false z), yI_c (eq_false z)]
  have s7 : xI kS 48 7 = (Int32.ofInt (0)) := by rw [ekS]; exact (yI_ne (by decide)).trans (yI_same)
  have s10 : xI kS 48 10 = (Int32.ofInt (-1)) := by rw [ekS]; exact yI_same
  have n7 : zY0 Z 50 = (Int32.ofInt (0)) := rfl
  have n8 : zY0 Z 51 = (Int32.ofInt (-1)) := rfl
  have kS_ : kW 48 24 Z (zY0 Z) kS := by
    refine ⟨fun r hr => ?_, fun p hp => ⟨?_, ?_⟩, s7.trans n7.symm, s10.trans n8.symm, fun z => absurd z (by rw [n8]; decide), (GS.2.2 48 0).trans q0⟩
    · rw [zY0_r (by omega)]
      refine i32_e ?_
      have z : xI kS 49 r = xI k0 26 r := ((oS 49 r (by decide))).trans (((o7 49 r (by decide))).trans (((o6 49 r (by decide))).trans (((o5 49 r (by decide))).trans (((o4 49 r (by decide))).trans (((o3 49 r (by decide))).trans (((o2 49 r (by decide))).trans ((w1 r (by omega)))))))))
      rw [z]
      exact kt0.1.2.2 1 r (by decide) hr
    · rw [zY0_h (by omega)]
      refine i32_e ?_
      have z : xI kS 52 p = xI k0 33 p := ((oS 52 p (by decide))).trans (((o7 52 p (by decide))).trans (((o6 52 p (by decide))).trans (((o5 52 p (by decide))).trans (((o4 52 p (by decide))).trans (((o3 52 p (by decide))).trans (((w2 p (by omega))).trans ((o1 33 p (by decide)))))))))
      rw [z]
      exact kt0.1.2.2 8 p (by decide) hp
    · rw [zY0_c (by omega)]
      exact ((oS 53 p (by decide))).trans (((o7 53 p (by decide))).trans (((o6 53 p (by decide))).trans ((w5 p (by omega)))))
  have yS : kY 48 Z (zY0 Z) kS := ⟨fun r hr => by rw [zY0_y (by omega)]; exact ((oS 50 r (by decide))).trans (((o7 50 r (by decide))).trans (((o6 50 r (by decide))).trans (((o5 50 r (by decide))).trans (((o4 50 r (by decide))).trans ((w3 r (by omega))))))), fun p hp => by rw [zY0_b (by omega)]; exact ((oS 54 p (by decide))).trans (((o7 54 p (by decide))).trans (((o6 54 p (by decide))).trans (((o5 54 p (by decide))).trans ((w4 p (by omega))))))⟩
  have eS : kE 48 Z (zY0 Z) kS := fun r hr => ((oS 56 r (by decide))).trans ((w7 r hr))
  rw [← ekS] at t24
  obtain ⟨kT, cT, gT, dT⟩ := ck_tear48_24 l Z (zY0 Z) kS GS.1 A (kt0.q GS (by decide)) kS_ (zVd_0 A)
  have t25 : XT l 2 47 false 65 153 6051 109 [xf 11 48, xf 8 24, xi i'] [xf 11 48] kS 112 [xf 11 48, xf 8 24, xi i'] [] kT := XT_call (l := l) (fr := 2) (lo := 47) (full := false) (M := 65) (n := 153) (u := 6051) (pc := 109) (L := [xf 11 48, xf 8 24, xi i']) (st := [xf 11 48]) (h := kS) (i := .invokevirtual 66) (aux := 1) (nx := 112) (K := 66) (vs := [xf 11 48]) (rs := []) (rest := []) rfl rfl rfl rfl rfl rfl cT (by decide) (by decide) (Nat.le_of_ble_eq_true rfl) ⟨Nat.le_of_eq gT.1.2.2.2.1, Nat.le_of_eq gT.1.2.2.2.2⟩
  have t26 := t24.tr t25
  exact ⟨kT, CX_ofT (h' := kT) (by decide) rfl rfl trivial ⟨_, _, _, rfl, rfl, rfl⟩ rfl ⟨Nat.le_of_eq gT.1.2.2.2.1.symm, Nat.le_of_eq gT.1.2.2.2.2.symm⟩ t26, gT.1, fun e k he => ((gT.mono (by decide)).2.1 e k he).trans ((GS.2.1 e k he).trans (o0 e k)), kS_.q gT (by decide), dT, eS.q gT (by decide), yS.q gT (by decide)⟩
