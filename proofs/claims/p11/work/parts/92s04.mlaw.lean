/-! THE MODEL WORKS A LAW OUT. -/
/-- but for the mark of an error all is as it was -/
def mV (h h' : XH) : Prop := mI h' ∧ (∀ c k, ¬ (c = 104 ∧ k = 54) → xI h' c k = xI h c k) ∧ (∀ c k, xR h' c k = xR h c k) ∧ (∀ c k, xL h' c k = xL h c k)
theorem mV.rf {h : XH} (g : mI h) : mV h h := ⟨g, fun _ _ _ => rfl, fun _ _ => rfl, fun _ _ => rfl⟩
theorem mV.set {h : XH} {v : Int32} (g : mI h) (hv : 0 ≤ v.toInt ∧ v.toInt ≤ 1) : mV h (xsetI h 104 54 v) :=
  ⟨⟨sinv_setI g.1 (by rw [vI10454]; exact hv), trivial, trivial, g.2.2.2⟩, fun c k z => yI_ne (eq_false z), fun _ _ => rfl, fun _ _ => rfl⟩
/-- a value, or the mark of an error -/
def zvv (o : Option Int) (v : Int64) (e : Int32) : Prop := match o with
  | none => ¬ e = 0
  | some x => e = 0 ∧ v.toInt = x ∧ zM v
/-- the parts of a knot -/
def zkp (Z : Nat → Int) (f i : Nat) : Prop :=
  zlf Z i ∨ (Z (300 + i) = 32 ∧ ∃ a : Nat, f ≤ a ∧ a < i ∧ Z (500 + i) = a) ∨ (zbo (Z (300 + i)) ∧ ∃ a c : Nat, (f ≤ a ∧ a < i) ∧ (f ≤ c ∧ c < i) ∧ Z (500 + i) = a ∧ Z (600 + i) = c)
theorem zvv_b {x : Int} {v : Int64} {e : Int32} (h : (1000000000000 < x ∨ x < -1000000000000) → ¬ e = 0) (h2 : ¬ (1000000000000 < x ∨ x < -1000000000000) → e = 0 ∧ v.toInt = x) : zvv (zbnd x) v e := by
  unfold zbnd
  by_cases z : 1000000000000 < x ∨ x < -1000000000000
  · rw [if_pos z]
    exact h z
  · rw [if_neg z]
    obtain ⟨a, b⟩ := h2 z
    exact ⟨a, b, by unfold zM; omega⟩
theorem zvv_t {q : Prop} [Decidable q] (h : q) : zvv (some (if q then 1 else 0)) (Int64.ofInt (1)) (0 : Int32) := by
  rw [if_pos h]
  exact ⟨rfl, rfl, by unfold zM; decide⟩
theorem zvv_f {q : Prop} [Decidable q] (h : ¬ q) : zvv (some (if q then 1 else 0)) (Int64.ofInt (0)) (0 : Int32) := by
  rw [if_neg h]
  exact ⟨rfl, rfl, by unfold zM; decide⟩
theorem zn_abs {a : Int64} (ha : zM a) : (if a < (0 : Int64) then -a else a).toInt = (a.toInt.natAbs : Int) := by
  have e0 : (0 : Int64).toInt = 0 := rfl
  split
  · rename_i h
    have := Int64.lt_iff_toInt_lt.mp h
    rw [zl_neg ha]
    omega
  · rename_i h
    have := Int.not_lt.mp (fun z => h (Int64.lt_iff_toInt_lt.mpr z))
    omega
set_option maxRecDepth 100000 in
set_option maxHeartbeats 4000000 in
theorem jk_val0 (l : Launch) (Z nm V : Nat → Int) (kk : Int32) (i : Nat) (h : XH) (hg : mI h) (hk : kk.toInt = i) (hi : i < 64) (ek : (xI h 126 kk.toNatClampNeg).toInt = jkn (Z (300 + i))) (ep : (xI h 127 kk.toNatClampNeg).toInt = Z (500 + i)) (eo : (xI h 128 kk.toNatClampNeg).toInt = Z (600 + i)) (c : Z (300 + i) = 2) : ∃ v h', CX l 0 0 false 226 [xf 13 104, xi kk] h [xl v] h' ∧ mV h h' ∧ (xI h 104 54 = 0 → zvv (some (Z (500 + i))) v (xI h' 104 54)) ∧ (¬ xI h 104 54 = 0 → ¬ xI h' 104 54 = 0) := by
  have jc : (xI h 126 kk.toNatClampNeg).toInt = 0 := by rw [ek, c]; rfl
  have e_1 : ((Int32.ofInt (1))).toInt = 1 := rfl
  have e_2 : ((Int32.ofInt (2))).toInt = 2 := rfl
  have ez : (0 : Int32).toInt = 0 := rfl
  have b : -2147483648 ≤ (xI h 127 kk.toNatClampNeg).toInt ∧ (xI h 127 kk.toNatClampNeg).toInt ≤ 2147483647 := i32r_of _
  rw [ep] at b
  have t1 : XT l 0 0 false 226 153 6051 0 [xf 13 104, xi kk, xun, xun, xun, xun] [] h 16 [xf 13 104, xi kk, xun, xun, xun, xun] [xl ((xI h (xR h 104 42) (kk).toNatClampNeg)).toInt64] h := XT_path (l := l) (fr := 0) (lo := 0) (full := false) (M := 226) (n := 153) (u := 6051) (pc := 0) (L := [xf 13 104, xi kk, xun, xun, xun, xun]) (st := []) (h := h) (inl := []) (n' := 120) (sp := [16]) (o := [0]) rfl rfl ⟨rfl, rfl, rfl⟩ rfl ⟨Nat.le_of_eq hg.2.2.2.1, Nat.le_of_eq hg.2.2.2.2⟩ ⟨⟨⟨⟨⟨trivial, (vnn hg.1 (rfl : vRf 104 41 = [126]) (by decide))⟩, (vp_of (i := kk) (n := 128) (by omega) (by omega))⟩, (show (xI h (xR h 104 41) (kk).toNatClampNeg) = 0 from by rw [vref hg.1 (rfl : vRf 104 41 = [126])]; exact Int32.toInt_inj.mp (by omega))⟩, (vnn hg.1 (rfl : vRf 104 42 = [127]) (by decide))⟩, (vp_of (i := kk) (n := 128) (by omega) (by omega))⟩
  rw [vref hg.1 (rfl : vRf 104 42 = [127])] at t1
  exact ⟨_, _, CX_ofT (h' := h) (by decide) rfl rfl trivial ⟨_, _, _, rfl, rfl, rfl⟩ rfl ⟨Nat.le_of_eq hg.2.2.2.1.symm, Nat.le_of_eq hg.2.2.2.2.symm⟩ t1, mV.rf hg, fun z => ⟨z, by rw [Int32.toInt_toInt64, ep], by unfold zM; rw [Int32.toInt_toInt64, ep]; omega⟩, fun z => z⟩
set_option maxRecDepth 100000 in
set_option maxHeartbeats 4000000 in
theorem jk_val1 (l : Launch) (Z nm V : Nat → Int) (kk : Int32) (i : Nat) (h : XH) (hg : mI h) (hk : kk.toInt = i) (hi : i < 64) (ek : (xI h 126 kk.toNatClampNeg).toInt = jkn (Z (300 + i))) (ep : (xI h 127 kk.toNatClampNeg).toInt = Z (500 + i)) (eo : (xI h 128 kk.toNatClampNeg).toInt = Z (600 + i)) (c : 33 ≤ Z (300 + i) ∧ Z (300 + i) ≤ 39) (b : Z (500 + i) = Z (300 + i) - 33) (hn : ∀ j : Nat, j < 7 → (xL h 131 j).toInt = nm j ∧ zM (xL h 131 j)) : ∃ v h', CX l 0 0 false 226 [xf 13 104, xi kk] h [xl v] h' ∧ mV h h' ∧ (xI h 104 54 = 0 → zvv (some (nm (Z (500 + i)).toNat)) v (xI h' 104 54)) ∧ (¬ xI h 104 54 = 0 → ¬ xI h' 104 54 = 0) := by
  have jc : (xI h 126 kk.toNatClampNeg).toInt = 1 := by rw [ek]; unfold jkn; rw [if_neg (by omega), if_pos c.1]
  have e_1 : ((Int32.ofInt (1))).toInt = 1 := rfl
  have e_2 : ((Int32.ofInt (2))).toInt = 2 := rfl
  have ez : (0 : Int32).toInt = 0 := rfl
  have nx : ((xI h 127 kk.toNatClampNeg)).toNatClampNeg = (Z (500 + i)).toNat := by show (xI h 127 kk.toNatClampNeg).toInt.toNat = _; rw [ep]
  have t1 : XT l 0 0 false 226 153 6051 0 [xf 13 104, xi kk, xun, xun, xun, xun] [] h 38 [xf 13 104, xi kk, xun, xun, xun, xun] [xl (xL h (xR h 104 52) ((xI h (xR h 104 42) (kk).toNatClampNeg)).toNatClampNeg)] h := XT_path (l := l) (fr := 0) (lo := 0) (full := false) (M := 226) (n := 153) (u := 6051) (pc := 0) (L := [xf 13 104, xi kk, xun, xun, xun, xun]) (st := []) (h := h) (inl := []) (n' := 120) (sp := [38]) (o := [1, 0]) rfl rfl ⟨rfl, rfl, rfl⟩ rfl ⟨Nat.le_of_eq hg.2.2.2.1, Nat.le_of_eq hg.2.2.2.2⟩ ⟨⟨⟨⟨⟨⟨⟨⟨⟨⟨trivial, (vnn hg.1 (rfl : vRf 104 41 = [126]) (by decide))⟩, (vp_of (i := kk) (n := 128) (by omega) (by omega))⟩, (show ¬ (xI h (xR h 104 41) (kk).toNatClampNeg) = 0 from by rw [vref hg.1 (rfl : vRf 104 41 = [126])]; exact fun z => absurd (congrArg Int32.toInt z) (by omega))⟩, (vnn hg.1 (rfl : vRf 104 41 = [126]) (by decide))⟩, (vp_of (i := kk) (n := 128) (by omega) (by omega))⟩, (show (xI h (xR h 104 41) (kk).toNatClampNeg) = (Int32.ofInt (1)) from by rw [vref hg.1 (rfl : vRf 104 41 = [126])]; exact Int32.toInt_inj.mp (by omega))⟩, (vnn hg.1 (rfl : vRf 104 52 = [131]) (by decide))⟩, (vnn hg.1 (rfl : vRf 104 42 = [127]) (by decide))⟩, (vp_of (i := kk) (n := 128) (by omega) (by omega))⟩, (show vp_in ((xI h (xR h 104 42) (kk).toNatClampNeg)) (7) from (by rw [vref hg.1 (rfl : vRf 104 42 = [127])]; exact (vp_of (i := (xI h 127 (kk).toNatClampNeg)) (n := 7) (by omega) (by omega) : vp_in ((xI h 127 (kk).toNatClampNeg)) (7))))⟩
  rw [vref hg.1 (rfl : vRf 104 52 = [131]), vref hg.1 (rfl : vRf 104 42 = [127])] at t1
  have hv := hn (Z (500 + i)).toNat (by omega)
  exact ⟨_, _, CX_ofT (h' := h) (by decide) rfl rfl trivial ⟨_, _, _, rfl, rfl, rfl⟩ rfl ⟨Nat.le_of_eq hg.2.2.2.1.symm, Nat.le_of_eq hg.2.2.2.2.symm⟩ t1, mV.rf hg, fun z => ⟨z, by rw [nx]; exact hv.1, by rw [nx]; exact hv.2⟩, fun z => z⟩
set_option maxRecDepth 100000 in
set_option maxHeartbeats 4000000 in
theorem jk_val2 (l : Launch) (Z nm V : Nat → Int) (kk : Int32) (i a : Nat) (h : XH) (hg : mI h) (hk : kk.toInt = i) (hi : i < 64) (ek : (xI h 126 kk.toNatClampNeg).toInt = jkn (Z (300 + i))) (ep : (xI h 127 kk.toNatClampNeg).toInt = Z (500 + i)) (eo : (xI h 128 kk.toNatClampNeg).toInt = Z (600 + i)) (c : Z (300 + i) = 32) (ea : Z (500 + i) = a) (la : a < i) (hv : xI h 104 54 = 0 → (xL h 132 a).toInt = V a ∧ zM (xL h 132 a)) : ∃ v h', CX l 0 0 false 226 [xf 13 104, xi kk] h [xl v] h' ∧ mV h h' ∧ (xI h 104 54 = 0 → zvv (some (if V a = 0 then 1 else 0)) v (xI h' 104 54)) ∧ (¬ xI h 104 54 = 0 → ¬ xI h' 104 54 = 0) := by
  have jc : (xI h 126 kk.toNatClampNeg).toInt = 2 := by rw [ek, c]; rfl
  have e_1 : ((Int32.ofInt (1))).toInt = 1 := rfl
  have e_2 : ((Int32.ofInt (2))).toInt = 2 := rfl
  have ez : (0 : Int32).toInt = 0 := rfl
  have nx : ((xI h 127 kk.toNatClampNeg)).toNatClampNeg = a := by show (xI h 127 kk.toNatClampNeg).toInt.toNat = _; rw [ep, ea]; rfl
  have ez6 : (Int64.ofInt (0)).toInt = 0 := rfl
  by_cases cb1 : (lg_cmp (xL h (xR h 104 53) ((xI h (xR h 104 42) (kk).toNatClampNeg)).toNatClampNeg) (Int64.ofInt (0))) = 0
  · have el_0 : (Int64.ofInt (0)).toInt = 0 := rfl
    have cb1r := cb1
    rw [vref hg.1 (rfl : vRf 104 53 = [132]), vref hg.1 (rfl : vRf 104 42 = [127])] at cb1r
    have dcb1 : (xL h 132 ((xI h 127 (kk).toNatClampNeg)).toNatClampNeg).toInt = (Int64.ofInt (0)).toInt := lgi_eq.mp cb1r
    have t2 : XT l 0 0 false 226 153 6051 0 [xf 13 104, xi kk, xun, xun, xun, xun] [] h 72 [xf 13 104, xi kk, xl (xL h (xR h 104 53) ((xI h (xR h 104 42) (kk).toNatClampNeg)).toNatClampNeg), xun, xun, xun] [xl (Int64.ofInt (1))] h := XT_path (l := l) (fr := 0) (lo := 0) (full := false) (M := 226) (n := 153) (u := 6051) (pc := 0) (L := [xf 13 104, xi kk, xun, xun, xun, xun]) (st := []) (h := h) (inl := []) (n' := 120) (sp := [72]) (o := [1, 1, 0, 0]) rfl rfl ⟨rfl, rfl, rfl⟩ rfl ⟨Nat.le_of_eq hg.2.2.2.1, Nat.le_of_eq hg.2.2.2.2⟩ ⟨⟨⟨⟨⟨⟨⟨⟨⟨⟨⟨⟨⟨⟨trivial, (vnn hg.1 (rfl : vRf 104 41 = [126]) (by decide))⟩, (vp_of (i := kk) (n := 128) (by omega) (by omega))⟩, (show ¬ (xI h (xR h 104 41) (kk).toNatClampNeg) = 0 from by rw [vref hg.1 (rfl : vRf 104 41 = [126])]; exact fun z => absurd (congrArg Int32.toInt z) (by omega))⟩, (vnn hg.1 (rfl : vRf 104 41 = [126]) (by decide))⟩, (vp_of (i := kk) (n := 128) (by omega) (by omega))⟩, (show ¬ (xI h (xR h 104 41) (kk).toNatClampNeg) = (Int32.ofInt (1)) from by rw [vref hg.1 (rfl : vRf 104 41 = [126])]; exact fun z => absurd (congrArg Int32.toInt z) (by omega))⟩, (vnn hg.1 (rfl : vRf 104 53 = [132]) (by decide))⟩, (vnn hg.1 (rfl : vRf 104 42 = [127]) (by decide))⟩, (vp_of (i := kk) (n := 128) (by omega) (by omega))⟩, (show vp_in ((xI h (xR h 104 42) (kk).toNatClampNeg)) (64) from (by rw [vref hg.1 (rfl : vRf 104 42 = [127])]; exact (vp_of (i := (xI h 127 (kk).toNatClampNeg)) (n := 64) (by omega) (by omega) : vp_in ((xI h 127 (kk).toNatClampNeg)) (64))))⟩, (vnn hg.1 (rfl : vRf 104 41 = [126]) (by decide))⟩, (vp_of (i := kk) (n := 128) (by omega) (by omega))⟩, (show (xI h (xR h 104 41) (kk).toNatClampNeg) = (Int32.ofInt (2)) from by rw [vref hg.1 (rfl : vRf 104 41 = [126])]; exact Int32.toInt_inj.mp (by omega))⟩, cb1⟩
    rw [vref hg.1 (rfl : vRf 104 53 = [132]), vref hg.1 (rfl : vRf 104 42 = [127])] at t2
    have d0 := dcb1
    rw [nx] at d0
    refine ⟨_, _, CX_ofT (h' := h) (by decide) rfl rfl trivial ⟨_, _, _, rfl, rfl, rfl⟩ rfl ⟨Nat.le_of_eq hg.2.2.2.1.symm, Nat.le_of_eq hg.2.2.2.2.symm⟩ t2, mV.rf hg, fun z => ?_, fun z => z⟩
    rw [(hv z).1] at d0
    rw [z]
    exact zvv_t d0
  · have el_0 : (Int64.ofInt (0)).toInt = 0 := rfl
    have cb1r := cb1
    rw [vref hg.1 (rfl : vRf 104 53 = [132]), vref hg.1 (rfl : vRf 104 42 = [127])] at cb1r
    have dcb1 : ¬ (xL h 132 ((xI h 127 (kk).toNatClampNeg)).toNatClampNeg).toInt = (Int64.ofInt (0)).toInt := fun z_ => cb1r (lgi_eq.mpr z_)
    have t3 : XT l 0 0 false 226 153 6051 0 [xf 13 104, xi kk, xun, xun, xun, xun] [] h 72 [xf 13 104, xi kk, xl (xL h (xR h 104 53) ((xI h (xR h 104 42) (kk).toNatClampNeg)).toNatClampNeg), xun, xun, xun] [xl (Int64.ofInt (0))] h := XT_path (l := l) (fr := 0) (lo := 0) (full := false) (M := 226) (n := 153) (u := 6051) (pc := 0) (L := [xf 13 104, xi kk, xun, xun, xun, xun]) (st := []) (h := h) (inl := []) (n' := 120) (sp := [72]) (o := [1, 1, 0, 1]) rfl rfl ⟨rfl, rfl, rfl⟩ rfl ⟨Nat.le_of_eq hg.2.2.2.1, Nat.le_of_eq hg.2.2.2.2⟩ ⟨⟨⟨⟨⟨⟨⟨⟨⟨⟨⟨⟨⟨⟨trivial, (vnn hg.1 (rfl : vRf 104 41 = [126]) (by decide))⟩, (vp_of (i := kk) (n := 128) (by omega) (by omega))⟩, (show ¬ (xI h (xR h 104 41) (kk).toNatClampNeg) = 0 from by rw [vref hg.1 (rfl : vRf 104 41 = [126])]; exact fun z => absurd (congrArg Int32.toInt z) (by omega))⟩, (vnn hg.1 (rfl : vRf 104 41 = [126]) (by decide))⟩, (vp_of (i := kk) (n := 128) (by omega) (by omega))⟩, (show ¬ (xI h (xR h 104 41) (kk).toNatClampNeg) = (Int32.ofInt (1)) from by rw [vref hg.1 (rfl : vRf 104 41 = [126])]; exact fun z => absurd (congrArg Int32.toInt z) (by omega))⟩, (vnn hg.1 (rfl : vRf 104 53 = [132]) (by decide))⟩, (vnn hg.1 (rfl : vRf 104 42 = [127]) (by decide))⟩, (vp_of (i := kk) (n := 128) (by omega) (by omega))⟩, (show vp_in ((xI h (xR h 104 42) (kk).toNatClampNeg)) (64) from (by rw [vref hg.1 (rfl : vRf 104 42 = [127])]; exact (vp_of (i := (xI h 127 (kk).toNatClampNeg)) (n := 64) (by omega) (by omega) : vp_in ((xI h 127 (kk).toNatClampNeg)) (64))))⟩, (vnn hg.1 (rfl : vRf 104 41 = [126]) (by decide))⟩, (vp_of (i := kk) (n := 128) (by omega) (by omega))⟩, (show (xI h (xR h 104 41) (kk).toNatClampNeg) = (Int32.ofInt (2)) from by rw [vref hg.1 (rfl : vRf 104 41 = [126])]; exact Int32.toInt_inj.mp (by omega))⟩, cb1⟩
    rw [vref hg.1 (rfl : vRf 104 53 = [132]), vref hg.1 (rfl : vRf 104 42 = [127])] at t3
    have d0 := dcb1
    rw [nx] at d0
    refine ⟨_, _, CX_ofT (h' := h) (by decide) rfl rfl trivial ⟨_, _, _, rfl, rfl, rfl⟩ rfl ⟨Nat.le_of_eq hg.2.2.2.1.symm, Nat.le_of_eq hg.2.2.2.2.symm⟩ t3, mV.rf hg, fun z => ?_, fun z => z⟩
    rw [(hv z).1] at d0
    rw [z]
    exact zvv_f d0
set_option maxRecDepth 100000 in
set_option maxHeartbeats 4000000 in
theorem jk_bounded (l : Launch) (a : Int64) (h : XH) (hg : mI h) : ∃ v h', CX l 0 0 false 227 [xf 13 104, xl a] h [xl v] h' ∧ mV h h' ∧ (xI h 104 54 = 0 → zvv (zbnd a.toInt) v (xI h' 104 54)) ∧ (¬ xI h 104 54 = 0 → ¬ xI h' 104 54 = 0) := by
  have o1 : ¬ (Int32.ofInt (1)) = (0 : Int32) := by decide
  have o0 : (Int32.ofInt (0)) = (0 : Int32) := rfl
  by_cases cb1 : (xI h 104 54) = 0
  · have e_0 : (0 : Int32).toInt = 0 := rfl
    have dcb1 : (xI h 104 54).toInt = (0 : Int32).toInt := congrArg Int32.toInt cb1
    by_cases cb2 : (0 : Int32) < (lg_cmp a (Int64.ofInt (1000000000000)))
    · have el_1000000000000 : (Int64.ofInt (1000000000000)).toInt = 1000000000000 := rfl
      have dcb2 : (Int64.ofInt (1000000000000)).toInt < a.toInt := lgi_gt.mp cb2
      have t3 : XT l 0 0 false 227 153 6051 0 [xf 13 104, xl a, xun] [] h 44 [xf 13 104, xl a, xun] [xl (Int64.ofInt (0))] (xsetI h 104 54 (Int32.ofInt (1))) := XT_path (l := l) (fr := 0) (lo := 0) (full := false) (M := 227) (n := 153) (u := 6051) (pc := 0) (L := [xf 13 104, xl a, xun]) (st := []) (h := h) (inl := []) (n' := 80) (sp := [44]) (o := [0, 1, 0]) rfl rfl ⟨rfl, rfl, rfl⟩ rfl ⟨Nat.le_of_eq hg.2.2.2.1, Nat.le_of_eq hg.2.2.2.2⟩ ⟨⟨⟨⟨trivial, cb1⟩, cb2⟩, (Or.inr rfl)⟩, (show ¬ (Int32.ofInt (1)) = 0 from by decide)⟩
      refine ⟨_, _, CX_ofT (h' := (xsetI h 104 54 (Int32.ofInt (1)))) (by decide) rfl rfl trivial ⟨_, _, _, rfl, rfl, rfl⟩ rfl ⟨Nat.le_of_eq hg.2.2.2.1.symm, Nat.le_of_eq hg.2.2.2.2.symm⟩ t3, mV.set hg (by decide), fun z => ?_, fun z => ?_⟩
      · rw [show xI (xsetI h 104 54 (Int32.ofInt (1))) 104 54 = _ from yI_same]
        exact zvv_b (fun _ => o1) (fun y => absurd (by omega) y)
      · rw [show xI (xsetI h 104 54 (Int32.ofInt (1))) 104 54 = _ from yI_same]
        exact absurd cb1 z
    · have el_1000000000000 : (Int64.ofInt (1000000000000)).toInt = 1000000000000 := rfl
      have dcb2 : a.toInt ≤ (Int64.ofInt (1000000000000)).toInt := Int.not_lt.mp (fun z_ => cb2 (lgi_gt.mpr z_))
      by_cases cb4 : (0 : Int32) ≤ (lg_cmp a (Int64.ofInt (-1000000000000)))
      · have el_m1000000000000 : (Int64.ofInt (-1000000000000)).toInt = -1000000000000 := rfl
        have dcb4 : (Int64.ofInt (-1000000000000)).toInt ≤ a.toInt := lgi_ge.mp cb4
        have t5 : XT l 0 0 false 227 153 6051 0 [xf 13 104, xl a, xun] [] h 44 [xf 13 104, xl a, xun] [xl a] (xsetI h 104 54 (Int32.ofInt (0))) := XT_path (l := l) (fr := 0) (lo := 0) (full := false) (M := 227) (n := 153) (u := 6051) (pc := 0) (L := [xf 13 104, xl a, xun]) (st := []) (h := h) (inl := []) (n' := 80) (sp := [44]) (o := [0, 0, 1, 1]) rfl rfl ⟨rfl, rfl, rfl⟩ rfl ⟨Nat.le_of_eq hg.2.2.2.1, Nat.le_of_eq hg.2.2.2.2⟩ ⟨⟨⟨⟨⟨trivial, cb1⟩, cb2⟩, cb4⟩, (Or.inl rfl)⟩, rfl⟩
        refine ⟨_, _, CX_ofT (h' := (xsetI h 104 54 (Int32.ofInt (0)))) (by decide) rfl rfl trivial ⟨_, _, _, rfl, rfl, rfl⟩ rfl ⟨Nat.le_of_eq hg.2.2.2.1.symm, Nat.le_of_eq hg.2.2.2.2.symm⟩ t5, mV.set hg (by decide), fun z => ?_, fun z => ?_⟩
        · rw [show xI (xsetI h 104 54 (Int32.ofInt (0))) 104 54 = _ from yI_same]
          exact zvv_b (fun y => absurd y (by omega)) (fun _ => ⟨o0, rfl⟩)
        · rw [show xI (xsetI h 104 54 (Int32.ofInt (0))) 104 54 = _ from yI_same]
          exact absurd cb1 z
      · have el_m1000000000000 : (Int64.ofInt (-1000000000000)).toInt = -1000000000000 := rfl
        have dcb4 : a.toInt < (Int64.ofInt (-1000000000000)).toInt := Int.not_le.mp (fun z_ => cb4 (lgi_ge.mpr z_))
        have t6 : XT l 0 0 false 227 153 6051 0 [xf 13 104, xl a, xun] [] h 44 [xf 13 104, xl a, xun] [xl (Int64.ofInt (0))] (xsetI h 104 54 (Int32.ofInt (1))) := XT_path (l := l) (fr := 0) (lo := 0) (full := false) (M := 227) (n := 153) (u := 6051) (pc := 0) (L := [xf 13 104, xl a, xun]) (st := []) (h := h) (inl := []) (n' := 80) (sp := [44]) (o := [0, 0, 0, 0]) rfl rfl ⟨rfl, rfl, rfl⟩ rfl ⟨Nat.le_of_eq hg.2.2.2.1, Nat.le_of_eq hg.2.2.2.2⟩ ⟨⟨⟨⟨⟨trivial, cb1⟩, cb2⟩, cb4⟩, (Or.inr rfl)⟩, (show ¬ (Int32.ofInt (1)) = 0 from by decide)⟩
        refine ⟨_, _, CX_ofT (h' := (xsetI h 104 54 (Int32.ofInt (1)))) (by decide) rfl rfl trivial ⟨_, _, _, rfl, rfl, rfl⟩ rfl ⟨Nat.le_of_eq hg.2.2.2.1.symm, Nat.le_of_eq hg.2.2.2.2.symm⟩ t6, mV.set hg (by decide), fun z => ?_, fun z => ?_⟩
        · rw [show xI (xsetI h 104 54 (Int32.ofInt (1))) 104 54 = _ from yI_same]
          exact zvv_b (fun _ => o1) (fun y => absurd (by omega) y)
        · rw [show xI (xsetI h 104 54 (Int32.ofInt (1))) 104 54 = _ from yI_same]
          exact absurd cb1 z
  · have e_0 : (0 : Int32).toInt = 0 := rfl
    have dcb1 : ¬ (xI h 104 54).toInt = (0 : Int32).toInt := fun z_ => cb1 (Int32.toInt_inj.mp z_)
    have t7 : XT l 0 0 false 227 153 6051 0 [xf 13 104, xl a, xun] [] h 44 [xf 13 104, xl a, xun] [xl (Int64.ofInt (0))] (xsetI h 104 54 (Int32.ofInt (1))) := XT_path (l := l) (fr := 0) (lo := 0) (full := false) (M := 227) (n := 153) (u := 6051) (pc := 0) (L := [xf 13 104, xl a, xun]) (st := []) (h := h) (inl := []) (n' := 80) (sp := [44]) (o := [1, 0]) rfl rfl ⟨rfl, rfl, rfl⟩ rfl ⟨Nat.le_of_eq hg.2.2.2.1, Nat.le_of_eq hg.2.2.2.2⟩ ⟨⟨⟨trivial, cb1⟩, (Or.inr rfl)⟩, (show ¬ (Int32.ofInt (1)) = 0 from by decide)⟩
    refine ⟨_, _, CX_ofT (h' := (xsetI h 104 54 (Int32.ofInt (1)))) (by decide) rfl rfl trivial ⟨_, _, _, rfl, rfl, rfl⟩ rfl ⟨Nat.le_of_eq hg.2.2.2.1.symm, Nat.le_of_eq hg.2.2.2.2.symm⟩ t7, mV.set hg (by decide), fun z => ?_, fun z => ?_⟩
    · rw [show xI (xsetI h 104 54 (Int32.ofInt (1))) 104 54 = _ from yI_same]
      exact absurd z cb1
    · rw [show xI (xsetI h 104 54 (Int32.ofInt (1))) 104 54 = _ from yI_same]
      exact o1
set_option maxRecDepth 100000 in
set_option maxHeartbeats 4000000 in
theorem jk_times (l : Launch) (a b : Int64) (h : XH) (hg : mI h) (hm : xI h 104 54 = 0 → zM a ∧ zM b) : ∃ v h', CX l 0 0 false 228 [xf 13 104, xl a, xl b] h [xl v] h' ∧ mV h h' ∧ (xI h 104 54 = 0 → zvv (zbnd (a.toInt * b.toInt)) v (xI h' 104 54)) ∧ (¬ xI h 104 54 = 0 → ¬ xI h' 104 54 = 0) := by
  have o1 : ¬ (Int32.ofInt (1)) = (0 : Int32) := by decide
  have o0 : (Int32.ofInt (0)) = (0 : Int32) := rfl
  by_cases cb1 : (lg_cmp a (Int64.ofInt (0))) = 0
  · have el_0 : (Int64.ofInt (0)).toInt = 0 := rfl
    have dcb1 : a.toInt = (Int64.ofInt (0)).toInt := lgi_eq.mp cb1
    by_cases cb2 : (xI h 104 54) = 0
    · have e_0 : (0 : Int32).toInt = 0 := rfl
      have dcb2 : (xI h 104 54).toInt = (0 : Int32).toInt := congrArg Int32.toInt cb2
      have t3 : XT l 0 0 false 228 153 6051 0 [xf 13 104, xl a, xun, xl b, xun, xun] [] h 86 [xf 13 104, xl a, xun, xl b, xun, xi (Int32.ofInt (0))] [xl (a * b)] (xsetI h 104 54 (Int32.ofInt (0))) := XT_path (l := l) (fr := 0) (lo := 0) (full := false) (M := 228) (n := 153) (u := 6051) (pc := 0) (L := [xf 13 104, xl a, xun, xl b, xun, xun]) (st := []) (h := h) (inl := []) (n' := 120) (sp := [86]) (o := [1, 0, 1, 1]) rfl rfl ⟨rfl, rfl, rfl⟩ rfl ⟨Nat.le_of_eq hg.2.2.2.1, Nat.le_of_eq hg.2.2.2.2⟩ ⟨⟨⟨⟨⟨trivial, cb1⟩, cb2⟩, rfl⟩, (Or.inl rfl)⟩, rfl⟩
      refine ⟨_, _, CX_ofT (h' := (xsetI h 104 54 (Int32.ofInt (0)))) (by decide) rfl rfl trivial ⟨_, _, _, rfl, rfl, rfl⟩ rfl ⟨Nat.le_of_eq hg.2.2.2.1.symm, Nat.le_of_eq hg.2.2.2.2.symm⟩ t3, mV.set hg (by decide), fun z => ?_, fun z => ?_⟩
      · rw [show xI (xsetI h 104 54 (Int32.ofInt (0))) 104 54 = _ from yI_same]
        obtain ⟨ha, hb⟩ := hm z
        have e : a.toInt = 0 := dcb1
        exact zvv_b (fun y => absurd y (by rw [e, Int.zero_mul]; decide)) (fun _ => ⟨o0, zl_mul (by rw [e, Int.zero_mul]; decide) (by rw [e, Int.zero_mul]; decide)⟩)
      · rw [show xI (xsetI h 104 54 (Int32.ofInt (0))) 104 54 = _ from yI_same]
        exact absurd cb2 z
    · have e_0 : (0 : Int32).toInt = 0 := rfl
      have dcb2 : ¬ (xI h 104 54).toInt = (0 : Int32).toInt := fun z_ => cb2 (Int32.toInt_inj.mp z_)
      have t4 : XT l 0 0 false 228 153 6051 0 [xf 13 104, xl a, xun, xl b, xun, xun] [] h 86 [xf 13 104, xl a, xun, xl b, xun, xi (Int32.ofInt (0))] [xl (Int64.ofInt (0))] (xsetI h 104 54 (Int32.ofInt (1))) := XT_path (l := l) (fr := 0) (lo := 0) (full := false) (M := 228) (n := 153) (u := 6051) (pc := 0) (L := [xf 13 104, xl a, xun, xl b, xun, xun]) (st := []) (h := h) (inl := []) (n' := 120) (sp := [86]) (o := [1, 1, 0]) rfl rfl ⟨rfl, rfl, rfl⟩ rfl ⟨Nat.le_of_eq hg.2.2.2.1, Nat.le_of_eq hg.2.2.2.2⟩ ⟨⟨⟨⟨trivial, cb1⟩, cb2⟩, (Or.inr rfl)⟩, (show ¬ (Int32.ofInt (1)) = 0 from by decide)⟩
      refine ⟨_, _, CX_ofT (h' := (xsetI h 104 54 (Int32.ofInt (1)))) (by decide) rfl rfl trivial ⟨_, _, _, rfl, rfl, rfl⟩ rfl ⟨Nat.le_of_eq hg.2.2.2.1.symm, Nat.le_of_eq hg.2.2.2.2.symm⟩ t4, mV.set hg (by decide), fun z => ?_, fun z => ?_⟩
      · rw [show xI (xsetI h 104 54 (Int32.ofInt (1))) 104 54 = _ from yI_same]
        exact absurd z cb2
      · rw [show xI (xsetI h 104 54 (Int32.ofInt (1))) 104 54 = _ from yI_same]
        exact o1
  · have el_0 : (Int64.ofInt (0)).toInt = 0 := rfl
    have dcb1 : ¬ a.toInt = (Int64.ofInt (0)).toInt := fun z_ => cb1 (lgi_eq.mpr z_)
    by_cases cb5 : (lg_cmp b (Int64.ofInt (0))) = 0
    · have el_0 : (Int64.ofInt (0)).toInt = 0 := rfl
      have dcb5 : b.toInt = (Int64.ofInt (0)).toInt := lgi_eq.mp cb5
      by_cases cb6 : (xI h 104 54) = 0
      · have e_0 : (0 : Int32).toInt = 0 := rfl
        have dcb6 : (xI h 104 54).toInt = (0 : Int32).toInt := congrArg Int32.toInt cb6
        have t7 : XT l 0 0 false 228 153 6051 0 [xf 13 104, xl a, xun, xl b, xun, xun] [] h 86 [xf 13 104, xl a, xun, xl b, xun, xi (Int32.ofInt (0))] [xl (a * b)] (xsetI h 104 54 (Int32.ofInt (0))) := XT_path (l := l) (fr := 0) (lo := 0) (full := false) (M := 228) (n := 153) (u := 6051) (pc := 0) (L := [xf 13 104, xl a, xun, xl b, xun, xun]) (st := []) (h := h) (inl := []) (n' := 120) (sp := [86]) (o := [0, 1, 0, 1, 1]) rfl rfl ⟨rfl, rfl, rfl⟩ rfl ⟨Nat.le_of_eq hg.2.2.2.1, Nat.le_of_eq hg.2.2.2.2⟩ ⟨⟨⟨⟨⟨⟨trivial, cb1⟩, cb5⟩, cb6⟩, rfl⟩, (Or.inl rfl)⟩, rfl⟩
        refine ⟨_, _, CX_ofT (h' := (xsetI h 104 54 (Int32.ofInt (0)))) (by decide) rfl rfl trivial ⟨_, _, _, rfl, rfl, rfl⟩ rfl ⟨Nat.le_of_eq hg.2.2.2.1.symm, Nat.le_of_eq hg.2.2.2.2.symm⟩ t7, mV.set hg (by decide), fun z => ?_, fun z => ?_⟩
        · rw [show xI (xsetI h 104 54 (Int32.ofInt (0))) 104 54 = _ from yI_same]
          obtain ⟨ha, hb⟩ := hm z
          have e : b.toInt = 0 := dcb5
          exact zvv_b (fun y => absurd y (by rw [e, Int.mul_zero]; decide)) (fun _ => ⟨o0, zl_mul (by rw [e, Int.mul_zero]; decide) (by rw [e, Int.mul_zero]; decide)⟩)
        · rw [show xI (xsetI h 104 54 (Int32.ofInt (0))) 104 54 = _ from yI_same]
          exact absurd cb6 z
      · have e_0 : (0 : Int32).toInt = 0 := rfl
        have dcb6 : ¬ (xI h 104 54).toInt = (0 : Int32).toInt := fun z_ => cb6 (Int32.toInt_inj.mp z_)
        have t8 : XT l 0 0 false 228 153 6051 0 [xf 13 104, xl a, xun, xl b, xun, xun] [] h 86 [xf 13 104, xl a, xun, xl b, xun, xi (Int32.ofInt (0))] [xl (Int64.ofInt (0))] (xsetI h 104 54 (Int32.ofInt (1))) := XT_path (l := l) (fr := 0) (lo := 0) (full := false) (M := 228) (n := 153) (u := 6051) (pc := 0) (L := [xf 13 104, xl a, xun, xl b, xun, xun]) (st := []) (h := h) (inl := []) (n' := 120) (sp := [86]) (o := [0, 1, 1, 0]) rfl rfl ⟨rfl, rfl, rfl⟩ rfl ⟨Nat.le_of_eq hg.2.2.2.1, Nat.le_of_eq hg.2.2.2.2⟩ ⟨⟨⟨⟨⟨trivial, cb1⟩, cb5⟩, cb6⟩, (Or.inr rfl)⟩, (show ¬ (Int32.ofInt (1)) = 0 from by decide)⟩
        refine ⟨_, _, CX_ofT (h' := (xsetI h 104 54 (Int32.ofInt (1)))) (by decide) rfl rfl trivial ⟨_, _, _, rfl, rfl, rfl⟩ rfl ⟨Nat.le_of_eq hg.2.2.2.1.symm, Nat.le_of_eq hg.2.2.2.2.symm⟩ t8, mV.set hg (by decide), fun z => ?_, fun z => ?_⟩
        · rw [show xI (xsetI h 104 54 (Int32.ofInt (1))) 104 54 = _ from yI_same]
          exact absurd z cb6
        · rw [show xI (xsetI h 104 54 (Int32.ofInt (1))) 104 54 = _ from yI_same]
          exact o1
    · have el_0 : (Int64.ofInt (0)).toInt = 0 := rfl
      have dcb5 : ¬ b.toInt = (Int64.ofInt (0)).toInt := fun z_ => cb5 (lgi_eq.mpr z_)
      by_cases cb9 : (0 : Int32) ≤ (lg_cmp b (Int64.ofInt (0)))
      · have el_0 : (Int64.ofInt (0)).toInt = 0 := rfl
        have dcb9 : (Int64.ofInt (0)).toInt ≤ b.toInt := lgi_ge.mp cb9
        by_cases cb10 : (0 : Int32) ≤ (lg_cmp a (Int64.ofInt (0)))
        · have el_0 : (Int64.ofInt (0)).toInt = 0 := rfl
          have dcb10 : (Int64.ofInt (0)).toInt ≤ a.toInt := lgi_ge.mp cb10
          by_cases cb11 : (lg_cmp b ((Int64.ofInt (1000000000000)) / a)) ≤ 0
          · have el_1000000000000 : (Int64.ofInt (1000000000000)).toInt = 1000000000000 := rfl
            have dcb11 : b.toInt ≤ ((Int64.ofInt (1000000000000)) / a).toInt := lgi_le.mp cb11
            by_cases cb12 : (xI h 104 54) = 0
            · have e_0 : (0 : Int32).toInt = 0 := rfl
              have dcb12 : (xI h 104 54).toInt = (0 : Int32).toInt := congrArg Int32.toInt cb12
              have t13 : XT l 0 0 false 228 153 6051 0 [xf 13 104, xl a, xun, xl b, xun, xun] [] h 86 [xf 13 104, xl a, xun, xl b, xun, xi (Int32.ofInt (0))] [xl (a * b)] (xsetI h 104 54 (Int32.ofInt (0))) := XT_path (l := l) (fr := 0) (lo := 0) (full := false) (M := 228) (n := 153) (u := 6051) (pc := 0) (L := [xf 13 104, xl a, xun, xl b, xun, xun]) (st := []) (h := h) (inl := []) (n' := 120) (sp := [86]) (o := [0, 0, 1, 1, 1, 0, 1, 1]) rfl rfl ⟨rfl, rfl, rfl⟩ rfl ⟨Nat.le_of_eq hg.2.2.2.1, Nat.le_of_eq hg.2.2.2.2⟩ ⟨⟨⟨⟨⟨⟨⟨⟨⟨⟨trivial, cb1⟩, cb5⟩, cb9⟩, cb10⟩, (fun e => cb1 (by rw [e]; rfl) : ¬ a = 0)⟩, cb11⟩, cb12⟩, rfl⟩, (Or.inl rfl)⟩, rfl⟩
              refine ⟨_, _, CX_ofT (h' := (xsetI h 104 54 (Int32.ofInt (0)))) (by decide) rfl rfl trivial ⟨_, _, _, rfl, rfl, rfl⟩ rfl ⟨Nat.le_of_eq hg.2.2.2.1.symm, Nat.le_of_eq hg.2.2.2.2.symm⟩ t13, mV.set hg (by decide), fun z => ?_, fun z => ?_⟩
              · rw [show xI (xsetI h 104 54 (Int32.ofInt (0))) 104 54 = _ from yI_same]
                obtain ⟨ha, hb⟩ := hm z
                have m := dcb11
                have eB : (Int64.ofInt (1000000000000)).toInt = 1000000000000 := rfl
                have ez : (Int64.ofInt (0)).toInt = 0 := rfl
                have ez2 : (0 : Int64).toInt = 0 := rfl
                have e1 : b.toInt = (b.toInt.natAbs : Int) := (show b.toInt = (b.toInt.natAbs : Int) by have := dcb9; omega)
                have e2 : a.toInt = (a.toInt.natAbs : Int) := (show a.toInt = (a.toInt.natAbs : Int) by have := dcb10; omega)
                have m2 : ¬ ((1000000000000 : Int).tdiv (a.toInt.natAbs : Int) < (b.toInt.natAbs : Int)) := by rw [← e1, ← e2, ← eB, ← zl_div (by decide)]; omega
                exact zvv_b (fun y => absurd ((zl_much dcb1).mpr y) m2) (fun y => ⟨o0, zl_mul (by omega) (by omega)⟩)
              · rw [show xI (xsetI h 104 54 (Int32.ofInt (0))) 104 54 = _ from yI_same]
                exact absurd cb12 z
            · have e_0 : (0 : Int32).toInt = 0 := rfl
              have dcb12 : ¬ (xI h 104 54).toInt = (0 : Int32).toInt := fun z_ => cb12 (Int32.toInt_inj.mp z_)
              have t14 : XT l 0 0 false 228 153 6051 0 [xf 13 104, xl a, xun, xl b, xun, xun] [] h 86 [xf 13 104, xl a, xun, xl b, xun, xi (Int32.ofInt (0))] [xl (Int64.ofInt (0))] (xsetI h 104 54 (Int32.ofInt (1))) := XT_path (l := l) (fr := 0) (lo := 0) (full := false) (M := 228) (n := 153) (u := 6051) (pc := 0) (L := [xf 13 104, xl a, xun, xl b, xun, xun]) (st := []) (h := h) (inl := []) (n' := 120) (sp := [86]) (o := [0, 0, 1, 1, 1, 1, 0]) rfl rfl ⟨rfl, rfl, rfl⟩ rfl ⟨Nat.le_of_eq hg.2.2.2.1, Nat.le_of_eq hg.2.2.2.2⟩ ⟨⟨⟨⟨⟨⟨⟨⟨⟨trivial, cb1⟩, cb5⟩, cb9⟩, cb10⟩, (fun e => cb1 (by rw [e]; rfl) : ¬ a = 0)⟩, cb11⟩, cb12⟩, (Or.inr rfl)⟩, (show ¬ (Int32.ofInt (1)) = 0 from by decide)⟩
              refine ⟨_, _, CX_ofT (h' := (xsetI h 104 54 (Int32.ofInt (1)))) (by decide) rfl rfl trivial ⟨_, _, _, rfl, rfl, rfl⟩ rfl ⟨Nat.le_of_eq hg.2.2.2.1.symm, Nat.le_of_eq hg.2.2.2.2.symm⟩ t14, mV.set hg (by decide), fun z => ?_, fun z => ?_⟩
              · rw [show xI (xsetI h 104 54 (Int32.ofInt (1))) 104 54 = _ from yI_same]
                exact absurd z cb12
              · rw [show xI (xsetI h 104 54 (Int32.ofInt (1))) 104 54 = _ from yI_same]
                exact o1
          · have el_1000000000000 : (Int64.ofInt (1000000000000)).toInt = 1000000000000 := rfl
            have dcb11 : ((Int64.ofInt (1000000000000)) / a).toInt < b.toInt := Int.not_le.mp (fun z_ => cb11 (lgi_le.mpr z_))
            by_cases cb15 : (xI h 104 54) = 0
            · have e_0 : (0 : Int32).toInt = 0 := rfl
              have dcb15 : (xI h 104 54).toInt = (0 : Int32).toInt := congrArg Int32.toInt cb15
              have t16 : XT l 0 0 false 228 153 6051 0 [xf 13 104, xl a, xun, xl b, xun, xun] [] h 86 [xf 13 104, xl a, xun, xl b, xun, xi (Int32.ofInt (1))] [xl (Int64.ofInt (0))] (xsetI h 104 54 (Int32.ofInt (1))) := XT_path (l := l) (fr := 0) (lo := 0) (full := false) (M := 228) (n := 153) (u := 6051) (pc := 0) (L := [xf 13 104, xl a, xun, xl b, xun, xun]) (st := []) (h := h) (inl := []) (n' := 120) (sp := [86]) (o := [0, 0, 1, 1, 0, 0, 0, 0]) rfl rfl ⟨rfl, rfl, rfl⟩ rfl ⟨Nat.le_of_eq hg.2.2.2.1, Nat.le_of_eq hg.2.2.2.2⟩ ⟨⟨⟨⟨⟨⟨⟨⟨⟨⟨trivial, cb1⟩, cb5⟩, cb9⟩, cb10⟩, (fun e => cb1 (by rw [e]; rfl) : ¬ a = 0)⟩, cb11⟩, cb15⟩, (show ¬ (Int32.ofInt (1)) = 0 from by decide)⟩, (Or.inr rfl)⟩, (show ¬ (Int32.ofInt (1)) = 0 from by decide)⟩
              refine ⟨_, _, CX_ofT (h' := (xsetI h 104 54 (Int32.ofInt (1)))) (by decide) rfl rfl trivial ⟨_, _, _, rfl, rfl, rfl⟩ rfl ⟨Nat.le_of_eq hg.2.2.2.1.symm, Nat.le_of_eq hg.2.2.2.2.symm⟩ t16, mV.set hg (by decide), fun z => ?_, fun z => ?_⟩
              · rw [show xI (xsetI h 104 54 (Int32.ofInt (1))) 104 54 = _ from yI_same]
                obtain ⟨ha, hb⟩ := hm z
                have m := dcb11
                have eB : (Int64.ofInt (1000000000000)).toInt = 1000000000000 := rfl
                have ez : (Int64.ofInt (0)).toInt = 0 := rfl
                have ez2 : (0 : Int64).toInt = 0 := rfl
                have e1 : b.toInt = (b.toInt.natAbs : Int) := (show b.toInt = (b.toInt.natAbs : Int) by have := dcb9; omega)
                have e2 : a.toInt = (a.toInt.natAbs : Int) := (show a.toInt = (a.toInt.natAbs : Int) by have := dcb10; omega)
                have m2 : ((1000000000000 : Int).tdiv (a.toInt.natAbs : Int) < (b.toInt.natAbs : Int)) := by rw [← e1, ← e2, ← eB, ← zl_div (by decide)]; omega
                exact zvv_b (fun _ => o1) (fun y => absurd ((zl_much dcb1).mp m2) y)
              · rw [show xI (xsetI h 104 54 (Int32.ofInt (1))) 104 54 = _ from yI_same]
                exact absurd cb15 z
            · have e_0 : (0 : Int32).toInt = 0 := rfl
              have dcb15 : ¬ (xI h 104 54).toInt = (0 : Int32).toInt := fun z_ => cb15 (Int32.toInt_inj.mp z_)
              have t17 : XT l 0 0 false 228 153 6051 0 [xf 13 104, xl a, xun, xl b, xun, xun] [] h 86 [xf 13 104, xl a, xun, xl b, xun, xi (Int32.ofInt (1))] [xl (Int64.ofInt (0))] (xsetI h 104 54 (Int32.ofInt (1))) := XT_path (l := l) (fr := 0) (lo := 0) (full := false) (M := 228) (n := 153) (u := 6051) (pc := 0) (L := [xf 13 104, xl a, xun, xl b, xun, xun]) (st := []) (h := h) (inl := []) (n' := 120) (sp := [86]) (o := [0, 0, 1, 1, 0, 1, 0]) rfl rfl ⟨rfl, rfl, rfl⟩ rfl ⟨Nat.le_of_eq hg.2.2.2.1, Nat.le_of_eq hg.2.2.2.2⟩ ⟨⟨⟨⟨⟨⟨⟨⟨⟨trivial, cb1⟩, cb5⟩, cb9⟩, cb10⟩, (fun e => cb1 (by rw [e]; rfl) : ¬ a = 0)⟩, cb11⟩, cb15⟩, (Or.inr rfl)⟩, (show ¬ (Int32.ofInt (1)) = 0 from by decide)⟩
              refine ⟨_, _, CX_ofT (h' := (xsetI h 104 54 (Int32.ofInt (1)))) (by decide) rfl rfl trivial ⟨_, _, _, rfl, rfl, rfl⟩ rfl ⟨Nat.le_of_eq hg.2.2.2.1.symm, Nat.le_of_eq hg.2.2.2.2.symm⟩ t17, mV.set hg (by decide), fun z => ?_, fun z => ?_⟩
              · rw [show xI (xsetI h 104 54 (Int32.ofInt (1))) 104 54 = _ from yI_same]
                exact absurd z cb15
              · rw [show xI (xsetI h 104 54 (Int32.ofInt (1))) 104 54 = _ from yI_same]
                exact o1
        · have el_0 : (Int64.ofInt (0)).toInt = 0 := rfl
          have dcb10 : a.toInt < (Int64.ofInt (0)).toInt := Int.not_le.mp (fun z_ => cb10 (lgi_ge.mpr z_))
          by_cases cb18 : (lg_cmp b ((Int64.ofInt (1000000000000)) / (-a))) ≤ 0
          · have el_1000000000000 : (Int64.ofInt (1000000000000)).toInt = 1000000000000 := rfl
            have dcb18 : b.toInt ≤ ((Int64.ofInt (1000000000000)) / (-a)).toInt := lgi_le.mp cb18
            by_cases cb19 : (xI h 104 54) = 0
            · have e_0 : (0 : Int32).toInt = 0 := rfl
              have dcb19 : (xI h 104 54).toInt = (0 : Int32).toInt := congrArg Int32.toInt cb19
              have t20 : XT l 0 0 false 228 153 6051 0 [xf 13 104, xl a, xun, xl b, xun, xun] [] h 86 [xf 13 104, xl a, xun, xl b, xun, xi (Int32.ofInt (0))] [xl (a * b)] (xsetI h 104 54 (Int32.ofInt (0))) := XT_path (l := l) (fr := 0) (lo := 0) (full := false) (M := 228) (n := 153) (u := 6051) (pc := 0) (L := [xf 13 104, xl a, xun, xl b, xun, xun]) (st := []) (h := h) (inl := []) (n' := 120) (sp := [86]) (o := [0, 0, 1, 0, 1, 0, 1, 1]) rfl rfl ⟨rfl, rfl, rfl⟩ rfl ⟨Nat.le_of_eq hg.2.2.2.1, Nat.le_of_eq hg.2.2.2.2⟩ ⟨⟨⟨⟨⟨⟨⟨⟨⟨⟨trivial, cb1⟩, cb5⟩, cb9⟩, cb10⟩, (i64_neg0 (fun e => cb1 (by rw [e]; rfl) : ¬ a = 0))⟩, cb18⟩, cb19⟩, rfl⟩, (Or.inl rfl)⟩, rfl⟩
              refine ⟨_, _, CX_ofT (h' := (xsetI h 104 54 (Int32.ofInt (0)))) (by decide) rfl rfl trivial ⟨_, _, _, rfl, rfl, rfl⟩ rfl ⟨Nat.le_of_eq hg.2.2.2.1.symm, Nat.le_of_eq hg.2.2.2.2.symm⟩ t20, mV.set hg (by decide), fun z => ?_, fun z => ?_⟩
              · rw [show xI (xsetI h 104 54 (Int32.ofInt (0))) 104 54 = _ from yI_same]
                obtain ⟨ha, hb⟩ := hm z
                have m := dcb18
                have eB : (Int64.ofInt (1000000000000)).toInt = 1000000000000 := rfl
                have ez : (Int64.ofInt (0)).toInt = 0 := rfl
                have ez2 : (0 : Int64).toInt = 0 := rfl
                have e1 : b.toInt = (b.toInt.natAbs : Int) := (show b.toInt = (b.toInt.natAbs : Int) by have := dcb9; omega)
                have e2 : (-a).toInt = (a.toInt.natAbs : Int) := (show (-a).toInt = (a.toInt.natAbs : Int) by rw [zl_neg ha]; have := dcb10; omega)
                have m2 : ¬ ((1000000000000 : Int).tdiv (a.toInt.natAbs : Int) < (b.toInt.natAbs : Int)) := by rw [← e1, ← e2, ← eB, ← zl_div (by decide)]; omega
                exact zvv_b (fun y => absurd ((zl_much dcb1).mpr y) m2) (fun y => ⟨o0, zl_mul (by omega) (by omega)⟩)
              · rw [show xI (xsetI h 104 54 (Int32.ofInt (0))) 104 54 = _ from yI_same]
                exact absurd cb19 z
            · have e_0 : (0 : Int32).toInt = 0 := rfl
              have dcb19 : ¬ (xI h 104 54).toInt = (0 : Int32).toInt := fun z_ => cb19 (Int32.toInt_inj.mp z_)
              have t21 : XT l 0 0 false 228 153 6051 0 [xf 13 104, xl a, xun, xl b, xun, xun] [] h 86 [xf 13 104, xl a, xun, xl b, xun, xi (Int32.ofInt (0))] [xl (Int64.ofInt (0))] (xsetI h 104 54 (Int32.ofInt (1))) := XT_path (l := l) (fr := 0) (lo := 0) (full := false) (M := 228) (n := 153) (u := 6051) (pc := 0) (L := [xf 13 104, xl a, xun, xl b, xun, xun]) (st := []) (h := h) (inl := []) (n' := 120) (sp := [86]) (o := [0, 0, 1, 0, 1, 1, 0]) rfl rfl ⟨rfl, rfl, rfl⟩ rfl ⟨Nat.le_of_eq hg.2.2.2.1, Nat.le_of_eq hg.2.2.2.2⟩ ⟨⟨⟨⟨⟨⟨⟨⟨⟨trivial, cb1⟩, cb5⟩, cb9⟩, cb10⟩, (i64_neg0 (fun e => cb1 (by rw [e]; rfl) : ¬ a = 0))⟩, cb18⟩, cb19⟩, (Or.inr rfl)⟩, (show ¬ (Int32.ofInt (1)) = 0 from by decide)⟩
              refine ⟨_, _, CX_ofT (h' := (xsetI h 104 54 (Int32.ofInt (1)))) (by decide) rfl rfl trivial ⟨_, _, _, rfl, rfl, rfl⟩ rfl ⟨Nat.le_of_eq hg.2.2.2.1.symm, Nat.le_of_eq hg.2.2.2.2.symm⟩ t21, mV.set hg (by decide), fun z => ?_, fun z => ?_⟩
              · rw [show xI (xsetI h 104 54 (Int32.ofInt (1))) 104 54 = _ from yI_same]
                exact absurd z cb19
              · rw [show xI (xsetI h 104 54 (Int32.ofInt (1))) 104 54 = _ from yI_same]
                exact o1
          · have el_1000000000000 : (Int64.ofInt (1000000000000)).toInt = 1000000000000 := rfl
            have dcb18 : ((Int64.ofInt (1000000000000)) / (-a)).toInt < b.toInt := Int.not_le.mp (fun z_ => cb18 (lgi_le.mpr z_))
            by_cases cb22 : (xI h 104 54) = 0
            · have e_0 : (0 : Int32).toInt = 0 := rfl
              have dcb22 : (xI h 104 54).toInt = (0 : Int32).toInt := congrArg Int32.toInt cb22
              have t23 : XT l 0 0 false 228 153 6051 0 [xf 13 104, xl a, xun, xl b, xun, xun] [] h 86 [xf 13 104, xl a, xun, xl b, xun, xi (Int32.ofInt (1))] [xl (Int64.ofInt (0))] (xsetI h 104 54 (Int32.ofInt (1))) := XT_path (l := l) (fr := 0) (lo := 0) (full := false) (M := 228) (n := 153) (u := 6051) (pc := 0) (L := [xf 13 104, xl a, xun, xl b, xun, xun]) (st := []) (h := h) (inl := []) (n' := 120) (sp := [86]) (o := [0, 0, 1, 0, 0, 0, 0, 0]) rfl rfl ⟨rfl, rfl, rfl⟩ rfl ⟨Nat.le_of_eq hg.2.2.2.1, Nat.le_of_eq hg.2.2.2.2⟩ ⟨⟨⟨⟨⟨⟨⟨⟨⟨⟨trivial, cb1⟩, cb5⟩, cb9⟩, cb10⟩, (i64_neg0 (fun e => cb1 (by rw [e]; rfl) : ¬ a = 0))⟩, cb18⟩, cb22⟩, (show ¬ (Int32.ofInt (1)) = 0 from by decide)⟩, (Or.inr rfl)⟩, (show ¬ (Int32.ofInt (1)) = 0 from by decide)⟩
              refine ⟨_, _, CX_ofT (h' := (xsetI h 104 54 (Int32.ofInt (1)))) (by decide) rfl rfl trivial ⟨_, _, _, rfl, rfl, rfl⟩ rfl ⟨Nat.le_of_eq hg.2.2.2.1.symm, Nat.le_of_eq hg.2.2.2.2.symm⟩ t23, mV.set hg (by decide), fun z => ?_, fun z => ?_⟩
              · rw [show xI (xsetI h 104 54 (Int32.ofInt (1))) 104 54 = _ from yI_same]
                obtain ⟨ha, hb⟩ := hm z
                have m := dcb18
                have eB : (Int64.ofInt (1000000000000)).toInt = 1000000000000 := rfl
                have ez : (Int64.ofInt (0)).toInt = 0 := rfl
                have ez2 : (0 : Int64).toInt = 0 := rfl
                have e1 : b.toInt = (b.toInt.natAbs : Int) := (show b.toInt = (b.toInt.natAbs : Int) by have := dcb9; omega)
                have e2 : (-a).toInt = (a.toInt.natAbs : Int) := (show (-a).toInt = (a.toInt.natAbs : Int) by rw [zl_neg ha]; have := dcb10; omega)
                have m2 : ((1000000000000 : Int).tdiv (a.toInt.natAbs : Int) < (b.toInt.natAbs : Int)) := by rw [← e1, ← e2, ← eB, ← zl_div (by decide)]; omega
                exact zvv_b (fun _ => o1) (fun y => absurd ((zl_much dcb1).mp m2) y)
              · rw [show xI (xsetI h 104 54 (Int32.ofInt (1))) 104 54 = _ from yI_same]
                exact absurd cb22 z
            · have e_0 : (0 : Int32).toInt = 0 := rfl
              have dcb22 : ¬ (xI h 104 54).toInt = (0 : Int32).toInt := fun z_ => cb22 (Int32.toInt_inj.mp z_)
              have t24 : XT l 0 0 false 228 153 6051 0 [xf 13 104, xl a, xun, xl b, xun, xun] [] h 86 [xf 13 104, xl a, xun, xl b, xun, xi (Int32.ofInt (1))] [xl (Int64.ofInt (0))] (xsetI h 104 54 (Int32.ofInt (1))) := XT_path (l := l) (fr := 0) (lo := 0) (full := false) (M := 228) (n := 153) (u := 6051) (pc := 0) (L := [xf 13 104, xl a, xun, xl b, xun, xun]) (st := []) (h := h) (inl := []) (n' := 120) (sp := [86]) (o := [0, 0, 1, 0, 0, 1, 0]) rfl rfl ⟨rfl, rfl, rfl⟩ rfl ⟨Nat.le_of_eq hg.2.2.2.1, Nat.le_of_eq hg.2.2.2.2⟩ ⟨⟨⟨⟨⟨⟨⟨⟨⟨trivial, cb1⟩, cb5⟩, cb9⟩, cb10⟩, (i64_neg0 (fun e => cb1 (by rw [e]; rfl) : ¬ a = 0))⟩, cb18⟩, cb22⟩, (Or.inr rfl)⟩, (show ¬ (Int32.ofInt (1)) = 0 from by decide)⟩
              refine ⟨_, _, CX_ofT (h' := (xsetI h 104 54 (Int32.ofInt (1)))) (by decide) rfl rfl trivial ⟨_, _, _, rfl, rfl, rfl⟩ rfl ⟨Nat.le_of_eq hg.2.2.2.1.symm, Nat.le_of_eq hg.2.2.2.2.symm⟩ t24, mV.set hg (by decide), fun z => ?_, fun z => ?_⟩
              · rw [show xI (xsetI h 104 54 (Int32.ofInt (1))) 104 54 = _ from yI_same]
                exact absurd z cb22
              · rw [show xI (xsetI h 104 54 (Int32.ofInt (1))) 104 54 = _ from yI_same]
                exact o1
      · have el_0 : (Int64.ofInt (0)).toInt = 0 := rfl
        have dcb9 : b.toInt < (Int64.ofInt (0)).toInt := Int.not_le.mp (fun z_ => cb9 (lgi_ge.mpr z_))
        by_cases cb25 : (0 : Int32) ≤ (lg_cmp a (Int64.ofInt (0)))
        · have el_0 : (Int64.ofInt (0)).toInt = 0 := rfl
          have dcb25 : (Int64.ofInt (0)).toInt ≤ a.toInt := lgi_ge.mp cb25
          by_cases cb26 : (lg_cmp (-b) ((Int64.ofInt (1000000000000)) / a)) ≤ 0
          · have el_1000000000000 : (Int64.ofInt (1000000000000)).toInt = 1000000000000 := rfl
            have dcb26 : (-b).toInt ≤ ((Int64.ofInt (1000000000000)) / a).toInt := lgi_le.mp cb26
            by_cases cb27 : (xI h 104 54) = 0
            · have e_0 : (0 : Int32).toInt = 0 := rfl
              have dcb27 : (xI h 104 54).toInt = (0 : Int32).toInt := congrArg Int32.toInt cb27
              have t28 : XT l 0 0 false 228 153 6051 0 [xf 13 104, xl a, xun, xl b, xun, xun] [] h 86 [xf 13 104, xl a, xun, xl b, xun, xi (Int32.ofInt (0))] [xl (a * b)] (xsetI h 104 54 (Int32.ofInt (0))) := XT_path (l := l) (fr := 0) (lo := 0) (full := false) (M := 228) (n := 153) (u := 6051) (pc := 0) (L := [xf 13 104, xl a, xun, xl b, xun, xun]) (st := []) (h := h) (inl := []) (n' := 120) (sp := [86]) (o := [0, 0, 0, 1, 1, 0, 1, 1]) rfl rfl ⟨rfl, rfl, rfl⟩ rfl ⟨Nat.le_of_eq hg.2.2.2.1, Nat.le_of_eq hg.2.2.2.2⟩ ⟨⟨⟨⟨⟨⟨⟨⟨⟨⟨trivial, cb1⟩, cb5⟩, cb9⟩, cb25⟩, (fun e => cb1 (by rw [e]; rfl) : ¬ a = 0)⟩, cb26⟩, cb27⟩, rfl⟩, (Or.inl rfl)⟩, rfl⟩
              refine ⟨_, _, CX_ofT (h' := (xsetI h 104 54 (Int32.ofInt (0)))) (by decide) rfl rfl trivial ⟨_, _, _, rfl, rfl, rfl⟩ rfl ⟨Nat.le_of_eq hg.2.2.2.1.symm, Nat.le_of_eq hg.2.2.2.2.symm⟩ t28, mV.set hg (by decide), fun z => ?_, fun z => ?_⟩
              · rw [show xI (xsetI h 104 54 (Int32.ofInt (0))) 104 54 = _ from yI_same]
                obtain ⟨ha, hb⟩ := hm z
                have m := dcb26
                have eB : (Int64.ofInt (1000000000000)).toInt = 1000000000000 := rfl
                have ez : (Int64.ofInt (0)).toInt = 0 := rfl
                have ez2 : (0 : Int64).toInt = 0 := rfl
                have e1 : (-b).toInt = (b.toInt.natAbs : Int) := (show (-b).toInt = (b.toInt.natAbs : Int) by rw [zl_neg hb]; have := dcb9; omega)
                have e2 : a.toInt = (a.toInt.natAbs : Int) := (show a.toInt = (a.toInt.natAbs : Int) by have := dcb25; omega)
                have m2 : ¬ ((1000000000000 : Int).tdiv (a.toInt.natAbs : Int) < (b.toInt.natAbs : Int)) := by rw [← e1, ← e2, ← eB, ← zl_div (by decide)]; omega
                exact zvv_b (fun y => absurd ((zl_much dcb1).mpr y) m2) (fun y => ⟨o0, zl_mul (by omega) (by omega)⟩)
              · rw [show xI (xsetI h 104 54 (Int32.ofInt (0))) 104 54 = _ from yI_same]
                exact absurd cb27 z
            · have e_0 : (0 : Int32).toInt = 0 := rfl
              have dcb27 : ¬ (xI h 104 54).toInt = (0 : Int32).toInt := fun z_ => cb27 (Int32.toInt_inj.mp z_)
              have t29 : XT l 0 0 false 228 153 6051 0 [xf 13 104, xl a, xun, xl b, xun, xun] [] h 86 [xf 13 104, xl a, xun, xl b, xun, xi (Int32.ofInt (0))] [xl (Int64.ofInt (0))] (xsetI h 104 54 (Int32.ofInt (1))) := XT_path (l := l) (fr := 0) (lo := 0) (full := false) (M := 228) (n := 153) (u := 6051) (pc := 0) (L := [xf 13 104, xl a, xun, xl b, xun, xun]) (st := []) (h := h) (inl := []) (n' := 120) (sp := [86]) (o := [0, 0, 0, 1, 1, 1, 0]) rfl rfl ⟨rfl, rfl, rfl⟩ rfl ⟨Nat.le_of_eq hg.2.2.2.1, Nat.le_of_eq hg.2.2.2.2⟩ ⟨⟨⟨⟨⟨⟨⟨⟨⟨trivial, cb1⟩, cb5⟩, cb9⟩, cb25⟩, (fun e => cb1 (by rw [e]; rfl) : ¬ a = 0)⟩, cb26⟩, cb27⟩, (Or.inr rfl)⟩, (show ¬ (Int32.ofInt (1)) = 0 from by decide)⟩
              refine ⟨_, _, CX_ofT (h' := (xsetI h 104 54 (Int32.ofInt (1)))) (by decide) rfl rfl trivial ⟨_, _, _, rfl, rfl, rfl⟩ rfl ⟨Nat.le_of_eq hg.2.2.2.1.symm, Nat.le_of_eq hg.2.2.2.2.symm⟩ t29, mV.set hg (by decide), fun z => ?_, fun z => ?_⟩
              · rw [show xI (xsetI h 104 54 (Int32.ofInt (1))) 104 54 = _ from yI_same]
                exact absurd z cb27
              · rw [show xI (xsetI h 104 54 (Int32.ofInt (1))) 104 54 = _ from yI_same]
                exact o1
          · have el_1000000000000 : (Int64.ofInt (1000000000000)).toInt = 1000000000000 := rfl
            have dcb26 : ((Int64.ofInt (1000000000000)) / a).toInt < (-b).toInt := Int.not_le.mp (fun z_ => cb26 (lgi_le.mpr z_))
            by_cases cb30 : (xI h 104 54) = 0
            · have e_0 : (0 : Int32).toInt = 0 := rfl
              have dcb30 : (xI h 104 54).toInt = (0 : Int32).toInt := congrArg Int32.toInt cb30
              have t31 : XT l 0 0 false 228 153 6051 0 [xf 13 104, xl a, xun, xl b, xun, xun] [] h 86 [xf 13 104, xl a, xun, xl b, xun, xi (Int32.ofInt (1))] [xl (Int64.ofInt (0))] (xsetI h 104 54 (Int32.ofInt (1))) := XT_path (l := l) (fr := 0) (lo := 0) (full := false) (M := 228) (n := 153) (u := 6051) (pc := 0) (L := [xf 13 104, xl a, xun, xl b, xun, xun]) (st := []) (h := h) (inl := []) (n' := 120) (sp := [86]) (o := [0, 0, 0, 1, 0, 0, 0, 0]) rfl rfl ⟨rfl, rfl, rfl⟩ rfl ⟨Nat.le_of_eq hg.2.2.2.1, Nat.le_of_eq hg.2.2.2.2⟩ ⟨⟨⟨⟨⟨⟨⟨⟨⟨⟨trivial, cb1⟩, cb5⟩, cb9⟩, cb25⟩, (fun e => cb1 (by rw [e]; rfl) : ¬ a = 0)⟩, cb26⟩, cb30⟩, (show ¬ (Int32.ofInt (1)) = 0 from by decide)⟩, (Or.inr rfl)⟩, (show ¬ (Int32.ofInt (1)) = 0 from by decide)⟩
              refine ⟨_, _, CX_ofT (h' := (xsetI h 104 54 (Int32.ofInt (1)))) (by decide) rfl rfl trivial ⟨_, _, _, rfl, rfl, rfl⟩ rfl ⟨Nat.le_of_eq hg.2.2.2.1.symm, Nat.le_of_eq hg.2.2.2.2.symm⟩ t31, mV.set hg (by decide), fun z => ?_, fun z => ?_⟩
              · rw [show xI (xsetI h 104 54 (Int32.ofInt (1))) 104 54 = _ from yI_same]
                obtain ⟨ha, hb⟩ := hm z
                have m := dcb26
                have eB : (Int64.ofInt (1000000000000)).toInt = 1000000000000 := rfl
                have ez : (Int64.ofInt (0)).toInt = 0 := rfl
                have ez2 : (0 : Int64).toInt = 0 := rfl
                have e1 : (-b).toInt = (b.toInt.natAbs : Int) := (show (-b).toInt = (b.toInt.natAbs : Int) by rw [zl_neg hb]; have := dcb9; omega)
                have e2 : a.toInt = (a.toInt.natAbs : Int) := (show a.toInt = (a.toInt.natAbs : Int) by have := dcb25; omega)
                have m2 : ((1000000000000 : Int).tdiv (a.toInt.natAbs : Int) < (b.toInt.natAbs : Int)) := by rw [← e1, ← e2, ← eB, ← zl_div (by decide)]; omega
                exact zvv_b (fun _ => o1) (fun y => absurd ((zl_much dcb1).mp m2) y)
              · rw [show xI (xsetI h 104 54 (Int32.ofInt (1))) 104 54 = _ from yI_same]
                exact absurd cb30 z
            · have e_0 : (0 : Int32).toInt = 0 := rfl
              have dcb30 : ¬ (xI h 104 54).toInt = (0 : Int32).toInt := fun z_ => cb30 (Int32.toInt_inj.mp z_)
              have t32 : XT l 0 0 false 228 153 6051 0 [xf 13 104, xl a, xun, xl b, xun, xun] [] h 86 [xf 13 104, xl a, xun, xl b, xun, xi (Int32.ofInt (1))] [xl (Int64.ofInt (0))] (xsetI h 104 54 (Int32.ofInt (1))) := XT_path (l := l) (fr := 0) (lo := 0) (full := false) (M := 228) (n := 153) (u := 6051) (pc := 0) (L := [xf 13 104, xl a, xun, xl b, xun, xun]) (st := []) (h := h) (inl := []) (n' := 120) (sp := [86]) (o := [0, 0, 0, 1, 0, 1, 0]) rfl rfl ⟨rfl, rfl, rfl⟩ rfl ⟨Nat.le_of_eq hg.2.2.2.1, Nat.le_of_eq hg.2.2.2.2⟩ ⟨⟨⟨⟨⟨⟨⟨⟨⟨trivial, cb1⟩, cb5⟩, cb9⟩, cb25⟩, (fun e => cb1 (by rw [e]; rfl) : ¬ a = 0)⟩, cb26⟩, cb30⟩, (Or.inr rfl)⟩, (show ¬ (Int32.ofInt (1)) = 0 from by decide)⟩
              refine ⟨_, _, CX_ofT (h' := (xsetI h 104 54 (Int32.ofInt (1)))) (by decide) rfl rfl trivial ⟨_, _, _, rfl, rfl, rfl⟩ rfl ⟨Nat.le_of_eq hg.2.2.2.1.symm, Nat.le_of_eq hg.2.2.2.2.symm⟩ t32, mV.set hg (by decide), fun z => ?_, fun z => ?_⟩
              · rw [show xI (xsetI h 104 54 (Int32.ofInt (1))) 104 54 = _ from yI_same]
                exact absurd z cb30
              · rw [show xI (xsetI h 104 54 (Int32.ofInt (1))) 104 54 = _ from yI_same]
                exact o1
        · have el_0 : (Int64.ofInt (0)).toInt = 0 := rfl
          have dcb25 : a.toInt < (Int64.ofInt (0)).toInt := Int.not_le.mp (fun z_ => cb25 (lgi_ge.mpr z_))
          by_cases cb33 : (lg_cmp (-b) ((Int64.ofInt (1000000000000)) / (-a))) ≤ 0
          · have el_1000000000000 : (Int64.ofInt (1000000000000)).toInt = 1000000000000 := rfl
            have dcb33 : (-b).toInt ≤ ((Int64.ofInt (1000000000000)) / (-a)).toInt := lgi_le.mp cb33
            by_cases cb34 : (xI h 104 54) = 0
            · have e_0 : (0 : Int32).toInt = 0 := rfl
              have dcb34 : (xI h 104 54).toInt = (0 : Int32).toInt := congrArg Int32.toInt cb34
              have t35 : XT l 0 0 false 228 153 6051 0 [xf 13 104, xl a, xun, xl b, xun, xun] [] h 86 [xf 13 104, xl a, xun, xl b, xun, xi (Int32.ofInt (0))] [xl (a * b)] (xsetI h 104 54 (Int32.ofInt (0))) := XT_path (l := l) (fr := 0) (lo := 0) (full := false) (M := 228) (n := 153) (u := 6051) (pc := 0) (L := [xf 13 104, xl a, xun, xl b, xun, xun]) (st := []) (h := h) (inl := []) (n' := 120) (sp := [86]) (o := [0, 0, 0, 0, 1, 0, 1, 1]) rfl rfl ⟨rfl, rfl, rfl⟩ rfl ⟨Nat.le_of_eq hg.2.2.2.1, Nat.le_of_eq hg.2.2.2.2⟩ ⟨⟨⟨⟨⟨⟨⟨⟨⟨⟨trivial, cb1⟩, cb5⟩, cb9⟩, cb25⟩, (i64_neg0 (fun e => cb1 (by rw [e]; rfl) : ¬ a = 0))⟩, cb33⟩, cb34⟩, rfl⟩, (Or.inl rfl)⟩, rfl⟩
              refine ⟨_, _, CX_ofT (h' := (xsetI h 104 54 (Int32.ofInt (0)))) (by decide) rfl rfl trivial ⟨_, _, _, rfl, rfl, rfl⟩ rfl ⟨Nat.le_of_eq hg.2.2.2.1.symm, Nat.le_of_eq hg.2.2.2.2.symm⟩ t35, mV.set hg (by decide), fun z => ?_, fun z => ?_⟩
              · rw [show xI (xsetI h 104 54 (Int32.ofInt (0))) 104 54 = _ from yI_same]
                obtain ⟨ha, hb⟩ := hm z
                have m := dcb33
                have eB : (Int64.ofInt (1000000000000)).toInt = 1000000000000 := rfl
                have ez : (Int64.ofInt (0)).toInt = 0 := rfl
                have ez2 : (0 : Int64).toInt = 0 := rfl
                have e1 : (-b).toInt = (b.toInt.natAbs : Int) := (show (-b).toInt = (b.toInt.natAbs : Int) by rw [zl_neg hb]; have := dcb9; omega)
                have e2 : (-a).toInt = (a.toInt.natAbs : Int) := (show (-a).toInt = (a.toInt.natAbs : Int) by rw [zl_neg ha]; have := dcb25; omega)
                have m2 : ¬ ((1000000000000 : Int).tdiv (a.toInt.natAbs : Int) < (b.toInt.natAbs : Int)) := by rw [← e1, ← e2, ← eB, ← zl_div (by decide)]; omega
                exact zvv_b (fun y => absurd ((zl_much dcb1).mpr y) m2) (fun y => ⟨o0, zl_mul (by omega) (by omega)⟩)
              · rw [show xI (xsetI h 104 54 (Int32.ofInt (0))) 104 54 = _ from yI_same]
                exact absurd cb34 z
            · have e_0 : (0 : Int32).toInt = 0 := rfl
              have dcb34 : ¬ (xI h 104 54).toInt = (0 : Int32).toInt := fun z_ => cb34 (Int32.toInt_inj.mp z_)
              have t36 : XT l 0 0 false 228 153 6051 0 [xf 13 104, xl a, xun, xl b, xun, xun] [] h 86 [xf 13 104, xl a, xun, xl b, xun, xi (Int32.ofInt (0))] [xl (Int64.ofInt (0))] (xsetI h 104 54 (Int32.ofInt (1))) := XT_path (l := l) (fr := 0) (lo := 0) (full := false) (M := 228) (n := 153) (u := 6051) (pc := 0) (L := [xf 13 104, xl a, xun, xl b, xun, xun]) (st := []) (h := h) (inl := []) (n' := 120) (sp := [86]) (o := [0, 0, 0, 0, 1, 1, 0]) rfl rfl ⟨rfl, rfl, rfl⟩ rfl ⟨Nat.le_of_eq hg.2.2.2.1, Nat.le_of_eq hg.2.2.2.2⟩ ⟨⟨⟨⟨⟨⟨⟨⟨⟨trivial, cb1⟩, cb5⟩, cb9⟩, cb25⟩, (i64_neg0 (fun e => cb1 (by rw [e]; rfl) : ¬ a = 0))⟩, cb33⟩, cb34⟩, (Or.inr rfl)⟩, (show ¬ (Int32.ofInt (1)) = 0 from by decide)⟩
              refine ⟨_, _, CX_ofT (h' := (xsetI h 104 54 (Int32.ofInt (1)))) (by decide) rfl rfl trivial ⟨_, _, _, rfl, rfl, rfl⟩ rfl ⟨Nat.le_of_eq hg.2.2.2.1.symm, Nat.le_of_eq hg.2.2.2.2.symm⟩ t36, mV.set hg (by decide), fun z => ?_, fun z => ?_⟩
              · rw [show xI (xsetI h 104 54 (Int32.ofInt (1))) 104 54 = _ from yI_same]
                exact absurd z cb34
              · rw [show xI (xsetI h 104 54 (Int32.ofInt (1))) 104 54 = _ from yI_same]
                exact o1
          · have el_1000000000000 : (Int64.ofInt (1000000000000)).toInt = 1000000000000 := rfl
            have dcb33 : ((Int64.ofInt (1000000000000)) / (-a)).toInt < (-b).toInt := Int.not_le.mp (fun z_ => cb33 (lgi_le.mpr z_))
            by_cases cb37 : (xI h 104 54) = 0
            · have e_0 : (0 : Int32).toInt = 0 := rfl
              have dcb37 : (xI h 104 54).toInt = (0 : Int32).toInt := congrArg Int32.toInt cb37
              have t38 : XT l 0 0 false 228 153 6051 0 [xf 13 104, xl a, xun, xl b, xun, xun] [] h 86 [xf 13 104, xl a, xun, xl b, xun, xi (Int32.ofInt (1))] [xl (Int64.ofInt (0))] (xsetI h 104 54 (Int32.ofInt (1))) := XT_path (l := l) (fr := 0) (lo := 0) (full := false) (M := 228) (n := 153) (u := 6051) (pc := 0) (L := [xf 13 104, xl a, xun, xl b, xun, xun]) (st := []) (h := h) (inl := []) (n' := 120) (sp := [86]) (o := [0, 0, 0, 0, 0, 0, 0, 0]) rfl rfl ⟨rfl, rfl, rfl⟩ rfl ⟨Nat.le_of_eq hg.2.2.2.1, Nat.le_of_eq hg.2.2.2.2⟩ ⟨⟨⟨⟨⟨⟨⟨⟨⟨⟨trivial, cb1⟩, cb5⟩, cb9⟩, cb25⟩, (i64_neg0 (fun e => cb1 (by rw [e]; rfl) : ¬ a = 0))⟩, cb33⟩, cb37⟩, (show ¬ (Int32.ofInt (1)) = 0 from by decide)⟩, (Or.inr rfl)⟩, (show ¬ (Int32.ofInt (1)) = 0 from by decide)⟩
              refine ⟨_, _, CX_ofT (h' := (xsetI h 104 54 (Int32.ofInt (1)))) (by decide) rfl rfl trivial ⟨_, _, _, rfl, rfl, rfl⟩ rfl ⟨Nat.le_of_eq hg.2.2.2.1.symm, Nat.le_of_eq hg.2.2.2.2.symm⟩ t38, mV.set hg (by decide), fun z => ?_, fun z => ?_⟩
              · rw [show xI (xsetI h 104 54 (Int32.ofInt (1))) 104 54 = _ from yI_same]
                obtain ⟨ha, hb⟩ := hm z
                have m := dcb33
                have eB : (Int64.ofInt (1000000000000)).toInt = 1000000000000 := rfl
                have ez : (Int64.ofInt (0)).toInt = 0 := rfl
                have ez2 : (0 : Int64).toInt = 0 := rfl
                have e1 : (-b).toInt = (b.toInt.natAbs : Int) := (show (-b).toInt = (b.toInt.natAbs : Int) by rw [zl_neg hb]; have := dcb9; omega)
                have e2 : (-a).toInt = (a.toInt.natAbs : Int) := (show (-a).toInt = (a.toInt.natAbs : Int) by rw [zl_neg ha]; have := dcb25; omega)
                have m2 : ((1000000000000 : Int).tdiv (a.toInt.natAbs : Int) < (b.toInt.natAbs : Int)) := by rw [← e1, ← e2, ← eB, ← zl_div (by decide)]; omega
                exact zvv_b (fun _ => o1) (fun y => absurd ((zl_much dcb1).mp m2) y)
              · rw [show xI (xsetI h 104 54 (Int32.ofInt (1))) 104 54 = _ from yI_same]
                exact absurd cb37 z
            · have e_0 : (0 : Int32).toInt = 0 := rfl
              have dcb37 : ¬ (xI h 104 54).toInt = (0 : Int32).toInt := fun z_ => cb37 (Int32.toInt_inj.mp z_)
              have t39 : XT l 0 0 false 228 153 6051 0 [xf 13 104, xl a, xun, xl b, xun, xun] [] h 86 [xf 13 104, xl a, xun, xl b, xun, xi (Int32.ofInt (1))] [xl (Int64.ofInt (0))] (xsetI h 104 54 (Int32.ofInt (1))) := XT_path (l := l) (fr := 0) (lo := 0) (full := false) (M := 228) (n := 153) (u := 6051) (pc := 0) (L := [xf 13 104, xl a, xun, xl b, xun, xun]) (st := []) (h := h) (inl := []) (n' := 120) (sp := [86]) (o := [0, 0, 0, 0, 0, 1, 0]) rfl rfl ⟨rfl, rfl, rfl⟩ rfl ⟨Nat.le_of_eq hg.2.2.2.1, Nat.le_of_eq hg.2.2.2.2⟩ ⟨⟨⟨⟨⟨⟨⟨⟨⟨trivial, cb1⟩, cb5⟩, cb9⟩, cb25⟩, (i64_neg0 (fun e => cb1 (by rw [e]; rfl) : ¬ a = 0))⟩, cb33⟩, cb37⟩, (Or.inr rfl)⟩, (show ¬ (Int32.ofInt (1)) = 0 from by decide)⟩
              refine ⟨_, _, CX_ofT (h' := (xsetI h 104 54 (Int32.ofInt (1)))) (by decide) rfl rfl trivial ⟨_, _, _, rfl, rfl, rfl⟩ rfl ⟨Nat.le_of_eq hg.2.2.2.1.symm, Nat.le_of_eq hg.2.2.2.2.symm⟩ t39, mV.set hg (by decide), fun z => ?_, fun z => ?_⟩
              · rw [show xI (xsetI h 104 54 (Int32.ofInt (1))) 104 54 = _ from yI_same]
                exact absurd z cb37
              · rw [show xI (xsetI h 104 54 (Int32.ofInt (1))) 104 54 = _ from yI_same]
                exact o1
set_option maxRecDepth 100000 in
set_option maxHeartbeats 4000000 in
theorem jk_cmp5 (l : Launch) (op : Int32) (a b : Int64) (h : XH) (hg : mI h) (e : op.toInt = 5) : ∃ v, CX l 0 0 false 229 [xi op, xl a, xl b] h [xi v] h ∧ ((v = (Int32.ofInt (1)) ∧ a.toInt < b.toInt) ∨ (v = (Int32.ofInt (0)) ∧ ¬ a.toInt < b.toInt)) := by
  by_cases cb1 : (0 : Int32) ≤ (lg_cmp a b)
  · have dcb1 : b.toInt ≤ a.toInt := lgi_ge.mp cb1
    have t2 : XT l 0 0 false 229 153 6051 0 [xi op, xl a, xun, xl b, xun] [] h 47 [xi op, xl a, xun, xl b, xun] [xi (Int32.ofInt (0))] h := XT_path (l := l) (fr := 0) (lo := 0) (full := false) (M := 229) (n := 153) (u := 6051) (pc := 0) (L := [xi op, xl a, xun, xl b, xun]) (st := []) (h := h) (inl := []) (n' := 80) (sp := [47]) (o := [1, 1]) rfl rfl ⟨rfl, rfl, rfl⟩ rfl ⟨Nat.le_of_eq hg.2.2.2.1, Nat.le_of_eq hg.2.2.2.2⟩ ⟨⟨trivial, ⟨e, by decide⟩⟩, cb1⟩
    exact ⟨_, CX_ofT (h' := h) (by decide) rfl rfl ⟨trivial, (Or.inl rfl)⟩ ⟨_, _, _, rfl, rfl, rfl⟩ rfl ⟨Nat.le_of_eq hg.2.2.2.1.symm, Nat.le_of_eq hg.2.2.2.2.symm⟩ t2, Or.inr ⟨rfl, by omega⟩⟩
  · have dcb1 : a.toInt < b.toInt := Int.not_le.mp (fun z_ => cb1 (lgi_ge.mpr z_))
    have t3 : XT l 0 0 false 229 153 6051 0 [xi op, xl a, xun, xl b, xun] [] h 47 [xi op, xl a, xun, xl b, xun] [xi (Int32.ofInt (1))] h := XT_path (l := l) (fr := 0) (lo := 0) (full := false) (M := 229) (n := 153) (u := 6051) (pc := 0) (L := [xi op, xl a, xun, xl b, xun]) (st := []) (h := h) (inl := []) (n' := 80) (sp := [47]) (o := [1, 0]) rfl rfl ⟨rfl, rfl, rfl⟩ rfl ⟨Nat.le_of_eq hg.2.2.2.1, Nat.le_of_eq hg.2.2.2.2⟩ ⟨⟨trivial, ⟨e, by decide⟩⟩, cb1⟩
    exact ⟨_, CX_ofT (h' := h) (by decide) rfl rfl ⟨trivial, (Or.inr rfl)⟩ ⟨_, _, _, rfl, rfl, rfl⟩ rfl ⟨Nat.le_of_eq hg.2.2.2.1.symm, Nat.le_of_eq hg.2.2.2.2.symm⟩ t3, Or.inl ⟨rfl, by omega⟩⟩
set_option maxRecDepth 100000 in
set_option maxHeartbeats 4000000 in
theorem jk_cmp6 (l : Launch) (op : Int32) (a b : Int64) (h : XH) (hg : mI h) (e : op.toInt = 6) : ∃ v, CX l 0 0 false 229 [xi op, xl a, xl b] h [xi v] h ∧ ((v = (Int32.ofInt (1)) ∧ a.toInt ≤ b.toInt) ∨ (v = (Int32.ofInt (0)) ∧ ¬ a.toInt ≤ b.toInt)) := by
  by_cases cb1 : (0 : Int32) < (lg_cmp a b)
  · have dcb1 : b.toInt < a.toInt := lgi_gt.mp cb1
    have t2 : XT l 0 0 false 229 153 6051 0 [xi op, xl a, xun, xl b, xun] [] h 59 [xi op, xl a, xun, xl b, xun] [xi (Int32.ofInt (0))] h := XT_path (l := l) (fr := 0) (lo := 0) (full := false) (M := 229) (n := 153) (u := 6051) (pc := 0) (L := [xi op, xl a, xun, xl b, xun]) (st := []) (h := h) (inl := []) (n' := 80) (sp := [59]) (o := [2, 1]) rfl rfl ⟨rfl, rfl, rfl⟩ rfl ⟨Nat.le_of_eq hg.2.2.2.1, Nat.le_of_eq hg.2.2.2.2⟩ ⟨⟨trivial, ⟨e, by decide⟩⟩, cb1⟩
    exact ⟨_, CX_ofT (h' := h) (by decide) rfl rfl ⟨trivial, (Or.inl rfl)⟩ ⟨_, _, _, rfl, rfl, rfl⟩ rfl ⟨Nat.le_of_eq hg.2.2.2.1.symm, Nat.le_of_eq hg.2.2.2.2.symm⟩ t2, Or.inr ⟨rfl, by omega⟩⟩
  · have dcb1 : a.toInt ≤ b.toInt := Int.not_lt.mp (fun z_ => cb1 (lgi_gt.mpr z_))
    have t3 : XT l 0 0 false 229 153 6051 0 [xi op, xl a, xun, xl b, xun] [] h 59 [xi op, xl a, xun, xl b, xun] [xi (Int32.ofInt (1))] h := XT_path (l := l) (fr := 0) (lo := 0) (full := false) (M := 229) (n := 153) (u := 6051) (pc := 0) (L := [xi op, xl a, xun, xl b, xun]) (st := []) (h := h) (inl := []) (n' := 80) (sp := [59]) (o := [2, 0]) rfl rfl ⟨rfl, rfl, rfl⟩ rfl ⟨Nat.le_of_eq hg.2.2.2.1, Nat.le_of_eq hg.2.2.2.2⟩ ⟨⟨trivial, ⟨e, by decide⟩⟩, cb1⟩
    exact ⟨_, CX_ofT (h' := h) (by decide) rfl rfl ⟨trivial, (Or.inr rfl)⟩ ⟨_, _, _, rfl, rfl, rfl⟩ rfl ⟨Nat.le_of_eq hg.2.2.2.1.symm, Nat.le_of_eq hg.2.2.2.2.symm⟩ t3, Or.inl ⟨rfl, by omega⟩⟩
set_option maxRecDepth 100000 in
set_option maxHeartbeats 4000000 in
theorem jk_cmp7 (l : Launch) (op : Int32) (a b : Int64) (h : XH) (hg : mI h) (e : op.toInt = 7) : ∃ v, CX l 0 0 false 229 [xi op, xl a, xl b] h [xi v] h ∧ ((v = (Int32.ofInt (1)) ∧ a.toInt = b.toInt) ∨ (v = (Int32.ofInt (0)) ∧ ¬ a.toInt = b.toInt)) := by
  by_cases cb1 : (lg_cmp a b) = 0
  · have dcb1 : a.toInt = b.toInt := lgi_eq.mp cb1
    have t2 : XT l 0 0 false 229 153 6051 0 [xi op, xl a, xun, xl b, xun] [] h 71 [xi op, xl a, xun, xl b, xun] [xi (Int32.ofInt (1))] h := XT_path (l := l) (fr := 0) (lo := 0) (full := false) (M := 229) (n := 153) (u := 6051) (pc := 0) (L := [xi op, xl a, xun, xl b, xun]) (st := []) (h := h) (inl := []) (n' := 80) (sp := [71]) (o := [3, 0]) rfl rfl ⟨rfl, rfl, rfl⟩ rfl ⟨Nat.le_of_eq hg.2.2.2.1, Nat.le_of_eq hg.2.2.2.2⟩ ⟨⟨trivial, ⟨e, by decide⟩⟩, cb1⟩
    exact ⟨_, CX_ofT (h' := h) (by decide) rfl rfl ⟨trivial, (Or.inr rfl)⟩ ⟨_, _, _, rfl, rfl, rfl⟩ rfl ⟨Nat.le_of_eq hg.2.2.2.1.symm, Nat.le_of_eq hg.2.2.2.2.symm⟩ t2, Or.inl ⟨rfl, by omega⟩⟩
  · have dcb1 : ¬ a.toInt = b.toInt := fun z_ => cb1 (lgi_eq.mpr z_)
    have t3 : XT l 0 0 false 229 153 6051 0 [xi op, xl a, xun, xl b, xun] [] h 71 [xi op, xl a, xun, xl b, xun] [xi (Int32.ofInt (0))] h := XT_path (l := l) (fr := 0) (lo := 0) (full := false) (M := 229) (n := 153) (u := 6051) (pc := 0) (L := [xi op, xl a, xun, xl b, xun]) (st := []) (h := h) (inl := []) (n' := 80) (sp := [71]) (o := [3, 1]) rfl rfl ⟨rfl, rfl, rfl⟩ rfl ⟨Nat.le_of_eq hg.2.2.2.1, Nat.le_of_eq hg.2.2.2.2⟩ ⟨⟨trivial, ⟨e, by decide⟩⟩, cb1⟩
    exact ⟨_, CX_ofT (h' := h) (by decide) rfl rfl ⟨trivial, (Or.inl rfl)⟩ ⟨_, _, _, rfl, rfl, rfl⟩ rfl ⟨Nat.le_of_eq hg.2.2.2.1.symm, Nat.le_of_eq hg.2.2.2.2.symm⟩ t3, Or.inr ⟨rfl, by omega⟩⟩
set_option maxRecDepth 100000 in
set_option maxHeartbeats 4000000 in
theorem jk_cmp8 (l : Launch) (op : Int32) (a b : Int64) (h : XH) (hg : mI h) (e : op.toInt = 8) : ∃ v, CX l 0 0 false 229 [xi op, xl a, xl b] h [xi v] h ∧ ((v = (Int32.ofInt (1)) ∧ ¬ a.toInt = b.toInt) ∨ (v = (Int32.ofInt (0)) ∧ ¬ ¬ a.toInt = b.toInt)) := by
  by_cases cb1 : (lg_cmp a b) = 0
  · have dcb1 : a.toInt = b.toInt := lgi_eq.mp cb1
    have t2 : XT l 0 0 false 229 153 6051 0 [xi op, xl a, xun, xl b, xun] [] h 83 [xi op, xl a, xun, xl b, xun] [xi (Int32.ofInt (0))] h := XT_path (l := l) (fr := 0) (lo := 0) (full := false) (M := 229) (n := 153) (u := 6051) (pc := 0) (L := [xi op, xl a, xun, xl b, xun]) (st := []) (h := h) (inl := []) (n' := 80) (sp := [83]) (o := [4, 1]) rfl rfl ⟨rfl, rfl, rfl⟩ rfl ⟨Nat.le_of_eq hg.2.2.2.1, Nat.le_of_eq hg.2.2.2.2⟩ ⟨⟨trivial, ⟨e, by decide⟩⟩, cb1⟩
    exact ⟨_, CX_ofT (h' := h) (by decide) rfl rfl ⟨trivial, (Or.inl rfl)⟩ ⟨_, _, _, rfl, rfl, rfl⟩ rfl ⟨Nat.le_of_eq hg.2.2.2.1.symm, Nat.le_of_eq hg.2.2.2.2.symm⟩ t2, Or.inr ⟨rfl, by omega⟩⟩
  · have dcb1 : ¬ a.toInt = b.toInt := fun z_ => cb1 (lgi_eq.mpr z_)
    have t3 : XT l 0 0 false 229 153 6051 0 [xi op, xl a, xun, xl b, xun] [] h 83 [xi op, xl a, xun, xl b, xun] [xi (Int32.ofInt (1))] h := XT_path (l := l) (fr := 0) (lo := 0) (full := false) (M := 229) (n := 153) (u := 6051) (pc := 0) (L := [xi op, xl a, xun, xl b, xun]) (st := []) (h := h) (inl := []) (n' := 80) (sp := [83]) (o := [4, 0]) rfl rfl ⟨rfl, rfl, rfl⟩ rfl ⟨Nat.le_of_eq hg.2.2.2.1, Nat.le_of_eq hg.2.2.2.2⟩ ⟨⟨trivial, ⟨e, by decide⟩⟩, cb1⟩
    exact ⟨_, CX_ofT (h' := h) (by decide) rfl rfl ⟨trivial, (Or.inr rfl)⟩ ⟨_, _, _, rfl, rfl, rfl⟩ rfl ⟨Nat.le_of_eq hg.2.2.2.1.symm, Nat.le_of_eq hg.2.2.2.2.symm⟩ t3, Or.inl ⟨rfl, by omega⟩⟩
set_option maxRecDepth 100000 in
set_option maxHeartbeats 4000000 in
theorem jk_cmp9 (l : Launch) (op : Int32) (a b : Int64) (h : XH) (hg : mI h) (e : op.toInt = 9) : ∃ v, CX l 0 0 false 229 [xi op, xl a, xl b] h [xi v] h ∧ ((v = (Int32.ofInt (1)) ∧ b.toInt ≤ a.toInt) ∨ (v = (Int32.ofInt (0)) ∧ ¬ b.toInt ≤ a.toInt)) := by
  by_cases cb1 : (lg_cmp a b) < 0
  · have dcb1 : a.toInt < b.toInt := lgi_lt.mp cb1
    have t2 : XT l 0 0 false 229 153 6051 0 [xi op, xl a, xun, xl b, xun] [] h 95 [xi op, xl a, xun, xl b, xun] [xi (Int32.ofInt (0))] h := XT_path (l := l) (fr := 0) (lo := 0) (full := false) (M := 229) (n := 153) (u := 6051) (pc := 0) (L := [xi op, xl a, xun, xl b, xun]) (st := []) (h := h) (inl := []) (n' := 80) (sp := [95]) (o := [5, 1]) rfl rfl ⟨rfl, rfl, rfl⟩ rfl ⟨Nat.le_of_eq hg.2.2.2.1, Nat.le_of_eq hg.2.2.2.2⟩ ⟨⟨trivial, ⟨e, by decide⟩⟩, cb1⟩
    exact ⟨_, CX_ofT (h' := h) (by decide) rfl rfl ⟨trivial, (Or.inl rfl)⟩ ⟨_, _, _, rfl, rfl, rfl⟩ rfl ⟨Nat.le_of_eq hg.2.2.2.1.symm, Nat.le_of_eq hg.2.2.2.2.symm⟩ t2, Or.inr ⟨rfl, by omega⟩⟩
  · have dcb1 : b.toInt ≤ a.toInt := Int.not_lt.mp (fun z_ => cb1 (lgi_lt.mpr z_))
    have t3 : XT l 0 0 false 229 153 6051 0 [xi op, xl a, xun, xl b, xun] [] h 95 [xi op, xl a, xun, xl b, xun] [xi (Int32.ofInt (1))] h := XT_path (l := l) (fr := 0) (lo := 0) (full := false) (M := 229) (n := 153) (u := 6051) (pc := 0) (L := [xi op, xl a, xun, xl b, xun]) (st := []) (h := h) (inl := []) (n' := 80) (sp := [95]) (o := [5, 0]) rfl rfl ⟨rfl, rfl, rfl⟩ rfl ⟨Nat.le_of_eq hg.2.2.2.1, Nat.le_of_eq hg.2.2.2.2⟩ ⟨⟨trivial, ⟨e, by decide⟩⟩, cb1⟩
    exact ⟨_, CX_ofT (h' := h) (by decide) rfl rfl ⟨trivial, (Or.inr rfl)⟩ ⟨_, _, _, rfl, rfl, rfl⟩ rfl ⟨Nat.le_of_eq hg.2.2.2.1.symm, Nat.le_of_eq hg.2.2.2.2.symm⟩ t3, Or.inl ⟨rfl, by omega⟩⟩
set_option maxRecDepth 100000 in
set_option maxHeartbeats 4000000 in
theorem jk_cmp10 (l : Launch) (op : Int32) (a b : Int64) (h : XH) (hg : mI h) (e : op.toInt = 10) : ∃ v, CX l 0 0 false 229 [xi op, xl a, xl b] h [xi v] h ∧ ((v = (Int32.ofInt (1)) ∧ b.toInt < a.toInt) ∨ (v = (Int32.ofInt (0)) ∧ ¬ b.toInt < a.toInt)) := by
  by_cases cb1 : (lg_cmp a b) ≤ 0
  · have dcb1 : a.toInt ≤ b.toInt := lgi_le.mp cb1
    have t2 : XT l 0 0 false 229 153 6051 0 [xi op, xl a, xun, xl b, xun] [] h 107 [xi op, xl a, xun, xl b, xun] [xi (Int32.ofInt (0))] h := XT_path (l := l) (fr := 0) (lo := 0) (full := false) (M := 229) (n := 153) (u := 6051) (pc := 0) (L := [xi op, xl a, xun, xl b, xun]) (st := []) (h := h) (inl := []) (n' := 80) (sp := [107]) (o := [0, 1]) rfl rfl ⟨rfl, rfl, rfl⟩ rfl ⟨Nat.le_of_eq hg.2.2.2.1, Nat.le_of_eq hg.2.2.2.2⟩ ⟨⟨trivial, (Or.inr (by rw [e]; decide))⟩, cb1⟩
    exact ⟨_, CX_ofT (h' := h) (by decide) rfl rfl ⟨trivial, (Or.inl rfl)⟩ ⟨_, _, _, rfl, rfl, rfl⟩ rfl ⟨Nat.le_of_eq hg.2.2.2.1.symm, Nat.le_of_eq hg.2.2.2.2.symm⟩ t2, Or.inr ⟨rfl, by omega⟩⟩
  · have dcb1 : b.toInt < a.toInt := Int.not_le.mp (fun z_ => cb1 (lgi_le.mpr z_))
    have t3 : XT l 0 0 false 229 153 6051 0 [xi op, xl a, xun, xl b, xun] [] h 107 [xi op, xl a, xun, xl b, xun] [xi (Int32.ofInt (1))] h := XT_path (l := l) (fr := 0) (lo := 0) (full := false) (M := 229) (n := 153) (u := 6051) (pc := 0) (L := [xi op, xl a, xun, xl b, xun]) (st := []) (h := h) (inl := []) (n' := 80) (sp := [107]) (o := [0, 0]) rfl rfl ⟨rfl, rfl, rfl⟩ rfl ⟨Nat.le_of_eq hg.2.2.2.1, Nat.le_of_eq hg.2.2.2.2⟩ ⟨⟨trivial, (Or.inr (by rw [e]; decide))⟩, cb1⟩
    exact ⟨_, CX_ofT (h' := h) (by decide) rfl rfl ⟨trivial, (Or.inr rfl)⟩ ⟨_, _, _, rfl, rfl, rfl⟩ rfl ⟨Nat.le_of_eq hg.2.2.2.1.symm, Nat.le_of_eq hg.2.2.2.2.symm⟩ t3, Or.inl ⟨rfl, by omega⟩⟩
set_option maxRecDepth 100000 in
set_option maxHeartbeats 4000000 in
theorem jk_bin13 (l : Launch) (Z V : Nat → Int) (kk : Int32) (i a c : Nat) (h : XH) (hg : mI h) (hk : kk.toInt = i) (hi : i < 64) (ek : (xI h 126 kk.toNatClampNeg).toInt = jkn (Z (300 + i))) (ep : (xI h 127 kk.toNatClampNeg).toInt = Z (500 + i)) (eo : (xI h 128 kk.toNatClampNeg).toInt = Z (600 + i)) (eo_ : Z (300 + i) = 13) (ea : Z (500 + i) = a) (ec : Z (600 + i) = c) (la : a < i) (lc : c < i) (hva : xI h 104 54 = 0 → (xL h 132 a).toInt = V a ∧ zM (xL h 132 a)) (hvc : xI h 104 54 = 0 → (xL h 132 c).toInt = V c ∧ zM (xL h 132 c)) : ∃ v h', CX l 1 30 false 226 [xf 13 104, xi kk] h [xl v] h' ∧ mV h h' ∧ (xI h 104 54 = 0 → zvv (zbnd (V a + V c)) v (xI h' 104 54)) ∧ (¬ xI h 104 54 = 0 → ¬ xI h' 104 54 = 0) := by
  have jc : (xI h 126 kk.toNatClampNeg).toInt = 11 := by rw [ek, eo_]; rfl
  have e_1 : ((Int32.ofInt (1))).toInt = 1 := rfl
  have e_2 : ((Int32.ofInt (2))).toInt = 2 := rfl
  have ez : (0 : Int32).toInt = 0 := rfl
  have na : ((xI h 127 kk.toNatClampNeg)).toNatClampNeg = a := by show (xI h 127 kk.toNatClampNeg).toInt.toNat = _; rw [ep, ea]; rfl
  have nc : ((xI h 128 kk.toNatClampNeg)).toNatClampNeg = c := by show (xI h 128 kk.toNatClampNeg).toInt.toNat = _; rw [eo, ec]; rfl
  have ez6 : (Int64.ofInt (0)).toInt = 0 := rfl
  have ez7 : (0 : Int64).toInt = 0 := rfl
  have o1 : ¬ (Int32.ofInt (1)) = (0 : Int32) := by decide
  have o0 : (Int32.ofInt (0)) = (0 : Int32) := rfl
  have ha : xI h 104 54 = 0 → (xL h 132 ((xI h 127 kk.toNatClampNeg)).toNatClampNeg).toInt = V a ∧ zM (xL h 132 ((xI h 127 kk.toNatClampNeg)).toNatClampNeg) := fun z => by rw [na]; exact hva z
  have hb : xI h 104 54 = 0 → (xL h 132 ((xI h 128 kk.toNatClampNeg)).toNatClampNeg).toInt = V c ∧ zM (xL h 132 ((xI h 128 kk.toNatClampNeg)).toNatClampNeg) := fun z => by rw [nc]; exact hvc z
  have t1 : XT l 1 30 false 226 153 6051 0 [xf 13 104, xi kk, xun, xun, xun, xun] [] h 199 [xf 13 104, xi kk, xl (xL h (xR h 104 53) ((xI h (xR h 104 42) (kk).toNatClampNeg)).toNatClampNeg), xun, xl (xL h (xR h 104 53) ((xI h (xR h 104 43) (kk).toNatClampNeg)).toNatClampNeg), xun] [xl ((xL h (xR h 104 53) ((xI h (xR h 104 42) (kk).toNatClampNeg)).toNatClampNeg) + (xL h (xR h 104 53) ((xI h (xR h 104 43) (kk).toNatClampNeg)).toNatClampNeg)), xf 13 104] h := XT_path (l := l) (fr := 1) (lo := 30) (full := false) (M := 226) (n := 153) (u := 6051) (pc := 0) (L := [xf 13 104, xi kk, xun, xun, xun, xun]) (st := []) (h := h) (inl := []) (n' := 200) (sp := [199]) (o := [1, 1, 1, 9]) rfl rfl ⟨rfl, rfl, rfl⟩ rfl ⟨Nat.le_of_eq hg.2.2.2.1, Nat.le_of_eq hg.2.2.2.2⟩ ⟨⟨⟨⟨⟨⟨⟨⟨⟨⟨⟨⟨⟨⟨⟨⟨⟨⟨⟨⟨trivial, (vnn hg.1 (rfl : vRf 104 41 = [126]) (by decide))⟩, (vp_of (i := kk) (n := 128) (by omega) (by omega))⟩, (show ¬ (xI h (xR h 104 41) (kk).toNatClampNeg) = 0 from by rw [vref hg.1 (rfl : vRf 104 41 = [126])]; exact fun z => absurd (congrArg Int32.toInt z) (by omega))⟩, (vnn hg.1 (rfl : vRf 104 41 = [126]) (by decide))⟩, (vp_of (i := kk) (n := 128) (by omega) (by omega))⟩, (show ¬ (xI h (xR h 104 41) (kk).toNatClampNeg) = (Int32.ofInt (1)) from by rw [vref hg.1 (rfl : vRf 104 41 = [126])]; exact fun z => absurd (congrArg Int32.toInt z) (by omega))⟩, (vnn hg.1 (rfl : vRf 104 53 = [132]) (by decide))⟩, (vnn hg.1 (rfl : vRf 104 42 = [127]) (by decide))⟩, (vp_of (i := kk) (n := 128) (by omega) (by omega))⟩, (show vp_in ((xI h (xR h 104 42) (kk).toNatClampNeg)) (64) from (by rw [vref hg.1 (rfl : vRf 104 42 = [127])]; exact (vp_of (i := (xI h 127 (kk).toNatClampNeg)) (n := 64) (by omega) (by omega) : vp_in ((xI h 127 (kk).toNatClampNeg)) (64))))⟩, (vnn hg.1 (rfl : vRf 104 41 = [126]) (by decide))⟩, (vp_of (i := kk) (n := 128) (by omega) (by omega))⟩, (show ¬ (xI h (xR h 104 41) (kk).toNatClampNeg) = (Int32.ofInt (2)) from by rw [vref hg.1 (rfl : vRf 104 41 = [126])]; exact fun z => absurd (congrArg Int32.toInt z) (by omega))⟩, (vnn hg.1 (rfl : vRf 104 53 = [132]) (by decide))⟩, (vnn hg.1 (rfl : vRf 104 43 = [128]) (by decide))⟩, (vp_of (i := kk) (n := 128) (by omega) (by omega))⟩, (show vp_in ((xI h (xR h 104 43) (kk).toNatClampNeg)) (64) from (by rw [vref hg.1 (rfl : vRf 104 43 = [128])]; exact (vp_of (i := (xI h 128 (kk).toNatClampNeg)) (n := 64) (by omega) (by omega) : vp_in ((xI h 128 (kk).toNatClampNeg)) (64))))⟩, (vnn hg.1 (rfl : vRf 104 41 = [126]) (by decide))⟩, (vp_of (i := kk) (n := 128) (by omega) (by omega))⟩, ⟨(by rw [vref hg.1 (rfl : vRf 104 41 = [126])]; exact jc), by decide⟩⟩
  rw [vref hg.1 (rfl : vRf 104 53 = [132]), vref hg.1 (rfl : vRf 104 42 = [127]), vref hg.1 (rfl : vRf 104 43 = [128])] at t1
  obtain ⟨v, h', c1, g1, z1, z2⟩ := jk_bounded l ((xL h 132 ((xI h 127 (kk).toNatClampNeg)).toNatClampNeg) + (xL h 132 ((xI h 128 (kk).toNatClampNeg)).toNatClampNeg)) h hg
  have t2 : XT l 1 30 false 226 153 6051 199 [xf 13 104, xi kk, xl (xL h 132 ((xI h 127 (kk).toNatClampNeg)).toNatClampNeg), xun, xl (xL h 132 ((xI h 128 (kk).toNatClampNeg)).toNatClampNeg), xun] [xl ((xL h 132 ((xI h 127 (kk).toNatClampNeg)).toNatClampNeg) + (xL h 132 ((xI h 128 (kk).toNatClampNeg)).toNatClampNeg)), xf 13 104] h 202 [xf 13 104, xi kk, xl (xL h 132 ((xI h 127 (kk).toNatClampNeg)).toNatClampNeg), xun, xl (xL h 132 ((xI h 128 (kk).toNatClampNeg)).toNatClampNeg), xun] [xl v] h' := XT_call (l := l) (fr := 1) (lo := 30) (full := false) (M := 226) (n := 153) (u := 6051) (pc := 199) (L := [xf 13 104, xi kk, xl (xL h 132 ((xI h 127 (kk).toNatClampNeg)).toNatClampNeg), xun, xl (xL h 132 ((xI h 128 (kk).toNatClampNeg)).toNatClampNeg), xun]) (st := [xl ((xL h 132 ((xI h 127 (kk).toNatClampNeg)).toNatClampNeg) + (xL h 132 ((xI h 128 (kk).toNatClampNeg)).toNatClampNeg)), xf 13 104]) (h := h) (i := .invokevirtual 227) (aux := 2) (nx := 202) (K := 227) (vs := [xf 13 104, xl ((xL h 132 ((xI h 127 (kk).toNatClampNeg)).toNatClampNeg) + (xL h 132 ((xI h 128 (kk).toNatClampNeg)).toNatClampNeg))]) (rs := [xl v]) (rest := []) rfl rfl rfl rfl rfl rfl c1 (by decide) (by decide) (Nat.le_of_ble_eq_true rfl) ⟨Nat.le_of_eq g1.1.2.2.2.1, Nat.le_of_eq g1.1.2.2.2.2⟩
  have t3 := t1.tr t2
  refine ⟨_, _, CX_ofT (h' := h') (by decide) rfl rfl trivial ⟨_, _, _, rfl, rfl, rfl⟩ rfl ⟨Nat.le_of_eq g1.1.2.2.2.1.symm, Nat.le_of_eq g1.1.2.2.2.2.symm⟩ t3, g1, fun z => ?_, z2⟩
  have y := z1 z
  rw [zl_add (ha z).2 (hb z).2, (ha z).1, (hb z).1] at y
  exact y
set_option maxRecDepth 100000 in
set_option maxHeartbeats 4000000 in
theorem jk_bin14 (l : Launch) (Z V : Nat → Int) (kk : Int32) (i a c : Nat) (h : XH) (hg : mI h) (hk : kk.toInt = i) (hi : i < 64) (ek : (xI h 126 kk.toNatClampNeg).toInt = jkn (Z (300 + i))) (ep : (xI h 127 kk.toNatClampNeg).toInt = Z (500 + i)) (eo : (xI h 128 kk.toNatClampNeg).toInt = Z (600 + i)) (eo_ : Z (300 + i) = 14) (ea : Z (500 + i) = a) (ec : Z (600 + i) = c) (la : a < i) (lc : c < i) (hva : xI h 104 54 = 0 → (xL h 132 a).toInt = V a ∧ zM (xL h 132 a)) (hvc : xI h 104 54 = 0 → (xL h 132 c).toInt = V c ∧ zM (xL h 132 c)) : ∃ v h', CX l 1 30 false 226 [xf 13 104, xi kk] h [xl v] h' ∧ mV h h' ∧ (xI h 104 54 = 0 → zvv (zbnd (V a - V c)) v (xI h' 104 54)) ∧ (¬ xI h 104 54 = 0 → ¬ xI h' 104 54 = 0) := by
  have jc : (xI h 126 kk.toNatClampNeg).toInt = 12 := by rw [ek, eo_]; rfl
  have e_1 : ((Int32.ofInt (1))).toInt = 1 := rfl
  have e_2 : ((Int32.ofInt (2))).toInt = 2 := rfl
  have ez : (0 : Int32).toInt = 0 := rfl
  have na : ((xI h 127 kk.toNatClampNeg)).toNatClampNeg = a := by show (xI h 127 kk.toNatClampNeg).toInt.toNat = _; rw [ep, ea]; rfl
  have nc : ((xI h 128 kk.toNatClampNeg)).toNatClampNeg = c := by show (xI h 128 kk.toNatClampNeg).toInt.toNat = _; rw [eo, ec]; rfl
  have ez6 : (Int64.ofInt (0)).toInt = 0 := rfl
  have ez7 : (0 : Int64).toInt = 0 := rfl
  have o1 : ¬ (Int32.ofInt (1)) = (0 : Int32) := by decide
  have o0 : (Int32.ofInt (0)) = (0 : Int32) := rfl
  have ha : xI h 104 54 = 0 → (xL h 132 ((xI h 127 kk.toNatClampNeg)).toNatClampNeg).toInt = V a ∧ zM (xL h 132 ((xI h 127 kk.toNatClampNeg)).toNatClampNeg) := fun z => by rw [na]; exact hva z
  have hb : xI h 104 54 = 0 → (xL h 132 ((xI h 128 kk.toNatClampNeg)).toNatClampNeg).toInt = V c ∧ zM (xL h 132 ((xI h 128 kk.toNatClampNeg)).toNatClampNeg) := fun z => by rw [nc]; exact hvc z
  have t1 : XT l 1 30 false 226 153 6051 0 [xf 13 104, xi kk, xun, xun, xun, xun] [] h 208 [xf 13 104, xi kk, xl (xL h (xR h 104 53) ((xI h (xR h 104 42) (kk).toNatClampNeg)).toNatClampNeg), xun, xl (xL h (xR h 104 53) ((xI h (xR h 104 43) (kk).toNatClampNeg)).toNatClampNeg), xun] [xl ((xL h (xR h 104 53) ((xI h (xR h 104 42) (kk).toNatClampNeg)).toNatClampNeg) - (xL h (xR h 104 53) ((xI h (xR h 104 43) (kk).toNatClampNeg)).toNatClampNeg)), xf 13 104] h := XT_path (l := l) (fr := 1) (lo := 30) (full := false) (M := 226) (n := 153) (u := 6051) (pc := 0) (L := [xf 13 104, xi kk, xun, xun, xun, xun]) (st := []) (h := h) (inl := []) (n' := 200) (sp := [208]) (o := [1, 1, 1, 10]) rfl rfl ⟨rfl, rfl, rfl⟩ rfl ⟨Nat.le_of_eq hg.2.2.2.1, Nat.le_of_eq hg.2.2.2.2⟩ ⟨⟨⟨⟨⟨⟨⟨⟨⟨⟨⟨⟨⟨⟨⟨⟨⟨⟨⟨⟨trivial, (vnn hg.1 (rfl : vRf 104 41 = [126]) (by decide))⟩, (vp_of (i := kk) (n := 128) (by omega) (by omega))⟩, (show ¬ (xI h (xR h 104 41) (kk).toNatClampNeg) = 0 from by rw [vref hg.1 (rfl : vRf 104 41 = [126])]; exact fun z => absurd (congrArg Int32.toInt z) (by omega))⟩, (vnn hg.1 (rfl : vRf 104 41 = [126]) (by decide))⟩, (vp_of (i := kk) (n := 128) (by omega) (by omega))⟩, (show ¬ (xI h (xR h 104 41) (kk).toNatClampNeg) = (Int32.ofInt (1)) from by rw [vref hg.1 (rfl : vRf 104 41 = [126])]; exact fun z => absurd (congrArg Int32.toInt z) (by omega))⟩, (vnn hg.1 (rfl : vRf 104 53 = [132]) (by decide))⟩, (vnn hg.1 (rfl : vRf 104 42 = [127]) (by decide))⟩, (vp_of (i := kk) (n := 128) (by omega) (by omega))⟩, (show vp_in ((xI h (xR h 104 42) (kk).toNatClampNeg)) (64) from (by rw [vref hg.1 (rfl : vRf 104 42 = [127])]; exact (vp_of (i := (xI h 127 (kk).toNatClampNeg)) (n := 64) (by omega) (by omega) : vp_in ((xI h 127 (kk).toNatClampNeg)) (64))))⟩, (vnn hg.1 (rfl : vRf 104 41 = [126]) (by decide))⟩, (vp_of (i := kk) (n := 128) (by omega) (by omega))⟩, (show ¬ (xI h (xR h 104 41) (kk).toNatClampNeg) = (Int32.ofInt (2)) from by rw [vref hg.1 (rfl : vRf 104 41 = [126])]; exact fun z => absurd (congrArg Int32.toInt z) (by omega))⟩, (vnn hg.1 (rfl : vRf 104 53 = [132]) (by decide))⟩, (vnn hg.1 (rfl : vRf 104 43 = [128]) (by decide))⟩, (vp_of (i := kk) (n := 128) (by omega) (by omega))⟩, (show vp_in ((xI h (xR h 104 43) (kk).toNatClampNeg)) (64) from (by rw [vref hg.1 (rfl : vRf 104 43 = [128])]; exact (vp_of (i := (xI h 128 (kk).toNatClampNeg)) (n := 64) (by omega) (by omega) : vp_in ((xI h 128 (kk).toNatClampNeg)) (64))))⟩, (vnn hg.1 (rfl : vRf 104 41 = [126]) (by decide))⟩, (vp_of (i := kk) (n := 128) (by omega) (by omega))⟩, ⟨(by rw [vref hg.1 (rfl : vRf 104 41 = [126])]; exact jc), by decide⟩⟩
  rw [vref hg.1 (rfl : vRf 104 53 = [132]), vref hg.1 (rfl : vRf 104 42 = [127]), vref hg.1 (rfl : vRf 104 43 = [128])] at t1
  obtain ⟨v, h', c1, g1, z1, z2⟩ := jk_bounded l ((xL h 132 ((xI h 127 (kk).toNatClampNeg)).toNatClampNeg) - (xL h 132 ((xI h 128 (kk).toNatClampNeg)).toNatClampNeg)) h hg
  have t2 : XT l 1 30 false 226 153 6051 208 [xf 13 104, xi kk, xl (xL h 132 ((xI h 127 (kk).toNatClampNeg)).toNatClampNeg), xun, xl (xL h 132 ((xI h 128 (kk).toNatClampNeg)).toNatClampNeg), xun] [xl ((xL h 132 ((xI h 127 (kk).toNatClampNeg)).toNatClampNeg) - (xL h 132 ((xI h 128 (kk).toNatClampNeg)).toNatClampNeg)), xf 13 104] h 211 [xf 13 104, xi kk, xl (xL h 132 ((xI h 127 (kk).toNatClampNeg)).toNatClampNeg), xun, xl (xL h 132 ((xI h 128 (kk).toNatClampNeg)).toNatClampNeg), xun] [xl v] h' := XT_call (l := l) (fr := 1) (lo := 30) (full := false) (M := 226) (n := 153) (u := 6051) (pc := 208) (L := [xf 13 104, xi kk, xl (xL h 132 ((xI h 127 (kk).toNatClampNeg)).toNatClampNeg), xun, xl (xL h 132 ((xI h 128 (kk).toNatClampNeg)).toNatClampNeg), xun]) (st := [xl ((xL h 132 ((xI h 127 (kk).toNatClampNeg)).toNatClampNeg) - (xL h 132 ((xI h 128 (kk).toNatClampNeg)).toNatClampNeg)), xf 13 104]) (h := h) (i := .invokevirtual 227) (aux := 2) (nx := 211) (K := 227) (vs := [xf 13 104, xl ((xL h 132 ((xI h 127 (kk).toNatClampNeg)).toNatClampNeg) - (xL h 132 ((xI h 128 (kk).toNatClampNeg)).toNatClampNeg))]) (rs := [xl v]) (rest := []) rfl rfl rfl rfl rfl rfl c1 (by decide) (by decide) (Nat.le_of_ble_eq_true rfl) ⟨Nat.le_of_eq g1.1.2.2.2.1, Nat.le_of_eq g1.1.2.2.2.2⟩
  have t3 := t1.tr t2
  refine ⟨_, _, CX_ofT (h' := h') (by decide) rfl rfl trivial ⟨_, _, _, rfl, rfl, rfl⟩ rfl ⟨Nat.le_of_eq g1.1.2.2.2.1.symm, Nat.le_of_eq g1.1.2.2.2.2.symm⟩ t3, g1, fun z => ?_, z2⟩
  have y := z1 z
  rw [zl_sub (ha z).2 (hb z).2, (ha z).1, (hb z).1] at y
  exact y
set_option maxRecDepth 100000 in
set_option maxHeartbeats 4000000 in
theorem jk_bin15 (l : Launch) (Z V : Nat → Int) (kk : Int32) (i a c : Nat) (h : XH) (hg : mI h) (hk : kk.toInt = i) (hi : i < 64) (ek : (xI h 126 kk.toNatClampNeg).toInt = jkn (Z (300 + i))) (ep : (xI h 127 kk.toNatClampNeg).toInt = Z (500 + i)) (eo : (xI h 128 kk.toNatClampNeg).toInt = Z (600 + i)) (eo_ : Z (300 + i) = 15) (ea : Z (500 + i) = a) (ec : Z (600 + i) = c) (la : a < i) (lc : c < i) (hva : xI h 104 54 = 0 → (xL h 132 a).toInt = V a ∧ zM (xL h 132 a)) (hvc : xI h 104 54 = 0 → (xL h 132 c).toInt = V c ∧ zM (xL h 132 c)) : ∃ v h', CX l 1 30 false 226 [xf 13 104, xi kk] h [xl v] h' ∧ mV h h' ∧ (xI h 104 54 = 0 → zvv (zbnd (V a * V c)) v (xI h' 104 54)) ∧ (¬ xI h 104 54 = 0 → ¬ xI h' 104 54 = 0) := by
  have jc : (xI h 126 kk.toNatClampNeg).toInt = 13 := by rw [ek, eo_]; rfl
  have e_1 : ((Int32.ofInt (1))).toInt = 1 := rfl
  have e_2 : ((Int32.ofInt (2))).toInt = 2 := rfl
  have ez : (0 : Int32).toInt = 0 := rfl
  have na : ((xI h 127 kk.toNatClampNeg)).toNatClampNeg = a := by show (xI h 127 kk.toNatClampNeg).toInt.toNat = _; rw [ep, ea]; rfl
  have nc : ((xI h 128 kk.toNatClampNeg)).toNatClampNeg = c := by show (xI h 128 kk.toNatClampNeg).toInt.toNat = _; rw [eo, ec]; rfl
  have ez6 : (Int64.ofInt (0)).toInt = 0 := rfl
  have ez7 : (0 : Int64).toInt = 0 := rfl
  have o1 : ¬ (Int32.ofInt (1)) = (0 : Int32) := by decide
  have o0 : (Int32.ofInt (0)) = (0 : Int32) := rfl
  have ha : xI h 104 54 = 0 → (xL h 132 ((xI h 127 kk.toNatClampNeg)).toNatClampNeg).toInt = V a ∧ zM (xL h 132 ((xI h 127 kk.toNatClampNeg)).toNatClampNeg) := fun z => by rw [na]; exact hva z
  have hb : xI h 104 54 = 0 → (xL h 132 ((xI h 128 kk.toNatClampNeg)).toNatClampNeg).toInt = V c ∧ zM (xL h 132 ((xI h 128 kk.toNatClampNeg)).toNatClampNeg) := fun z => by rw [nc]; exact hvc z
  have t1 : XT l 1 30 false 226 153 6051 0 [xf 13 104, xi kk, xun, xun, xun, xun] [] h 216 [xf 13 104, xi kk, xl (xL h (xR h 104 53) ((xI h (xR h 104 42) (kk).toNatClampNeg)).toNatClampNeg), xun, xl (xL h (xR h 104 53) ((xI h (xR h 104 43) (kk).toNatClampNeg)).toNatClampNeg), xun] [xl (xL h (xR h 104 53) ((xI h (xR h 104 43) (kk).toNatClampNeg)).toNatClampNeg), xl (xL h (xR h 104 53) ((xI h (xR h 104 42) (kk).toNatClampNeg)).toNatClampNeg), xf 13 104] h := XT_path (l := l) (fr := 1) (lo := 30) (full := false) (M := 226) (n := 153) (u := 6051) (pc := 0) (L := [xf 13 104, xi kk, xun, xun, xun, xun]) (st := []) (h := h) (inl := []) (n' := 200) (sp := [216]) (o := [1, 1, 1, 11]) rfl rfl ⟨rfl, rfl, rfl⟩ rfl ⟨Nat.le_of_eq hg.2.2.2.1, Nat.le_of_eq hg.2.2.2.2⟩ ⟨⟨⟨⟨⟨⟨⟨⟨⟨⟨⟨⟨⟨⟨⟨⟨⟨⟨⟨⟨trivial, (vnn hg.1 (rfl : vRf 104 41 = [126]) (by decide))⟩, (vp_of (i := kk) (n := 128) (by omega) (by omega))⟩, (show ¬ (xI h (xR h 104 41) (kk).toNatClampNeg) = 0 from by rw [vref hg.1 (rfl : vRf 104 41 = [126])]; exact fun z => absurd (congrArg Int32.toInt z) (by omega))⟩, (vnn hg.1 (rfl : vRf 104 41 = [126]) (by decide))⟩, (vp_of (i := kk) (n := 128) (by omega) (by omega))⟩, (show ¬ (xI h (xR h 104 41) (kk).toNatClampNeg) = (Int32.ofInt (1)) from by rw [vref hg.1 (rfl : vRf 104 41 = [126])]; exact fun z => absurd (congrArg Int32.toInt z) (by omega))⟩, (vnn hg.1 (rfl : vRf 104 53 = [132]) (by decide))⟩, (vnn hg.1 (rfl : vRf 104 42 = [127]) (by decide))⟩, (vp_of (i := kk) (n := 128) (by omega) (by omega))⟩, (show vp_in ((xI h (xR h 104 42) (kk).toNatClampNeg)) (64) from (by rw [vref hg.1 (rfl : vRf 104 42 = [127])]; exact (vp_of (i := (xI h 127 (kk).toNatClampNeg)) (n := 64) (by omega) (by omega) : vp_in ((xI h 127 (kk).toNatClampNeg)) (64))))⟩, (vnn hg.1 (rfl : vRf 104 41 = [126]) (by decide))⟩, (vp_of (i := kk) (n := 128) (by omega) (by omega))⟩, (show ¬ (xI h (xR h 104 41) (kk).toNatClampNeg) = (Int32.ofInt (2)) from by rw [vref hg.1 (rfl : vRf 104 41 = [126])]; exact fun z => absurd (congrArg Int32.toInt z) (by omega))⟩, (vnn hg.1 (rfl : vRf 104 53 = [132]) (by decide))⟩, (vnn hg.1 (rfl : vRf 104 43 = [128]) (by decide))⟩, (vp_of (i := kk) (n := 128) (by omega) (by omega))⟩, (show vp_in ((xI h (xR h 104 43) (kk).toNatClampNeg)) (64) from (by rw [vref hg.1 (rfl : vRf 104 43 = [128])]; exact (vp_of (i := (xI h 128 (kk).toNatClampNeg)) (n := 64) (by omega) (by omega) : vp_in ((xI h 128 (kk).toNatClampNeg)) (64))))⟩, (vnn hg.1 (rfl : vRf 104 41 = [126]) (by decide))⟩, (vp_of (i := kk) (n := 128) (by omega) (by omega))⟩, ⟨(by rw [vref hg.1 (rfl : vRf 104 41 = [126])]; exact jc), by decide⟩⟩
  rw [vref hg.1 (rfl : vRf 104 53 = [132]), vref hg.1 (rfl : vRf 104 42 = [127]), vref hg.1 (rfl : vRf 104 43 = [128])] at t1
  obtain ⟨v, h', c1, g1, z1, z2⟩ := jk_times l (xL h 132 ((xI h 127 (kk).toNatClampNeg)).toNatClampNeg) (xL h 132 ((xI h 128 (kk).toNatClampNeg)).toNatClampNeg) h hg (fun z => ⟨(ha z).2, (hb z).2⟩)
  have t2 : XT l 1 30 false 226 153 6051 216 [xf 13 104, xi kk, xl (xL h 132 ((xI h 127 (kk).toNatClampNeg)).toNatClampNeg), xun, xl (xL h 132 ((xI h 128 (kk).toNatClampNeg)).toNatClampNeg), xun] [xl (xL h 132 ((xI h 128 (kk).toNatClampNeg)).toNatClampNeg), xl (xL h 132 ((xI h 127 (kk).toNatClampNeg)).toNatClampNeg), xf 13 104] h 219 [xf 13 104, xi kk, xl (xL h 132 ((xI h 127 (kk).toNatClampNeg)).toNatClampNeg), xun, xl (xL h 132 ((xI h 128 (kk).toNatClampNeg)).toNatClampNeg), xun] [xl v] h' := XT_call (l := l) (fr := 1) (lo := 30) (full := false) (M := 226) (n := 153) (u := 6051) (pc := 216) (L := [xf 13 104, xi kk, xl (xL h 132 ((xI h 127 (kk).toNatClampNeg)).toNatClampNeg), xun, xl (xL h 132 ((xI h 128 (kk).toNatClampNeg)).toNatClampNeg), xun]) (st := [xl (xL h 132 ((xI h 128 (kk).toNatClampNeg)).toNatClampNeg), xl (xL h 132 ((xI h 127 (kk).toNatClampNeg)).toNatClampNeg), xf 13 104]) (h := h) (i := .invokevirtual 228) (aux := 3) (nx := 219) (K := 228) (vs := [xf 13 104, xl (xL h 132 ((xI h 127 (kk).toNatClampNeg)).toNatClampNeg), xl (xL h 132 ((xI h 128 (kk).toNatClampNeg)).toNatClampNeg)]) (rs := [xl v]) (rest := []) rfl rfl rfl rfl rfl rfl c1 (by decide) (by decide) (Nat.le_of_ble_eq_true rfl) ⟨Nat.le_of_eq g1.1.2.2.2.1, Nat.le_of_eq g1.1.2.2.2.2⟩
  have t3 := t1.tr t2
  refine ⟨_, _, CX_ofT (h' := h') (by decide) rfl rfl trivial ⟨_, _, _, rfl, rfl, rfl⟩ rfl ⟨Nat.le_of_eq g1.1.2.2.2.1.symm, Nat.le_of_eq g1.1.2.2.2.2.symm⟩ t3, g1, fun z => ?_, z2⟩
  have y := z1 z
  rw [(ha z).1, (hb z).1] at y
  exact y
set_option maxRecDepth 100000 in
set_option maxHeartbeats 4000000 in
theorem jk_bin16 (l : Launch) (Z V : Nat → Int) (kk : Int32) (i a c : Nat) (h : XH) (hg : mI h) (hk : kk.toInt = i) (hi : i < 64) (ek : (xI h 126 kk.toNatClampNeg).toInt = jkn (Z (300 + i))) (ep : (xI h 127 kk.toNatClampNeg).toInt = Z (500 + i)) (eo : (xI h 128 kk.toNatClampNeg).toInt = Z (600 + i)) (eo_ : Z (300 + i) = 16) (ea : Z (500 + i) = a) (ec : Z (600 + i) = c) (la : a < i) (lc : c < i) (hva : xI h 104 54 = 0 → (xL h 132 a).toInt = V a ∧ zM (xL h 132 a)) (hvc : xI h 104 54 = 0 → (xL h 132 c).toInt = V c ∧ zM (xL h 132 c)) : ∃ v h', CX l 1 30 false 226 [xf 13 104, xi kk] h [xl v] h' ∧ mV h h' ∧ (xI h 104 54 = 0 → zvv ((if V c = 0 then none else some ((V a).tdiv (V c)))) v (xI h' 104 54)) ∧ (¬ xI h 104 54 = 0 → ¬ xI h' 104 54 = 0) := by
  have jc : (xI h 126 kk.toNatClampNeg).toInt = 14 := by rw [ek, eo_]; rfl
  have e_1 : ((Int32.ofInt (1))).toInt = 1 := rfl
  have e_2 : ((Int32.ofInt (2))).toInt = 2 := rfl
  have ez : (0 : Int32).toInt = 0 := rfl
  have na : ((xI h 127 kk.toNatClampNeg)).toNatClampNeg = a := by show (xI h 127 kk.toNatClampNeg).toInt.toNat = _; rw [ep, ea]; rfl
  have nc : ((xI h 128 kk.toNatClampNeg)).toNatClampNeg = c := by show (xI h 128 kk.toNatClampNeg).toInt.toNat = _; rw [eo, ec]; rfl
  have ez6 : (Int64.ofInt (0)).toInt = 0 := rfl
  have ez7 : (0 : Int64).toInt = 0 := rfl
  have o1 : ¬ (Int32.ofInt (1)) = (0 : Int32) := by decide
  have o0 : (Int32.ofInt (0)) = (0 : Int32) := rfl
  have ha : xI h 104 54 = 0 → (xL h 132 ((xI h 127 kk.toNatClampNeg)).toNatClampNeg).toInt = V a ∧ zM (xL h 132 ((xI h 127 kk.toNatClampNeg)).toNatClampNeg) := fun z => by rw [na]; exact hva z
  have hb : xI h 104 54 = 0 → (xL h 132 ((xI h 128 kk.toNatClampNeg)).toNatClampNeg).toInt = V c ∧ zM (xL h 132 ((xI h 128 kk.toNatClampNeg)).toNatClampNeg) := fun z => by rw [nc]; exact hvc z
  by_cases cb1 : (xI h 104 54) = 0
  · have e_0 : (0 : Int32).toInt = 0 := rfl
    have dcb1 : (xI h 104 54).toInt = (0 : Int32).toInt := congrArg Int32.toInt cb1
    by_cases cb2 : (lg_cmp (xL h (xR h 104 53) ((xI h (xR h 104 43) (kk).toNatClampNeg)).toNatClampNeg) (Int64.ofInt (0))) = 0
    · have el_0 : (Int64.ofInt (0)).toInt = 0 := rfl
      have cb2r := cb2
      rw [vref hg.1 (rfl : vRf 104 53 = [132]), vref hg.1 (rfl : vRf 104 43 = [128])] at cb2r
      have dcb2 : (xL h 132 ((xI h 128 (kk).toNatClampNeg)).toNatClampNeg).toInt = (Int64.ofInt (0)).toInt := lgi_eq.mp cb2r
      have t3 : XT l 1 30 false 226 153 6051 0 [xf 13 104, xi kk, xun, xun, xun, xun] [] h 258 [xf 13 104, xi kk, xl (xL h (xR h 104 53) ((xI h (xR h 104 42) (kk).toNatClampNeg)).toNatClampNeg), xun, xl (xL h (xR h 104 53) ((xI h (xR h 104 43) (kk).toNatClampNeg)).toNatClampNeg), xun] [xl (Int64.ofInt (0))] (xsetI h 104 54 (Int32.ofInt (1))) := XT_path (l := l) (fr := 1) (lo := 30) (full := false) (M := 226) (n := 153) (u := 6051) (pc := 0) (L := [xf 13 104, xi kk, xun, xun, xun, xun]) (st := []) (h := h) (inl := []) (n' := 200) (sp := [258]) (o := [1, 1, 1, 12, 0, 0, 0]) rfl rfl ⟨rfl, rfl, rfl⟩ rfl ⟨Nat.le_of_eq hg.2.2.2.1, Nat.le_of_eq hg.2.2.2.2⟩ ⟨⟨⟨⟨⟨⟨⟨⟨⟨⟨⟨⟨⟨⟨⟨⟨⟨⟨⟨⟨⟨⟨⟨⟨trivial, (vnn hg.1 (rfl : vRf 104 41 = [126]) (by decide))⟩, (vp_of (i := kk) (n := 128) (by omega) (by omega))⟩, (show ¬ (xI h (xR h 104 41) (kk).toNatClampNeg) = 0 from by rw [vref hg.1 (rfl : vRf 104 41 = [126])]; exact fun z => absurd (congrArg Int32.toInt z) (by omega))⟩, (vnn hg.1 (rfl : vRf 104 41 = [126]) (by decide))⟩, (vp_of (i := kk) (n := 128) (by omega) (by omega))⟩, (show ¬ (xI h (xR h 104 41) (kk).toNatClampNeg) = (Int32.ofInt (1)) from by rw [vref hg.1 (rfl : vRf 104 41 = [126])]; exact fun z => absurd (congrArg Int32.toInt z) (by omega))⟩, (vnn hg.1 (rfl : vRf 104 53 = [132]) (by decide))⟩, (vnn hg.1 (rfl : vRf 104 42 = [127]) (by decide))⟩, (vp_of (i := kk) (n := 128) (by omega) (by omega))⟩, (show vp_in ((xI h (xR h 104 42) (kk).toNatClampNeg)) (64) from (by rw [vref hg.1 (rfl : vRf 104 42 = [127])]; exact (vp_of (i := (xI h 127 (kk).toNatClampNeg)) (n := 64) (by omega) (by omega) : vp_in ((xI h 127 (kk).toNatClampNeg)) (64))))⟩, (vnn hg.1 (rfl : vRf 104 41 = [126]) (by decide))⟩, (vp_of (i := kk) (n := 128) (by omega) (by omega))⟩, (show ¬ (xI h (xR h 104 41) (kk).toNatClampNeg) = (Int32.ofInt (2)) from by rw [vref hg.1 (rfl : vRf 104 41 = [126])]; exact fun z => absurd (congrArg Int32.toInt z) (by omega))⟩, (vnn hg.1 (rfl : vRf 104 53 = [132]) (by decide))⟩, (vnn hg.1 (rfl : vRf 104 43 = [128]) (by decide))⟩, (vp_of (i := kk) (n := 128) (by omega) (by omega))⟩, (show vp_in ((xI h (xR h 104 43) (kk).toNatClampNeg)) (64) from (by rw [vref hg.1 (rfl : vRf 104 43 = [128])]; exact (vp_of (i := (xI h 128 (kk).toNatClampNeg)) (n := 64) (by omega) (by omega) : vp_in ((xI h 128 (kk).toNatClampNeg)) (64))))⟩, (vnn hg.1 (rfl : vRf 104 41 = [126]) (by decide))⟩, (vp_of (i := kk) (n := 128) (by omega) (by omega))⟩, ⟨(by rw [vref hg.1 (rfl : vRf 104 41 = [126])]; exact jc), by decide⟩⟩, cb1⟩, cb2⟩, (Or.inr rfl)⟩, (show ¬ (Int32.ofInt (1)) = 0 from by decide)⟩
      rw [vref hg.1 (rfl : vRf 104 53 = [132]), vref hg.1 (rfl : vRf 104 42 = [127]), vref hg.1 (rfl : vRf 104 43 = [128])] at t3
      refine ⟨_, _, CX_ofT (h' := (xsetI h 104 54 (Int32.ofInt (1)))) (by decide) rfl rfl trivial ⟨_, _, _, rfl, rfl, rfl⟩ rfl ⟨Nat.le_of_eq hg.2.2.2.1.symm, Nat.le_of_eq hg.2.2.2.2.symm⟩ t3, mV.set hg (by decide), fun z => ?_, fun z => ?_⟩
      · rw [show xI (xsetI h 104 54 (Int32.ofInt (1))) 104 54 = _ from yI_same]
        rw [if_pos (show V c = 0 from (hb z).1.symm.trans (show (xL h 132 ((xI h 128 kk.toNatClampNeg)).toNatClampNeg).toInt = 0 from dcb2))]
        exact o1
      · rw [show xI (xsetI h 104 54 (Int32.ofInt (1))) 104 54 = _ from yI_same]
        exact absurd cb1 z
    · have el_0 : (Int64.ofInt (0)).toInt = 0 := rfl
      have cb2r := cb2
      rw [vref hg.1 (rfl : vRf 104 53 = [132]), vref hg.1 (rfl : vRf 104 43 = [128])] at cb2r
      have dcb2 : ¬ (xL h 132 ((xI h 128 (kk).toNatClampNeg)).toNatClampNeg).toInt = (Int64.ofInt (0)).toInt := fun z_ => cb2r (lgi_eq.mpr z_)
      have t4 : XT l 1 30 false 226 153 6051 0 [xf 13 104, xi kk, xun, xun, xun, xun] [] h 258 [xf 13 104, xi kk, xl (xL h (xR h 104 53) ((xI h (xR h 104 42) (kk).toNatClampNeg)).toNatClampNeg), xun, xl (xL h (xR h 104 53) ((xI h (xR h 104 43) (kk).toNatClampNeg)).toNatClampNeg), xun] [xl ((xL h (xR h 104 53) ((xI h (xR h 104 42) (kk).toNatClampNeg)).toNatClampNeg) / (xL h (xR h 104 53) ((xI h (xR h 104 43) (kk).toNatClampNeg)).toNatClampNeg))] (xsetI h 104 54 (Int32.ofInt (0))) := XT_path (l := l) (fr := 1) (lo := 30) (full := false) (M := 226) (n := 153) (u := 6051) (pc := 0) (L := [xf 13 104, xi kk, xun, xun, xun, xun]) (st := []) (h := h) (inl := []) (n' := 200) (sp := [258]) (o := [1, 1, 1, 12, 0, 1, 1]) rfl rfl ⟨rfl, rfl, rfl⟩ rfl ⟨Nat.le_of_eq hg.2.2.2.1, Nat.le_of_eq hg.2.2.2.2⟩ ⟨⟨⟨⟨⟨⟨⟨⟨⟨⟨⟨⟨⟨⟨⟨⟨⟨⟨⟨⟨⟨⟨⟨⟨⟨trivial, (vnn hg.1 (rfl : vRf 104 41 = [126]) (by decide))⟩, (vp_of (i := kk) (n := 128) (by omega) (by omega))⟩, (show ¬ (xI h (xR h 104 41) (kk).toNatClampNeg) = 0 from by rw [vref hg.1 (rfl : vRf 104 41 = [126])]; exact fun z => absurd (congrArg Int32.toInt z) (by omega))⟩, (vnn hg.1 (rfl : vRf 104 41 = [126]) (by decide))⟩, (vp_of (i := kk) (n := 128) (by omega) (by omega))⟩, (show ¬ (xI h (xR h 104 41) (kk).toNatClampNeg) = (Int32.ofInt (1)) from by rw [vref hg.1 (rfl : vRf 104 41 = [126])]; exact fun z => absurd (congrArg Int32.toInt z) (by omega))⟩, (vnn hg.1 (rfl : vRf 104 53 = [132]) (by decide))⟩, (vnn hg.1 (rfl : vRf 104 42 = [127]) (by decide))⟩, (vp_of (i := kk) (n := 128) (by omega) (by omega))⟩, (show vp_in ((xI h (xR h 104 42) (kk).toNatClampNeg)) (64) from (by rw [vref hg.1 (rfl : vRf 104 42 = [127])]; exact (vp_of (i := (xI h 127 (kk).toNatClampNeg)) (n := 64) (by omega) (by omega) : vp_in ((xI h 127 (kk).toNatClampNeg)) (64))))⟩, (vnn hg.1 (rfl : vRf 104 41 = [126]) (by decide))⟩, (vp_of (i := kk) (n := 128) (by omega) (by omega))⟩, (show ¬ (xI h (xR h 104 41) (kk).toNatClampNeg) = (Int32.ofInt (2)) from by rw [vref hg.1 (rfl : vRf 104 41 = [126])]; exact fun z => absurd (congrArg Int32.toInt z) (by omega))⟩, (vnn hg.1 (rfl : vRf 104 53 = [132]) (by decide))⟩, (vnn hg.1 (rfl : vRf 104 43 = [128]) (by decide))⟩, (vp_of (i := kk) (n := 128) (by omega) (by omega))⟩, (show vp_in ((xI h (xR h 104 43) (kk).toNatClampNeg)) (64) from (by rw [vref hg.1 (rfl : vRf 104 43 = [128])]; exact (vp_of (i := (xI h 128 (kk).toNatClampNeg)) (n := 64) (by omega) (by omega) : vp_in ((xI h 128 (kk).toNatClampNeg)) (64))))⟩, (vnn hg.1 (rfl : vRf 104 41 = [126]) (by decide))⟩, (vp_of (i := kk) (n := 128) (by omega) (by omega))⟩, ⟨(by rw [vref hg.1 (rfl : vRf 104 41 = [126])]; exact jc), by decide⟩⟩, cb1⟩, cb2⟩, (Or.inl rfl)⟩, rfl⟩, (fun e => cb2 (by rw [e]; rfl))⟩
      rw [vref hg.1 (rfl : vRf 104 53 = [132]), vref hg.1 (rfl : vRf 104 42 = [127]), vref hg.1 (rfl : vRf 104 43 = [128])] at t4
      refine ⟨_, _, CX_ofT (h' := (xsetI h 104 54 (Int32.ofInt (0)))) (by decide) rfl rfl trivial ⟨_, _, _, rfl, rfl, rfl⟩ rfl ⟨Nat.le_of_eq hg.2.2.2.1.symm, Nat.le_of_eq hg.2.2.2.2.symm⟩ t4, mV.set hg (by decide), fun z => ?_, fun z => ?_⟩
      · rw [show xI (xsetI h 104 54 (Int32.ofInt (0))) 104 54 = _ from yI_same]
        rw [if_neg (show ¬ V c = 0 from fun y => dcb2 ((hb z).1.trans y))]
        have y := zl_tdiv (b := (xL h 132 ((xI h 128 kk.toNatClampNeg)).toNatClampNeg).toInt) (ha z).2.1 (ha z).2.2
        have y0 : ((xL h 132 ((xI h 127 kk.toNatClampNeg)).toNatClampNeg) / (xL h 132 ((xI h 128 kk.toNatClampNeg)).toNatClampNeg)).toInt = (xL h 132 ((xI h 127 kk.toNatClampNeg)).toNatClampNeg).toInt.tdiv (xL h 132 ((xI h 128 kk.toNatClampNeg)).toNatClampNeg).toInt := zl_div (by have := (ha z).2.1; omega)
        exact ⟨o0, by rw [y0, (ha z).1, (hb z).1], by unfold zM; rw [y0]; exact y⟩
      · rw [show xI (xsetI h 104 54 (Int32.ofInt (0))) 104 54 = _ from yI_same]
        exact absurd cb1 z
  · have e_0 : (0 : Int32).toInt = 0 := rfl
    have dcb1 : ¬ (xI h 104 54).toInt = (0 : Int32).toInt := fun z_ => cb1 (Int32.toInt_inj.mp z_)
    have t5 : XT l 1 30 false 226 153 6051 0 [xf 13 104, xi kk, xun, xun, xun, xun] [] h 258 [xf 13 104, xi kk, xl (xL h (xR h 104 53) ((xI h (xR h 104 42) (kk).toNatClampNeg)).toNatClampNeg), xun, xl (xL h (xR h 104 53) ((xI h (xR h 104 43) (kk).toNatClampNeg)).toNatClampNeg), xun] [xl (Int64.ofInt (0))] (xsetI h 104 54 (Int32.ofInt (1))) := XT_path (l := l) (fr := 1) (lo := 30) (full := false) (M := 226) (n := 153) (u := 6051) (pc := 0) (L := [xf 13 104, xi kk, xun, xun, xun, xun]) (st := []) (h := h) (inl := []) (n' := 200) (sp := [258]) (o := [1, 1, 1, 12, 1, 0]) rfl rfl ⟨rfl, rfl, rfl⟩ rfl ⟨Nat.le_of_eq hg.2.2.2.1, Nat.le_of_eq hg.2.2.2.2⟩ ⟨⟨⟨⟨⟨⟨⟨⟨⟨⟨⟨⟨⟨⟨⟨⟨⟨⟨⟨⟨⟨⟨⟨trivial, (vnn hg.1 (rfl : vRf 104 41 = [126]) (by decide))⟩, (vp_of (i := kk) (n := 128) (by omega) (by omega))⟩, (show ¬ (xI h (xR h 104 41) (kk).toNatClampNeg) = 0 from by rw [vref hg.1 (rfl : vRf 104 41 = [126])]; exact fun z => absurd (congrArg Int32.toInt z) (by omega))⟩, (vnn hg.1 (rfl : vRf 104 41 = [126]) (by decide))⟩, (vp_of (i := kk) (n := 128) (by omega) (by omega))⟩, (show ¬ (xI h (xR h 104 41) (kk).toNatClampNeg) = (Int32.ofInt (1)) from by rw [vref hg.1 (rfl : vRf 104 41 = [126])]; exact fun z => absurd (congrArg Int32.toInt z) (by omega))⟩, (vnn hg.1 (rfl : vRf 104 53 = [132]) (by decide))⟩, (vnn hg.1 (rfl : vRf 104 42 = [127]) (by decide))⟩, (vp_of (i := kk) (n := 128) (by omega) (by omega))⟩, (show vp_in ((xI h (xR h 104 42) (kk).toNatClampNeg)) (64) from (by rw [vref hg.1 (rfl : vRf 104 42 = [127])]; exact (vp_of (i := (xI h 127 (kk).toNatClampNeg)) (n := 64) (by omega) (by omega) : vp_in ((xI h 127 (kk).toNatClampNeg)) (64))))⟩, (vnn hg.1 (rfl : vRf 104 41 = [126]) (by decide))⟩, (vp_of (i := kk) (n := 128) (by omega) (by omega))⟩, (show ¬ (xI h (xR h 104 41) (kk).toNatClampNeg) = (Int32.ofInt (2)) from by rw [vref hg.1 (rfl : vRf 104 41 = [126])]; exact fun z => absurd (congrArg Int32.toInt z) (by omega))⟩, (vnn hg.1 (rfl : vRf 104 53 = [132]) (by decide))⟩, (vnn hg.1 (rfl : vRf 104 43 = [128]) (by decide))⟩, (vp_of (i := kk) (n := 128) (by omega) (by omega))⟩, (show vp_in ((xI h (xR h 104 43) (kk).toNatClampNeg)) (64) from (by rw [vref hg.1 (rfl : vRf 104 43 = [128])]; exact (vp_of (i := (xI h 128 (kk).toNatClampNeg)) (n := 64) (by omega) (by omega) : vp_in ((xI h 128 (kk).toNatClampNeg)) (64))))⟩, (vnn hg.1 (rfl : vRf 104 41 = [126]) (by decide))⟩, (vp_of (i := kk) (n := 128) (by omega) (by omega))⟩, ⟨(by rw [vref hg.1 (rfl : vRf 104 41 = [126])]; exact jc), by decide⟩⟩, cb1⟩, (Or.inr rfl)⟩, (show ¬ (Int32.ofInt (1)) = 0 from by decide)⟩
    rw [vref hg.1 (rfl : vRf 104 53 = [132]), vref hg.1 (rfl : vRf 104 42 = [127]), vref hg.1 (rfl : vRf 104 43 = [128])] at t5
    refine ⟨_, _, CX_ofT (h' := (xsetI h 104 54 (Int32.ofInt (1)))) (by decide) rfl rfl trivial ⟨_, _, _, rfl, rfl, rfl⟩ rfl ⟨Nat.le_of_eq hg.2.2.2.1.symm, Nat.le_of_eq hg.2.2.2.2.symm⟩ t5, mV.set hg (by decide), fun z => ?_, fun z => ?_⟩
    · rw [show xI (xsetI h 104 54 (Int32.ofInt (1))) 104 54 = _ from yI_same]
      exact absurd z cb1
    · rw [show xI (xsetI h 104 54 (Int32.ofInt (1))) 104 54 = _ from yI_same]
      exact o1
set_option maxRecDepth 100000 in
set_option maxHeartbeats 4000000 in
theorem jk_bin7 (l : Launch) (Z V : Nat → Int) (kk : Int32) (i a c : Nat) (h : XH) (hg : mI h) (hk : kk.toInt = i) (hi : i < 64) (ek : (xI h 126 kk.toNatClampNeg).toInt = jkn (Z (300 + i))) (ep : (xI h 127 kk.toNatClampNeg).toInt = Z (500 + i)) (eo : (xI h 128 kk.toNatClampNeg).toInt = Z (600 + i)) (eo_ : Z (300 + i) = 7) (ea : Z (500 + i) = a) (ec : Z (600 + i) = c) (la : a < i) (lc : c < i) (hva : xI h 104 54 = 0 → (xL h 132 a).toInt = V a ∧ zM (xL h 132 a)) (hvc : xI h 104 54 = 0 → (xL h 132 c).toInt = V c ∧ zM (xL h 132 c)) : ∃ v h', CX l 1 30 false 226 [xf 13 104, xi kk] h [xl v] h' ∧ mV h h' ∧ (xI h 104 54 = 0 → zvv (some (if V a < V c then 1 else 0)) v (xI h' 104 54)) ∧ (¬ xI h 104 54 = 0 → ¬ xI h' 104 54 = 0) := by
  have jc : (xI h 126 kk.toNatClampNeg).toInt = 5 := by rw [ek, eo_]; rfl
  have e_1 : ((Int32.ofInt (1))).toInt = 1 := rfl
  have e_2 : ((Int32.ofInt (2))).toInt = 2 := rfl
  have ez : (0 : Int32).toInt = 0 := rfl
  have na : ((xI h 127 kk.toNatClampNeg)).toNatClampNeg = a := by show (xI h 127 kk.toNatClampNeg).toInt.toNat = _; rw [ep, ea]; rfl
  have nc : ((xI h 128 kk.toNatClampNeg)).toNatClampNeg = c := by show (xI h 128 kk.toNatClampNeg).toInt.toNat = _; rw [eo, ec]; rfl
  have ez6 : (Int64.ofInt (0)).toInt = 0 := rfl
  have ez7 : (0 : Int64).toInt = 0 := rfl
  have o1 : ¬ (Int32.ofInt (1)) = (0 : Int32) := by decide
  have o0 : (Int32.ofInt (0)) = (0 : Int32) := rfl
  have ha : xI h 104 54 = 0 → (xL h 132 ((xI h 127 kk.toNatClampNeg)).toNatClampNeg).toInt = V a ∧ zM (xL h 132 ((xI h 127 kk.toNatClampNeg)).toNatClampNeg) := fun z => by rw [na]; exact hva z
  have hb : xI h 104 54 = 0 → (xL h 132 ((xI h 128 kk.toNatClampNeg)).toNatClampNeg).toInt = V c ∧ zM (xL h 132 ((xI h 128 kk.toNatClampNeg)).toNatClampNeg) := fun z => by rw [nc]; exact hvc z
  have t1 : XT l 1 30 false 226 153 6051 0 [xf 13 104, xi kk, xun, xun, xun, xun] [] h 268 [xf 13 104, xi kk, xl (xL h (xR h 104 53) ((xI h (xR h 104 42) (kk).toNatClampNeg)).toNatClampNeg), xun, xl (xL h (xR h 104 53) ((xI h (xR h 104 43) (kk).toNatClampNeg)).toNatClampNeg), xun] [xl (xL h (xR h 104 53) ((xI h (xR h 104 43) (kk).toNatClampNeg)).toNatClampNeg), xl (xL h (xR h 104 53) ((xI h (xR h 104 42) (kk).toNatClampNeg)).toNatClampNeg), xi (xI h (xR h 104 41) (kk).toNatClampNeg)] h := XT_path (l := l) (fr := 1) (lo := 30) (full := false) (M := 226) (n := 153) (u := 6051) (pc := 0) (L := [xf 13 104, xi kk, xun, xun, xun, xun]) (st := []) (h := h) (inl := []) (n' := 200) (sp := [268]) (o := [1, 1, 1, 3]) rfl rfl ⟨rfl, rfl, rfl⟩ rfl ⟨Nat.le_of_eq hg.2.2.2.1, Nat.le_of_eq hg.2.2.2.2⟩ ⟨⟨⟨⟨⟨⟨⟨⟨⟨⟨⟨⟨⟨⟨⟨⟨⟨⟨⟨⟨⟨⟨trivial, (vnn hg.1 (rfl : vRf 104 41 = [126]) (by decide))⟩, (vp_of (i := kk) (n := 128) (by omega) (by omega))⟩, (show ¬ (xI h (xR h 104 41) (kk).toNatClampNeg) = 0 from by rw [vref hg.1 (rfl : vRf 104 41 = [126])]; exact fun z => absurd (congrArg Int32.toInt z) (by omega))⟩, (vnn hg.1 (rfl : vRf 104 41 = [126]) (by decide))⟩, (vp_of (i := kk) (n := 128) (by omega) (by omega))⟩, (show ¬ (xI h (xR h 104 41) (kk).toNatClampNeg) = (Int32.ofInt (1)) from by rw [vref hg.1 (rfl : vRf 104 41 = [126])]; exact fun z => absurd (congrArg Int32.toInt z) (by omega))⟩, (vnn hg.1 (rfl : vRf 104 53 = [132]) (by decide))⟩, (vnn hg.1 (rfl : vRf 104 42 = [127]) (by decide))⟩, (vp_of (i := kk) (n := 128) (by omega) (by omega))⟩, (show vp_in ((xI h (xR h 104 42) (kk).toNatClampNeg)) (64) from (by rw [vref hg.1 (rfl : vRf 104 42 = [127])]; exact (vp_of (i := (xI h 127 (kk).toNatClampNeg)) (n := 64) (by omega) (by omega) : vp_in ((xI h 127 (kk).toNatClampNeg)) (64))))⟩, (vnn hg.1 (rfl : vRf 104 41 = [126]) (by decide))⟩, (vp_of (i := kk) (n := 128) (by omega) (by omega))⟩, (show ¬ (xI h (xR h 104 41) (kk).toNatClampNeg) = (Int32.ofInt (2)) from by rw [vref hg.1 (rfl : vRf 104 41 = [126])]; exact fun z => absurd (congrArg Int32.toInt z) (by omega))⟩, (vnn hg.1 (rfl : vRf 104 53 = [132]) (by decide))⟩, (vnn hg.1 (rfl : vRf 104 43 = [128]) (by decide))⟩, (vp_of (i := kk) (n := 128) (by omega) (by omega))⟩, (show vp_in ((xI h (xR h 104 43) (kk).toNatClampNeg)) (64) from (by rw [vref hg.1 (rfl : vRf 104 43 = [128])]; exact (vp_of (i := (xI h 128 (kk).toNatClampNeg)) (n := 64) (by omega) (by omega) : vp_in ((xI h 128 (kk).toNatClampNeg)) (64))))⟩, (vnn hg.1 (rfl : vRf 104 41 = [126]) (by decide))⟩, (vp_of (i := kk) (n := 128) (by omega) (by omega))⟩, ⟨(by rw [vref hg.1 (rfl : vRf 104 41 = [126])]; exact jc), by decide⟩⟩, (vnn hg.1 (rfl : vRf 104 41 = [126]) (by decide))⟩, (vp_of (i := kk) (n := 128) (by omega) (by omega))⟩
  rw [vref hg.1 (rfl : vRf 104 53 = [132]), vref hg.1 (rfl : vRf 104 42 = [127]), vref hg.1 (rfl : vRf 104 43 = [128]), vref hg.1 (rfl : vRf 104 41 = [126])] at t1
  obtain ⟨v, c1, z1⟩ := jk_cmp5 l (xI h 126 (kk).toNatClampNeg) (xL h 132 ((xI h 127 (kk).toNatClampNeg)).toNatClampNeg) (xL h 132 ((xI h 128 (kk).toNatClampNeg)).toNatClampNeg) h hg jc
  have t2 : XT l 1 30 false 226 153 6051 268 [xf 13 104, xi kk, xl (xL h 132 ((xI h 127 (kk).toNatClampNeg)).toNatClampNeg), xun, xl (xL h 132 ((xI h 128 (kk).toNatClampNeg)).toNatClampNeg), xun] [xl (xL h 132 ((xI h 128 (kk).toNatClampNeg)).toNatClampNeg), xl (xL h 132 ((xI h 127 (kk).toNatClampNeg)).toNatClampNeg), xi (xI h 126 (kk).toNatClampNeg)] h 271 [xf 13 104, xi kk, xl (xL h 132 ((xI h 127 (kk).toNatClampNeg)).toNatClampNeg), xun, xl (xL h 132 ((xI h 128 (kk).toNatClampNeg)).toNatClampNeg), xun] [xi v] h := XT_call (l := l) (fr := 1) (lo := 30) (full := false) (M := 226) (n := 153) (u := 6051) (pc := 268) (L := [xf 13 104, xi kk, xl (xL h 132 ((xI h 127 (kk).toNatClampNeg)).toNatClampNeg), xun, xl (xL h 132 ((xI h 128 (kk).toNatClampNeg)).toNatClampNeg), xun]) (st := [xl (xL h 132 ((xI h 128 (kk).toNatClampNeg)).toNatClampNeg), xl (xL h 132 ((xI h 127 (kk).toNatClampNeg)).toNatClampNeg), xi (xI h 126 (kk).toNatClampNeg)]) (h := h) (i := .invokestatic 229) (aux := 3) (nx := 271) (K := 229) (vs := [xi (xI h 126 (kk).toNatClampNeg), xl (xL h 132 ((xI h 127 (kk).toNatClampNeg)).toNatClampNeg), xl (xL h 132 ((xI h 128 (kk).toNatClampNeg)).toNatClampNeg)]) (rs := [xi v]) (rest := []) rfl rfl rfl rfl rfl rfl c1 (by decide) (by decide) (Nat.le_of_ble_eq_true rfl) ⟨Nat.le_of_eq hg.2.2.2.1, Nat.le_of_eq hg.2.2.2.2⟩
  have t3 := t1.tr t2
  by_cases cb4 : v = 0
  · have e_0 : (0 : Int32).toInt = 0 := rfl
    have dcb4 : (v).toInt = (0 : Int32).toInt := congrArg Int32.toInt cb4
    have t5 : XT l 1 30 false 226 153 6051 271 [xf 13 104, xi kk, xl (xL h 132 ((xI h 127 (kk).toNatClampNeg)).toNatClampNeg), xun, xl (xL h 132 ((xI h 128 (kk).toNatClampNeg)).toNatClampNeg), xun] [xi v] h 279 [xf 13 104, xi kk, xl (xL h 132 ((xI h 127 (kk).toNatClampNeg)).toNatClampNeg), xun, xl (xL h 132 ((xI h 128 (kk).toNatClampNeg)).toNatClampNeg), xun] [xl (Int64.ofInt (0))] h := XT_path (l := l) (fr := 1) (lo := 30) (full := false) (M := 226) (n := 153) (u := 6051) (pc := 271) (L := [xf 13 104, xi kk, xl (xL h 132 ((xI h 127 (kk).toNatClampNeg)).toNatClampNeg), xun, xl (xL h 132 ((xI h 128 (kk).toNatClampNeg)).toNatClampNeg), xun]) (st := [xi v]) (h := h) (inl := []) (n' := 200) (sp := [279]) (o := [1]) rfl rfl ⟨rfl, rfl, rfl⟩ rfl ⟨Nat.le_of_eq hg.2.2.2.1, Nat.le_of_eq hg.2.2.2.2⟩ ⟨trivial, cb4⟩
    have t6 := t3.tr t5
    refine ⟨_, _, CX_ofT (h' := h) (by decide) rfl rfl trivial ⟨_, _, _, rfl, rfl, rfl⟩ rfl ⟨Nat.le_of_eq hg.2.2.2.1.symm, Nat.le_of_eq hg.2.2.2.2.symm⟩ t6, mV.rf hg, fun z => ?_, fun z => z⟩
    have y1 := (ha z).1
    have y2 := (hb z).1
    rw [y1, y2] at z1
    rw [z]
    exact zvv_f (by rcases z1 with ⟨y, y3⟩ | ⟨y, y3⟩; exact absurd (cb4.symm.trans y) (by decide); exact y3)
  · have e_0 : (0 : Int32).toInt = 0 := rfl
    have dcb4 : ¬ (v).toInt = (0 : Int32).toInt := fun z_ => cb4 (Int32.toInt_inj.mp z_)
    have t7 : XT l 1 30 false 226 153 6051 271 [xf 13 104, xi kk, xl (xL h 132 ((xI h 127 (kk).toNatClampNeg)).toNatClampNeg), xun, xl (xL h 132 ((xI h 128 (kk).toNatClampNeg)).toNatClampNeg), xun] [xi v] h 279 [xf 13 104, xi kk, xl (xL h 132 ((xI h 127 (kk).toNatClampNeg)).toNatClampNeg), xun, xl (xL h 132 ((xI h 128 (kk).toNatClampNeg)).toNatClampNeg), xun] [xl (Int64.ofInt (1))] h := XT_path (l := l) (fr := 1) (lo := 30) (full := false) (M := 226) (n := 153) (u := 6051) (pc := 271) (L := [xf 13 104, xi kk, xl (xL h 132 ((xI h 127 (kk).toNatClampNeg)).toNatClampNeg), xun, xl (xL h 132 ((xI h 128 (kk).toNatClampNeg)).toNatClampNeg), xun]) (st := [xi v]) (h := h) (inl := []) (n' := 200) (sp := [279]) (o := [0]) rfl rfl ⟨rfl, rfl, rfl⟩ rfl ⟨Nat.le_of_eq hg.2.2.2.1, Nat.le_of_eq hg.2.2.2.2⟩ ⟨trivial, cb4⟩
    have t8 := t3.tr t7
    refine ⟨_, _, CX_ofT (h' := h) (by decide) rfl rfl trivial ⟨_, _, _, rfl, rfl, rfl⟩ rfl ⟨Nat.le_of_eq hg.2.2.2.1.symm, Nat.le_of_eq hg.2.2.2.2.symm⟩ t8, mV.rf hg, fun z => ?_, fun z => z⟩
    have y1 := (ha z).1
    have y2 := (hb z).1
    rw [y1, y2] at z1
    rw [z]
    exact zvv_t (by rcases z1 with ⟨y, y3⟩ | ⟨y, y3⟩; exact y3; exact absurd y cb4)
set_option maxRecDepth 100000 in
set_option maxHeartbeats 4000000 in
theorem jk_bin8 (l : Launch) (Z V : Nat → Int) (kk : Int32) (i a c : Nat) (h : XH) (hg : mI h) (hk : kk.toInt = i) (hi : i < 64) (ek : (xI h 126 kk.toNatClampNeg).toInt = jkn (Z (300 + i))) (ep : (xI h 127 kk.toNatClampNeg).toInt = Z (500 + i)) (eo : (xI h 128 kk.toNatClampNeg).toInt = Z (600 + i)) (eo_ : Z (300 + i) = 8) (ea : Z (500 + i) = a) (ec : Z (600 + i) = c) (la : a < i) (lc : c < i) (hva : xI h 104 54 = 0 → (xL h 132 a).toInt = V a ∧ zM (xL h 132 a)) (hvc : xI h 104 54 = 0 → (xL h 132 c).toInt = V c ∧ zM (xL h 132 c)) : ∃ v h', CX l 1 30 false 226 [xf 13 104, xi kk] h [xl v] h' ∧ mV h h' ∧ (xI h 104 54 = 0 → zvv (some (if V a ≤ V c then 1 else 0)) v (xI h' 104 54)) ∧ (¬ xI h 104 54 = 0 → ¬ xI h' 104 54 = 0) := by
  have jc : (xI h 126 kk.toNatClampNeg).toInt = 6 := by rw [ek, eo_]; rfl
  have e_1 : ((Int32.ofInt (1))).toInt = 1 := rfl
  have e_2 : ((Int32.ofInt (2))).toInt = 2 := rfl
  have ez : (0 : Int32).toInt = 0 := rfl
  have na : ((xI h 127 kk.toNatClampNeg)).toNatClampNeg = a := by show (xI h 127 kk.toNatClampNeg).toInt.toNat = _; rw [ep, ea]; rfl
  have nc : ((xI h 128 kk.toNatClampNeg)).toNatClampNeg = c := by show (xI h 128 kk.toNatClampNeg).toInt.toNat = _; rw [eo, ec]; rfl
  have ez6 : (Int64.ofInt (0)).toInt = 0 := rfl
  have ez7 : (0 : Int64).toInt = 0 := rfl
  have o1 : ¬ (Int32.ofInt (1)) = (0 : Int32) := by decide
  have o0 : (Int32.ofInt (0)) = (0 : Int32) := rfl
  have ha : xI h 104 54 = 0 → (xL h 132 ((xI h 127 kk.toNatClampNeg)).toNatClampNeg).toInt = V a ∧ zM (xL h 132 ((xI h 127 kk.toNatClampNeg)).toNatClampNeg) := fun z => by rw [na]; exact hva z
  have hb : xI h 104 54 = 0 → (xL h 132 ((xI h 128 kk.toNatClampNeg)).toNatClampNeg).toInt = V c ∧ zM (xL h 132 ((xI h 128 kk.toNatClampNeg)).toNatClampNeg) := fun z => by rw [nc]; exact hvc z
  have t1 : XT l 1 30 false 226 153 6051 0 [xf 13 104, xi kk, xun, xun, xun, xun] [] h 268 [xf 13 104, xi kk, xl (xL h (xR h 104 53) ((xI h (xR h 104 42) (kk).toNatClampNeg)).toNatClampNeg), xun, xl (xL h (xR h 104 53) ((xI h (xR h 104 43) (kk).toNatClampNeg)).toNatClampNeg), xun] [xl (xL h (xR h 104 53) ((xI h (xR h 104 43) (kk).toNatClampNeg)).toNatClampNeg), xl (xL h (xR h 104 53) ((xI h (xR h 104 42) (kk).toNatClampNeg)).toNatClampNeg), xi (xI h (xR h 104 41) (kk).toNatClampNeg)] h := XT_path (l := l) (fr := 1) (lo := 30) (full := false) (M := 226) (n := 153) (u := 6051) (pc := 0) (L := [xf 13 104, xi kk, xun, xun, xun, xun]) (st := []) (h := h) (inl := []) (n' := 200) (sp := [268]) (o := [1, 1, 1, 4]) rfl rfl ⟨rfl, rfl, rfl⟩ rfl ⟨Nat.le_of_eq hg.2.2.2.1, Nat.le_of_eq hg.2.2.2.2⟩ ⟨⟨⟨⟨⟨⟨⟨⟨⟨⟨⟨⟨⟨⟨⟨⟨⟨⟨⟨⟨⟨⟨trivial, (vnn hg.1 (rfl : vRf 104 41 = [126]) (by decide))⟩, (vp_of (i := kk) (n := 128) (by omega) (by omega))⟩, (show ¬ (xI h (xR h 104 41) (kk).toNatClampNeg) = 0 from by rw [vref hg.1 (rfl : vRf 104 41 = [126])]; exact fun z => absurd (congrArg Int32.toInt z) (by omega))⟩, (vnn hg.1 (rfl : vRf 104 41 = [126]) (by decide))⟩, (vp_of (i := kk) (n := 128) (by omega) (by omega))⟩, (show ¬ (xI h (xR h 104 41) (kk).toNatClampNeg) = (Int32.ofInt (1)) from by rw [vref hg.1 (rfl : vRf 104 41 = [126])]; exact fun z => absurd (congrArg Int32.toInt z) (by omega))⟩, (vnn hg.1 (rfl : vRf 104 53 = [132]) (by decide))⟩, (vnn hg.1 (rfl : vRf 104 42 = [127]) (by decide))⟩, (vp_of (i := kk) (n := 128) (by omega) (by omega))⟩, (show vp_in ((xI h (xR h 104 42) (kk).toNatClampNeg)) (64) from (by rw [vref hg.1 (rfl : vRf 104 42 = [127])]; exact (vp_of (i := (xI h 127 (kk).toNatClampNeg)) (n := 64) (by omega) (by omega) : vp_in ((xI h 127 (kk).toNatClampNeg)) (64))))⟩, (vnn hg.1 (rfl : vRf 104 41 = [126]) (by decide))⟩, (vp_of (i := kk) (n := 128) (by omega) (by omega))⟩, (show ¬ (xI h (xR h 104 41) (kk).toNatClampNeg) = (Int32.ofInt (2)) from by rw [vref hg.1 (rfl : vRf 104 41 = [126])]; exact fun z => absurd (congrArg Int32.toInt z) (by omega))⟩, (vnn hg.1 (rfl : vRf 104 53 = [132]) (by decide))⟩, (vnn hg.1 (rfl : vRf 104 43 = [128]) (by decide))⟩, (vp_of (i := kk) (n := 128) (by omega) (by omega))⟩, (show vp_in ((xI h (xR h 104 43) (kk).toNatClampNeg)) (64) from (by rw [vref hg.1 (rfl : vRf 104 43 = [128])]; exact (vp_of (i := (xI h 128 (kk).toNatClampNeg)) (n := 64) (by omega) (by omega) : vp_in ((xI h 128 (kk).toNatClampNeg)) (64))))⟩, (vnn hg.1 (rfl : vRf 104 41 = [126]) (by decide))⟩, (vp_of (i := kk) (n := 128) (by omega) (by omega))⟩, ⟨(by rw [vref hg.1 (rfl : vRf 104 41 = [126])]; exact jc), by decide⟩⟩, (vnn hg.1 (rfl : vRf 104 41 = [126]) (by decide))⟩, (vp_of (i := kk) (n := 128) (by omega) (by omega))⟩
  rw [vref hg.1 (rfl : vRf 104 53 = [132]), vref hg.1 (rfl : vRf 104 42 = [127]), vref hg.1 (rfl : vRf 104 43 = [128]), vref hg.1 (rfl : vRf 104 41 = [126])] at t1
  obtain ⟨v, c1, z1⟩ := jk_cmp6 l (xI h 126 (kk).toNatClampNeg) (xL h 132 ((xI h 127 (kk).toNatClampNeg)).toNatClampNeg) (xL h 132 ((xI h 128 (kk).toNatClampNeg)).toNatClampNeg) h hg jc
  have t2 : XT l 1 30 false 226 153 6051 268 [xf 13 104, xi kk, xl (xL h 132 ((xI h 127 (kk).toNatClampNeg)).toNatClampNeg), xun, xl (xL h 132 ((xI h 128 (kk).toNatClampNeg)).toNatClampNeg), xun] [xl (xL h 132 ((xI h 128 (kk).toNatClampNeg)).toNatClampNeg), xl (xL h 132 ((xI h 127 (kk).toNatClampNeg)).toNatClampNeg), xi (xI h 126 (kk).toNatClampNeg)] h 271 [xf 13 104, xi kk, xl (xL h 132 ((xI h 127 (kk).toNatClampNeg)).toNatClampNeg), xun, xl (xL h 132 ((xI h 128 (kk).toNatClampNeg)).toNatClampNeg), xun] [xi v] h := XT_call (l := l) (fr := 1) (lo := 30) (full := false) (M := 226) (n := 153) (u := 6051) (pc := 268) (L := [xf 13 104, xi kk, xl (xL h 132 ((xI h 127 (kk).toNatClampNeg)).toNatClampNeg), xun, xl (xL h 132 ((xI h 128 (kk).toNatClampNeg)).toNatClampNeg), xun]) (st := [xl (xL h 132 ((xI h 128 (kk).toNatClampNeg)).toNatClampNeg), xl (xL h 132 ((xI h 127 (kk).toNatClampNeg)).toNatClampNeg), xi (xI h 126 (kk).toNatClampNeg)]) (h := h) (i := .invokestatic 229) (aux := 3) (nx := 271) (K := 229) (vs := [xi (xI h 126 (kk).toNatClampNeg), xl (xL h 132 ((xI h 127 (kk).toNatClampNeg)).toNatClampNeg), xl (xL h 132 ((xI h 128 (kk).toNatClampNeg)).toNatClampNeg)]) (rs := [xi v]) (rest := []) rfl rfl rfl rfl rfl rfl c1 (by decide) (by decide) (Nat.le_of_ble_eq_true rfl) ⟨Nat.le_of_eq hg.2.2.2.1, Nat.le_of_eq hg.2.2.2.2⟩
  have t3 := t1.tr t2
  by_cases cb4 : v = 0
  · have e_0 : (0 : Int32).toInt = 0 := rfl
    have dcb4 : (v).toInt = (0 : Int32).toInt := congrArg Int32.toInt cb4
    have t5 : XT l 1 30 false 226 153 6051 271 [xf 13 104, xi kk, xl (xL h 132 ((xI h 127 (kk).toNatClampNeg)).toNatClampNeg), xun, xl (xL h 132 ((xI h 128 (kk).toNatClampNeg)).toNatClampNeg), xun] [xi v] h 279 [xf 13 104, xi kk, xl (xL h 132 ((xI h 127 (kk).toNatClampNeg)).toNatClampNeg), xun, xl (xL h 132 ((xI h 128 (kk).toNatClampNeg)).toNatClampNeg), xun] [xl (Int64.ofInt (0))] h := XT_path (l := l) (fr := 1) (lo := 30) (full := false) (M := 226) (n := 153) (u := 6051) (pc := 271) (L := [xf 13 104, xi kk, xl (xL h 132 ((xI h 127 (kk).toNatClampNeg)).toNatClampNeg), xun, xl (xL h 132 ((xI h 128 (kk).toNatClampNeg)).toNatClampNeg), xun]) (st := [xi v]) (h := h) (inl := []) (n' := 200) (sp := [279]) (o := [1]) rfl rfl ⟨rfl, rfl, rfl⟩ rfl ⟨Nat.le_of_eq hg.2.2.2.1, Nat.le_of_eq hg.2.2.2.2⟩ ⟨trivial, cb4⟩
    have t6 := t3.tr t5
    refine ⟨_, _, CX_ofT (h' := h) (by decide) rfl rfl trivial ⟨_, _, _, rfl, rfl, rfl⟩ rfl ⟨Nat.le_of_eq hg.2.2.2.1.symm, Nat.le_of_eq hg.2.2.2.2.symm⟩ t6, mV.rf hg, fun z => ?_, fun z => z⟩
    have y1 := (ha z).1
    have y2 := (hb z).1
    rw [y1, y2] at z1
    rw [z]
    exact zvv_f (by rcases z1 with ⟨y, y3⟩ | ⟨y, y3⟩; exact absurd (cb4.symm.trans y) (by decide); exact y3)
  · have e_0 : (0 : Int32).toInt = 0 := rfl
    have dcb4 : ¬ (v).toInt = (0 : Int32).toInt := fun z_ => cb4 (Int32.toInt_inj.mp z_)
    have t7 : XT l 1 30 false 226 153 6051 271 [xf 13 104, xi kk, xl (xL h 132 ((xI h 127 (kk).toNatClampNeg)).toNatClampNeg), xun, xl (xL h 132 ((xI h 128 (kk).toNatClampNeg)).toNatClampNeg), xun] [xi v] h 279 [xf 13 104, xi kk, xl (xL h 132 ((xI h 127 (kk).toNatClampNeg)).toNatClampNeg), xun, xl (xL h 132 ((xI h 128 (kk).toNatClampNeg)).toNatClampNeg), xun] [xl (Int64.ofInt (1))] h := XT_path (l := l) (fr := 1) (lo := 30) (full := false) (M := 226) (n := 153) (u := 6051) (pc := 271) (L := [xf 13 104, xi kk, xl (xL h 132 ((xI h 127 (kk).toNatClampNeg)).toNatClampNeg), xun, xl (xL h 132 ((xI h 128 (kk).toNatClampNeg)).toNatClampNeg), xun]) (st := [xi v]) (h := h) (inl := []) (n' := 200) (sp := [279]) (o := [0]) rfl rfl ⟨rfl, rfl, rfl⟩ rfl ⟨Nat.le_of_eq hg.2.2.2.1, Nat.le_of_eq hg.2.2.2.2⟩ ⟨trivial, cb4⟩
    have t8 := t3.tr t7
    refine ⟨_, _, CX_ofT (h' := h) (by decide) rfl rfl trivial ⟨_, _, _, rfl, rfl, rfl⟩ rfl ⟨Nat.le_of_eq hg.2.2.2.1.symm, Nat.le_of_eq hg.2.2.2.2.symm⟩ t8, mV.rf hg, fun z => ?_, fun z => z⟩
    have y1 := (ha z).1
    have y2 := (hb z).1
    rw [y1, y2] at z1
    rw [z]
    exact zvv_t (by rcases z1 with ⟨y, y3⟩ | ⟨y, y3⟩; exact y3; exact absurd y cb4)
set_option maxRecDepth 100000 in
set_option maxHeartbeats 4000000 in
theorem jk_bin9 (l : Launch) (Z V : Nat → Int) (kk : Int32) (i a c : Nat) (h : XH) (hg : mI h) (hk : kk.toInt = i) (hi : i < 64) (ek : (xI h 126 kk.toNatClampNeg).toInt = jkn (Z (300 + i))) (ep : (xI h 127 kk.toNatClampNeg).toInt = Z (500 + i)) (eo : (xI h 128 kk.toNatClampNeg).toInt = Z (600 + i)) (eo_ : Z (300 + i) = 9) (ea : Z (500 + i) = a) (ec : Z (600 + i) = c) (la : a < i) (lc : c < i) (hva : xI h 104 54 = 0 → (xL h 132 a).toInt = V a ∧ zM (xL h 132 a)) (hvc : xI h 104 54 = 0 → (xL h 132 c).toInt = V c ∧ zM (xL h 132 c)) : ∃ v h', CX l 1 30 false 226 [xf 13 104, xi kk] h [xl v] h' ∧ mV h h' ∧ (xI h 104 54 = 0 → zvv (some (if V a = V c then 1 else 0)) v (xI h' 104 54)) ∧ (¬ xI h 104 54 = 0 → ¬ xI h' 104 54 = 0) := by
  have jc : (xI h 126 kk.toNatClampNeg).toInt = 7 := by rw [ek, eo_]; rfl
  have e_1 : ((Int32.ofInt (1))).toInt = 1 := rfl
  have e_2 : ((Int32.ofInt (2))).toInt = 2 := rfl
  have ez : (0 : Int32).toInt = 0 := rfl
  have na : ((xI h 127 kk.toNatClampNeg)).toNatClampNeg = a := by show (xI h 127 kk.toNatClampNeg).toInt.toNat = _; rw [ep, ea]; rfl
  have nc : ((xI h 128 kk.toNatClampNeg)).toNatClampNeg = c := by show (xI h 128 kk.toNatClampNeg).toInt.toNat = _; rw [eo, ec]; rfl
  have ez6 : (Int64.ofInt (0)).toInt = 0 := rfl
  have ez7 : (0 : Int64).toInt = 0 := rfl
  have o1 : ¬ (Int32.ofInt (1)) = (0 : Int32) := by decide
  have o0 : (Int32.ofInt (0)) = (0 : Int32) := rfl
  have ha : xI h 104 54 = 0 → (xL h 132 ((xI h 127 kk.toNatClampNeg)).toNatClampNeg).toInt = V a ∧ zM (xL h 132 ((xI h 127 kk.toNatClampNeg)).toNatClampNeg) := fun z => by rw [na]; exact hva z
  have hb : xI h 104 54 = 0 → (xL h 132 ((xI h 128 kk.toNatClampNeg)).toNatClampNeg).toInt = V c ∧ zM (xL h 132 ((xI h 128 kk.toNatClampNeg)).toNatClampNeg) := fun z => by rw [nc]; exact hvc z
  have t1 : XT l 1 30 false 226 153 6051 0 [xf 13 104, xi kk, xun, xun, xun, xun] [] h 268 [xf 13 104, xi kk, xl (xL h (xR h 104 53) ((xI h (xR h 104 42) (kk).toNatClampNeg)).toNatClampNeg), xun, xl (xL h (xR h 104 53) ((xI h (xR h 104 43) (kk).toNatClampNeg)).toNatClampNeg), xun] [xl (xL h (xR h 104 53) ((xI h (xR h 104 43) (kk).toNatClampNeg)).toNatClampNeg), xl (xL h (xR h 104 53) ((xI h (xR h 104 42) (kk).toNatClampNeg)).toNatClampNeg), xi (xI h (xR h 104 41) (kk).toNatClampNeg)] h := XT_path (l := l) (fr := 1) (lo := 30) (full := false) (M := 226) (n := 153) (u := 6051) (pc := 0) (L := [xf 13 104, xi kk, xun, xun, xun, xun]) (st := []) (h := h) (inl := []) (n' := 200) (sp := [268]) (o := [1, 1, 1, 5]) rfl rfl ⟨rfl, rfl, rfl⟩ rfl ⟨Nat.le_of_eq hg.2.2.2.1, Nat.le_of_eq hg.2.2.2.2⟩ ⟨⟨⟨⟨⟨⟨⟨⟨⟨⟨⟨⟨⟨⟨⟨⟨⟨⟨⟨⟨⟨⟨trivial, (vnn hg.1 (rfl : vRf 104 41 = [126]) (by decide))⟩, (vp_of (i := kk) (n := 128) (by omega) (by omega))⟩, (show ¬ (xI h (xR h 104 41) (kk).toNatClampNeg) = 0 from by rw [vref hg.1 (rfl : vRf 104 41 = [126])]; exact fun z => absurd (congrArg Int32.toInt z) (by omega))⟩, (vnn hg.1 (rfl : vRf 104 41 = [126]) (by decide))⟩, (vp_of (i := kk) (n := 128) (by omega) (by omega))⟩, (show ¬ (xI h (xR h 104 41) (kk).toNatClampNeg) = (Int32.ofInt (1)) from by rw [vref hg.1 (rfl : vRf 104 41 = [126])]; exact fun z => absurd (congrArg Int32.toInt z) (by omega))⟩, (vnn hg.1 (rfl : vRf 104 53 = [132]) (by decide))⟩, (vnn hg.1 (rfl : vRf 104 42 = [127]) (by decide))⟩, (vp_of (i := kk) (n := 128) (by omega) (by omega))⟩, (show vp_in ((xI h (xR h 104 42) (kk).toNatClampNeg)) (64) from (by rw [vref hg.1 (rfl : vRf 104 42 = [127])]; exact (vp_of (i := (xI h 127 (kk).toNatClampNeg)) (n := 64) (by omega) (by omega) : vp_in ((xI h 127 (kk).toNatClampNeg)) (64))))⟩, (vnn hg.1 (rfl : vRf 104 41 = [126]) (by decide))⟩, (vp_of (i := kk) (n := 128) (by omega) (by omega))⟩, (show ¬ (xI h (xR h 104 41) (kk).toNatClampNeg) = (Int32.ofInt (2)) from by rw [vref hg.1 (rfl : vRf 104 41 = [126])]; exact fun z => absurd (congrArg Int32.toInt z) (by omega))⟩, (vnn hg.1 (rfl : vRf 104 53 = [132]) (by decide))⟩, (vnn hg.1 (rfl : vRf 104 43 = [128]) (by decide))⟩, (vp_of (i := kk) (n := 128) (by omega) (by omega))⟩, (show vp_in ((xI h (xR h 104 43) (kk).toNatClampNeg)) (64) from (by rw [vref hg.1 (rfl : vRf 104 43 = [128])]; exact (vp_of (i := (xI h 128 (kk).toNatClampNeg)) (n := 64) (by omega) (by omega) : vp_in ((xI h 128 (kk).toNatClampNeg)) (64))))⟩, (vnn hg.1 (rfl : vRf 104 41 = [126]) (by decide))⟩, (vp_of (i := kk) (n := 128) (by omega) (by omega))⟩, ⟨(by rw [vref hg.1 (rfl : vRf 104 41 = [126])]; exact jc), by decide⟩⟩, (vnn hg.1 (rfl : vRf 104 41 = [126]) (by decide))⟩, (vp_of (i := kk) (n := 128) (by omega) (by omega))⟩
  rw [vref hg.1 (rfl : vRf 104 53 = [132]), vref hg.1 (rfl : vRf 104 42 = [127]), vref hg.1 (rfl : vRf 104 43 = [128]), vref hg.1 (rfl : vRf 104 41 = [126])] at t1
  obtain ⟨v, c1, z1⟩ := jk_cmp7 l (xI h 126 (kk).toNatClampNeg) (xL h 132 ((xI h 127 (kk).toNatClampNeg)).toNatClampNeg) (xL h 132 ((xI h 128 (kk).toNatClampNeg)).toNatClampNeg) h hg jc
  have t2 : XT l 1 30 false 226 153 6051 268 [xf 13 104, xi kk, xl (xL h 132 ((xI h 127 (kk).toNatClampNeg)).toNatClampNeg), xun, xl (xL h 132 ((xI h 128 (kk).toNatClampNeg)).toNatClampNeg), xun] [xl (xL h 132 ((xI h 128 (kk).toNatClampNeg)).toNatClampNeg), xl (xL h 132 ((xI h 127 (kk).toNatClampNeg)).toNatClampNeg), xi (xI h 126 (kk).toNatClampNeg)] h 271 [xf 13 104, xi kk, xl (xL h 132 ((xI h 127 (kk).toNatClampNeg)).toNatClampNeg), xun, xl (xL h 132 ((xI h 128 (kk).toNatClampNeg)).toNatClampNeg), xun] [xi v] h := XT_call (l := l) (fr := 1) (lo := 30) (full := false) (M := 226) (n := 153) (u := 6051) (pc := 268) (L := [xf 13 104, xi kk, xl (xL h 132 ((xI h 127 (kk).toNatClampNeg)).toNatClampNeg), xun, xl (xL h 132 ((xI h 128 (kk).toNatClampNeg)).toNatClampNeg), xun]) (st := [xl (xL h 132 ((xI h 128 (kk).toNatClampNeg)).toNatClampNeg), xl (xL h 132 ((xI h 127 (kk).toNatClampNeg)).toNatClampNeg), xi (xI h 126 (kk).toNatClampNeg)]) (h := h) (i := .invokestatic 229) (aux := 3) (nx := 271) (K := 229) (vs := [xi (xI h 126 (kk).toNatClampNeg), xl (xL h 132 ((xI h 127 (kk).toNatClampNeg)).toNatClampNeg), xl (xL h 132 ((xI h 128 (kk).toNatClampNeg)).toNatClampNeg)]) (rs := [xi v]) (rest := []) rfl rfl rfl rfl rfl rfl c1 (by decide) (by decide) (Nat.le_of_ble_eq_true rfl) ⟨Nat.le_of_eq hg.2.2.2.1, Nat.le_of_eq hg.2.2.2.2⟩
  have t3 := t1.tr t2
  by_cases cb4 : v = 0
  · have e_0 : (0 : Int32).toInt = 0 := rfl
    have dcb4 : (v).toInt = (0 : Int32).toInt := congrArg Int32.toInt cb4
    have t5 : XT l 1 30 false 226 153 6051 271 [xf 13 104, xi kk, xl (xL h 132 ((xI h 127 (kk).toNatClampNeg)).toNatClampNeg), xun, xl (xL h 132 ((xI h 128 (kk).toNatClampNeg)).toNatClampNeg), xun] [xi v] h 279 [xf 13 104, xi kk, xl (xL h 132 ((xI h 127 (kk).toNatClampNeg)).toNatClampNeg), xun, xl (xL h 132 ((xI h 128 (kk).toNatClampNeg)).toNatClampNeg), xun] [xl (Int64.ofInt (0))] h := XT_path (l := l) (fr := 1) (lo := 30) (full := false) (M := 226) (n := 153) (u := 6051) (pc := 271) (L := [xf 13 104, xi kk, xl (xL h 132 ((xI h 127 (kk).toNatClampNeg)).toNatClampNeg), xun, xl (xL h 132 ((xI h 128 (kk).toNatClampNeg)).toNatClampNeg), xun]) (st := [xi v]) (h := h) (inl := []) (n' := 200) (sp := [279]) (o := [1]) rfl rfl ⟨rfl, rfl, rfl⟩ rfl ⟨Nat.le_of_eq hg.2.2.2.1, Nat.le_of_eq hg.2.2.2.2⟩ ⟨trivial, cb4⟩
    have t6 := t3.tr t5
    refine ⟨_, _, CX_ofT (h' := h) (by decide) rfl rfl trivial ⟨_, _, _, rfl, rfl, rfl⟩ rfl ⟨Nat.le_of_eq hg.2.2.2.1.symm, Nat.le_of_eq hg.2.2.2.2.symm⟩ t6, mV.rf hg, fun z => ?_, fun z => z⟩
    have y1 := (ha z).1
    have y2 := (hb z).1
    rw [y1, y2] at z1
    rw [z]
    exact zvv_f (by rcases z1 with ⟨y, y3⟩ | ⟨y, y3⟩; exact absurd (cb4.symm.trans y) (by decide); exact y3)
  · have e_0 : (0 : Int32).toInt = 0 := rfl
    have dcb4 : ¬ (v).toInt = (0 : Int32).toInt := fun z_ => cb4 (Int32.toInt_inj.mp z_)
    have t7 : XT l 1 30 false 226 153 6051 271 [xf 13 104, xi kk, xl (xL h 132 ((xI h 127 (kk).toNatClampNeg)).toNatClampNeg), xun, xl (xL h 132 ((xI h 128 (kk).toNatClampNeg)).toNatClampNeg), xun] [xi v] h 279 [xf 13 104, xi kk, xl (xL h 132 ((xI h 127 (kk).toNatClampNeg)).toNatClampNeg), xun, xl (xL h 132 ((xI h 128 (kk).toNatClampNeg)).toNatClampNeg), xun] [xl (Int64.ofInt (1))] h := XT_path (l := l) (fr := 1) (lo := 30) (full := false) (M := 226) (n := 153) (u := 6051) (pc := 271) (L := [xf 13 104, xi kk, xl (xL h 132 ((xI h 127 (kk).toNatClampNeg)).toNatClampNeg), xun, xl (xL h 132 ((xI h 128 (kk).toNatClampNeg)).toNatClampNeg), xun]) (st := [xi v]) (h := h) (inl := []) (n' := 200) (sp := [279]) (o := [0]) rfl rfl ⟨rfl, rfl, rfl⟩ rfl ⟨Nat.le_of_eq hg.2.2.2.1, Nat.le_of_eq hg.2.2.2.2⟩ ⟨trivial, cb4⟩
    have t8 := t3.tr t7
    refine ⟨_, _, CX_ofT (h' := h) (by decide) rfl rfl trivial ⟨_, _, _, rfl, rfl, rfl⟩ rfl ⟨Nat.le_of_eq hg.2.2.2.1.symm, Nat.le_of_eq hg.2.2.2.2.symm⟩ t8, mV.rf hg, fun z => ?_, fun z => z⟩
    have y1 := (ha z).1
    have y2 := (hb z).1
    rw [y1, y2] at z1
    rw [z]
    exact zvv_t (by rcases z1 with ⟨y, y3⟩ | ⟨y, y3⟩; exact y3; exact absurd y cb4)
set_option maxRecDepth 100000 in
set_option maxHeartbeats 4000000 in
theorem jk_bin10 (l : Launch) (Z V : Nat → Int) (kk : Int32) (i a c : Nat) (h : XH) (hg : mI h) (hk : kk.toInt = i) (hi : i < 64) (ek : (xI h 126 kk.toNatClampNeg).toInt = jkn (Z (300 + i))) (ep : (xI h 127 kk.toNatClampNeg).toInt = Z (500 + i)) (eo : (xI h 128 kk.toNatClampNeg).toInt = Z (600 + i)) (eo_ : Z (300 + i) = 10) (ea : Z (500 + i) = a) (ec : Z (600 + i) = c) (la : a < i) (lc : c < i) (hva : xI h 104 54 = 0 → (xL h 132 a).toInt = V a ∧ zM (xL h 132 a)) (hvc : xI h 104 54 = 0 → (xL h 132 c).toInt = V c ∧ zM (xL h 132 c)) : ∃ v h', CX l 1 30 false 226 [xf 13 104, xi kk] h [xl v] h' ∧ mV h h' ∧ (xI h 104 54 = 0 → zvv (some (if ¬ V a = V c then 1 else 0)) v (xI h' 104 54)) ∧ (¬ xI h 104 54 = 0 → ¬ xI h' 104 54 = 0) := by
  have jc : (xI h 126 kk.toNatClampNeg).toInt = 8 := by rw [ek, eo_]; rfl
  have e_1 : ((Int32.ofInt (1))).toInt = 1 := rfl
  have e_2 : ((Int32.ofInt (2))).toInt = 2 := rfl
  have ez : (0 : Int32).toInt = 0 := rfl
  have na : ((xI h 127 kk.toNatClampNeg)).toNatClampNeg = a := by show (xI h 127 kk.toNatClampNeg).toInt.toNat = _; rw [ep, ea]; rfl
  have nc : ((xI h 128 kk.toNatClampNeg)).toNatClampNeg = c := by show (xI h 128 kk.toNatClampNeg).toInt.toNat = _; rw [eo, ec]; rfl
  have ez6 : (Int64.ofInt (0)).toInt = 0 := rfl
  have ez7 : (0 : Int64).toInt = 0 := rfl
  have o1 : ¬ (Int32.ofInt (1)) = (0 : Int32) := by decide
  have o0 : (Int32.ofInt (0)) = (0 : Int32) := rfl
  have ha : xI h 104 54 = 0 → (xL h 132 ((xI h 127 kk.toNatClampNeg)).toNatClampNeg).toInt = V a ∧ zM (xL h 132 ((xI h 127 kk.toNatClampNeg)).toNatClampNeg) := fun z => by rw [na]; exact hva z
  have hb : xI h 104 54 = 0 → (xL h 132 ((xI h 128 kk.toNatClampNeg)).toNatClampNeg).toInt = V c ∧ zM (xL h 132 ((xI h 128 kk.toNatClampNeg)).toNatClampNeg) := fun z => by rw [nc]; exact hvc z
  have t1 : XT l 1 30 false 226 153 6051 0 [xf 13 104, xi kk, xun, xun, xun, xun] [] h 268 [xf 13 104, xi kk, xl (xL h (xR h 104 53) ((xI h (xR h 104 42) (kk).toNatClampNeg)).toNatClampNeg), xun, xl (xL h (xR h 104 53) ((xI h (xR h 104 43) (kk).toNatClampNeg)).toNatClampNeg), xun] [xl (xL h (xR h 104 53) ((xI h (xR h 104 43) (kk).toNatClampNeg)).toNatClampNeg), xl (xL h (xR h 104 53) ((xI h (xR h 104 42) (kk).toNatClampNeg)).toNatClampNeg), xi (xI h (xR h 104 41) (kk).toNatClampNeg)] h := XT_path (l := l) (fr := 1) (lo := 30) (full := false) (M := 226) (n := 153) (u := 6051) (pc := 0) (L := [xf 13 104, xi kk, xun, xun, xun, xun]) (st := []) (h := h) (inl := []) (n' := 200) (sp := [268]) (o := [1, 1, 1, 6]) rfl rfl ⟨rfl, rfl, rfl⟩ rfl ⟨Nat.le_of_eq hg.2.2.2.1, Nat.le_of_eq hg.2.2.2.2⟩ ⟨⟨⟨⟨⟨⟨⟨⟨⟨⟨⟨⟨⟨⟨⟨⟨⟨⟨⟨⟨⟨⟨trivial, (vnn hg.1 (rfl : vRf 104 41 = [126]) (by decide))⟩, (vp_of (i := kk) (n := 128) (by omega) (by omega))⟩, (show ¬ (xI h (xR h 104 41) (kk).toNatClampNeg) = 0 from by rw [vref hg.1 (rfl : vRf 104 41 = [126])]; exact fun z => absurd (congrArg Int32.toInt z) (by omega))⟩, (vnn hg.1 (rfl : vRf 104 41 = [126]) (by decide))⟩, (vp_of (i := kk) (n := 128) (by omega) (by omega))⟩, (show ¬ (xI h (xR h 104 41) (kk).toNatClampNeg) = (Int32.ofInt (1)) from by rw [vref hg.1 (rfl : vRf 104 41 = [126])]; exact fun z => absurd (congrArg Int32.toInt z) (by omega))⟩, (vnn hg.1 (rfl : vRf 104 53 = [132]) (by decide))⟩, (vnn hg.1 (rfl : vRf 104 42 = [127]) (by decide))⟩, (vp_of (i := kk) (n := 128) (by omega) (by omega))⟩, (show vp_in ((xI h (xR h 104 42) (kk).toNatClampNeg)) (64) from (by rw [vref hg.1 (rfl : vRf 104 42 = [127])]; exact (vp_of (i := (xI h 127 (kk).toNatClampNeg)) (n := 64) (by omega) (by omega) : vp_in ((xI h 127 (kk).toNatClampNeg)) (64))))⟩, (vnn hg.1 (rfl : vRf 104 41 = [126]) (by decide))⟩, (vp_of (i := kk) (n := 128) (by omega) (by omega))⟩, (show ¬ (xI h (xR h 104 41) (kk).toNatClampNeg) = (Int32.ofInt (2)) from by rw [vref hg.1 (rfl : vRf 104 41 = [126])]; exact fun z => absurd (congrArg Int32.toInt z) (by omega))⟩, (vnn hg.1 (rfl : vRf 104 53 = [132]) (by decide))⟩, (vnn hg.1 (rfl : vRf 104 43 = [128]) (by decide))⟩, (vp_of (i := kk) (n := 128) (by omega) (by omega))⟩, (show vp_in ((xI h (xR h 104 43) (kk).toNatClampNeg)) (64) from (by rw [vref hg.1 (rfl : vRf 104 43 = [128])]; exact (vp_of (i := (xI h 128 (kk).toNatClampNeg)) (n := 64) (by omega) (by omega) : vp_in ((xI h 128 (kk).toNatClampNeg)) (64))))⟩, (vnn hg.1 (rfl : vRf 104 41 = [126]) (by decide))⟩, (vp_of (i := kk) (n := 128) (by omega) (by omega))⟩, ⟨(by rw [vref hg.1 (rfl : vRf 104 41 = [126])]; exact jc), by decide⟩⟩, (vnn hg.1 (rfl : vRf 104 41 = [126]) (by decide))⟩, (vp_of (i := kk) (n := 128) (by omega) (by omega))⟩
  rw [vref hg.1 (rfl : vRf 104 53 = [132]), vref hg.1 (rfl : vRf 104 42 = [127]), vref hg.1 (rfl : vRf 104 43 = [128]), vref hg.1 (rfl : vRf 104 41 = [126])] at t1
  obtain ⟨v, c1, z1⟩ := jk_cmp8 l (xI h 126 (kk).toNatClampNeg) (xL h 132 ((xI h 127 (kk).toNatClampNeg)).toNatClampNeg) (xL h 132 ((xI h 128 (kk).toNatClampNeg)).toNatClampNeg) h hg jc
  have t2 : XT l 1 30 false 226 153 6051 268 [xf 13 104, xi kk, xl (xL h 132 ((xI h 127 (kk).toNatClampNeg)).toNatClampNeg), xun, xl (xL h 132 ((xI h 128 (kk).toNatClampNeg)).toNatClampNeg), xun] [xl (xL h 132 ((xI h 128 (kk).toNatClampNeg)).toNatClampNeg), xl (xL h 132 ((xI h 127 (kk).toNatClampNeg)).toNatClampNeg), xi (xI h 126 (kk).toNatClampNeg)] h 271 [xf 13 104, xi kk, xl (xL h 132 ((xI h 127 (kk).toNatClampNeg)).toNatClampNeg), xun, xl (xL h 132 ((xI h 128 (kk).toNatClampNeg)).toNatClampNeg), xun] [xi v] h := XT_call (l := l) (fr := 1) (lo := 30) (full := false) (M := 226) (n := 153) (u := 6051) (pc := 268) (L := [xf 13 104, xi kk, xl (xL h 132 ((xI h 127 (kk).toNatClampNeg)).toNatClampNeg), xun, xl (xL h 132 ((xI h 128 (kk).toNatClampNeg)).toNatClampNeg), xun]) (st := [xl (xL h 132 ((xI h 128 (kk).toNatClampNeg)).toNatClampNeg), xl (xL h 132 ((xI h 127 (kk).toNatClampNeg)).toNatClampNeg), xi (xI h 126 (kk).toNatClampNeg)]) (h := h) (i := .invokestatic 229) (aux := 3) (nx := 271) (K := 229) (vs := [xi (xI h 126 (kk).toNatClampNeg), xl (xL h 132 ((xI h 127 (kk).toNatClampNeg)).toNatClampNeg), xl (xL h 132 ((xI h 128 (kk).toNatClampNeg)).toNatClampNeg)]) (rs := [xi v]) (rest := []) rfl rfl rfl rfl rfl rfl c1 (by decide) (by decide) (Nat.le_of_ble_eq_true rfl) ⟨Nat.le_of_eq hg.2.2.2.1, Nat.le_of_eq hg.2.2.2.2⟩
  have t3 := t1.tr t2
  by_cases cb4 : v = 0
  · have e_0 : (0 : Int32).toInt = 0 := rfl
    have dcb4 : (v).toInt = (0 : Int32).toInt := congrArg Int32.toInt cb4
    have t5 : XT l 1 30 false 226 153 6051 271 [xf 13 104, xi kk, xl (xL h 132 ((xI h 127 (kk).toNatClampNeg)).toNatClampNeg), xun, xl (xL h 132 ((xI h 128 (kk).toNatClampNeg)).toNatClampNeg), xun] [xi v] h 279 [xf 13 104, xi kk, xl (xL h 132 ((xI h 127 (kk).toNatClampNeg)).toNatClampNeg), xun, xl (xL h 132 ((xI h 128 (kk).toNatClampNeg)).toNatClampNeg), xun] [xl (Int64.ofInt (0))] h := XT_path (l := l) (fr := 1) (lo := 30) (full := false) (M := 226) (n := 153) (u := 6051) (pc := 271) (L := [xf 13 104, xi kk, xl (xL h 132 ((xI h 127 (kk).toNatClampNeg)).toNatClampNeg), xun, xl (xL h 132 ((xI h 128 (kk).toNatClampNeg)).toNatClampNeg), xun]) (st := [xi v]) (h := h) (inl := []) (n' := 200) (sp := [279]) (o := [1]) rfl rfl ⟨rfl, rfl, rfl⟩ rfl ⟨Nat.le_of_eq hg.2.2.2.1, Nat.le_of_eq hg.2.2.2.2⟩ ⟨trivial, cb4⟩
    have t6 := t3.tr t5
    refine ⟨_, _, CX_ofT (h' := h) (by decide) rfl rfl trivial ⟨_, _, _, rfl, rfl, rfl⟩ rfl ⟨Nat.le_of_eq hg.2.2.2.1.symm, Nat.le_of_eq hg.2.2.2.2.symm⟩ t6, mV.rf hg, fun z => ?_, fun z => z⟩
    have y1 := (ha z).1
    have y2 := (hb z).1
    rw [y1, y2] at z1
    rw [z]
    exact zvv_f (by rcases z1 with ⟨y, y3⟩ | ⟨y, y3⟩; exact absurd (cb4.symm.trans y) (by decide); exact y3)
  · have e_0 : (0 : Int32).toInt = 0 := rfl
    have dcb4 : ¬ (v).toInt = (0 : Int32).toInt := fun z_ => cb4 (Int32.toInt_inj.mp z_)
    have t7 : XT l 1 30 false 226 153 6051 271 [xf 13 104, xi kk, xl (xL h 132 ((xI h 127 (kk).toNatClampNeg)).toNatClampNeg), xun, xl (xL h 132 ((xI h 128 (kk).toNatClampNeg)).toNatClampNeg), xun] [xi v] h 279 [xf 13 104, xi kk, xl (xL h 132 ((xI h 127 (kk).toNatClampNeg)).toNatClampNeg), xun, xl (xL h 132 ((xI h 128 (kk).toNatClampNeg)).toNatClampNeg), xun] [xl (Int64.ofInt (1))] h := XT_path (l := l) (fr := 1) (lo := 30) (full := false) (M := 226) (n := 153) (u := 6051) (pc := 271) (L := [xf 13 104, xi kk, xl (xL h 132 ((xI h 127 (kk).toNatClampNeg)).toNatClampNeg), xun, xl (xL h 132 ((xI h 128 (kk).toNatClampNeg)).toNatClampNeg), xun]) (st := [xi v]) (h := h) (inl := []) (n' := 200) (sp := [279]) (o := [0]) rfl rfl ⟨rfl, rfl, rfl⟩ rfl ⟨Nat.le_of_eq hg.2.2.2.1, Nat.le_of_eq hg.2.2.2.2⟩ ⟨trivial, cb4⟩
    have t8 := t3.tr t7
    refine ⟨_, _, CX_ofT (h' := h) (by decide) rfl rfl trivial ⟨_, _, _, rfl, rfl, rfl⟩ rfl ⟨Nat.le_of_eq hg.2.2.2.1.symm, Nat.le_of_eq hg.2.2.2.2.symm⟩ t8, mV.rf hg, fun z => ?_, fun z => z⟩
    have y1 := (ha z).1
    have y2 := (hb z).1
    rw [y1, y2] at z1
    rw [z]
    exact zvv_t (by rcases z1 with ⟨y, y3⟩ | ⟨y, y3⟩; exact y3; exact absurd y cb4)
set_option maxRecDepth 100000 in
set_option maxHeartbeats 4000000 in
theorem jk_bin11 (l : Launch) (Z V : Nat → Int) (kk : Int32) (i a c : Nat) (h : XH) (hg : mI h) (hk : kk.toInt = i) (hi : i < 64) (ek : (xI h 126 kk.toNatClampNeg).toInt = jkn (Z (300 + i))) (ep : (xI h 127 kk.toNatClampNeg).toInt = Z (500 + i)) (eo : (xI h 128 kk.toNatClampNeg).toInt = Z (600 + i)) (eo_ : Z (300 + i) = 11) (ea : Z (500 + i) = a) (ec : Z (600 + i) = c) (la : a < i) (lc : c < i) (hva : xI h 104 54 = 0 → (xL h 132 a).toInt = V a ∧ zM (xL h 132 a)) (hvc : xI h 104 54 = 0 → (xL h 132 c).toInt = V c ∧ zM (xL h 132 c)) : ∃ v h', CX l 1 30 false 226 [xf 13 104, xi kk] h [xl v] h' ∧ mV h h' ∧ (xI h 104 54 = 0 → zvv (some (if V c ≤ V a then 1 else 0)) v (xI h' 104 54)) ∧ (¬ xI h 104 54 = 0 → ¬ xI h' 104 54 = 0) := by
  have jc : (xI h 126 kk.toNatClampNeg).toInt = 9 := by rw [ek, eo_]; rfl
  have e_1 : ((Int32.ofInt (1))).toInt = 1 := rfl
  have e_2 : ((Int32.ofInt (2))).toInt = 2 := rfl
  have ez : (0 : Int32).toInt = 0 := rfl
  have na : ((xI h 127 kk.toNatClampNeg)).toNatClampNeg = a := by show (xI h 127 kk.toNatClampNeg).toInt.toNat = _; rw [ep, ea]; rfl
  have nc : ((xI h 128 kk.toNatClampNeg)).toNatClampNeg = c := by show (xI h 128 kk.toNatClampNeg).toInt.toNat = _; rw [eo, ec]; rfl
  have ez6 : (Int64.ofInt (0)).toInt = 0 := rfl
  have ez7 : (0 : Int64).toInt = 0 := rfl
  have o1 : ¬ (Int32.ofInt (1)) = (0 : Int32) := by decide
  have o0 : (Int32.ofInt (0)) = (0 : Int32) := rfl
  have ha : xI h 104 54 = 0 → (xL h 132 ((xI h 127 kk.toNatClampNeg)).toNatClampNeg).toInt = V a ∧ zM (xL h 132 ((xI h 127 kk.toNatClampNeg)).toNatClampNeg) := fun z => by rw [na]; exact hva z
  have hb : xI h 104 54 = 0 → (xL h 132 ((xI h 128 kk.toNatClampNeg)).toNatClampNeg).toInt = V c ∧ zM (xL h 132 ((xI h 128 kk.toNatClampNeg)).toNatClampNeg) := fun z => by rw [nc]; exact hvc z
  have t1 : XT l 1 30 false 226 153 6051 0 [xf 13 104, xi kk, xun, xun, xun, xun] [] h 268 [xf 13 104, xi kk, xl (xL h (xR h 104 53) ((xI h (xR h 104 42) (kk).toNatClampNeg)).toNatClampNeg), xun, xl (xL h (xR h 104 53) ((xI h (xR h 104 43) (kk).toNatClampNeg)).toNatClampNeg), xun] [xl (xL h (xR h 104 53) ((xI h (xR h 104 43) (kk).toNatClampNeg)).toNatClampNeg), xl (xL h (xR h 104 53) ((xI h (xR h 104 42) (kk).toNatClampNeg)).toNatClampNeg), xi (xI h (xR h 104 41) (kk).toNatClampNeg)] h := XT_path (l := l) (fr := 1) (lo := 30) (full := false) (M := 226) (n := 153) (u := 6051) (pc := 0) (L := [xf 13 104, xi kk, xun, xun, xun, xun]) (st := []) (h := h) (inl := []) (n' := 200) (sp := [268]) (o := [1, 1, 1, 7]) rfl rfl ⟨rfl, rfl, rfl⟩ rfl ⟨Nat.le_of_eq hg.2.2.2.1, Nat.le_of_eq hg.2.2.2.2⟩ ⟨⟨⟨⟨⟨⟨⟨⟨⟨⟨⟨⟨⟨⟨⟨⟨⟨⟨⟨⟨⟨⟨trivial, (vnn hg.1 (rfl : vRf 104 41 = [126]) (by decide))⟩, (vp_of (i := kk) (n := 128) (by omega) (by omega))⟩, (show ¬ (xI h (xR h 104 41) (kk).toNatClampNeg) = 0 from by rw [vref hg.1 (rfl : vRf 104 41 = [126])]; exact fun z => absurd (congrArg Int32.toInt z) (by omega))⟩, (vnn hg.1 (rfl : vRf 104 41 = [126]) (by decide))⟩, (vp_of (i := kk) (n := 128) (by omega) (by omega))⟩, (show ¬ (xI h (xR h 104 41) (kk).toNatClampNeg) = (Int32.ofInt (1)) from by rw [vref hg.1 (rfl : vRf 104 41 = [126])]; exact fun z => absurd (congrArg Int32.toInt z) (by omega))⟩, (vnn hg.1 (rfl : vRf 104 53 = [132]) (by decide))⟩, (vnn hg.1 (rfl : vRf 104 42 = [127]) (by decide))⟩, (vp_of (i := kk) (n := 128) (by omega) (by omega))⟩, (show vp_in ((xI h (xR h 104 42) (kk).toNatClampNeg)) (64) from (by rw [vref hg.1 (rfl : vRf 104 42 = [127])]; exact (vp_of (i := (xI h 127 (kk).toNatClampNeg)) (n := 64) (by omega) (by omega) : vp_in ((xI h 127 (kk).toNatClampNeg)) (64))))⟩, (vnn hg.1 (rfl : vRf 104 41 = [126]) (by decide))⟩, (vp_of (i := kk) (n := 128) (by omega) (by omega))⟩, (show ¬ (xI h (xR h 104 41) (kk).toNatClampNeg) = (Int32.ofInt (2)) from by rw [vref hg.1 (rfl : vRf 104 41 = [126])]; exact fun z => absurd (congrArg Int32.toInt z) (by omega))⟩, (vnn hg.1 (rfl : vRf 104 53 = [132]) (by decide))⟩, (vnn hg.1 (rfl : vRf 104 43 = [128]) (by decide))⟩, (vp_of (i := kk) (n := 128) (by omega) (by omega))⟩, (show vp_in ((xI h (xR h 104 43) (kk).toNatClampNeg)) (64) from (by rw [vref hg.1 (rfl : vRf 104 43 = [128])]; exact (vp_of (i := (xI h 128 (kk).toNatClampNeg)) (n := 64) (by omega) (by omega) : vp_in ((xI h 128 (kk).toNatClampNeg)) (64))))⟩, (vnn hg.1 (rfl : vRf 104 41 = [126]) (by decide))⟩, (vp_of (i := kk) (n := 128) (by omega) (by omega))⟩, ⟨(by rw [vref hg.1 (rfl : vRf 104 41 = [126])]; exact jc), by decide⟩⟩, (vnn hg.1 (rfl : vRf 104 41 = [126]) (by decide))⟩, (vp_of (i := kk) (n := 128) (by omega) (by omega))⟩
  rw [vref hg.1 (rfl : vRf 104 53 = [132]), vref hg.1 (rfl : vRf 104 42 = [127]), vref hg.1 (rfl : vRf 104 43 = [128]), vref hg.1 (rfl : vRf 104 41 = [126])] at t1
  obtain ⟨v, c1, z1⟩ := jk_cmp9 l (xI h 126 (kk).toNatClampNeg) (xL h 132 ((xI h 127 (kk).toNatClampNeg)).toNatClampNeg) (xL h 132 ((xI h 128 (kk).toNatClampNeg)).toNatClampNeg) h hg jc
  have t2 : XT l 1 30 false 226 153 6051 268 [xf 13 104, xi kk, xl (xL h 132 ((xI h 127 (kk).toNatClampNeg)).toNatClampNeg), xun, xl (xL h 132 ((xI h 128 (kk).toNatClampNeg)).toNatClampNeg), xun] [xl (xL h 132 ((xI h 128 (kk).toNatClampNeg)).toNatClampNeg), xl (xL h 132 ((xI h 127 (kk).toNatClampNeg)).toNatClampNeg), xi (xI h 126 (kk).toNatClampNeg)] h 271 [xf 13 104, xi kk, xl (xL h 132 ((xI h 127 (kk).toNatClampNeg)).toNatClampNeg), xun, xl (xL h 132 ((xI h 128 (kk).toNatClampNeg)).toNatClampNeg), xun] [xi v] h := XT_call (l := l) (fr := 1) (lo := 30) (full := false) (M := 226) (n := 153) (u := 6051) (pc := 268) (L := [xf 13 104, xi kk, xl (xL h 132 ((xI h 127 (kk).toNatClampNeg)).toNatClampNeg), xun, xl (xL h 132 ((xI h 128 (kk).toNatClampNeg)).toNatClampNeg), xun]) (st := [xl (xL h 132 ((xI h 128 (kk).toNatClampNeg)).toNatClampNeg), xl (xL h 132 ((xI h 127 (kk).toNatClampNeg)).toNatClampNeg), xi (xI h 126 (kk).toNatClampNeg)]) (h := h) (i := .invokestatic 229) (aux := 3) (nx := 271) (K := 229) (vs := [xi (xI h 126 (kk).toNatClampNeg), xl (xL h 132 ((xI h 127 (kk).toNatClampNeg)).toNatClampNeg), xl (xL h 132 ((xI h 128 (kk).toNatClampNeg)).toNatClampNeg)]) (rs := [xi v]) (rest := []) rfl rfl rfl rfl rfl rfl c1 (by decide) (by decide) (Nat.le_of_ble_eq_true rfl) ⟨Nat.le_of_eq hg.2.2.2.1, Nat.le_of_eq hg.2.2.2.2⟩
  have t3 := t1.tr t2
  by_cases cb4 : v = 0
  · have e_0 : (0 : Int32).toInt = 0 := rfl
    have dcb4 : (v).toInt = (0 : Int32).toInt := congrArg Int32.toInt cb4
    have t5 : XT l 1 30 false 226 153 6051 271 [xf 13 104, xi kk, xl (xL h 132 ((xI h 127 (kk).toNatClampNeg)).toNatClampNeg), xun, xl (xL h 132 ((xI h 128 (kk).toNatClampNeg)).toNatClampNeg), xun] [xi v] h 279 [xf 13 104, xi kk, xl (xL h 132 ((xI h 127 (kk).toNatClampNeg)).toNatClampNeg), xun, xl (xL h 132 ((xI h 128 (kk).toNatClampNeg)).toNatClampNeg), xun] [xl (Int64.ofInt (0))] h := XT_path (l := l) (fr := 1) (lo := 30) (full := false) (M := 226) (n := 153) (u := 6051) (pc := 271) (L := [xf 13 104, xi kk, xl (xL h 132 ((xI h 127 (kk).toNatClampNeg)).toNatClampNeg), xun, xl (xL h 132 ((xI h 128 (kk).toNatClampNeg)).toNatClampNeg), xun]) (st := [xi v]) (h := h) (inl := []) (n' := 200) (sp := [279]) (o := [1]) rfl rfl ⟨rfl, rfl, rfl⟩ rfl ⟨Nat.le_of_eq hg.2.2.2.1, Nat.le_of_eq hg.2.2.2.2⟩ ⟨trivial, cb4⟩
    have t6 := t3.tr t5
    refine ⟨_, _, CX_ofT (h' := h) (by decide) rfl rfl trivial ⟨_, _, _, rfl, rfl, rfl⟩ rfl ⟨Nat.le_of_eq hg.2.2.2.1.symm, Nat.le_of_eq hg.2.2.2.2.symm⟩ t6, mV.rf hg, fun z => ?_, fun z => z⟩
    have y1 := (ha z).1
    have y2 := (hb z).1
    rw [y1, y2] at z1
    rw [z]
    exact zvv_f (by rcases z1 with ⟨y, y3⟩ | ⟨y, y3⟩; exact absurd (cb4.symm.trans y) (by decide); exact y3)
  · have e_0 : (0 : Int32).toInt = 0 := rfl
    have dcb4 : ¬ (v).toInt = (0 : Int32).toInt := fun z_ => cb4 (Int32.toInt_inj.mp z_)
    have t7 : XT l 1 30 false 226 153 6051 271 [xf 13 104, xi kk, xl (xL h 132 ((xI h 127 (kk).toNatClampNeg)).toNatClampNeg), xun, xl (xL h 132 ((xI h 128 (kk).toNatClampNeg)).toNatClampNeg), xun] [xi v] h 279 [xf 13 104, xi kk, xl (xL h 132 ((xI h 127 (kk).toNatClampNeg)).toNatClampNeg), xun, xl (xL h 132 ((xI h 128 (kk).toNatClampNeg)).toNatClampNeg), xun] [xl (Int64.ofInt (1))] h := XT_path (l := l) (fr := 1) (lo := 30) (full := false) (M := 226) (n := 153) (u := 6051) (pc := 271) (L := [xf 13 104, xi kk, xl (xL h 132 ((xI h 127 (kk).toNatClampNeg)).toNatClampNeg), xun, xl (xL h 132 ((xI h 128 (kk).toNatClampNeg)).toNatClampNeg), xun]) (st := [xi v]) (h := h) (inl := []) (n' := 200) (sp := [279]) (o := [0]) rfl rfl ⟨rfl, rfl, rfl⟩ rfl ⟨Nat.le_of_eq hg.2.2.2.1, Nat.le_of_eq hg.2.2.2.2⟩ ⟨trivial, cb4⟩
    have t8 := t3.tr t7
    refine ⟨_, _, CX_ofT (h' := h) (by decide) rfl rfl trivial ⟨_, _, _, rfl, rfl, rfl⟩ rfl ⟨Nat.le_of_eq hg.2.2.2.1.symm, Nat.le_of_eq hg.2.2.2.2.symm⟩ t8, mV.rf hg, fun z => ?_, fun z => z⟩
    have y1 := (ha z).1
    have y2 := (hb z).1
    rw [y1, y2] at z1
    rw [z]
    exact zvv_t (by rcases z1 with ⟨y, y3⟩ | ⟨y, y3⟩; exact y3; exact absurd y cb4)
set_option maxRecDepth 100000 in
set_option maxHeartbeats 4000000 in
theorem jk_bin12 (l : Launch) (Z V : Nat → Int) (kk : Int32) (i a c : Nat) (h : XH) (hg : mI h) (hk : kk.toInt = i) (hi : i < 64) (ek : (xI h 126 kk.toNatClampNeg).toInt = jkn (Z (300 + i))) (ep : (xI h 127 kk.toNatClampNeg).toInt = Z (500 + i)) (eo : (xI h 128 kk.toNatClampNeg).toInt = Z (600 + i)) (eo_ : Z (300 + i) = 12) (ea : Z (500 + i) = a) (ec : Z (600 + i) = c) (la : a < i) (lc : c < i) (hva : xI h 104 54 = 0 → (xL h 132 a).toInt = V a ∧ zM (xL h 132 a)) (hvc : xI h 104 54 = 0 → (xL h 132 c).toInt = V c ∧ zM (xL h 132 c)) : ∃ v h', CX l 1 30 false 226 [xf 13 104, xi kk] h [xl v] h' ∧ mV h h' ∧ (xI h 104 54 = 0 → zvv (some (if V c < V a then 1 else 0)) v (xI h' 104 54)) ∧ (¬ xI h 104 54 = 0 → ¬ xI h' 104 54 = 0) := by
  have jc : (xI h 126 kk.toNatClampNeg).toInt = 10 := by rw [ek, eo_]; rfl
  have e_1 : ((Int32.ofInt (1))).toInt = 1 := rfl
  have e_2 : ((Int32.ofInt (2))).toInt = 2 := rfl
  have ez : (0 : Int32).toInt = 0 := rfl
  have na : ((xI h 127 kk.toNatClampNeg)).toNatClampNeg = a := by show (xI h 127 kk.toNatClampNeg).toInt.toNat = _; rw [ep, ea]; rfl
  have nc : ((xI h 128 kk.toNatClampNeg)).toNatClampNeg = c := by show (xI h 128 kk.toNatClampNeg).toInt.toNat = _; rw [eo, ec]; rfl
  have ez6 : (Int64.ofInt (0)).toInt = 0 := rfl
  have ez7 : (0 : Int64).toInt = 0 := rfl
  have o1 : ¬ (Int32.ofInt (1)) = (0 : Int32) := by decide
  have o0 : (Int32.ofInt (0)) = (0 : Int32) := rfl
  have ha : xI h 104 54 = 0 → (xL h 132 ((xI h 127 kk.toNatClampNeg)).toNatClampNeg).toInt = V a ∧ zM (xL h 132 ((xI h 127 kk.toNatClampNeg)).toNatClampNeg) := fun z => by rw [na]; exact hva z
  have hb : xI h 104 54 = 0 → (xL h 132 ((xI h 128 kk.toNatClampNeg)).toNatClampNeg).toInt = V c ∧ zM (xL h 132 ((xI h 128 kk.toNatClampNeg)).toNatClampNeg) := fun z => by rw [nc]; exact hvc z
  have t1 : XT l 1 30 false 226 153 6051 0 [xf 13 104, xi kk, xun, xun, xun, xun] [] h 268 [xf 13 104, xi kk, xl (xL h (xR h 104 53) ((xI h (xR h 104 42) (kk).toNatClampNeg)).toNatClampNeg), xun, xl (xL h (xR h 104 53) ((xI h (xR h 104 43) (kk).toNatClampNeg)).toNatClampNeg), xun] [xl (xL h (xR h 104 53) ((xI h (xR h 104 43) (kk).toNatClampNeg)).toNatClampNeg), xl (xL h (xR h 104 53) ((xI h (xR h 104 42) (kk).toNatClampNeg)).toNatClampNeg), xi (xI h (xR h 104 41) (kk).toNatClampNeg)] h := XT_path (l := l) (fr := 1) (lo := 30) (full := false) (M := 226) (n := 153) (u := 6051) (pc := 0) (L := [xf 13 104, xi kk, xun, xun, xun, xun]) (st := []) (h := h) (inl := []) (n' := 200) (sp := [268]) (o := [1, 1, 1, 8]) rfl rfl ⟨rfl, rfl, rfl⟩ rfl ⟨Nat.le_of_eq hg.2.2.2.1, Nat.le_of_eq hg.2.2.2.2⟩ ⟨⟨⟨⟨⟨⟨⟨⟨⟨⟨⟨⟨⟨⟨⟨⟨⟨⟨⟨⟨⟨⟨trivial, (vnn hg.1 (rfl : vRf 104 41 = [126]) (by decide))⟩, (vp_of (i := kk) (n := 128) (by omega) (by omega))⟩, (show ¬ (xI h (xR h 104 41) (kk).toNatClampNeg) = 0 from by rw [vref hg.1 (rfl : vRf 104 41 = [126])]; exact fun z => absurd (congrArg Int32.toInt z) (by omega))⟩, (vnn hg.1 (rfl : vRf 104 41 = [126]) (by decide))⟩, (vp_of (i := kk) (n := 128) (by omega) (by omega))⟩, (show ¬ (xI h (xR h 104 41) (kk).toNatClampNeg) = (Int32.ofInt (1)) from by rw [vref hg.1 (rfl : vRf 104 41 = [126])]; exact fun z => absurd (congrArg Int32.toInt z) (by omega))⟩, (vnn hg.1 (rfl : vRf 104 53 = [132]) (by decide))⟩, (vnn hg.1 (rfl : vRf 104 42 = [127]) (by decide))⟩, (vp_of (i := kk) (n := 128) (by omega) (by omega))⟩, (show vp_in ((xI h (xR h 104 42) (kk).toNatClampNeg)) (64) from (by rw [vref hg.1 (rfl : vRf 104 42 = [127])]; exact (vp_of (i := (xI h 127 (kk).toNatClampNeg)) (n := 64) (by omega) (by omega) : vp_in ((xI h 127 (kk).toNatClampNeg)) (64))))⟩, (vnn hg.1 (rfl : vRf 104 41 = [126]) (by decide))⟩, (vp_of (i := kk) (n := 128) (by omega) (by omega))⟩, (show ¬ (xI h (xR h 104 41) (kk).toNatClampNeg) = (Int32.ofInt (2)) from by rw [vref hg.1 (rfl : vRf 104 41 = [126])]; exact fun z => absurd (congrArg Int32.toInt z) (by omega))⟩, (vnn hg.1 (rfl : vRf 104 53 = [132]) (by decide))⟩, (vnn hg.1 (rfl : vRf 104 43 = [128]) (by decide))⟩, (vp_of (i := kk) (n := 128) (by omega) (by omega))⟩, (show vp_in ((xI h (xR h 104 43) (kk).toNatClampNeg)) (64) from (by rw [vref hg.1 (rfl : vRf 104 43 = [128])]; exact (vp_of (i := (xI h 128 (kk).toNatClampNeg)) (n := 64) (by omega) (by omega) : vp_in ((xI h 128 (kk).toNatClampNeg)) (64))))⟩, (vnn hg.1 (rfl : vRf 104 41 = [126]) (by decide))⟩, (vp_of (i := kk) (n := 128) (by omega) (by omega))⟩, ⟨(by rw [vref hg.1 (rfl : vRf 104 41 = [126])]; exact jc), by decide⟩⟩, (vnn hg.1 (rfl : vRf 104 41 = [126]) (by decide))⟩, (vp_of (i := kk) (n := 128) (by omega) (by omega))⟩
  rw [vref hg.1 (rfl : vRf 104 53 = [132]), vref hg.1 (rfl : vRf 104 42 = [127]), vref hg.1 (rfl : vRf 104 43 = [128]), vref hg.1 (rfl : vRf 104 41 = [126])] at t1
  obtain ⟨v, c1, z1⟩ := jk_cmp10 l (xI h 126 (kk).toNatClampNeg) (xL h 132 ((xI h 127 (kk).toNatClampNeg)).toNatClampNeg) (xL h 132 ((xI h 128 (kk).toNatClampNeg)).toNatClampNeg) h hg jc
  have t2 : XT l 1 30 false 226 153 6051 268 [xf 13 104, xi kk, xl (xL h 132 ((xI h 127 (kk).toNatClampNeg)).toNatClampNeg), xun, xl (xL h 132 ((xI h 128 (kk).toNatClampNeg)).toNatClampNeg), xun] [xl (xL h 132 ((xI h 128 (kk).toNatClampNeg)).toNatClampNeg), xl (xL h 132 ((xI h 127 (kk).toNatClampNeg)).toNatClampNeg), xi (xI h 126 (kk).toNatClampNeg)] h 271 [xf 13 104, xi kk, xl (xL h 132 ((xI h 127 (kk).toNatClampNeg)).toNatClampNeg), xun, xl (xL h 132 ((xI h 128 (kk).toNatClampNeg)).toNatClampNeg), xun] [xi v] h := XT_call (l := l) (fr := 1) (lo := 30) (full := false) (M := 226) (n := 153) (u := 6051) (pc := 268) (L := [xf 13 104, xi kk, xl (xL h 132 ((xI h 127 (kk).toNatClampNeg)).toNatClampNeg), xun, xl (xL h 132 ((xI h 128 (kk).toNatClampNeg)).toNatClampNeg), xun]) (st := [xl (xL h 132 ((xI h 128 (kk).toNatClampNeg)).toNatClampNeg), xl (xL h 132 ((xI h 127 (kk).toNatClampNeg)).toNatClampNeg), xi (xI h 126 (kk).toNatClampNeg)]) (h := h) (i := .invokestatic 229) (aux := 3) (nx := 271) (K := 229) (vs := [xi (xI h 126 (kk).toNatClampNeg), xl (xL h 132 ((xI h 127 (kk).toNatClampNeg)).toNatClampNeg), xl (xL h 132 ((xI h 128 (kk).toNatClampNeg)).toNatClampNeg)]) (rs := [xi v]) (rest := []) rfl rfl rfl rfl rfl rfl c1 (by decide) (by decide) (Nat.le_of_ble_eq_true rfl) ⟨Nat.le_of_eq hg.2.2.2.1, Nat.le_of_eq hg.2.2.2.2⟩
  have t3 := t1.tr t2
  by_cases cb4 : v = 0
  · have e_0 : (0 : Int32).toInt = 0 := rfl
    have dcb4 : (v).toInt = (0 : Int32).toInt := congrArg Int32.toInt cb4
    have t5 : XT l 1 30 false 226 153 6051 271 [xf 13 104, xi kk, xl (xL h 132 ((xI h 127 (kk).toNatClampNeg)).toNatClampNeg), xun, xl (xL h 132 ((xI h 128 (kk).toNatClampNeg)).toNatClampNeg), xun] [xi v] h 279 [xf 13 104, xi kk, xl (xL h 132 ((xI h 127 (kk).toNatClampNeg)).toNatClampNeg), xun, xl (xL h 132 ((xI h 128 (kk).toNatClampNeg)).toNatClampNeg), xun] [xl (Int64.ofInt (0))] h := XT_path (l := l) (fr := 1) (lo := 30) (full := false) (M := 226) (n := 153) (u := 6051) (pc := 271) (L := [xf 13 104, xi kk, xl (xL h 132 ((xI h 127 (kk).toNatClampNeg)).toNatClampNeg), xun, xl (xL h 132 ((xI h 128 (kk).toNatClampNeg)).toNatClampNeg), xun]) (st := [xi v]) (h := h) (inl := []) (n' := 200) (sp := [279]) (o := [1]) rfl rfl ⟨rfl, rfl, rfl⟩ rfl ⟨Nat.le_of_eq hg.2.2.2.1, Nat.le_of_eq hg.2.2.2.2⟩ ⟨trivial, cb4⟩
    have t6 := t3.tr t5
    refine ⟨_, _, CX_ofT (h' := h) (by decide) rfl rfl trivial ⟨_, _, _, rfl, rfl, rfl⟩ rfl ⟨Nat.le_of_eq hg.2.2.2.1.symm, Nat.le_of_eq hg.2.2.2.2.symm⟩ t6, mV.rf hg, fun z => ?_, fun z => z⟩
    have y1 := (ha z).1
    have y2 := (hb z).1
    rw [y1, y2] at z1
    rw [z]
    exact zvv_f (by rcases z1 with ⟨y, y3⟩ | ⟨y, y3⟩; exact absurd (cb4.symm.trans y) (by decide); exact y3)
  · have e_0 : (0 : Int32).toInt = 0 := rfl
    have dcb4 : ¬ (v).toInt = (0 : Int32).toInt := fun z_ => cb4 (Int32.toInt_inj.mp z_)
    have t7 : XT l 1 30 false 226 153 6051 271 [xf 13 104, xi kk, xl (xL h 132 ((xI h 127 (kk).toNatClampNeg)).toNatClampNeg), xun, xl (xL h 132 ((xI h 128 (kk).toNatClampNeg)).toNatClampNeg), xun] [xi v] h 279 [xf 13 104, xi kk, xl (xL h 132 ((xI h 127 (kk).toNatClampNeg)).toNatClampNeg), xun, xl (xL h 132 ((xI h 128 (kk).toNatClampNeg)).toNatClampNeg), xun] [xl (Int64.ofInt (1))] h := XT_path (l := l) (fr := 1) (lo := 30) (full := false) (M := 226) (n := 153) (u := 6051) (pc := 271) (L := [xf 13 104, xi kk, xl (xL h 132 ((xI h 127 (kk).toNatClampNeg)).toNatClampNeg), xun, xl (xL h 132 ((xI h 128 (kk).toNatClampNeg)).toNatClampNeg), xun]) (st := [xi v]) (h := h) (inl := []) (n' := 200) (sp := [279]) (o := [0]) rfl rfl ⟨rfl, rfl, rfl⟩ rfl ⟨Nat.le_of_eq hg.2.2.2.1, Nat.le_of_eq hg.2.2.2.2⟩ ⟨trivial, cb4⟩
    have t8 := t3.tr t7
    refine ⟨_, _, CX_ofT (h' := h) (by decide) rfl rfl trivial ⟨_, _, _, rfl, rfl, rfl⟩ rfl ⟨Nat.le_of_eq hg.2.2.2.1.symm, Nat.le_of_eq hg.2.2.2.2.symm⟩ t8, mV.rf hg, fun z => ?_, fun z => z⟩
    have y1 := (ha z).1
    have y2 := (hb z).1
    rw [y1, y2] at z1
    rw [z]
    exact zvv_t (by rcases z1 with ⟨y, y3⟩ | ⟨y, y3⟩; exact y3; exact absurd y cb4)
set_option maxRecDepth 100000 in
set_option maxHeartbeats 4000000 in
theorem jk_bin31 (l : Launch) (Z V : Nat → Int) (kk : Int32) (i a c : Nat) (h : XH) (hg : mI h) (hk : kk.toInt = i) (hi : i < 64) (ek : (xI h 126 kk.toNatClampNeg).toInt = jkn (Z (300 + i))) (ep : (xI h 127 kk.toNatClampNeg).toInt = Z (500 + i)) (eo : (xI h 128 kk.toNatClampNeg).toInt = Z (600 + i)) (eo_ : Z (300 + i) = 31) (ea : Z (500 + i) = a) (ec : Z (600 + i) = c) (la : a < i) (lc : c < i) (hva : xI h 104 54 = 0 → (xL h 132 a).toInt = V a ∧ zM (xL h 132 a)) (hvc : xI h 104 54 = 0 → (xL h 132 c).toInt = V c ∧ zM (xL h 132 c)) : ∃ v h', CX l 1 30 false 226 [xf 13 104, xi kk] h [xl v] h' ∧ mV h h' ∧ (xI h 104 54 = 0 → zvv (some (if ¬ V a = 0 ∧ ¬ V c = 0 then 1 else 0)) v (xI h' 104 54)) ∧ (¬ xI h 104 54 = 0 → ¬ xI h' 104 54 = 0) := by
  have jc : (xI h 126 kk.toNatClampNeg).toInt = 3 := by rw [ek, eo_]; rfl
  have e_1 : ((Int32.ofInt (1))).toInt = 1 := rfl
  have e_2 : ((Int32.ofInt (2))).toInt = 2 := rfl
  have ez : (0 : Int32).toInt = 0 := rfl
  have na : ((xI h 127 kk.toNatClampNeg)).toNatClampNeg = a := by show (xI h 127 kk.toNatClampNeg).toInt.toNat = _; rw [ep, ea]; rfl
  have nc : ((xI h 128 kk.toNatClampNeg)).toNatClampNeg = c := by show (xI h 128 kk.toNatClampNeg).toInt.toNat = _; rw [eo, ec]; rfl
  have ez6 : (Int64.ofInt (0)).toInt = 0 := rfl
  have ez7 : (0 : Int64).toInt = 0 := rfl
  have o1 : ¬ (Int32.ofInt (1)) = (0 : Int32) := by decide
  have o0 : (Int32.ofInt (0)) = (0 : Int32) := rfl
  have ha : xI h 104 54 = 0 → (xL h 132 ((xI h 127 kk.toNatClampNeg)).toNatClampNeg).toInt = V a ∧ zM (xL h 132 ((xI h 127 kk.toNatClampNeg)).toNatClampNeg) := fun z => by rw [na]; exact hva z
  have hb : xI h 104 54 = 0 → (xL h 132 ((xI h 128 kk.toNatClampNeg)).toNatClampNeg).toInt = V c ∧ zM (xL h 132 ((xI h 128 kk.toNatClampNeg)).toNatClampNeg) := fun z => by rw [nc]; exact hvc z
  by_cases cb1 : (lg_cmp (xL h (xR h 104 53) ((xI h (xR h 104 42) (kk).toNatClampNeg)).toNatClampNeg) (Int64.ofInt (0))) = 0
  · have el_0 : (Int64.ofInt (0)).toInt = 0 := rfl
    have cb1r := cb1
    rw [vref hg.1 (rfl : vRf 104 53 = [132]), vref hg.1 (rfl : vRf 104 42 = [127])] at cb1r
    have dcb1 : (xL h 132 ((xI h 127 (kk).toNatClampNeg)).toNatClampNeg).toInt = (Int64.ofInt (0)).toInt := lgi_eq.mp cb1r
    have t2 : XT l 1 30 false 226 153 6051 0 [xf 13 104, xi kk, xun, xun, xun, xun] [] h 174 [xf 13 104, xi kk, xl (xL h (xR h 104 53) ((xI h (xR h 104 42) (kk).toNatClampNeg)).toNatClampNeg), xun, xl (xL h (xR h 104 53) ((xI h (xR h 104 43) (kk).toNatClampNeg)).toNatClampNeg), xun] [xl (Int64.ofInt (0))] h := XT_path (l := l) (fr := 1) (lo := 30) (full := false) (M := 226) (n := 153) (u := 6051) (pc := 0) (L := [xf 13 104, xi kk, xun, xun, xun, xun]) (st := []) (h := h) (inl := []) (n' := 200) (sp := [174]) (o := [1, 1, 1, 1, 1]) rfl rfl ⟨rfl, rfl, rfl⟩ rfl ⟨Nat.le_of_eq hg.2.2.2.1, Nat.le_of_eq hg.2.2.2.2⟩ ⟨⟨⟨⟨⟨⟨⟨⟨⟨⟨⟨⟨⟨⟨⟨⟨⟨⟨⟨⟨⟨trivial, (vnn hg.1 (rfl : vRf 104 41 = [126]) (by decide))⟩, (vp_of (i := kk) (n := 128) (by omega) (by omega))⟩, (show ¬ (xI h (xR h 104 41) (kk).toNatClampNeg) = 0 from by rw [vref hg.1 (rfl : vRf 104 41 = [126])]; exact fun z => absurd (congrArg Int32.toInt z) (by omega))⟩, (vnn hg.1 (rfl : vRf 104 41 = [126]) (by decide))⟩, (vp_of (i := kk) (n := 128) (by omega) (by omega))⟩, (show ¬ (xI h (xR h 104 41) (kk).toNatClampNeg) = (Int32.ofInt (1)) from by rw [vref hg.1 (rfl : vRf 104 41 = [126])]; exact fun z => absurd (congrArg Int32.toInt z) (by omega))⟩, (vnn hg.1 (rfl : vRf 104 53 = [132]) (by decide))⟩, (vnn hg.1 (rfl : vRf 104 42 = [127]) (by decide))⟩, (vp_of (i := kk) (n := 128) (by omega) (by omega))⟩, (show vp_in ((xI h (xR h 104 42) (kk).toNatClampNeg)) (64) from (by rw [vref hg.1 (rfl : vRf 104 42 = [127])]; exact (vp_of (i := (xI h 127 (kk).toNatClampNeg)) (n := 64) (by omega) (by omega) : vp_in ((xI h 127 (kk).toNatClampNeg)) (64))))⟩, (vnn hg.1 (rfl : vRf 104 41 = [126]) (by decide))⟩, (vp_of (i := kk) (n := 128) (by omega) (by omega))⟩, (show ¬ (xI h (xR h 104 41) (kk).toNatClampNeg) = (Int32.ofInt (2)) from by rw [vref hg.1 (rfl : vRf 104 41 = [126])]; exact fun z => absurd (congrArg Int32.toInt z) (by omega))⟩, (vnn hg.1 (rfl : vRf 104 53 = [132]) (by decide))⟩, (vnn hg.1 (rfl : vRf 104 43 = [128]) (by decide))⟩, (vp_of (i := kk) (n := 128) (by omega) (by omega))⟩, (show vp_in ((xI h (xR h 104 43) (kk).toNatClampNeg)) (64) from (by rw [vref hg.1 (rfl : vRf 104 43 = [128])]; exact (vp_of (i := (xI h 128 (kk).toNatClampNeg)) (n := 64) (by omega) (by omega) : vp_in ((xI h 128 (kk).toNatClampNeg)) (64))))⟩, (vnn hg.1 (rfl : vRf 104 41 = [126]) (by decide))⟩, (vp_of (i := kk) (n := 128) (by omega) (by omega))⟩, ⟨(by rw [vref hg.1 (rfl : vRf 104 41 = [126])]; exact jc), by decide⟩⟩, cb1⟩
    rw [vref hg.1 (rfl : vRf 104 53 = [132]), vref hg.1 (rfl : vRf 104 42 = [127]), vref hg.1 (rfl : vRf 104 43 = [128])] at t2
    refine ⟨_, _, CX_ofT (h' := h) (by decide) rfl rfl trivial ⟨_, _, _, rfl, rfl, rfl⟩ rfl ⟨Nat.le_of_eq hg.2.2.2.1.symm, Nat.le_of_eq hg.2.2.2.2.symm⟩ t2, mV.rf hg, fun z => ?_, fun z => z⟩
    have y1 := (ha z).1
    have y2 := (hb z).1
    rw [z]
    exact zvv_f (by rw [← y1, ← y2]; omega)
  · have el_0 : (Int64.ofInt (0)).toInt = 0 := rfl
    have cb1r := cb1
    rw [vref hg.1 (rfl : vRf 104 53 = [132]), vref hg.1 (rfl : vRf 104 42 = [127])] at cb1r
    have dcb1 : ¬ (xL h 132 ((xI h 127 (kk).toNatClampNeg)).toNatClampNeg).toInt = (Int64.ofInt (0)).toInt := fun z_ => cb1r (lgi_eq.mpr z_)
    by_cases cb3 : (lg_cmp (xL h (xR h 104 53) ((xI h (xR h 104 43) (kk).toNatClampNeg)).toNatClampNeg) (Int64.ofInt (0))) = 0
    · have el_0 : (Int64.ofInt (0)).toInt = 0 := rfl
      have cb3r := cb3
      rw [vref hg.1 (rfl : vRf 104 53 = [132]), vref hg.1 (rfl : vRf 104 43 = [128])] at cb3r
      have dcb3 : (xL h 132 ((xI h 128 (kk).toNatClampNeg)).toNatClampNeg).toInt = (Int64.ofInt (0)).toInt := lgi_eq.mp cb3r
      have t4 : XT l 1 30 false 226 153 6051 0 [xf 13 104, xi kk, xun, xun, xun, xun] [] h 174 [xf 13 104, xi kk, xl (xL h (xR h 104 53) ((xI h (xR h 104 42) (kk).toNatClampNeg)).toNatClampNeg), xun, xl (xL h (xR h 104 53) ((xI h (xR h 104 43) (kk).toNatClampNeg)).toNatClampNeg), xun] [xl (Int64.ofInt (0))] h := XT_path (l := l) (fr := 1) (lo := 30) (full := false) (M := 226) (n := 153) (u := 6051) (pc := 0) (L := [xf 13 104, xi kk, xun, xun, xun, xun]) (st := []) (h := h) (inl := []) (n' := 200) (sp := [174]) (o := [1, 1, 1, 1, 0, 1]) rfl rfl ⟨rfl, rfl, rfl⟩ rfl ⟨Nat.le_of_eq hg.2.2.2.1, Nat.le_of_eq hg.2.2.2.2⟩ ⟨⟨⟨⟨⟨⟨⟨⟨⟨⟨⟨⟨⟨⟨⟨⟨⟨⟨⟨⟨⟨⟨trivial, (vnn hg.1 (rfl : vRf 104 41 = [126]) (by decide))⟩, (vp_of (i := kk) (n := 128) (by omega) (by omega))⟩, (show ¬ (xI h (xR h 104 41) (kk).toNatClampNeg) = 0 from by rw [vref hg.1 (rfl : vRf 104 41 = [126])]; exact fun z => absurd (congrArg Int32.toInt z) (by omega))⟩, (vnn hg.1 (rfl : vRf 104 41 = [126]) (by decide))⟩, (vp_of (i := kk) (n := 128) (by omega) (by omega))⟩, (show ¬ (xI h (xR h 104 41) (kk).toNatClampNeg) = (Int32.ofInt (1)) from by rw [vref hg.1 (rfl : vRf 104 41 = [126])]; exact fun z => absurd (congrArg Int32.toInt z) (by omega))⟩, (vnn hg.1 (rfl : vRf 104 53 = [132]) (by decide))⟩, (vnn hg.1 (rfl : vRf 104 42 = [127]) (by decide))⟩, (vp_of (i := kk) (n := 128) (by omega) (by omega))⟩, (show vp_in ((xI h (xR h 104 42) (kk).toNatClampNeg)) (64) from (by rw [vref hg.1 (rfl : vRf 104 42 = [127])]; exact (vp_of (i := (xI h 127 (kk).toNatClampNeg)) (n := 64) (by omega) (by omega) : vp_in ((xI h 127 (kk).toNatClampNeg)) (64))))⟩, (vnn hg.1 (rfl : vRf 104 41 = [126]) (by decide))⟩, (vp_of (i := kk) (n := 128) (by omega) (by omega))⟩, (show ¬ (xI h (xR h 104 41) (kk).toNatClampNeg) = (Int32.ofInt (2)) from by rw [vref hg.1 (rfl : vRf 104 41 = [126])]; exact fun z => absurd (congrArg Int32.toInt z) (by omega))⟩, (vnn hg.1 (rfl : vRf 104 53 = [132]) (by decide))⟩, (vnn hg.1 (rfl : vRf 104 43 = [128]) (by decide))⟩, (vp_of (i := kk) (n := 128) (by omega) (by omega))⟩, (show vp_in ((xI h (xR h 104 43) (kk).toNatClampNeg)) (64) from (by rw [vref hg.1 (rfl : vRf 104 43 = [128])]; exact (vp_of (i := (xI h 128 (kk).toNatClampNeg)) (n := 64) (by omega) (by omega) : vp_in ((xI h 128 (kk).toNatClampNeg)) (64))))⟩, (vnn hg.1 (rfl : vRf 104 41 = [126]) (by decide))⟩, (vp_of (i := kk) (n := 128) (by omega) (by omega))⟩, ⟨(by rw [vref hg.1 (rfl : vRf 104 41 = [126])]; exact jc), by decide⟩⟩, cb1⟩, cb3⟩
      rw [vref hg.1 (rfl : vRf 104 53 = [132]), vref hg.1 (rfl : vRf 104 42 = [127]), vref hg.1 (rfl : vRf 104 43 = [128])] at t4
      refine ⟨_, _, CX_ofT (h' := h) (by decide) rfl rfl trivial ⟨_, _, _, rfl, rfl, rfl⟩ rfl ⟨Nat.le_of_eq hg.2.2.2.1.symm, Nat.le_of_eq hg.2.2.2.2.symm⟩ t4, mV.rf hg, fun z => ?_, fun z => z⟩
      have y1 := (ha z).1
      have y2 := (hb z).1
      rw [z]
      exact zvv_f (by rw [← y1, ← y2]; omega)
    · have el_0 : (Int64.ofInt (0)).toInt = 0 := rfl
      have cb3r := cb3
      rw [vref hg.1 (rfl : vRf 104 53 = [132]), vref hg.1 (rfl : vRf 104 43 = [128])] at cb3r
      have dcb3 : ¬ (xL h 132 ((xI h 128 (kk).toNatClampNeg)).toNatClampNeg).toInt = (Int64.ofInt (0)).toInt := fun z_ => cb3r (lgi_eq.mpr z_)
      have t5 : XT l 1 30 false 226 153 6051 0 [xf 13 104, xi kk, xun, xun, xun, xun] [] h 174 [xf 13 104, xi kk, xl (xL h (xR h 104 53) ((xI h (xR h 104 42) (kk).toNatClampNeg)).toNatClampNeg), xun, xl (xL h (xR h 104 53) ((xI h (xR h 104 43) (kk).toNatClampNeg)).toNatClampNeg), xun] [xl (Int64.ofInt (1))] h := XT_path (l := l) (fr := 1) (lo := 30) (full := false) (M := 226) (n := 153) (u := 6051) (pc := 0) (L := [xf 13 104, xi kk, xun, xun, xun, xun]) (st := []) (h := h) (inl := []) (n' := 200) (sp := [174]) (o := [1, 1, 1, 1, 0, 0]) rfl rfl ⟨rfl, rfl, rfl⟩ rfl ⟨Nat.le_of_eq hg.2.2.2.1, Nat.le_of_eq hg.2.2.2.2⟩ ⟨⟨⟨⟨⟨⟨⟨⟨⟨⟨⟨⟨⟨⟨⟨⟨⟨⟨⟨⟨⟨⟨trivial, (vnn hg.1 (rfl : vRf 104 41 = [126]) (by decide))⟩, (vp_of (i := kk) (n := 128) (by omega) (by omega))⟩, (show ¬ (xI h (xR h 104 41) (kk).toNatClampNeg) = 0 from by rw [vref hg.1 (rfl : vRf 104 41 = [126])]; exact fun z => absurd (congrArg Int32.toInt z) (by omega))⟩, (vnn hg.1 (rfl : vRf 104 41 = [126]) (by decide))⟩, (vp_of (i := kk) (n := 128) (by omega) (by omega))⟩, (show ¬ (xI h (xR h 104 41) (kk).toNatClampNeg) = (Int32.ofInt (1)) from by rw [vref hg.1 (rfl : vRf 104 41 = [126])]; exact fun z => absurd (congrArg Int32.toInt z) (by omega))⟩, (vnn hg.1 (rfl : vRf 104 53 = [132]) (by decide))⟩, (vnn hg.1 (rfl : vRf 104 42 = [127]) (by decide))⟩, (vp_of (i := kk) (n := 128) (by omega) (by omega))⟩, (show vp_in ((xI h (xR h 104 42) (kk).toNatClampNeg)) (64) from (by rw [vref hg.1 (rfl : vRf 104 42 = [127])]; exact (vp_of (i := (xI h 127 (kk).toNatClampNeg)) (n := 64) (by omega) (by omega) : vp_in ((xI h 127 (kk).toNatClampNeg)) (64))))⟩, (vnn hg.1 (rfl : vRf 104 41 = [126]) (by decide))⟩, (vp_of (i := kk) (n := 128) (by omega) (by omega))⟩, (show ¬ (xI h (xR h 104 41) (kk).toNatClampNeg) = (Int32.ofInt (2)) from by rw [vref hg.1 (rfl : vRf 104 41 = [126])]; exact fun z => absurd (congrArg Int32.toInt z) (by omega))⟩, (vnn hg.1 (rfl : vRf 104 53 = [132]) (by decide))⟩, (vnn hg.1 (rfl : vRf 104 43 = [128]) (by decide))⟩, (vp_of (i := kk) (n := 128) (by omega) (by omega))⟩, (show vp_in ((xI h (xR h 104 43) (kk).toNatClampNeg)) (64) from (by rw [vref hg.1 (rfl : vRf 104 43 = [128])]; exact (vp_of (i := (xI h 128 (kk).toNatClampNeg)) (n := 64) (by omega) (by omega) : vp_in ((xI h 128 (kk).toNatClampNeg)) (64))))⟩, (vnn hg.1 (rfl : vRf 104 41 = [126]) (by decide))⟩, (vp_of (i := kk) (n := 128) (by omega) (by omega))⟩, ⟨(by rw [vref hg.1 (rfl : vRf 104 41 = [126])]; exact jc), by decide⟩⟩, cb1⟩, cb3⟩
      rw [vref hg.1 (rfl : vRf 104 53 = [132]), vref hg.1 (rfl : vRf 104 42 = [127]), vref hg.1 (rfl : vRf 104 43 = [128])] at t5
      refine ⟨_, _, CX_ofT (h' := h) (by decide) rfl rfl trivial ⟨_, _, _, rfl, rfl, rfl⟩ rfl ⟨Nat.le_of_eq hg.2.2.2.1.symm, Nat.le_of_eq hg.2.2.2.2.symm⟩ t5, mV.rf hg, fun z => ?_, fun z => z⟩
      have y1 := (ha z).1
      have y2 := (hb z).1
      rw [z]
      exact zvv_t (by rw [← y1, ← y2]; omega)
set_option maxRecDepth 100000 in
set_option maxHeartbeats 4000000 in
theorem jk_bin30 (l : Launch) (Z V : Nat → Int) (kk : Int32) (i a c : Nat) (h : XH) (hg : mI h) (hk : kk.toInt = i) (hi : i < 64) (ek : (xI h 126 kk.toNatClampNeg).toInt = jkn (Z (300 + i))) (ep : (xI h 127 kk.toNatClampNeg).toInt = Z (500 + i)) (eo : (xI h 128 kk.toNatClampNeg).toInt = Z (600 + i)) (eo_ : Z (300 + i) = 30) (ea : Z (500 + i) = a) (ec : Z (600 + i) = c) (la : a < i) (lc : c < i) (hva : xI h 104 54 = 0 → (xL h 132 a).toInt = V a ∧ zM (xL h 132 a)) (hvc : xI h 104 54 = 0 → (xL h 132 c).toInt = V c ∧ zM (xL h 132 c)) : ∃ v h', CX l 1 30 false 226 [xf 13 104, xi kk] h [xl v] h' ∧ mV h h' ∧ (xI h 104 54 = 0 → zvv (some (if ¬ V a = 0 ∨ ¬ V c = 0 then 1 else 0)) v (xI h' 104 54)) ∧ (¬ xI h 104 54 = 0 → ¬ xI h' 104 54 = 0) := by
  have jc : (xI h 126 kk.toNatClampNeg).toInt = 4 := by rw [ek, eo_]; rfl
  have e_1 : ((Int32.ofInt (1))).toInt = 1 := rfl
  have e_2 : ((Int32.ofInt (2))).toInt = 2 := rfl
  have ez : (0 : Int32).toInt = 0 := rfl
  have na : ((xI h 127 kk.toNatClampNeg)).toNatClampNeg = a := by show (xI h 127 kk.toNatClampNeg).toInt.toNat = _; rw [ep, ea]; rfl
  have nc : ((xI h 128 kk.toNatClampNeg)).toNatClampNeg = c := by show (xI h 128 kk.toNatClampNeg).toInt.toNat = _; rw [eo, ec]; rfl
  have ez6 : (Int64.ofInt (0)).toInt = 0 := rfl
  have ez7 : (0 : Int64).toInt = 0 := rfl
  have o1 : ¬ (Int32.ofInt (1)) = (0 : Int32) := by decide
  have o0 : (Int32.ofInt (0)) = (0 : Int32) := rfl
  have ha : xI h 104 54 = 0 → (xL h 132 ((xI h 127 kk.toNatClampNeg)).toNatClampNeg).toInt = V a ∧ zM (xL h 132 ((xI h 127 kk.toNatClampNeg)).toNatClampNeg) := fun z => by rw [na]; exact hva z
  have hb : xI h 104 54 = 0 → (xL h 132 ((xI h 128 kk.toNatClampNeg)).toNatClampNeg).toInt = V c ∧ zM (xL h 132 ((xI h 128 kk.toNatClampNeg)).toNatClampNeg) := fun z => by rw [nc]; exact hvc z
  by_cases cb1 : (lg_cmp (xL h (xR h 104 53) ((xI h (xR h 104 42) (kk).toNatClampNeg)).toNatClampNeg) (Int64.ofInt (0))) = 0
  · have el_0 : (Int64.ofInt (0)).toInt = 0 := rfl
    have cb1r := cb1
    rw [vref hg.1 (rfl : vRf 104 53 = [132]), vref hg.1 (rfl : vRf 104 42 = [127])] at cb1r
    have dcb1 : (xL h 132 ((xI h 127 (kk).toNatClampNeg)).toNatClampNeg).toInt = (Int64.ofInt (0)).toInt := lgi_eq.mp cb1r
    by_cases cb2 : (lg_cmp (xL h (xR h 104 53) ((xI h (xR h 104 43) (kk).toNatClampNeg)).toNatClampNeg) (Int64.ofInt (0))) = 0
    · have el_0 : (Int64.ofInt (0)).toInt = 0 := rfl
      have cb2r := cb2
      rw [vref hg.1 (rfl : vRf 104 53 = [132]), vref hg.1 (rfl : vRf 104 43 = [128])] at cb2r
      have dcb2 : (xL h 132 ((xI h 128 (kk).toNatClampNeg)).toNatClampNeg).toInt = (Int64.ofInt (0)).toInt := lgi_eq.mp cb2r
      have t3 : XT l 1 30 false 226 153 6051 0 [xf 13 104, xi kk, xun, xun, xun, xun] [] h 193 [xf 13 104, xi kk, xl (xL h (xR h 104 53) ((xI h (xR h 104 42) (kk).toNatClampNeg)).toNatClampNeg), xun, xl (xL h (xR h 104 53) ((xI h (xR h 104 43) (kk).toNatClampNeg)).toNatClampNeg), xun] [xl (Int64.ofInt (0))] h := XT_path (l := l) (fr := 1) (lo := 30) (full := false) (M := 226) (n := 153) (u := 6051) (pc := 0) (L := [xf 13 104, xi kk, xun, xun, xun, xun]) (st := []) (h := h) (inl := []) (n' := 200) (sp := [193]) (o := [1, 1, 1, 2, 0, 1]) rfl rfl ⟨rfl, rfl, rfl⟩ rfl ⟨Nat.le_of_eq hg.2.2.2.1, Nat.le_of_eq hg.2.2.2.2⟩ ⟨⟨⟨⟨⟨⟨⟨⟨⟨⟨⟨⟨⟨⟨⟨⟨⟨⟨⟨⟨⟨⟨trivial, (vnn hg.1 (rfl : vRf 104 41 = [126]) (by decide))⟩, (vp_of (i := kk) (n := 128) (by omega) (by omega))⟩, (show ¬ (xI h (xR h 104 41) (kk).toNatClampNeg) = 0 from by rw [vref hg.1 (rfl : vRf 104 41 = [126])]; exact fun z => absurd (congrArg Int32.toInt z) (by omega))⟩, (vnn hg.1 (rfl : vRf 104 41 = [126]) (by decide))⟩, (vp_of (i := kk) (n := 128) (by omega) (by omega))⟩, (show ¬ (xI h (xR h 104 41) (kk).toNatClampNeg) = (Int32.ofInt (1)) from by rw [vref hg.1 (rfl : vRf 104 41 = [126])]; exact fun z => absurd (congrArg Int32.toInt z) (by omega))⟩, (vnn hg.1 (rfl : vRf 104 53 = [132]) (by decide))⟩, (vnn hg.1 (rfl : vRf 104 42 = [127]) (by decide))⟩, (vp_of (i := kk) (n := 128) (by omega) (by omega))⟩, (show vp_in ((xI h (xR h 104 42) (kk).toNatClampNeg)) (64) from (by rw [vref hg.1 (rfl : vRf 104 42 = [127])]; exact (vp_of (i := (xI h 127 (kk).toNatClampNeg)) (n := 64) (by omega) (by omega) : vp_in ((xI h 127 (kk).toNatClampNeg)) (64))))⟩, (vnn hg.1 (rfl : vRf 104 41 = [126]) (by decide))⟩, (vp_of (i := kk) (n := 128) (by omega) (by omega))⟩, (show ¬ (xI h (xR h 104 41) (kk).toNatClampNeg) = (Int32.ofInt (2)) from by rw [vref hg.1 (rfl : vRf 104 41 = [126])]; exact fun z => absurd (congrArg Int32.toInt z) (by omega))⟩, (vnn hg.1 (rfl : vRf 104 53 = [132]) (by decide))⟩, (vnn hg.1 (rfl : vRf 104 43 = [128]) (by decide))⟩, (vp_of (i := kk) (n := 128) (by omega) (by omega))⟩, (show vp_in ((xI h (xR h 104 43) (kk).toNatClampNeg)) (64) from (by rw [vref hg.1 (rfl : vRf 104 43 = [128])]; exact (vp_of (i := (xI h 128 (kk).toNatClampNeg)) (n := 64) (by omega) (by omega) : vp_in ((xI h 128 (kk).toNatClampNeg)) (64))))⟩, (vnn hg.1 (rfl : vRf 104 41 = [126]) (by decide))⟩, (vp_of (i := kk) (n := 128) (by omega) (by omega))⟩, ⟨(by rw [vref hg.1 (rfl : vRf 104 41 = [126])]; exact jc), by decide⟩⟩, cb1⟩, cb2⟩
      rw [vref hg.1 (rfl : vRf 104 53 = [132]), vref hg.1 (rfl : vRf 104 42 = [127]), vref hg.1 (rfl : vRf 104 43 = [128])] at t3
      refine ⟨_, _, CX_ofT (h' := h) (by decide) rfl rfl trivial ⟨_, _, _, rfl, rfl, rfl⟩ rfl ⟨Nat.le_of_eq hg.2.2.2.1.symm, Nat.le_of_eq hg.2.2.2.2.symm⟩ t3, mV.rf hg, fun z => ?_, fun z => z⟩
      have y1 := (ha z).1
      have y2 := (hb z).1
      rw [z]
      exact zvv_f (by rw [← y1, ← y2]; omega)
    · have el_0 : (Int64.ofInt (0)).toInt = 0 := rfl
      have cb2r := cb2
      rw [vref hg.1 (rfl : vRf 104 53 = [132]), vref hg.1 (rfl : vRf 104 43 = [128])] at cb2r
      have dcb2 : ¬ (xL h 132 ((xI h 128 (kk).toNatClampNeg)).toNatClampNeg).toInt = (Int64.ofInt (0)).toInt := fun z_ => cb2r (lgi_eq.mpr z_)
      have t4 : XT l 1 30 false 226 153 6051 0 [xf 13 104, xi kk, xun, xun, xun, xun] [] h 193 [xf 13 104, xi kk, xl (xL h (xR h 104 53) ((xI h (xR h 104 42) (kk).toNatClampNeg)).toNatClampNeg), xun, xl (xL h (xR h 104 53) ((xI h (xR h 104 43) (kk).toNatClampNeg)).toNatClampNeg), xun] [xl (Int64.ofInt (1))] h := XT_path (l := l) (fr := 1) (lo := 30) (full := false) (M := 226) (n := 153) (u := 6051) (pc := 0) (L := [xf 13 104, xi kk, xun, xun, xun, xun]) (st := []) (h := h) (inl := []) (n' := 200) (sp := [193]) (o := [1, 1, 1, 2, 0, 0]) rfl rfl ⟨rfl, rfl, rfl⟩ rfl ⟨Nat.le_of_eq hg.2.2.2.1, Nat.le_of_eq hg.2.2.2.2⟩ ⟨⟨⟨⟨⟨⟨⟨⟨⟨⟨⟨⟨⟨⟨⟨⟨⟨⟨⟨⟨⟨⟨trivial, (vnn hg.1 (rfl : vRf 104 41 = [126]) (by decide))⟩, (vp_of (i := kk) (n := 128) (by omega) (by omega))⟩, (show ¬ (xI h (xR h 104 41) (kk).toNatClampNeg) = 0 from by rw [vref hg.1 (rfl : vRf 104 41 = [126])]; exact fun z => absurd (congrArg Int32.toInt z) (by omega))⟩, (vnn hg.1 (rfl : vRf 104 41 = [126]) (by decide))⟩, (vp_of (i := kk) (n := 128) (by omega) (by omega))⟩, (show ¬ (xI h (xR h 104 41) (kk).toNatClampNeg) = (Int32.ofInt (1)) from by rw [vref hg.1 (rfl : vRf 104 41 = [126])]; exact fun z => absurd (congrArg Int32.toInt z) (by omega))⟩, (vnn hg.1 (rfl : vRf 104 53 = [132]) (by decide))⟩, (vnn hg.1 (rfl : vRf 104 42 = [127]) (by decide))⟩, (vp_of (i := kk) (n := 128) (by omega) (by omega))⟩, (show vp_in ((xI h (xR h 104 42) (kk).toNatClampNeg)) (64) from (by rw [vref hg.1 (rfl : vRf 104 42 = [127])]; exact (vp_of (i := (xI h 127 (kk).toNatClampNeg)) (n := 64) (by omega) (by omega) : vp_in ((xI h 127 (kk).toNatClampNeg)) (64))))⟩, (vnn hg.1 (rfl : vRf 104 41 = [126]) (by decide))⟩, (vp_of (i := kk) (n := 128) (by omega) (by omega))⟩, (show ¬ (xI h (xR h 104 41) (kk).toNatClampNeg) = (Int32.ofInt (2)) from by rw [vref hg.1 (rfl : vRf 104 41 = [126])]; exact fun z => absurd (congrArg Int32.toInt z) (by omega))⟩, (vnn hg.1 (rfl : vRf 104 53 = [132]) (by decide))⟩, (vnn hg.1 (rfl : vRf 104 43 = [128]) (by decide))⟩, (vp_of (i := kk) (n := 128) (by omega) (by omega))⟩, (show vp_in ((xI h (xR h 104 43) (kk).toNatClampNeg)) (64) from (by rw [vref hg.1 (rfl : vRf 104 43 = [128])]; exact (vp_of (i := (xI h 128 (kk).toNatClampNeg)) (n := 64) (by omega) (by omega) : vp_in ((xI h 128 (kk).toNatClampNeg)) (64))))⟩, (vnn hg.1 (rfl : vRf 104 41 = [126]) (by decide))⟩, (vp_of (i := kk) (n := 128) (by omega) (by omega))⟩, ⟨(by rw [vref hg.1 (rfl : vRf 104 41 = [126])]; exact jc), by decide⟩⟩, cb1⟩, cb2⟩
      rw [vref hg.1 (rfl : vRf 104 53 = [132]), vref hg.1 (rfl : vRf 104 42 = [127]), vref hg.1 (rfl : vRf 104 43 = [128])] at t4
      refine ⟨_, _, CX_ofT (h' := h) (by decide) rfl rfl trivial ⟨_, _, _, rfl, rfl, rfl⟩ rfl ⟨Nat.le_of_eq hg.2.2.2.1.symm, Nat.le_of_eq hg.2.2.2.2.symm⟩ t4, mV.rf hg, fun z => ?_, fun z => z⟩
      have y1 := (ha z).1
      have y2 := (hb z).1
      rw [z]
      exact zvv_t (by rw [← y1, ← y2]; omega)
  · have el_0 : (Int64.ofInt (0)).toInt = 0 := rfl
    have cb1r := cb1
    rw [vref hg.1 (rfl : vRf 104 53 = [132]), vref hg.1 (rfl : vRf 104 42 = [127])] at cb1r
    have dcb1 : ¬ (xL h 132 ((xI h 127 (kk).toNatClampNeg)).toNatClampNeg).toInt = (Int64.ofInt (0)).toInt := fun z_ => cb1r (lgi_eq.mpr z_)
    have t5 : XT l 1 30 false 226 153 6051 0 [xf 13 104, xi kk, xun, xun, xun, xun] [] h 193 [xf 13 104, xi kk, xl (xL h (xR h 104 53) ((xI h (xR h 104 42) (kk).toNatClampNeg)).toNatClampNeg), xun, xl (xL h (xR h 104 53) ((xI h (xR h 104 43) (kk).toNatClampNeg)).toNatClampNeg), xun] [xl (Int64.ofInt (1))] h := XT_path (l := l) (fr := 1) (lo := 30) (full := false) (M := 226) (n := 153) (u := 6051) (pc := 0) (L := [xf 13 104, xi kk, xun, xun, xun, xun]) (st := []) (h := h) (inl := []) (n' := 200) (sp := [193]) (o := [1, 1, 1, 2, 1]) rfl rfl ⟨rfl, rfl, rfl⟩ rfl ⟨Nat.le_of_eq hg.2.2.2.1, Nat.le_of_eq hg.2.2.2.2⟩ ⟨⟨⟨⟨⟨⟨⟨⟨⟨⟨⟨⟨⟨⟨⟨⟨⟨⟨⟨⟨⟨trivial, (vnn hg.1 (rfl : vRf 104 41 = [126]) (by decide))⟩, (vp_of (i := kk) (n := 128) (by omega) (by omega))⟩, (show ¬ (xI h (xR h 104 41) (kk).toNatClampNeg) = 0 from by rw [vref hg.1 (rfl : vRf 104 41 = [126])]; exact fun z => absurd (congrArg Int32.toInt z) (by omega))⟩, (vnn hg.1 (rfl : vRf 104 41 = [126]) (by decide))⟩, (vp_of (i := kk) (n := 128) (by omega) (by omega))⟩, (show ¬ (xI h (xR h 104 41) (kk).toNatClampNeg) = (Int32.ofInt (1)) from by rw [vref hg.1 (rfl : vRf 104 41 = [126])]; exact fun z => absurd (congrArg Int32.toInt z) (by omega))⟩, (vnn hg.1 (rfl : vRf 104 53 = [132]) (by decide))⟩, (vnn hg.1 (rfl : vRf 104 42 = [127]) (by decide))⟩, (vp_of (i := kk) (n := 128) (by omega) (by omega))⟩, (show vp_in ((xI h (xR h 104 42) (kk).toNatClampNeg)) (64) from (by rw [vref hg.1 (rfl : vRf 104 42 = [127])]; exact (vp_of (i := (xI h 127 (kk).toNatClampNeg)) (n := 64) (by omega) (by omega) : vp_in ((xI h 127 (kk).toNatClampNeg)) (64))))⟩, (vnn hg.1 (rfl : vRf 104 41 = [126]) (by decide))⟩, (vp_of (i := kk) (n := 128) (by omega) (by omega))⟩, (show ¬ (xI h (xR h 104 41) (kk).toNatClampNeg) = (Int32.ofInt (2)) from by rw [vref hg.1 (rfl : vRf 104 41 = [126])]; exact fun z => absurd (congrArg Int32.toInt z) (by omega))⟩, (vnn hg.1 (rfl : vRf 104 53 = [132]) (by decide))⟩, (vnn hg.1 (rfl : vRf 104 43 = [128]) (by decide))⟩, (vp_of (i := kk) (n := 128) (by omega) (by omega))⟩, (show vp_in ((xI h (xR h 104 43) (kk).toNatClampNeg)) (64) from (by rw [vref hg.1 (rfl : vRf 104 43 = [128])]; exact (vp_of (i := (xI h 128 (kk).toNatClampNeg)) (n := 64) (by omega) (by omega) : vp_in ((xI h 128 (kk).toNatClampNeg)) (64))))⟩, (vnn hg.1 (rfl : vRf 104 41 = [126]) (by decide))⟩, (vp_of (i := kk) (n := 128) (by omega) (by omega))⟩, ⟨(by rw [vref hg.1 (rfl : vRf 104 41 = [126])]; exact jc), by decide⟩⟩, cb1⟩
    rw [vref hg.1 (rfl : vRf 104 53 = [132]), vref hg.1 (rfl : vRf 104 42 = [127]), vref hg.1 (rfl : vRf 104 43 = [128])] at t5
    refine ⟨_, _, CX_ofT (h' := h) (by decide) rfl rfl trivial ⟨_, _, _, rfl, rfl, rfl⟩ rfl ⟨Nat.le_of_eq hg.2.2.2.1.symm, Nat.le_of_eq hg.2.2.2.2.symm⟩ t5, mV.rf hg, fun z => ?_, fun z => z⟩
    have y1 := (ha z).1
    have y2 := (hb z).1
    rw [z]
    exact zvv_t (by rw [← y1, ← y2]; omega)
theorem zbin_o {c x y : Int} : zbin 13 x y = zbnd (x + y) ∧ zbin 14 x y = zbnd (x - y) ∧ zbin 15 x y = zbnd (x * y) ∧ zbin 16 x y = (if y = 0 then none else some (x.tdiv y)) ∧ zbin 7 x y = some (if x < y then 1 else 0) ∧ zbin 8 x y = some (if x ≤ y then 1 else 0) ∧ zbin 9 x y = some (if x = y then 1 else 0) ∧ zbin 10 x y = some (if ¬ x = y then 1 else 0) ∧ zbin 11 x y = some (if y ≤ x then 1 else 0) ∧ zbin 12 x y = some (if y < x then 1 else 0) ∧ zbin 31 x y = some (if ¬ x = 0 ∧ ¬ y = 0 then 1 else 0) ∧ zbin 30 x y = some (if ¬ x = 0 ∨ ¬ y = 0 then 1 else 0) := ⟨rfl, rfl, rfl, rfl, rfl, rfl, rfl, rfl, rfl, rfl, rfl, rfl⟩
theorem jk_value (l : Launch) (Z nm V : Nat → Int) (kk : Int32) (f i : Nat) (h : XH) (hg : mI h) (hk : kk.toInt = i) (hi : i < 64) (ek : (xI h 126 kk.toNatClampNeg).toInt = jkn (Z (300 + i))) (ep : (xI h 127 kk.toNatClampNeg).toInt = Z (500 + i)) (eo : (xI h 128 kk.toNatClampNeg).toInt = Z (600 + i)) (ks : zkp Z f i) (hn : ∀ j : Nat, j < 7 → (xL h 131 j).toInt = nm j ∧ zM (xL h 131 j)) (hv : xI h 104 54 = 0 → ∀ j, f ≤ j → j < i → (xL h 132 j).toInt = V j ∧ zM (xL h 132 j)) : ∃ v h', CX l 1 30 false 226 [xf 13 104, xi kk] h [xl v] h' ∧ mV h h' ∧ (xI h 104 54 = 0 → zvv (zop Z nm V i) v (xI h' 104 54)) ∧ (¬ xI h 104 54 = 0 → ¬ xI h' 104 54 = 0) := by
  rcases ks with (⟨c, e⟩ | ⟨c1, c2, e⟩) | ⟨c, a, a1, a2, ea⟩ | ⟨c, a, b, ⟨a1, a2⟩, ⟨b1, b2⟩, ea, eb⟩
  · obtain ⟨v, h', q1, q2, q3, q4⟩ := jk_val0 l Z nm V kk i h hg hk hi ek ep eo c
    exact ⟨v, h', CX_wide q1 (by decide) (by decide), q2, by rw [zop_2 c]; exact q3, q4⟩
  · obtain ⟨v, h', q1, q2, q3, q4⟩ := jk_val1 l Z nm V kk i h hg hk hi ek ep eo ⟨c1, c2⟩ e hn
    exact ⟨v, h', CX_wide q1 (by decide) (by decide), q2, by rw [zop_nm c1]; exact q3, q4⟩
  · obtain ⟨v, h', q1, q2, q3, q4⟩ := jk_val2 l Z nm V kk i a h hg hk hi ek ep eo c ea a2 (fun z => hv z a a1 a2)
    exact ⟨v, h', CX_wide q1 (by decide) (by decide), q2, by rw [zop_not c ea]; exact q3, q4⟩
  · rw [zop_bin c ea eb]
    have cc := c
    unfold zbo at cc
    rcases (by omega : Z (300 + i) = 13 ∨ Z (300 + i) = 14 ∨ Z (300 + i) = 15 ∨ Z (300 + i) = 16 ∨ Z (300 + i) = 7 ∨ Z (300 + i) = 8 ∨ Z (300 + i) = 9 ∨ Z (300 + i) = 10 ∨ Z (300 + i) = 11 ∨ Z (300 + i) = 12 ∨ Z (300 + i) = 31 ∨ Z (300 + i) = 30) with k | k | k | k | k | k | k | k | k | k | k | k
    · rw [k]
      exact jk_bin13 l Z V kk i a b h hg hk hi ek ep eo k ea eb a2 b2 (fun z => hv z a a1 a2) (fun z => hv z b b1 b2)
    · rw [k]
      exact jk_bin14 l Z V kk i a b h hg hk hi ek ep eo k ea eb a2 b2 (fun z => hv z a a1 a2) (fun z => hv z b b1 b2)
    · rw [k]
      exact jk_bin15 l Z V kk i a b h hg hk hi ek ep eo k ea eb a2 b2 (fun z => hv z a a1 a2) (fun z => hv z b b1 b2)
    · rw [k]
      exact jk_bin16 l Z V kk i a b h hg hk hi ek ep eo k ea eb a2 b2 (fun z => hv z a a1 a2) (fun z => hv z b b1 b2)
    · rw [k]
      exact jk_bin7 l Z V kk i a b h hg hk hi ek ep eo k ea eb a2 b2 (fun z => hv z a a1 a2) (fun z => hv z b b1 b2)
    · rw [k]
      exact jk_bin8 l Z V kk i a b h hg hk hi ek ep eo k ea eb a2 b2 (fun z => hv z a a1 a2) (fun z => hv z b b1 b2)
    · rw [k]
      exact jk_bin9 l Z V kk i a b h hg hk hi ek ep eo k ea eb a2 b2 (fun z => hv z a a1 a2) (fun z => hv z b b1 b2)
    · rw [k]
      exact jk_bin10 l Z V kk i a b h hg hk hi ek ep eo k ea eb a2 b2 (fun z => hv z a a1 a2) (fun z => hv z b b1 b2)
    · rw [k]
      exact jk_bin11 l Z V kk i a b h hg hk hi ek ep eo k ea eb a2 b2 (fun z => hv z a a1 a2) (fun z => hv z b b1 b2)
    · rw [k]
      exact jk_bin12 l Z V kk i a b h hg hk hi ek ep eo k ea eb a2 b2 (fun z => hv z a a1 a2) (fun z => hv z b b1 b2)
    · rw [k]
      exact jk_bin31 l Z V kk i a b h hg hk hi ek ep eo k ea eb a2 b2 (fun z => hv z a a1 a2) (fun z => hv z b b1 b2)
    · rw [k]
      exact jk_bin30 l Z V kk i a b h hg hk hi ek ep eo k ea eb a2 b2 (fun z => hv z a a1 a2) (fun z => hv z b b1 b2)
theorem zkp_of {Z : Nat → Int} {f i : Nat} : ∀ {m : Nat} {l : List Nat}, zrn Z f m l → f ≤ i → i < f + m → zkp Z f i
  | 0, _, _, a, b => by omega
  | m + 1, l, ⟨l0, x, y⟩, a, b => by
    by_cases e : i = f + m
    · subst e
      have bd := zrn_b x
      rcases y with ⟨y, -⟩ | ⟨y, a1, t, rfl, e1, -⟩ | ⟨y, a1, c1, t, rfl, e1, e2, -⟩
      · exact Or.inl y
      · have z := bd.2 a1 List.mem_cons_self
        exact Or.inr (Or.inl ⟨y, a1, z.1, z.2, e1⟩)
      · have z := bd.2 c1 List.mem_cons_self
        have z2 := bd.2 a1 (List.mem_cons_of_mem _ List.mem_cons_self)
        exact Or.inr (Or.inr ⟨y, a1, c1, z2, z, e1, e2⟩)
    · exact zkp_of x a (by omega)
/-- but for the mark of an error and the values all is as it was -/
def mE (h h' : XH) : Prop := mI h' ∧ (∀ c k, ¬ (c = 104 ∧ k = 54) → xI h' c k = xI h c k) ∧ (∀ c k, xR h' c k = xR h c k) ∧ (∀ c k, ¬ c = 132 → xL h' c k = xL h c k)
theorem mE.rf {h : XH} (g : mI h) : mE h h := ⟨g, fun _ _ _ => rfl, fun _ _ => rfl, fun _ _ _ => rfl⟩
theorem mE.tr {a b c : XH} (x : mE a b) (y : mE b c) : mE a c := ⟨y.1, fun c k z => (y.2.1 c k z).trans (x.2.1 c k z), fun c k => (y.2.2.1 c k).trans (x.2.2.1 c k), fun c k z => (y.2.2.2 c k z).trans (x.2.2.2 c k z)⟩
theorem mV.e {a b : XH} (x : mV a b) : mE a b := ⟨x.1, x.2.1, x.2.2.1, fun c k _ => x.2.2.2 c k⟩
theorem mE.setL {h : XH} {k : Nat} {v : Int64} (g : mI h) : mE h (xsetL h 132 k v) := ⟨⟨⟨g.1.1, g.1.2⟩, trivial, trivial, g.2.2.2⟩, fun _ _ _ => rfl, fun _ _ => rfl, fun c j e => yL_ne (eq_false (fun z => e z.1))⟩
/-- the values so far -/
def zvs (V : Nat → Int) (f i : Nat) (h : XH) : Prop := ∀ j : Nat, f ≤ j → j < i → (xL h 132 j).toInt = V j ∧ zM (xL h 132 j)
def zgf (Z nm : Nat → Int) (f m i : Nat) (tg : Option (Nat → Int)) (h : XH) : Prop := (xI h 104 54 = 0 ∧ ∃ V, zvs V f i h ∧ tg = zlw Z nm m i V) ∨ (¬ xI h 104 54 = 0 ∧ tg = none)
theorem zlw_s1 {Z nm V : Nat → Int} {m i : Nat} {x : Int} (h : zop Z nm V i = some x) : zlw Z nm (m + 1) i V = zlw Z nm m (i + 1) (zs V i x) := by
  show (match zop Z nm V i with | none => none | some v => zlw Z nm m (i + 1) (zs V i v)) = _
  rw [h]
theorem zlw_n1 {Z nm V : Nat → Int} {m i : Nat} (h : zop Z nm V i = none) : zlw Z nm (m + 1) i V = none := by
  show (match zop Z nm V i with | none => none | some v => zlw Z nm m (i + 1) (zs V i v)) = _
  rw [h]
theorem zgf_s {Z nm : Nat → Int} {f m i : Nat} {tg : Option (Nat → Int)} {h h1 : XH} {v : Int64} {V : Nat → Int} (fi : f ≤ i) (e0 : xI h 104 54 = 0) (vs : zvs V f i h) (et : tg = zlw Z nm (m + 1) i V) (g : mV h h1) (zv : zvv (zop Z nm V i) v (xI h1 104 54)) : zgf Z nm f m (i + 1) tg (xsetL h1 132 i v) := by
  cases hz : zop Z nm V i with
  | none =>
    rw [hz] at zv
    exact Or.inr ⟨zv, by rw [et, zlw_n1 hz]⟩
  | some x =>
    rw [hz] at zv
    obtain ⟨z1, z2, z3⟩ : xI h1 104 54 = 0 ∧ v.toInt = x ∧ zM v := zv
    refine Or.inl ⟨z1, zs V i x, fun j j1 j2 => ?_, by rw [et, zlw_s1 hz]⟩
    by_cases e : j = i
    · subst e
      rw [yL_same, zs_same]
      exact ⟨z2, z3⟩
    · rw [yL_ne (eq_false (fun z => e z.2)), zs_ne e, g.2.2.2]
      exact vs j j1 (by omega)
theorem zgf_n {Z nm : Nat → Int} {f m i : Nat} {tg : Option (Nat → Int)} {h1 : XH} {v : Int64} (e1 : ¬ xI h1 104 54 = 0) (et : tg = none) : zgf Z nm f m (i + 1) tg (xsetL h1 132 i v) := Or.inr ⟨e1, et⟩
set_option maxRecDepth 100000 in
set_option maxHeartbeats 4000000 in
theorem jk_lawL (l : Launch) (Z nm : Nat → Int) (w : Int32) (f T : Nat) (tg : Option (Nat → Int)) (h : XH) (hg : mI h) (w2 : 0 ≤ w.toInt ∧ w.toInt ≤ 2) (hT : T ≤ 64) (HT : zrn Z f (T - f) [T - 1]) (eT : (xI h 125 w.toNatClampNeg).toInt = T) (kj : (∀ j : Nat, j < T → (xI h 126 j).toInt = jkn (Z (300 + j)) ∧ (xI h 127 j).toInt = Z (500 + j) ∧ (xI h 128 j).toInt = Z (600 + j))) (hn : ∀ j : Nat, j < 7 → (xL h 131 j).toInt = nm j ∧ zM (xL h 131 j)) : ∀ (m i : Nat) (ii : Int32) (h1 : XH), mE h h1 → ii.toInt = i → i + m = T → f ≤ i → zgf Z nm f m i tg h1 → ∃ i2 h2, XT l 2 60 false 225 153 6051 12 [xf 13 104, xi w, xi ii] [] h1 39 [xf 13 104, xi w, xi i2] [] h2 ∧ mE h h2 ∧ zgf Z nm f 0 T tg h2
  | 0, i, ii, h1, G, ei, em, ef, go => by
    have eT1 : (xI h1 125 w.toNatClampNeg).toInt = T := by rw [G.2.1 125 _ (by omega)]; exact eT
    have hg1 := G.1
    have t1 : XT l 2 60 false 225 153 6051 12 [xf 13 104, xi w, xi ii] [] h1 39 [xf 13 104, xi w, xi ii] [] h1 := XT_path (l := l) (fr := 2) (lo := 60) (full := false) (M := 225) (n := 153) (u := 6051) (pc := 12) (L := [xf 13 104, xi w, xi ii]) (st := []) (h := h1) (inl := []) (n' := 80) (sp := [39]) (o := [1]) rfl rfl ⟨rfl, rfl, rfl⟩ rfl ⟨Nat.le_of_eq hg1.2.2.2.1, Nat.le_of_eq hg1.2.2.2.2⟩ ⟨⟨⟨trivial, (vnn hg1.1 (rfl : vRf 104 40 = [125]) (by decide))⟩, (vp_of (i := w) (n := 6) (by omega) (by omega))⟩, (show (xI h1 (xR h1 104 40) (w).toNatClampNeg) ≤ ii from by rw [vref hg1.1 (rfl : vRf 104 40 = [125])]; exact Int32.le_iff_toInt_le.mpr (by omega))⟩
    obtain rfl : i = T := by omega
    exact ⟨ii, h1, t1, G, go⟩
  | m + 1, i, ii, h1, G, ei, em, ef, go => by
    have eT1 : (xI h1 125 w.toNatClampNeg).toInt = T := by rw [G.2.1 125 _ (by omega)]; exact eT
    have hg1 := G.1
    have sk1 := y_suc1 (k := ii) (by omega) (by omega)
    have nii : ii.toNatClampNeg = i := by show ii.toInt.toNat = i; omega
    obtain ⟨k1, k2, k3⟩ := kj i (by omega)
    have ks := zkp_of HT ef (by omega)
    have t1 : XT l 2 60 false 225 153 6051 12 [xf 13 104, xi w, xi ii] [] h1 29 [xf 13 104, xi w, xi ii] [xi ii, xf 13 104, xi ii, xf 40064 (xR h1 104 53)] h1 := XT_path (l := l) (fr := 2) (lo := 60) (full := false) (M := 225) (n := 153) (u := 6051) (pc := 12) (L := [xf 13 104, xi w, xi ii]) (st := []) (h := h1) (inl := []) (n' := 80) (sp := [29]) (o := [0]) rfl rfl ⟨rfl, rfl, rfl⟩ rfl ⟨Nat.le_of_eq hg1.2.2.2.1, Nat.le_of_eq hg1.2.2.2.2⟩ ⟨⟨⟨⟨trivial, (vnn hg1.1 (rfl : vRf 104 40 = [125]) (by decide))⟩, (vp_of (i := w) (n := 6) (by omega) (by omega))⟩, (show ¬ (xI h1 (xR h1 104 40) (w).toNatClampNeg) ≤ ii from by rw [vref hg1.1 (rfl : vRf 104 40 = [125])]; exact fun z => absurd (Int32.le_iff_toInt_le.mp z) (by omega))⟩, (vnn hg1.1 (rfl : vRf 104 53 = [132]) (by decide))⟩
    rw [vref hg1.1 (rfl : vRf 104 53 = [132])] at t1
    have hn1 : ∀ j : Nat, j < 7 → (xL h1 131 j).toInt = nm j ∧ zM (xL h1 131 j) := fun j hj => by rw [G.2.2.2 131 j (by decide)]; exact hn j hj
    have q1 : (xI h1 126 ii.toNatClampNeg).toInt = jkn (Z (300 + i)) := by rw [nii, G.2.1 126 _ (by omega)]; exact k1
    have q2 : (xI h1 127 ii.toNatClampNeg).toInt = Z (500 + i) := by rw [nii, G.2.1 127 _ (by omega)]; exact k2
    have q3 : (xI h1 128 ii.toNatClampNeg).toInt = Z (600 + i) := by rw [nii, G.2.1 128 _ (by omega)]; exact k3
    obtain ⟨V, hV⟩ : ∃ V : Nat → Int, (xI h1 104 54 = 0 ∧ zvs V f i h1 ∧ tg = zlw Z nm (m + 1) i V) ∨ (¬ xI h1 104 54 = 0 ∧ tg = none) := by
      rcases go with ⟨y1, V, y2, y3⟩ | ⟨y1, y2⟩
      · exact ⟨V, Or.inl ⟨y1, y2, y3⟩⟩
      · exact ⟨fun _ => 0, Or.inr ⟨y1, y2⟩⟩
    obtain ⟨v, h2, c1, g1, z1, z2⟩ := jk_value l Z nm V ii f i h1 hg1 ei (by omega) q1 q2 q3 ks hn1 (fun z => by rcases hV with ⟨-, y, -⟩ | ⟨y, -⟩; exact y; exact absurd z y)
    have t2 : XT l 2 60 false 225 153 6051 29 [xf 13 104, xi w, xi ii] [xi ii, xf 13 104, xi ii, xf 40064 132] h1 32 [xf 13 104, xi w, xi ii] [xl v, xi ii, xf 40064 132] h2 := XT_call (l := l) (fr := 2) (lo := 60) (full := false) (M := 225) (n := 153) (u := 6051) (pc := 29) (L := [xf 13 104, xi w, xi ii]) (st := [xi ii, xf 13 104, xi ii, xf 40064 132]) (h := h1) (i := .invokevirtual 226) (aux := 2) (nx := 32) (K := 226) (vs := [xf 13 104, xi ii]) (rs := [xl v]) (rest := [xi ii, xf 40064 132]) rfl rfl rfl rfl rfl rfl c1 (by decide) (by decide) (Nat.le_of_ble_eq_true rfl) ⟨Nat.le_of_eq g1.1.2.2.2.1, Nat.le_of_eq g1.1.2.2.2.2⟩
    have t3 := t1.tr t2
    have t4 : XT l 2 60 false 225 153 6051 32 [xf 13 104, xi w, xi ii] [xl v, xi ii, xf 40064 132] h2 12 [xf 13 104, xi w, xi (ii + Int32.ofInt (1))] [] (xsetL h2 132 (ii).toNatClampNeg v) := XT_path (l := l) (fr := 2) (lo := 60) (full := false) (M := 225) (n := 153) (u := 6051) (pc := 32) (L := [xf 13 104, xi w, xi ii]) (st := [xl v, xi ii, xf 40064 132]) (h := h2) (inl := []) (n' := 80) (sp := [12]) (o := []) rfl rfl ⟨rfl, rfl, rfl⟩ rfl ⟨Nat.le_of_eq g1.1.2.2.2.1, Nat.le_of_eq g1.1.2.2.2.2⟩ ⟨trivial, (vp_of (i := ii) (n := 64) (by omega) (by omega))⟩
    have t5 := t3.tr t4
    have G2 : mE h (xsetL h2 132 (ii).toNatClampNeg v) := (G.tr g1.e).tr (mE.setL g1.1)
    have go2 : zgf Z nm f m (i + 1) tg (xsetL h2 132 (ii).toNatClampNeg v) := by
      rw [nii]
      rcases hV with ⟨y1, y2, y3⟩ | ⟨y1, y2⟩
      · exact zgf_s ef y1 y2 y3 g1 (z1 y1)
      · exact zgf_n (z2 y1) y2
    obtain ⟨i2, h3, t2, G3, go3⟩ := jk_lawL l Z nm w f T tg h hg w2 hT HT eT kj hn m (i + 1) (ii + (Int32.ofInt (1))) (xsetL h2 132 (ii).toNatClampNeg v) G2 (by omega) (by omega) (by omega) go2
    exact ⟨i2, h3, t5.tr t2, G3, go3⟩
set_option maxRecDepth 100000 in
set_option maxHeartbeats 4000000 in
theorem jk_lawOf (l : Launch) (Z nm : Nat → Int) (w : Int32) (h : XH) (hg : mI h) (LW : zLW Z) (w2 : 0 ≤ w.toInt ∧ w.toInt ≤ 2) (z10 : Z 10 ≤ 64) (kt : (xI h 123 w.toNatClampNeg).toInt = (if Z (240 + w.toInt.toNat) < Z (250 + w.toInt.toNat) then 1 else 0) ∧ (Z (240 + w.toInt.toNat) < Z (250 + w.toInt.toNat) → (xI h 124 w.toNatClampNeg).toInt = Z (240 + w.toInt.toNat) ∧ (xI h 125 w.toNatClampNeg).toInt = Z (250 + w.toInt.toNat))) (kj : ∀ j : Nat, (j : Int) < Z 10 → (xI h 126 j).toInt = jkn (Z (300 + j)) ∧ (xI h 127 j).toInt = Z (500 + j) ∧ (xI h 128 j).toInt = Z (600 + j)) (hn : ∀ j : Nat, j < 7 → (xL h 131 j).toInt = nm j ∧ zM (xL h 131 j)) (tl : Z (240 + w.toInt.toNat) < Z (250 + w.toInt.toNat)) : ∃ v h', CX l 2 60 false 225 [xf 13 104, xi w] h [xl v] h' ∧ mE h h' ∧ ((¬ xI h' 104 54 = 0 ∧ zL Z nm w.toInt.toNat = none) ∨ (xI h' 104 54 = 0 ∧ zL Z nm w.toInt.toNat = some v.toInt)) := by
  obtain ⟨a1, a2, a3⟩ := LW w.toInt.toNat (by omega) tl
  obtain ⟨tw1, tw2⟩ := kt.2 tl
  obtain ⟨f, hf⟩ : ∃ f : Nat, Z (240 + w.toInt.toNat) = f := ⟨(Z (240 + w.toInt.toNat)).toNat, by omega⟩
  obtain ⟨T, hT⟩ : ∃ T : Nat, Z (250 + w.toInt.toNat) = T := ⟨(Z (250 + w.toInt.toNat)).toNat, by omega⟩
  have eL : zL Z nm w.toInt.toNat = (match zlw Z nm (T - f) f (fun _ => 0) with | none => none | some V => some (V (T - 1))) := by unfold zL; rw [if_pos tl, hf, hT]; rfl
  rw [hf, hT] at a3
  rw [hf] at tw1
  rw [hT] at tw2 a2
  rw [hf, hT] at tl
  have a3 : zrn Z f (T - f) [T - 1] := a3
  have t1 : XT l 2 60 false 225 153 6051 0 [xf 13 104, xi w, xun] [] h 12 [xf 13 104, xi w, xi (xI (xsetI h 104 54 (Int32.ofInt (0))) (xR h 104 39) (w).toNatClampNeg)] [] (xsetI h 104 54 (Int32.ofInt (0))) := XT_path (l := l) (fr := 2) (lo := 60) (full := false) (M := 225) (n := 153) (u := 6051) (pc := 0) (L := [xf 13 104, xi w, xun]) (st := []) (h := h) (inl := []) (n' := 80) (sp := [12]) (o := []) rfl rfl ⟨rfl, rfl, rfl⟩ rfl ⟨Nat.le_of_eq hg.2.2.2.1, Nat.le_of_eq hg.2.2.2.2⟩ ⟨⟨⟨trivial, (Or.inl rfl)⟩, (vnn hg.1 (rfl : vRf 104 39 = [124]) (by decide))⟩, (vp_of (i := w) (n := 6) (by omega) (by omega))⟩
  rw [vref hg.1 (rfl : vRf 104 39 = [124])] at t1
  have t2 : XT l 2 60 false 225 153 6051 0 [xf 13 104, xi w, xun] [] h 12 [xf 13 104, xi w, xi (xI h 124 (w).toNatClampNeg)] [] (xsetI h 104 54 (Int32.ofInt (0))) := t1
  have G0 : mE h (xsetI h 104 54 (Int32.ofInt (0))) := ⟨⟨sinv_setI hg.1 (by rw [vI10454]; decide), trivial, trivial, hg.2.2.2⟩, fun c k z => yI_ne (eq_false z), fun _ _ => rfl, fun _ _ _ => rfl⟩
  have go : zgf Z nm f (T - f) f (zlw Z nm (T - f) f (fun _ => 0)) (xsetI h 104 54 (Int32.ofInt (0))) := Or.inl ⟨yI_same, fun _ => 0, fun j j1 j2 => by omega, rfl⟩
  obtain ⟨i2, h2, T2, G2, go2⟩ := jk_lawL l Z nm w f T (zlw Z nm (T - f) f (fun _ => 0)) h hg w2 (by omega) a3 tw2 (fun j hj => kj j (by omega)) hn (T - f) f (xI h 124 (w).toNatClampNeg) (xsetI h 104 54 (Int32.ofInt (0))) G0 tw1 (by omega) (Nat.le_refl _) go
  have T3 := t2.tr T2
  have eT2 : (xI h2 125 w.toNatClampNeg).toInt = T := by rw [G2.2.1 125 _ (by omega)]; exact tw2
  have tm := y_pred (k := xI h2 125 w.toNatClampNeg) (by omega) (by omega)
  have nT : (xI h2 125 w.toNatClampNeg - Int32.ofInt (1)).toNatClampNeg = T - 1 := by show (xI h2 125 w.toNatClampNeg - Int32.ofInt (1)).toInt.toNat = T - 1; omega
  by_cases cb3 : (xI h2 104 54) = 0
  · have e_0 : (0 : Int32).toInt = 0 := rfl
    have dcb3 : (xI h2 104 54).toInt = (0 : Int32).toInt := congrArg Int32.toInt cb3
    have t4 : XT l 2 60 false 225 153 6051 39 [xf 13 104, xi w, xi i2] [] h2 63 [xf 13 104, xi w, xi i2] [xl (xL h2 (xR h2 104 53) (((xI h2 (xR h2 104 40) (w).toNatClampNeg) - (Int32.ofInt (1)))).toNatClampNeg)] h2 := XT_path (l := l) (fr := 2) (lo := 60) (full := false) (M := 225) (n := 153) (u := 6051) (pc := 39) (L := [xf 13 104, xi w, xi i2]) (st := []) (h := h2) (inl := []) (n' := 80) (sp := [63]) (o := [1]) rfl rfl ⟨rfl, rfl, rfl⟩ rfl ⟨Nat.le_of_eq G2.1.2.2.2.1, Nat.le_of_eq G2.1.2.2.2.2⟩ ⟨⟨⟨⟨⟨trivial, cb3⟩, (vnn G2.1.1 (rfl : vRf 104 53 = [132]) (by decide))⟩, (vnn G2.1.1 (rfl : vRf 104 40 = [125]) (by decide))⟩, (vp_of (i := w) (n := 6) (by omega) (by omega))⟩, (show vp_in (((xI h2 (xR h2 104 40) (w).toNatClampNeg) - (Int32.ofInt (1)))) (64) from (by rw [vref G2.1.1 (rfl : vRf 104 40 = [125])]; exact (vp_of (i := ((xI h2 125 (w).toNatClampNeg) - (Int32.ofInt (1)))) (n := 64) (by omega) (by omega) : vp_in (((xI h2 125 (w).toNatClampNeg) - (Int32.ofInt (1)))) (64))))⟩
    rw [vref G2.1.1 (rfl : vRf 104 53 = [132]), vref G2.1.1 (rfl : vRf 104 40 = [125])] at t4
    have t5 := T3.tr t4
    rcases go2 with ⟨y1, V, y2, y3⟩ | ⟨y1, y2⟩
    · refine ⟨_, h2, CX_ofT (h' := h2) (by decide) rfl rfl trivial ⟨_, _, _, rfl, rfl, rfl⟩ rfl ⟨Nat.le_of_eq G2.1.2.2.2.1.symm, Nat.le_of_eq G2.1.2.2.2.2.symm⟩ t5, G2, Or.inr ⟨y1, ?_⟩⟩
      have y4 := y2 (T - 1) (by omega) (by omega)
      rw [eL, y3, nT, y4.1]; rfl
    · exact absurd cb3 y1
  · have e_0 : (0 : Int32).toInt = 0 := rfl
    have dcb3 : ¬ (xI h2 104 54).toInt = (0 : Int32).toInt := fun z_ => cb3 (Int32.toInt_inj.mp z_)
    have t6 : XT l 2 60 false 225 153 6051 39 [xf 13 104, xi w, xi i2] [] h2 63 [xf 13 104, xi w, xi i2] [xl (Int64.ofInt (0))] h2 := XT_path (l := l) (fr := 2) (lo := 60) (full := false) (M := 225) (n := 153) (u := 6051) (pc := 39) (L := [xf 13 104, xi w, xi i2]) (st := []) (h := h2) (inl := []) (n' := 80) (sp := [63]) (o := [0]) rfl rfl ⟨rfl, rfl, rfl⟩ rfl ⟨Nat.le_of_eq G2.1.2.2.2.1, Nat.le_of_eq G2.1.2.2.2.2⟩ ⟨trivial, cb3⟩
    have t7 := T3.tr t6
    rcases go2 with ⟨y1, V, y2, y3⟩ | ⟨y1, y2⟩
    · exact absurd y1 cb3
    · exact ⟨_, h2, CX_ofT (h' := h2) (by decide) rfl rfl trivial ⟨_, _, _, rfl, rfl, rfl⟩ rfl ⟨Nat.le_of_eq G2.1.2.2.2.1.symm, Nat.le_of_eq G2.1.2.2.2.2.symm⟩ t7, G2, Or.inl ⟨y1, by rw [eL, y2]⟩⟩
/-- a law's value, cut -/
def zcl (o : Option Int) (d lo mo : Int) : Int := match o with
  | none => d
  | some x => if x < lo then lo else if mo < x then mo else x
set_option maxRecDepth 100000 in
set_option maxHeartbeats 4000000 in
theorem jk_bound (l : Launch) (Z nm : Nat → Int) (w wo lo mo : Int32) (h : XH) (hg : mI h) (LW : zLW Z) (w2 : 0 ≤ w.toInt ∧ w.toInt ≤ 2) (z10 : Z 10 ≤ 64) (kt : (xI h 123 w.toNatClampNeg).toInt = (if Z (240 + w.toInt.toNat) < Z (250 + w.toInt.toNat) then 1 else 0) ∧ (Z (240 + w.toInt.toNat) < Z (250 + w.toInt.toNat) → (xI h 124 w.toNatClampNeg).toInt = Z (240 + w.toInt.toNat) ∧ (xI h 125 w.toNatClampNeg).toInt = Z (250 + w.toInt.toNat))) (kj : ∀ j : Nat, (j : Int) < Z 10 → (xI h 126 j).toInt = jkn (Z (300 + j)) ∧ (xI h 127 j).toInt = Z (500 + j) ∧ (xI h 128 j).toInt = Z (600 + j)) (hn : ∀ j : Nat, j < 7 → (xL h 131 j).toInt = nm j ∧ zM (xL h 131 j)) : ∃ v h', CX l 3 85 false 224 [xf 13 104, xi w, xi wo, xi lo, xi mo] h [xi v] h' ∧ mE h h' ∧ v.toInt = zcl (zL Z nm w.toInt.toNat) wo.toInt lo.toInt mo.toInt := by
  have ez : (0 : Int32).toInt = 0 := rfl
  by_cases cb1 : (xI h (xR h 104 38) (w).toNatClampNeg) = 0
  · have e_0 : (0 : Int32).toInt = 0 := rfl
    have cb1r := cb1
    rw [vref hg.1 (rfl : vRf 104 38 = [123])] at cb1r
    have dcb1 : (xI h 123 (w).toNatClampNeg).toInt = (0 : Int32).toInt := congrArg Int32.toInt cb1r
    have t2 : XT l 3 85 false 224 153 6051 0 [xf 13 104, xi w, xi wo, xi lo, xi mo, xun, xun] [] h 10 [xf 13 104, xi w, xi wo, xi lo, xi mo, xun, xun] [xi wo] h := XT_path (l := l) (fr := 3) (lo := 85) (full := false) (M := 224) (n := 153) (u := 6051) (pc := 0) (L := [xf 13 104, xi w, xi wo, xi lo, xi mo, xun, xun]) (st := []) (h := h) (inl := []) (n' := 80) (sp := [10]) (o := [0]) rfl rfl ⟨rfl, rfl, rfl⟩ rfl ⟨Nat.le_of_eq hg.2.2.2.1, Nat.le_of_eq hg.2.2.2.2⟩ ⟨⟨⟨trivial, (vnn hg.1 (rfl : vRf 104 38 = [123]) (by decide))⟩, (vp_of (i := w) (n := 6) (by omega) (by omega))⟩, cb1⟩
    have tl : ¬ Z (240 + w.toInt.toNat) < Z (250 + w.toInt.toNat) := fun y => by
      have k := kt.1
      rw [if_pos y, show (xI h 123 w.toNatClampNeg).toInt = 0 from dcb1] at k
      cases k
    exact ⟨_, h, CX_ofT (h' := h) (by decide) rfl rfl trivial ⟨_, _, _, rfl, rfl, rfl⟩ rfl ⟨Nat.le_of_eq hg.2.2.2.1.symm, Nat.le_of_eq hg.2.2.2.2.symm⟩ t2, mE.rf hg, by rw [show zL Z nm w.toInt.toNat = none from if_neg tl]; rfl⟩
  · have e_0 : (0 : Int32).toInt = 0 := rfl
    have cb1r := cb1
    rw [vref hg.1 (rfl : vRf 104 38 = [123])] at cb1r
    have dcb1 : ¬ (xI h 123 (w).toNatClampNeg).toInt = (0 : Int32).toInt := fun z_ => cb1r (Int32.toInt_inj.mp z_)
    have t3 : XT l 3 85 false 224 153 6051 0 [xf 13 104, xi w, xi wo, xi lo, xi mo, xun, xun] [] h 13 [xf 13 104, xi w, xi wo, xi lo, xi mo, xun, xun] [xi w, xf 13 104] h := XT_path (l := l) (fr := 3) (lo := 85) (full := false) (M := 224) (n := 153) (u := 6051) (pc := 0) (L := [xf 13 104, xi w, xi wo, xi lo, xi mo, xun, xun]) (st := []) (h := h) (inl := []) (n' := 80) (sp := [13]) (o := [1]) rfl rfl ⟨rfl, rfl, rfl⟩ rfl ⟨Nat.le_of_eq hg.2.2.2.1, Nat.le_of_eq hg.2.2.2.2⟩ ⟨⟨⟨trivial, (vnn hg.1 (rfl : vRf 104 38 = [123]) (by decide))⟩, (vp_of (i := w) (n := 6) (by omega) (by omega))⟩, cb1⟩
    have tl : Z (240 + w.toInt.toNat) < Z (250 + w.toInt.toNat) := by
      have k := kt.1
      by_cases y : Z (240 + w.toInt.toNat) < Z (250 + w.toInt.toNat)
      · exact y
      · rw [if_neg y] at k
        exact absurd k dcb1
    obtain ⟨v, h1, c1, G1, o1⟩ := jk_lawOf l Z nm w h hg LW w2 z10 kt kj hn tl
    have t4 : XT l 3 85 false 224 153 6051 13 [xf 13 104, xi w, xi wo, xi lo, xi mo, xun, xun] [xi w, xf 13 104] h 16 [xf 13 104, xi w, xi wo, xi lo, xi mo, xun, xun] [xl v] h1 := XT_call (l := l) (fr := 3) (lo := 85) (full := false) (M := 224) (n := 153) (u := 6051) (pc := 13) (L := [xf 13 104, xi w, xi wo, xi lo, xi mo, xun, xun]) (st := [xi w, xf 13 104]) (h := h) (i := .invokevirtual 225) (aux := 2) (nx := 16) (K := 225) (vs := [xf 13 104, xi w]) (rs := [xl v]) (rest := []) rfl rfl rfl rfl rfl rfl c1 (by decide) (by decide) (Nat.le_of_ble_eq_true rfl) ⟨Nat.le_of_eq G1.1.2.2.2.1, Nat.le_of_eq G1.1.2.2.2.2⟩
    have t5 := t3.tr t4
    by_cases cb6 : (xI h1 104 54) = 0
    · have e_0 : (0 : Int32).toInt = 0 := rfl
      have dcb6 : (xI h1 104 54).toInt = (0 : Int32).toInt := congrArg Int32.toInt cb6
      by_cases cb7 : (0 : Int32) ≤ (lg_cmp v (lo).toInt64)
      · have dcb7 : (lo).toInt64.toInt ≤ v.toInt := lgi_ge.mp cb7
        by_cases cb8 : (lg_cmp v (mo).toInt64) ≤ 0
        · have dcb8 : v.toInt ≤ (mo).toInt64.toInt := lgi_le.mp cb8
          have t9 : XT l 3 85 false 224 153 6051 16 [xf 13 104, xi w, xi wo, xi lo, xi mo, xun, xun] [xl v] h1 56 [xf 13 104, xi w, xi wo, xi lo, xi mo, xl v, xun] [xi (v).toInt32] h1 := XT_path (l := l) (fr := 3) (lo := 85) (full := false) (M := 224) (n := 153) (u := 6051) (pc := 16) (L := [xf 13 104, xi w, xi wo, xi lo, xi mo, xun, xun]) (st := [xl v]) (h := h1) (inl := []) (n' := 80) (sp := [56]) (o := [1, 1, 1]) rfl rfl ⟨rfl, rfl, rfl⟩ rfl ⟨Nat.le_of_eq G1.1.2.2.2.1, Nat.le_of_eq G1.1.2.2.2.2⟩ ⟨⟨⟨trivial, cb6⟩, cb7⟩, cb8⟩
          have t10 := t5.tr t9
          rcases o1 with ⟨y1, y2⟩ | ⟨y1, y2⟩
          · exact absurd cb6 y1
          · refine ⟨_, h1, CX_ofT (h' := h1) (by decide) rfl rfl trivial ⟨_, _, _, rfl, rfl, rfl⟩ rfl ⟨Nat.le_of_eq G1.1.2.2.2.1.symm, Nat.le_of_eq G1.1.2.2.2.2.symm⟩ t10, G1, ?_⟩
            have l1 := Int32.toInt_toInt64 lo
            have l2 := Int32.toInt_toInt64 mo
            rw [y2]
            show _ = if v.toInt < lo.toInt then lo.toInt else if mo.toInt < v.toInt then mo.toInt else v.toInt
            rw [if_neg (by omega), if_neg (by omega)]
            have b1 : -2147483648 ≤ lo.toInt ∧ lo.toInt ≤ 2147483647 := i32r_of _
            have b2 : -2147483648 ≤ mo.toInt ∧ mo.toInt ≤ 2147483647 := i32r_of _
            rw [Int64.toInt_toInt32]
            exact Int.bmod_eq_of_le (by omega) (by omega)
        · have dcb8 : (mo).toInt64.toInt < v.toInt := Int.not_le.mp (fun z_ => cb8 (lgi_le.mpr z_))
          have t11 : XT l 3 85 false 224 153 6051 16 [xf 13 104, xi w, xi wo, xi lo, xi mo, xun, xun] [xl v] h1 56 [xf 13 104, xi w, xi wo, xi lo, xi mo, xl v, xun] [xi mo] h1 := XT_path (l := l) (fr := 3) (lo := 85) (full := false) (M := 224) (n := 153) (u := 6051) (pc := 16) (L := [xf 13 104, xi w, xi wo, xi lo, xi mo, xun, xun]) (st := [xl v]) (h := h1) (inl := []) (n' := 80) (sp := [56]) (o := [1, 1, 0]) rfl rfl ⟨rfl, rfl, rfl⟩ rfl ⟨Nat.le_of_eq G1.1.2.2.2.1, Nat.le_of_eq G1.1.2.2.2.2⟩ ⟨⟨⟨trivial, cb6⟩, cb7⟩, cb8⟩
          have t12 := t5.tr t11
          rcases o1 with ⟨y1, y2⟩ | ⟨y1, y2⟩
          · exact absurd cb6 y1
          · refine ⟨_, h1, CX_ofT (h' := h1) (by decide) rfl rfl trivial ⟨_, _, _, rfl, rfl, rfl⟩ rfl ⟨Nat.le_of_eq G1.1.2.2.2.1.symm, Nat.le_of_eq G1.1.2.2.2.2.symm⟩ t12, G1, ?_⟩
            have l1 := Int32.toInt_toInt64 lo
            have l2 := Int32.toInt_toInt64 mo
            rw [y2]
            show _ = if v.toInt < lo.toInt then lo.toInt else if mo.toInt < v.toInt then mo.toInt else v.toInt
            rw [if_neg (by omega), if_pos (by omega)]
      · have dcb7 : v.toInt < (lo).toInt64.toInt := Int.not_le.mp (fun z_ => cb7 (lgi_ge.mpr z_))
        have t13 : XT l 3 85 false 224 153 6051 16 [xf 13 104, xi w, xi wo, xi lo, xi mo, xun, xun] [xl v] h1 56 [xf 13 104, xi w, xi wo, xi lo, xi mo, xl v, xun] [xi lo] h1 := XT_path (l := l) (fr := 3) (lo := 85) (full := false) (M := 224) (n := 153) (u := 6051) (pc := 16) (L := [xf 13 104, xi w, xi wo, xi lo, xi mo, xun, xun]) (st := [xl v]) (h := h1) (inl := []) (n' := 80) (sp := [56]) (o := [1, 0]) rfl rfl ⟨rfl, rfl, rfl⟩ rfl ⟨Nat.le_of_eq G1.1.2.2.2.1, Nat.le_of_eq G1.1.2.2.2.2⟩ ⟨⟨trivial, cb6⟩, cb7⟩
        have t14 := t5.tr t13
        rcases o1 with ⟨y1, y2⟩ | ⟨y1, y2⟩
        · exact absurd cb6 y1
        · refine ⟨_, h1, CX_ofT (h' := h1) (by decide) rfl rfl trivial ⟨_, _, _, rfl, rfl, rfl⟩ rfl ⟨Nat.le_of_eq G1.1.2.2.2.1.symm, Nat.le_of_eq G1.1.2.2.2.2.symm⟩ t14, G1, ?_⟩
          have l1 := Int32.toInt_toInt64 lo
          have l2 := Int32.toInt_toInt64 mo
          rw [y2]
          show _ = if v.toInt < lo.toInt then lo.toInt else if mo.toInt < v.toInt then mo.toInt else v.toInt
          rw [if_pos (by omega)]
    · have e_0 : (0 : Int32).toInt = 0 := rfl
      have dcb6 : ¬ (xI h1 104 54).toInt = (0 : Int32).toInt := fun z_ => cb6 (Int32.toInt_inj.mp z_)
      have t15 : XT l 3 85 false 224 153 6051 16 [xf 13 104, xi w, xi wo, xi lo, xi mo, xun, xun] [xl v] h1 26 [xf 13 104, xi w, xi wo, xi lo, xi mo, xl v, xun] [xi wo] h1 := XT_path (l := l) (fr := 3) (lo := 85) (full := false) (M := 224) (n := 153) (u := 6051) (pc := 16) (L := [xf 13 104, xi w, xi wo, xi lo, xi mo, xun, xun]) (st := [xl v]) (h := h1) (inl := []) (n' := 80) (sp := [26]) (o := [0]) rfl rfl ⟨rfl, rfl, rfl⟩ rfl ⟨Nat.le_of_eq G1.1.2.2.2.1, Nat.le_of_eq G1.1.2.2.2.2⟩ ⟨trivial, cb6⟩
      have t16 := t5.tr t15
      rcases o1 with ⟨y1, y2⟩ | ⟨y1, y2⟩
      · exact ⟨_, h1, CX_ofT (h' := h1) (by decide) rfl rfl trivial ⟨_, _, _, rfl, rfl, rfl⟩ rfl ⟨Nat.le_of_eq G1.1.2.2.2.1.symm, Nat.le_of_eq G1.1.2.2.2.2.symm⟩ t16, G1, by rw [y2]; rfl⟩
      · exact absurd y1 cb6
