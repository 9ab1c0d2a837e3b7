/-! THE CLASS WORKS A LAW OUT. -/
theorem zlw_s {Z nm V : Nat → Int} {m i : Nat} {x : Int} (h : zop Z nm V i = some x) : zlw Z nm (m + 1) i V = zlw Z nm m (i + 1) (zs V i x) := by
  show (match zop Z nm V i with | none => none | some v => zlw Z nm m (i + 1) (zs V i v)) = _
  rw [h]
theorem zlw_n {Z nm V : Nat → Int} {m i : Nat} (h : zop Z nm V i = none) : zlw Z nm (m + 1) i V = none := by
  show (match zop Z nm V i with | none => none | some v => zlw Z nm m (i + 1) (zs V i v)) = _
  rw [h]
theorem zop_2 {Z nm V : Nat → Int} {i : Nat} (h : Z (300 + i) = 2) : zop Z nm V i = some (Z (500 + i)) := if_pos h
theorem zop_nm {Z nm V : Nat → Int} {i : Nat} (h : 33 ≤ Z (300 + i)) : zop Z nm V i = some (nm (Z (500 + i)).toNat) := (if_neg (by omega)).trans (if_pos h)
theorem zop_not {Z nm V : Nat → Int} {i a : Nat} (h : Z (300 + i) = 32) (e : Z (500 + i) = a) : zop Z nm V i = some (if V a = 0 then 1 else 0) := by
  unfold zop
  rw [if_neg (by omega), if_neg (by omega), if_pos h, e, Int.toNat_natCast]
theorem zop_bin {Z nm V : Nat → Int} {i a c : Nat} (h : zbo (Z (300 + i))) (e : Z (500 + i) = a) (e2 : Z (600 + i) = c) : zop Z nm V i = zbin (Z (300 + i)) (V a) (V c) := by
  unfold zbo at h
  unfold zop
  rw [if_neg (by omega), if_neg (by omega), if_neg (by omega), e, e2, Int.toNat_natCast, Int.toNat_natCast]
/-- the stack: what lies there has its value -/
def zsk (s : Nat) (V : Nat → Int) : List Nat → XH → Prop
  | [], _ => True
  | a :: t, h => ((xL h s t.length).toInt = V a ∧ zM (xL h s t.length)) ∧ zsk s V t h
theorem zsk_fr {s : Nat} {V W : Nat → Int} {h h' : XH} : ∀ {l : List Nat}, (∀ k, k < l.length → xL h' s k = xL h s k) → (∀ a ∈ l, W a = V a) → zsk s V l h → zsk s W l h'
  | [], _, _, _ => trivial
  | a :: t, e, w, z => by
    refine ⟨?_, zsk_fr (fun k hk => e k (by rw [List.length_cons]; omega)) (fun b hb => w b (List.mem_cons_of_mem _ hb)) z.2⟩
    rw [e t.length (by rw [List.length_cons]; omega), w a List.mem_cons_self]
    exact z.1
/-- what work answers -/
def zwr (o : Option (Nat → Int)) (T : Nat) (v : Int64) : Prop := match o with
  | none => v.toInt = -9223372036854775808
  | some V => v.toInt = V (T - 1) ∧ -1000000000000 ≤ V (T - 1) ∧ V (T - 1) ≤ 1000000000000
def zwv (o : Option Int) (v : Int64) : Prop := match o with
  | none => v.toInt = -9223372036854775808
  | some x => v.toInt = x ∧ -1000000000000 ≤ x ∧ x ≤ 1000000000000
theorem y_sb1 {k : Int32} (h0 : 1 ≤ k.toInt) (h1 : k.toInt < 100000) : (k - Int32.ofInt (1)).toInt = k.toInt - 1 := by
  rw [Int32.toInt_sub, show (Int32.ofInt (1)).toInt = 1 from rfl]
  exact Int.bmod_eq_of_le (by omega) (by omega)
theorem y_mi {k : Int32} (h0 : 1 ≤ k.toInt) (h1 : k.toInt < 100000) : (k + Int32.ofInt (-1)).toInt = k.toInt - 1 := by
  rw [Int32.toInt_add, show (Int32.ofInt (-1)).toInt = -1 from rfl]
  exact Int.bmod_eq_of_le (by omega) (by omega)
/-- heaps but for longs of one row -/
def mL (s : Nat) (h h' : XH) : Prop := mI h' ∧ (∀ c k, xI h' c k = xI h c k) ∧ (∀ c k, xR h' c k = xR h c k) ∧ (∀ c k, c ≠ s → xL h' c k = xL h c k)
theorem mL.rf {s : Nat} {h : XH} (g : mI h) : mL s h h := ⟨g, fun _ _ => rfl, fun _ _ => rfl, fun _ _ _ => rfl⟩
theorem mL.tr {s : Nat} {a b c : XH} (x : mL s a b) (y : mL s b c) : mL s a c := ⟨y.1, fun c k => (y.2.1 c k).trans (x.2.1 c k), fun c k => (y.2.2.1 c k).trans (x.2.2.1 c k), fun c k e => (y.2.2.2 c k e).trans (x.2.2.2 c k e)⟩
theorem mL.set {s k : Nat} {v : Int64} {h : XH} (g : mI h) : mL s h (xsetL h s k v) := ⟨⟨⟨g.1.1, g.1.2⟩, trivial, trivial, g.2.2.2⟩, fun _ _ => rfl, fun _ _ => rfl, fun c j e => yL_ne (eq_false (fun z => e z.1))⟩
theorem zi_ix {k : Int32} {i : Nat} (h : k.toInt = i) : k.toNatClampNeg = i := by
  show k.toInt.toNat = i
  omega
theorem y_min {x : Int32} {n : Nat} (h : x.toInt = (n : Int) + 1 + 1) (b : n < 1000) : (x + Int32.ofInt (-1)).toInt = (n : Int) + 1 := by
  rw [Int32.toInt_add, h, show (Int32.ofInt (-1)).toInt = -1 from rfl]
  exact (Int.bmod_eq_of_le (by omega) (by omega)).trans (by omega)
theorem y_sbn {x : Int32} {n : Nat} (h : x.toInt = (n : Int) + 1) (b : n < 1000) : (x - Int32.ofInt (1)).toInt = n := by
  rw [Int32.toInt_sub, h, show (Int32.ofInt (1)).toInt = 1 from rfl]
  exact (Int.bmod_eq_of_le (by omega) (by omega)).trans (by omega)
theorem zbo_b {x : Int} (h : zbo x) : 7 ≤ x ∧ x ≤ 31 := by
  unfold zbo at h
  omega
set_option maxRecDepth 100000 in
set_option maxHeartbeats 4000000 in
theorem ck_workL3_58 (l : Launch) (Z nm : Nat → Int) (w : Int32) (W f T : Nat) (hw : w.toInt = W) (hW : W < 3) (hT : T ≤ 64) (HT : zrn Z f (T - f) [T - 1]) (eT : Z (250 + W) = T) : ∀ (m i : Nat) (ls : List Nat) (V : Nat → Int) (tp k : Int32) (o5 o6 o7 : XV) (h : XH), mI h → kF 21 22 Z h → (∀ j : Nat, j < T → (xI h 19 j).toInt = Z (300 + j) ∧ (xI h 20 j).toInt = Z (400 + j)) → (∀ j : Nat, j < 7 → (xL h 58 j).toInt = nm j ∧ zM (xL h 58 j)) → i + m = T → f ≤ i → zrn Z f (i - f) ls → k.toInt = i → tp.toInt = ls.length → zsk 23 V ls h → ∃ v pcR L' h', XT l 2 45 false 78 153 6051 10 [xf 4 18, xi w, xf 40007 58, xi tp, xi k, o5, o6, o7] [] h pcR L' [xl v] h' ∧ XE 78 pcR [xl v] ∧ L'.length = 8 ∧ mL 23 h h' ∧ zwr (zlw Z nm m i V) T v
  | 0, i, ls, V, tp, k, o5, o6, o7, h, hg, kf, ko, hn, hi, hf, hl, ek, et, sk => by
    have eto : (xI h 22 w.toNatClampNeg).toInt = Z (250 + W) := by rw [zi_ix hw]; exact (kf W hW).2
    have e_0 : (Int32.ofInt (0)).toInt = 0 := rfl
    have e_1 : (Int32.ofInt (1)).toInt = 1 := rfl
    have e_2 : (Int32.ofInt (2)).toInt = 2 := rfl
    have e_32 : (Int32.ofInt (32)).toInt = 32 := rfl
    have e_33 : (Int32.ofInt (33)).toInt = 33 := rfl
    have e_64 : (Int32.ofInt (64)).toInt = 64 := rfl
    have lb := zrn_b hl
    obtain rfl : i = T := by omega
    obtain rfl := zrn_det hl HT
    have et : tp.toInt = 1 := et
    have t1 : XT l 2 45 false 78 153 6051 10 [xf 4 18, xi w, xf 40007 58, xi tp, xi k, o5, o6, o7] [] h 222 [xf 4 18, xi w, xf 40007 58, xi tp, xi k, o5, o6, o7] [xl (xL h (xR h 18 4) ((Int32.ofInt (0))).toNatClampNeg)] h := XT_path (l := l) (fr := 2) (lo := 45) (full := false) (M := 78) (n := 153) (u := 6051) (pc := 10) (L := [xf 4 18, xi w, xf 40007 58, xi tp, xi k, o5, o6, o7]) (st := []) (h := h) (inl := []) (n' := 60) (sp := [222]) (o := [1, 0]) rfl rfl ⟨rfl, rfl, rfl⟩ rfl ⟨Nat.le_of_eq hg.2.2.2.1, Nat.le_of_eq hg.2.2.2.2⟩ ⟨⟨⟨⟨⟨⟨trivial, (vnn hg.1 (rfl : vRf 18 3 = [22]) (by decide))⟩, (vp_of (i := w) (n := 3) (by omega) (by omega))⟩, (show (xI h (xR h 18 3) (w).toNatClampNeg) ≤ k from by rw [vref hg.1 (rfl : vRf 18 3 = [22])]; exact Int32.le_iff_toInt_le.mpr (by omega))⟩, (show tp = (Int32.ofInt (1)) from Int32.toInt_inj.mp (by omega))⟩, (vnn hg.1 (rfl : vRf 18 4 = [23]) (by decide))⟩, (vp_of (i := (Int32.ofInt (0))) (n := 64) (by omega) (by omega))⟩
    rw [vref hg.1 (rfl : vRf 18 4 = [23])] at t1
    exact ⟨_, _, _, _, t1, ⟨_, _, _, rfl, rfl, rfl⟩, rfl, mL.rf hg, sk.1.1, by have y := sk.1.2.1; have y1 := sk.1.1; have y2 : (xL h 23 0).toInt = V (i - 1) := y1; have y3 : -1000000000000 ≤ (xL h 23 0).toInt := y; omega, by have y := sk.1.2.2; have y1 := sk.1.1; have y2 : (xL h 23 0).toInt = V (i - 1) := y1; have y3 : (xL h 23 0).toInt ≤ 1000000000000 := y; omega⟩
  | m + 1, i, ls, V, tp, k, o5, o6, o7, h, hg, kf, ko, hn, hi, hf, hl, ek, et, sk => by
    have eto : (xI h 22 w.toNatClampNeg).toInt = Z (250 + W) := by rw [zi_ix hw]; exact (kf W hW).2
    have e_0 : (Int32.ofInt (0)).toInt = 0 := rfl
    have e_1 : (Int32.ofInt (1)).toInt = 1 := rfl
    have e_2 : (Int32.ofInt (2)).toInt = 2 := rfl
    have e_32 : (Int32.ofInt (32)).toInt = 32 := rfl
    have e_33 : (Int32.ofInt (33)).toInt = 33 := rfl
    have e_64 : (Int32.ofInt (64)).toInt = 64 := rfl
    have lb := zrn_b hl
    obtain ⟨l1, l0, la, lx⟩ := zrn_pre (k := i - f + 1) (m := m) (l := [T - 1]) (by rw [show i - f + 1 + m = T - f by omega]; exact HT)
    obtain rfl := zrn_det la hl
    have hl1 : zrn Z f (i + 1 - f) l1 := by rw [show i + 1 - f = i - f + 1 by omega]; exact ⟨l0, la, lx⟩
    rw [show f + (i - f) = i by omega] at lx
    obtain ⟨ko1, ko2⟩ := ko i (by omega)
    have eop : (xI h 19 k.toNatClampNeg).toInt = Z (300 + i) := by rw [zi_ix ek]; exact ko1
    have ecv : (xI h 20 k.toNatClampNeg).toInt = Z (400 + i) := by rw [zi_ix ek]; exact ko2
    have sk1 := y_suc1 (k := k) (by omega) (by omega)
    have nt := zi_ix et
    have bcv : -2147483648 ≤ (xI h 20 k.toNatClampNeg).toInt ∧ (xI h 20 k.toNatClampNeg).toInt ≤ 2147483647 := i32r_of _
    rcases lx with ⟨lf, rfl⟩ | ⟨c32, a, t, rfl, ea, rfl⟩ | ⟨cb, a, c, t, rfl, ea, ec, rfl⟩
    · have lb2 := lb.2
      have st1 := y_suc1 (k := tp) (by omega) (by omega)
      have lt64 : l0.length < 64 := by have := lb.1; omega
      rcases lf with ⟨c2, e45⟩ | ⟨c33, c39, e53⟩
      · have eo : zop Z nm V i = some (Z (500 + i)) := zop_2 c2
        rw [zlw_s eo]
        have t1 : XT l 2 45 false 78 153 6051 10 [xf 4 18, xi w, xf 40007 58, xi tp, xi k, o5, o6, o7] [] h 10 [xf 4 18, xi w, xf 40007 58, xi (tp + Int32.ofInt (1)), xi (k + Int32.ofInt (1)), xi (xI h (xR h 18 0) (k).toNatClampNeg), o6, o7] [] (xsetL h (xR h 18 4) (tp).toNatClampNeg ((xI h (xR h 18 1) (k).toNatClampNeg)).toInt64) := XT_path (l := l) (fr := 2) (lo := 45) (full := false) (M := 78) (n := 153) (u := 6051) (pc := 10) (L := [xf 4 18, xi w, xf 40007 58, xi tp, xi k, o5, o6, o7]) (st := []) (h := h) (inl := []) (n' := 60) (sp := [10]) (o := [0, 1, 1, 0]) rfl rfl ⟨rfl, rfl, rfl⟩ rfl ⟨Nat.le_of_eq hg.2.2.2.1, Nat.le_of_eq hg.2.2.2.2⟩ ⟨⟨⟨⟨⟨⟨⟨⟨⟨⟨⟨⟨trivial, (vnn hg.1 (rfl : vRf 18 3 = [22]) (by decide))⟩, (vp_of (i := w) (n := 3) (by omega) (by omega))⟩, (show ¬ (xI h (xR h 18 3) (w).toNatClampNeg) ≤ k from by rw [vref hg.1 (rfl : vRf 18 3 = [22])]; exact fun z => absurd (Int32.le_iff_toInt_le.mp z) (by omega))⟩, (vnn hg.1 (rfl : vRf 18 0 = [19]) (by decide))⟩, (vp_of (i := k) (n := 64) (by omega) (by omega))⟩, (show (xI h (xR h 18 0) (k).toNatClampNeg) = (Int32.ofInt (2)) from by rw [vref hg.1 (rfl : vRf 18 0 = [19])]; exact Int32.toInt_inj.mp (by omega))⟩, (show tp < (Int32.ofInt (64)) from Int32.lt_iff_toInt_lt.mpr (by omega))⟩, (vnn hg.1 (rfl : vRf 18 4 = [23]) (by decide))⟩, (show (xI h (xR h 18 0) (k).toNatClampNeg) = (Int32.ofInt (2)) from by rw [vref hg.1 (rfl : vRf 18 0 = [19])]; exact Int32.toInt_inj.mp (by omega))⟩, (vnn hg.1 (rfl : vRf 18 1 = [20]) (by decide))⟩, (vp_of (i := k) (n := 64) (by omega) (by omega))⟩, (vp_of (i := tp) (n := 64) (by omega) (by omega))⟩
        rw [vref hg.1 (rfl : vRf 18 0 = [19]), vref hg.1 (rfl : vRf 18 4 = [23]), vref hg.1 (rfl : vRf 18 1 = [20])] at t1
        have G : mL 23 h (xsetL h 23 (tp).toNatClampNeg ((xI h 20 (k).toNatClampNeg)).toInt64) := mL.set hg
        have ev : (((xI h 20 (k).toNatClampNeg)).toInt64).toInt = Z (500 + i) := by rw [Int32.toInt_toInt64, ecv, e45]
        have zv : zM (((xI h 20 (k).toNatClampNeg)).toInt64) := by unfold zM; rw [ev]; omega
        have sk2 : zsk 23 (zs V i (Z (500 + i))) (i :: l0) (xsetL h 23 (tp).toNatClampNeg ((xI h 20 (k).toNatClampNeg)).toInt64) := ⟨by rw [← nt, yL_same, zs_same]; exact ⟨ev, zv⟩, zsk_fr (fun j hj => yL_ne (eq_false (fun z => by have := z.2; omega))) (fun a ha => zs_ne (by have := lb2 a ha; omega)) sk⟩
        obtain ⟨v, pcR, L', h2, z1, z2, z3, z4, z5⟩ := ck_workL3_58 l Z nm w W f T hw hW hT HT eT m (i + 1) (i :: l0) (zs V i (Z (500 + i))) (tp + Int32.ofInt (1)) (k + Int32.ofInt (1)) (xi (xI h 19 (k).toNatClampNeg)) (o6) (o7) (xsetL h 23 (tp).toNatClampNeg ((xI h 20 (k).toNatClampNeg)).toInt64) G.1 (fun j hj => by rw [G.2.1, G.2.1]; exact kf j hj) (fun j hj => by rw [G.2.1, G.2.1]; exact ko j hj) (fun j hj => by rw [G.2.2.2 58 j (by decide)]; exact hn j hj) (by omega) (by omega) hl1 (by omega) (by first | omega | (rw [List.length_cons]; omega)) sk2
        exact ⟨v, pcR, L', h2, t1.tr z1, z2, z3, G.tr z4, z5⟩
      · have eo : zop Z nm V i = some (nm (Z (500 + i)).toNat) := zop_nm c33
        have eix : ((xI h 19 k.toNatClampNeg) - (Int32.ofInt (33))).toInt = Z (500 + i) := by rw [Int32.toInt_sub, eop, e_33, e53]; exact Int.bmod_eq_of_le (by omega) (by omega)
        have nix : ((xI h 19 k.toNatClampNeg) - (Int32.ofInt (33))).toNatClampNeg = (Z (500 + i)).toNat := by show ((xI h 19 k.toNatClampNeg) - (Int32.ofInt (33))).toInt.toNat = _; rw [eix]
        rw [zlw_s eo]
        have t2 : XT l 2 45 false 78 153 6051 10 [xf 4 18, xi w, xf 40007 58, xi tp, xi k, o5, o6, o7] [] h 10 [xf 4 18, xi w, xf 40007 58, xi (tp + Int32.ofInt (1)), xi (k + Int32.ofInt (1)), xi (xI h (xR h 18 0) (k).toNatClampNeg), o6, o7] [] (xsetL h (xR h 18 4) (tp).toNatClampNeg (xL h 58 (((xI h (xR h 18 0) (k).toNatClampNeg) - (Int32.ofInt (33)))).toNatClampNeg)) := XT_path (l := l) (fr := 2) (lo := 45) (full := false) (M := 78) (n := 153) (u := 6051) (pc := 10) (L := [xf 4 18, xi w, xf 40007 58, xi tp, xi k, o5, o6, o7]) (st := []) (h := h) (inl := []) (n' := 60) (sp := [10]) (o := [0, 0, 0, 1, 1]) rfl rfl ⟨rfl, rfl, rfl⟩ rfl ⟨Nat.le_of_eq hg.2.2.2.1, Nat.le_of_eq hg.2.2.2.2⟩ ⟨⟨⟨⟨⟨⟨⟨⟨⟨⟨⟨⟨trivial, (vnn hg.1 (rfl : vRf 18 3 = [22]) (by decide))⟩, (vp_of (i := w) (n := 3) (by omega) (by omega))⟩, (show ¬ (xI h (xR h 18 3) (w).toNatClampNeg) ≤ k from by rw [vref hg.1 (rfl : vRf 18 3 = [22])]; exact fun z => absurd (Int32.le_iff_toInt_le.mp z) (by omega))⟩, (vnn hg.1 (rfl : vRf 18 0 = [19]) (by decide))⟩, (vp_of (i := k) (n := 64) (by omega) (by omega))⟩, (show ¬ (xI h (xR h 18 0) (k).toNatClampNeg) = (Int32.ofInt (2)) from by rw [vref hg.1 (rfl : vRf 18 0 = [19])]; exact fun z => absurd (congrArg Int32.toInt z) (by omega))⟩, (show ¬ (xI h (xR h 18 0) (k).toNatClampNeg) < (Int32.ofInt (33)) from by rw [vref hg.1 (rfl : vRf 18 0 = [19])]; exact fun z => absurd (Int32.lt_iff_toInt_lt.mp z) (by omega))⟩, (show tp < (Int32.ofInt (64)) from Int32.lt_iff_toInt_lt.mpr (by omega))⟩, (vnn hg.1 (rfl : vRf 18 4 = [23]) (by decide))⟩, (show ¬ (xI h (xR h 18 0) (k).toNatClampNeg) = (Int32.ofInt (2)) from by rw [vref hg.1 (rfl : vRf 18 0 = [19])]; exact fun z => absurd (congrArg Int32.toInt z) (by omega))⟩, (show vp_in (((xI h (xR h 18 0) (k).toNatClampNeg) - (Int32.ofInt (33)))) (7) from (by rw [vref hg.1 (rfl : vRf 18 0 = [19])]; exact (vp_of (i := ((xI h 19 (k).toNatClampNeg) - (Int32.ofInt (33)))) (n := 7) (by omega) (by omega) : vp_in (((xI h 19 (k).toNatClampNeg) - (Int32.ofInt (33)))) (7))))⟩, (vp_of (i := tp) (n := 64) (by omega) (by omega))⟩
        rw [vref hg.1 (rfl : vRf 18 0 = [19]), vref hg.1 (rfl : vRf 18 4 = [23])] at t2
        have G : mL 23 h (xsetL h 23 (tp).toNatClampNeg (xL h 58 (((xI h 19 (k).toNatClampNeg) - (Int32.ofInt (33)))).toNatClampNeg)) := mL.set hg
        have ev : ((xL h 58 (((xI h 19 (k).toNatClampNeg) - (Int32.ofInt (33)))).toNatClampNeg)).toInt = nm (Z (500 + i)).toNat := by rw [nix]; exact (hn _ (by omega)).1
        have zv : zM ((xL h 58 (((xI h 19 (k).toNatClampNeg) - (Int32.ofInt (33)))).toNatClampNeg)) := by rw [nix]; exact (hn _ (by omega)).2
        have sk2 : zsk 23 (zs V i (nm (Z (500 + i)).toNat)) (i :: l0) (xsetL h 23 (tp).toNatClampNeg (xL h 58 (((xI h 19 (k).toNatClampNeg) - (Int32.ofInt (33)))).toNatClampNeg)) := ⟨by rw [← nt, yL_same, zs_same]; exact ⟨ev, zv⟩, zsk_fr (fun j hj => yL_ne (eq_false (fun z => by have := z.2; omega))) (fun a ha => zs_ne (by have := lb2 a ha; omega)) sk⟩
        obtain ⟨v, pcR, L', h2, z1, z2, z3, z4, z5⟩ := ck_workL3_58 l Z nm w W f T hw hW hT HT eT m (i + 1) (i :: l0) (zs V i (nm (Z (500 + i)).toNat)) (tp + Int32.ofInt (1)) (k + Int32.ofInt (1)) (xi (xI h 19 (k).toNatClampNeg)) (o6) (o7) (xsetL h 23 (tp).toNatClampNeg (xL h 58 (((xI h 19 (k).toNatClampNeg) - (Int32.ofInt (33)))).toNatClampNeg)) G.1 (fun j hj => by rw [G.2.1, G.2.1]; exact kf j hj) (fun j hj => by rw [G.2.1, G.2.1]; exact ko j hj) (fun j hj => by rw [G.2.2.2 58 j (by decide)]; exact hn j hj) (by omega) (by omega) hl1 (by omega) (by first | omega | (rw [List.length_cons]; omega)) sk2
        exact ⟨v, pcR, L', h2, t2.tr z1, z2, z3, G.tr z4, z5⟩
    · have lb2 := lb.2
      have et : tp.toInt = (t.length : Int) + 1 := by rw [et, List.length_cons]; rfl
      have eo := zop_not (nm := nm) (V := V) c32 ea
      have tm := y_sb1 (k := tp) (by omega) (by omega)
      have nm1 : (tp - Int32.ofInt (1)).toNatClampNeg = t.length := zi_ix (by omega)
      have lt64 := lb.1; rw [List.length_cons] at lt64
      rw [zlw_s eo]
      by_cases cb3 : (lg_cmp (xL h (xR h 18 4) ((tp - (Int32.ofInt (1)))).toNatClampNeg) (Int64.ofInt (0))) = 0
      · have el_0 : (Int64.ofInt (0)).toInt = 0 := rfl
        have cb3r := cb3
        rw [vref hg.1 (rfl : vRf 18 4 = [23])] at cb3r
        have dcb3 : (xL h 23 ((tp - (Int32.ofInt (1)))).toNatClampNeg).toInt = (Int64.ofInt (0)).toInt := lgi_eq.mp cb3r
        have t4 : XT l 2 45 false 78 153 6051 10 [xf 4 18, xi w, xf 40007 58, xi tp, xi k, o5, o6, o7] [] h 10 [xf 4 18, xi w, xf 40007 58, xi tp, xi (k + Int32.ofInt (1)), xi (xI h (xR h 18 0) (k).toNatClampNeg), o6, o7] [] (xsetL h (xR h 18 4) ((tp - (Int32.ofInt (1)))).toNatClampNeg (Int64.ofInt (1))) := XT_path (l := l) (fr := 2) (lo := 45) (full := false) (M := 78) (n := 153) (u := 6051) (pc := 10) (L := [xf 4 18, xi w, xf 40007 58, xi tp, xi k, o5, o6, o7]) (st := []) (h := h) (inl := []) (n' := 60) (sp := [10]) (o := [0, 0, 1, 0, 1, 0]) rfl rfl ⟨rfl, rfl, rfl⟩ rfl ⟨Nat.le_of_eq hg.2.2.2.1, Nat.le_of_eq hg.2.2.2.2⟩ ⟨⟨⟨⟨⟨⟨⟨⟨⟨⟨⟨⟨⟨⟨trivial, (vnn hg.1 (rfl : vRf 18 3 = [22]) (by decide))⟩, (vp_of (i := w) (n := 3) (by omega) (by omega))⟩, (show ¬ (xI h (xR h 18 3) (w).toNatClampNeg) ≤ k from by rw [vref hg.1 (rfl : vRf 18 3 = [22])]; exact fun z => absurd (Int32.le_iff_toInt_le.mp z) (by omega))⟩, (vnn hg.1 (rfl : vRf 18 0 = [19]) (by decide))⟩, (vp_of (i := k) (n := 64) (by omega) (by omega))⟩, (show ¬ (xI h (xR h 18 0) (k).toNatClampNeg) = (Int32.ofInt (2)) from by rw [vref hg.1 (rfl : vRf 18 0 = [19])]; exact fun z => absurd (congrArg Int32.toInt z) (by omega))⟩, (show (xI h (xR h 18 0) (k).toNatClampNeg) < (Int32.ofInt (33)) from by rw [vref hg.1 (rfl : vRf 18 0 = [19])]; exact Int32.lt_iff_toInt_lt.mpr (by omega))⟩, (show (xI h (xR h 18 0) (k).toNatClampNeg) = (Int32.ofInt (32)) from by rw [vref hg.1 (rfl : vRf 18 0 = [19])]; exact Int32.toInt_inj.mp (by omega))⟩, (show (Int32.ofInt (1)) ≤ tp from Int32.le_iff_toInt_le.mpr (by omega))⟩, (vnn hg.1 (rfl : vRf 18 4 = [23]) (by decide))⟩, (vnn hg.1 (rfl : vRf 18 4 = [23]) (by decide))⟩, (vp_of (i := (tp - (Int32.ofInt (1)))) (n := 64) (by omega) (by omega))⟩, cb3⟩, (vp_of (i := (tp - (Int32.ofInt (1)))) (n := 64) (by omega) (by omega))⟩
        rw [vref hg.1 (rfl : vRf 18 0 = [19]), vref hg.1 (rfl : vRf 18 4 = [23])] at t4
        have G : mL 23 h (xsetL h 23 ((tp - (Int32.ofInt (1)))).toNatClampNeg (Int64.ofInt (1))) := mL.set hg
        have d0 := dcb3
        rw [nm1, sk.1.1] at d0
        have d0 : V a = 0 := d0
        have ev : ((Int64.ofInt (1))).toInt = (if V a = 0 then 1 else 0) := by rw [if_pos d0]; rfl
        have zv : zM ((Int64.ofInt (1))) := by unfold zM; rw [ev]; split <;> decide
        have sk2 : zsk 23 (zs V i (if V a = 0 then 1 else 0)) (i :: t) (xsetL h 23 ((tp - (Int32.ofInt (1)))).toNatClampNeg (Int64.ofInt (1))) := ⟨by rw [← nm1, yL_same, zs_same]; exact ⟨ev, zv⟩, zsk_fr (fun j hj => yL_ne (eq_false (fun z => by have := z.2; omega))) (fun a ha => zs_ne (by have := lb2 a (List.mem_cons_of_mem _ ha); omega)) sk.2⟩
        obtain ⟨v, pcR, L', h2, z1, z2, z3, z4, z5⟩ := ck_workL3_58 l Z nm w W f T hw hW hT HT eT m (i + 1) (i :: t) (zs V i (if V a = 0 then 1 else 0)) tp (k + Int32.ofInt (1)) (xi (xI h 19 (k).toNatClampNeg)) (o6) (o7) (xsetL h 23 ((tp - (Int32.ofInt (1)))).toNatClampNeg (Int64.ofInt (1))) G.1 (fun j hj => by rw [G.2.1, G.2.1]; exact kf j hj) (fun j hj => by rw [G.2.1, G.2.1]; exact ko j hj) (fun j hj => by rw [G.2.2.2 58 j (by decide)]; exact hn j hj) (by omega) (by omega) hl1 (by omega) (by first | omega | (rw [List.length_cons]; omega)) sk2
        exact ⟨v, pcR, L', h2, t4.tr z1, z2, z3, G.tr z4, z5⟩
      · have el_0 : (Int64.ofInt (0)).toInt = 0 := rfl
        have cb3r := cb3
        rw [vref hg.1 (rfl : vRf 18 4 = [23])] at cb3r
        have dcb3 : ¬ (xL h 23 ((tp - (Int32.ofInt (1)))).toNatClampNeg).toInt = (Int64.ofInt (0)).toInt := fun z_ => cb3r (lgi_eq.mpr z_)
        have t5 : XT l 2 45 false 78 153 6051 10 [xf 4 18, xi w, xf 40007 58, xi tp, xi k, o5, o6, o7] [] h 10 [xf 4 18, xi w, xf 40007 58, xi tp, xi (k + Int32.ofInt (1)), xi (xI h (xR h 18 0) (k).toNatClampNeg), o6, o7] [] (xsetL h (xR h 18 4) ((tp - (Int32.ofInt (1)))).toNatClampNeg (Int64.ofInt (0))) := XT_path (l := l) (fr := 2) (lo := 45) (full := false) (M := 78) (n := 153) (u := 6051) (pc := 10) (L := [xf 4 18, xi w, xf 40007 58, xi tp, xi k, o5, o6, o7]) (st := []) (h := h) (inl := []) (n' := 60) (sp := [10]) (o := [0, 0, 1, 0, 1, 1]) rfl rfl ⟨rfl, rfl, rfl⟩ rfl ⟨Nat.le_of_eq hg.2.2.2.1, Nat.le_of_eq hg.2.2.2.2⟩ ⟨⟨⟨⟨⟨⟨⟨⟨⟨⟨⟨⟨⟨⟨trivial, (vnn hg.1 (rfl : vRf 18 3 = [22]) (by decide))⟩, (vp_of (i := w) (n := 3) (by omega) (by omega))⟩, (show ¬ (xI h (xR h 18 3) (w).toNatClampNeg) ≤ k from by rw [vref hg.1 (rfl : vRf 18 3 = [22])]; exact fun z => absurd (Int32.le_iff_toInt_le.mp z) (by omega))⟩, (vnn hg.1 (rfl : vRf 18 0 = [19]) (by decide))⟩, (vp_of (i := k) (n := 64) (by omega) (by omega))⟩, (show ¬ (xI h (xR h 18 0) (k).toNatClampNeg) = (Int32.ofInt (2)) from by rw [vref hg.1 (rfl : vRf 18 0 = [19])]; exact fun z => absurd (congrArg Int32.toInt z) (by omega))⟩, (show (xI h (xR h 18 0) (k).toNatClampNeg) < (Int32.ofInt (33)) from by rw [vref hg.1 (rfl : vRf 18 0 = [19])]; exact Int32.lt_iff_toInt_lt.mpr (by omega))⟩, (show (xI h (xR h 18 0) (k).toNatClampNeg) = (Int32.ofInt (32)) from by rw [vref hg.1 (rfl : vRf 18 0 = [19])]; exact Int32.toInt_inj.mp (by omega))⟩, (show (Int32.ofInt (1)) ≤ tp from Int32.le_iff_toInt_le.mpr (by omega))⟩, (vnn hg.1 (rfl : vRf 18 4 = [23]) (by decide))⟩, (vnn hg.1 (rfl : vRf 18 4 = [23]) (by decide))⟩, (vp_of (i := (tp - (Int32.ofInt (1)))) (n := 64) (by omega) (by omega))⟩, cb3⟩, (vp_of (i := (tp - (Int32.ofInt (1)))) (n := 64) (by omega) (by omega))⟩
        rw [vref hg.1 (rfl : vRf 18 0 = [19]), vref hg.1 (rfl : vRf 18 4 = [23])] at t5
        have G : mL 23 h (xsetL h 23 ((tp - (Int32.ofInt (1)))).toNatClampNeg (Int64.ofInt (0))) := mL.set hg
        have d0 := dcb3
        rw [nm1, sk.1.1] at d0
        have d0 : ¬ V a = 0 := d0
        have ev : ((Int64.ofInt (0))).toInt = (if V a = 0 then 1 else 0) := by rw [if_neg d0]; rfl
        have zv : zM ((Int64.ofInt (0))) := by unfold zM; rw [ev]; split <;> decide
        have sk2 : zsk 23 (zs V i (if V a = 0 then 1 else 0)) (i :: t) (xsetL h 23 ((tp - (Int32.ofInt (1)))).toNatClampNeg (Int64.ofInt (0))) := ⟨by rw [← nm1, yL_same, zs_same]; exact ⟨ev, zv⟩, zsk_fr (fun j hj => yL_ne (eq_false (fun z => by have := z.2; omega))) (fun a ha => zs_ne (by have := lb2 a (List.mem_cons_of_mem _ ha); omega)) sk.2⟩
        obtain ⟨v, pcR, L', h2, z1, z2, z3, z4, z5⟩ := ck_workL3_58 l Z nm w W f T hw hW hT HT eT m (i + 1) (i :: t) (zs V i (if V a = 0 then 1 else 0)) tp (k + Int32.ofInt (1)) (xi (xI h 19 (k).toNatClampNeg)) (o6) (o7) (xsetL h 23 ((tp - (Int32.ofInt (1)))).toNatClampNeg (Int64.ofInt (0))) G.1 (fun j hj => by rw [G.2.1, G.2.1]; exact kf j hj) (fun j hj => by rw [G.2.1, G.2.1]; exact ko j hj) (fun j hj => by rw [G.2.2.2 58 j (by decide)]; exact hn j hj) (by omega) (by omega) hl1 (by omega) (by first | omega | (rw [List.length_cons]; omega)) sk2
        exact ⟨v, pcR, L', h2, t5.tr z1, z2, z3, G.tr z4, z5⟩
    · have lb2 := lb.2
      have et : tp.toInt = (t.length : Int) + 1 + 1 := by rw [et, List.length_cons, List.length_cons]; rfl
      have eo := zop_bin (nm := nm) (V := V) cb ea ec
      have lt64 := lb.1; rw [List.length_cons, List.length_cons] at lt64
      have cb' : 7 ≤ Z (300 + i) ∧ Z (300 + i) ≤ 31 := zbo_b cb
      have t6 : XT l 2 45 false 78 153 6051 10 [xf 4 18, xi w, xf 40007 58, xi tp, xi k, o5, o6, o7] [] h 146 [xf 4 18, xi w, xf 40007 58, xi (tp + Int32.ofInt (-1)), xi k, xi (xI h (xR h 18 0) (k).toNatClampNeg), o6, o7] [] h := XT_path (l := l) (fr := 2) (lo := 45) (full := false) (M := 78) (n := 153) (u := 6051) (pc := 10) (L := [xf 4 18, xi w, xf 40007 58, xi tp, xi k, o5, o6, o7]) (st := []) (h := h) (inl := []) (n' := 60) (sp := [146]) (o := [0, 0, 1, 1, 1]) rfl rfl ⟨rfl, rfl, rfl⟩ rfl ⟨Nat.le_of_eq hg.2.2.2.1, Nat.le_of_eq hg.2.2.2.2⟩ ⟨⟨⟨⟨⟨⟨⟨⟨⟨trivial, (vnn hg.1 (rfl : vRf 18 3 = [22]) (by decide))⟩, (vp_of (i := w) (n := 3) (by omega) (by omega))⟩, (show ¬ (xI h (xR h 18 3) (w).toNatClampNeg) ≤ k from by rw [vref hg.1 (rfl : vRf 18 3 = [22])]; exact fun z => absurd (Int32.le_iff_toInt_le.mp z) (by omega))⟩, (vnn hg.1 (rfl : vRf 18 0 = [19]) (by decide))⟩, (vp_of (i := k) (n := 64) (by omega) (by omega))⟩, (show ¬ (xI h (xR h 18 0) (k).toNatClampNeg) = (Int32.ofInt (2)) from by rw [vref hg.1 (rfl : vRf 18 0 = [19])]; exact fun z => absurd (congrArg Int32.toInt z) (by omega))⟩, (show (xI h (xR h 18 0) (k).toNatClampNeg) < (Int32.ofInt (33)) from by rw [vref hg.1 (rfl : vRf 18 0 = [19])]; exact Int32.lt_iff_toInt_lt.mpr (by omega))⟩, (show ¬ (xI h (xR h 18 0) (k).toNatClampNeg) = (Int32.ofInt (32)) from by rw [vref hg.1 (rfl : vRf 18 0 = [19])]; exact fun z => absurd (congrArg Int32.toInt z) (by omega))⟩, (show (Int32.ofInt (2)) ≤ tp from Int32.le_iff_toInt_le.mpr (by omega))⟩
      rw [vref hg.1 (rfl : vRf 18 0 = [19])] at t6
      obtain ⟨X, hX⟩ : ∃ X, X = tp + Int32.ofInt (-1) := ⟨_, rfl⟩
      rw [← hX] at t6
      have tm : X.toInt = (t.length : Int) + 1 := by rw [hX]; exact y_min et (by omega)
      have tm2 : (X - Int32.ofInt (1)).toInt = t.length := y_sbn tm (by omega)
      have n2 : X.toNatClampNeg = t.length + 1 := zi_ix (by omega)
      have n3 : (X - Int32.ofInt (1)).toNatClampNeg = t.length := zi_ix tm2
      obtain ⟨⟨kc1, kc2⟩, ⟨ka1, ka2⟩, skt⟩ := sk
      rw [List.length_cons] at kc1 kc2
      rw [← n2] at kc1 kc2
      rw [← n3] at ka1 ka2
      have t7 : XT l 2 45 false 78 153 6051 146 [xf 4 18, xi w, xf 40007 58, xi X, xi k, xi (xI h 19 (k).toNatClampNeg), o6, o7] [] h 162 [xf 4 18, xi w, xf 40007 58, xi X, xi k, xi (xI h 19 (k).toNatClampNeg), o6, o7] [xl (xL h (xR h 18 4) (X).toNatClampNeg), xl (xL h (xR h 18 4) ((X - (Int32.ofInt (1)))).toNatClampNeg), xi (xI h 19 (k).toNatClampNeg)] h := XT_path (l := l) (fr := 2) (lo := 45) (full := false) (M := 78) (n := 153) (u := 6051) (pc := 146) (L := [xf 4 18, xi w, xf 40007 58, xi X, xi k, xi (xI h 19 (k).toNatClampNeg), o6, o7]) (st := []) (h := h) (inl := []) (n' := 60) (sp := [162]) (o := []) rfl rfl ⟨rfl, rfl, rfl⟩ rfl ⟨Nat.le_of_eq hg.2.2.2.1, Nat.le_of_eq hg.2.2.2.2⟩ ⟨⟨⟨⟨trivial, (vnn hg.1 (rfl : vRf 18 4 = [23]) (by decide))⟩, (vp_of (i := (X - (Int32.ofInt (1)))) (n := 64) (by omega) (by omega))⟩, (vnn hg.1 (rfl : vRf 18 4 = [23]) (by decide))⟩, (vp_of (i := X) (n := 64) (by omega) (by omega))⟩
      rw [vref hg.1 (rfl : vRf 18 4 = [23])] at t7
      have t8 := t6.tr t7
      obtain ⟨y, cj, zj⟩ := ck_joined l (xI h 19 (k).toNatClampNeg) (xL h 23 ((X - (Int32.ofInt (1)))).toNatClampNeg) (xL h 23 (X).toNatClampNeg) h hg ka2 kc2 (by rw [eop]; exact cb)
      rw [eop, ka1, kc1] at zj
      have t9 : XT l 2 45 false 78 153 6051 162 [xf 4 18, xi w, xf 40007 58, xi X, xi k, xi (xI h 19 (k).toNatClampNeg), o6, o7] [xl (xL h 23 (X).toNatClampNeg), xl (xL h 23 ((X - (Int32.ofInt (1)))).toNatClampNeg), xi (xI h 19 (k).toNatClampNeg)] h 165 [xf 4 18, xi w, xf 40007 58, xi X, xi k, xi (xI h 19 (k).toNatClampNeg), o6, o7] [xl y] h := XT_call (l := l) (fr := 2) (lo := 45) (full := false) (M := 78) (n := 153) (u := 6051) (pc := 162) (L := [xf 4 18, xi w, xf 40007 58, xi X, xi k, xi (xI h 19 (k).toNatClampNeg), o6, o7]) (st := [xl (xL h 23 (X).toNatClampNeg), xl (xL h 23 ((X - (Int32.ofInt (1)))).toNatClampNeg), xi (xI h 19 (k).toNatClampNeg)]) (h := h) (i := .invokestatic 79) (aux := 3) (nx := 165) (K := 79) (vs := [xi (xI h 19 (k).toNatClampNeg), xl (xL h 23 ((X - (Int32.ofInt (1)))).toNatClampNeg), xl (xL h 23 (X).toNatClampNeg)]) (rs := [xl y]) (rest := []) rfl rfl rfl rfl rfl rfl cj (by decide) (by decide) (Nat.le_of_ble_eq_true rfl) ⟨Nat.le_of_eq hg.2.2.2.1, Nat.le_of_eq hg.2.2.2.2⟩
      have t10 := t8.tr t9
      cases hz : zbin (Z (300 + i)) (V a) (V c) with
      | none =>
        rw [hz] at zj eo
        have zj : 1000000000000 < y.toInt ∨ y.toInt < -1000000000000 := zj
        rw [zlw_n eo]
        by_cases cb11 : (0 : Int32) < (lg_cmp y (Int64.ofInt (1000000000000)))
        · have el_1000000000000 : (Int64.ofInt (1000000000000)).toInt = 1000000000000 := rfl
          have dcb11 : (Int64.ofInt (1000000000000)).toInt < y.toInt := lgi_gt.mp cb11
          have t12 : XT l 2 45 false 78 153 6051 165 [xf 4 18, xi w, xf 40007 58, xi X, xi k, xi (xI h 19 (k).toNatClampNeg), o6, o7] [xl y] h 188 [xf 4 18, xi w, xf 40007 58, xi X, xi k, xi (xI h 19 (k).toNatClampNeg), xl y, xun] [xl (Int64.ofInt (-9223372036854775808))] h := XT_path (l := l) (fr := 2) (lo := 45) (full := false) (M := 78) (n := 153) (u := 6051) (pc := 165) (L := [xf 4 18, xi w, xf 40007 58, xi X, xi k, xi (xI h 19 (k).toNatClampNeg), o6, o7]) (st := [xl y]) (h := h) (inl := []) (n' := 60) (sp := [188]) (o := [1]) rfl rfl ⟨rfl, rfl, rfl⟩ rfl ⟨Nat.le_of_eq hg.2.2.2.1, Nat.le_of_eq hg.2.2.2.2⟩ ⟨trivial, cb11⟩
          have t13 := t10.tr t12
          exact ⟨_, _, _, _, t13, ⟨_, _, _, rfl, rfl, rfl⟩, rfl, mL.rf hg, (show (Int64.ofInt (-9223372036854775808)).toInt = -9223372036854775808 from rfl)⟩
        · have el_1000000000000 : (Int64.ofInt (1000000000000)).toInt = 1000000000000 := rfl
          have dcb11 : y.toInt ≤ (Int64.ofInt (1000000000000)).toInt := Int.not_lt.mp (fun z_ => cb11 (lgi_gt.mpr z_))
          by_cases cb14 : (0 : Int32) ≤ (lg_cmp y (Int64.ofInt (-1000000000000)))
          · have el_m1000000000000 : (Int64.ofInt (-1000000000000)).toInt = -1000000000000 := rfl
            have dcb14 : (Int64.ofInt (-1000000000000)).toInt ≤ y.toInt := lgi_ge.mp cb14
            have t15 : XT l 2 45 false 78 153 6051 165 [xf 4 18, xi w, xf 40007 58, xi X, xi k, xi (xI h 19 (k).toNatClampNeg), o6, o7] [xl y] h 10 [xf 4 18, xi w, xf 40007 58, xi X, xi (k + Int32.ofInt (1)), xi (xI h 19 (k).toNatClampNeg), xl y, xun] [] (xsetL h (xR h 18 4) ((X - (Int32.ofInt (1)))).toNatClampNeg y) := XT_path (l := l) (fr := 2) (lo := 45) (full := false) (M := 78) (n := 153) (u := 6051) (pc := 165) (L := [xf 4 18, xi w, xf 40007 58, xi X, xi k, xi (xI h 19 (k).toNatClampNeg), o6, o7]) (st := [xl y]) (h := h) (inl := []) (n' := 60) (sp := [10]) (o := [0, 1]) rfl rfl ⟨rfl, rfl, rfl⟩ rfl ⟨Nat.le_of_eq hg.2.2.2.1, Nat.le_of_eq hg.2.2.2.2⟩ ⟨⟨⟨⟨trivial, cb11⟩, cb14⟩, (vnn hg.1 (rfl : vRf 18 4 = [23]) (by decide))⟩, (vp_of (i := (X - (Int32.ofInt (1)))) (n := 64) (by omega) (by omega))⟩
            rw [vref hg.1 (rfl : vRf 18 4 = [23])] at t15
            have t16 := t10.tr t15
            exfalso; omega
          · have el_m1000000000000 : (Int64.ofInt (-1000000000000)).toInt = -1000000000000 := rfl
            have dcb14 : y.toInt < (Int64.ofInt (-1000000000000)).toInt := Int.not_le.mp (fun z_ => cb14 (lgi_ge.mpr z_))
            have t17 : XT l 2 45 false 78 153 6051 165 [xf 4 18, xi w, xf 40007 58, xi X, xi k, xi (xI h 19 (k).toNatClampNeg), o6, o7] [xl y] h 188 [xf 4 18, xi w, xf 40007 58, xi X, xi k, xi (xI h 19 (k).toNatClampNeg), xl y, xun] [xl (Int64.ofInt (-9223372036854775808))] h := XT_path (l := l) (fr := 2) (lo := 45) (full := false) (M := 78) (n := 153) (u := 6051) (pc := 165) (L := [xf 4 18, xi w, xf 40007 58, xi X, xi k, xi (xI h 19 (k).toNatClampNeg), o6, o7]) (st := [xl y]) (h := h) (inl := []) (n' := 60) (sp := [188]) (o := [0, 0]) rfl rfl ⟨rfl, rfl, rfl⟩ rfl ⟨Nat.le_of_eq hg.2.2.2.1, Nat.le_of_eq hg.2.2.2.2⟩ ⟨⟨trivial, cb11⟩, cb14⟩
            have t18 := t10.tr t17
            exact ⟨_, _, _, _, t18, ⟨_, _, _, rfl, rfl, rfl⟩, rfl, mL.rf hg, (show (Int64.ofInt (-9223372036854775808)).toInt = -9223372036854775808 from rfl)⟩
      | some z =>
        rw [hz] at zj eo
        obtain ⟨j1, j2, j3⟩ : y.toInt = z ∧ -1000000000000 ≤ z ∧ z ≤ 1000000000000 := zj
        rw [zlw_s eo]
        by_cases cb19 : (0 : Int32) < (lg_cmp y (Int64.ofInt (1000000000000)))
        · have el_1000000000000 : (Int64.ofInt (1000000000000)).toInt = 1000000000000 := rfl
          have dcb19 : (Int64.ofInt (1000000000000)).toInt < y.toInt := lgi_gt.mp cb19
          have t20 : XT l 2 45 false 78 153 6051 165 [xf 4 18, xi w, xf 40007 58, xi X, xi k, xi (xI h 19 (k).toNatClampNeg), o6, o7] [xl y] h 188 [xf 4 18, xi w, xf 40007 58, xi X, xi k, xi (xI h 19 (k).toNatClampNeg), xl y, xun] [xl (Int64.ofInt (-9223372036854775808))] h := XT_path (l := l) (fr := 2) (lo := 45) (full := false) (M := 78) (n := 153) (u := 6051) (pc := 165) (L := [xf 4 18, xi w, xf 40007 58, xi X, xi k, xi (xI h 19 (k).toNatClampNeg), o6, o7]) (st := [xl y]) (h := h) (inl := []) (n' := 60) (sp := [188]) (o := [1]) rfl rfl ⟨rfl, rfl, rfl⟩ rfl ⟨Nat.le_of_eq hg.2.2.2.1, Nat.le_of_eq hg.2.2.2.2⟩ ⟨trivial, cb19⟩
          have t21 := t10.tr t20
          exfalso; omega
        · have el_1000000000000 : (Int64.ofInt (1000000000000)).toInt = 1000000000000 := rfl
          have dcb19 : y.toInt ≤ (Int64.ofInt (1000000000000)).toInt := Int.not_lt.mp (fun z_ => cb19 (lgi_gt.mpr z_))
          by_cases cb22 : (0 : Int32) ≤ (lg_cmp y (Int64.ofInt (-1000000000000)))
          · have el_m1000000000000 : (Int64.ofInt (-1000000000000)).toInt = -1000000000000 := rfl
            have dcb22 : (Int64.ofInt (-1000000000000)).toInt ≤ y.toInt := lgi_ge.mp cb22
            have t23 : XT l 2 45 false 78 153 6051 165 [xf 4 18, xi w, xf 40007 58, xi X, xi k, xi (xI h 19 (k).toNatClampNeg), o6, o7] [xl y] h 10 [xf 4 18, xi w, xf 40007 58, xi X, xi (k + Int32.ofInt (1)), xi (xI h 19 (k).toNatClampNeg), xl y, xun] [] (xsetL h (xR h 18 4) ((X - (Int32.ofInt (1)))).toNatClampNeg y) := XT_path (l := l) (fr := 2) (lo := 45) (full := false) (M := 78) (n := 153) (u := 6051) (pc := 165) (L := [xf 4 18, xi w, xf 40007 58, xi X, xi k, xi (xI h 19 (k).toNatClampNeg), o6, o7]) (st := [xl y]) (h := h) (inl := []) (n' := 60) (sp := [10]) (o := [0, 1]) rfl rfl ⟨rfl, rfl, rfl⟩ rfl ⟨Nat.le_of_eq hg.2.2.2.1, Nat.le_of_eq hg.2.2.2.2⟩ ⟨⟨⟨⟨trivial, cb19⟩, cb22⟩, (vnn hg.1 (rfl : vRf 18 4 = [23]) (by decide))⟩, (vp_of (i := (X - (Int32.ofInt (1)))) (n := 64) (by omega) (by omega))⟩
            rw [vref hg.1 (rfl : vRf 18 4 = [23])] at t23
            have t24 := t10.tr t23
            have G : mL 23 h (xsetL h 23 ((X - (Int32.ofInt (1)))).toNatClampNeg y) := mL.set hg
            have sk2 : zsk 23 (zs V i z) (i :: t) (xsetL h 23 ((X - (Int32.ofInt (1)))).toNatClampNeg y) := ⟨by rw [← n3, yL_same, zs_same]; exact ⟨j1, by unfold zM; omega⟩, zsk_fr (fun j hj => yL_ne (eq_false (fun z => by have := z.2; omega))) (fun a ha => zs_ne (by have := lb2 a (List.mem_cons_of_mem _ (List.mem_cons_of_mem _ ha)); omega)) skt⟩
            obtain ⟨v, pcR, L', h2, z1, z2, z3, z4, z5⟩ := ck_workL3_58 l Z nm w W f T hw hW hT HT eT m (i + 1) (i :: t) (zs V i z) X (k + Int32.ofInt (1)) (xi (xI h 19 (k).toNatClampNeg)) (xl y) (xun) (xsetL h 23 ((X - (Int32.ofInt (1)))).toNatClampNeg y) G.1 (fun j hj => by rw [G.2.1, G.2.1]; exact kf j hj) (fun j hj => by rw [G.2.1, G.2.1]; exact ko j hj) (fun j hj => by rw [G.2.2.2 58 j (by decide)]; exact hn j hj) (by omega) (by omega) hl1 (by omega) (by first | omega | (rw [List.length_cons]; omega)) sk2
            exact ⟨v, pcR, L', h2, t24.tr z1, z2, z3, G.tr z4, z5⟩
          · have el_m1000000000000 : (Int64.ofInt (-1000000000000)).toInt = -1000000000000 := rfl
            have dcb22 : y.toInt < (Int64.ofInt (-1000000000000)).toInt := Int.not_le.mp (fun z_ => cb22 (lgi_ge.mpr z_))
            have t25 : XT l 2 45 false 78 153 6051 165 [xf 4 18, xi w, xf 40007 58, xi X, xi k, xi (xI h 19 (k).toNatClampNeg), o6, o7] [xl y] h 188 [xf 4 18, xi w, xf 40007 58, xi X, xi k, xi (xI h 19 (k).toNatClampNeg), xl y, xun] [xl (Int64.ofInt (-9223372036854775808))] h := XT_path (l := l) (fr := 2) (lo := 45) (full := false) (M := 78) (n := 153) (u := 6051) (pc := 165) (L := [xf 4 18, xi w, xf 40007 58, xi X, xi k, xi (xI h 19 (k).toNatClampNeg), o6, o7]) (st := [xl y]) (h := h) (inl := []) (n' := 60) (sp := [188]) (o := [0, 0]) rfl rfl ⟨rfl, rfl, rfl⟩ rfl ⟨Nat.le_of_eq hg.2.2.2.1, Nat.le_of_eq hg.2.2.2.2⟩ ⟨⟨trivial, cb19⟩, cb22⟩
            have t26 := t10.tr t25
            exfalso; omega
set_option maxRecDepth 100000 in
set_option maxHeartbeats 4000000 in
theorem ck_work3_58 (l : Launch) (Z nm : Nat → Int) (w : Int32) (W : Nat) (hw : w.toInt = W) (hW : W < 3) (LW : zLW Z) (g6 : zG Z) (h : XH) (hg : mI h) (kf : kF 21 22 Z h) (ko : kO 18 19 20 Z h) (hn : ∀ j : Nat, j < 7 → (xL h 58 j).toInt = nm j ∧ zM (xL h 58 j)) : ∃ v h', CX l 2 45 false 78 [xf 4 18, xi w, xf 40007 58] h [xl v] h' ∧ mL 23 h h' ∧ zwv (zL Z nm W) v := by
  have bf : 0 ≤ (xI h 21 W).toInt := by have z := vbnd hg.1 21 W; rw [vI_u rfl (rfl : vRow 21 = (0, 64))] at z; exact z.1
  obtain ⟨kf1, kf2⟩ := kf W hW
  have efr : (xI h 21 w.toNatClampNeg).toInt = Z (240 + W) := by rw [zi_ix hw]; exact kf1
  have eto : (xI h 22 w.toNatClampNeg).toInt = Z (250 + W) := by rw [zi_ix hw]; exact kf2
  have e_0 : (Int32.ofInt (0)).toInt = 0 := rfl
  have e_1 : (Int32.ofInt (1)).toInt = 1 := rfl
  have t1 : XT l 2 45 false 78 153 6051 0 [xf 4 18, xi w, xf 40007 58, xun, xun, xun, xun, xun] [] h 10 [xf 4 18, xi w, xf 40007 58, xi (Int32.ofInt (0)), xi (xI h (xR h 18 2) (w).toNatClampNeg), xun, xun, xun] [] h := XT_path (l := l) (fr := 2) (lo := 45) (full := false) (M := 78) (n := 153) (u := 6051) (pc := 0) (L := [xf 4 18, xi w, xf 40007 58, xun, xun, xun, xun, xun]) (st := []) (h := h) (inl := []) (n' := 60) (sp := [10]) (o := []) rfl rfl ⟨rfl, rfl, rfl⟩ rfl ⟨Nat.le_of_eq hg.2.2.2.1, Nat.le_of_eq hg.2.2.2.2⟩ ⟨⟨trivial, (vnn hg.1 (rfl : vRf 18 2 = [21]) (by decide))⟩, (vp_of (i := w) (n := 3) (by omega) (by omega))⟩
  rw [vref hg.1 (rfl : vRf 18 2 = [21])] at t1
  by_cases tl : Z (240 + W) < Z (250 + W)
  · obtain ⟨a1, a2, a3⟩ := LW W hW tl
    have g3 := g6.2.2; have g2 := g6.2.1
    obtain ⟨v, pcR, L', h', z1, z2, z3, z4, z5⟩ := ck_workL3_58 l Z nm w W (Z (240 + W)).toNat (Z (250 + W)).toNat hw hW (by omega) a3 (by omega) ((Z (250 + W)).toNat - (Z (240 + W)).toNat) (Z (240 + W)).toNat [] (fun _ => 0) (Int32.ofInt (0)) (xI h 21 (w).toNatClampNeg) xun xun xun h hg kf (fun j hj => ko.2.2 j (by omega)) hn (by omega) (Nat.le_refl _) (by rw [Nat.sub_self]; rfl) (by omega) (by rw [e_0]; rfl) trivial
    refine ⟨v, h', CX_ofT (h' := h') (by decide) rfl rfl trivial z2 z3 ⟨Nat.le_of_eq z4.1.2.2.2.1.symm, Nat.le_of_eq z4.1.2.2.2.2.symm⟩ (t1.tr z1), z4, ?_⟩
    unfold zL
    rw [if_pos tl]
    cases hz : zlw Z nm ((Z (250 + W)).toNat - (Z (240 + W)).toNat) (Z (240 + W)).toNat (fun _ => 0) with
    | none => rw [hz] at z5; exact z5
    | some V => rw [hz] at z5; exact z5
  · have eL : zL Z nm W = none := if_neg tl
    rw [eL]
    have t2 : XT l 2 45 false 78 153 6051 10 [xf 4 18, xi w, xf 40007 58, xi (Int32.ofInt (0)), xi (xI h 21 (w).toNatClampNeg), xun, xun, xun] [] h 222 [xf 4 18, xi w, xf 40007 58, xi (Int32.ofInt (0)), xi (xI h 21 (w).toNatClampNeg), xun, xun, xun] [xl (Int64.ofInt (-9223372036854775808))] h := XT_path (l := l) (fr := 2) (lo := 45) (full := false) (M := 78) (n := 153) (u := 6051) (pc := 10) (L := [xf 4 18, xi w, xf 40007 58, xi (Int32.ofInt (0)), xi (xI h 21 (w).toNatClampNeg), xun, xun, xun]) (st := []) (h := h) (inl := []) (n' := 60) (sp := [222]) (o := [1, 1]) rfl rfl ⟨rfl, rfl, rfl⟩ rfl ⟨Nat.le_of_eq hg.2.2.2.1, Nat.le_of_eq hg.2.2.2.2⟩ ⟨⟨⟨⟨trivial, (vnn hg.1 (rfl : vRf 18 3 = [22]) (by decide))⟩, (vp_of (i := w) (n := 3) (by omega) (by omega))⟩, (show (xI h (xR h 18 3) (w).toNatClampNeg) ≤ (xI h 21 (w).toNatClampNeg) from by rw [vref hg.1 (rfl : vRf 18 3 = [22])]; exact Int32.le_iff_toInt_le.mpr (by omega))⟩, (show ¬ (Int32.ofInt (0)) = (Int32.ofInt (1)) from fun z => absurd (congrArg Int32.toInt z) (by omega))⟩
    have t3 := t1.tr t2
    exact ⟨_, _, CX_ofT (h' := h) (by decide) rfl rfl trivial ⟨_, _, _, rfl, rfl, rfl⟩ rfl ⟨Nat.le_of_eq hg.2.2.2.1.symm, Nat.le_of_eq hg.2.2.2.2.symm⟩ t3, mL.rf hg, rfl⟩
set_option maxRecDepth 100000 in
set_option maxHeartbeats 4000000 in
theorem ck_workL3_69 (l : Launch) (Z nm : Nat → Int) (w : Int32) (W f T : Nat) (hw : w.toInt = W) (hW : W < 3) (hT : T ≤ 64) (HT : zrn Z f (T - f) [T - 1]) (eT : Z (250 + W) = T) : ∀ (m i : Nat) (ls : List Nat) (V : Nat → Int) (tp k : Int32) (o5 o6 o7 : XV) (h : XH), mI h → kF 21 22 Z h → (∀ j : Nat, j < T → (xI h 19 j).toInt = Z (300 + j) ∧ (xI h 20 j).toInt = Z (400 + j)) → (∀ j : Nat, j < 7 → (xL h 69 j).toInt = nm j ∧ zM (xL h 69 j)) → i + m = T → f ≤ i → zrn Z f (i - f) ls → k.toInt = i → tp.toInt = ls.length → zsk 23 V ls h → ∃ v pcR L' h', XT l 2 45 false 78 153 6051 10 [xf 4 18, xi w, xf 40007 69, xi tp, xi k, o5, o6, o7] [] h pcR L' [xl v] h' ∧ XE 78 pcR [xl v] ∧ L'.length = 8 ∧ mL 23 h h' ∧ zwr (zlw Z nm m i V) T v
  | 0, i, ls, V, tp, k, o5, o6, o7, h, hg, kf, ko, hn, hi, hf, hl, ek, et, sk => by
    have eto : (xI h 22 w.toNatClampNeg).toInt = Z (250 + W) := by rw [zi_ix hw]; exact (kf W hW).2
    have e_0 : (Int32.ofInt (0)).toInt = 0 := rfl
    have e_1 : (Int32.ofInt (1)).toInt = 1 := rfl
    have e_2 : (Int32.ofInt (2)).toInt = 2 := rfl
    have e_32 : (Int32.ofInt (32)).toInt = 32 := rfl
    have e_33 : (Int32.ofInt (33)).toInt = 33 := rfl
    have e_64 : (Int32.ofInt (64)).toInt = 64 := rfl
    have lb := zrn_b hl
    obtain rfl : i = T := by omega
    obtain rfl := zrn_det hl HT
    have et : tp.toInt = 1 := et
    have t1 : XT l 2 45 false 78 153 6051 10 [xf 4 18, xi w, xf 40007 69, xi tp, xi k, o5, o6, o7] [] h 222 [xf 4 18, xi w, xf 40007 69, xi tp, xi k, o5, o6, o7] [xl (xL h (xR h 18 4) ((Int32.ofInt (0))).toNatClampNeg)] h := XT_path (l := l) (fr := 2) (lo := 45) (full := false) (M := 78) (n := 153) (u := 6051) (pc := 10) (L := [xf 4 18, xi w, xf 40007 69, xi tp, xi k, o5, o6, o7]) (st := []) (h := h) (inl := []) (n' := 60) (sp := [222]) (o := [1, 0]) rfl rfl ⟨rfl, rfl, rfl⟩ rfl ⟨Nat.le_of_eq hg.2.2.2.1, Nat.le_of_eq hg.2.2.2.2⟩ ⟨⟨⟨⟨⟨⟨trivial, (vnn hg.1 (rfl : vRf 18 3 = [22]) (by decide))⟩, (vp_of (i := w) (n := 3) (by omega) (by omega))⟩, (show (xI h (xR h 18 3) (w).toNatClampNeg) ≤ k from by rw [vref hg.1 (rfl : vRf 18 3 = [22])]; exact Int32.le_iff_toInt_le.mpr (by omega))⟩, (show tp = (Int32.ofInt (1)) from Int32.toInt_inj.mp (by omega))⟩, (vnn hg.1 (rfl : vRf 18 4 = [23]) (by decide))⟩, (vp_of (i := (Int32.ofInt (0))) (n := 64) (by omega) (by omega))⟩
    rw [vref hg.1 (rfl : vRf 18 4 = [23])] at t1
    exact ⟨_, _, _, _, t1, ⟨_, _, _, rfl, rfl, rfl⟩, rfl, mL.rf hg, sk.1.1, by have y := sk.1.2.1; have y1 := sk.1.1; have y2 : (xL h 23 0).toInt = V (i - 1) := y1; have y3 : -1000000000000 ≤ (xL h 23 0).toInt := y; omega, by have y := sk.1.2.2; have y1 := sk.1.1; have y2 : (xL h 23 0).toInt = V (i - 1) := y1; have y3 : (xL h 23 0).toInt ≤ 1000000000000 := y; omega⟩
  | m + 1, i, ls, V, tp, k, o5, o6, o7, h, hg, kf, ko, hn, hi, hf, hl, ek, et, sk => by
    have eto : (xI h 22 w.toNatClampNeg).toInt = Z (250 + W) := by rw [zi_ix hw]; exact (kf W hW).2
    have e_0 : (Int32.ofInt (0)).toInt = 0 := rfl
    have e_1 : (Int32.ofInt (1)).toInt = 1 := rfl
    have e_2 : (Int32.ofInt (2)).toInt = 2 := rfl
    have e_32 : (Int32.ofInt (32)).toInt = 32 := rfl
    have e_33 : (Int32.ofInt (33)).toInt = 33 := rfl
    have e_64 : (Int32.ofInt (64)).toInt = 64 := rfl
    have lb := zrn_b hl
    obtain ⟨l1, l0, la, lx⟩ := zrn_pre (k := i - f + 1) (m := m) (l := [T - 1]) (by rw [show i - f + 1 + m = T - f by omega]; exact HT)
    obtain rfl := zrn_det la hl
    have hl1 : zrn Z f (i + 1 - f) l1 := by rw [show i + 1 - f = i - f + 1 by omega]; exact ⟨l0, la, lx⟩
    rw [show f + (i - f) = i by omega] at lx
    obtain ⟨ko1, ko2⟩ := ko i (by omega)
    have eop : (xI h 19 k.toNatClampNeg).toInt = Z (300 + i) := by rw [zi_ix ek]; exact ko1
    have ecv : (xI h 20 k.toNatClampNeg).toInt = Z (400 + i) := by rw [zi_ix ek]; exact ko2
    have sk1 := y_suc1 (k := k) (by omega) (by omega)
    have nt := zi_ix et
    have bcv : -2147483648 ≤ (xI h 20 k.toNatClampNeg).toInt ∧ (xI h 20 k.toNatClampNeg).toInt ≤ 2147483647 := i32r_of _
    rcases lx with ⟨lf, rfl⟩ | ⟨c32, a, t, rfl, ea, rfl⟩ | ⟨cb, a, c, t, rfl, ea, ec, rfl⟩
    · have lb2 := lb.2
      have st1 := y_suc1 (k := tp) (by omega) (by omega)
      have lt64 : l0.length < 64 := by have := lb.1; omega
      rcases lf with ⟨c2, e45⟩ | ⟨c33, c39, e53⟩
      · have eo : zop Z nm V i = some (Z (500 + i)) := zop_2 c2
        rw [zlw_s eo]
        have t1 : XT l 2 45 false 78 153 6051 10 [xf 4 18, xi w, xf 40007 69, xi tp, xi k, o5, o6, o7] [] h 10 [xf 4 18, xi w, xf 40007 69, xi (tp + Int32.ofInt (1)), xi (k + Int32.ofInt (1)), xi (xI h (xR h 18 0) (k).toNatClampNeg), o6, o7] [] (xsetL h (xR h 18 4) (tp).toNatClampNeg ((xI h (xR h 18 1) (k).toNatClampNeg)).toInt64) := XT_path (l := l) (fr := 2) (lo := 45) (full := false) (M := 78) (n := 153) (u := 6051) (pc := 10) (L := [xf 4 18, xi w, xf 40007 69, xi tp, xi k, o5, o6, o7]) (st := []) (h := h) (inl := []) (n' := 60) (sp := [10]) (o := [0, 1, 1, 0]) rfl rfl ⟨rfl, rfl, rfl⟩ rfl ⟨Nat.le_of_eq hg.2.2.2.1, Nat.le_of_eq hg.2.2.2.2⟩ ⟨⟨⟨⟨⟨⟨⟨⟨⟨⟨⟨⟨trivial, (vnn hg.1 (rfl : vRf 18 3 = [22]) (by decide))⟩, (vp_of (i := w) (n := 3) (by omega) (by omega))⟩, (show ¬ (xI h (xR h 18 3) (w).toNatClampNeg) ≤ k from by rw [vref hg.1 (rfl : vRf 18 3 = [22])]; exact fun z => absurd (Int32.le_iff_toInt_le.mp z) (by omega))⟩, (vnn hg.1 (rfl : vRf 18 0 = [19]) (by decide))⟩, (vp_of (i := k) (n := 64) (by omega) (by omega))⟩, (show (xI h (xR h 18 0) (k).toNatClampNeg) = (Int32.ofInt (2)) from by rw [vref hg.1 (rfl : vRf 18 0 = [19])]; exact Int32.toInt_inj.mp (by omega))⟩, (show tp < (Int32.ofInt (64)) from Int32.lt_iff_toInt_lt.mpr (by omega))⟩, (vnn hg.1 (rfl : vRf 18 4 = [23]) (by decide))⟩, (show (xI h (xR h 18 0) (k).toNatClampNeg) = (Int32.ofInt (2)) from by rw [vref hg.1 (rfl : vRf 18 0 = [19])]; exact Int32.toInt_inj.mp (by omega))⟩, (vnn hg.1 (rfl : vRf 18 1 = [20]) (by decide))⟩, (vp_of (i := k) (n := 64) (by omega) (by omega))⟩, (vp_of (i := tp) (n := 64) (by omega) (by omega))⟩
        rw [vref hg.1 (rfl : vRf 18 0 = [19]), vref hg.1 (rfl : vRf 18 4 = [23]), vref hg.1 (rfl : vRf 18 1 = [20])] at t1
        have G : mL 23 h (xsetL h 23 (tp).toNatClampNeg ((xI h 20 (k).toNatClampNeg)).toInt64) := mL.set hg
        have ev : (((xI h 20 (k).toNatClampNeg)).toInt64).toInt = Z (500 + i) := by rw [Int32.toInt_toInt64, ecv, e45]
        have zv : zM (((xI h 20 (k).toNatClampNeg)).toInt64) := by unfold zM; rw [ev]; omega
        have sk2 : zsk 23 (zs V i (Z (500 + i))) (i :: l0) (xsetL h 23 (tp).toNatClampNeg ((xI h 20 (k).toNatClampNeg)).toInt64) := ⟨by rw [← nt, yL_same, zs_same]; exact ⟨ev, zv⟩, zsk_fr (fun j hj => yL_ne (eq_false (fun z => by have := z.2; omega))) (fun a ha => zs_ne (by have := lb2 a ha; omega)) sk⟩
        obtain ⟨v, pcR, L', h2, z1, z2, z3, z4, z5⟩ := ck_workL3_69 l Z nm w W f T hw hW hT HT eT m (i + 1) (i :: l0) (zs V i (Z (500 + i))) (tp + Int32.ofInt (1)) (k + Int32.ofInt (1)) (xi (xI h 19 (k).toNatClampNeg)) (o6) (o7) (xsetL h 23 (tp).toNatClampNeg ((xI h 20 (k).toNatClampNeg)).toInt64) G.1 (fun j hj => by rw [G.2.1, G.2.1]; exact kf j hj) (fun j hj => by rw [G.2.1, G.2.1]; exact ko j hj) (fun j hj => by rw [G.2.2.2 69 j (by decide)]; exact hn j hj) (by omega) (by omega) hl1 (by omega) (by first | omega | (rw [List.length_cons]; omega)) sk2
        exact ⟨v, pcR, L', h2, t1.tr z1, z2, z3, G.tr z4, z5⟩
      · have eo : zop Z nm V i = some (nm (Z (500 + i)).toNat) := zop_nm c33
        have eix : ((xI h 19 k.toNatClampNeg) - (Int32.ofInt (33))).toInt = Z (500 + i) := by rw [Int32.toInt_sub, eop, e_33, e53]; exact Int.bmod_eq_of_le (by omega) (by omega)
        have nix : ((xI h 19 k.toNatClampNeg) - (Int32.ofInt (33))).toNatClampNeg = (Z (500 + i)).toNat := by show ((xI h 19 k.toNatClampNeg) - (Int32.ofInt (33))).toInt.toNat = _; rw [eix]
        rw [zlw_s eo]
        have t2 : XT l 2 45 false 78 153 6051 10 [xf 4 18, xi w, xf 40007 69, xi tp, xi k, o5, o6, o7] [] h 10 [xf 4 18, xi w, xf 40007 69, xi (tp + Int32.ofInt (1)), xi (k + Int32.ofInt (1)), xi (xI h (xR h 18 0) (k).toNatClampNeg), o6, o7] [] (xsetL h (xR h 18 4) (tp).toNatClampNeg (xL h 69 (((xI h (xR h 18 0) (k).toNatClampNeg) - (Int32.ofInt (33)))).toNatClampNeg)) := XT_path (l := l) (fr := 2) (lo := 45) (full := false) (M := 78) (n := 153) (u := 6051) (pc := 10) (L := [xf 4 18, xi w, xf 40007 69, xi tp, xi k, o5, o6, o7]) (st := []) (h := h) (inl := []) (n' := 60) (sp := [10]) (o := [0, 0, 0, 1, 1]) rfl rfl ⟨rfl, rfl, rfl⟩ rfl ⟨Nat.le_of_eq hg.2.2.2.1, Nat.le_of_eq hg.2.2.2.2⟩ ⟨⟨⟨⟨⟨⟨⟨⟨⟨⟨⟨⟨trivial, (vnn hg.1 (rfl : vRf 18 3 = [22]) (by decide))⟩, (vp_of (i := w) (n := 3) (by omega) (by omega))⟩, (show ¬ (xI h (xR h 18 3) (w).toNatClampNeg) ≤ k from by rw [vref hg.1 (rfl : vRf 18 3 = [22])]; exact fun z => absurd (Int32.le_iff_toInt_le.mp z) (by omega))⟩, (vnn hg.1 (rfl : vRf 18 0 = [19]) (by decide))⟩, (vp_of (i := k) (n := 64) (by omega) (by omega))⟩, (show ¬ (xI h (xR h 18 0) (k).toNatClampNeg) = (Int32.ofInt (2)) from by rw [vref hg.1 (rfl : vRf 18 0 = [19])]; exact fun z => absurd (congrArg Int32.toInt z) (by omega))⟩, (show ¬ (xI h (xR h 18 0) (k).toNatClampNeg) < (Int32.ofInt (33)) from by rw [vref hg.1 (rfl : vRf 18 0 = [19])]; exact fun z => absurd (Int32.lt_iff_toInt_lt.mp z) (by omega))⟩, (show tp < (Int32.ofInt (64)) from Int32.lt_iff_toInt_lt.mpr (by omega))⟩, (vnn hg.1 (rfl : vRf 18 4 = [23]) (by decide))⟩, (show ¬ (xI h (xR h 18 0) (k).toNatClampNeg) = (Int32.ofInt (2)) from by rw [vref hg.1 (rfl : vRf 18 0 = [19])]; exact fun z => absurd (congrArg Int32.toInt z) (by omega))⟩, (show vp_in (((xI h (xR h 18 0) (k).toNatClampNeg) - (Int32.ofInt (33)))) (7) from (by rw [vref hg.1 (rfl : vRf 18 0 = [19])]; exact (vp_of (i := ((xI h 19 (k).toNatClampNeg) - (Int32.ofInt (33)))) (n := 7) (by omega) (by omega) : vp_in (((xI h 19 (k).toNatClampNeg) - (Int32.ofInt (33)))) (7))))⟩, (vp_of (i := tp) (n := 64) (by omega) (by omega))⟩
        rw [vref hg.1 (rfl : vRf 18 0 = [19]), vref hg.1 (rfl : vRf 18 4 = [23])] at t2
        have G : mL 23 h (xsetL h 23 (tp).toNatClampNeg (xL h 69 (((xI h 19 (k).toNatClampNeg) - (Int32.ofInt (33)))).toNatClampNeg)) := mL.set hg
        have ev : ((xL h 69 (((xI h 19 (k).toNatClampNeg) - (Int32.ofInt (33)))).toNatClampNeg)).toInt = nm (Z (500 + i)).toNat := by rw [nix]; exact (hn _ (by omega)).1
        have zv : zM ((xL h 69 (((xI h 19 (k).toNatClampNeg) - (Int32.ofInt (33)))).toNatClampNeg)) := by rw [nix]; exact (hn _ (by omega)).2
        have sk2 : zsk 23 (zs V i (nm (Z (500 + i)).toNat)) (i :: l0) (xsetL h 23 (tp).toNatClampNeg (xL h 69 (((xI h 19 (k).toNatClampNeg) - (Int32.ofInt (33)))).toNatClampNeg)) := ⟨by rw [← nt, yL_same, zs_same]; exact ⟨ev, zv⟩, zsk_fr (fun j hj => yL_ne (eq_false (fun z => by have := z.2; omega))) (fun a ha => zs_ne (by have := lb2 a ha; omega)) sk⟩
        obtain ⟨v, pcR, L', h2, z1, z2, z3, z4, z5⟩ := ck_workL3_69 l Z nm w W f T hw hW hT HT eT m (i + 1) (i :: l0) (zs V i (nm (Z (500 + i)).toNat)) (tp + Int32.ofInt (1)) (k + Int32.ofInt (1)) (xi (xI h 19 (k).toNatClampNeg)) (o6) (o7) (xsetL h 23 (tp).toNatClampNeg (xL h 69 (((xI h 19 (k).toNatClampNeg) - (Int32.ofInt (33)))).toNatClampNeg)) G.1 (fun j hj => by rw [G.2.1, G.2.1]; exact kf j hj) (fun j hj => by rw [G.2.1, G.2.1]; exact ko j hj) (fun j hj => by rw [G.2.2.2 69 j (by decide)]; exact hn j hj) (by omega) (by omega) hl1 (by omega) (by first | omega | (rw [List.length_cons]; omega)) sk2
        exact ⟨v, pcR, L', h2, t2.tr z1, z2, z3, G.tr z4, z5⟩
    · have lb2 := lb.2
      have et : tp.toInt = (t.length : Int) + 1 := by rw [et, List.length_cons]; rfl
      have eo := zop_not (nm := nm) (V := V) c32 ea
      have tm := y_sb1 (k := tp) (by omega) (by omega)
      have nm1 : (tp - Int32.ofInt (1)).toNatClampNeg = t.length := zi_ix (by omega)
      have lt64 := lb.1; rw [List.length_cons] at lt64
      rw [zlw_s eo]
      by_cases cb3 : (lg_cmp (xL h (xR h 18 4) ((tp - (Int32.ofInt (1)))).toNatClampNeg) (Int64.ofInt (0))) = 0
      · have el_0 : (Int64.ofInt (0)).toInt = 0 := rfl
        have cb3r := cb3
        rw [vref hg.1 (rfl : vRf 18 4 = [23])] at cb3r
        have dcb3 : (xL h 23 ((tp - (Int32.ofInt (1)))).toNatClampNeg).toInt = (Int64.ofInt (0)).toInt := lgi_eq.mp cb3r
        have t4 : XT l 2 45 false 78 153 6051 10 [xf 4 18, xi w, xf 40007 69, xi tp, xi k, o5, o6, o7] [] h 10 [xf 4 18, xi w, xf 40007 69, xi tp, xi (k + Int32.ofInt (1)), xi (xI h (xR h 18 0) (k).toNatClampNeg), o6, o7] [] (xsetL h (xR h 18 4) ((tp - (Int32.ofInt (1)))).toNatClampNeg (Int64.ofInt (1))) := XT_path (l := l) (fr := 2) (lo := 45) (full := false) (M := 78) (n := 153) (u := 6051) (pc := 10) (L := [xf 4 18, xi w, xf 40007 69, xi tp, xi k, o5, o6, o7]) (st := []) (h := h) (inl := []) (n' := 60) (sp := [10]) (o := [0, 0, 1, 0, 1, 0]) rfl rfl ⟨rfl, rfl, rfl⟩ rfl ⟨Nat.le_of_eq hg.2.2.2.1, Nat.le_of_eq hg.2.2.2.2⟩ ⟨⟨⟨⟨⟨⟨⟨⟨⟨⟨⟨⟨⟨⟨trivial, (vnn hg.1 (rfl : vRf 18 3 = [22]) (by decide))⟩, (vp_of (i := w) (n := 3) (by omega) (by omega))⟩, (show ¬ (xI h (xR h 18 3) (w).toNatClampNeg) ≤ k from by rw [vref hg.1 (rfl : vRf 18 3 = [22])]; exact fun z => absurd (Int32.le_iff_toInt_le.mp z) (by omega))⟩, (vnn hg.1 (rfl : vRf 18 0 = [19]) (by decide))⟩, (vp_of (i := k) (n := 64) (by omega) (by omega))⟩, (show ¬ (xI h (xR h 18 0) (k).toNatClampNeg) = (Int32.ofInt (2)) from by rw [vref hg.1 (rfl : vRf 18 0 = [19])]; exact fun z => absurd (congrArg Int32.toInt z) (by omega))⟩, (show (xI h (xR h 18 0) (k).toNatClampNeg) < (Int32.ofInt (33)) from by rw [vref hg.1 (rfl : vRf 18 0 = [19])]; exact Int32.lt_iff_toInt_lt.mpr (by omega))⟩, (show (xI h (xR h 18 0) (k).toNatClampNeg) = (Int32.ofInt (32)) from by rw [vref hg.1 (rfl : vRf 18 0 = [19])]; exact Int32.toInt_inj.mp (by omega))⟩, (show (Int32.ofInt (1)) ≤ tp from Int32.le_iff_toInt_le.mpr (by omega))⟩, (vnn hg.1 (rfl : vRf 18 4 = [23]) (by decide))⟩, (vnn hg.1 (rfl : vRf 18 4 = [23]) (by decide))⟩, (vp_of (i := (tp - (Int32.ofInt (1)))) (n := 64) (by omega) (by omega))⟩, cb3⟩, (vp_of (i := (tp - (Int32.ofInt (1)))) (n := 64) (by omega) (by omega))⟩
        rw [vref hg.1 (rfl : vRf 18 0 = [19]), vref hg.1 (rfl : vRf 18 4 = [23])] at t4
        have G : mL 23 h (xsetL h 23 ((tp - (Int32.ofInt (1)))).toNatClampNeg (Int64.ofInt (1))) := mL.set hg
        have d0 := dcb3
        rw [nm1, sk.1.1] at d0
        have d0 : V a = 0 := d0
        have ev : ((Int64.ofInt (1))).toInt = (if V a = 0 then 1 else 0) := by rw [if_pos d0]; rfl
        have zv : zM ((Int64.ofInt (1))) := by unfold zM; rw [ev]; split <;> decide
        have sk2 : zsk 23 (zs V i (if V a = 0 then 1 else 0)) (i :: t) (xsetL h 23 ((tp - (Int32.ofInt (1)))).toNatClampNeg (Int64.ofInt (1))) := ⟨by rw [← nm1, yL_same, zs_same]; exact ⟨ev, zv⟩, zsk_fr (fun j hj => yL_ne (eq_false (fun z => by have := z.2; omega))) (fun a ha => zs_ne (by have := lb2 a (List.mem_cons_of_mem _ ha); omega)) sk.2⟩
        obtain ⟨v, pcR, L', h2, z1, z2, z3, z4, z5⟩ := ck_workL3_69 l Z nm w W f T hw hW hT HT eT m (i + 1) (i :: t) (zs V i (if V a = 0 then 1 else 0)) tp (k + Int32.ofInt (1)) (xi (xI h 19 (k).toNatClampNeg)) (o6) (o7) (xsetL h 23 ((tp - (Int32.ofInt (1)))).toNatClampNeg (Int64.ofInt (1))) G.1 (fun j hj => by rw [G.2.1, G.2.1]; exact kf j hj) (fun j hj => by rw [G.2.1, G.2.1]; exact ko j hj) (fun j hj => by rw [G.2.2.2 69 j (by decide)]; exact hn j hj) (by omega) (by omega) hl1 (by omega) (by first | omega | (rw [List.length_cons]; omega)) sk2
        exact ⟨v, pcR, L', h2, t4.tr z1, z2, z3, G.tr z4, z5⟩
      · have el_0 : (Int64.ofInt (0)).toInt = 0 := rfl
        have cb3r := cb3
        rw [vref hg.1 (rfl : vRf 18 4 = [23])] at cb3r
        have dcb3 : ¬ (xL h 23 ((tp - (Int32.ofInt (1)))).toNatClampNeg).toInt = (Int64.ofInt (0)).toInt := fun z_ => cb3r (lgi_eq.mpr z_)
        have t5 : XT l 2 45 false 78 153 6051 10 [xf 4 18, xi w, xf 40007 69, xi tp, xi k, o5, o6, o7] [] h 10 [xf 4 18, xi w, xf 40007 69, xi tp, xi (k + Int32.ofInt (1)), xi (xI h (xR h 18 0) (k).toNatClampNeg), o6, o7] [] (xsetL h (xR h 18 4) ((tp - (Int32.ofInt (1)))).toNatClampNeg (Int64.ofInt (0))) := XT_path (l := l) (fr := 2) (lo := 45) (full := false) (M := 78) (n := 153) (u := 6051) (pc := 10) (L := [xf 4 18, xi w, xf 40007 69, xi tp, xi k, o5, o6, o7]) (st := []) (h := h) (inl := []) (n' := 60) (sp := [10]) (o := [0, 0, 1, 0, 1, 1]) rfl rfl ⟨rfl, rfl, rfl⟩ rfl ⟨Nat.le_of_eq hg.2.2.2.1, Nat.le_of_eq hg.2.2.2.2⟩ ⟨⟨⟨⟨⟨⟨⟨⟨⟨⟨⟨⟨⟨⟨trivial, (vnn hg.1 (rfl : vRf 18 3 = [22]) (by decide))⟩, (vp_of (i := w) (n := 3) (by omega) (by omega))⟩, (show ¬ (xI h (xR h 18 3) (w).toNatClampNeg) ≤ k from by rw [vref hg.1 (rfl : vRf 18 3 = [22])]; exact fun z => absurd (Int32.le_iff_toInt_le.mp z) (by omega))⟩, (vnn hg.1 (rfl : vRf 18 0 = [19]) (by decide))⟩, (vp_of (i := k) (n := 64) (by omega) (by omega))⟩, (show ¬ (xI h (xR h 18 0) (k).toNatClampNeg) = (Int32.ofInt (2)) from by rw [vref hg.1 (rfl : vRf 18 0 = [19])]; exact fun z => absurd (congrArg Int32.toInt z) (by omega))⟩, (show (xI h (xR h 18 0) (k).toNatClampNeg) < (Int32.ofInt (33)) from by rw [vref hg.1 (rfl : vRf 18 0 = [19])]; exact Int32.lt_iff_toInt_lt.mpr (by omega))⟩, (show (xI h (xR h 18 0) (k).toNatClampNeg) = (Int32.ofInt (32)) from by rw [vref hg.1 (rfl : vRf 18 0 = [19])]; exact Int32.toInt_inj.mp (by omega))⟩, (show (Int32.ofInt (1)) ≤ tp from Int32.le_iff_toInt_le.mpr (by omega))⟩, (vnn hg.1 (rfl : vRf 18 4 = [23]) (by decide))⟩, (vnn hg.1 (rfl : vRf 18 4 = [23]) (by decide))⟩, (vp_of (i := (tp - (Int32.ofInt (1)))) (n := 64) (by omega) (by omega))⟩, cb3⟩, (vp_of (i := (tp - (Int32.ofInt (1)))) (n := 64) (by omega) (by omega))⟩
        rw [vref hg.1 (rfl : vRf 18 0 = [19]), vref hg.1 (rfl : vRf 18 4 = [23])] at t5
        have G : mL 23 h (xsetL h 23 ((tp - (Int32.ofInt (1)))).toNatClampNeg (Int64.ofInt (0))) := mL.set hg
        have d0 := dcb3
        rw [nm1, sk.1.1] at d0
        have d0 : ¬ V a = 0 := d0
        have ev : ((Int64.ofInt (0))).toInt = (if V a = 0 then 1 else 0) := by rw [if_neg d0]; rfl
        have zv : zM ((Int64.ofInt (0))) := by unfold zM; rw [ev]; split <;> decide
        have sk2 : zsk 23 (zs V i (if V a = 0 then 1 else 0)) (i :: t) (xsetL h 23 ((tp - (Int32.ofInt (1)))).toNatClampNeg (Int64.ofInt (0))) := ⟨by rw [← nm1, yL_same, zs_same]; exact ⟨ev, zv⟩, zsk_fr (fun j hj => yL_ne (eq_false (fun z => by have := z.2; omega))) (fun a ha => zs_ne (by have := lb2 a (List.mem_cons_of_mem _ ha); omega)) sk.2⟩
        obtain ⟨v, pcR, L', h2, z1, z2, z3, z4, z5⟩ := ck_workL3_69 l Z nm w W f T hw hW hT HT eT m (i + 1) (i :: t) (zs V i (if V a = 0 then 1 else 0)) tp (k + Int32.ofInt (1)) (xi (xI h 19 (k).toNatClampNeg)) (o6) (o7) (xsetL h 23 ((tp - (Int32.ofInt (1)))).toNatClampNeg (Int64.ofInt (0))) G.1 (fun j hj => by rw [G.2.1, G.2.1]; exact kf j hj) (fun j hj => by rw [G.2.1, G.2.1]; exact ko j hj) (fun j hj => by rw [G.2.2.2 69 j (by decide)]; exact hn j hj) (by omega) (by omega) hl1 (by omega) (by first | omega | (rw [List.length_cons]; omega)) sk2
        exact ⟨v, pcR, L', h2, t5.tr z1, z2, z3, G.tr z4, z5⟩
    · have lb2 := lb.2
      have et : tp.toInt = (t.length : Int) + 1 + 1 := by rw [et, List.length_cons, List.length_cons]; rfl
      have eo := zop_bin (nm := nm) (V := V) cb ea ec
      have lt64 := lb.1; rw [List.length_cons, List.length_cons] at lt64
      have cb' : 7 ≤ Z (300 + i) ∧ Z (300 + i) ≤ 31 := zbo_b cb
      have t6 : XT l 2 45 false 78 153 6051 10 [xf 4 18, xi w, xf 40007 69, xi tp, xi k, o5, o6, o7] [] h 146 [xf 4 18, xi w, xf 40007 69, xi (tp + Int32.ofInt (-1)), xi k, xi (xI h (xR h 18 0) (k).toNatClampNeg), o6, o7] [] h := XT_path (l := l) (fr := 2) (lo := 45) (full := false) (M := 78) (n := 153) (u := 6051) (pc := 10) (L := [xf 4 18, xi w, xf 40007 69, xi tp, xi k, o5, o6, o7]) (st := []) (h := h) (inl := []) (n' := 60) (sp := [146]) (o := [0, 0, 1, 1, 1]) rfl rfl ⟨rfl, rfl, rfl⟩ rfl ⟨Nat.le_of_eq hg.2.2.2.1, Nat.le_of_eq hg.2.2.2.2⟩ ⟨⟨⟨⟨⟨⟨⟨⟨⟨trivial, (vnn hg.1 (rfl : vRf 18 3 = [22]) (by decide))⟩, (vp_of (i := w) (n := 3) (by omega) (by omega))⟩, (show ¬ (xI h (xR h 18 3) (w).toNatClampNeg) ≤ k from by rw [vref hg.1 (rfl : vRf 18 3 = [22])]; exact fun z => absurd (Int32.le_iff_toInt_le.mp z) (by omega))⟩, (vnn hg.1 (rfl : vRf 18 0 = [19]) (by decide))⟩, (vp_of (i := k) (n := 64) (by omega) (by omega))⟩, (show ¬ (xI h (xR h 18 0) (k).toNatClampNeg) = (Int32.ofInt (2)) from by rw [vref hg.1 (rfl : vRf 18 0 = [19])]; exact fun z => absurd (congrArg Int32.toInt z) (by omega))⟩, (show (xI h (xR h 18 0) (k).toNatClampNeg) < (Int32.ofInt (33)) from by rw [vref hg.1 (rfl : vRf 18 0 = [19])]; exact Int32.lt_iff_toInt_lt.mpr (by omega))⟩, (show ¬ (xI h (xR h 18 0) (k).toNatClampNeg) = (Int32.ofInt (32)) from by rw [vref hg.1 (rfl : vRf 18 0 = [19])]; exact fun z => absurd (congrArg Int32.toInt z) (by omega))⟩, (show (Int32.ofInt (2)) ≤ tp from Int32.le_iff_toInt_le.mpr (by omega))⟩
      rw [vref hg.1 (rfl : vRf 18 0 = [19])] at t6
      obtain ⟨X, hX⟩ : ∃ X, X = tp + Int32.ofInt (-1) := ⟨_, rfl⟩
      rw [← hX] at t6
      have tm : X.toInt = (t.length : Int) + 1 := by rw [hX]; exact y_min et (by omega)
      have tm2 : (X - Int32.ofInt (1)).toInt = t.length := y_sbn tm (by omega)
      have n2 : X.toNatClampNeg = t.length + 1 := zi_ix (by omega)
      have n3 : (X - Int32.ofInt (1)).toNatClampNeg = t.length := zi_ix tm2
      obtain ⟨⟨kc1, kc2⟩, ⟨ka1, ka2⟩, skt⟩ := sk
      rw [List.length_cons] at kc1 kc2
      rw [← n2] at kc1 kc2
      rw [← n3] at ka1 ka2
      have t7 : XT l 2 45 false 78 153 6051 146 [xf 4 18, xi w, xf 40007 69, xi X, xi k, xi (xI h 19 (k).toNatClampNeg), o6, o7] [] h 162 [xf 4 18, xi w, xf 40007 69, xi X, xi k, xi (xI h 19 (k).toNatClampNeg), o6, o7] [xl (xL h (xR h 18 4) (X).toNatClampNeg), xl (xL h (xR h 18 4) ((X - (Int32.ofInt (1)))).toNatClampNeg), xi (xI h 19 (k).toNatClampNeg)] h := XT_path (l := l) (fr := 2) (lo := 45) (full := false) (M := 78) (n := 153) (u := 6051) (pc := 146) (L := [xf 4 18, xi w, xf 40007 69, xi X, xi k, xi (xI h 19 (k).toNatClampNeg), o6, o7]) (st := []) (h := h) (inl := []) (n' := 60) (sp := [162]) (o := []) rfl rfl ⟨rfl, rfl, rfl⟩ rfl ⟨Nat.le_of_eq hg.2.2.2.1, Nat.le_of_eq hg.2.2.2.2⟩ ⟨⟨⟨⟨trivial, (vnn hg.1 (rfl : vRf 18 4 = [23]) (by decide))⟩, (vp_of (i := (X - (Int32.ofInt (1)))) (n := 64) (by omega) (by omega))⟩, (vnn hg.1 (rfl : vRf 18 4 = [23]) (by decide))⟩, (vp_of (i := X) (n := 64) (by omega) (by omega))⟩
      rw [vref hg.1 (rfl : vRf 18 4 = [23])] at t7
      have t8 := t6.tr t7
      obtain ⟨y, cj, zj⟩ := ck_joined l (xI h 19 (k).toNatClampNeg) (xL h 23 ((X - (Int32.ofInt (1)))).toNatClampNeg) (xL h 23 (X).toNatClampNeg) h hg ka2 kc2 (by rw [eop]; exact cb)
      rw [eop, ka1, kc1] at zj
      have t9 : XT l 2 45 false 78 153 6051 162 [xf 4 18, xi w, xf 40007 69, xi X, xi k, xi (xI h 19 (k).toNatClampNeg), o6, o7] [xl (xL h 23 (X).toNatClampNeg), xl (xL h 23 ((X - (Int32.ofInt (1)))).toNatClampNeg), xi (xI h 19 (k).toNatClampNeg)] h 165 [xf 4 18, xi w, xf 40007 69, xi X, xi k, xi (xI h 19 (k).toNatClampNeg), o6, o7] [xl y] h := XT_call (l := l) (fr := 2) (lo := 45) (full := false) (M := 78) (n := 153) (u := 6051) (pc := 162) (L := [xf 4 18, xi w, xf 40007 69, xi X, xi k, xi (xI h 19 (k).toNatClampNeg), o6, o7]) (st := [xl (xL h 23 (X).toNatClampNeg), xl (xL h 23 ((X - (Int32.ofInt (1)))).toNatClampNeg), xi (xI h 19 (k).toNatClampNeg)]) (h := h) (i := .invokestatic 79) (aux := 3) (nx := 165) (K := 79) (vs := [xi (xI h 19 (k).toNatClampNeg), xl (xL h 23 ((X - (Int32.ofInt (1)))).toNatClampNeg), xl (xL h 23 (X).toNatClampNeg)]) (rs := [xl y]) (rest := []) rfl rfl rfl rfl rfl rfl cj (by decide) (by decide) (Nat.le_of_ble_eq_true rfl) ⟨Nat.le_of_eq hg.2.2.2.1, Nat.le_of_eq hg.2.2.2.2⟩
      have t10 := t8.tr t9
      cases hz : zbin (Z (300 + i)) (V a) (V c) with
      | none =>
        rw [hz] at zj eo
        have zj : 1000000000000 < y.toInt ∨ y.toInt < -1000000000000 := zj
        rw [zlw_n eo]
        by_cases cb11 : (0 : Int32) < (lg_cmp y (Int64.ofInt (1000000000000)))
        · have el_1000000000000 : (Int64.ofInt (1000000000000)).toInt = 1000000000000 := rfl
          have dcb11 : (Int64.ofInt (1000000000000)).toInt < y.toInt := lgi_gt.mp cb11
          have t12 : XT l 2 45 false 78 153 6051 165 [xf 4 18, xi w, xf 40007 69, xi X, xi k, xi (xI h 19 (k).toNatClampNeg), o6, o7] [xl y] h 188 [xf 4 18, xi w, xf 40007 69, xi X, xi k, xi (xI h 19 (k).toNatClampNeg), xl y, xun] [xl (Int64.ofInt (-9223372036854775808))] h := XT_path (l := l) (fr := 2) (lo := 45) (full := false) (M := 78) (n := 153) (u := 6051) (pc := 165) (L := [xf 4 18, xi w, xf 40007 69, xi X, xi k, xi (xI h 19 (k).toNatClampNeg), o6, o7]) (st := [xl y]) (h := h) (inl := []) (n' := 60) (sp := [188]) (o := [1]) rfl rfl ⟨rfl, rfl, rfl⟩ rfl ⟨Nat.le_of_eq hg.2.2.2.1, Nat.le_of_eq hg.2.2.2.2⟩ ⟨trivial, cb11⟩
          have t13 := t10.tr t12
          exact ⟨_, _, _, _, t13, ⟨_, _, _, rfl, rfl, rfl⟩, rfl, mL.rf hg, (show (Int64.ofInt (-9223372036854775808)).toInt = -9223372036854775808 from rfl)⟩
        · have el_1000000000000 : (Int64.ofInt (1000000000000)).toInt = 1000000000000 := rfl
          have dcb11 : y.toInt ≤ (Int64.ofInt (1000000000000)).toInt := Int.not_lt.mp (fun z_ => cb11 (lgi_gt.mpr z_))
          by_cases cb14 : (0 : Int32) ≤ (lg_cmp y (Int64.ofInt (-1000000000000)))
          · have el_m1000000000000 : (Int64.ofInt (-1000000000000)).toInt = -1000000000000 := rfl
            have dcb14 : (Int64.ofInt (-1000000000000)).toInt ≤ y.toInt := lgi_ge.mp cb14
            have t15 : XT l 2 45 false 78 153 6051 165 [xf 4 18, xi w, xf 40007 69, xi X, xi k, xi (xI h 19 (k).toNatClampNeg), o6, o7] [xl y] h 10 [xf 4 18, xi w, xf 40007 69, xi X, xi (k + Int32.ofInt (1)), xi (xI h 19 (k).toNatClampNeg), xl y, xun] [] (xsetL h (xR h 18 4) ((X - (Int32.ofInt (1)))).toNatClampNeg y) := XT_path (l := l) (fr := 2) (lo := 45) (full := false) (M := 78) (n := 153) (u := 6051) (pc := 165) (L := [xf 4 18, xi w, xf 40007 69, xi X, xi k, xi (xI h 19 (k).toNatClampNeg), o6, o7]) (st := [xl y]) (h := h) (inl := []) (n' := 60) (sp := [10]) (o := [0, 1]) rfl rfl ⟨rfl, rfl, rfl⟩ rfl ⟨Nat.le_of_eq hg.2.2.2.1, Nat.le_of_eq hg.2.2.2.2⟩ ⟨⟨⟨⟨trivial, cb11⟩, cb14⟩, (vnn hg.1 (rfl : vRf 18 4 = [23]) (by decide))⟩, (vp_of (i := (X - (Int32.ofInt (1)))) (n := 64) (by omega) (by omega))⟩
            rw [vref hg.1 (rfl : vRf 18 4 = [23])] at t15
            have t16 := t10.tr t15
            exfalso; omega
          · have el_m1000000000000 : (Int64.ofInt (-1000000000000)).toInt = -1000000000000 := rfl
            have dcb14 : y.toInt < (Int64.ofInt (-1000000000000)).toInt := Int.not_le.mp (fun z_ => cb14 (lgi_ge.mpr z_))
            have t17 : XT l 2 45 false 78 153 6051 165 [xf 4 18, xi w, xf 40007 69, xi X, xi k, xi (xI h 19 (k).toNatClampNeg), o6, o7] [xl y] h 188 [xf 4 18, xi w, xf 40007 69, xi X, xi k, xi (xI h 19 (k).toNatClampNeg), xl y, xun] [xl (Int64.ofInt (-9223372036854775808))] h := XT_path (l := l) (fr := 2) (lo := 45) (full := false) (M := 78) (n := 153) (u := 6051) (pc := 165) (L := [xf 4 18, xi w, xf 40007 69, xi X, xi k, xi (xI h 19 (k).toNatClampNeg), o6, o7]) (st := [xl y]) (h := h) (inl := []) (n' := 60) (sp := [188]) (o := [0, 0]) rfl rfl ⟨rfl, rfl, rfl⟩ rfl ⟨Nat.le_of_eq hg.2.2.2.1, Nat.le_of_eq hg.2.2.2.2⟩ ⟨⟨trivial, cb11⟩, cb14⟩
            have t18 := t10.tr t17
            exact ⟨_, _, _, _, t18, ⟨_, _, _, rfl, rfl, rfl⟩, rfl, mL.rf hg, (show (Int64.ofInt (-9223372036854775808)).toInt = -9223372036854775808 from rfl)⟩
      | some z =>
        rw [hz] at zj eo
        obtain ⟨j1, j2, j3⟩ : y.toInt = z ∧ -1000000000000 ≤ z ∧ z ≤ 1000000000000 := zj
        rw [zlw_s eo]
        by_cases cb19 : (0 : Int32) < (lg_cmp y (Int64.ofInt (1000000000000)))
        · have el_1000000000000 : (Int64.ofInt (1000000000000)).toInt = 1000000000000 := rfl
          have dcb19 : (Int64.ofInt (1000000000000)).toInt < y.toInt := lgi_gt.mp cb19
          have t20 : XT l 2 45 false 78 153 6051 165 [xf 4 18, xi w, xf 40007 69, xi X, xi k, xi (xI h 19 (k).toNatClampNeg), o6, o7] [xl y] h 188 [xf 4 18, xi w, xf 40007 69, xi X, xi k, xi (xI h 19 (k).toNatClampNeg), xl y, xun] [xl (Int64.ofInt (-9223372036854775808))] h := XT_path (l := l) (fr := 2) (lo := 45) (full := false) (M := 78) (n := 153) (u := 6051) (pc := 165) (L := [xf 4 18, xi w, xf 40007 69, xi X, xi k, xi (xI h 19 (k).toNatClampNeg), o6, o7]) (st := [xl y]) (h := h) (inl := []) (n' := 60) (sp := [188]) (o := [1]) rfl rfl ⟨rfl, rfl, rfl⟩ rfl ⟨Nat.le_of_eq hg.2.2.2.1, Nat.le_of_eq hg.2.2.2.2⟩ ⟨trivial, cb19⟩
          have t21 := t10.tr t20
          exfalso; omega
        · have el_1000000000000 : (Int64.ofInt (1000000000000)).toInt = 1000000000000 := rfl
          have dcb19 : y.toInt ≤ (Int64.ofInt (1000000000000)).toInt := Int.not_lt.mp (fun z_ => cb19 (lgi_gt.mpr z_))
          by_cases cb22 : (0 : Int32) ≤ (lg_cmp y (Int64.ofInt (-1000000000000)))
          · have el_m1000000000000 : (Int64.ofInt (-1000000000000)).toInt = -1000000000000 := rfl
            have dcb22 : (Int64.ofInt (-1000000000000)).toInt ≤ y.toInt := lgi_ge.mp cb22
            have t23 : XT l 2 45 false 78 153 6051 165 [xf 4 18, xi w, xf 40007 69, xi X, xi k, xi (xI h 19 (k).toNatClampNeg), o6, o7] [xl y] h 10 [xf 4 18, xi w, xf 40007 69, xi X, xi (k + Int32.ofInt (1)), xi (xI h 19 (k).toNatClampNeg), xl y, xun] [] (xsetL h (xR h 18 4) ((X - (Int32.ofInt (1)))).toNatClampNeg y) := XT_path (l := l) (fr := 2) (lo := 45) (full := false) (M := 78) (n := 153) (u := 6051) (pc := 165) (L := [xf 4 18, xi w, xf 40007 69, xi X, xi k, xi (xI h 19 (k).toNatClampNeg), o6, o7]) (st := [xl y]) (h := h) (inl := []) (n' := 60) (sp := [10]) (o := [0, 1]) rfl rfl ⟨rfl, rfl, rfl⟩ rfl ⟨Nat.le_of_eq hg.2.2.2.1, Nat.le_of_eq hg.2.2.2.2⟩ ⟨⟨⟨⟨trivial, cb19⟩, cb22⟩, (vnn hg.1 (rfl : vRf 18 4 = [23]) (by decide))⟩, (vp_of (i := (X - (Int32.ofInt (1)))) (n := 64) (by omega) (by omega))⟩
            rw [vref hg.1 (rfl : vRf 18 4 = [23])] at t23
            have t24 := t10.tr t23
            have G : mL 23 h (xsetL h 23 ((X - (Int32.ofInt (1)))).toNatClampNeg y) := mL.set hg
            have sk2 : zsk 23 (zs V i z) (i :: t) (xsetL h 23 ((X - (Int32.ofInt (1)))).toNatClampNeg y) := ⟨by rw [← n3, yL_same, zs_same]; exact ⟨j1, by unfold zM; omega⟩, zsk_fr (fun j hj => yL_ne (eq_false (fun z => by have := z.2; omega))) (fun a ha => zs_ne (by have := lb2 a (List.mem_cons_of_mem _ (List.mem_cons_of_mem _ ha)); omega)) skt⟩
            obtain ⟨v, pcR, L', h2, z1, z2, z3, z4, z5⟩ := ck_workL3_69 l Z nm w W f T hw hW hT HT eT m (i + 1) (i :: t) (zs V i z) X (k + Int32.ofInt (1)) (xi (xI h 19 (k).toNatClampNeg)) (xl y) (xun) (xsetL h 23 ((X - (Int32.ofInt (1)))).toNatClampNeg y) G.1 (fun j hj => by rw [G.2.1, G.2.1]; exact kf j hj) (fun j hj => by rw [G.2.1, G.2.1]; exact ko j hj) (fun j hj => by rw [G.2.2.2 69 j (by decide)]; exact hn j hj) (by omega) (by omega) hl1 (by omega) (by first | omega | (rw [List.length_cons]; omega)) sk2
            exact ⟨v, pcR, L', h2, t24.tr z1, z2, z3, G.tr z4, z5⟩
          · have el_m1000000000000 : (Int64.ofInt (-1000000000000)).toInt = -1000000000000 := rfl
            have dcb22 : y.toInt < (Int64.ofInt (-1000000000000)).toInt := Int.not_le.mp (fun z_ => cb22 (lgi_ge.mpr z_))
            have t25 : XT l 2 45 false 78 153 6051 165 [xf 4 18, xi w, xf 40007 69, xi X, xi k, xi (xI h 19 (k).toNatClampNeg), o6, o7] [xl y] h 188 [xf 4 18, xi w, xf 40007 69, xi X, xi k, xi (xI h 19 (k).toNatClampNeg), xl y, xun] [xl (Int64.ofInt (-9223372036854775808))] h := XT_path (l := l) (fr := 2) (lo := 45) (full := false) (M := 78) (n := 153) (u := 6051) (pc := 165) (L := [xf 4 18, xi w, xf 40007 69, xi X, xi k, xi (xI h 19 (k).toNatClampNeg), o6, o7]) (st := [xl y]) (h := h) (inl := []) (n' := 60) (sp := [188]) (o := [0, 0]) rfl rfl ⟨rfl, rfl, rfl⟩ rfl ⟨Nat.le_of_eq hg.2.2.2.1, Nat.le_of_eq hg.2.2.2.2⟩ ⟨⟨trivial, cb19⟩, cb22⟩
            have t26 := t10.tr t25
            exfalso; omega
set_option maxRecDepth 100000 in
set_option maxHeartbeats 4000000 in
theorem ck_work3_69 (l : Launch) (Z nm : Nat → Int) (w : Int32) (W : Nat) (hw : w.toInt = W) (hW : W < 3) (LW : zLW Z) (g6 : zG Z) (h : XH) (hg : mI h) (kf : kF 21 22 Z h) (ko : kO 18 19 20 Z h) (hn : ∀ j : Nat, j < 7 → (xL h 69 j).toInt = nm j ∧ zM (xL h 69 j)) : ∃ v h', CX l 2 45 false 78 [xf 4 18, xi w, xf 40007 69] h [xl v] h' ∧ mL 23 h h' ∧ zwv (zL Z nm W) v := by
  have bf : 0 ≤ (xI h 21 W).toInt := by have z := vbnd hg.1 21 W; rw [vI_u rfl (rfl : vRow 21 = (0, 64))] at z; exact z.1
  obtain ⟨kf1, kf2⟩ := kf W hW
  have efr : (xI h 21 w.toNatClampNeg).toInt = Z (240 + W) := by rw [zi_ix hw]; exact kf1
  have eto : (xI h 22 w.toNatClampNeg).toInt = Z (250 + W) := by rw [zi_ix hw]; exact kf2
  have e_0 : (Int32.ofInt (0)).toInt = 0 := rfl
  have e_1 : (Int32.ofInt (1)).toInt = 1 := rfl
  have t1 : XT l 2 45 false 78 153 6051 0 [xf 4 18, xi w, xf 40007 69, xun, xun, xun, xun, xun] [] h 10 [xf 4 18, xi w, xf 40007 69, xi (Int32.ofInt (0)), xi (xI h (xR h 18 2) (w).toNatClampNeg), xun, xun, xun] [] h := XT_path (l := l) (fr := 2) (lo := 45) (full := false) (M := 78) (n := 153) (u := 6051) (pc := 0) (L := [xf 4 18, xi w, xf 40007 69, xun, xun, xun, xun, xun]) (st := []) (h := h) (inl := []) (n' := 60) (sp := [10]) (o := []) rfl rfl ⟨rfl, rfl, rfl⟩ rfl ⟨Nat.le_of_eq hg.2.2.2.1, Nat.le_of_eq hg.2.2.2.2⟩ ⟨⟨trivial, (vnn hg.1 (rfl : vRf 18 2 = [21]) (by decide))⟩, (vp_of (i := w) (n := 3) (by omega) (by omega))⟩
  rw [vref hg.1 (rfl : vRf 18 2 = [21])] at t1
  by_cases tl : Z (240 + W) < Z (250 + W)
  · obtain ⟨a1, a2, a3⟩ := LW W hW tl
    have g3 := g6.2.2; have g2 := g6.2.1
    obtain ⟨v, pcR, L', h', z1, z2, z3, z4, z5⟩ := ck_workL3_69 l Z nm w W (Z (240 + W)).toNat (Z (250 + W)).toNat hw hW (by omega) a3 (by omega) ((Z (250 + W)).toNat - (Z (240 + W)).toNat) (Z (240 + W)).toNat [] (fun _ => 0) (Int32.ofInt (0)) (xI h 21 (w).toNatClampNeg) xun xun xun h hg kf (fun j hj => ko.2.2 j (by omega)) hn (by omega) (Nat.le_refl _) (by rw [Nat.sub_self]; rfl) (by omega) (by rw [e_0]; rfl) trivial
    refine ⟨v, h', CX_ofT (h' := h') (by decide) rfl rfl trivial z2 z3 ⟨Nat.le_of_eq z4.1.2.2.2.1.symm, Nat.le_of_eq z4.1.2.2.2.2.symm⟩ (t1.tr z1), z4, ?_⟩
    unfold zL
    rw [if_pos tl]
    cases hz : zlw Z nm ((Z (250 + W)).toNat - (Z (240 + W)).toNat) (Z (240 + W)).toNat (fun _ => 0) with
    | none => rw [hz] at z5; exact z5
    | some V => rw [hz] at z5; exact z5
  · have eL : zL Z nm W = none := if_neg tl
    rw [eL]
    have t2 : XT l 2 45 false 78 153 6051 10 [xf 4 18, xi w, xf 40007 69, xi (Int32.ofInt (0)), xi (xI h 21 (w).toNatClampNeg), xun, xun, xun] [] h 222 [xf 4 18, xi w, xf 40007 69, xi (Int32.ofInt (0)), xi (xI h 21 (w).toNatClampNeg), xun, xun, xun] [xl (Int64.ofInt (-9223372036854775808))] h := XT_path (l := l) (fr := 2) (lo := 45) (full := false) (M := 78) (n := 153) (u := 6051) (pc := 10) (L := [xf 4 18, xi w, xf 40007 69, xi (Int32.ofInt (0)), xi (xI h 21 (w).toNatClampNeg), xun, xun, xun]) (st := []) (h := h) (inl := []) (n' := 60) (sp := [222]) (o := [1, 1]) rfl rfl ⟨rfl, rfl, rfl⟩ rfl ⟨Nat.le_of_eq hg.2.2.2.1, Nat.le_of_eq hg.2.2.2.2⟩ ⟨⟨⟨⟨trivial, (vnn hg.1 (rfl : vRf 18 3 = [22]) (by decide))⟩, (vp_of (i := w) (n := 3) (by omega) (by omega))⟩, (show (xI h (xR h 18 3) (w).toNatClampNeg) ≤ (xI h 21 (w).toNatClampNeg) from by rw [vref hg.1 (rfl : vRf 18 3 = [22])]; exact Int32.le_iff_toInt_le.mpr (by omega))⟩, (show ¬ (Int32.ofInt (0)) = (Int32.ofInt (1)) from fun z => absurd (congrArg Int32.toInt z) (by omega))⟩
    have t3 := t1.tr t2
    exact ⟨_, _, CX_ofT (h' := h) (by decide) rfl rfl trivial ⟨_, _, _, rfl, rfl, rfl⟩ rfl ⟨Nat.le_of_eq hg.2.2.2.1.symm, Nat.le_of_eq hg.2.2.2.2.symm⟩ t3, mL.rf hg, rfl⟩
set_option maxRecDepth 100000 in
set_option maxHeartbeats 4000000 in
theorem ck_workL24_58 (l : Launch) (Z nm : Nat → Int) (w : Int32) (W f T : Nat) (hw : w.toInt = W) (hW : W < 3) (hT : T ≤ 64) (HT : zrn Z f (T - f) [T - 1]) (eT : Z (250 + W) = T) : ∀ (m i : Nat) (ls : List Nat) (V : Nat → Int) (tp k : Int32) (o5 o6 o7 : XV) (h : XH), mI h → kF 42 43 Z h → (∀ j : Nat, j < T → (xI h 40 j).toInt = Z (300 + j) ∧ (xI h 41 j).toInt = Z (400 + j)) → (∀ j : Nat, j < 7 → (xL h 58 j).toInt = nm j ∧ zM (xL h 58 j)) → i + m = T → f ≤ i → zrn Z f (i - f) ls → k.toInt = i → tp.toInt = ls.length → zsk 44 V ls h → ∃ v pcR L' h', XT l 2 45 false 78 153 6051 10 [xf 4 39, xi w, xf 40007 58, xi tp, xi k, o5, o6, o7] [] h pcR L' [xl v] h' ∧ XE 78 pcR [xl v] ∧ L'.length = 8 ∧ mL 44 h h' ∧ zwr (zlw Z nm m i V) T v
  | 0, i, ls, V, tp, k, o5, o6, o7, h, hg, kf, ko, hn, hi, hf, hl, ek, et, sk => by
    have eto : (xI h 43 w.toNatClampNeg).toInt = Z (250 + W) := by rw [zi_ix hw]; exact (kf W hW).2
    have e_0 : (Int32.ofInt (0)).toInt = 0 := rfl
    have e_1 : (Int32.ofInt (1)).toInt = 1 := rfl
    have e_2 : (Int32.ofInt (2)).toInt = 2 := rfl
    have e_32 : (Int32.ofInt (32)).toInt = 32 := rfl
    have e_33 : (Int32.ofInt (33)).toInt = 33 := rfl
    have e_64 : (Int32.ofInt (64)).toInt = 64 := rfl
    have lb := zrn_b hl
    obtain rfl : i = T := by omega
    obtain rfl := zrn_det hl HT
    have et : tp.toInt = 1 := et
    have t1 : XT l 2 45 false 78 153 6051 10 [xf 4 39, xi w, xf 40007 58, xi tp, xi k, o5, o6, o7] [] h 222 [xf 4 39, xi w, xf 40007 58, xi tp, xi k, o5, o6, o7] [xl (xL h (xR h 39 4) ((Int32.ofInt (0))).toNatClampNeg)] h := XT_path (l := l) (fr := 2) (lo := 45) (full := false) (M := 78) (n := 153) (u := 6051) (pc := 10) (L := [xf 4 39, xi w, xf 40007 58, xi tp, xi k, o5, o6, o7]) (st := []) (h := h) (inl := []) (n' := 60) (sp := [222]) (o := [1, 0]) rfl rfl ⟨rfl, rfl, rfl⟩ rfl ⟨Nat.le_of_eq hg.2.2.2.1, Nat.le_of_eq hg.2.2.2.2⟩ ⟨⟨⟨⟨⟨⟨trivial, (vnn hg.1 (rfl : vRf 39 3 = [43]) (by decide))⟩, (vp_of (i := w) (n := 3) (by omega) (by omega))⟩, (show (xI h (xR h 39 3) (w).toNatClampNeg) ≤ k from by rw [vref hg.1 (rfl : vRf 39 3 = [43])]; exact Int32.le_iff_toInt_le.mpr (by omega))⟩, (show tp = (Int32.ofInt (1)) from Int32.toInt_inj.mp (by omega))⟩, (vnn hg.1 (rfl : vRf 39 4 = [44]) (by decide))⟩, (vp_of (i := (Int32.ofInt (0))) (n := 64) (by omega) (by omega))⟩
    rw [vref hg.1 (rfl : vRf 39 4 = [44])] at t1
    exact ⟨_, _, _, _, t1, ⟨_, _, _, rfl, rfl, rfl⟩, rfl, mL.rf hg, sk.1.1, by have y := sk.1.2.1; have y1 := sk.1.1; have y2 : (xL h 44 0).toInt = V (i - 1) := y1; have y3 : -1000000000000 ≤ (xL h 44 0).toInt := y; omega, by have y := sk.1.2.2; have y1 := sk.1.1; have y2 : (xL h 44 0).toInt = V (i - 1) := y1; have y3 : (xL h 44 0).toInt ≤ 1000000000000 := y; omega⟩
  | m + 1, i, ls, V, tp, k, o5, o6, o7, h, hg, kf, ko, hn, hi, hf, hl, ek, et, sk => by
    have eto : (xI h 43 w.toNatClampNeg).toInt = Z (250 + W) := by rw [zi_ix hw]; exact (kf W hW).2
    have e_0 : (Int32.ofInt (0)).toInt = 0 := rfl
    have e_1 : (Int32.ofInt (1)).toInt = 1 := rfl
    have e_2 : (Int32.ofInt (2)).toInt = 2 := rfl
    have e_32 : (Int32.ofInt (32)).toInt = 32 := rfl
    have e_33 : (Int32.ofInt (33)).toInt = 33 := rfl
    have e_64 : (Int32.ofInt (64)).toInt = 64 := rfl
    have lb := zrn_b hl
    obtain ⟨l1, l0, la, lx⟩ := zrn_pre (k := i - f + 1) (m := m) (l := [T - 1]) (by rw [show i - f + 1 + m = T - f by omega]; exact HT)
    obtain rfl := zrn_det la hl
    have hl1 : zrn Z f (i + 1 - f) l1 := by rw [show i + 1 - f = i - f + 1 by omega]; exact ⟨l0, la, lx⟩
    rw [show f + (i - f) = i by omega] at lx
    obtain ⟨ko1, ko2⟩ := ko i (by omega)
    have eop : (xI h 40 k.toNatClampNeg).toInt = Z (300 + i) := by rw [zi_ix ek]; exact ko1
    have ecv : (xI h 41 k.toNatClampNeg).toInt = Z (400 + i) := by rw [zi_ix ek]; exact ko2
    have sk1 := y_suc1 (k := k) (by omega) (by omega)
    have nt := zi_ix et
    have bcv : -2147483648 ≤ (xI h 41 k.toNatClampNeg).toInt ∧ (xI h 41 k.toNatClampNeg).toInt ≤ 2147483647 := i32r_of _
    rcases lx with ⟨lf, rfl⟩ | ⟨c32, a, t, rfl, ea, rfl⟩ | ⟨cb, a, c, t, rfl, ea, ec, rfl⟩
    · have lb2 := lb.2
      have st1 := y_suc1 (k := tp) (by omega) (by omega)
      have lt64 : l0.length < 64 := by have := lb.1; omega
      rcases lf with ⟨c2, e45⟩ | ⟨c33, c39, e53⟩
      · have eo : zop Z nm V i = some (Z (500 + i)) := zop_2 c2
        rw [zlw_s eo]
        have t1 : XT l 2 45 false 78 153 6051 10 [xf 4 39, xi w, xf 40007 58, xi tp, xi k, o5, o6, o7] [] h 10 [xf 4 39, xi w, xf 40007 58, xi (tp + Int32.ofInt (1)), xi (k + Int32.ofInt (1)), xi (xI h (xR h 39 0) (k).toNatClampNeg), o6, o7] [] (xsetL h (xR h 39 4) (tp).toNatClampNeg ((xI h (xR h 39 1) (k).toNatClampNeg)).toInt64) := XT_path (l := l) (fr := 2) (lo := 45) (full := false) (M := 78) (n := 153) (u := 6051) (pc := 10) (L := [xf 4 39, xi w, xf 40007 58, xi tp, xi k, o5, o6, o7]) (st := []) (h := h) (inl := []) (n' := 60) (sp := [10]) (o := [0, 1, 1, 0]) rfl rfl ⟨rfl, rfl, rfl⟩ rfl ⟨Nat.le_of_eq hg.2.2.2.1, Nat.le_of_eq hg.2.2.2.2⟩ ⟨⟨⟨⟨⟨⟨⟨⟨⟨⟨⟨⟨trivial, (vnn hg.1 (rfl : vRf 39 3 = [43]) (by decide))⟩, (vp_of (i := w) (n := 3) (by omega) (by omega))⟩, (show ¬ (xI h (xR h 39 3) (w).toNatClampNeg) ≤ k from by rw [vref hg.1 (rfl : vRf 39 3 = [43])]; exact fun z => absurd (Int32.le_iff_toInt_le.mp z) (by omega))⟩, (vnn hg.1 (rfl : vRf 39 0 = [40]) (by decide))⟩, (vp_of (i := k) (n := 64) (by omega) (by omega))⟩, (show (xI h (xR h 39 0) (k).toNatClampNeg) = (Int32.ofInt (2)) from by rw [vref hg.1 (rfl : vRf 39 0 = [40])]; exact Int32.toInt_inj.mp (by omega))⟩, (show tp < (Int32.ofInt (64)) from Int32.lt_iff_toInt_lt.mpr (by omega))⟩, (vnn hg.1 (rfl : vRf 39 4 = [44]) (by decide))⟩, (show (xI h (xR h 39 0) (k).toNatClampNeg) = (Int32.ofInt (2)) from by rw [vref hg.1 (rfl : vRf 39 0 = [40])]; exact Int32.toInt_inj.mp (by omega))⟩, (vnn hg.1 (rfl : vRf 39 1 = [41]) (by decide))⟩, (vp_of (i := k) (n := 64) (by omega) (by omega))⟩, (vp_of (i := tp) (n := 64) (by omega) (by omega))⟩
        rw [vref hg.1 (rfl : vRf 39 0 = [40]), vref hg.1 (rfl : vRf 39 4 = [44]), vref hg.1 (rfl : vRf 39 1 = [41])] at t1
        have G : mL 44 h (xsetL h 44 (tp).toNatClampNeg ((xI h 41 (k).toNatClampNeg)).toInt64) := mL.set hg
        have ev : (((xI h 41 (k).toNatClampNeg)).toInt64).toInt = Z (500 + i) := by rw [Int32.toInt_toInt64, ecv, e45]
        have zv : zM (((xI h 41 (k).toNatClampNeg)).toInt64) := by unfold zM; rw [ev]; omega
        have sk2 : zsk 44 (zs V i (Z (500 + i))) (i :: l0) (xsetL h 44 (tp).toNatClampNeg ((xI h 41 (k).toNatClampNeg)).toInt64) := ⟨by rw [← nt, yL_same, zs_same]; exact ⟨ev, zv⟩, zsk_fr (fun j hj => yL_ne (eq_false (fun z => by have := z.2; omega))) (fun a ha => zs_ne (by have := lb2 a ha; omega)) sk⟩
        obtain ⟨v, pcR, L', h2, z1, z2, z3, z4, z5⟩ := ck_workL24_58 l Z nm w W f T hw hW hT HT eT m (i + 1) (i :: l0) (zs V i (Z (500 + i))) (tp + Int32.ofInt (1)) (k + Int32.ofInt (1)) (xi (xI h 40 (k).toNatClampNeg)) (o6) (o7) (xsetL h 44 (tp).toNatClampNeg ((xI h 41 (k).toNatClampNeg)).toInt64) G.1 (fun j hj => by rw [G.2.1, G.2.1]; exact kf j hj) (fun j hj => by rw [G.2.1, G.2.1]; exact ko j hj) (fun j hj => by rw [G.2.2.2 58 j (by decide)]; exact hn j hj) (by omega) (by omega) hl1 (by omega) (by first | omega | (rw [List.length_cons]; omega)) sk2
        exact ⟨v, pcR, L', h2, t1.tr z1, z2, z3, G.tr z4, z5⟩
      · have eo : zop Z nm V i = some (nm (Z (500 + i)).toNat) := zop_nm c33
        have eix : ((xI h 40 k.toNatClampNeg) - (Int32.ofInt (33))).toInt = Z (500 + i) := by rw [Int32.toInt_sub, eop, e_33, e53]; exact Int.bmod_eq_of_le (by omega) (by omega)
        have nix : ((xI h 40 k.toNatClampNeg) - (Int32.ofInt (33))).toNatClampNeg = (Z (500 + i)).toNat := by show ((xI h 40 k.toNatClampNeg) - (Int32.ofInt (33))).toInt.toNat = _; rw [eix]
        rw [zlw_s eo]
        have t2 : XT l 2 45 false 78 153 6051 10 [xf 4 39, xi w, xf 40007 58, xi tp, xi k, o5, o6, o7] [] h 10 [xf 4 39, xi w, xf 40007 58, xi (tp + Int32.ofInt (1)), xi (k + Int32.ofInt (1)), xi (xI h (xR h 39 0) (k).toNatClampNeg), o6, o7] [] (xsetL h (xR h 39 4) (tp).toNatClampNeg (xL h 58 (((xI h (xR h 39 0) (k).toNatClampNeg) - (Int32.ofInt (33)))).toNatClampNeg)) := XT_path (l := l) (fr := 2) (lo := 45) (full := false) (M := 78) (n := 153) (u := 6051) (pc := 10) (L := [xf 4 39, xi w, xf 40007 58, xi tp, xi k, o5, o6, o7]) (st := []) (h := h) (inl := []) (n' := 60) (sp := [10]) (o := [0, 0, 0, 1, 1]) rfl rfl ⟨rfl, rfl, rfl⟩ rfl ⟨Nat.le_of_eq hg.2.2.2.1, Nat.le_of_eq hg.2.2.2.2⟩ ⟨⟨⟨⟨⟨⟨⟨⟨⟨⟨⟨⟨trivial, (vnn hg.1 (rfl : vRf 39 3 = [43]) (by decide))⟩, (vp_of (i := w) (n := 3) (by omega) (by omega))⟩, (show ¬ (xI h (xR h 39 3) (w).toNatClampNeg) ≤ k from by rw [vref hg.1 (rfl : vRf 39 3 = [43])]; exact fun z => absurd (Int32.le_iff_toInt_le.mp z) (by omega))⟩, (vnn hg.1 (rfl : vRf 39 0 = [40]) (by decide))⟩, (vp_of (i := k) (n := 64) (by omega) (by omega))⟩, (show ¬ (xI h (xR h 39 0) (k).toNatClampNeg) = (Int32.ofInt (2)) from by rw [vref hg.1 (rfl : vRf 39 0 = [40])]; exact fun z => absurd (congrArg Int32.toInt z) (by omega))⟩, (show ¬ (xI h (xR h 39 0) (k).toNatClampNeg) < (Int32.ofInt (33)) from by rw [vref hg.1 (rfl : vRf 39 0 = [40])]; exact fun z => absurd (Int32.lt_iff_toInt_lt.mp z) (by omega))⟩, (show tp < (Int32.ofInt (64)) from Int32.lt_iff_toInt_lt.mpr (by omega))⟩, (vnn hg.1 (rfl : vRf 39 4 = [44]) (by decide))⟩, (show ¬ (xI h (xR h 39 0) (k).toNatClampNeg) = (Int32.ofInt (2)) from by rw [vref hg.1 (rfl : vRf 39 0 = [40])]; exact fun z => absurd (congrArg Int32.toInt z) (by omega))⟩, (show vp_in (((xI h (xR h 39 0) (k).toNatClampNeg) - (Int32.ofInt (33)))) (7) from (by rw [vref hg.1 (rfl : vRf 39 0 = [40])]; exact (vp_of (i := ((xI h 40 (k).toNatClampNeg) - (Int32.ofInt (33)))) (n := 7) (by omega) (by omega) : vp_in (((xI h 40 (k).toNatClampNeg) - (Int32.ofInt (33)))) (7))))⟩, (vp_of (i := tp) (n := 64) (by omega) (by omega))⟩
        rw [vref hg.1 (rfl : vRf 39 0 = [40]), vref hg.1 (rfl : vRf 39 4 = [44])] at t2
        have G : mL 44 h (xsetL h 44 (tp).toNatClampNeg (xL h 58 (((xI h 40 (k).toNatClampNeg) - (Int32.ofInt (33)))).toNatClampNeg)) := mL.set hg
        have ev : ((xL h 58 (((xI h 40 (k).toNatClampNeg) - (Int32.ofInt (33)))).toNatClampNeg)).toInt = nm (Z (500 + i)).toNat := by rw [nix]; exact (hn _ (by omega)).1
        have zv : zM ((xL h 58 (((xI h 40 (k).toNatClampNeg) - (Int32.ofInt (33)))).toNatClampNeg)) := by rw [nix]; exact (hn _ (by omega)).2
        have sk2 : zsk 44 (zs V i (nm (Z (500 + i)).toNat)) (i :: l0) (xsetL h 44 (tp).toNatClampNeg (xL h 58 (((xI h 40 (k).toNatClampNeg) - (Int32.ofInt (33)))).toNatClampNeg)) := ⟨by rw [← nt, yL_same, zs_same]; exact ⟨ev, zv⟩, zsk_fr (fun j hj => yL_ne (eq_false (fun z => by have := z.2; omega))) (fun a ha => zs_ne (by have := lb2 a ha; omega)) sk⟩
        obtain ⟨v, pcR, L', h2, z1, z2, z3, z4, z5⟩ := ck_workL24_58 l Z nm w W f T hw hW hT HT eT m (i + 1) (i :: l0) (zs V i (nm (Z (500 + i)).toNat)) (tp + Int32.ofInt (1)) (k + Int32.ofInt (1)) (xi (xI h 40 (k).toNatClampNeg)) (o6) (o7) (xsetL h 44 (tp).toNatClampNeg (xL h 58 (((xI h 40 (k).toNatClampNeg) - (Int32.ofInt (33)))).toNatClampNeg)) G.1 (fun j hj => by rw [G.2.1, G.2.1]; exact kf j hj) (fun j hj => by rw [G.2.1, G.2.1]; exact ko j hj) (fun j hj => by rw [G.2.2.2 58 j (by decide)]; exact hn j hj) (by omega) (by omega) hl1 (by omega) (by first | omega | (rw [List.length_cons]; omega)) sk2
        exact ⟨v, pcR, L', h2, t2.tr z1, z2, z3, G.tr z4, z5⟩
    · have lb2 := lb.2
      have et : tp.toInt = (t.length : Int) + 1 := by rw [et, List.length_cons]; rfl
      have eo := zop_not (nm := nm) (V := V) c32 ea
      have tm := y_sb1 (k := tp) (by omega) (by omega)
      have nm1 : (tp - Int32.ofInt (1)).toNatClampNeg = t.length := zi_ix (by omega)
      have lt64 := lb.1; rw [List.length_cons] at lt64
      rw [zlw_s eo]
      by_cases cb3 : (lg_cmp (xL h (xR h 39 4) ((tp - (Int32.ofInt (1)))).toNatClampNeg) (Int64.ofInt (0))) = 0
      · have el_0 : (Int64.ofInt (0)).toInt = 0 := rfl
        have cb3r := cb3
        rw [vref hg.1 (rfl : vRf 39 4 = [44])] at cb3r
        have dcb3 : (xL h 44 ((tp - (Int32.ofInt (1)))).toNatClampNeg).toInt = (Int64.ofInt (0)).toInt := lgi_eq.mp cb3r
        have t4 : XT l 2 45 false 78 153 6051 10 [xf 4 39, xi w, xf 40007 58, xi tp, xi k, o5, o6, o7] [] h 10 [xf 4 39, xi w, xf 40007 58, xi tp, xi (k + Int32.ofInt (1)), xi (xI h (xR h 39 0) (k).toNatClampNeg), o6, o7] [] (xsetL h (xR h 39 4) ((tp - (Int32.ofInt (1)))).toNatClampNeg (Int64.ofInt (1))) := XT_path (l := l) (fr := 2) (lo := 45) (full := false) (M := 78) (n := 153) (u := 6051) (pc := 10) (L := [xf 4 39, xi w, xf 40007 58, xi tp, xi k, o5, o6, o7]) (st := []) (h := h) (inl := []) (n' := 60) (sp := [10]) (o := [0, 0, 1, 0, 1, 0]) rfl rfl ⟨rfl, rfl, rfl⟩ rfl ⟨Nat.le_of_eq hg.2.2.2.1, Nat.le_of_eq hg.2.2.2.2⟩ ⟨⟨⟨⟨⟨⟨⟨⟨⟨⟨⟨⟨⟨⟨trivial, (vnn hg.1 (rfl : vRf 39 3 = [43]) (by decide))⟩, (vp_of (i := w) (n := 3) (by omega) (by omega))⟩, (show ¬ (xI h (xR h 39 3) (w).toNatClampNeg) ≤ k from by rw [vref hg.1 (rfl : vRf 39 3 = [43])]; exact fun z => absurd (Int32.le_iff_toInt_le.mp z) (by omega))⟩, (vnn hg.1 (rfl : vRf 39 0 = [40]) (by decide))⟩, (vp_of (i := k) (n := 64) (by omega) (by omega))⟩, (show ¬ (xI h (xR h 39 0) (k).toNatClampNeg) = (Int32.ofInt (2)) from by rw [vref hg.1 (rfl : vRf 39 0 = [40])]; exact fun z => absurd (congrArg Int32.toInt z) (by omega))⟩, (show (xI h (xR h 39 0) (k).toNatClampNeg) < (Int32.ofInt (33)) from by rw [vref hg.1 (rfl : vRf 39 0 = [40])]; exact Int32.lt_iff_toInt_lt.mpr (by omega))⟩, (show (xI h (xR h 39 0) (k).toNatClampNeg) = (Int32.ofInt (32)) from by rw [vref hg.1 (rfl : vRf 39 0 = [40])]; exact Int32.toInt_inj.mp (by omega))⟩, (show (Int32.ofInt (1)) ≤ tp from Int32.le_iff_toInt_le.mpr (by omega))⟩, (vnn hg.1 (rfl : vRf 39 4 = [44]) (by decide))⟩, (vnn hg.1 (rfl : vRf 39 4 = [44]) (by decide))⟩, (vp_of (i := (tp - (Int32.ofInt (1)))) (n := 64) (by omega) (by omega))⟩, cb3⟩, (vp_of (i := (tp - (Int32.ofInt (1)))) (n := 64) (by omega) (by omega))⟩
        rw [vref hg.1 (rfl : vRf 39 0 = [40]), vref hg.1 (rfl : vRf 39 4 = [44])] at t4
        have G : mL 44 h (xsetL h 44 ((tp - (Int32.ofInt (1)))).toNatClampNeg (Int64.ofInt (1))) := mL.set hg
        have d0 := dcb3
        rw [nm1, sk.1.1] at d0
        have d0 : V a = 0 := d0
        have ev : ((Int64.ofInt (1))).toInt = (if V a = 0 then 1 else 0) := by rw [if_pos d0]; rfl
        have zv : zM ((Int64.ofInt (1))) := by unfold zM; rw [ev]; split <;> decide
        have sk2 : zsk 44 (zs V i (if V a = 0 then 1 else 0)) (i :: t) (xsetL h 44 ((tp - (Int32.ofInt (1)))).toNatClampNeg (Int64.ofInt (1))) := ⟨by rw [← nm1, yL_same, zs_same]; exact ⟨ev, zv⟩, zsk_fr (fun j hj => yL_ne (eq_false (fun z => by have := z.2; omega))) (fun a ha => zs_ne (by have := lb2 a (List.mem_cons_of_mem _ ha); omega)) sk.2⟩
        obtain ⟨v, pcR, L', h2, z1, z2, z3, z4, z5⟩ := ck_workL24_58 l Z nm w W f T hw hW hT HT eT m (i + 1) (i :: t) (zs V i (if V a = 0 then 1 else 0)) tp (k + Int32.ofInt (1)) (xi (xI h 40 (k).toNatClampNeg)) (o6) (o7) (xsetL h 44 ((tp - (Int32.ofInt (1)))).toNatClampNeg (Int64.ofInt (1))) G.1 (fun j hj => by rw [G.2.1, G.2.1]; exact kf j hj) (fun j hj => by rw [G.2.1, G.2.1]; exact ko j hj) (fun j hj => by rw [G.2.2.2 58 j (by decide)]; exact hn j hj) (by omega) (by omega) hl1 (by omega) (by first | omega | (rw [List.length_cons]; omega)) sk2
        exact ⟨v, pcR, L', h2, t4.tr z1, z2, z3, G.tr z4, z5⟩
      · have el_0 : (Int64.ofInt (0)).toInt = 0 := rfl
        have cb3r := cb3
        rw [vref hg.1 (rfl : vRf 39 4 = [44])] at cb3r
        have dcb3 : ¬ (xL h 44 ((tp - (Int32.ofInt (1)))).toNatClampNeg).toInt = (Int64.ofInt (0)).toInt := fun z_ => cb3r (lgi_eq.mpr z_)
        have t5 : XT l 2 45 false 78 153 6051 10 [xf 4 39, xi w, xf 40007 58, xi tp, xi k, o5, o6, o7] [] h 10 [xf 4 39, xi w, xf 40007 58, xi tp, xi (k + Int32.ofInt (1)), xi (xI h (xR h 39 0) (k).toNatClampNeg), o6, o7] [] (xsetL h (xR h 39 4) ((tp - (Int32.ofInt (1)))).toNatClampNeg (Int64.ofInt (0))) := XT_path (l := l) (fr := 2) (lo := 45) (full := false) (M := 78) (n := 153) (u := 6051) (pc := 10) (L := [xf 4 39, xi w, xf 40007 58, xi tp, xi k, o5, o6, o7]) (st := []) (h := h) (inl := []) (n' := 60) (sp := [10]) (o := [0, 0, 1, 0, 1, 1]) rfl rfl ⟨rfl, rfl, rfl⟩ rfl ⟨Nat.le_of_eq hg.2.2.2.1, Nat.le_of_eq hg.2.2.2.2⟩ ⟨⟨⟨⟨⟨⟨⟨⟨⟨⟨⟨⟨⟨⟨trivial, (vnn hg.1 (rfl : vRf 39 3 = [43]) (by decide))⟩, (vp_of (i := w) (n := 3) (by omega) (by omega))⟩, (show ¬ (xI h (xR h 39 3) (w).toNatClampNeg) ≤ k from by rw [vref hg.1 (rfl : vRf 39 3 = [43])]; exact fun z => absurd (Int32.le_iff_toInt_le.mp z) (by omega))⟩, (vnn hg.1 (rfl : vRf 39 0 = [40]) (by decide))⟩, (vp_of (i := k) (n := 64) (by omega) (by omega))⟩, (show ¬ (xI h (xR h 39 0) (k).toNatClampNeg) = (Int32.ofInt (2)) from by rw [vref hg.1 (rfl : vRf 39 0 = [40])]; exact fun z => absurd (congrArg Int32.toInt z) (by omega))⟩, (show (xI h (xR h 39 0) (k).toNatClampNeg) < (Int32.ofInt (33)) from by rw [vref hg.1 (rfl : vRf 39 0 = [40])]; exact Int32.lt_iff_toInt_lt.mpr (by omega))⟩, (show (xI h (xR h 39 0) (k).toNatClampNeg) = (Int32.ofInt (32)) from by rw [vref hg.1 (rfl : vRf 39 0 = [40])]; exact Int32.toInt_inj.mp (by omega))⟩, (show (Int32.ofInt (1)) ≤ tp from Int32.le_iff_toInt_le.mpr (by omega))⟩, (vnn hg.1 (rfl : vRf 39 4 = [44]) (by decide))⟩, (vnn hg.1 (rfl : vRf 39 4 = [44]) (by decide))⟩, (vp_of (i := (tp - (Int32.ofInt (1)))) (n := 64) (by omega) (by omega))⟩, cb3⟩, (vp_of (i := (tp - (Int32.ofInt (1)))) (n := 64) (by omega) (by omega))⟩
        rw [vref hg.1 (rfl : vRf 39 0 = [40]), vref hg.1 (rfl : vRf 39 4 = [44])] at t5
        have G : mL 44 h (xsetL h 44 ((tp - (Int32.ofInt (1)))).toNatClampNeg (Int64.ofInt (0))) := mL.set hg
        have d0 := dcb3
        rw [nm1, sk.1.1] at d0
        have d0 : ¬ V a = 0 := d0
        have ev : ((Int64.ofInt (0))).toInt = (if V a = 0 then 1 else 0) := by rw [if_neg d0]; rfl
        have zv : zM ((Int64.ofInt (0))) := by unfold zM; rw [ev]; split <;> decide
        have sk2 : zsk 44 (zs V i (if V a = 0 then 1 else 0)) (i :: t) (xsetL h 44 ((tp - (Int32.ofInt (1)))).toNatClampNeg (Int64.ofInt (0))) := ⟨by rw [← nm1, yL_same, zs_same]; exact ⟨ev, zv⟩, zsk_fr (fun j hj => yL_ne (eq_false (fun z => by have := z.2; omega))) (fun a ha => zs_ne (by have := lb2 a (List.mem_cons_of_mem _ ha); omega)) sk.2⟩
        obtain ⟨v, pcR, L', h2, z1, z2, z3, z4, z5⟩ := ck_workL24_58 l Z nm w W f T hw hW hT HT eT m (i + 1) (i :: t) (zs V i (if V a = 0 then 1 else 0)) tp (k + Int32.ofInt (1)) (xi (xI h 40 (k).toNatClampNeg)) (o6) (o7) (xsetL h 44 ((tp - (Int32.ofInt (1)))).toNatClampNeg (Int64.ofInt (0))) G.1 (fun j hj => by rw [G.2.1, G.2.1]; exact kf j hj) (fun j hj => by rw [G.2.1, G.2.1]; exact ko j hj) (fun j hj => by rw [G.2.2.2 58 j (by decide)]; exact hn j hj) (by omega) (by omega) hl1 (by omega) (by first | omega | (rw [List.length_cons]; omega)) sk2
        exact ⟨v, pcR, L', h2, t5.tr z1, z2, z3, G.tr z4, z5⟩
    · have lb2 := lb.2
      have et : tp.toInt = (t.length : Int) + 1 + 1 := by rw [et, List.length_cons, List.length_cons]; rfl
      have eo := zop_bin (nm := nm) (V := V) cb ea ec
      have lt64 := lb.1; rw [List.length_cons, List.length_cons] at lt64
      have cb' : 7 ≤ Z (300 + i) ∧ Z (300 + i) ≤ 31 := zbo_b cb
      have t6 : XT l 2 45 false 78 153 6051 10 [xf 4 39, xi w, xf 40007 58, xi tp, xi k, o5, o6, o7] [] h 146 [xf 4 39, xi w, xf 40007 58, xi (tp + Int32.ofInt (-1)), xi k, xi (xI h (xR h 39 0) (k).toNatClampNeg), o6, o7] [] h := XT_path (l := l) (fr := 2) (lo := 45) (full := false) (M := 78) (n := 153) (u := 6051) (pc := 10) (L := [xf 4 39, xi w, xf 40007 58, xi tp, xi k, o5, o6, o7]) (st := []) (h := h) (inl := []) (n' := 60) (sp := [146]) (o := [0, 0, 1, 1, 1]) rfl rfl ⟨rfl, rfl, rfl⟩ rfl ⟨Nat.le_of_eq hg.2.2.2.1, Nat.le_of_eq hg.2.2.2.2⟩ ⟨⟨⟨⟨⟨⟨⟨⟨⟨trivial, (vnn hg.1 (rfl : vRf 39 3 = [43]) (by decide))⟩, (vp_of (i := w) (n := 3) (by omega) (by omega))⟩, (show ¬ (xI h (xR h 39 3) (w).toNatClampNeg) ≤ k from by rw [vref hg.1 (rfl : vRf 39 3 = [43])]; exact fun z => absurd (Int32.le_iff_toInt_le.mp z) (by omega))⟩, (vnn hg.1 (rfl : vRf 39 0 = [40]) (by decide))⟩, (vp_of (i := k) (n := 64) (by omega) (by omega))⟩, (show ¬ (xI h (xR h 39 0) (k).toNatClampNeg) = (Int32.ofInt (2)) from by rw [vref hg.1 (rfl : vRf 39 0 = [40])]; exact fun z => absurd (congrArg Int32.toInt z) (by omega))⟩, (show (xI h (xR h 39 0) (k).toNatClampNeg) < (Int32.ofInt (33)) from by rw [vref hg.1 (rfl : vRf 39 0 = [40])]; exact Int32.lt_iff_toInt_lt.mpr (by omega))⟩, (show ¬ (xI h (xR h 39 0) (k).toNatClampNeg) = (Int32.ofInt (32)) from by rw [vref hg.1 (rfl : vRf 39 0 = [40])]; exact fun z => absurd (congrArg Int32.toInt z) (by omega))⟩, (show (Int32.ofInt (2)) ≤ tp from Int32.le_iff_toInt_le.mpr (by omega))⟩
      rw [vref hg.1 (rfl : vRf 39 0 = [40])] at t6
      obtain ⟨X, hX⟩ : ∃ X, X = tp + Int32.ofInt (-1) := ⟨_, rfl⟩
      rw [← hX] at t6
      have tm : X.toInt = (t.length : Int) + 1 := by rw [hX]; exact y_min et (by omega)
      have tm2 : (X - Int32.ofInt (1)).toInt = t.length := y_sbn tm (by omega)
      have n2 : X.toNatClampNeg = t.length + 1 := zi_ix (by omega)
      have n3 : (X - Int32.ofInt (1)).toNatClampNeg = t.length := zi_ix tm2
      obtain ⟨⟨kc1, kc2⟩, ⟨ka1, ka2⟩, skt⟩ := sk
      rw [List.length_cons] at kc1 kc2
      rw [← n2] at kc1 kc2
      rw [← n3] at ka1 ka2
      have t7 : XT l 2 45 false 78 153 6051 146 [xf 4 39, xi w, xf 40007 58, xi X, xi k, xi (xI h 40 (k).toNatClampNeg), o6, o7] [] h 162 [xf 4 39, xi w, xf 40007 58, xi X, xi k, xi (xI h 40 (k).toNatClampNeg), o6, o7] [xl (xL h (xR h 39 4) (X).toNatClampNeg), xl (xL h (xR h 39 4) ((X - (Int32.ofInt (1)))).toNatClampNeg), xi (xI h 40 (k).toNatClampNeg)] h := XT_path (l := l) (fr := 2) (lo := 45) (full := false) (M := 78) (n := 153) (u := 6051) (pc := 146) (L := [xf 4 39, xi w, xf 40007 58, xi X, xi k, xi (xI h 40 (k).toNatClampNeg), o6, o7]) (st := []) (h := h) (inl := []) (n' := 60) (sp := [162]) (o := []) rfl rfl ⟨rfl, rfl, rfl⟩ rfl ⟨Nat.le_of_eq hg.2.2.2.1, Nat.le_of_eq hg.2.2.2.2⟩ ⟨⟨⟨⟨trivial, (vnn hg.1 (rfl : vRf 39 4 = [44]) (by decide))⟩, (vp_of (i := (X - (Int32.ofInt (1)))) (n := 64) (by omega) (by omega))⟩, (vnn hg.1 (rfl : vRf 39 4 = [44]) (by decide))⟩, (vp_of (i := X) (n := 64) (by omega) (by omega))⟩
      rw [vref hg.1 (rfl : vRf 39 4 = [44])] at t7
      have t8 := t6.tr t7
      obtain ⟨y, cj, zj⟩ := ck_joined l (xI h 40 (k).toNatClampNeg) (xL h 44 ((X - (Int32.ofInt (1)))).toNatClampNeg) (xL h 44 (X).toNatClampNeg) h hg ka2 kc2 (by rw [eop]; exact cb)
      rw [eop, ka1, kc1] at zj
      have t9 : XT l 2 45 false 78 153 6051 162 [xf 4 39, xi w, xf 40007 58, xi X, xi k, xi (xI h 40 (k).toNatClampNeg), o6, o7] [xl (xL h 44 (X).toNatClampNeg), xl (xL h 44 ((X - (Int32.ofInt (1)))).toNatClampNeg), xi (xI h 40 (k).toNatClampNeg)] h 165 [xf 4 39, xi w, xf 40007 58, xi X, xi k, xi (xI h 40 (k).toNatClampNeg), o6, o7] [xl y] h := XT_call (l := l) (fr := 2) (lo := 45) (full := false) (M := 78) (n := 153) (u := 6051) (pc := 162) (L := [xf 4 39, xi w, xf 40007 58, xi X, xi k, xi (xI h 40 (k).toNatClampNeg), o6, o7]) (st := [xl (xL h 44 (X).toNatClampNeg), xl (xL h 44 ((X - (Int32.ofInt (1)))).toNatClampNeg), xi (xI h 40 (k).toNatClampNeg)]) (h := h) (i := .invokestatic 79) (aux := 3) (nx := 165) (K := 79) (vs := [xi (xI h 40 (k).toNatClampNeg), xl (xL h 44 ((X - (Int32.ofInt (1)))).toNatClampNeg), xl (xL h 44 (X).toNatClampNeg)]) (rs := [xl y]) (rest := []) rfl rfl rfl rfl rfl rfl cj (by decide) (by decide) (Nat.le_of_ble_eq_true rfl) ⟨Nat.le_of_eq hg.2.2.2.1, Nat.le_of_eq hg.2.2.2.2⟩
      have t10 := t8.tr t9
      cases hz : zbin (Z (300 + i)) (V a) (V c) with
      | none =>
        rw [hz] at zj eo
        have zj : 1000000000000 < y.toInt ∨ y.toInt < -1000000000000 := zj
        rw [zlw_n eo]
        by_cases cb11 : (0 : Int32) < (lg_cmp y (Int64.ofInt (1000000000000)))
        · have el_1000000000000 : (Int64.ofInt (1000000000000)).toInt = 1000000000000 := rfl
          have dcb11 : (Int64.ofInt (1000000000000)).toInt < y.toInt := lgi_gt.mp cb11
          have t12 : XT l 2 45 false 78 153 6051 165 [xf 4 39, xi w, xf 40007 58, xi X, xi k, xi (xI h 40 (k).toNatClampNeg), o6, o7] [xl y] h 188 [xf 4 39, xi w, xf 40007 58, xi X, xi k, xi (xI h 40 (k).toNatClampNeg), xl y, xun] [xl (Int64.ofInt (-9223372036854775808))] h := XT_path (l := l) (fr := 2) (lo := 45) (full := false) (M := 78) (n := 153) (u := 6051) (pc := 165) (L := [xf 4 39, xi w, xf 40007 58, xi X, xi k, xi (xI h 40 (k).toNatClampNeg), o6, o7]) (st := [xl y]) (h := h) (inl := []) (n' := 60) (sp := [188]) (o := [1]) rfl rfl ⟨rfl, rfl, rfl⟩ rfl ⟨Nat.le_of_eq hg.2.2.2.1, Nat.le_of_eq hg.2.2.2.2⟩ ⟨trivial, cb11⟩
          have t13 := t10.tr t12
          exact ⟨_, _, _, _, t13, ⟨_, _, _, rfl, rfl, rfl⟩, rfl, mL.rf hg, (show (Int64.ofInt (-9223372036854775808)).toInt = -9223372036854775808 from rfl)⟩
        · have el_1000000000000 : (Int64.ofInt (1000000000000)).toInt = 1000000000000 := rfl
          have dcb11 : y.toInt ≤ (Int64.ofInt (1000000000000)).toInt := Int.not_lt.mp (fun z_ => cb11 (lgi_gt.mpr z_))
          by_cases cb14 : (0 : Int32) ≤ (lg_cmp y (Int64.ofInt (-1000000000000)))
          · have el_m1000000000000 : (Int64.ofInt (-1000000000000)).toInt = -1000000000000 := rfl
            have dcb14 : (Int64.ofInt (-1000000000000)).toInt ≤ y.toInt := lgi_ge.mp cb14
            have t15 : XT l 2 45 false 78 153 6051 165 [xf 4 39, xi w, xf 40007 58, xi X, xi k, xi (xI h 40 (k).toNatClampNeg), o6, o7] [xl y] h 10 [xf 4 39, xi w, xf 40007 58, xi X, xi (k + Int32.ofInt (1)), xi (xI h 40 (k).toNatClampNeg), xl y, xun] [] (xsetL h (xR h 39 4) ((X - (Int32.ofInt (1)))).toNatClampNeg y) := XT_path (l := l) (fr := 2) (lo := 45) (full := false) (M := 78) (n := 153) (u := 6051) (pc := 165) (L := [xf 4 39, xi w, xf 40007 58, xi X, xi k, xi (xI h 40 (k).toNatClampNeg), o6, o7]) (st := [xl y]) (h := h) (inl := []) (n' := 60) (sp := [10]) (o := [0, 1]) rfl rfl ⟨rfl, rfl, rfl⟩ rfl ⟨Nat.le_of_eq hg.2.2.2.1, Nat.le_of_eq hg.2.2.2.2⟩ ⟨⟨⟨⟨trivial, cb11⟩, cb14⟩, (vnn hg.1 (rfl : vRf 39 4 = [44]) (by decide))⟩, (vp_of (i := (X - (Int32.ofInt (1)))) (n := 64) (by omega) (by omega))⟩
            rw [vref hg.1 (rfl : vRf 39 4 = [44])] at t15
            have t16 := t10.tr t15
            exfalso; omega
          · have el_m1000000000000 : (Int64.ofInt (-1000000000000)).toInt = -1000000000000 := rfl
            have dcb14 : y.toInt < (Int64.ofInt (-1000000000000)).toInt := Int.not_le.mp (fun z_ => cb14 (lgi_ge.mpr z_))
            have t17 : XT l 2 45 false 78 153 6051 165 [xf 4 39, xi w, xf 40007 58, xi X, xi k, xi (xI h 40 (k).toNatClampNeg), o6, o7] [xl y] h 188 [xf 4 39, xi w, xf 40007 58, xi X, xi k, xi (xI h 40 (k).toNatClampNeg), xl y, xun] [xl (Int64.ofInt (-9223372036854775808))] h := XT_path (l := l) (fr := 2) (lo := 45) (full := false) (M := 78) (n := 153) (u := 6051) (pc := 165) (L := [xf 4 39, xi w, xf 40007 58, xi X, xi k, xi (xI h 40 (k).toNatClampNeg), o6, o7]) (st := [xl y]) (h := h) (inl := []) (n' := 60) (sp := [188]) (o := [0, 0]) rfl rfl ⟨rfl, rfl, rfl⟩ rfl ⟨Nat.le_of_eq hg.2.2.2.1, Nat.le_of_eq hg.2.2.2.2⟩ ⟨⟨trivial, cb11⟩, cb14⟩
            have t18 := t10.tr t17
            exact ⟨_, _, _, _, t18, ⟨_, _, _, rfl, rfl, rfl⟩, rfl, mL.rf hg, (show (Int64.ofInt (-9223372036854775808)).toInt = -9223372036854775808 from rfl)⟩
      | some z =>
        rw [hz] at zj eo
        obtain ⟨j1, j2, j3⟩ : y.toInt = z ∧ -1000000000000 ≤ z ∧ z ≤ 1000000000000 := zj
        rw [zlw_s eo]
        by_cases cb19 : (0 : Int32) < (lg_cmp y (Int64.ofInt (1000000000000)))
        · have el_1000000000000 : (Int64.ofInt (1000000000000)).toInt = 1000000000000 := rfl
          have dcb19 : (Int64.ofInt (1000000000000)).toInt < y.toInt := lgi_gt.mp cb19
          have t20 : XT l 2 45 false 78 153 6051 165 [xf 4 39, xi w, xf 40007 58, xi X, xi k, xi (xI h 40 (k).toNatClampNeg), o6, o7] [xl y] h 188 [xf 4 39, xi w, xf 40007 58, xi X, xi k, xi (xI h 40 (k).toNatClampNeg), xl y, xun] [xl (Int64.ofInt (-9223372036854775808))] h := XT_path (l := l) (fr := 2) (lo := 45) (full := false) (M := 78) (n := 153) (u := 6051) (pc := 165) (L := [xf 4 39, xi w, xf 40007 58, xi X, xi k, xi (xI h 40 (k).toNatClampNeg), o6, o7]) (st := [xl y]) (h := h) (inl := []) (n' := 60) (sp := [188]) (o := [1]) rfl rfl ⟨rfl, rfl, rfl⟩ rfl ⟨Nat.le_of_eq hg.2.2.2.1, Nat.le_of_eq hg.2.2.2.2⟩ ⟨trivial, cb19⟩
          have t21 := t10.tr t20
          exfalso; omega
        · have el_1000000000000 : (Int64.ofInt (1000000000000)).toInt = 1000000000000 := rfl
          have dcb19 : y.toInt ≤ (Int64.ofInt (1000000000000)).toInt := Int.not_lt.mp (fun z_ => cb19 (lgi_gt.mpr z_))
          by_cases cb22 : (0 : Int32) ≤ (lg_cmp y (Int64.ofInt (-1000000000000)))
          · have el_m1000000000000 : (Int64.ofInt (-1000000000000)).toInt = -1000000000000 := rfl
            have dcb22 : (Int64.ofInt (-1000000000000)).toInt ≤ y.toInt := lgi_ge.mp cb22
            have t23 : XT l 2 45 false 78 153 6051 165 [xf 4 39, xi w, xf 40007 58, xi X, xi k, xi (xI h 40 (k).toNatClampNeg), o6, o7] [xl y] h 10 [xf 4 39, xi w, xf 40007 58, xi X, xi (k + Int32.ofInt (1)), xi (xI h 40 (k).toNatClampNeg), xl y, xun] [] (xsetL h (xR h 39 4) ((X - (Int32.ofInt (1)))).toNatClampNeg y) := XT_path (l := l) (fr := 2) (lo := 45) (full := false) (M := 78) (n := 153) (u := 6051) (pc := 165) (L := [xf 4 39, xi w, xf 40007 58, xi X, xi k, xi (xI h 40 (k).toNatClampNeg), o6, o7]) (st := [xl y]) (h := h) (inl := []) (n' := 60) (sp := [10]) (o := [0, 1]) rfl rfl ⟨rfl, rfl, rfl⟩ rfl ⟨Nat.le_of_eq hg.2.2.2.1, Nat.le_of_eq hg.2.2.2.2⟩ ⟨⟨⟨⟨trivial, cb19⟩, cb22⟩, (vnn hg.1 (rfl : vRf 39 4 = [44]) (by decide))⟩, (vp_of (i := (X - (Int32.ofInt (1)))) (n := 64) (by omega) (by omega))⟩
            rw [vref hg.1 (rfl : vRf 39 4 = [44])] at t23
            have t24 := t10.tr t23
            have G : mL 44 h (xsetL h 44 ((X - (Int32.ofInt (1)))).toNatClampNeg y) := mL.set hg
            have sk2 : zsk 44 (zs V i z) (i :: t) (xsetL h 44 ((X - (Int32.ofInt (1)))).toNatClampNeg y) := ⟨by rw [← n3, yL_same, zs_same]; exact ⟨j1, by unfold zM; omega⟩, zsk_fr (fun j hj => yL_ne (eq_false (fun z => by have := z.2; omega))) (fun a ha => zs_ne (by have := lb2 a (List.mem_cons_of_mem _ (List.mem_cons_of_mem _ ha)); omega)) skt⟩
            obtain ⟨v, pcR, L', h2, z1, z2, z3, z4, z5⟩ := ck_workL24_58 l Z nm w W f T hw hW hT HT eT m (i + 1) (i :: t) (zs V i z) X (k + Int32.ofInt (1)) (xi (xI h 40 (k).toNatClampNeg)) (xl y) (xun) (xsetL h 44 ((X - (Int32.ofInt (1)))).toNatClampNeg y) G.1 (fun j hj => by rw [G.2.1, G.2.1]; exact kf j hj) (fun j hj => by rw [G.2.1, G.2.1]; exact ko j hj) (fun j hj => by rw [G.2.2.2 58 j (by decide)]; exact hn j hj) (by omega) (by omega) hl1 (by omega) (by first | omega | (rw [List.length_cons]; omega)) sk2
            exact ⟨v, pcR, L', h2, t24.tr z1, z2, z3, G.tr z4, z5⟩
          · have el_m1000000000000 : (Int64.ofInt (-1000000000000)).toInt = -1000000000000 := rfl
            have dcb22 : y.toInt < (Int64.ofInt (-1000000000000)).toInt := Int.not_le.mp (fun z_ => cb22 (lgi_ge.mpr z_))
            have t25 : XT l 2 45 false 78 153 6051 165 [xf 4 39, xi w, xf 40007 58, xi X, xi k, xi (xI h 40 (k).toNatClampNeg), o6, o7] [xl y] h 188 [xf 4 39, xi w, xf 40007 58, xi X, xi k, xi (xI h 40 (k).toNatClampNeg), xl y, xun] [xl (Int64.ofInt (-9223372036854775808))] h := XT_path (l := l) (fr := 2) (lo := 45) (full := false) (M := 78) (n := 153) (u := 6051) (pc := 165) (L := [xf 4 39, xi w, xf 40007 58, xi X, xi k, xi (xI h 40 (k).toNatClampNeg), o6, o7]) (st := [xl y]) (h := h) (inl := []) (n' := 60) (sp := [188]) (o := [0, 0]) rfl rfl ⟨rfl, rfl, rfl⟩ rfl ⟨Nat.le_of_eq hg.2.2.2.1, Nat.le_of_eq hg.2.2.2.2⟩ ⟨⟨trivial, cb19⟩, cb22⟩
            have t26 := t10.tr t25
            exfalso; omega
set_option maxRecDepth 100000 in
set_option maxHeartbeats 4000000 in
theorem ck_work24_58 (l : Launch) (Z nm : Nat → Int) (w : Int32) (W : Nat) (hw : w.toInt = W) (hW : W < 3) (LW : zLW Z) (g6 : zG Z) (h : XH) (hg : mI h) (kf : kF 42 43 Z h) (ko : kO 39 40 41 Z h) (hn : ∀ j : Nat, j < 7 → (xL h 58 j).toInt = nm j ∧ zM (xL h 58 j)) : ∃ v h', CX l 2 45 false 78 [xf 4 39, xi w, xf 40007 58] h [xl v] h' ∧ mL 44 h h' ∧ zwv (zL Z nm W) v := by
  have bf : 0 ≤ (xI h 42 W).toInt := by have z := vbnd hg.1 42 W; rw [vI_u rfl (rfl : vRow 42 = (0, 64))] at z; exact z.1
  obtain ⟨kf1, kf2⟩ := kf W hW
  have efr : (xI h 42 w.toNatClampNeg).toInt = Z (240 + W) := by rw [zi_ix hw]; exact kf1
  have eto : (xI h 43 w.toNatClampNeg).toInt = Z (250 + W) := by rw [zi_ix hw]; exact kf2
  have e_0 : (Int32.ofInt (0)).toInt = 0 := rfl
  have e_1 : (Int32.ofInt (1)).toInt = 1 := rfl
  have t1 : XT l 2 45 false 78 153 6051 0 [xf 4 39, xi w, xf 40007 58, xun, xun, xun, xun, xun] [] h 10 [xf 4 39, xi w, xf 40007 58, xi (Int32.ofInt (0)), xi (xI h (xR h 39 2) (w).toNatClampNeg), xun, xun, xun] [] h := XT_path (l := l) (fr := 2) (lo := 45) (full := false) (M := 78) (n := 153) (u := 6051) (pc := 0) (L := [xf 4 39, xi w, xf 40007 58, xun, xun, xun, xun, xun]) (st := []) (h := h) (inl := []) (n' := 60) (sp := [10]) (o := []) rfl rfl ⟨rfl, rfl, rfl⟩ rfl ⟨Nat.le_of_eq hg.2.2.2.1, Nat.le_of_eq hg.2.2.2.2⟩ ⟨⟨trivial, (vnn hg.1 (rfl : vRf 39 2 = [42]) (by decide))⟩, (vp_of (i := w) (n := 3) (by omega) (by omega))⟩
  rw [vref hg.1 (rfl : vRf 39 2 = [42])] at t1
  by_cases tl : Z (240 + W) < Z (250 + W)
  · obtain ⟨a1, a2, a3⟩ := LW W hW tl
    have g3 := g6.2.2; have g2 := g6.2.1
    obtain ⟨v, pcR, L', h', z1, z2, z3, z4, z5⟩ := ck_workL24_58 l Z nm w W (Z (240 + W)).toNat (Z (250 + W)).toNat hw hW (by omega) a3 (by omega) ((Z (250 + W)).toNat - (Z (240 + W)).toNat) (Z (240 + W)).toNat [] (fun _ => 0) (Int32.ofInt (0)) (xI h 42 (w).toNatClampNeg) xun xun xun h hg kf (fun j hj => ko.2.2 j (by omega)) hn (by omega) (Nat.le_refl _) (by rw [Nat.sub_self]; rfl) (by omega) (by rw [e_0]; rfl) trivial
    refine ⟨v, h', CX_ofT (h' := h') (by decide) rfl rfl trivial z2 z3 ⟨Nat.le_of_eq z4.1.2.2.2.1.symm, Nat.le_of_eq z4.1.2.2.2.2.symm⟩ (t1.tr z1), z4, ?_⟩
    unfold zL
    rw [if_pos tl]
    cases hz : zlw Z nm ((Z (250 + W)).toNat - (Z (240 + W)).toNat) (Z (240 + W)).toNat (fun _ => 0) with
    | none => rw [hz] at z5; exact z5
    | some V => rw [hz] at z5; exact z5
  · have eL : zL Z nm W = none := if_neg tl
    rw [eL]
    have t2 : XT l 2 45 false 78 153 6051 10 [xf 4 39, xi w, xf 40007 58, xi (Int32.ofInt (0)), xi (xI h 42 (w).toNatClampNeg), xun, xun, xun] [] h 222 [xf 4 39, xi w, xf 40007 58, xi (Int32.ofInt (0)), xi (xI h 42 (w).toNatClampNeg), xun, xun, xun] [xl (Int64.ofInt (-9223372036854775808))] h := XT_path (l := l) (fr := 2) (lo := 45) (full := false) (M := 78) (n := 153) (u := 6051) (pc := 10) (L := [xf 4 39, xi w, xf 40007 58, xi (Int32.ofInt (0)), xi (xI h 42 (w).toNatClampNeg), xun, xun, xun]) (st := []) (h := h) (inl := []) (n' := 60) (sp := [222]) (o := [1, 1]) rfl rfl ⟨rfl, rfl, rfl⟩ rfl ⟨Nat.le_of_eq hg.2.2.2.1, Nat.le_of_eq hg.2.2.2.2⟩ ⟨⟨⟨⟨trivial, (vnn hg.1 (rfl : vRf 39 3 = [43]) (by decide))⟩, (vp_of (i := w) (n := 3) (by omega) (by omega))⟩, (show (xI h (xR h 39 3) (w).toNatClampNeg) ≤ (xI h 42 (w).toNatClampNeg) from by rw [vref hg.1 (rfl : vRf 39 3 = [43])]; exact Int32.le_iff_toInt_le.mpr (by omega))⟩, (show ¬ (Int32.ofInt (0)) = (Int32.ofInt (1)) from fun z => absurd (congrArg Int32.toInt z) (by omega))⟩
    have t3 := t1.tr t2
    exact ⟨_, _, CX_ofT (h' := h) (by decide) rfl rfl trivial ⟨_, _, _, rfl, rfl, rfl⟩ rfl ⟨Nat.le_of_eq hg.2.2.2.1.symm, Nat.le_of_eq hg.2.2.2.2.symm⟩ t3, mL.rf hg, rfl⟩
set_option maxRecDepth 100000 in
set_option maxHeartbeats 4000000 in
theorem ck_workL24_69 (l : Launch) (Z nm : Nat → Int) (w : Int32) (W f T : Nat) (hw : w.toInt = W) (hW : W < 3) (hT : T ≤ 64) (HT : zrn Z f (T - f) [T - 1]) (eT : Z (250 + W) = T) : ∀ (m i : Nat) (ls : List Nat) (V : Nat → Int) (tp k : Int32) (o5 o6 o7 : XV) (h : XH), mI h → kF 42 43 Z h → (∀ j : Nat, j < T → (xI h 40 j).toInt = Z (300 + j) ∧ (xI h 41 j).toInt = Z (400 + j)) → (∀ j : Nat, j < 7 → (xL h 69 j).toInt = nm j ∧ zM (xL h 69 j)) → i + m = T → f ≤ i → zrn Z f (i - f) ls → k.toInt = i → tp.toInt = ls.length → zsk 44 V ls h → ∃ v pcR L' h', XT l 2 45 false 78 153 6051 10 [xf 4 39, xi w, xf 40007 69, xi tp, xi k, o5, o6, o7] [] h pcR L' [xl v] h' ∧ XE 78 pcR [xl v] ∧ L'.length = 8 ∧ mL 44 h h' ∧ zwr (zlw Z nm m i V) T v
  | 0, i, ls, V, tp, k, o5, o6, o7, h, hg, kf, ko, hn, hi, hf, hl, ek, et, sk => by
    have eto : (xI h 43 w.toNatClampNeg).toInt = Z (250 + W) := by rw [zi_ix hw]; exact (kf W hW).2
    have e_0 : (Int32.ofInt (0)).toInt = 0 := rfl
    have e_1 : (Int32.ofInt (1)).toInt = 1 := rfl
    have e_2 : (Int32.ofInt (2)).toInt = 2 := rfl
    have e_32 : (Int32.ofInt (32)).toInt = 32 := rfl
    have e_33 : (Int32.ofInt (33)).toInt = 33 := rfl
    have e_64 : (Int32.ofInt (64)).toInt = 64 := rfl
    have lb := zrn_b hl
    obtain rfl : i = T := by omega
    obtain rfl := zrn_det hl HT
    have et : tp.toInt = 1 := et
    have t1 : XT l 2 45 false 78 153 6051 10 [xf 4 39, xi w, xf 40007 69, xi tp, xi k, o5, o6, o7] [] h 222 [xf 4 39, xi w, xf 40007 69, xi tp, xi k, o5, o6, o7] [xl (xL h (xR h 39 4) ((Int32.ofInt (0))).toNatClampNeg)] h := XT_path (l := l) (fr := 2) (lo := 45) (full := false) (M := 78) (n := 153) (u := 6051) (pc := 10) (L := [xf 4 39, xi w, xf 40007 69, xi tp, xi k, o5, o6, o7]) (st := []) (h := h) (inl := []) (n' := 60) (sp := [222]) (o := [1, 0]) rfl rfl ⟨rfl, rfl, rfl⟩ rfl ⟨Nat.le_of_eq hg.2.2.2.1, Nat.le_of_eq hg.2.2.2.2⟩ ⟨⟨⟨⟨⟨⟨trivial, (vnn hg.1 (rfl : vRf 39 3 = [43]) (by decide))⟩, (vp_of (i := w) (n := 3) (by omega) (by omega))⟩, (show (xI h (xR h 39 3) (w).toNatClampNeg) ≤ k from by rw [vref hg.1 (rfl : vRf 39 3 = [43])]; exact Int32.le_iff_toInt_le.mpr (by omega))⟩, (show tp = (Int32.ofInt (1)) from Int32.toInt_inj.mp (by omega))⟩, (vnn hg.1 (rfl : vRf 39 4 = [44]) (by decide))⟩, (vp_of (i := (Int32.ofInt (0))) (n := 64) (by omega) (by omega))⟩
    rw [vref hg.1 (rfl : vRf 39 4 = [44])] at t1
    exact ⟨_, _, _, _, t1, ⟨_, _, _, rfl, rfl, rfl⟩, rfl, mL.rf hg, sk.1.1, by have y := sk.1.2.1; have y1 := sk.1.1; have y2 : (xL h 44 0).toInt = V (i - 1) := y1; have y3 : -1000000000000 ≤ (xL h 44 0).toInt := y; omega, by have y := sk.1.2.2; have y1 := sk.1.1; have y2 : (xL h 44 0).toInt = V (i - 1) := y1; have y3 : (xL h 44 0).toInt ≤ 1000000000000 := y; omega⟩
  | m + 1, i, ls, V, tp, k, o5, o6, o7, h, hg, kf, ko, hn, hi, hf, hl, ek, et, sk => by
    have eto : (xI h 43 w.toNatClampNeg).toInt = Z (250 + W) := by rw [zi_ix hw]; exact (kf W hW).2
    have e_0 : (Int32.ofInt (0)).toInt = 0 := rfl
    have e_1 : (Int32.ofInt (1)).toInt = 1 := rfl
    have e_2 : (Int32.ofInt (2)).toInt = 2 := rfl
    have e_32 : (Int32.ofInt (32)).toInt = 32 := rfl
    have e_33 : (Int32.ofInt (33)).toInt = 33 := rfl
    have e_64 : (Int32.ofInt (64)).toInt = 64 := rfl
    have lb := zrn_b hl
    obtain ⟨l1, l0, la, lx⟩ := zrn_pre (k := i - f + 1) (m := m) (l := [T - 1]) (by rw [show i - f + 1 + m = T - f by omega]; exact HT)
    obtain rfl := zrn_det la hl
    have hl1 : zrn Z f (i + 1 - f) l1 := by rw [show i + 1 - f = i - f + 1 by omega]; exact ⟨l0, la, lx⟩
    rw [show f + (i - f) = i by omega] at lx
    obtain ⟨ko1, ko2⟩ := ko i (by omega)
    have eop : (xI h 40 k.toNatClampNeg).toInt = Z (300 + i) := by rw [zi_ix ek]; exact ko1
    have ecv : (xI h 41 k.toNatClampNeg).toInt = Z (400 + i) := by rw [zi_ix ek]; exact ko2
    have sk1 := y_suc1 (k := k) (by omega) (by omega)
    have nt := zi_ix et
    have bcv : -2147483648 ≤ (xI h 41 k.toNatClampNeg).toInt ∧ (xI h 41 k.toNatClampNeg).toInt ≤ 2147483647 := i32r_of _
    rcases lx with ⟨lf, rfl⟩ | ⟨c32, a, t, rfl, ea, rfl⟩ | ⟨cb, a, c, t, rfl, ea, ec, rfl⟩
    · have lb2 := lb.2
      have st1 := y_suc1 (k := tp) (by omega) (by omega)
      have lt64 : l0.length < 64 := by have := lb.1; omega
      rcases lf with ⟨c2, e45⟩ | ⟨c33, c39, e53⟩
      · have eo : zop Z nm V i = some (Z (500 + i)) := zop_2 c2
        rw [zlw_s eo]
        have t1 : XT l 2 45 false 78 153 6051 10 [xf 4 39, xi w, xf 40007 69, xi tp, xi k, o5, o6, o7] [] h 10 [xf 4 39, xi w, xf 40007 69, xi (tp + Int32.ofInt (1)), xi (k + Int32.ofInt (1)), xi (xI h (xR h 39 0) (k).toNatClampNeg), o6, o7] [] (xsetL h (xR h 39 4) (tp).toNatClampNeg ((xI h (xR h 39 1) (k).toNatClampNeg)).toInt64) := XT_path (l := l) (fr := 2) (lo := 45) (full := false) (M := 78) (n := 153) (u := 6051) (pc := 10) (L := [xf 4 39, xi w, xf 40007 69, xi tp, xi k, o5, o6, o7]) (st := []) (h := h) (inl := []) (n' := 60) (sp := [10]) (o := [0, 1, 1, 0]) rfl rfl ⟨rfl, rfl, rfl⟩ rfl ⟨Nat.le_of_eq hg.2.2.2.1, Nat.le_of_eq hg.2.2.2.2⟩ ⟨⟨⟨⟨⟨⟨⟨⟨⟨⟨⟨⟨trivial, (vnn hg.1 (rfl : vRf 39 3 = [43]) (by decide))⟩, (vp_of (i := w) (n := 3) (by omega) (by omega))⟩, (show ¬ (xI h (xR h 39 3) (w).toNatClampNeg) ≤ k from by rw [vref hg.1 (rfl : vRf 39 3 = [43])]; exact fun z => absurd (Int32.le_iff_toInt_le.mp z) (by omega))⟩, (vnn hg.1 (rfl : vRf 39 0 = [40]) (by decide))⟩, (vp_of (i := k) (n := 64) (by omega) (by omega))⟩, (show (xI h (xR h 39 0) (k).toNatClampNeg) = (Int32.ofInt (2)) from by rw [vref hg.1 (rfl : vRf 39 0 = [40])]; exact Int32.toInt_inj.mp (by omega))⟩, (show tp < (Int32.ofInt (64)) from Int32.lt_iff_toInt_lt.mpr (by omega))⟩, (vnn hg.1 (rfl : vRf 39 4 = [44]) (by decide))⟩, (show (xI h (xR h 39 0) (k).toNatClampNeg) = (Int32.ofInt (2)) from by rw [vref hg.1 (rfl : vRf 39 0 = [40])]; exact Int32.toInt_inj.mp (by omega))⟩, (vnn hg.1 (rfl : vRf 39 1 = [41]) (by decide))⟩, (vp_of (i := k) (n := 64) (by omega) (by omega))⟩, (vp_of (i := tp) (n := 64) (by omega) (by omega))⟩
        rw [vref hg.1 (rfl : vRf 39 0 = [40]), vref hg.1 (rfl : vRf 39 4 = [44]), vref hg.1 (rfl : vRf 39 1 = [41])] at t1
        have G : mL 44 h (xsetL h 44 (tp).toNatClampNeg ((xI h 41 (k).toNatClampNeg)).toInt64) := mL.set hg
        have ev : (((xI h 41 (k).toNatClampNeg)).toInt64).toInt = Z (500 + i) := by rw [Int32.toInt_toInt64, ecv, e45]
        have zv : zM (((xI h 41 (k).toNatClampNeg)).toInt64) := by unfold zM; rw [ev]; omega
        have sk2 : zsk 44 (zs V i (Z (500 + i))) (i :: l0) (xsetL h 44 (tp).toNatClampNeg ((xI h 41 (k).toNatClampNeg)).toInt64) := ⟨by rw [← nt, yL_same, zs_same]; exact ⟨ev, zv⟩, zsk_fr (fun j hj => yL_ne (eq_false (fun z => by have := z.2; omega))) (fun a ha => zs_ne (by have := lb2 a ha; omega)) sk⟩
        obtain ⟨v, pcR, L', h2, z1, z2, z3, z4, z5⟩ := ck_workL24_69 l Z nm w W f T hw hW hT HT eT m (i + 1) (i :: l0) (zs V i (Z (500 + i))) (tp + Int32.ofInt (1)) (k + Int32.ofInt (1)) (xi (xI h 40 (k).toNatClampNeg)) (o6) (o7) (xsetL h 44 (tp).toNatClampNeg ((xI h 41 (k).toNatClampNeg)).toInt64) G.1 (fun j hj => by rw [G.2.1, G.2.1]; exact kf j hj) (fun j hj => by rw [G.2.1, G.2.1]; exact ko j hj) (fun j hj => by rw [G.2.2.2 69 j (by decide)]; exact hn j hj) (by omega) (by omega) hl1 (by omega) (by first | omega | (rw [List.length_cons]; omega)) sk2
        exact ⟨v, pcR, L', h2, t1.tr z1, z2, z3, G.tr z4, z5⟩
      · have eo : zop Z nm V i = some (nm (Z (500 + i)).toNat) := zop_nm c33
        have eix : ((xI h 40 k.toNatClampNeg) - (Int32.ofInt (33))).toInt = Z (500 + i) := by rw [Int32.toInt_sub, eop, e_33, e53]; exact Int.bmod_eq_of_le (by omega) (by omega)
        have nix : ((xI h 40 k.toNatClampNeg) - (Int32.ofInt (33))).toNatClampNeg = (Z (500 + i)).toNat := by show ((xI h 40 k.toNatClampNeg) - (Int32.ofInt (33))).toInt.toNat = _; rw [eix]
        rw [zlw_s eo]
        have t2 : XT l 2 45 false 78 153 6051 10 [xf 4 39, xi w, xf 40007 69, xi tp, xi k, o5, o6, o7] [] h 10 [xf 4 39, xi w, xf 40007 69, xi (tp + Int32.ofInt (1)), xi (k + Int32.ofInt (1)), xi (xI h (xR h 39 0) (k).toNatClampNeg), o6, o7] [] (xsetL h (xR h 39 4) (tp).toNatClampNeg (xL h 69 (((xI h (xR h 39 0) (k).toNatClampNeg) - (Int32.ofInt (33)))).toNatClampNeg)) := XT_path (l := l) (fr := 2) (lo := 45) (full := false) (M := 78) (n := 153) (u := 6051) (pc := 10) (L := [xf 4 39, xi w, xf 40007 69, xi tp, xi k, o5, o6, o7]) (st := []) (h := h) (inl := []) (n' := 60) (sp := [10]) (o := [0, 0, 0, 1, 1]) rfl rfl ⟨rfl, rfl, rfl⟩ rfl ⟨Nat.le_of_eq hg.2.2.2.1, Nat.le_of_eq hg.2.2.2.2⟩ ⟨⟨⟨⟨⟨⟨⟨⟨⟨⟨⟨⟨trivial, (vnn hg.1 (rfl : vRf 39 3 = [43]) (by decide))⟩, (vp_of (i := w) (n := 3) (by omega) (by omega))⟩, (show ¬ (xI h (xR h 39 3) (w).toNatClampNeg) ≤ k from by rw [vref hg.1 (rfl : vRf 39 3 = [43])]; exact fun z => absurd (Int32.le_iff_toInt_le.mp z) (by omega))⟩, (vnn hg.1 (rfl : vRf 39 0 = [40]) (by decide))⟩, (vp_of (i := k) (n := 64) (by omega) (by omega))⟩, (show ¬ (xI h (xR h 39 0) (k).toNatClampNeg) = (Int32.ofInt (2)) from by rw [vref hg.1 (rfl : vRf 39 0 = [40])]; exact fun z => absurd (congrArg Int32.toInt z) (by omega))⟩, (show ¬ (xI h (xR h 39 0) (k).toNatClampNeg) < (Int32.ofInt (33)) from by rw [vref hg.1 (rfl : vRf 39 0 = [40])]; exact fun z => absurd (Int32.lt_iff_toInt_lt.mp z) (by omega))⟩, (show tp < (Int32.ofInt (64)) from Int32.lt_iff_toInt_lt.mpr (by omega))⟩, (vnn hg.1 (rfl : vRf 39 4 = [44]) (by decide))⟩, (show ¬ (xI h (xR h 39 0) (k).toNatClampNeg) = (Int32.ofInt (2)) from by rw [vref hg.1 (rfl : vRf 39 0 = [40])]; exact fun z => absurd (congrArg Int32.toInt z) (by omega))⟩, (show vp_in (((xI h (xR h 39 0) (k).toNatClampNeg) - (Int32.ofInt (33)))) (7) from (by rw [vref hg.1 (rfl : vRf 39 0 = [40])]; exact (vp_of (i := ((xI h 40 (k).toNatClampNeg) - (Int32.ofInt (33)))) (n := 7) (by omega) (by omega) : vp_in (((xI h 40 (k).toNatClampNeg) - (Int32.ofInt (33)))) (7))))⟩, (vp_of (i := tp) (n := 64) (by omega) (by omega))⟩
        rw [vref hg.1 (rfl : vRf 39 0 = [40]), vref hg.1 (rfl : vRf 39 4 = [44])] at t2
        have G : mL 44 h (xsetL h 44 (tp).toNatClampNeg (xL h 69 (((xI h 40 (k).toNatClampNeg) - (Int32.ofInt (33)))).toNatClampNeg)) := mL.set hg
        have ev : ((xL h 69 (((xI h 40 (k).toNatClampNeg) - (Int32.ofInt (33)))).toNatClampNeg)).toInt = nm (Z (500 + i)).toNat := by rw [nix]; exact (hn _ (by omega)).1
        have zv : zM ((xL h 69 (((xI h 40 (k).toNatClampNeg) - (Int32.ofInt (33)))).toNatClampNeg)) := by rw [nix]; exact (hn _ (by omega)).2
        have sk2 : zsk 44 (zs V i (nm (Z (500 + i)).toNat)) (i :: l0) (xsetL h 44 (tp).toNatClampNeg (xL h 69 (((xI h 40 (k).toNatClampNeg) - (Int32.ofInt (33)))).toNatClampNeg)) := ⟨by rw [← nt, yL_same, zs_same]; exact ⟨ev, zv⟩, zsk_fr (fun j hj => yL_ne (eq_false (fun z => by have := z.2; omega))) (fun a ha => zs_ne (by have := lb2 a ha; omega)) sk⟩
        obtain ⟨v, pcR, L', h2, z1, z2, z3, z4, z5⟩ := ck_workL24_69 l Z nm w W f T hw hW hT HT eT m (i + 1) (i :: l0) (zs V i (nm (Z (500 + i)).toNat)) (tp + Int32.ofInt (1)) (k + Int32.ofInt (1)) (xi (xI h 40 (k).toNatClampNeg)) (o6) (o7) (xsetL h 44 (tp).toNatClampNeg (xL h 69 (((xI h 40 (k).toNatClampNeg) - (Int32.ofInt (33)))).toNatClampNeg)) G.1 (fun j hj => by rw [G.2.1, G.2.1]; exact kf j hj) (fun j hj => by rw [G.2.1, G.2.1]; exact ko j hj) (fun j hj => by rw [G.2.2.2 69 j (by decide)]; exact hn j hj) (by omega) (by omega) hl1 (by omega) (by first | omega | (rw [List.length_cons]; omega)) sk2
        exact ⟨v, pcR, L', h2, t2.tr z1, z2, z3, G.tr z4, z5⟩
    · have lb2 := lb.2
      have et : tp.toInt = (t.length : Int) + 1 := by rw [et, List.length_cons]; rfl
      have eo := zop_not (nm := nm) (V := V) c32 ea
      have tm := y_sb1 (k := tp) (by omega) (by omega)
      have nm1 : (tp - Int32.ofInt (1)).toNatClampNeg = t.length := zi_ix (by omega)
      have lt64 := lb.1; rw [List.length_cons] at lt64
      rw [zlw_s eo]
      by_cases cb3 : (lg_cmp (xL h (xR h 39 4) ((tp - (Int32.ofInt (1)))).toNatClampNeg) (Int64.ofInt (0))) = 0
      · have el_0 : (Int64.ofInt (0)).toInt = 0 := rfl
        have cb3r := cb3
        rw [vref hg.1 (rfl : vRf 39 4 = [44])] at cb3r
        have dcb3 : (xL h 44 ((tp - (Int32.ofInt (1)))).toNatClampNeg).toInt = (Int64.ofInt (0)).toInt := lgi_eq.mp cb3r
        have t4 : XT l 2 45 false 78 153 6051 10 [xf 4 39, xi w, xf 40007 69, xi tp, xi k, o5, o6, o7] [] h 10 [xf 4 39, xi w, xf 40007 69, xi tp, xi (k + Int32.ofInt (1)), xi (xI h (xR h 39 0) (k).toNatClampNeg), o6, o7] [] (xsetL h (xR h 39 4) ((tp - (Int32.ofInt (1)))).toNatClampNeg (Int64.ofInt (1))) := XT_path (l := l) (fr := 2) (lo := 45) (full := false) (M := 78) (n := 153) (u := 6051) (pc := 10) (L := [xf 4 39, xi w, xf 40007 69, xi tp, xi k, o5, o6, o7]) (st := []) (h := h) (inl := []) (n' := 60) (sp := [10]) (o := [0, 0, 1, 0, 1, 0]) rfl rfl ⟨rfl, rfl, rfl⟩ rfl ⟨Nat.le_of_eq hg.2.2.2.1, Nat.le_of_eq hg.2.2.2.2⟩ ⟨⟨⟨⟨⟨⟨⟨⟨⟨⟨⟨⟨⟨⟨trivial, (vnn hg.1 (rfl : vRf 39 3 = [43]) (by decide))⟩, (vp_of (i := w) (n := 3) (by omega) (by omega))⟩, (show ¬ (xI h (xR h 39 3) (w).toNatClampNeg) ≤ k from by rw [vref hg.1 (rfl : vRf 39 3 = [43])]; exact fun z => absurd (Int32.le_iff_toInt_le.mp z) (by omega))⟩, (vnn hg.1 (rfl : vRf 39 0 = [40]) (by decide))⟩, (vp_of (i := k) (n := 64) (by omega) (by omega))⟩, (show ¬ (xI h (xR h 39 0) (k).toNatClampNeg) = (Int32.ofInt (2)) from by rw [vref hg.1 (rfl : vRf 39 0 = [40])]; exact fun z => absurd (congrArg Int32.toInt z) (by omega))⟩, (show (xI h (xR h 39 0) (k).toNatClampNeg) < (Int32.ofInt (33)) from by rw [vref hg.1 (rfl : vRf 39 0 = [40])]; exact Int32.lt_iff_toInt_lt.mpr (by omega))⟩, (show (xI h (xR h 39 0) (k).toNatClampNeg) = (Int32.ofInt (32)) from by rw [vref hg.1 (rfl : vRf 39 0 = [40])]; exact Int32.toInt_inj.mp (by omega))⟩, (show (Int32.ofInt (1)) ≤ tp from Int32.le_iff_toInt_le.mpr (by omega))⟩, (vnn hg.1 (rfl : vRf 39 4 = [44]) (by decide))⟩, (vnn hg.1 (rfl : vRf 39 4 = [44]) (by decide))⟩, (vp_of (i := (tp - (Int32.ofInt (1)))) (n := 64) (by omega) (by omega))⟩, cb3⟩, (vp_of (i := (tp - (Int32.ofInt (1)))) (n := 64) (by omega) (by omega))⟩
        rw [vref hg.1 (rfl : vRf 39 0 = [40]), vref hg.1 (rfl : vRf 39 4 = [44])] at t4
        have G : mL 44 h (xsetL h 44 ((tp - (Int32.ofInt (1)))).toNatClampNeg (Int64.ofInt (1))) := mL.set hg
        have d0 := dcb3
        rw [nm1, sk.1.1] at d0
        have d0 : V a = 0 := d0
        have ev : ((Int64.ofInt (1))).toInt = (if V a = 0 then 1 else 0) := by rw [if_pos d0]; rfl
        have zv : zM ((Int64.ofInt (1))) := by unfold zM; rw [ev]; split <;> decide
        have sk2 : zsk 44 (zs V i (if V a = 0 then 1 else 0)) (i :: t) (xsetL h 44 ((tp - (Int32.ofInt (1)))).toNatClampNeg (Int64.ofInt (1))) := ⟨by rw [← nm1, yL_same, zs_same]; exact ⟨ev, zv⟩, zsk_fr (fun j hj => yL_ne (eq_false (fun z => by have := z.2; omega))) (fun a ha => zs_ne (by have := lb2 a (List.mem_cons_of_mem _ ha); omega)) sk.2⟩
        obtain ⟨v, pcR, L', h2, z1, z2, z3, z4, z5⟩ := ck_workL24_69 l Z nm w W f T hw hW hT HT eT m (i + 1) (i :: t) (zs V i (if V a = 0 then 1 else 0)) tp (k + Int32.ofInt (1)) (xi (xI h 40 (k).toNatClampNeg)) (o6) (o7) (xsetL h 44 ((tp - (Int32.ofInt (1)))).toNatClampNeg (Int64.ofInt (1))) G.1 (fun j hj => by rw [G.2.1, G.2.1]; exact kf j hj) (fun j hj => by rw [G.2.1, G.2.1]; exact ko j hj) (fun j hj => by rw [G.2.2.2 69 j (by decide)]; exact hn j hj) (by omega) (by omega) hl1 (by omega) (by first | omega | (rw [List.length_cons]; omega)) sk2
        exact ⟨v, pcR, L', h2, t4.tr z1, z2, z3, G.tr z4, z5⟩
      · have el_0 : (Int64.ofInt (0)).toInt = 0 := rfl
        have cb3r := cb3
        rw [vref hg.1 (rfl : vRf 39 4 = [44])] at cb3r
        have dcb3 : ¬ (xL h 44 ((tp - (Int32.ofInt (1)))).toNatClampNeg).toInt = (Int64.ofInt (0)).toInt := fun z_ => cb3r (lgi_eq.mpr z_)
        have t5 : XT l 2 45 false 78 153 6051 10 [xf 4 39, xi w, xf 40007 69, xi tp, xi k, o5, o6, o7] [] h 10 [xf 4 39, xi w, xf 40007 69, xi tp, xi (k + Int32.ofInt (1)), xi (xI h (xR h 39 0) (k).toNatClampNeg), o6, o7] [] (xsetL h (xR h 39 4) ((tp - (Int32.ofInt (1)))).toNatClampNeg (Int64.ofInt (0))) := XT_path (l := l) (fr := 2) (lo := 45) (full := false) (M := 78) (n := 153) (u := 6051) (pc := 10) (L := [xf 4 39, xi w, xf 40007 69, xi tp, xi k, o5, o6, o7]) (st := []) (h := h) (inl := []) (n' := 60) (sp := [10]) (o := [0, 0, 1, 0, 1, 1]) rfl rfl ⟨rfl, rfl, rfl⟩ rfl ⟨Nat.le_of_eq hg.2.2.2.1, Nat.le_of_eq hg.2.2.2.2⟩ ⟨⟨⟨⟨⟨⟨⟨⟨⟨⟨⟨⟨⟨⟨trivial, (vnn hg.1 (rfl : vRf 39 3 = [43]) (by decide))⟩, (vp_of (i := w) (n := 3) (by omega) (by omega))⟩, (show ¬ (xI h (xR h 39 3) (w).toNatClampNeg) ≤ k from by rw [vref hg.1 (rfl : vRf 39 3 = [43])]; exact fun z => absurd (Int32.le_iff_toInt_le.mp z) (by omega))⟩, (vnn hg.1 (rfl : vRf 39 0 = [40]) (by decide))⟩, (vp_of (i := k) (n := 64) (by omega) (by omega))⟩, (show ¬ (xI h (xR h 39 0) (k).toNatClampNeg) = (Int32.ofInt (2)) from by rw [vref hg.1 (rfl : vRf 39 0 = [40])]; exact fun z => absurd (congrArg Int32.toInt z) (by omega))⟩, (show (xI h (xR h 39 0) (k).toNatClampNeg) < (Int32.ofInt (33)) from by rw [vref hg.1 (rfl : vRf 39 0 = [40])]; exact Int32.lt_iff_toInt_lt.mpr (by omega))⟩, (show (xI h (xR h 39 0) (k).toNatClampNeg) = (Int32.ofInt (32)) from by rw [vref hg.1 (rfl : vRf 39 0 = [40])]; exact Int32.toInt_inj.mp (by omega))⟩, (show (Int32.ofInt (1)) ≤ tp from Int32.le_iff_toInt_le.mpr (by omega))⟩, (vnn hg.1 (rfl : vRf 39 4 = [44]) (by decide))⟩, (vnn hg.1 (rfl : vRf 39 4 = [44]) (by decide))⟩, (vp_of (i := (tp - (Int32.ofInt (1)))) (n := 64) (by omega) (by omega))⟩, cb3⟩, (vp_of (i := (tp - (Int32.ofInt (1)))) (n := 64) (by omega) (by omega))⟩
        rw [vref hg.1 (rfl : vRf 39 0 = [40]), vref hg.1 (rfl : vRf 39 4 = [44])] at t5
        have G : mL 44 h (xsetL h 44 ((tp - (Int32.ofInt (1)))).toNatClampNeg (Int64.ofInt (0))) := mL.set hg
        have d0 := dcb3
        rw [nm1, sk.1.1] at d0
        have d0 : ¬ V a = 0 := d0
        have ev : ((Int64.ofInt (0))).toInt = (if V a = 0 then 1 else 0) := by rw [if_neg d0]; rfl
        have zv : zM ((Int64.ofInt (0))) := by unfold zM; rw [ev]; split <;> decide
        have sk2 : zsk 44 (zs V i (if V a = 0 then 1 else 0)) (i :: t) (xsetL h 44 ((tp - (Int32.ofInt (1)))).toNatClampNeg (Int64.ofInt (0))) := ⟨by rw [← nm1, yL_same, zs_same]; exact ⟨ev, zv⟩, zsk_fr (fun j hj => yL_ne (eq_false (fun z => by have := z.2; omega))) (fun a ha => zs_ne (by have := lb2 a (List.mem_cons_of_mem _ ha); omega)) sk.2⟩
        obtain ⟨v, pcR, L', h2, z1, z2, z3, z4, z5⟩ := ck_workL24_69 l Z nm w W f T hw hW hT HT eT m (i + 1) (i :: t) (zs V i (if V a = 0 then 1 else 0)) tp (k + Int32.ofInt (1)) (xi (xI h 40 (k).toNatClampNeg)) (o6) (o7) (xsetL h 44 ((tp - (Int32.ofInt (1)))).toNatClampNeg (Int64.ofInt (0))) G.1 (fun j hj => by rw [G.2.1, G.2.1]; exact kf j hj) (fun j hj => by rw [G.2.1, G.2.1]; exact ko j hj) (fun j hj => by rw [G.2.2.2 69 j (by decide)]; exact hn j hj) (by omega) (by omega) hl1 (by omega) (by first | omega | (rw [List.length_cons]; omega)) sk2
        exact ⟨v, pcR, L', h2, t5.tr z1, z2, z3, G.tr z4, z5⟩
    · have lb2 := lb.2
      have et : tp.toInt = (t.length : Int) + 1 + 1 := by rw [et, List.length_cons, List.length_cons]; rfl
      have eo := zop_bin (nm := nm) (V := V) cb ea ec
      have lt64 := lb.1; rw [List.length_cons, List.length_cons] at lt64
      have cb' : 7 ≤ Z (300 + i) ∧ Z (300 + i) ≤ 31 := zbo_b cb
      have t6 : XT l 2 45 false 78 153 6051 10 [xf 4 39, xi w, xf 40007 69, xi tp, xi k, o5, o6, o7] [] h 146 [xf 4 39, xi w, xf 40007 69, xi (tp + Int32.ofInt (-1)), xi k, xi (xI h (xR h 39 0) (k).toNatClampNeg), o6, o7] [] h := XT_path (l := l) (fr := 2) (lo := 45) (full := false) (M := 78) (n := 153) (u := 6051) (pc := 10) (L := [xf 4 39, xi w, xf 40007 69, xi tp, xi k, o5, o6, o7]) (st := []) (h := h) (inl := []) (n' := 60) (sp := [146]) (o := [0, 0, 1, 1, 1]) rfl rfl ⟨rfl, rfl, rfl⟩ rfl ⟨Nat.le_of_eq hg.2.2.2.1, Nat.le_of_eq hg.2.2.2.2⟩ ⟨⟨⟨⟨⟨⟨⟨⟨⟨trivial, (vnn hg.1 (rfl : vRf 39 3 = [43]) (by decide))⟩, (vp_of (i := w) (n := 3) (by omega) (by omega))⟩, (show ¬ (xI h (xR h 39 3) (w).toNatClampNeg) ≤ k from by rw [vref hg.1 (rfl : vRf 39 3 = [43])]; exact fun z => absurd (Int32.le_iff_toInt_le.mp z) (by omega))⟩, (vnn hg.1 (rfl : vRf 39 0 = [40]) (by decide))⟩, (vp_of (i := k) (n := 64) (by omega) (by omega))⟩, (show ¬ (xI h (xR h 39 0) (k).toNatClampNeg) = (Int32.ofInt (2)) from by rw [vref hg.1 (rfl : vRf 39 0 = [40])]; exact fun z => absurd (congrArg Int32.toInt z) (by omega))⟩, (show (xI h (xR h 39 0) (k).toNatClampNeg) < (Int32.ofInt (33)) from by rw [vref hg.1 (rfl : vRf 39 0 = [40])]; exact Int32.lt_iff_toInt_lt.mpr (by omega))⟩, (show ¬ (xI h (xR h 39 0) (k).toNatClampNeg) = (Int32.ofInt (32)) from by rw [vref hg.1 (rfl : vRf 39 0 = [40])]; exact fun z => absurd (congrArg Int32.toInt z) (by omega))⟩, (show (Int32.ofInt (2)) ≤ tp from Int32.le_iff_toInt_le.mpr (by omega))⟩
      rw [vref hg.1 (rfl : vRf 39 0 = [40])] at t6
      obtain ⟨X, hX⟩ : ∃ X, X = tp + Int32.ofInt (-1) := ⟨_, rfl⟩
      rw [← hX] at t6
      have tm : X.toInt = (t.length : Int) + 1 := by rw [hX]; exact y_min et (by omega)
      have tm2 : (X - Int32.ofInt (1)).toInt = t.length := y_sbn tm (by omega)
      have n2 : X.toNatClampNeg = t.length + 1 := zi_ix (by omega)
      have n3 : (X - Int32.ofInt (1)).toNatClampNeg = t.length := zi_ix tm2
      obtain ⟨⟨kc1, kc2⟩, ⟨ka1, ka2⟩, skt⟩ := sk
      rw [List.length_cons] at kc1 kc2
      rw [← n2] at kc1 kc2
      rw [← n3] at ka1 ka2
      have t7 : XT l 2 45 false 78 153 6051 146 [xf 4 39, xi w, xf 40007 69, xi X, xi k, xi (xI h 40 (k).toNatClampNeg), o6, o7] [] h 162 [xf 4 39, xi w, xf 40007 69, xi X, xi k, xi (xI h 40 (k).toNatClampNeg), o6, o7] [xl (xL h (xR h 39 4) (X).toNatClampNeg), xl (xL h (xR h 39 4) ((X - (Int32.ofInt (1)))).toNatClampNeg), xi (xI h 40 (k).toNatClampNeg)] h := XT_path (l := l) (fr := 2) (lo := 45) (full := false) (M := 78) (n := 153) (u := 6051) (pc := 146) (L := [xf 4 39, xi w, xf 40007 69, xi X, xi k, xi (xI h 40 (k).toNatClampNeg), o6, o7]) (st := []) (h := h) (inl := []) (n' := 60) (sp := [162]) (o := []) rfl rfl ⟨rfl, rfl, rfl⟩ rfl ⟨Nat.le_of_eq hg.2.2.2.1, Nat.le_of_eq hg.2.2.2.2⟩ ⟨⟨⟨⟨trivial, (vnn hg.1 (rfl : vRf 39 4 = [44]) (by decide))⟩, (vp_of (i := (X - (Int32.ofInt (1)))) (n := 64) (by omega) (by omega))⟩, (vnn hg.1 (rfl : vRf 39 4 = [44]) (by decide))⟩, (vp_of (i := X) (n := 64) (by omega) (by omega))⟩
      rw [vref hg.1 (rfl : vRf 39 4 = [44])] at t7
      have t8 := t6.tr t7
      obtain ⟨y, cj, zj⟩ := ck_joined l (xI h 40 (k).toNatClampNeg) (xL h 44 ((X - (Int32.ofInt (1)))).toNatClampNeg) (xL h 44 (X).toNatClampNeg) h hg ka2 kc2 (by rw [eop]; exact cb)
      rw [eop, ka1, kc1] at zj
      have t9 : XT l 2 45 false 78 153 6051 162 [xf 4 39, xi w, xf 40007 69, xi X, xi k, xi (xI h 40 (k).toNatClampNeg), o6, o7] [xl (xL h 44 (X).toNatClampNeg), xl (xL h 44 ((X - (Int32.ofInt (1)))).toNatClampNeg), xi (xI h 40 (k).toNatClampNeg)] h 165 [xf 4 39, xi w, xf 40007 69, xi X, xi k, xi (xI h 40 (k).toNatClampNeg), o6, o7] [xl y] h := XT_call (l := l) (fr := 2) (lo := 45) (full := false) (M := 78) (n := 153) (u := 6051) (pc := 162) (L := [xf 4 39, xi w, xf 40007 69, xi X, xi k, xi (xI h 40 (k).toNatClampNeg), o6, o7]) (st := [xl (xL h 44 (X).toNatClampNeg), xl (xL h 44 ((X - (Int32.ofInt (1)))).toNatClampNeg), xi (xI h 40 (k).toNatClampNeg)]) (h := h) (i := .invokestatic 79) (aux := 3) (nx := 165) (K := 79) (vs := [xi (xI h 40 (k).toNatClampNeg), xl (xL h 44 ((X - (Int32.ofInt (1)))).toNatClampNeg), xl (xL h 44 (X).toNatClampNeg)]) (rs := [xl y]) (rest := []) rfl rfl rfl rfl rfl rfl cj (by decide) (by decide) (Nat.le_of_ble_eq_true rfl) ⟨Nat.le_of_eq hg.2.2.2.1, Nat.le_of_eq hg.2.2.2.2⟩
      have t10 := t8.tr t9
      cases hz : zbin (Z (300 + i)) (V a) (V c) with
      | none =>
        rw [hz] at zj eo
        have zj : 1000000000000 < y.toInt ∨ y.toInt < -1000000000000 := zj
        rw [zlw_n eo]
        by_cases cb11 : (0 : Int32) < (lg_cmp y (Int64.ofInt (1000000000000)))
        · have el_1000000000000 : (Int64.ofInt (1000000000000)).toInt = 1000000000000 := rfl
          have dcb11 : (Int64.ofInt (1000000000000)).toInt < y.toInt := lgi_gt.mp cb11
          have t12 : XT l 2 45 false 78 153 6051 165 [xf 4 39, xi w, xf 40007 69, xi X, xi k, xi (xI h 40 (k).toNatClampNeg), o6, o7] [xl y] h 188 [xf 4 39, xi w, xf 40007 69, xi X, xi k, xi (xI h 40 (k).toNatClampNeg), xl y, xun] [xl (Int64.ofInt (-9223372036854775808))] h := XT_path (l := l) (fr := 2) (lo := 45) (full := false) (M := 78) (n := 153) (u := 6051) (pc := 165) (L := [xf 4 39, xi w, xf 40007 69, xi X, xi k, xi (xI h 40 (k).toNatClampNeg), o6, o7]) (st := [xl y]) (h := h) (inl := []) (n' := 60) (sp := [188]) (o := [1]) rfl rfl ⟨rfl, rfl, rfl⟩ rfl ⟨Nat.le_of_eq hg.2.2.2.1, Nat.le_of_eq hg.2.2.2.2⟩ ⟨trivial, cb11⟩
          have t13 := t10.tr t12
          exact ⟨_, _, _, _, t13, ⟨_, _, _, rfl, rfl, rfl⟩, rfl, mL.rf hg, (show (Int64.ofInt (-9223372036854775808)).toInt = -9223372036854775808 from rfl)⟩
        · have el_1000000000000 : (Int64.ofInt (1000000000000)).toInt = 1000000000000 := rfl
          have dcb11 : y.toInt ≤ (Int64.ofInt (1000000000000)).toInt := Int.not_lt.mp (fun z_ => cb11 (lgi_gt.mpr z_))
          by_cases cb14 : (0 : Int32) ≤ (lg_cmp y (Int64.ofInt (-1000000000000)))
          · have el_m1000000000000 : (Int64.ofInt (-1000000000000)).toInt = -1000000000000 := rfl
            have dcb14 : (Int64.ofInt (-1000000000000)).toInt ≤ y.toInt := lgi_ge.mp cb14
            have t15 : XT l 2 45 false 78 153 6051 165 [xf 4 39, xi w, xf 40007 69, xi X, xi k, xi (xI h 40 (k).toNatClampNeg), o6, o7] [xl y] h 10 [xf 4 39, xi w, xf 40007 69, xi X, xi (k + Int32.ofInt (1)), xi (xI h 40 (k).toNatClampNeg), xl y, xun] [] (xsetL h (xR h 39 4) ((X - (Int32.ofInt (1)))).toNatClampNeg y) := XT_path (l := l) (fr := 2) (lo := 45) (full := false) (M := 78) (n := 153) (u := 6051) (pc := 165) (L := [xf 4 39, xi w, xf 40007 69, xi X, xi k, xi (xI h 40 (k).toNatClampNeg), o6, o7]) (st := [xl y]) (h := h) (inl := []) (n' := 60) (sp := [10]) (o := [0, 1]) rfl rfl ⟨rfl, rfl, rfl⟩ rfl ⟨Nat.le_of_eq hg.2.2.2.1, Nat.le_of_eq hg.2.2.2.2⟩ ⟨⟨⟨⟨trivial, cb11⟩, cb14⟩, (vnn hg.1 (rfl : vRf 39 4 = [44]) (by decide))⟩, (vp_of (i := (X - (Int32.ofInt (1)))) (n := 64) (by omega) (by omega))⟩
            rw [vref hg.1 (rfl : vRf 39 4 = [44])] at t15
            have t16 := t10.tr t15
            exfalso; omega
          · have el_m1000000000000 : (Int64.ofInt (-1000000000000)).toInt = -1000000000000 := rfl
            have dcb14 : y.toInt < (Int64.ofInt (-1000000000000)).toInt := Int.not_le.mp (fun z_ => cb14 (lgi_ge.mpr z_))
            have t17 : XT l 2 45 false 78 153 6051 165 [xf 4 39, xi w, xf 40007 69, xi X, xi k, xi (xI h 40 (k).toNatClampNeg), o6, o7] [xl y] h 188 [xf 4 39, xi w, xf 40007 69, xi X, xi k, xi (xI h 40 (k).toNatClampNeg), xl y, xun] [xl (Int64.ofInt (-9223372036854775808))] h := XT_path (l := l) (fr := 2) (lo := 45) (full := false) (M := 78) (n := 153) (u := 6051) (pc := 165) (L := [xf 4 39, xi w, xf 40007 69, xi X, xi k, xi (xI h 40 (k).toNatClampNeg), o6, o7]) (st := [xl y]) (h := h) (inl := []) (n' := 60) (sp := [188]) (o := [0, 0]) rfl rfl ⟨rfl, rfl, rfl⟩ rfl ⟨Nat.le_of_eq hg.2.2.2.1, Nat.le_of_eq hg.2.2.2.2⟩ ⟨⟨trivial, cb11⟩, cb14⟩
            have t18 := t10.tr t17
            exact ⟨_, _, _, _, t18, ⟨_, _, _, rfl, rfl, rfl⟩, rfl, mL.rf hg, (show (Int64.ofInt (-9223372036854775808)).toInt = -9223372036854775808 from rfl)⟩
      | some z =>
        rw [hz] at zj eo
        obtain ⟨j1, j2, j3⟩ : y.toInt = z ∧ -1000000000000 ≤ z ∧ z ≤ 1000000000000 := zj
        rw [zlw_s eo]
        by_cases cb19 : (0 : Int32) < (lg_cmp y (Int64.ofInt (1000000000000)))
        · have el_1000000000000 : (Int64.ofInt (1000000000000)).toInt = 1000000000000 := rfl
          have dcb19 : (Int64.ofInt (1000000000000)).toInt < y.toInt := lgi_gt.mp cb19
          have t20 : XT l 2 45 false 78 153 6051 165 [xf 4 39, xi w, xf 40007 69, xi X, xi k, xi (xI h 40 (k).toNatClampNeg), o6, o7] [xl y] h 188 [xf 4 39, xi w, xf 40007 69, xi X, xi k, xi (xI h 40 (k).toNatClampNeg), xl y, xun] [xl (Int64.ofInt (-9223372036854775808))] h := XT_path (l := l) (fr := 2) (lo := 45) (full := false) (M := 78) (n := 153) (u := 6051) (pc := 165) (L := [xf 4 39, xi w, xf 40007 69, xi X, xi k, xi (xI h 40 (k).toNatClampNeg), o6, o7]) (st := [xl y]) (h := h) (inl := []) (n' := 60) (sp := [188]) (o := [1]) rfl rfl ⟨rfl, rfl, rfl⟩ rfl ⟨Nat.le_of_eq hg.2.2.2.1, Nat.le_of_eq hg.2.2.2.2⟩ ⟨trivial, cb19⟩
          have t21 := t10.tr t20
          exfalso; omega
        · have el_1000000000000 : (Int64.ofInt (1000000000000)).toInt = 1000000000000 := rfl
          have dcb19 : y.toInt ≤ (Int64.ofInt (1000000000000)).toInt := Int.not_lt.mp (fun z_ => cb19 (lgi_gt.mpr z_))
          by_cases cb22 : (0 : Int32) ≤ (lg_cmp y (Int64.ofInt (-1000000000000)))
          · have el_m1000000000000 : (Int64.ofInt (-1000000000000)).toInt = -1000000000000 := rfl
            have dcb22 : (Int64.ofInt (-1000000000000)).toInt ≤ y.toInt := lgi_ge.mp cb22
            have t23 : XT l 2 45 false 78 153 6051 165 [xf 4 39, xi w, xf 40007 69, xi X, xi k, xi (xI h 40 (k).toNatClampNeg), o6, o7] [xl y] h 10 [xf 4 39, xi w, xf 40007 69, xi X, xi (k + Int32.ofInt (1)), xi (xI h 40 (k).toNatClampNeg), xl y, xun] [] (xsetL h (xR h 39 4) ((X - (Int32.ofInt (1)))).toNatClampNeg y) := XT_path (l := l) (fr := 2) (lo := 45) (full := false) (M := 78) (n := 153) (u := 6051) (pc := 165) (L := [xf 4 39, xi w, xf 40007 69, xi X, xi k, xi (xI h 40 (k).toNatClampNeg), o6, o7]) (st := [xl y]) (h := h) (inl := []) (n' := 60) (sp := [10]) (o := [0, 1]) rfl rfl ⟨rfl, rfl, rfl⟩ rfl ⟨Nat.le_of_eq hg.2.2.2.1, Nat.le_of_eq hg.2.2.2.2⟩ ⟨⟨⟨⟨trivial, cb19⟩, cb22⟩, (vnn hg.1 (rfl : vRf 39 4 = [44]) (by decide))⟩, (vp_of (i := (X - (Int32.ofInt (1)))) (n := 64) (by omega) (by omega))⟩
            rw [vref hg.1 (rfl : vRf 39 4 = [44])] at t23
            have t24 := t10.tr t23
            have G : mL 44 h (xsetL h 44 ((X - (Int32.ofInt (1)))).toNatClampNeg y) := mL.set hg
            have sk2 : zsk 44 (zs V i z) (i :: t) (xsetL h 44 ((X - (Int32.ofInt (1)))).toNatClampNeg y) := ⟨by rw [← n3, yL_same, zs_same]; exact ⟨j1, by unfold zM; omega⟩, zsk_fr (fun j hj => yL_ne (eq_false (fun z => by have := z.2; omega))) (fun a ha => zs_ne (by have := lb2 a (List.mem_cons_of_mem _ (List.mem_cons_of_mem _ ha)); omega)) skt⟩
            obtain ⟨v, pcR, L', h2, z1, z2, z3, z4, z5⟩ := ck_workL24_69 l Z nm w W f T hw hW hT HT eT m (i + 1) (i :: t) (zs V i z) X (k + Int32.ofInt (1)) (xi (xI h 40 (k).toNatClampNeg)) (xl y) (xun) (xsetL h 44 ((X - (Int32.ofInt (1)))).toNatClampNeg y) G.1 (fun j hj => by rw [G.2.1, G.2.1]; exact kf j hj) (fun j hj => by rw [G.2.1, G.2.1]; exact ko j hj) (fun j hj => by rw [G.2.2.2 69 j (by decide)]; exact hn j hj) (by omega) (by omega) hl1 (by omega) (by first | omega | (rw [List.length_cons]; omega)) sk2
            exact ⟨v, pcR, L', h2, t24.tr z1, z2, z3, G.tr z4, z5⟩
          · have el_m1000000000000 : (Int64.ofInt (-1000000000000)).toInt = -1000000000000 := rfl
            have dcb22 : y.toInt < (Int64.ofInt (-1000000000000)).toInt := Int.not_le.mp (fun z_ => cb22 (lgi_ge.mpr z_))
            have t25 : XT l 2 45 false 78 153 6051 165 [xf 4 39, xi w, xf 40007 69, xi X, xi k, xi (xI h 40 (k).toNatClampNeg), o6, o7] [xl y] h 188 [xf 4 39, xi w, xf 40007 69, xi X, xi k, xi (xI h 40 (k).toNatClampNeg), xl y, xun] [xl (Int64.ofInt (-9223372036854775808))] h := XT_path (l := l) (fr := 2) (lo := 45) (full := false) (M := 78) (n := 153) (u := 6051) (pc := 165) (L := [xf 4 39, xi w, xf 40007 69, xi X, xi k, xi (xI h 40 (k).toNatClampNeg), o6, o7]) (st := [xl y]) (h := h) (inl := []) (n' := 60) (sp := [188]) (o := [0, 0]) rfl rfl ⟨rfl, rfl, rfl⟩ rfl ⟨Nat.le_of_eq hg.2.2.2.1, Nat.le_of_eq hg.2.2.2.2⟩ ⟨⟨trivial, cb19⟩, cb22⟩
            have t26 := t10.tr t25
            exfalso; omega
set_option maxRecDepth 100000 in
set_option maxHeartbeats 4000000 in
theorem ck_work24_69 (l : Launch) (Z nm : Nat → Int) (w : Int32) (W : Nat) (hw : w.toInt = W) (hW : W < 3) (LW : zLW Z) (g6 : zG Z) (h : XH) (hg : mI h) (kf : kF 42 43 Z h) (ko : kO 39 40 41 Z h) (hn : ∀ j : Nat, j < 7 → (xL h 69 j).toInt = nm j ∧ zM (xL h 69 j)) : ∃ v h', CX l 2 45 false 78 [xf 4 39, xi w, xf 40007 69] h [xl v] h' ∧ mL 44 h h' ∧ zwv (zL Z nm W) v := by
  have bf : 0 ≤ (xI h 42 W).toInt := by have z := vbnd hg.1 42 W; rw [vI_u rfl (rfl : vRow 42 = (0, 64))] at z; exact z.1
  obtain ⟨kf1, kf2⟩ := kf W hW
  have efr : (xI h 42 w.toNatClampNeg).toInt = Z (240 + W) := by rw [zi_ix hw]; exact kf1
  have eto : (xI h 43 w.toNatClampNeg).toInt = Z (250 + W) := by rw [zi_ix hw]; exact kf2
  have e_0 : (Int32.ofInt (0)).toInt = 0 := rfl
  have e_1 : (Int32.ofInt (1)).toInt = 1 := rfl
  have t1 : XT l 2 45 false 78 153 6051 0 [xf 4 39, xi w, xf 40007 69, xun, xun, xun, xun, xun] [] h 10 [xf 4 39, xi w, xf 40007 69, xi (Int32.ofInt (0)), xi (xI h (xR h 39 2) (w).toNatClampNeg), xun, xun, xun] [] h := XT_path (l := l) (fr := 2) (lo := 45) (full := false) (M := 78) (n := 153) (u := 6051) (pc := 0) (L := [xf 4 39, xi w, xf 40007 69, xun, xun, xun, xun, xun]) (st := []) (h := h) (inl := []) (n' := 60) (sp := [10]) (o := []) rfl rfl ⟨rfl, rfl, rfl⟩ rfl ⟨Nat.le_of_eq hg.2.2.2.1, Nat.le_of_eq hg.2.2.2.2⟩ ⟨⟨trivial, (vnn hg.1 (rfl : vRf 39 2 = [42]) (by decide))⟩, (vp_of (i := w) (n := 3) (by omega) (by omega))⟩
  rw [vref hg.1 (rfl : vRf 39 2 = [42])] at t1
  by_cases tl : Z (240 + W) < Z (250 + W)
  · obtain ⟨a1, a2, a3⟩ := LW W hW tl
    have g3 := g6.2.2; have g2 := g6.2.1
    obtain ⟨v, pcR, L', h', z1, z2, z3, z4, z5⟩ := ck_workL24_69 l Z nm w W (Z (240 + W)).toNat (Z (250 + W)).toNat hw hW (by omega) a3 (by omega) ((Z (250 + W)).toNat - (Z (240 + W)).toNat) (Z (240 + W)).toNat [] (fun _ => 0) (Int32.ofInt (0)) (xI h 42 (w).toNatClampNeg) xun xun xun h hg kf (fun j hj => ko.2.2 j (by omega)) hn (by omega) (Nat.le_refl _) (by rw [Nat.sub_self]; rfl) (by omega) (by rw [e_0]; rfl) trivial
    refine ⟨v, h', CX_ofT (h' := h') (by decide) rfl rfl trivial z2 z3 ⟨Nat.le_of_eq z4.1.2.2.2.1.symm, Nat.le_of_eq z4.1.2.2.2.2.symm⟩ (t1.tr z1), z4, ?_⟩
    unfold zL
    rw [if_pos tl]
    cases hz : zlw Z nm ((Z (250 + W)).toNat - (Z (240 + W)).toNat) (Z (240 + W)).toNat (fun _ => 0) with
    | none => rw [hz] at z5; exact z5
    | some V => rw [hz] at z5; exact z5
  · have eL : zL Z nm W = none := if_neg tl
    rw [eL]
    have t2 : XT l 2 45 false 78 153 6051 10 [xf 4 39, xi w, xf 40007 69, xi (Int32.ofInt (0)), xi (xI h 42 (w).toNatClampNeg), xun, xun, xun] [] h 222 [xf 4 39, xi w, xf 40007 69, xi (Int32.ofInt (0)), xi (xI h 42 (w).toNatClampNeg), xun, xun, xun] [xl (Int64.ofInt (-9223372036854775808))] h := XT_path (l := l) (fr := 2) (lo := 45) (full := false) (M := 78) (n := 153) (u := 6051) (pc := 10) (L := [xf 4 39, xi w, xf 40007 69, xi (Int32.ofInt (0)), xi (xI h 42 (w).toNatClampNeg), xun, xun, xun]) (st := []) (h := h) (inl := []) (n' := 60) (sp := [222]) (o := [1, 1]) rfl rfl ⟨rfl, rfl, rfl⟩ rfl ⟨Nat.le_of_eq hg.2.2.2.1, Nat.le_of_eq hg.2.2.2.2⟩ ⟨⟨⟨⟨trivial, (vnn hg.1 (rfl : vRf 39 3 = [43]) (by decide))⟩, (vp_of (i := w) (n := 3) (by omega) (by omega))⟩, (show (xI h (xR h 39 3) (w).toNatClampNeg) ≤ (xI h 42 (w).toNatClampNeg) from by rw [vref hg.1 (rfl : vRf 39 3 = [43])]; exact Int32.le_iff_toInt_le.mpr (by omega))⟩, (show ¬ (Int32.ofInt (0)) = (Int32.ofInt (1)) from fun z => absurd (congrArg Int32.toInt z) (by omega))⟩
    have t3 := t1.tr t2
    exact ⟨_, _, CX_ofT (h' := h) (by decide) rfl rfl trivial ⟨_, _, _, rfl, rfl, rfl⟩ rfl ⟨Nat.le_of_eq hg.2.2.2.1.symm, Nat.le_of_eq hg.2.2.2.2.symm⟩ t3, mL.rf hg, rfl⟩
