/-! THE MODEL'S SEASON: votes of regions, steps, yields. -/
theorem vS133_t : ∀ k, k < 6 → vI 133 (6 + k) = (-1, 10) := by decide +kernel
/-- but for the slots S all is as it was -/
def mW (S : Nat → Nat → Prop) (h h' : XH) : Prop := mI h' ∧ (∀ c k, ¬ S c k → xI h' c k = xI h c k) ∧ (∀ c k, xR h' c k = xR h c k)
theorem mW.rf {S : Nat → Nat → Prop} {h : XH} (g : mI h) : mW S h h := ⟨g, fun _ _ _ => rfl, fun _ _ => rfl⟩
theorem mW.tr {S : Nat → Nat → Prop} {a b c : XH} (x : mW S a b) (y : mW S b c) : mW S a c := ⟨y.1, fun e k z => (y.2.1 e k z).trans (x.2.1 e k z), fun e k => (y.2.2 e k).trans (x.2.2 e k)⟩
theorem mW.mono {S T : Nat → Nat → Prop} {a b : XH} (x : mW S a b) (s : ∀ c k, S c k → T c k) : mW T a b := ⟨x.1, fun e k z => x.2.1 e k (fun y => z (s e k y)), x.2.2⟩
theorem mW.k {S : Nat → Nat → Prop} {h h' : XH} {c k : Nat} (x : mW S h h') (n : S c k → False) : xI h' c k = xI h c k := x.2.1 c k n
theorem mF.w {S : Nat → Nat → Prop} {h h' : XH} (x : mF h h') (s : S 104 54) : mW S h h' := ⟨x.1, fun c k z => x.2.1 c k (fun y => z (by rw [y.1, y.2]; exact s)), x.2.2⟩
theorem mW.set {S : Nat → Nat → Prop} {h h' : XH} {c k : Nat} {v : Int32} (x : mW S h h') (s : S c k) (hv : (vI c k).1 ≤ v.toInt ∧ v.toInt ≤ (vI c k).2) : mW S h (xsetI h' c k v) := ⟨⟨sinv_setI x.1.1 hv, trivial, trivial, x.1.2.2.2⟩, fun e j z => (yI_ne (eq_false (fun y => z (by rw [y.1, y.2]; exact s)))).trans (x.2.1 e j z), x.2.2⟩
theorem jK.w {S : Nat → Nat → Prop} {Z : Nat → Int} {h h' : XH} (i : sinv vT h) (a : jK Z h) (x : mW S h h') (s : ∀ c k, S c k → (c = 104 ∧ k = 54) ∨ 129 ≤ c) : jK Z h' := a.fr i (fun k k1 k2 => x.k (fun z => by have := s _ _ z; omega)) (fun c k c1 c2 _ => x.k (fun z => by have := s _ _ z; omega))
theorem jHf.w {S : Nat → Nat → Prop} {b : Nat} {Z : Nat → Int} {Y : Nat → Int32} {h h' : XH} (a : jHf b Z Y h) (x : mW S h h') (s : ∀ c k, S c k → (c = 104 ∧ k = 54) ∨ c = 134 ∨ c = 137 ∨ 139 ≤ c) : jHf b Z Y h' := by
  obtain ⟨a1, a2, a3⟩ := a
  have f : ∀ c k, (133 ≤ c ∧ c ≤ 138 ∧ ¬ c = 134 ∧ ¬ c = 137) → xI h' c k = xI h c k := fun c k hc => x.k (fun z => by have := s _ _ z; omega)
  exact ⟨fun r hr => by rw [f 133 _ (by decide)]; exact a1 r hr, fun p hp => by rw [f 135 _ (by decide), f 136 _ (by decide)]; exact a2 p hp, (f 138 _ (by decide)).trans a3⟩
theorem jHow.w {S : Nat → Nat → Prop} {Y : Nat → Int32} {h h' : XH} (a : jHow Y h) (x : mW S h h') (s : ∀ c k, S c k → (c = 104 ∧ k = 54) ∨ 129 ≤ c) : jHow Y h' := ⟨(x.k (c := 104) (k := 63) (fun z => by have := s _ _ z; omega)).trans a.1, fun z => (x.k (c := 104) (k := 64) (fun z => by have := s _ _ z; omega)).trans (a.2 z)⟩
theorem jHow.sm {Y X : Nat → Int32} {h : XH} (a : jHow Y h) (e1 : X 51 = Y 51) (e2 : X 52 = Y 52) : jHow X h := by
  unfold jHow
  rw [e1, e2]
  exact a
set_option maxRecDepth 100000 in
set_option maxHeartbeats 4000000 in
theorem jk_voteL0 (l : Launch) (Z : Nat → Int) (Y : Nat → Int32) (rr : Int32) (r : Nat) (h : XH) (hg : mI h) (A : zAll Z) (jk : jK Z h) (jw : jHf 0 Z Y h) (jh : jHow Y h) (V : zVd Z Y) (nm : ¬ (Y 51).toInt = 4) (hr : rr.toInt = r) : ∀ (m k : Nat) (kk : Int32) (h1 : XH), mF h h1 → kk.toInt = k → (k : Int) + m = Z 2 → ∃ k2 h2, XT l 8 218 false 232 153 6051 5 [xf 13 104, xi (Int32.ofInt (0)), xi rr, xi (zsum (fun p => if (Y (20 + p)).toInt = r then zWe Z Y p * zVo Z Y p else Int32.ofInt (0)) k), xi kk] [] h1 57 [xf 13 104, xi (Int32.ofInt (0)), xi rr, xi (zsum (fun p => if (Y (20 + p)).toInt = r then zWe Z Y p * zVo Z Y p else Int32.ofInt (0)) (Z 2).toNat), xi k2] [] h2 ∧ mF h h2
  | 0, k, kk, h1, G, hk, hm => by
    obtain ⟨⟨⟨B00, B01⟩, ⟨B10, B11⟩, ⟨B20, B21⟩, B30, B31⟩, g6, zj, zv, LW⟩ := id A
    have hg1 := G.1
    have jk1 : jK Z h1 := jk.x hg.1 G
    have jw1 : jHf 0 Z Y h1 := jw.x G
    have jh1 : jHow Y h1 := jh.x G
    have ej : (xI h1 104 14).toInt = Z 2 := jk1.1 2 (by decide)
    have t1 : XT l 8 218 false 232 153 6051 5 [xf 13 104, xi (Int32.ofInt (0)), xi rr, xi (zsum (fun p => if (Y (20 + p)).toInt = r then zWe Z Y p * zVo Z Y p else Int32.ofInt (0)) k), xi kk] [] h1 57 [xf 13 104, xi (Int32.ofInt (0)), xi rr, xi (zsum (fun p => if (Y (20 + p)).toInt = r then zWe Z Y p * zVo Z Y p else Int32.ofInt (0)) k), xi kk] [] h1 := XT_path (l := l) (fr := 8) (lo := 218) (full := false) (M := 232) (n := 153) (u := 6051) (pc := 5) (L := [xf 13 104, xi (Int32.ofInt (0)), xi rr, xi (zsum (fun p => if (Y (20 + p)).toInt = r then zWe Z Y p * zVo Z Y p else Int32.ofInt (0)) k), xi kk]) (st := []) (h := h1) (inl := [233]) (n' := 120) (sp := [57]) (o := [1]) rfl rfl ⟨rfl, rfl, rfl⟩ rfl ⟨Nat.le_of_eq hg1.2.2.2.1, Nat.le_of_eq hg1.2.2.2.2⟩ ⟨trivial, (show (xI h1 104 14) ≤ kk from Int32.le_iff_toInt_le.mpr (by omega))⟩
    obtain rfl : k = (Z 2).toNat := by omega
    exact ⟨kk, h1, t1, G⟩
  | m + 1, k, kk, h1, G, hk, hm => by
    obtain ⟨⟨⟨B00, B01⟩, ⟨B10, B11⟩, ⟨B20, B21⟩, B30, B31⟩, g6, zj, zv, LW⟩ := id A
    have hg1 := G.1
    have jk1 : jK Z h1 := jk.x hg.1 G
    have jw1 : jHf 0 Z Y h1 := jw.x G
    have jh1 : jHow Y h1 := jh.x G
    have ej : (xI h1 104 14).toInt = Z 2 := jk1.1 2 (by decide)
    have lk : (k : Int) < Z 2 := by omega
    have nk : kk.toNatClampNeg = k := zi_ix hk
    have sk := y_suc1 (k := kk) (by omega) (by omega)
    have ea0 : ((Int32.ofInt (8)) * (Int32.ofInt (0))).toInt = 0 := rfl
    have ea : (((Int32.ofInt (8)) * (Int32.ofInt (0))) + kk).toInt = 0 + k := by rw [y_addb (by rw [ea0]; decide) (by omega), ea0]; omega
    have na : (((Int32.ofInt (8)) * (Int32.ofInt (0))) + kk).toNatClampNeg = 8 * 0 + k := zi_ix (by rw [ea]; omega)
    have k1 : (xI h1 135 (((Int32.ofInt (8)) * (Int32.ofInt (0))) + kk).toNatClampNeg).toInt = (Y (20 + k)).toInt := by rw [na]; exact congrArg Int32.toInt (jw1.2.1 k lk).1
    have emo : (xI h1 104 63).toInt = (Y 51).toInt := congrArg Int32.toInt jh1.1
    have ewg : xI h1 119 kk.toNatClampNeg = Int32.ofInt (Z (200 + k)) := i32_e (by rw [nk]; exact jk1.2.2.1 10 k (by decide) lk)
    have e_1 : (Int32.ofInt (1)).toInt = 1 := rfl
    have es : zsum (fun p => if (Y (20 + p)).toInt = r then zWe Z Y p * zVo Z Y p else Int32.ofInt (0)) (k + 1) = zsum (fun p => if (Y (20 + p)).toInt = r then zWe Z Y p * zVo Z Y p else Int32.ofInt (0)) k + (fun p => if (Y (20 + p)).toInt = r then zWe Z Y p * zVo Z Y p else Int32.ofInt (0)) k := zsum_s
    by_cases cb1 : (xI h1 (xR h1 104 57) ((((Int32.ofInt (8)) * (Int32.ofInt (0))) + kk)).toNatClampNeg) = rr
    · have e_0 : (Int32.ofInt (0)).toInt = 0 := rfl
      have e_8 : (Int32.ofInt (8)).toInt = 8 := rfl
      have cb1r := cb1
      rw [vref hg1.1 (rfl : vRf 104 57 = [135])] at cb1r
      have dcb1 : (xI h1 135 ((((Int32.ofInt (8)) * (Int32.ofInt (0))) + kk)).toNatClampNeg).toInt = (rr).toInt := congrArg Int32.toInt cb1r
      by_cases cb2 : (xI h1 104 63) = (Int32.ofInt (1))
      · have e_1 : (Int32.ofInt (1)).toInt = 1 := rfl
        have dcb2 : (xI h1 104 63).toInt = (Int32.ofInt (1)).toInt := congrArg Int32.toInt cb2
        have t3 : XT l 8 218 false 232 153 6051 5 [xf 13 104, xi (Int32.ofInt (0)), xi rr, xi (zsum (fun p => if (Y (20 + p)).toInt = r then zWe Z Y p * zVo Z Y p else Int32.ofInt (0)) k), xi kk] [] h1 41 [xf 13 104, xi (Int32.ofInt (0)), xi rr, xi (zsum (fun p => if (Y (20 + p)).toInt = r then zWe Z Y p * zVo Z Y p else Int32.ofInt (0)) k), xi kk] [xi kk, xi (Int32.ofInt (0)), xf 13 104, xi (Int32.ofInt (1)), xi (zsum (fun p => if (Y (20 + p)).toInt = r then zWe Z Y p * zVo Z Y p else Int32.ofInt (0)) k)] h1 := XT_path (l := l) (fr := 8) (lo := 218) (full := false) (M := 232) (n := 153) (u := 6051) (pc := 5) (L := [xf 13 104, xi (Int32.ofInt (0)), xi rr, xi (zsum (fun p => if (Y (20 + p)).toInt = r then zWe Z Y p * zVo Z Y p else Int32.ofInt (0)) k), xi kk]) (st := []) (h := h1) (inl := [233]) (n' := 120) (sp := [41]) (o := [0, 0, 0]) rfl rfl ⟨rfl, rfl, rfl⟩ rfl ⟨Nat.le_of_eq hg1.2.2.2.1, Nat.le_of_eq hg1.2.2.2.2⟩ ⟨⟨⟨⟨⟨trivial, (show ¬ (xI h1 104 14) ≤ kk from fun z => absurd (Int32.le_iff_toInt_le.mp z) (by omega))⟩, (vnn hg1.1 (rfl : vRf 104 57 = [135]) (by decide))⟩, (vp_of (i := (((Int32.ofInt (8)) * (Int32.ofInt (0))) + kk)) (n := 16) (by omega) (by omega))⟩, cb1⟩, cb2⟩
        obtain ⟨v, h2, c1, g1, ev⟩ := jk_vote0 l Z Y kk k h1 hg1 A jk1 jw1 jh1 V nm hk lk
        have t4 : XT l 8 218 false 232 153 6051 41 [xf 13 104, xi (Int32.ofInt (0)), xi rr, xi (zsum (fun p => if (Y (20 + p)).toInt = r then zWe Z Y p * zVo Z Y p else Int32.ofInt (0)) k), xi kk] [xi kk, xi (Int32.ofInt (0)), xf 13 104, xi (Int32.ofInt (1)), xi (zsum (fun p => if (Y (20 + p)).toInt = r then zWe Z Y p * zVo Z Y p else Int32.ofInt (0)) k)] h1 44 [xf 13 104, xi (Int32.ofInt (0)), xi rr, xi (zsum (fun p => if (Y (20 + p)).toInt = r then zWe Z Y p * zVo Z Y p else Int32.ofInt (0)) k), xi kk] [xi v, xi (Int32.ofInt (1)), xi (zsum (fun p => if (Y (20 + p)).toInt = r then zWe Z Y p * zVo Z Y p else Int32.ofInt (0)) k)] h2 := XT_call (l := l) (fr := 8) (lo := 218) (full := false) (M := 232) (n := 153) (u := 6051) (pc := 41) (L := [xf 13 104, xi (Int32.ofInt (0)), xi rr, xi (zsum (fun p => if (Y (20 + p)).toInt = r then zWe Z Y p * zVo Z Y p else Int32.ofInt (0)) k), xi kk]) (st := [xi kk, xi (Int32.ofInt (0)), xf 13 104, xi (Int32.ofInt (1)), xi (zsum (fun p => if (Y (20 + p)).toInt = r then zWe Z Y p * zVo Z Y p else Int32.ofInt (0)) k)]) (h := h1) (i := .invokevirtual 216) (aux := 3) (nx := 44) (K := 216) (vs := [xf 13 104, xi (Int32.ofInt (0)), xi kk]) (rs := [xi v]) (rest := [xi (Int32.ofInt (1)), xi (zsum (fun p => if (Y (20 + p)).toInt = r then zWe Z Y p * zVo Z Y p else Int32.ofInt (0)) k)]) rfl rfl rfl rfl rfl rfl c1 (by decide) (by decide) (Nat.le_of_ble_eq_true rfl) ⟨Nat.le_of_eq g1.1.2.2.2.1, Nat.le_of_eq g1.1.2.2.2.2⟩
        have t5 := t3.tr t4
        have t6 : XT l 8 218 false 232 153 6051 44 [xf 13 104, xi (Int32.ofInt (0)), xi rr, xi (zsum (fun p => if (Y (20 + p)).toInt = r then zWe Z Y p * zVo Z Y p else Int32.ofInt (0)) k), xi kk] [xi v, xi (Int32.ofInt (1)), xi (zsum (fun p => if (Y (20 + p)).toInt = r then zWe Z Y p * zVo Z Y p else Int32.ofInt (0)) k)] h2 5 [xf 13 104, xi (Int32.ofInt (0)), xi rr, xi ((zsum (fun p => if (Y (20 + p)).toInt = r then zWe Z Y p * zVo Z Y p else Int32.ofInt (0)) k) + ((Int32.ofInt (1)) * v)), xi (kk + Int32.ofInt (1))] [] h2 := XT_path (l := l) (fr := 8) (lo := 218) (full := false) (M := 232) (n := 153) (u := 6051) (pc := 44) (L := [xf 13 104, xi (Int32.ofInt (0)), xi rr, xi (zsum (fun p => if (Y (20 + p)).toInt = r then zWe Z Y p * zVo Z Y p else Int32.ofInt (0)) k), xi kk]) (st := [xi v, xi (Int32.ofInt (1)), xi (zsum (fun p => if (Y (20 + p)).toInt = r then zWe Z Y p * zVo Z Y p else Int32.ofInt (0)) k)]) (h := h2) (inl := [233]) (n' := 120) (sp := [5]) (o := []) rfl rfl ⟨rfl, rfl, rfl⟩ rfl ⟨Nat.le_of_eq g1.1.2.2.2.1, Nat.le_of_eq g1.1.2.2.2.2⟩ trivial
        have t7 := t5.tr t6
        have eWG : (Int32.ofInt (1)) = zWe Z Y k := by unfold zWe; rw [if_pos (by omega)]
        have ef : (fun p => if (Y (20 + p)).toInt = r then zWe Z Y p * zVo Z Y p else Int32.ofInt (0)) k = zWe Z Y k * zVo Z Y k := if_pos (by omega)
        have ea : ((zsum (fun p => if (Y (20 + p)).toInt = r then zWe Z Y p * zVo Z Y p else Int32.ofInt (0)) k) + ((Int32.ofInt (1)) * v)) = zsum (fun p => if (Y (20 + p)).toInt = r then zWe Z Y p * zVo Z Y p else Int32.ofInt (0)) (k + 1) := by rw [es, ef, ← eWG, ← ev]
        rw [ea] at t7
        obtain ⟨k3, h9, tq9, G9⟩ := jk_voteL0 l Z Y rr r h hg A jk jw jh V nm hr m (k + 1) (kk + Int32.ofInt (1)) h2 (G.tr g1) (by omega) (by omega)
        exact ⟨k3, h9, t7.tr tq9, G9⟩
      · have e_1 : (Int32.ofInt (1)).toInt = 1 := rfl
        have dcb2 : ¬ (xI h1 104 63).toInt = (Int32.ofInt (1)).toInt := fun z_ => cb2 (Int32.toInt_inj.mp z_)
        have t8 : XT l 8 218 false 232 153 6051 5 [xf 13 104, xi (Int32.ofInt (0)), xi rr, xi (zsum (fun p => if (Y (20 + p)).toInt = r then zWe Z Y p * zVo Z Y p else Int32.ofInt (0)) k), xi kk] [] h1 41 [xf 13 104, xi (Int32.ofInt (0)), xi rr, xi (zsum (fun p => if (Y (20 + p)).toInt = r then zWe Z Y p * zVo Z Y p else Int32.ofInt (0)) k), xi kk] [xi kk, xi (Int32.ofInt (0)), xf 13 104, xi (xI h1 (xR h1 104 34) (kk).toNatClampNeg), xi (zsum (fun p => if (Y (20 + p)).toInt = r then zWe Z Y p * zVo Z Y p else Int32.ofInt (0)) k)] h1 := XT_path (l := l) (fr := 8) (lo := 218) (full := false) (M := 232) (n := 153) (u := 6051) (pc := 5) (L := [xf 13 104, xi (Int32.ofInt (0)), xi rr, xi (zsum (fun p => if (Y (20 + p)).toInt = r then zWe Z Y p * zVo Z Y p else Int32.ofInt (0)) k), xi kk]) (st := []) (h := h1) (inl := [233]) (n' := 120) (sp := [41]) (o := [0, 0, 1]) rfl rfl ⟨rfl, rfl, rfl⟩ rfl ⟨Nat.le_of_eq hg1.2.2.2.1, Nat.le_of_eq hg1.2.2.2.2⟩ ⟨⟨⟨⟨⟨⟨⟨trivial, (show ¬ (xI h1 104 14) ≤ kk from fun z => absurd (Int32.le_iff_toInt_le.mp z) (by omega))⟩, (vnn hg1.1 (rfl : vRf 104 57 = [135]) (by decide))⟩, (vp_of (i := (((Int32.ofInt (8)) * (Int32.ofInt (0))) + kk)) (n := 16) (by omega) (by omega))⟩, cb1⟩, cb2⟩, (vnn hg1.1 (rfl : vRf 104 34 = [119]) (by decide))⟩, (vp_of (i := kk) (n := 16) (by omega) (by omega))⟩
        rw [vref hg1.1 (rfl : vRf 104 34 = [119])] at t8
        obtain ⟨v, h2, c1, g1, ev⟩ := jk_vote0 l Z Y kk k h1 hg1 A jk1 jw1 jh1 V nm hk lk
        have t9 : XT l 8 218 false 232 153 6051 41 [xf 13 104, xi (Int32.ofInt (0)), xi rr, xi (zsum (fun p => if (Y (20 + p)).toInt = r then zWe Z Y p * zVo Z Y p else Int32.ofInt (0)) k), xi kk] [xi kk, xi (Int32.ofInt (0)), xf 13 104, xi (xI h1 119 (kk).toNatClampNeg), xi (zsum (fun p => if (Y (20 + p)).toInt = r then zWe Z Y p * zVo Z Y p else Int32.ofInt (0)) k)] h1 44 [xf 13 104, xi (Int32.ofInt (0)), xi rr, xi (zsum (fun p => if (Y (20 + p)).toInt = r then zWe Z Y p * zVo Z Y p else Int32.ofInt (0)) k), xi kk] [xi v, xi (xI h1 119 (kk).toNatClampNeg), xi (zsum (fun p => if (Y (20 + p)).toInt = r then zWe Z Y p * zVo Z Y p else Int32.ofInt (0)) k)] h2 := XT_call (l := l) (fr := 8) (lo := 218) (full := false) (M := 232) (n := 153) (u := 6051) (pc := 41) (L := [xf 13 104, xi (Int32.ofInt (0)), xi rr, xi (zsum (fun p => if (Y (20 + p)).toInt = r then zWe Z Y p * zVo Z Y p else Int32.ofInt (0)) k), xi kk]) (st := [xi kk, xi (Int32.ofInt (0)), xf 13 104, xi (xI h1 119 (kk).toNatClampNeg), xi (zsum (fun p => if (Y (20 + p)).toInt = r then zWe Z Y p * zVo Z Y p else Int32.ofInt (0)) k)]) (h := h1) (i := .invokevirtual 216) (aux := 3) (nx := 44) (K := 216) (vs := [xf 13 104, xi (Int32.ofInt (0)), xi kk]) (rs := [xi v]) (rest := [xi (xI h1 119 (kk).toNatClampNeg), xi (zsum (fun p => if (Y (20 + p)).toInt = r then zWe Z Y p * zVo Z Y p else Int32.ofInt (0)) k)]) rfl rfl rfl rfl rfl rfl c1 (by decide) (by decide) (Nat.le_of_ble_eq_true rfl) ⟨Nat.le_of_eq g1.1.2.2.2.1, Nat.le_of_eq g1.1.2.2.2.2⟩
        have t10 := t8.tr t9
        have t11 : XT l 8 218 false 232 153 6051 44 [xf 13 104, xi (Int32.ofInt (0)), xi rr, xi (zsum (fun p => if (Y (20 + p)).toInt = r then zWe Z Y p * zVo Z Y p else Int32.ofInt (0)) k), xi kk] [xi v, xi (xI h1 119 (kk).toNatClampNeg), xi (zsum (fun p => if (Y (20 + p)).toInt = r then zWe Z Y p * zVo Z Y p else Int32.ofInt (0)) k)] h2 5 [xf 13 104, xi (Int32.ofInt (0)), xi rr, xi ((zsum (fun p => if (Y (20 + p)).toInt = r then zWe Z Y p * zVo Z Y p else Int32.ofInt (0)) k) + ((xI h1 119 (kk).toNatClampNeg) * v)), xi (kk + Int32.ofInt (1))] [] h2 := XT_path (l := l) (fr := 8) (lo := 218) (full := false) (M := 232) (n := 153) (u := 6051) (pc := 44) (L := [xf 13 104, xi (Int32.ofInt (0)), xi rr, xi (zsum (fun p => if (Y (20 + p)).toInt = r then zWe Z Y p * zVo Z Y p else Int32.ofInt (0)) k), xi kk]) (st := [xi v, xi (xI h1 119 (kk).toNatClampNeg), xi (zsum (fun p => if (Y (20 + p)).toInt = r then zWe Z Y p * zVo Z Y p else Int32.ofInt (0)) k)]) (h := h2) (inl := [233]) (n' := 120) (sp := [5]) (o := []) rfl rfl ⟨rfl, rfl, rfl⟩ rfl ⟨Nat.le_of_eq g1.1.2.2.2.1, Nat.le_of_eq g1.1.2.2.2.2⟩ trivial
        have t12 := t10.tr t11
        have eWG : (xI h1 119 (kk).toNatClampNeg) = zWe Z Y k := by unfold zWe; rw [if_neg (by omega)]; exact ewg
        have ef : (fun p => if (Y (20 + p)).toInt = r then zWe Z Y p * zVo Z Y p else Int32.ofInt (0)) k = zWe Z Y k * zVo Z Y k := if_pos (by omega)
        have ea : ((zsum (fun p => if (Y (20 + p)).toInt = r then zWe Z Y p * zVo Z Y p else Int32.ofInt (0)) k) + ((xI h1 119 (kk).toNatClampNeg) * v)) = zsum (fun p => if (Y (20 + p)).toInt = r then zWe Z Y p * zVo Z Y p else Int32.ofInt (0)) (k + 1) := by rw [es, ef, ← eWG, ← ev]
        rw [ea] at t12
        obtain ⟨k3, h9, tq9, G9⟩ := jk_voteL0 l Z Y rr r h hg A jk jw jh V nm hr m (k + 1) (kk + Int32.ofInt (1)) h2 (G.tr g1) (by omega) (by omega)
        exact ⟨k3, h9, t12.tr tq9, G9⟩
    · have e_0 : (Int32.ofInt (0)).toInt = 0 := rfl
      have e_8 : (Int32.ofInt (8)).toInt = 8 := rfl
      have cb1r := cb1
      rw [vref hg1.1 (rfl : vRf 104 57 = [135])] at cb1r
      have dcb1 : ¬ (xI h1 135 ((((Int32.ofInt (8)) * (Int32.ofInt (0))) + kk)).toNatClampNeg).toInt = (rr).toInt := fun z_ => cb1r (Int32.toInt_inj.mp z_)
      have t13 : XT l 8 218 false 232 153 6051 5 [xf 13 104, xi (Int32.ofInt (0)), xi rr, xi (zsum (fun p => if (Y (20 + p)).toInt = r then zWe Z Y p * zVo Z Y p else Int32.ofInt (0)) k), xi kk] [] h1 5 [xf 13 104, xi (Int32.ofInt (0)), xi rr, xi ((zsum (fun p => if (Y (20 + p)).toInt = r then zWe Z Y p * zVo Z Y p else Int32.ofInt (0)) k) + (Int32.ofInt (0))), xi (kk + Int32.ofInt (1))] [] h1 := XT_path (l := l) (fr := 8) (lo := 218) (full := false) (M := 232) (n := 153) (u := 6051) (pc := 5) (L := [xf 13 104, xi (Int32.ofInt (0)), xi rr, xi (zsum (fun p => if (Y (20 + p)).toInt = r then zWe Z Y p * zVo Z Y p else Int32.ofInt (0)) k), xi kk]) (st := []) (h := h1) (inl := [233]) (n' := 120) (sp := [5]) (o := [0, 1]) rfl rfl ⟨rfl, rfl, rfl⟩ rfl ⟨Nat.le_of_eq hg1.2.2.2.1, Nat.le_of_eq hg1.2.2.2.2⟩ ⟨⟨⟨⟨trivial, (show ¬ (xI h1 104 14) ≤ kk from fun z => absurd (Int32.le_iff_toInt_le.mp z) (by omega))⟩, (vnn hg1.1 (rfl : vRf 104 57 = [135]) (by decide))⟩, (vp_of (i := (((Int32.ofInt (8)) * (Int32.ofInt (0))) + kk)) (n := 16) (by omega) (by omega))⟩, cb1⟩
      have ef : (fun p => if (Y (20 + p)).toInt = r then zWe Z Y p * zVo Z Y p else Int32.ofInt (0)) k = (Int32.ofInt (0)) := if_neg (by omega)
      have ea : ((zsum (fun p => if (Y (20 + p)).toInt = r then zWe Z Y p * zVo Z Y p else Int32.ofInt (0)) k) + (Int32.ofInt (0))) = zsum (fun p => if (Y (20 + p)).toInt = r then zWe Z Y p * zVo Z Y p else Int32.ofInt (0)) (k + 1) := by rw [es, ef]
      rw [ea] at t13
      obtain ⟨k3, h9, tq9, G9⟩ := jk_voteL0 l Z Y rr r h hg A jk jw jh V nm hr m (k + 1) (kk + Int32.ofInt (1)) h1 G (by omega) (by omega)
      exact ⟨k3, h9, t13.tr tq9, G9⟩
set_option maxRecDepth 100000 in
set_option maxHeartbeats 4000000 in
theorem jk_voteIn0 (l : Launch) (Z : Nat → Int) (Y : Nat → Int32) (rr : Int32) (r : Nat) (h : XH) (hg : mI h) (A : zAll Z) (jk : jK Z h) (jw : jHf 0 Z Y h) (jh : jHow Y h) (V : zVd Z Y) (nm : ¬ (Y 51).toInt = 4) (hr : rr.toInt = r) : ∃ h', CX l 8 218 false 232 [xf 13 104, xi (Int32.ofInt (0)), xi rr] h [xi (zVs Z Y r)] h' ∧ mF h h' := by
  obtain ⟨⟨⟨B00, B01⟩, ⟨B10, B11⟩, ⟨B20, B21⟩, B30, B31⟩, g6, zj, zv, LW⟩ := id A
  have t1 : XT l 8 218 false 232 153 6051 0 [xf 13 104, xi (Int32.ofInt (0)), xi rr, xun, xun] [] h 5 [xf 13 104, xi (Int32.ofInt (0)), xi rr, xi (Int32.ofInt (0)), xi (Int32.ofInt (0))] [] h := XT_path (l := l) (fr := 8) (lo := 218) (full := false) (M := 232) (n := 153) (u := 6051) (pc := 0) (L := [xf 13 104, xi (Int32.ofInt (0)), xi rr, xun, xun]) (st := []) (h := h) (inl := []) (n' := 80) (sp := [5]) (o := []) rfl rfl ⟨rfl, rfl, rfl⟩ rfl ⟨Nat.le_of_eq hg.2.2.2.1, Nat.le_of_eq hg.2.2.2.2⟩ trivial
  obtain ⟨k2, h2, t2, G2⟩ := jk_voteL0 l Z Y rr r h hg A jk jw jh V nm hr (Z 2).toNat 0 (Int32.ofInt (0)) h (mF.rf hg) rfl (by omega)
  have T2 := t1.tr t2
  have t2 : XT l 8 218 false 232 153 6051 57 [xf 13 104, xi (Int32.ofInt (0)), xi rr, xi (zsum (fun p => if (Y (20 + p)).toInt = r then zWe Z Y p * zVo Z Y p else Int32.ofInt (0)) (Z 2).toNat), xi k2] [] h2 58 [xf 13 104, xi (Int32.ofInt (0)), xi rr, xi (zsum (fun p => if (Y (20 + p)).toInt = r then zWe Z Y p * zVo Z Y p else Int32.ofInt (0)) (Z 2).toNat), xi k2] [xi (zsum (fun p => if (Y (20 + p)).toInt = r then zWe Z Y p * zVo Z Y p else Int32.ofInt (0)) (Z 2).toNat)] h2 := XT_path (l := l) (fr := 8) (lo := 218) (full := false) (M := 232) (n := 153) (u := 6051) (pc := 57) (L := [xf 13 104, xi (Int32.ofInt (0)), xi rr, xi (zsum (fun p => if (Y (20 + p)).toInt = r then zWe Z Y p * zVo Z Y p else Int32.ofInt (0)) (Z 2).toNat), xi k2]) (st := []) (h := h2) (inl := []) (n' := 80) (sp := [58]) (o := []) rfl rfl ⟨rfl, rfl, rfl⟩ rfl ⟨Nat.le_of_eq G2.1.2.2.2.1, Nat.le_of_eq G2.1.2.2.2.2⟩ trivial
  have t3 := T2.tr t2
  exact ⟨h2, CX_ofT (h' := h2) (by decide) rfl rfl trivial ⟨_, _, _, rfl, rfl, rfl⟩ rfl ⟨Nat.le_of_eq G2.1.2.2.2.1.symm, Nat.le_of_eq G2.1.2.2.2.2.symm⟩ t3, G2⟩
set_option maxRecDepth 100000 in
set_option maxHeartbeats 4000000 in
theorem jk_go10 (l : Launch) (Z : Nat → Int) (Y : Nat → Int32) (h : XH) (hg : mI h) (A : zAll Z) (jk : jK Z h) (jw : jHf 0 Z Y h) (jh : jHow Y h) (V : zVd Z Y) (nm : ¬ (Y 51).toInt = 4) : ∀ (m k : Nat) (kk : Int32) (x3 : XV) (h1 : XH), mW (fun c k : Nat => ((c = 104 ∧ k = 54) ∨ c = 139)) h h1 → kk.toInt = k → (k : Int) + m = Z 0 → (∀ r : Nat, r < k → xI h1 139 r = zVs Z Y r) → ∃ k2 y3 h2, XT l 9 242 false 244 153 6051 2 [xf 13 104, xi (Int32.ofInt (0)), xi kk, x3] [] h1 28 [xf 13 104, xi (Int32.ofInt (0)), xi k2, y3] [] h2 ∧ mW (fun c k : Nat => ((c = 104 ∧ k = 54) ∨ c = 139)) h h2 ∧ (∀ r : Nat, (r : Int) < Z 0 → xI h2 139 r = zVs Z Y r)
  | 0, k, kk, x3, h1, G, hk, hm, I1 => by
    obtain ⟨⟨⟨B00, B01⟩, ⟨B10, B11⟩, ⟨B20, B21⟩, B30, B31⟩, g6, zj, zv, LW⟩ := id A
    have hg1 := G.1
    have jk1 : jK Z h1 := jk.w hg.1 G (fun c k z => by have z : ((c = 104 ∧ k = 54) ∨ c = 139) := z; omega)
    have ej : (xI h1 104 12).toInt = Z 0 := jk1.1 0 (by decide)
    have t1 : XT l 9 242 false 244 153 6051 2 [xf 13 104, xi (Int32.ofInt (0)), xi kk, x3] [] h1 28 [xf 13 104, xi (Int32.ofInt (0)), xi kk, x3] [] h1 := XT_path (l := l) (fr := 9) (lo := 242) (full := false) (M := 244) (n := 153) (u := 6051) (pc := 2) (L := [xf 13 104, xi (Int32.ofInt (0)), xi kk, x3]) (st := []) (h := h1) (inl := [245]) (n' := 120) (sp := [28]) (o := [1]) rfl rfl ⟨rfl, rfl, rfl⟩ rfl ⟨Nat.le_of_eq hg1.2.2.2.1, Nat.le_of_eq hg1.2.2.2.2⟩ ⟨trivial, (show (xI h1 104 12) ≤ kk from Int32.le_iff_toInt_le.mpr (by omega))⟩
    obtain rfl : k = (Z 0).toNat := by omega
    exact ⟨kk, x3, h1, t1, G, fun r hr => I1 r (by omega)⟩
  | m + 1, k, kk, x3, h1, G, hk, hm, I1 => by
    obtain ⟨⟨⟨B00, B01⟩, ⟨B10, B11⟩, ⟨B20, B21⟩, B30, B31⟩, g6, zj, zv, LW⟩ := id A
    have hg1 := G.1
    have jk1 : jK Z h1 := jk.w hg.1 G (fun c k z => by have z : ((c = 104 ∧ k = 54) ∨ c = 139) := z; omega)
    have ej : (xI h1 104 12).toInt = Z 0 := jk1.1 0 (by decide)
    have lk : (k : Int) < Z 0 := by omega
    have nk : kk.toNatClampNeg = k := zi_ix hk
    have sk := y_suc1 (k := kk) (by omega) (by omega)
    have t1 : XT l 9 242 false 244 153 6051 2 [xf 13 104, xi (Int32.ofInt (0)), xi kk, x3] [] h1 18 [xf 13 104, xi (Int32.ofInt (0)), xi kk, x3] [xi kk, xi (Int32.ofInt (0)), xf 13 104, xi kk, xf 10006 (xR h1 104 61)] h1 := XT_path (l := l) (fr := 9) (lo := 242) (full := false) (M := 244) (n := 153) (u := 6051) (pc := 2) (L := [xf 13 104, xi (Int32.ofInt (0)), xi kk, x3]) (st := []) (h := h1) (inl := [245]) (n' := 120) (sp := [18]) (o := [0]) rfl rfl ⟨rfl, rfl, rfl⟩ rfl ⟨Nat.le_of_eq hg1.2.2.2.1, Nat.le_of_eq hg1.2.2.2.2⟩ ⟨⟨trivial, (show ¬ (xI h1 104 12) ≤ kk from fun z => absurd (Int32.le_iff_toInt_le.mp z) (by omega))⟩, (vnn hg1.1 (rfl : vRf 104 61 = [139]) (by decide))⟩
    rw [vref hg1.1 (rfl : vRf 104 61 = [139])] at t1
    obtain ⟨h2, c1, g1⟩ := jk_voteIn0 l Z Y kk k h1 hg1 A jk1 (jw.w G (fun c k z => by have z : ((c = 104 ∧ k = 54) ∨ c = 139) := z; omega)) (jh.w G (fun c k z => by have z : ((c = 104 ∧ k = 54) ∨ c = 139) := z; omega)) V nm hk
    have t2 : XT l 9 242 false 244 153 6051 18 [xf 13 104, xi (Int32.ofInt (0)), xi kk, x3] [xi kk, xi (Int32.ofInt (0)), xf 13 104, xi kk, xf 10006 139] h1 21 [xf 13 104, xi (Int32.ofInt (0)), xi kk, x3] [xi (zVs Z Y k), xi kk, xf 10006 139] h2 := XT_call (l := l) (fr := 9) (lo := 242) (full := false) (M := 244) (n := 153) (u := 6051) (pc := 18) (L := [xf 13 104, xi (Int32.ofInt (0)), xi kk, x3]) (st := [xi kk, xi (Int32.ofInt (0)), xf 13 104, xi kk, xf 10006 139]) (h := h1) (i := .invokevirtual 232) (aux := 3) (nx := 21) (K := 232) (vs := [xf 13 104, xi (Int32.ofInt (0)), xi kk]) (rs := [xi (zVs Z Y k)]) (rest := [xi kk, xf 10006 139]) rfl rfl rfl rfl rfl rfl c1 (by decide) (by decide) (Nat.le_of_ble_eq_true rfl) ⟨Nat.le_of_eq g1.1.2.2.2.1, Nat.le_of_eq g1.1.2.2.2.2⟩
    have t3 := t1.tr t2
    have t4 : XT l 9 242 false 244 153 6051 21 [xf 13 104, xi (Int32.ofInt (0)), xi kk, x3] [xi (zVs Z Y k), xi kk, xf 10006 139] h2 2 [xf 13 104, xi (Int32.ofInt (0)), xi (kk + Int32.ofInt (1)), x3] [] (xsetI h2 139 (kk).toNatClampNeg (zVs Z Y k)) := XT_path (l := l) (fr := 9) (lo := 242) (full := false) (M := 244) (n := 153) (u := 6051) (pc := 21) (L := [xf 13 104, xi (Int32.ofInt (0)), xi kk, x3]) (st := [xi (zVs Z Y k), xi kk, xf 10006 139]) (h := h2) (inl := [245]) (n' := 120) (sp := [2]) (o := []) rfl rfl ⟨rfl, rfl, rfl⟩ rfl ⟨Nat.le_of_eq g1.1.2.2.2.1, Nat.le_of_eq g1.1.2.2.2.2⟩ ⟨trivial, (vp_of (i := kk) (n := 6) (by omega) (by omega))⟩
    have t5 := t3.tr t4
    obtain ⟨hE, eE⟩ : ∃ x, x = (xsetI h2 139 (kk).toNatClampNeg (zVs Z Y k)) := ⟨_, rfl⟩
    rw [← eE] at t5
    have eE2 : hE = xsetI h2 139 k (zVs Z Y k) := by rw [eE]; simp only [nk]
    have GE : mW (fun c k : Nat => ((c = 104 ∧ k = 54) ∨ c = 139)) h hE := by rw [eE2]; exact (G.tr (g1.w (show ((104 = 104 ∧ 54 = 54) ∨ 104 = 139) from by omega))).set (show ((139 = 104 ∧ k = 54) ∨ 139 = 139) from by omega) (by rw [vI_u rfl (rfl : vRow 139 = sfull)]; exact i32r_of _)
    obtain ⟨k3, y3, h9, tq9, G9, I9⟩ := jk_go10 l Z Y h hg A jk jw jh V nm m (k + 1) (kk + Int32.ofInt (1)) (x3) hE GE (by omega) (by omega) (fun r hr => by rw [eE2]; exact if e : r = k then (by rw [e, yI_same]) else (by rw [yI_ne (eq_false (fun z => e z.2)), g1.2.1 139 r (by omega)]; exact I1 r (by omega)))
    exact ⟨k3, y3, h9, t5.tr tq9, G9, I9⟩
set_option maxRecDepth 100000 in
set_option maxHeartbeats 4000000 in
theorem jk_go20 (l : Launch) (Z : Nat → Int) (Y : Nat → Int32) (h : XH) (hg : mI h) (A : zAll Z) (jk : jK Z h) (jw : jHf 0 Z Y h) (jh : jHow Y h) (V : zVd Z Y) (k9 : ∀ r : Nat, (r : Int) < Z 0 → xI h 139 r = zVs Z Y r) : ∀ (m k : Nat) (kk : Int32) (x3 : XV) (h1 : XH), mW (fun c k : Nat => (c = 133 ∧ 0 ≤ k ∧ k < 6)) h h1 → kk.toInt = k → (k : Int) + m = Z 0 → (∀ r : Nat, r < k → xI h1 133 (0 + r) = zSt (Y r) (zVs Z Y r)) → (∀ r : Nat, k ≤ r → (r : Int) < Z 0 → xI h1 133 (0 + r) = Y r) → ∃ k2 y3 h2, XT l 9 242 false 244 153 6051 30 [xf 13 104, xi (Int32.ofInt (0)), xi kk, x3] [] h1 75 [xf 13 104, xi (Int32.ofInt (0)), xi k2, y3] [] h2 ∧ mW (fun c k : Nat => (c = 133 ∧ 0 ≤ k ∧ k < 6)) h h2 ∧ (∀ r : Nat, (r : Int) < Z 0 → xI h2 133 (0 + r) = zSt (Y r) (zVs Z Y r))
  | 0, k, kk, x3, h1, G, hk, hm, I1, I2 => by
    obtain ⟨⟨⟨B00, B01⟩, ⟨B10, B11⟩, ⟨B20, B21⟩, B30, B31⟩, g6, zj, zv, LW⟩ := id A
    have hg1 := G.1
    have jk1 : jK Z h1 := jk.w hg.1 G (fun c k z => by have z : (c = 133 ∧ 0 ≤ k ∧ k < 6) := z; omega)
    have ej : (xI h1 104 12).toInt = Z 0 := jk1.1 0 (by decide)
    have t1 : XT l 9 242 false 244 153 6051 30 [xf 13 104, xi (Int32.ofInt (0)), xi kk, x3] [] h1 75 [xf 13 104, xi (Int32.ofInt (0)), xi kk, x3] [] h1 := XT_path (l := l) (fr := 9) (lo := 242) (full := false) (M := 244) (n := 153) (u := 6051) (pc := 30) (L := [xf 13 104, xi (Int32.ofInt (0)), xi kk, x3]) (st := []) (h := h1) (inl := [245]) (n' := 120) (sp := [75]) (o := [1]) rfl rfl ⟨rfl, rfl, rfl⟩ rfl ⟨Nat.le_of_eq hg1.2.2.2.1, Nat.le_of_eq hg1.2.2.2.2⟩ ⟨trivial, (show (xI h1 104 12) ≤ kk from Int32.le_iff_toInt_le.mpr (by omega))⟩
    obtain rfl : k = (Z 0).toNat := by omega
    exact ⟨kk, x3, h1, t1, G, fun r hr => I1 r (by omega)⟩
  | m + 1, k, kk, x3, h1, G, hk, hm, I1, I2 => by
    obtain ⟨⟨⟨B00, B01⟩, ⟨B10, B11⟩, ⟨B20, B21⟩, B30, B31⟩, g6, zj, zv, LW⟩ := id A
    have hg1 := G.1
    have jk1 : jK Z h1 := jk.w hg.1 G (fun c k z => by have z : (c = 133 ∧ 0 ≤ k ∧ k < 6) := z; omega)
    have ej : (xI h1 104 12).toInt = Z 0 := jk1.1 0 (by decide)
    have lk : (k : Int) < Z 0 := by omega
    have nk : kk.toNatClampNeg = k := zi_ix hk
    have sk := y_suc1 (k := kk) (by omega) (by omega)
    have ea0 : ((Int32.ofInt (6)) * (Int32.ofInt (0))).toInt = 0 := rfl
    have ea : (((Int32.ofInt (6)) * (Int32.ofInt (0))) + kk).toInt = 0 + k := by rw [y_addb (by rw [ea0]; decide) (by omega), ea0]; omega
    have na : (((Int32.ofInt (6)) * (Int32.ofInt (0))) + kk).toNatClampNeg = 6 * 0 + k := zi_ix (by rw [ea]; omega)
    have bs := V.1 k lk
    have eS : xI h1 133 (((Int32.ofInt (6)) * (Int32.ofInt (0))) + kk).toNatClampNeg = Y k := by rw [na]; exact I2 k (Nat.le_refl _) lk
    have eV : xI h1 139 kk.toNatClampNeg = zVs Z Y k := by rw [nk, G.k (c := 139) (fun z => by have z : (139 = 133 ∧ 0 ≤ k ∧ k < 6) := z; omega)]; exact k9 k lk
    have eS2 := congrArg Int32.toInt eS
    have eV2 := congrArg Int32.toInt eV
    have ez : (0 : Int32).toInt = 0 := rfl
    have e_1 : ((Int32.ofInt (1))).toInt = 1 := rfl
    have e_9 : ((Int32.ofInt (9))).toInt = 9 := rfl
    by_cases cb1 : (xI h1 (xR h1 104 61) (kk).toNatClampNeg) ≤ 0
    · have e_0 : (0 : Int32).toInt = 0 := rfl
      have cb1r := cb1
      rw [vref hg1.1 (rfl : vRf 104 61 = [139])] at cb1r
      have dcb1 : (xI h1 139 (kk).toNatClampNeg).toInt ≤ (0 : Int32).toInt := Int32.le_iff_toInt_le.mp cb1r
      by_cases cb2 : (0 : Int32) ≤ (xI h1 (xR h1 104 61) (kk).toNatClampNeg)
      · have e_0 : (0 : Int32).toInt = 0 := rfl
        have cb2r := cb2
        rw [vref hg1.1 (rfl : vRf 104 61 = [139])] at cb2r
        have dcb2 : (0 : Int32).toInt ≤ (xI h1 139 (kk).toNatClampNeg).toInt := Int32.le_iff_toInt_le.mp cb2r
        have t3 : XT l 9 242 false 244 153 6051 30 [xf 13 104, xi (Int32.ofInt (0)), xi kk, x3] [] h1 30 [xf 13 104, xi (Int32.ofInt (0)), xi (kk + Int32.ofInt (1)), x3] [] (xsetI h1 (xR h1 104 55) ((((Int32.ofInt (6)) * (Int32.ofInt (0))) + kk)).toNatClampNeg (xI h1 (xR h1 104 55) ((((Int32.ofInt (6)) * (Int32.ofInt (0))) + kk)).toNatClampNeg)) := XT_path (l := l) (fr := 9) (lo := 242) (full := false) (M := 244) (n := 153) (u := 6051) (pc := 30) (L := [xf 13 104, xi (Int32.ofInt (0)), xi kk, x3]) (st := []) (h := h1) (inl := [245]) (n' := 120) (sp := [30]) (o := [0, 1, 1]) rfl rfl ⟨rfl, rfl, rfl⟩ rfl ⟨Nat.le_of_eq hg1.2.2.2.1, Nat.le_of_eq hg1.2.2.2.2⟩ ⟨⟨⟨⟨⟨⟨⟨⟨⟨trivial, (show ¬ (xI h1 104 12) ≤ kk from fun z => absurd (Int32.le_iff_toInt_le.mp z) (by omega))⟩, (vnn hg1.1 (rfl : vRf 104 55 = [133]) (by decide))⟩, (vnn hg1.1 (rfl : vRf 104 55 = [133]) (by decide))⟩, (vp_of (i := (((Int32.ofInt (6)) * (Int32.ofInt (0))) + kk)) (n := 12) (by omega) (by omega))⟩, (vnn hg1.1 (rfl : vRf 104 61 = [139]) (by decide))⟩, (vp_of (i := kk) (n := 6) (by omega) (by omega))⟩, cb1⟩, cb2⟩, (vp_of (i := (((Int32.ofInt (6)) * (Int32.ofInt (0))) + kk)) (n := 12) (by omega) (by omega))⟩
        rw [vref hg1.1 (rfl : vRf 104 55 = [133])] at t3
        obtain ⟨hE, eE⟩ : ∃ x, x = (xsetI h1 133 ((((Int32.ofInt (6)) * (Int32.ofInt (0))) + kk)).toNatClampNeg (xI h1 133 ((((Int32.ofInt (6)) * (Int32.ofInt (0))) + kk)).toNatClampNeg)) := ⟨_, rfl⟩
        rw [← eE] at t3
        have eN : (xI h1 133 ((((Int32.ofInt (6)) * (Int32.ofInt (0))) + kk)).toNatClampNeg) = zSt (Y k) (zVs Z Y k) := by
          unfold zSt
          rw [eS]
          repeat (first | rw [if_pos (by omega)] | rw [if_neg (by omega)])
          all_goals (exfalso; omega)
        have eE2 : hE = xsetI h1 133 (0 + k) (zSt (Y k) (zVs Z Y k)) := by rw [eE, eN]; simp only [na]
        have bz := zSt_b (v := zVs Z Y k) bs
        have GE : mW (fun c k : Nat => (c = 133 ∧ 0 ≤ k ∧ k < 6)) h hE := by rw [eE2]; exact G.set (show (133 = 133 ∧ 0 ≤ (0 + k) ∧ (0 + k) < 6) from by omega) (by rw [show (0 + k) = k from by omega, vS133_s k (by omega)]; exact ⟨by show (0 : Int) ≤ _; omega, by show _ ≤ (9 : Int); omega⟩)
        obtain ⟨k3, y3, h9, tq9, G9, I9⟩ := jk_go20 l Z Y h hg A jk jw jh V k9 m (k + 1) (kk + Int32.ofInt (1)) (x3) hE GE (by omega) (by omega) (fun r hr => by rw [eE2]; exact if e : r = k then (by rw [e, yI_same]) else (by rw [yI_ne (eq_false (fun z => by have := z.2; omega))]; exact I1 r (by omega))) (fun r q1 q2 => by rw [eE2, yI_ne (eq_false (fun z => by have := z.2; omega))]; exact I2 r (by omega) q2)
        exact ⟨k3, y3, h9, t3.tr tq9, G9, I9⟩
      · have e_0 : (0 : Int32).toInt = 0 := rfl
        have cb2r := cb2
        rw [vref hg1.1 (rfl : vRf 104 61 = [139])] at cb2r
        have dcb2 : (xI h1 139 (kk).toNatClampNeg).toInt < (0 : Int32).toInt := Int32.lt_iff_toInt_lt.mp (Int32.not_le.mp cb2r)
        by_cases cb4 : (xI h1 (xR h1 104 55) ((((Int32.ofInt (6)) * (Int32.ofInt (0))) + kk)).toNatClampNeg) ≤ (Int32.ofInt (1))
        · have e_0 : (Int32.ofInt (0)).toInt = 0 := rfl
          have e_1 : (Int32.ofInt (1)).toInt = 1 := rfl
          have e_6 : (Int32.ofInt (6)).toInt = 6 := rfl
          have cb4r := cb4
          rw [vref hg1.1 (rfl : vRf 104 55 = [133])] at cb4r
          have dcb4 : (xI h1 133 ((((Int32.ofInt (6)) * (Int32.ofInt (0))) + kk)).toNatClampNeg).toInt ≤ (Int32.ofInt (1)).toInt := Int32.le_iff_toInt_le.mp cb4r
          have t5 : XT l 9 242 false 244 153 6051 30 [xf 13 104, xi (Int32.ofInt (0)), xi kk, x3] [] h1 30 [xf 13 104, xi (Int32.ofInt (0)), xi (kk + Int32.ofInt (1)), x3] [] (xsetI h1 (xR h1 104 55) ((((Int32.ofInt (6)) * (Int32.ofInt (0))) + kk)).toNatClampNeg (xI h1 (xR h1 104 55) ((((Int32.ofInt (6)) * (Int32.ofInt (0))) + kk)).toNatClampNeg)) := XT_path (l := l) (fr := 9) (lo := 242) (full := false) (M := 244) (n := 153) (u := 6051) (pc := 30) (L := [xf 13 104, xi (Int32.ofInt (0)), xi kk, x3]) (st := []) (h := h1) (inl := [245]) (n' := 120) (sp := [30]) (o := [0, 1, 0, 1]) rfl rfl ⟨rfl, rfl, rfl⟩ rfl ⟨Nat.le_of_eq hg1.2.2.2.1, Nat.le_of_eq hg1.2.2.2.2⟩ ⟨⟨⟨⟨⟨⟨⟨⟨⟨⟨trivial, (show ¬ (xI h1 104 12) ≤ kk from fun z => absurd (Int32.le_iff_toInt_le.mp z) (by omega))⟩, (vnn hg1.1 (rfl : vRf 104 55 = [133]) (by decide))⟩, (vnn hg1.1 (rfl : vRf 104 55 = [133]) (by decide))⟩, (vp_of (i := (((Int32.ofInt (6)) * (Int32.ofInt (0))) + kk)) (n := 12) (by omega) (by omega))⟩, (vnn hg1.1 (rfl : vRf 104 61 = [139]) (by decide))⟩, (vp_of (i := kk) (n := 6) (by omega) (by omega))⟩, cb1⟩, cb2⟩, cb4⟩, (vp_of (i := (((Int32.ofInt (6)) * (Int32.ofInt (0))) + kk)) (n := 12) (by omega) (by omega))⟩
          rw [vref hg1.1 (rfl : vRf 104 55 = [133])] at t5
          obtain ⟨hE, eE⟩ : ∃ x, x = (xsetI h1 133 ((((Int32.ofInt (6)) * (Int32.ofInt (0))) + kk)).toNatClampNeg (xI h1 133 ((((Int32.ofInt (6)) * (Int32.ofInt (0))) + kk)).toNatClampNeg)) := ⟨_, rfl⟩
          rw [← eE] at t5
          have eN : (xI h1 133 ((((Int32.ofInt (6)) * (Int32.ofInt (0))) + kk)).toNatClampNeg) = zSt (Y k) (zVs Z Y k) := by
            unfold zSt
            rw [eS]
            repeat (first | rw [if_pos (by omega)] | rw [if_neg (by omega)])
            all_goals (exfalso; omega)
          have eE2 : hE = xsetI h1 133 (0 + k) (zSt (Y k) (zVs Z Y k)) := by rw [eE, eN]; simp only [na]
          have bz := zSt_b (v := zVs Z Y k) bs
          have GE : mW (fun c k : Nat => (c = 133 ∧ 0 ≤ k ∧ k < 6)) h hE := by rw [eE2]; exact G.set (show (133 = 133 ∧ 0 ≤ (0 + k) ∧ (0 + k) < 6) from by omega) (by rw [show (0 + k) = k from by omega, vS133_s k (by omega)]; exact ⟨by show (0 : Int) ≤ _; omega, by show _ ≤ (9 : Int); omega⟩)
          obtain ⟨k3, y3, h9, tq9, G9, I9⟩ := jk_go20 l Z Y h hg A jk jw jh V k9 m (k + 1) (kk + Int32.ofInt (1)) (x3) hE GE (by omega) (by omega) (fun r hr => by rw [eE2]; exact if e : r = k then (by rw [e, yI_same]) else (by rw [yI_ne (eq_false (fun z => by have := z.2; omega))]; exact I1 r (by omega))) (fun r q1 q2 => by rw [eE2, yI_ne (eq_false (fun z => by have := z.2; omega))]; exact I2 r (by omega) q2)
          exact ⟨k3, y3, h9, t5.tr tq9, G9, I9⟩
        · have e_0 : (Int32.ofInt (0)).toInt = 0 := rfl
          have e_1 : (Int32.ofInt (1)).toInt = 1 := rfl
          have e_6 : (Int32.ofInt (6)).toInt = 6 := rfl
          have cb4r := cb4
          rw [vref hg1.1 (rfl : vRf 104 55 = [133])] at cb4r
          have dcb4 : (Int32.ofInt (1)).toInt < (xI h1 133 ((((Int32.ofInt (6)) * (Int32.ofInt (0))) + kk)).toNatClampNeg).toInt := Int32.lt_iff_toInt_lt.mp (Int32.not_le.mp cb4r)
          have t6 : XT l 9 242 false 244 153 6051 30 [xf 13 104, xi (Int32.ofInt (0)), xi kk, x3] [] h1 30 [xf 13 104, xi (Int32.ofInt (0)), xi (kk + Int32.ofInt (1)), x3] [] (xsetI h1 (xR h1 104 55) ((((Int32.ofInt (6)) * (Int32.ofInt (0))) + kk)).toNatClampNeg ((xI h1 (xR h1 104 55) ((((Int32.ofInt (6)) * (Int32.ofInt (0))) + kk)).toNatClampNeg) - (Int32.ofInt (1)))) := XT_path (l := l) (fr := 9) (lo := 242) (full := false) (M := 244) (n := 153) (u := 6051) (pc := 30) (L := [xf 13 104, xi (Int32.ofInt (0)), xi kk, x3]) (st := []) (h := h1) (inl := [245]) (n' := 120) (sp := [30]) (o := [0, 1, 0, 0]) rfl rfl ⟨rfl, rfl, rfl⟩ rfl ⟨Nat.le_of_eq hg1.2.2.2.1, Nat.le_of_eq hg1.2.2.2.2⟩ ⟨⟨⟨⟨⟨⟨⟨⟨⟨⟨trivial, (show ¬ (xI h1 104 12) ≤ kk from fun z => absurd (Int32.le_iff_toInt_le.mp z) (by omega))⟩, (vnn hg1.1 (rfl : vRf 104 55 = [133]) (by decide))⟩, (vnn hg1.1 (rfl : vRf 104 55 = [133]) (by decide))⟩, (vp_of (i := (((Int32.ofInt (6)) * (Int32.ofInt (0))) + kk)) (n := 12) (by omega) (by omega))⟩, (vnn hg1.1 (rfl : vRf 104 61 = [139]) (by decide))⟩, (vp_of (i := kk) (n := 6) (by omega) (by omega))⟩, cb1⟩, cb2⟩, cb4⟩, (vp_of (i := (((Int32.ofInt (6)) * (Int32.ofInt (0))) + kk)) (n := 12) (by omega) (by omega))⟩
          rw [vref hg1.1 (rfl : vRf 104 55 = [133])] at t6
          obtain ⟨hE, eE⟩ : ∃ x, x = (xsetI h1 133 ((((Int32.ofInt (6)) * (Int32.ofInt (0))) + kk)).toNatClampNeg ((xI h1 133 ((((Int32.ofInt (6)) * (Int32.ofInt (0))) + kk)).toNatClampNeg) - (Int32.ofInt (1)))) := ⟨_, rfl⟩
          rw [← eE] at t6
          have eN : ((xI h1 133 ((((Int32.ofInt (6)) * (Int32.ofInt (0))) + kk)).toNatClampNeg) - (Int32.ofInt (1))) = zSt (Y k) (zVs Z Y k) := by
            unfold zSt
            rw [eS]
            repeat (first | rw [if_pos (by omega)] | rw [if_neg (by omega)])
            all_goals (exfalso; omega)
          have eE2 : hE = xsetI h1 133 (0 + k) (zSt (Y k) (zVs Z Y k)) := by rw [eE, eN]; simp only [na]
          have bz := zSt_b (v := zVs Z Y k) bs
          have GE : mW (fun c k : Nat => (c = 133 ∧ 0 ≤ k ∧ k < 6)) h hE := by rw [eE2]; exact G.set (show (133 = 133 ∧ 0 ≤ (0 + k) ∧ (0 + k) < 6) from by omega) (by rw [show (0 + k) = k from by omega, vS133_s k (by omega)]; exact ⟨by show (0 : Int) ≤ _; omega, by show _ ≤ (9 : Int); omega⟩)
          obtain ⟨k3, y3, h9, tq9, G9, I9⟩ := jk_go20 l Z Y h hg A jk jw jh V k9 m (k + 1) (kk + Int32.ofInt (1)) (x3) hE GE (by omega) (by omega) (fun r hr => by rw [eE2]; exact if e : r = k then (by rw [e, yI_same]) else (by rw [yI_ne (eq_false (fun z => by have := z.2; omega))]; exact I1 r (by omega))) (fun r q1 q2 => by rw [eE2, yI_ne (eq_false (fun z => by have := z.2; omega))]; exact I2 r (by omega) q2)
          exact ⟨k3, y3, h9, t6.tr tq9, G9, I9⟩
    · have e_0 : (0 : Int32).toInt = 0 := rfl
      have cb1r := cb1
      rw [vref hg1.1 (rfl : vRf 104 61 = [139])] at cb1r
      have dcb1 : (0 : Int32).toInt < (xI h1 139 (kk).toNatClampNeg).toInt := Int32.lt_iff_toInt_lt.mp (Int32.not_le.mp cb1r)
      by_cases cb7 : (Int32.ofInt (9)) ≤ (xI h1 (xR h1 104 55) ((((Int32.ofInt (6)) * (Int32.ofInt (0))) + kk)).toNatClampNeg)
      · have e_0 : (Int32.ofInt (0)).toInt = 0 := rfl
        have e_6 : (Int32.ofInt (6)).toInt = 6 := rfl
        have e_9 : (Int32.ofInt (9)).toInt = 9 := rfl
        have cb7r := cb7
        rw [vref hg1.1 (rfl : vRf 104 55 = [133])] at cb7r
        have dcb7 : (Int32.ofInt (9)).toInt ≤ (xI h1 133 ((((Int32.ofInt (6)) * (Int32.ofInt (0))) + kk)).toNatClampNeg).toInt := Int32.le_iff_toInt_le.mp cb7r
        by_cases cb8 : (0 : Int32) ≤ (xI h1 (xR h1 104 61) (kk).toNatClampNeg)
        · have e_0 : (0 : Int32).toInt = 0 := rfl
          have cb8r := cb8
          rw [vref hg1.1 (rfl : vRf 104 61 = [139])] at cb8r
          have dcb8 : (0 : Int32).toInt ≤ (xI h1 139 (kk).toNatClampNeg).toInt := Int32.le_iff_toInt_le.mp cb8r
          have t9 : XT l 9 242 false 244 153 6051 30 [xf 13 104, xi (Int32.ofInt (0)), xi kk, x3] [] h1 30 [xf 13 104, xi (Int32.ofInt (0)), xi (kk + Int32.ofInt (1)), x3] [] (xsetI h1 (xR h1 104 55) ((((Int32.ofInt (6)) * (Int32.ofInt (0))) + kk)).toNatClampNeg (xI h1 (xR h1 104 55) ((((Int32.ofInt (6)) * (Int32.ofInt (0))) + kk)).toNatClampNeg)) := XT_path (l := l) (fr := 9) (lo := 242) (full := false) (M := 244) (n := 153) (u := 6051) (pc := 30) (L := [xf 13 104, xi (Int32.ofInt (0)), xi kk, x3]) (st := []) (h := h1) (inl := [245]) (n' := 120) (sp := [30]) (o := [0, 0, 1, 1]) rfl rfl ⟨rfl, rfl, rfl⟩ rfl ⟨Nat.le_of_eq hg1.2.2.2.1, Nat.le_of_eq hg1.2.2.2.2⟩ ⟨⟨⟨⟨⟨⟨⟨⟨⟨⟨trivial, (show ¬ (xI h1 104 12) ≤ kk from fun z => absurd (Int32.le_iff_toInt_le.mp z) (by omega))⟩, (vnn hg1.1 (rfl : vRf 104 55 = [133]) (by decide))⟩, (vnn hg1.1 (rfl : vRf 104 55 = [133]) (by decide))⟩, (vp_of (i := (((Int32.ofInt (6)) * (Int32.ofInt (0))) + kk)) (n := 12) (by omega) (by omega))⟩, (vnn hg1.1 (rfl : vRf 104 61 = [139]) (by decide))⟩, (vp_of (i := kk) (n := 6) (by omega) (by omega))⟩, cb1⟩, cb7⟩, cb8⟩, (vp_of (i := (((Int32.ofInt (6)) * (Int32.ofInt (0))) + kk)) (n := 12) (by omega) (by omega))⟩
          rw [vref hg1.1 (rfl : vRf 104 55 = [133])] at t9
          obtain ⟨hE, eE⟩ : ∃ x, x = (xsetI h1 133 ((((Int32.ofInt (6)) * (Int32.ofInt (0))) + kk)).toNatClampNeg (xI h1 133 ((((Int32.ofInt (6)) * (Int32.ofInt (0))) + kk)).toNatClampNeg)) := ⟨_, rfl⟩
          rw [← eE] at t9
          have eN : (xI h1 133 ((((Int32.ofInt (6)) * (Int32.ofInt (0))) + kk)).toNatClampNeg) = zSt (Y k) (zVs Z Y k) := by
            unfold zSt
            rw [eS]
            repeat (first | rw [if_pos (by omega)] | rw [if_neg (by omega)])
            all_goals (exfalso; omega)
          have eE2 : hE = xsetI h1 133 (0 + k) (zSt (Y k) (zVs Z Y k)) := by rw [eE, eN]; simp only [na]
          have bz := zSt_b (v := zVs Z Y k) bs
          have GE : mW (fun c k : Nat => (c = 133 ∧ 0 ≤ k ∧ k < 6)) h hE := by rw [eE2]; exact G.set (show (133 = 133 ∧ 0 ≤ (0 + k) ∧ (0 + k) < 6) from by omega) (by rw [show (0 + k) = k from by omega, vS133_s k (by omega)]; exact ⟨by show (0 : Int) ≤ _; omega, by show _ ≤ (9 : Int); omega⟩)
          obtain ⟨k3, y3, h9, tq9, G9, I9⟩ := jk_go20 l Z Y h hg A jk jw jh V k9 m (k + 1) (kk + Int32.ofInt (1)) (x3) hE GE (by omega) (by omega) (fun r hr => by rw [eE2]; exact if e : r = k then (by rw [e, yI_same]) else (by rw [yI_ne (eq_false (fun z => by have := z.2; omega))]; exact I1 r (by omega))) (fun r q1 q2 => by rw [eE2, yI_ne (eq_false (fun z => by have := z.2; omega))]; exact I2 r (by omega) q2)
          exact ⟨k3, y3, h9, t9.tr tq9, G9, I9⟩
        · have e_0 : (0 : Int32).toInt = 0 := rfl
          have cb8r := cb8
          rw [vref hg1.1 (rfl : vRf 104 61 = [139])] at cb8r
          have dcb8 : (xI h1 139 (kk).toNatClampNeg).toInt < (0 : Int32).toInt := Int32.lt_iff_toInt_lt.mp (Int32.not_le.mp cb8r)
          by_cases cb10 : (xI h1 (xR h1 104 55) ((((Int32.ofInt (6)) * (Int32.ofInt (0))) + kk)).toNatClampNeg) ≤ (Int32.ofInt (1))
          · have e_0 : (Int32.ofInt (0)).toInt = 0 := rfl
            have e_1 : (Int32.ofInt (1)).toInt = 1 := rfl
            have e_6 : (Int32.ofInt (6)).toInt = 6 := rfl
            have cb10r := cb10
            rw [vref hg1.1 (rfl : vRf 104 55 = [133])] at cb10r
            have dcb10 : (xI h1 133 ((((Int32.ofInt (6)) * (Int32.ofInt (0))) + kk)).toNatClampNeg).toInt ≤ (Int32.ofInt (1)).toInt := Int32.le_iff_toInt_le.mp cb10r
            have t11 : XT l 9 242 false 244 153 6051 30 [xf 13 104, xi (Int32.ofInt (0)), xi kk, x3] [] h1 30 [xf 13 104, xi (Int32.ofInt (0)), xi (kk + Int32.ofInt (1)), x3] [] (xsetI h1 (xR h1 104 55) ((((Int32.ofInt (6)) * (Int32.ofInt (0))) + kk)).toNatClampNeg (xI h1 (xR h1 104 55) ((((Int32.ofInt (6)) * (Int32.ofInt (0))) + kk)).toNatClampNeg)) := XT_path (l := l) (fr := 9) (lo := 242) (full := false) (M := 244) (n := 153) (u := 6051) (pc := 30) (L := [xf 13 104, xi (Int32.ofInt (0)), xi kk, x3]) (st := []) (h := h1) (inl := [245]) (n' := 120) (sp := [30]) (o := [0, 0, 1, 0, 1]) rfl rfl ⟨rfl, rfl, rfl⟩ rfl ⟨Nat.le_of_eq hg1.2.2.2.1, Nat.le_of_eq hg1.2.2.2.2⟩ ⟨⟨⟨⟨⟨⟨⟨⟨⟨⟨⟨trivial, (show ¬ (xI h1 104 12) ≤ kk from fun z => absurd (Int32.le_iff_toInt_le.mp z) (by omega))⟩, (vnn hg1.1 (rfl : vRf 104 55 = [133]) (by decide))⟩, (vnn hg1.1 (rfl : vRf 104 55 = [133]) (by decide))⟩, (vp_of (i := (((Int32.ofInt (6)) * (Int32.ofInt (0))) + kk)) (n := 12) (by omega) (by omega))⟩, (vnn hg1.1 (rfl : vRf 104 61 = [139]) (by decide))⟩, (vp_of (i := kk) (n := 6) (by omega) (by omega))⟩, cb1⟩, cb7⟩, cb8⟩, cb10⟩, (vp_of (i := (((Int32.ofInt (6)) * (Int32.ofInt (0))) + kk)) (n := 12) (by omega) (by omega))⟩
            rw [vref hg1.1 (rfl : vRf 104 55 = [133])] at t11
            obtain ⟨hE, eE⟩ : ∃ x, x = (xsetI h1 133 ((((Int32.ofInt (6)) * (Int32.ofInt (0))) + kk)).toNatClampNeg (xI h1 133 ((((Int32.ofInt (6)) * (Int32.ofInt (0))) + kk)).toNatClampNeg)) := ⟨_, rfl⟩
            rw [← eE] at t11
            have eN : (xI h1 133 ((((Int32.ofInt (6)) * (Int32.ofInt (0))) + kk)).toNatClampNeg) = zSt (Y k) (zVs Z Y k) := by
              unfold zSt
              rw [eS]
              repeat (first | rw [if_pos (by omega)] | rw [if_neg (by omega)])
              all_goals (exfalso; omega)
            have eE2 : hE = xsetI h1 133 (0 + k) (zSt (Y k) (zVs Z Y k)) := by rw [eE, eN]; simp only [na]
            have bz := zSt_b (v := zVs Z Y k) bs
            have GE : mW (fun c k : Nat => (c = 133 ∧ 0 ≤ k ∧ k < 6)) h hE := by rw [eE2]; exact G.set (show (133 = 133 ∧ 0 ≤ (0 + k) ∧ (0 + k) < 6) from by omega) (by rw [show (0 + k) = k from by omega, vS133_s k (by omega)]; exact ⟨by show (0 : Int) ≤ _; omega, by show _ ≤ (9 : Int); omega⟩)
            obtain ⟨k3, y3, h9, tq9, G9, I9⟩ := jk_go20 l Z Y h hg A jk jw jh V k9 m (k + 1) (kk + Int32.ofInt (1)) (x3) hE GE (by omega) (by omega) (fun r hr => by rw [eE2]; exact if e : r = k then (by rw [e, yI_same]) else (by rw [yI_ne (eq_false (fun z => by have := z.2; omega))]; exact I1 r (by omega))) (fun r q1 q2 => by rw [eE2, yI_ne (eq_false (fun z => by have := z.2; omega))]; exact I2 r (by omega) q2)
            exact ⟨k3, y3, h9, t11.tr tq9, G9, I9⟩
          · have e_0 : (Int32.ofInt (0)).toInt = 0 := rfl
            have e_1 : (Int32.ofInt (1)).toInt = 1 := rfl
            have e_6 : (Int32.ofInt (6)).toInt = 6 := rfl
            have cb10r := cb10
            rw [vref hg1.1 (rfl : vRf 104 55 = [133])] at cb10r
            have dcb10 : (Int32.ofInt (1)).toInt < (xI h1 133 ((((Int32.ofInt (6)) * (Int32.ofInt (0))) + kk)).toNatClampNeg).toInt := Int32.lt_iff_toInt_lt.mp (Int32.not_le.mp cb10r)
            have t12 : XT l 9 242 false 244 153 6051 30 [xf 13 104, xi (Int32.ofInt (0)), xi kk, x3] [] h1 30 [xf 13 104, xi (Int32.ofInt (0)), xi (kk + Int32.ofInt (1)), x3] [] (xsetI h1 (xR h1 104 55) ((((Int32.ofInt (6)) * (Int32.ofInt (0))) + kk)).toNatClampNeg ((xI h1 (xR h1 104 55) ((((Int32.ofInt (6)) * (Int32.ofInt (0))) + kk)).toNatClampNeg) - (Int32.ofInt (1)))) := XT_path (l := l) (fr := 9) (lo := 242) (full := false) (M := 244) (n := 153) (u := 6051) (pc := 30) (L := [xf 13 104, xi (Int32.ofInt (0)), xi kk, x3]) (st := []) (h := h1) (inl := [245]) (n' := 120) (sp := [30]) (o := [0, 0, 1, 0, 0]) rfl rfl ⟨rfl, rfl, rfl⟩ rfl ⟨Nat.le_of_eq hg1.2.2.2.1, Nat.le_of_eq hg1.2.2.2.2⟩ ⟨⟨⟨⟨⟨⟨⟨⟨⟨⟨⟨trivial, (show ¬ (xI h1 104 12) ≤ kk from fun z => absurd (Int32.le_iff_toInt_le.mp z) (by omega))⟩, (vnn hg1.1 (rfl : vRf 104 55 = [133]) (by decide))⟩, (vnn hg1.1 (rfl : vRf 104 55 = [133]) (by decide))⟩, (vp_of (i := (((Int32.ofInt (6)) * (Int32.ofInt (0))) + kk)) (n := 12) (by omega) (by omega))⟩, (vnn hg1.1 (rfl : vRf 104 61 = [139]) (by decide))⟩, (vp_of (i := kk) (n := 6) (by omega) (by omega))⟩, cb1⟩, cb7⟩, cb8⟩, cb10⟩, (vp_of (i := (((Int32.ofInt (6)) * (Int32.ofInt (0))) + kk)) (n := 12) (by omega) (by omega))⟩
            rw [vref hg1.1 (rfl : vRf 104 55 = [133])] at t12
            obtain ⟨hE, eE⟩ : ∃ x, x = (xsetI h1 133 ((((Int32.ofInt (6)) * (Int32.ofInt (0))) + kk)).toNatClampNeg ((xI h1 133 ((((Int32.ofInt (6)) * (Int32.ofInt (0))) + kk)).toNatClampNeg) - (Int32.ofInt (1)))) := ⟨_, rfl⟩
            rw [← eE] at t12
            have eN : ((xI h1 133 ((((Int32.ofInt (6)) * (Int32.ofInt (0))) + kk)).toNatClampNeg) - (Int32.ofInt (1))) = zSt (Y k) (zVs Z Y k) := by
              unfold zSt
              rw [eS]
              repeat (first | rw [if_pos (by omega)] | rw [if_neg (by omega)])
              all_goals (exfalso; omega)
            have eE2 : hE = xsetI h1 133 (0 + k) (zSt (Y k) (zVs Z Y k)) := by rw [eE, eN]; simp only [na]
            have bz := zSt_b (v := zVs Z Y k) bs
            have GE : mW (fun c k : Nat => (c = 133 ∧ 0 ≤ k ∧ k < 6)) h hE := by rw [eE2]; exact G.set (show (133 = 133 ∧ 0 ≤ (0 + k) ∧ (0 + k) < 6) from by omega) (by rw [show (0 + k) = k from by omega, vS133_s k (by omega)]; exact ⟨by show (0 : Int) ≤ _; omega, by show _ ≤ (9 : Int); omega⟩)
            obtain ⟨k3, y3, h9, tq9, G9, I9⟩ := jk_go20 l Z Y h hg A jk jw jh V k9 m (k + 1) (kk + Int32.ofInt (1)) (x3) hE GE (by omega) (by omega) (fun r hr => by rw [eE2]; exact if e : r = k then (by rw [e, yI_same]) else (by rw [yI_ne (eq_false (fun z => by have := z.2; omega))]; exact I1 r (by omega))) (fun r q1 q2 => by rw [eE2, yI_ne (eq_false (fun z => by have := z.2; omega))]; exact I2 r (by omega) q2)
            exact ⟨k3, y3, h9, t12.tr tq9, G9, I9⟩
      · have e_0 : (Int32.ofInt (0)).toInt = 0 := rfl
        have e_6 : (Int32.ofInt (6)).toInt = 6 := rfl
        have e_9 : (Int32.ofInt (9)).toInt = 9 := rfl
        have cb7r := cb7
        rw [vref hg1.1 (rfl : vRf 104 55 = [133])] at cb7r
        have dcb7 : (xI h1 133 ((((Int32.ofInt (6)) * (Int32.ofInt (0))) + kk)).toNatClampNeg).toInt < (Int32.ofInt (9)).toInt := Int32.lt_iff_toInt_lt.mp (Int32.not_le.mp cb7r)
        have t13 : XT l 9 242 false 244 153 6051 30 [xf 13 104, xi (Int32.ofInt (0)), xi kk, x3] [] h1 30 [xf 13 104, xi (Int32.ofInt (0)), xi (kk + Int32.ofInt (1)), x3] [] (xsetI h1 (xR h1 104 55) ((((Int32.ofInt (6)) * (Int32.ofInt (0))) + kk)).toNatClampNeg ((xI h1 (xR h1 104 55) ((((Int32.ofInt (6)) * (Int32.ofInt (0))) + kk)).toNatClampNeg) + (Int32.ofInt (1)))) := XT_path (l := l) (fr := 9) (lo := 242) (full := false) (M := 244) (n := 153) (u := 6051) (pc := 30) (L := [xf 13 104, xi (Int32.ofInt (0)), xi kk, x3]) (st := []) (h := h1) (inl := [245]) (n' := 120) (sp := [30]) (o := [0, 0, 0]) rfl rfl ⟨rfl, rfl, rfl⟩ rfl ⟨Nat.le_of_eq hg1.2.2.2.1, Nat.le_of_eq hg1.2.2.2.2⟩ ⟨⟨⟨⟨⟨⟨⟨⟨⟨trivial, (show ¬ (xI h1 104 12) ≤ kk from fun z => absurd (Int32.le_iff_toInt_le.mp z) (by omega))⟩, (vnn hg1.1 (rfl : vRf 104 55 = [133]) (by decide))⟩, (vnn hg1.1 (rfl : vRf 104 55 = [133]) (by decide))⟩, (vp_of (i := (((Int32.ofInt (6)) * (Int32.ofInt (0))) + kk)) (n := 12) (by omega) (by omega))⟩, (vnn hg1.1 (rfl : vRf 104 61 = [139]) (by decide))⟩, (vp_of (i := kk) (n := 6) (by omega) (by omega))⟩, cb1⟩, cb7⟩, (vp_of (i := (((Int32.ofInt (6)) * (Int32.ofInt (0))) + kk)) (n := 12) (by omega) (by omega))⟩
        rw [vref hg1.1 (rfl : vRf 104 55 = [133])] at t13
        obtain ⟨hE, eE⟩ : ∃ x, x = (xsetI h1 133 ((((Int32.ofInt (6)) * (Int32.ofInt (0))) + kk)).toNatClampNeg ((xI h1 133 ((((Int32.ofInt (6)) * (Int32.ofInt (0))) + kk)).toNatClampNeg) + (Int32.ofInt (1)))) := ⟨_, rfl⟩
        rw [← eE] at t13
        have eN : ((xI h1 133 ((((Int32.ofInt (6)) * (Int32.ofInt (0))) + kk)).toNatClampNeg) + (Int32.ofInt (1))) = zSt (Y k) (zVs Z Y k) := by
          unfold zSt
          rw [eS]
          repeat (first | rw [if_pos (by omega)] | rw [if_neg (by omega)])
          all_goals (exfalso; omega)
        have eE2 : hE = xsetI h1 133 (0 + k) (zSt (Y k) (zVs Z Y k)) := by rw [eE, eN]; simp only [na]
        have bz := zSt_b (v := zVs Z Y k) bs
        have GE : mW (fun c k : Nat => (c = 133 ∧ 0 ≤ k ∧ k < 6)) h hE := by rw [eE2]; exact G.set (show (133 = 133 ∧ 0 ≤ (0 + k) ∧ (0 + k) < 6) from by omega) (by rw [show (0 + k) = k from by omega, vS133_s k (by omega)]; exact ⟨by show (0 : Int) ≤ _; omega, by show _ ≤ (9 : Int); omega⟩)
        obtain ⟨k3, y3, h9, tq9, G9, I9⟩ := jk_go20 l Z Y h hg A jk jw jh V k9 m (k + 1) (kk + Int32.ofInt (1)) (x3) hE GE (by omega) (by omega) (fun r hr => by rw [eE2]; exact if e : r = k then (by rw [e, yI_same]) else (by rw [yI_ne (eq_false (fun z => by have := z.2; omega))]; exact I1 r (by omega))) (fun r q1 q2 => by rw [eE2, yI_ne (eq_false (fun z => by have := z.2; omega))]; exact I2 r (by omega) q2)
        exact ⟨k3, y3, h9, t13.tr tq9, G9, I9⟩
set_option maxRecDepth 100000 in
set_option maxHeartbeats 4000000 in
theorem jk_go30 (l : Launch) (Z : Nat → Int) (Y : Nat → Int32) (h : XH) (hg : mI h) (A : zAll Z) (jk : jK Z h) (jw : jHf 0 Z Y h) (jh : jHow Y h) (V : zVd Z Y)  : ∀ (m k : Nat) (kk : Int32) (x3 : XV) (h1 : XH), mW (fun c k : Nat => ((c = 104 ∧ k = 54) ∨ (c = 134 ∧ 0 ≤ k ∧ k < 6))) h h1 → kk.toInt = k → (k : Int) + m = Z 0 → (∀ r : Nat, r < k → xI h1 134 (0 + r) = zRp Z Y (10 + r)) → (∀ r : Nat, k ≤ r → (r : Int) < Z 0 → xI h1 134 (0 + r) = Y (10 + r)) → ∃ k2 y3 h2, XT l 9 242 false 244 153 6051 77 [xf 13 104, xi (Int32.ofInt (0)), xi kk, x3] [] h1 113 [xf 13 104, xi (Int32.ofInt (0)), xi k2, y3] [] h2 ∧ mW (fun c k : Nat => ((c = 104 ∧ k = 54) ∨ (c = 134 ∧ 0 ≤ k ∧ k < 6))) h h2 ∧ (∀ r : Nat, (r : Int) < Z 0 → xI h2 134 (0 + r) = zRp Z Y (10 + r))
  | 0, k, kk, x3, h1, G, hk, hm, I1, I2 => by
    obtain ⟨⟨⟨B00, B01⟩, ⟨B10, B11⟩, ⟨B20, B21⟩, B30, B31⟩, g6, zj, zv, LW⟩ := id A
    have hg1 := G.1
    have jk1 : jK Z h1 := jk.w hg.1 G (fun c k z => by have z : ((c = 104 ∧ k = 54) ∨ (c = 134 ∧ 0 ≤ k ∧ k < 6)) := z; omega)
    have ej : (xI h1 104 12).toInt = Z 0 := jk1.1 0 (by decide)
    have t1 : XT l 9 242 false 244 153 6051 77 [xf 13 104, xi (Int32.ofInt (0)), xi kk, x3] [] h1 113 [xf 13 104, xi (Int32.ofInt (0)), xi kk, x3] [] h1 := XT_path (l := l) (fr := 9) (lo := 242) (full := false) (M := 244) (n := 153) (u := 6051) (pc := 77) (L := [xf 13 104, xi (Int32.ofInt (0)), xi kk, x3]) (st := []) (h := h1) (inl := [245]) (n' := 120) (sp := [113]) (o := [1]) rfl rfl ⟨rfl, rfl, rfl⟩ rfl ⟨Nat.le_of_eq hg1.2.2.2.1, Nat.le_of_eq hg1.2.2.2.2⟩ ⟨trivial, (show (xI h1 104 12) ≤ kk from Int32.le_iff_toInt_le.mpr (by omega))⟩
    obtain rfl : k = (Z 0).toNat := by omega
    exact ⟨kk, x3, h1, t1, G, fun r hr => I1 r (by omega)⟩
  | m + 1, k, kk, x3, h1, G, hk, hm, I1, I2 => by
    obtain ⟨⟨⟨B00, B01⟩, ⟨B10, B11⟩, ⟨B20, B21⟩, B30, B31⟩, g6, zj, zv, LW⟩ := id A
    have hg1 := G.1
    have jk1 : jK Z h1 := jk.w hg.1 G (fun c k z => by have z : ((c = 104 ∧ k = 54) ∨ (c = 134 ∧ 0 ≤ k ∧ k < 6)) := z; omega)
    have ej : (xI h1 104 12).toInt = Z 0 := jk1.1 0 (by decide)
    have lk : (k : Int) < Z 0 := by omega
    have nk : kk.toNatClampNeg = k := zi_ix hk
    have sk := y_suc1 (k := kk) (by omega) (by omega)
    have ea0 : ((Int32.ofInt (6)) * (Int32.ofInt (0))).toInt = 0 := rfl
    have ea : (((Int32.ofInt (6)) * (Int32.ofInt (0))) + kk).toInt = 0 + k := by rw [y_addb (by rw [ea0]; decide) (by omega), ea0]; omega
    have na : (((Int32.ofInt (6)) * (Int32.ofInt (0))) + kk).toNatClampNeg = 6 * 0 + k := zi_ix (by rw [ea]; omega)
    have t1 : XT l 9 242 false 244 153 6051 77 [xf 13 104, xi (Int32.ofInt (0)), xi kk, x3] [] h1 88 [xf 13 104, xi (Int32.ofInt (0)), xi kk, x3] [xi kk, xi (Int32.ofInt (0)), xf 13 104] h1 := XT_path (l := l) (fr := 9) (lo := 242) (full := false) (M := 244) (n := 153) (u := 6051) (pc := 77) (L := [xf 13 104, xi (Int32.ofInt (0)), xi kk, x3]) (st := []) (h := h1) (inl := [245]) (n' := 120) (sp := [88]) (o := [0]) rfl rfl ⟨rfl, rfl, rfl⟩ rfl ⟨Nat.le_of_eq hg1.2.2.2.1, Nat.le_of_eq hg1.2.2.2.2⟩ ⟨trivial, (show ¬ (xI h1 104 12) ≤ kk from fun z => absurd (Int32.le_iff_toInt_le.mp z) (by omega))⟩
    obtain ⟨v, h2, c1, g1, ev⟩ := jk_yield0 l Z Y kk k h1 hg1 A jk1 (jw.w G (fun c k z => by have z : ((c = 104 ∧ k = 54) ∨ (c = 134 ∧ 0 ≤ k ∧ k < 6)) := z; omega)) (jh.w G (fun c k z => by have z : ((c = 104 ∧ k = 54) ∨ (c = 134 ∧ 0 ≤ k ∧ k < 6)) := z; omega)) V hk lk
    have ev2 := i32_e ev
    have t2 : XT l 9 242 false 244 153 6051 88 [xf 13 104, xi (Int32.ofInt (0)), xi kk, x3] [xi kk, xi (Int32.ofInt (0)), xf 13 104] h1 91 [xf 13 104, xi (Int32.ofInt (0)), xi kk, x3] [xi v] h2 := XT_call (l := l) (fr := 9) (lo := 242) (full := false) (M := 244) (n := 153) (u := 6051) (pc := 88) (L := [xf 13 104, xi (Int32.ofInt (0)), xi kk, x3]) (st := [xi kk, xi (Int32.ofInt (0)), xf 13 104]) (h := h1) (i := .invokevirtual 234) (aux := 3) (nx := 91) (K := 234) (vs := [xf 13 104, xi (Int32.ofInt (0)), xi kk]) (rs := [xi v]) (rest := []) rfl rfl rfl rfl rfl rfl c1 (by decide) (by decide) (Nat.le_of_ble_eq_true rfl) ⟨Nat.le_of_eq g1.1.2.2.2.1, Nat.le_of_eq g1.1.2.2.2.2⟩
    have t3 := t1.tr t2
    have t4 : XT l 9 242 false 244 153 6051 91 [xf 13 104, xi (Int32.ofInt (0)), xi kk, x3] [xi v] h2 77 [xf 13 104, xi (Int32.ofInt (0)), xi (kk + Int32.ofInt (1)), xi v] [] (xsetI h2 (xR h2 104 56) ((((Int32.ofInt (6)) * (Int32.ofInt (0))) + kk)).toNatClampNeg ((xI h2 (xR h2 104 56) ((((Int32.ofInt (6)) * (Int32.ofInt (0))) + kk)).toNatClampNeg) + v)) := XT_path (l := l) (fr := 9) (lo := 242) (full := false) (M := 244) (n := 153) (u := 6051) (pc := 91) (L := [xf 13 104, xi (Int32.ofInt (0)), xi kk, x3]) (st := [xi v]) (h := h2) (inl := [245]) (n' := 120) (sp := [77]) (o := []) rfl rfl ⟨rfl, rfl, rfl⟩ rfl ⟨Nat.le_of_eq g1.1.2.2.2.1, Nat.le_of_eq g1.1.2.2.2.2⟩ ⟨⟨⟨trivial, (vnn g1.1.1 (rfl : vRf 104 56 = [134]) (by decide))⟩, (vp_of (i := (((Int32.ofInt (6)) * (Int32.ofInt (0))) + kk)) (n := 12) (by omega) (by omega))⟩, (vp_of (i := (((Int32.ofInt (6)) * (Int32.ofInt (0))) + kk)) (n := 12) (by omega) (by omega))⟩
    rw [vref g1.1.1 (rfl : vRf 104 56 = [134])] at t4
    have t5 := t3.tr t4
    obtain ⟨hE, eE⟩ : ∃ x, x = (xsetI h2 134 ((((Int32.ofInt (6)) * (Int32.ofInt (0))) + kk)).toNatClampNeg ((xI h2 134 ((((Int32.ofInt (6)) * (Int32.ofInt (0))) + kk)).toNatClampNeg) + v)) := ⟨_, rfl⟩
    rw [← eE] at t5
    have eE2 : hE = xsetI h2 134 (0 + k) (xI h1 134 (0 + k) + v) := by rw [eE]; simp only [na]; rw [g1.2.1 134 _ (by omega)]
    have GE : mW (fun c k : Nat => ((c = 104 ∧ k = 54) ∨ (c = 134 ∧ 0 ≤ k ∧ k < 6))) h hE := by rw [eE2]; exact (G.tr (g1.w (show ((104 = 104 ∧ 54 = 54) ∨ (104 = 134 ∧ 0 ≤ 54 ∧ 54 < 6)) from by omega))).set (show ((134 = 104 ∧ (0 + k) = 54) ∨ (134 = 134 ∧ 0 ≤ (0 + k) ∧ (0 + k) < 6)) from by omega) (by rw [vI_u rfl (rfl : vRow 134 = sfull)]; exact i32r_of _)
    obtain ⟨k3, y3, h9, tq9, G9, I9⟩ := jk_go30 l Z Y h hg A jk jw jh V  m (k + 1) (kk + Int32.ofInt (1)) (xi v) hE GE (by omega) (by omega) (fun r hr => by rw [eE2]; exact if e : r = k then (by rw [e, yI_same, zRp_y lk, I2 k (Nat.le_refl _) lk, ev2]) else (by rw [yI_ne (eq_false (fun z => by have := z.2; omega)), g1.2.1 134 _ (by omega)]; exact I1 r (by omega))) (fun r q1 q2 => by rw [eE2, yI_ne (eq_false (fun z => by have := z.2; omega)), g1.2.1 134 _ (by omega)]; exact I2 r (by omega) q2)
    exact ⟨k3, y3, h9, t5.tr tq9, G9, I9⟩
set_option maxRecDepth 100000 in
set_option maxHeartbeats 4000000 in
theorem jk_go40 (l : Launch) (Z : Nat → Int) (Y : Nat → Int32) (h : XH) (hg : mI h) (A : zAll Z) (jk : jK Z h) (jw : jHf 0 Z Y h) (jh : jHow Y h) (V : zVd Z Y) : ∀ (m k : Nat) (kk : Int32) (x3 : XV) (h1 : XH), mW (fun c k : Nat => ((c = 136 ∨ c = 137) ∧ 0 ≤ k ∧ k < 8)) h h1 → kk.toInt = k → (k : Int) + m = Z 2 → (∀ r : Nat, r < k → xI h1 137 (0 + r) = zRp Z Y (40 + r)) → (∀ r : Nat, k ≤ r → (r : Int) < Z 2 → xI h1 137 (0 + r) = Y (40 + r)) → (∀ r : Nat, r < k → xI h1 136 (0 + r) = (Int32.ofInt (-2))) → ∃ k2 y3 h2, XT l 9 242 false 244 153 6051 115 [xf 13 104, xi (Int32.ofInt (0)), xi kk, x3] [] h1 191 [xf 13 104, xi (Int32.ofInt (0)), xi k2, y3] [] h2 ∧ mW (fun c k : Nat => ((c = 136 ∨ c = 137) ∧ 0 ≤ k ∧ k < 8)) h h2 ∧ (∀ r : Nat, (r : Int) < Z 2 → xI h2 137 (0 + r) = zRp Z Y (40 + r)) ∧ (∀ r : Nat, (r : Int) < Z 2 → xI h2 136 (0 + r) = (Int32.ofInt (-2)))
  | 0, k, kk, x3, h1, G, hk, hm, I1, I2, I3 => by
    obtain ⟨⟨⟨B00, B01⟩, ⟨B10, B11⟩, ⟨B20, B21⟩, B30, B31⟩, g6, zj, zv, LW⟩ := id A
    have hg1 := G.1
    have jk1 : jK Z h1 := jk.w hg.1 G (fun c k z => by have z : ((c = 136 ∨ c = 137) ∧ 0 ≤ k ∧ k < 8) := z; omega)
    have ej : (xI h1 104 14).toInt = Z 2 := jk1.1 2 (by decide)
    have t1 : XT l 9 242 false 244 153 6051 115 [xf 13 104, xi (Int32.ofInt (0)), xi kk, x3] [] h1 191 [xf 13 104, xi (Int32.ofInt (0)), xi kk, x3] [] h1 := XT_path (l := l) (fr := 9) (lo := 242) (full := false) (M := 244) (n := 153) (u := 6051) (pc := 115) (L := [xf 13 104, xi (Int32.ofInt (0)), xi kk, x3]) (st := []) (h := h1) (inl := []) (n' := 160) (sp := [191]) (o := [1]) rfl rfl ⟨rfl, rfl, rfl⟩ rfl ⟨Nat.le_of_eq hg1.2.2.2.1, Nat.le_of_eq hg1.2.2.2.2⟩ ⟨trivial, (show (xI h1 104 14) ≤ kk from Int32.le_iff_toInt_le.mpr (by omega))⟩
    obtain rfl : k = (Z 2).toNat := by omega
    exact ⟨kk, x3, h1, t1, G, fun r hr => I1 r (by omega), fun r hr => I3 r (by omega)⟩
  | m + 1, k, kk, x3, h1, G, hk, hm, I1, I2, I3 => by
    obtain ⟨⟨⟨B00, B01⟩, ⟨B10, B11⟩, ⟨B20, B21⟩, B30, B31⟩, g6, zj, zv, LW⟩ := id A
    have hg1 := G.1
    have jk1 : jK Z h1 := jk.w hg.1 G (fun c k z => by have z : ((c = 136 ∨ c = 137) ∧ 0 ≤ k ∧ k < 8) := z; omega)
    have ej : (xI h1 104 14).toInt = Z 2 := jk1.1 2 (by decide)
    have lk : (k : Int) < Z 2 := by omega
    have nk : kk.toNatClampNeg = k := zi_ix hk
    have sk := y_suc1 (k := kk) (by omega) (by omega)
    have ea0 : ((Int32.ofInt (8)) * (Int32.ofInt (0))).toInt = 0 := rfl
    have ea : (((Int32.ofInt (8)) * (Int32.ofInt (0))) + kk).toInt = 0 + k := by rw [y_addb (by rw [ea0]; decide) (by omega), ea0]; omega
    have na : (((Int32.ofInt (8)) * (Int32.ofInt (0))) + kk).toNatClampNeg = 8 * 0 + k := zi_ix (by rw [ea]; omega)
    have eh : (xI h1 135 (((Int32.ofInt (8)) * (Int32.ofInt (0))) + kk).toNatClampNeg).toInt = (Y (20 + k)).toInt := by rw [na, G.k (c := 135) (fun z => by have z : ((135 = 136 ∨ 135 = 137) ∧ 0 ≤ (0 + k) ∧ (0 + k) < 8) := z; omega)]; exact congrArg Int32.toInt (jw.2.1 k lk).1
    have bh := V.2.1 k lk
    obtain ⟨H, hH⟩ : ∃ H : Nat, H = (Y (20 + k)).toInt.toNat := ⟨_, rfl⟩
    have eH : (xI h1 135 (((Int32.ofInt (8)) * (Int32.ofInt (0))) + kk).toNatClampNeg).toInt = H := by omega
    have eb0 : ((Int32.ofInt (6)) * (Int32.ofInt (0))).toInt = 0 := rfl
    have eb : (((Int32.ofInt (6)) * (Int32.ofInt (0))) + xI h1 135 (((Int32.ofInt (8)) * (Int32.ofInt (0))) + kk).toNatClampNeg).toInt = 0 + H := by rw [y_addb (by rw [eb0]; decide) (by omega), eb0]; omega
    have nb : (((Int32.ofInt (6)) * (Int32.ofInt (0))) + xI h1 135 (((Int32.ofInt (8)) * (Int32.ofInt (0))) + kk).toNatClampNeg).toNatClampNeg = 6 * 0 + H := zi_ix (by rw [eb]; omega)
    have es : (xI h1 133 (((Int32.ofInt (6)) * (Int32.ofInt (0))) + xI h1 135 (((Int32.ofInt (8)) * (Int32.ofInt (0))) + kk).toNatClampNeg).toNatClampNeg).toInt = (Y H).toInt := by rw [nb, G.k (c := 133) (fun z => by have z : ((133 = 136 ∨ 133 = 137) ∧ 0 ≤ (0 + H) ∧ (0 + H) < 8) := z; omega)]; exact congrArg Int32.toInt (jw.1 H (by omega))
    have ez : (xI h1 118 kk.toNatClampNeg).toInt = Z (190 + k) := by rw [nk]; exact jk1.2.2.1 9 k (by decide) lk
    by_cases cb1 : (xI h1 (xR h1 104 33) (kk).toNatClampNeg) ≤ (xI h1 (xR h1 104 55) ((((Int32.ofInt (6)) * (Int32.ofInt (0))) + (xI h1 (xR h1 104 57) ((((Int32.ofInt (8)) * (Int32.ofInt (0))) + kk)).toNatClampNeg))).toNatClampNeg)
    · have e_0 : (Int32.ofInt (0)).toInt = 0 := rfl
      have e_6 : (Int32.ofInt (6)).toInt = 6 := rfl
      have e_8 : (Int32.ofInt (8)).toInt = 8 := rfl
      have cb1r := cb1
      rw [vref hg1.1 (rfl : vRf 104 33 = [118]), vref hg1.1 (rfl : vRf 104 55 = [133]), vref hg1.1 (rfl : vRf 104 57 = [135])] at cb1r
      have dcb1 : (xI h1 118 (kk).toNatClampNeg).toInt ≤ (xI h1 133 ((((Int32.ofInt (6)) * (Int32.ofInt (0))) + (xI h1 135 ((((Int32.ofInt (8)) * (Int32.ofInt (0))) + kk)).toNatClampNeg))).toNatClampNeg).toInt := Int32.le_iff_toInt_le.mp cb1r
      have t2 : XT l 9 242 false 244 153 6051 115 [xf 13 104, xi (Int32.ofInt (0)), xi kk, x3] [] h1 115 [xf 13 104, xi (Int32.ofInt (0)), xi (kk + Int32.ofInt (1)), x3] [] (xsetI (xsetI h1 (xR h1 104 59) ((((Int32.ofInt (8)) * (Int32.ofInt (0))) + kk)).toNatClampNeg ((xI h1 (xR h1 104 59) ((((Int32.ofInt (8)) * (Int32.ofInt (0))) + kk)).toNatClampNeg) + (Int32.ofInt (0)))) (xR h1 104 58) ((((Int32.ofInt (8)) * (Int32.ofInt (0))) + kk)).toNatClampNeg (Int32.ofInt (-2))) := XT_path (l := l) (fr := 9) (lo := 242) (full := false) (M := 244) (n := 153) (u := 6051) (pc := 115) (L := [xf 13 104, xi (Int32.ofInt (0)), xi kk, x3]) (st := []) (h := h1) (inl := []) (n' := 160) (sp := [115]) (o := [0, 1]) rfl rfl ⟨rfl, rfl, rfl⟩ rfl ⟨Nat.le_of_eq hg1.2.2.2.1, Nat.le_of_eq hg1.2.2.2.2⟩ ⟨⟨⟨⟨⟨⟨⟨⟨⟨⟨⟨⟨⟨trivial, (show ¬ (xI h1 104 14) ≤ kk from fun z => absurd (Int32.le_iff_toInt_le.mp z) (by omega))⟩, (vnn hg1.1 (rfl : vRf 104 59 = [137]) (by decide))⟩, (vp_of (i := (((Int32.ofInt (8)) * (Int32.ofInt (0))) + kk)) (n := 16) (by omega) (by omega))⟩, (vnn hg1.1 (rfl : vRf 104 33 = [118]) (by decide))⟩, (vp_of (i := kk) (n := 16) (by omega) (by omega))⟩, (vnn hg1.1 (rfl : vRf 104 55 = [133]) (by decide))⟩, (vnn hg1.1 (rfl : vRf 104 57 = [135]) (by decide))⟩, (vp_of (i := (((Int32.ofInt (8)) * (Int32.ofInt (0))) + kk)) (n := 16) (by omega) (by omega))⟩, (show vp_in ((((Int32.ofInt (6)) * (Int32.ofInt (0))) + (xI h1 (xR h1 104 57) ((((Int32.ofInt (8)) * (Int32.ofInt (0))) + kk)).toNatClampNeg))) (12) from (by rw [vref hg1.1 (rfl : vRf 104 57 = [135])]; exact (vp_of (i := (((Int32.ofInt (6)) * (Int32.ofInt (0))) + (xI h1 135 ((((Int32.ofInt (8)) * (Int32.ofInt (0))) + kk)).toNatClampNeg))) (n := 12) (by omega) (by omega) : vp_in ((((Int32.ofInt (6)) * (Int32.ofInt (0))) + (xI h1 135 ((((Int32.ofInt (8)) * (Int32.ofInt (0))) + kk)).toNatClampNeg))) (12))))⟩, cb1⟩, (vp_of (i := (((Int32.ofInt (8)) * (Int32.ofInt (0))) + kk)) (n := 16) (by omega) (by omega))⟩, (vnn hg1.1 (rfl : vRf 104 58 = [136]) (by decide))⟩, (vp_of (i := (((Int32.ofInt (8)) * (Int32.ofInt (0))) + kk)) (n := 16) (by omega) (by omega))⟩
      rw [vref hg1.1 (rfl : vRf 104 59 = [137]), vref hg1.1 (rfl : vRf 104 58 = [136])] at t2
      obtain ⟨hE, eE⟩ : ∃ x, x = (xsetI (xsetI h1 137 ((((Int32.ofInt (8)) * (Int32.ofInt (0))) + kk)).toNatClampNeg ((xI h1 137 ((((Int32.ofInt (8)) * (Int32.ofInt (0))) + kk)).toNatClampNeg) + (Int32.ofInt (0)))) 136 ((((Int32.ofInt (8)) * (Int32.ofInt (0))) + kk)).toNatClampNeg (Int32.ofInt (-2))) := ⟨_, rfl⟩
      rw [← eE] at t2
      have eE2 : hE = xsetI (xsetI h1 137 (0 + k) (xI h1 137 (0 + k) + (Int32.ofInt (0)))) 136 (0 + k) (Int32.ofInt (-2)) := by rw [eE]; simp only [na]
      have GE : mW (fun c k : Nat => ((c = 136 ∨ c = 137) ∧ 0 ≤ k ∧ k < 8)) h hE := by rw [eE2]; exact (G.set (show ((137 = 136 ∨ 137 = 137) ∧ 0 ≤ (0 + k) ∧ (0 + k) < 8) from by omega) (by rw [vI_u rfl (rfl : vRow 137 = sfull)]; exact i32r_of _)).set (show ((136 = 136 ∨ 136 = 137) ∧ 0 ≤ (0 + k) ∧ (0 + k) < 8) from by omega) (by rw [vI_u rfl (rfl : vRow 136 = (-2, 1))]; exact (by decide))
      have eK : xI hE 137 (0 + k) = zRp Z Y (40 + k) := by rw [eE2, yI_c (by decide), yI_same, zRp_b B01 lk, ← hH, if_neg (by omega), I2 k (Nat.le_refl _) lk]; exact Int32.add_zero _
      have eO : ∀ r : Nat, ¬ r = k → xI hE 137 (0 + r) = xI h1 137 (0 + r) := fun r hr => by rw [eE2, yI_c (by decide)]; exact yI_ne (eq_false (fun z => by have := z.2; omega))
      obtain ⟨k3, y3, h9, tq9, G9, I9, I10⟩ := jk_go40 l Z Y h hg A jk jw jh V m (k + 1) (kk + Int32.ofInt (1)) (x3) hE GE (by omega) (by omega) (fun r hr => if e : r = k then (by rw [e]; exact eK) else (by rw [eO r e]; exact I1 r (by omega))) (fun r q1 q2 => by rw [eO r (by omega)]; exact I2 r (by omega) q2) (fun r hr => by rw [eE2]; exact if e : r = k then (by rw [e]; exact yI_same) else (by rw [yI_ne (eq_false (fun z => by have := z.2; omega)), yI_c (by decide)]; exact I3 r (by omega)))
      exact ⟨k3, y3, h9, t2.tr tq9, G9, I9, I10⟩
    · have e_0 : (Int32.ofInt (0)).toInt = 0 := rfl
      have e_6 : (Int32.ofInt (6)).toInt = 6 := rfl
      have e_8 : (Int32.ofInt (8)).toInt = 8 := rfl
      have cb1r := cb1
      rw [vref hg1.1 (rfl : vRf 104 33 = [118]), vref hg1.1 (rfl : vRf 104 55 = [133]), vref hg1.1 (rfl : vRf 104 57 = [135])] at cb1r
      have dcb1 : (xI h1 133 ((((Int32.ofInt (6)) * (Int32.ofInt (0))) + (xI h1 135 ((((Int32.ofInt (8)) * (Int32.ofInt (0))) + kk)).toNatClampNeg))).toNatClampNeg).toInt < (xI h1 118 (kk).toNatClampNeg).toInt := Int32.lt_iff_toInt_lt.mp (Int32.not_le.mp cb1r)
      have t3 : XT l 9 242 false 244 153 6051 115 [xf 13 104, xi (Int32.ofInt (0)), xi kk, x3] [] h1 115 [xf 13 104, xi (Int32.ofInt (0)), xi (kk + Int32.ofInt (1)), x3] [] (xsetI (xsetI h1 (xR h1 104 59) ((((Int32.ofInt (8)) * (Int32.ofInt (0))) + kk)).toNatClampNeg ((xI h1 (xR h1 104 59) ((((Int32.ofInt (8)) * (Int32.ofInt (0))) + kk)).toNatClampNeg) + (Int32.ofInt (1)))) (xR h1 104 58) ((((Int32.ofInt (8)) * (Int32.ofInt (0))) + kk)).toNatClampNeg (Int32.ofInt (-2))) := XT_path (l := l) (fr := 9) (lo := 242) (full := false) (M := 244) (n := 153) (u := 6051) (pc := 115) (L := [xf 13 104, xi (Int32.ofInt (0)), xi kk, x3]) (st := []) (h := h1) (inl := []) (n' := 160) (sp := [115]) (o := [0, 0]) rfl rfl ⟨rfl, rfl, rfl⟩ rfl ⟨Nat.le_of_eq hg1.2.2.2.1, Nat.le_of_eq hg1.2.2.2.2⟩ ⟨⟨⟨⟨⟨⟨⟨⟨⟨⟨⟨⟨⟨trivial, (show ¬ (xI h1 104 14) ≤ kk from fun z => absurd (Int32.le_iff_toInt_le.mp z) (by omega))⟩, (vnn hg1.1 (rfl : vRf 104 59 = [137]) (by decide))⟩, (vp_of (i := (((Int32.ofInt (8)) * (Int32.ofInt (0))) + kk)) (n := 16) (by omega) (by omega))⟩, (vnn hg1.1 (rfl : vRf 104 33 = [118]) (by decide))⟩, (vp_of (i := kk) (n := 16) (by omega) (by omega))⟩, (vnn hg1.1 (rfl : vRf 104 55 = [133]) (by decide))⟩, (vnn hg1.1 (rfl : vRf 104 57 = [135]) (by decide))⟩, (vp_of (i := (((Int32.ofInt (8)) * (Int32.ofInt (0))) + kk)) (n := 16) (by omega) (by omega))⟩, (show vp_in ((((Int32.ofInt (6)) * (Int32.ofInt (0))) + (xI h1 (xR h1 104 57) ((((Int32.ofInt (8)) * (Int32.ofInt (0))) + kk)).toNatClampNeg))) (12) from (by rw [vref hg1.1 (rfl : vRf 104 57 = [135])]; exact (vp_of (i := (((Int32.ofInt (6)) * (Int32.ofInt (0))) + (xI h1 135 ((((Int32.ofInt (8)) * (Int32.ofInt (0))) + kk)).toNatClampNeg))) (n := 12) (by omega) (by omega) : vp_in ((((Int32.ofInt (6)) * (Int32.ofInt (0))) + (xI h1 135 ((((Int32.ofInt (8)) * (Int32.ofInt (0))) + kk)).toNatClampNeg))) (12))))⟩, cb1⟩, (vp_of (i := (((Int32.ofInt (8)) * (Int32.ofInt (0))) + kk)) (n := 16) (by omega) (by omega))⟩, (vnn hg1.1 (rfl : vRf 104 58 = [136]) (by decide))⟩, (vp_of (i := (((Int32.ofInt (8)) * (Int32.ofInt (0))) + kk)) (n := 16) (by omega) (by omega))⟩
      rw [vref hg1.1 (rfl : vRf 104 59 = [137]), vref hg1.1 (rfl : vRf 104 58 = [136])] at t3
      obtain ⟨hE, eE⟩ : ∃ x, x = (xsetI (xsetI h1 137 ((((Int32.ofInt (8)) * (Int32.ofInt (0))) + kk)).toNatClampNeg ((xI h1 137 ((((Int32.ofInt (8)) * (Int32.ofInt (0))) + kk)).toNatClampNeg) + (Int32.ofInt (1)))) 136 ((((Int32.ofInt (8)) * (Int32.ofInt (0))) + kk)).toNatClampNeg (Int32.ofInt (-2))) := ⟨_, rfl⟩
      rw [← eE] at t3
      have eE2 : hE = xsetI (xsetI h1 137 (0 + k) (xI h1 137 (0 + k) + (Int32.ofInt (1)))) 136 (0 + k) (Int32.ofInt (-2)) := by rw [eE]; simp only [na]
      have GE : mW (fun c k : Nat => ((c = 136 ∨ c = 137) ∧ 0 ≤ k ∧ k < 8)) h hE := by rw [eE2]; exact (G.set (show ((137 = 136 ∨ 137 = 137) ∧ 0 ≤ (0 + k) ∧ (0 + k) < 8) from by omega) (by rw [vI_u rfl (rfl : vRow 137 = sfull)]; exact i32r_of _)).set (show ((136 = 136 ∨ 136 = 137) ∧ 0 ≤ (0 + k) ∧ (0 + k) < 8) from by omega) (by rw [vI_u rfl (rfl : vRow 136 = (-2, 1))]; exact (by decide))
      have eK : xI hE 137 (0 + k) = zRp Z Y (40 + k) := by rw [eE2, yI_c (by decide), yI_same, zRp_b B01 lk, ← hH, if_pos (by omega), I2 k (Nat.le_refl _) lk]
      have eO : ∀ r : Nat, ¬ r = k → xI hE 137 (0 + r) = xI h1 137 (0 + r) := fun r hr => by rw [eE2, yI_c (by decide)]; exact yI_ne (eq_false (fun z => by have := z.2; omega))
      obtain ⟨k3, y3, h9, tq9, G9, I9, I10⟩ := jk_go40 l Z Y h hg A jk jw jh V m (k + 1) (kk + Int32.ofInt (1)) (x3) hE GE (by omega) (by omega) (fun r hr => if e : r = k then (by rw [e]; exact eK) else (by rw [eO r e]; exact I1 r (by omega))) (fun r q1 q2 => by rw [eO r (by omega)]; exact I2 r (by omega) q2) (fun r hr => by rw [eE2]; exact if e : r = k then (by rw [e]; exact yI_same) else (by rw [yI_ne (eq_false (fun z => by have := z.2; omega)), yI_c (by decide)]; exact I3 r (by omega)))
      exact ⟨k3, y3, h9, t3.tr tq9, G9, I9, I10⟩
set_option maxRecDepth 100000 in
set_option maxHeartbeats 4000000 in
theorem jk_goOn0s (l : Launch) (Z : Nat → Int) (Y : Nat → Int32) (h : XH) (hg : mI h) (A : zAll Z) (jk : jK Z h) (jw : jHf 0 Z Y h) (jh : jHow Y h) (V : zVd Z Y) (nm : ¬ (Y 51).toInt = 4) (jy : jY 0 Z Y h) : ∃ h', CX l 9 242 false 244 [xf 13 104, xi (Int32.ofInt (0))] h [] h' ∧ mW (fun c k : Nat => ((c = 104 ∧ k = 54) ∨ c = 139 ∨ ((c = 133 ∨ c = 134) ∧ 0 ≤ k ∧ k < 6) ∨ ((c = 136 ∨ c = 137) ∧ 0 ≤ k ∧ k < 8) ∨ (c = 138 ∧ k = 0))) h h' ∧ jHf 0 Z (zPs Z Y) h' ∧ jY 0 Z (zPs Z Y) h' := by
  obtain ⟨⟨⟨B00, B01⟩, ⟨B10, B11⟩, ⟨B20, B21⟩, B30, B31⟩, g6, zj, zv, LW⟩ := id A
  have V1 := zVd_str A.1 V
  have eb_ : ((Int32.ofInt (0))).toInt = 0 := rfl
  have t1 : XT l 9 242 false 244 153 6051 0 [xf 13 104, xi (Int32.ofInt (0)), xun, xun] [] h 2 [xf 13 104, xi (Int32.ofInt (0)), xi (Int32.ofInt (0)), xun] [] h := XT_path (l := l) (fr := 9) (lo := 242) (full := false) (M := 244) (n := 153) (u := 6051) (pc := 0) (L := [xf 13 104, xi (Int32.ofInt (0)), xun, xun]) (st := []) (h := h) (inl := []) (n' := 80) (sp := [2]) (o := []) rfl rfl ⟨rfl, rfl, rfl⟩ rfl ⟨Nat.le_of_eq hg.2.2.2.1, Nat.le_of_eq hg.2.2.2.2⟩ trivial
  obtain ⟨k_h2, y_h2, h2, t_h2, G2, I2⟩ := jk_go10 l Z Y h hg A jk jw jh V nm (Z 0).toNat 0 (Int32.ofInt (0)) (xun) h (mW.rf hg) rfl (by omega) (fun r hr => absurd hr (Nat.not_lt_zero r))
  have T_h2 := t1.tr t_h2
  have t2 : XT l 9 242 false 244 153 6051 28 [xf 13 104, xi (Int32.ofInt (0)), xi k_h2, y_h2] [] h2 30 [xf 13 104, xi (Int32.ofInt (0)), xi (Int32.ofInt (0)), y_h2] [] h2 := XT_path (l := l) (fr := 9) (lo := 242) (full := false) (M := 244) (n := 153) (u := 6051) (pc := 28) (L := [xf 13 104, xi (Int32.ofInt (0)), xi k_h2, y_h2]) (st := []) (h := h2) (inl := []) (n' := 80) (sp := [30]) (o := []) rfl rfl ⟨rfl, rfl, rfl⟩ rfl ⟨Nat.le_of_eq G2.1.2.2.2.1, Nat.le_of_eq G2.1.2.2.2.2⟩ trivial
  have t3 := T_h2.tr t2
  have jk2 := jk.w hg.1 G2 (fun c k z => by have z : ((c = 104 ∧ k = 54) ∨ c = 139) := z; omega)
  have jw2 := jw.w G2 (fun c k z => by have z : ((c = 104 ∧ k = 54) ∨ c = 139) := z; omega)
  have jh2 := jh.w G2 (fun c k z => by have z : ((c = 104 ∧ k = 54) ∨ c = 139) := z; omega)
  obtain ⟨k_h3, y_h3, h3, t_h3, G3, I3⟩ := jk_go20 l Z Y h2 G2.1 A jk2 jw2 jh2 V I2 (Z 0).toNat 0 (Int32.ofInt (0)) (y_h2) h2 (mW.rf G2.1) rfl (by omega) (fun r hr => absurd hr (Nat.not_lt_zero r)) (fun r _ hr => by have z := jw2.1 r hr; exact z)
  have T_h3 := t3.tr t_h3
  have t4 : XT l 9 242 false 244 153 6051 75 [xf 13 104, xi (Int32.ofInt (0)), xi k_h3, y_h3] [] h3 77 [xf 13 104, xi (Int32.ofInt (0)), xi (Int32.ofInt (0)), y_h3] [] h3 := XT_path (l := l) (fr := 9) (lo := 242) (full := false) (M := 244) (n := 153) (u := 6051) (pc := 75) (L := [xf 13 104, xi (Int32.ofInt (0)), xi k_h3, y_h3]) (st := []) (h := h3) (inl := []) (n' := 80) (sp := [77]) (o := []) rfl rfl ⟨rfl, rfl, rfl⟩ rfl ⟨Nat.le_of_eq G3.1.2.2.2.1, Nat.le_of_eq G3.1.2.2.2.2⟩ trivial
  have t5 := T_h3.tr t4
  have jk3 := jk2.w G2.1.1 G3 (fun c k z => by have z : (c = 133 ∧ 0 ≤ k ∧ k < 6) := z; omega)
  have jh3 : jHow (zStr Z Y) h3 := (jh2.w G3 (fun c k z => by have z : (c = 133 ∧ 0 ≤ k ∧ k < 6) := z; omega)).sm (if_neg (by omega)) (if_neg (by omega))
  have jw3 : jHf 0 Z (zStr Z Y) h3 := by
    obtain ⟨a1, a2, a3⟩ := jw2
    have f : ∀ i : Nat, 6 ≤ i → zStr Z Y i = Y i := fun i hi => if_neg (by omega)
    refine ⟨fun r hr => ?_, fun p hp => ?_, ?_⟩
    · have z : xI h3 133 (0 + r) = zSt (Y r) (zVs Z Y r) := I3 r hr
      exact z.trans (if_pos hr).symm
    · rw [G3.k (c := 135) (k := 8 * 0 + p) (fun z => by have z : (135 = 133 ∧ 0 ≤ (8 * 0 + p) ∧ (8 * 0 + p) < 6) := z; omega), G3.k (c := 136) (k := 8 * 0 + p) (fun z => by have z : (136 = 133 ∧ 0 ≤ (8 * 0 + p) ∧ (8 * 0 + p) < 6) := z; omega), f _ (by omega), f _ (by omega)]
      exact a2 p hp
    · rw [G3.k (c := 138) (k := 0) (fun z => by have z : (138 = 133 ∧ 0 ≤ 0 ∧ 0 < 6) := z; omega), f _ (by omega)]
      exact a3
  have y3 : ∀ r : Nat, (r : Int) < Z 0 → xI h3 134 (0 + r) = zStr Z Y (10 + r) := fun r hr => by
    rw [G3.k (c := 134) (fun z => by have z : (134 = 133 ∧ 0 ≤ (0 + r) ∧ (0 + r) < 6) := z; omega), G2.k (c := 134) (fun z => by have z : ((134 = 104 ∧ (0 + r) = 54) ∨ 134 = 139) := z; omega), show zStr Z Y (10 + r) = Y (10 + r) from if_neg (by omega)]
    have z := jy.1 r hr
    exact z
  obtain ⟨k_h4, y_h4, h4, t_h4, G4, I4⟩ := jk_go30 l Z (zStr Z Y) h3 G3.1 A jk3 jw3 jh3 V1 (Z 0).toNat 0 (Int32.ofInt (0)) (y_h3) h3 (mW.rf G3.1) rfl (by omega) (fun r hr => absurd hr (Nat.not_lt_zero r)) (fun r _ hr => y3 r hr)
  have T_h4 := t5.tr t_h4
  have t6 : XT l 9 242 false 244 153 6051 113 [xf 13 104, xi (Int32.ofInt (0)), xi k_h4, y_h4] [] h4 115 [xf 13 104, xi (Int32.ofInt (0)), xi (Int32.ofInt (0)), y_h4] [] h4 := XT_path (l := l) (fr := 9) (lo := 242) (full := false) (M := 244) (n := 153) (u := 6051) (pc := 113) (L := [xf 13 104, xi (Int32.ofInt (0)), xi k_h4, y_h4]) (st := []) (h := h4) (inl := []) (n' := 80) (sp := [115]) (o := []) rfl rfl ⟨rfl, rfl, rfl⟩ rfl ⟨Nat.le_of_eq G4.1.2.2.2.1, Nat.le_of_eq G4.1.2.2.2.2⟩ trivial
  have t7 := T_h4.tr t6
  have jk4 := jk3.w G3.1.1 G4 (fun c k z => by have z : ((c = 104 ∧ k = 54) ∨ (c = 134 ∧ 0 ≤ k ∧ k < 6)) := z; omega)
  have jw4 := jw3.w G4 (fun c k z => by have z : ((c = 104 ∧ k = 54) ∨ (c = 134 ∧ 0 ≤ k ∧ k < 6)) := z; omega)
  have jh4 := jh3.w G4 (fun c k z => by have z : ((c = 104 ∧ k = 54) ∨ (c = 134 ∧ 0 ≤ k ∧ k < 6)) := z; omega)
  have y4 : ∀ r : Nat, (r : Int) < Z 2 → xI h4 137 (0 + r) = zStr Z Y (40 + r) := fun r hr => by
    rw [G4.k (c := 137) (fun z => by have z : ((137 = 104 ∧ (0 + r) = 54) ∨ (137 = 134 ∧ 0 ≤ (0 + r) ∧ (0 + r) < 6)) := z; omega), G3.k (c := 137) (fun z => by have z : (137 = 133 ∧ 0 ≤ (0 + r) ∧ (0 + r) < 6) := z; omega), G2.k (c := 137) (fun z => by have z : ((137 = 104 ∧ (0 + r) = 54) ∨ 137 = 139) := z; omega), show zStr Z Y (40 + r) = Y (40 + r) from if_neg (by omega)]
    have z := jy.2 r hr
    exact z
  obtain ⟨k_h5, y_h5, h5, t_h5, G5, I5, J5⟩ := jk_go40 l Z (zStr Z Y) h4 G4.1 A jk4 jw4 jh4 V1 (Z 2).toNat 0 (Int32.ofInt (0)) (y_h4) h4 (mW.rf G4.1) rfl (by omega) (fun r hr => absurd hr (Nat.not_lt_zero r)) (fun r _ hr => y4 r hr) (fun r hr => absurd hr (Nat.not_lt_zero r))
  have T_h5 := t7.tr t_h5
  have t8 : XT l 9 242 false 244 153 6051 191 [xf 13 104, xi (Int32.ofInt (0)), xi k_h5, y_h5] [] h5 201 [xf 13 104, xi (Int32.ofInt (0)), xi k_h5, y_h5] [] (xsetI h5 (xR h5 104 60) ((Int32.ofInt (0))).toNatClampNeg ((xI h5 (xR h5 104 60) ((Int32.ofInt (0))).toNatClampNeg) + (Int32.ofInt (1)))) := XT_path (l := l) (fr := 9) (lo := 242) (full := false) (M := 244) (n := 153) (u := 6051) (pc := 191) (L := [xf 13 104, xi (Int32.ofInt (0)), xi k_h5, y_h5]) (st := []) (h := h5) (inl := []) (n' := 80) (sp := [201]) (o := []) rfl rfl ⟨rfl, rfl, rfl⟩ rfl ⟨Nat.le_of_eq G5.1.2.2.2.1, Nat.le_of_eq G5.1.2.2.2.2⟩ ⟨⟨⟨trivial, (vnn G5.1.1 (rfl : vRf 104 60 = [138]) (by decide))⟩, (vp_of (i := (Int32.ofInt (0))) (n := 2) (by omega) (by omega))⟩, (vp_of (i := (Int32.ofInt (0))) (n := 2) (by omega) (by omega))⟩
  rw [vref G5.1.1 (rfl : vRf 104 60 = [138])] at t8
  have t9 := T_h5.tr t8
  obtain ⟨hE, eE⟩ : ∃ x, x = (xsetI h5 138 ((Int32.ofInt (0))).toNatClampNeg ((xI h5 138 ((Int32.ofInt (0))).toNatClampNeg) + (Int32.ofInt (1)))) := ⟨_, rfl⟩
  have eE2 : hE = xsetI h5 138 0 (xI h5 138 0 + (Int32.ofInt (1))) := eE
  have g5 : mW (fun c k : Nat => (c = 138 ∧ k = 0)) h5 hE := by rw [eE2]; exact (mW.rf G5.1).set (show (138 = 138 ∧ 0 = 0) from by omega) (by rw [vI_u rfl (rfl : vRow 138 = sfull)]; exact i32r_of _)
  have GE : mW (fun c k : Nat => ((c = 104 ∧ k = 54) ∨ c = 139 ∨ ((c = 133 ∨ c = 134) ∧ 0 ≤ k ∧ k < 6) ∨ ((c = 136 ∨ c = 137) ∧ 0 ≤ k ∧ k < 8) ∨ (c = 138 ∧ k = 0))) h hE := ((((G2.mono (fun c k z => by have z : ((c = 104 ∧ k = 54) ∨ c = 139) := z; show ((c = 104 ∧ k = 54) ∨ c = 139 ∨ ((c = 133 ∨ c = 134) ∧ 0 ≤ k ∧ k < 6) ∨ ((c = 136 ∨ c = 137) ∧ 0 ≤ k ∧ k < 8) ∨ (c = 138 ∧ k = 0)); omega)).tr (G3.mono (fun c k z => by have z : (c = 133 ∧ 0 ≤ k ∧ k < 6) := z; show ((c = 104 ∧ k = 54) ∨ c = 139 ∨ ((c = 133 ∨ c = 134) ∧ 0 ≤ k ∧ k < 6) ∨ ((c = 136 ∨ c = 137) ∧ 0 ≤ k ∧ k < 8) ∨ (c = 138 ∧ k = 0)); omega))).tr (G4.mono (fun c k z => by have z : ((c = 104 ∧ k = 54) ∨ (c = 134 ∧ 0 ≤ k ∧ k < 6)) := z; show ((c = 104 ∧ k = 54) ∨ c = 139 ∨ ((c = 133 ∨ c = 134) ∧ 0 ≤ k ∧ k < 6) ∨ ((c = 136 ∨ c = 137) ∧ 0 ≤ k ∧ k < 8) ∨ (c = 138 ∧ k = 0)); omega))).tr (G5.mono (fun c k z => by have z : ((c = 136 ∨ c = 137) ∧ 0 ≤ k ∧ k < 8) := z; show ((c = 104 ∧ k = 54) ∨ c = 139 ∨ ((c = 133 ∨ c = 134) ∧ 0 ≤ k ∧ k < 6) ∨ ((c = 136 ∨ c = 137) ∧ 0 ≤ k ∧ k < 8) ∨ (c = 138 ∧ k = 0)); omega))).tr (g5.mono (fun c k z => by have z : (c = 138 ∧ k = 0) := z; show ((c = 104 ∧ k = 54) ∨ c = 139 ∨ ((c = 133 ∨ c = 134) ∧ 0 ≤ k ∧ k < 6) ∨ ((c = 136 ∨ c = 137) ∧ 0 ≤ k ∧ k < 8) ∨ (c = 138 ∧ k = 0)); omega))
  rw [← eE] at t9
  have f : ∀ i, ¬ (30 ≤ i ∧ i < 40) → ¬ i = 50 → zPs Z Y i = zRp Z (zStr Z Y) i := fun i h1 h2 => (if_neg h1).trans (if_neg h2)
  have n5 : ∀ c k, ¬ c = 138 → xI hE c k = xI h5 c k := fun c k hc => g5.k (fun z => hc z.1)
  refine ⟨hE, CX_ofT (h' := hE) (by decide) rfl rfl trivial ⟨_, _, _, rfl, rfl, rfl⟩ rfl ⟨Nat.le_of_eq GE.1.2.2.2.1.symm, Nat.le_of_eq GE.1.2.2.2.2.symm⟩ t9, GE, ⟨fun r hr => ?_, fun p hp => ⟨?_, ?_⟩, ?_⟩, ⟨fun r hr => ?_, fun p hp => ?_⟩⟩
  · rw [f r (by omega) (by omega), zRp_o A.1 r (by omega), n5 133 _ (by decide), G5.k (c := 133) (k := 6 * 0 + r) (fun z => by have z : ((133 = 136 ∨ 133 = 137) ∧ 0 ≤ (6 * 0 + r) ∧ (6 * 0 + r) < 8) := z; omega)]
    exact jw4.1 r hr
  · rw [f (20 + p) (by omega) (by omega), zRp_o A.1 (20 + p) (by omega), n5 135 _ (by decide), G5.k (c := 135) (k := 8 * 0 + p) (fun z => by have z : ((135 = 136 ∨ 135 = 137) ∧ 0 ≤ (8 * 0 + p) ∧ (8 * 0 + p) < 8) := z; omega)]
    exact (jw4.2.1 p hp).1
  · rw [n5 136 _ (by decide), show zPs Z Y (30 + p) = (Int32.ofInt (2)) from if_pos (by omega)]
    have z : xI h5 136 (0 + p) = (Int32.ofInt (-2)) := J5 p hp
    exact z
  · have z := jw4.2.2
    rw [eE2, yI_same, G5.k (c := 138) (k := 0) (fun z => by have z : ((138 = 136 ∨ 138 = 137) ∧ 0 ≤ 0 ∧ 0 < 8) := z; omega), z, ← zRp_o (Y := zStr Z Y) A.1 50 (by decide)]
    have zz : zCls (zRp Z (zStr Z Y)) 50 = zRp Z (zStr Z Y) 50 + Int32.ofInt (1) := (if_neg (by decide)).trans (if_pos rfl)
    exact zz.symm
  · rw [f (10 + r) (by omega) (by omega), n5 134 _ (by decide), G5.k (c := 134) (k := 6 * 0 + r) (fun z => by have z : ((134 = 136 ∨ 134 = 137) ∧ 0 ≤ (6 * 0 + r) ∧ (6 * 0 + r) < 8) := z; omega)]
    have z := I4 r hr
    exact z
  · rw [f (40 + p) (by omega) (by omega), n5 137 _ (by decide)]
    have z := I5 p hp
    exact z
set_option maxRecDepth 100000 in
set_option maxHeartbeats 4000000 in
theorem jk_voteL1 (l : Launch) (Z : Nat → Int) (Y : Nat → Int32) (rr : Int32) (r : Nat) (h : XH) (hg : mI h) (A : zAll Z) (jk : jK Z h) (jw : jHf 1 Z Y h) (jh : jHow Y h) (V : zVd Z Y) (nm : ¬ (Y 51).toInt = 4) (hr : rr.toInt = r) : ∀ (m k : Nat) (kk : Int32) (h1 : XH), mF h h1 → kk.toInt = k → (k : Int) + m = Z 2 → ∃ k2 h2, XT l 8 218 false 232 153 6051 5 [xf 13 104, xi (Int32.ofInt (1)), xi rr, xi (zsum (fun p => if (Y (20 + p)).toInt = r then zWe Z Y p * zVo Z Y p else Int32.ofInt (0)) k), xi kk] [] h1 57 [xf 13 104, xi (Int32.ofInt (1)), xi rr, xi (zsum (fun p => if (Y (20 + p)).toInt = r then zWe Z Y p * zVo Z Y p else Int32.ofInt (0)) (Z 2).toNat), xi k2] [] h2 ∧ mF h h2
  | 0, k, kk, h1, G, hk, hm => by
    obtain ⟨⟨⟨B00, B01⟩, ⟨B10, B11⟩, ⟨B20, B21⟩, B30, B31⟩, g6, zj, zv, LW⟩ := id A
    have hg1 := G.1
    have jk1 : jK Z h1 := jk.x hg.1 G
    have jw1 : jHf 1 Z Y h1 := jw.x G
    have jh1 : jHow Y h1 := jh.x G
    have ej : (xI h1 104 14).toInt = Z 2 := jk1.1 2 (by decide)
    have t1 : XT l 8 218 false 232 153 6051 5 [xf 13 104, xi (Int32.ofInt (1)), xi rr, xi (zsum (fun p => if (Y (20 + p)).toInt = r then zWe Z Y p * zVo Z Y p else Int32.ofInt (0)) k), xi kk] [] h1 57 [xf 13 104, xi (Int32.ofInt (1)), xi rr, xi (zsum (fun p => if (Y (20 + p)).toInt = r then zWe Z Y p * zVo Z Y p else Int32.ofInt (0)) k), xi kk] [] h1 := XT_path (l := l) (fr := 8) (lo := 218) (full := false) (M := 232) (n := 153) (u := 6051) (pc := 5) (L := [xf 13 104, xi (Int32.ofInt (1)), xi rr, xi (zsum (fun p => if (Y (20 + p)).toInt = r then zWe Z Y p * zVo Z Y p else Int32.ofInt (0)) k), xi kk]) (st := []) (h := h1) (inl := [233]) (n' := 120) (sp := [57]) (o := [1]) rfl rfl ⟨rfl, rfl, rfl⟩ rfl ⟨Nat.le_of_eq hg1.2.2.2.1, Nat.le_of_eq hg1.2.2.2.2⟩ ⟨trivial, (show (xI h1 104 14) ≤ kk from Int32.le_iff_toInt_le.mpr (by omega))⟩
    obtain rfl : k = (Z 2).toNat := by omega
    exact ⟨kk, h1, t1, G⟩
  | m + 1, k, kk, h1, G, hk, hm => by
    obtain ⟨⟨⟨B00, B01⟩, ⟨B10, B11⟩, ⟨B20, B21⟩, B30, B31⟩, g6, zj, zv, LW⟩ := id A
    have hg1 := G.1
    have jk1 : jK Z h1 := jk.x hg.1 G
    have jw1 : jHf 1 Z Y h1 := jw.x G
    have jh1 : jHow Y h1 := jh.x G
    have ej : (xI h1 104 14).toInt = Z 2 := jk1.1 2 (by decide)
    have lk : (k : Int) < Z 2 := by omega
    have nk : kk.toNatClampNeg = k := zi_ix hk
    have sk := y_suc1 (k := kk) (by omega) (by omega)
    have ea0 : ((Int32.ofInt (8)) * (Int32.ofInt (1))).toInt = 8 := rfl
    have ea : (((Int32.ofInt (8)) * (Int32.ofInt (1))) + kk).toInt = 8 + k := by rw [y_addb (by rw [ea0]; decide) (by omega), ea0]; omega
    have na : (((Int32.ofInt (8)) * (Int32.ofInt (1))) + kk).toNatClampNeg = 8 * 1 + k := zi_ix (by rw [ea]; omega)
    have k1 : (xI h1 135 (((Int32.ofInt (8)) * (Int32.ofInt (1))) + kk).toNatClampNeg).toInt = (Y (20 + k)).toInt := by rw [na]; exact congrArg Int32.toInt (jw1.2.1 k lk).1
    have emo : (xI h1 104 63).toInt = (Y 51).toInt := congrArg Int32.toInt jh1.1
    have ewg : xI h1 119 kk.toNatClampNeg = Int32.ofInt (Z (200 + k)) := i32_e (by rw [nk]; exact jk1.2.2.1 10 k (by decide) lk)
    have e_1 : (Int32.ofInt (1)).toInt = 1 := rfl
    have es : zsum (fun p => if (Y (20 + p)).toInt = r then zWe Z Y p * zVo Z Y p else Int32.ofInt (0)) (k + 1) = zsum (fun p => if (Y (20 + p)).toInt = r then zWe Z Y p * zVo Z Y p else Int32.ofInt (0)) k + (fun p => if (Y (20 + p)).toInt = r then zWe Z Y p * zVo Z Y p else Int32.ofInt (0)) k := zsum_s
    by_cases cb1 : (xI h1 (xR h1 104 57) ((((Int32.ofInt (8)) * (Int32.ofInt (1))) + kk)).toNatClampNeg) = rr
    · have e_1 : (Int32.ofInt (1)).toInt = 1 := rfl
      have e_8 : (Int32.ofInt (8)).toInt = 8 := rfl
      have cb1r := cb1
      rw [vref hg1.1 (rfl : vRf 104 57 = [135])] at cb1r
      have dcb1 : (xI h1 135 ((((Int32.ofInt (8)) * (Int32.ofInt (1))) + kk)).toNatClampNeg).toInt = (rr).toInt := congrArg Int32.toInt cb1r
      by_cases cb2 : (xI h1 104 63) = (Int32.ofInt (1))
      · have e_1 : (Int32.ofInt (1)).toInt = 1 := rfl
        have dcb2 : (xI h1 104 63).toInt = (Int32.ofInt (1)).toInt := congrArg Int32.toInt cb2
        have t3 : XT l 8 218 false 232 153 6051 5 [xf 13 104, xi (Int32.ofInt (1)), xi rr, xi (zsum (fun p => if (Y (20 + p)).toInt = r then zWe Z Y p * zVo Z Y p else Int32.ofInt (0)) k), xi kk] [] h1 41 [xf 13 104, xi (Int32.ofInt (1)), xi rr, xi (zsum (fun p => if (Y (20 + p)).toInt = r then zWe Z Y p * zVo Z Y p else Int32.ofInt (0)) k), xi kk] [xi kk, xi (Int32.ofInt (1)), xf 13 104, xi (Int32.ofInt (1)), xi (zsum (fun p => if (Y (20 + p)).toInt = r then zWe Z Y p * zVo Z Y p else Int32.ofInt (0)) k)] h1 := XT_path (l := l) (fr := 8) (lo := 218) (full := false) (M := 232) (n := 153) (u := 6051) (pc := 5) (L := [xf 13 104, xi (Int32.ofInt (1)), xi rr, xi (zsum (fun p => if (Y (20 + p)).toInt = r then zWe Z Y p * zVo Z Y p else Int32.ofInt (0)) k), xi kk]) (st := []) (h := h1) (inl := [233]) (n' := 120) (sp := [41]) (o := [0, 0, 0]) rfl rfl ⟨rfl, rfl, rfl⟩ rfl ⟨Nat.le_of_eq hg1.2.2.2.1, Nat.le_of_eq hg1.2.2.2.2⟩ ⟨⟨⟨⟨⟨trivial, (show ¬ (xI h1 104 14) ≤ kk from fun z => absurd (Int32.le_iff_toInt_le.mp z) (by omega))⟩, (vnn hg1.1 (rfl : vRf 104 57 = [135]) (by decide))⟩, (vp_of (i := (((Int32.ofInt (8)) * (Int32.ofInt (1))) + kk)) (n := 16) (by omega) (by omega))⟩, cb1⟩, cb2⟩
        obtain ⟨v, h2, c1, g1, ev⟩ := jk_vote1 l Z Y kk k h1 hg1 A jk1 jw1 jh1 V nm hk lk
        have t4 : XT l 8 218 false 232 153 6051 41 [xf 13 104, xi (Int32.ofInt (1)), xi rr, xi (zsum (fun p => if (Y (20 + p)).toInt = r then zWe Z Y p * zVo Z Y p else Int32.ofInt (0)) k), xi kk] [xi kk, xi (Int32.ofInt (1)), xf 13 104, xi (Int32.ofInt (1)), xi (zsum (fun p => if (Y (20 + p)).toInt = r then zWe Z Y p * zVo Z Y p else Int32.ofInt (0)) k)] h1 44 [xf 13 104, xi (Int32.ofInt (1)), xi rr, xi (zsum (fun p => if (Y (20 + p)).toInt = r then zWe Z Y p * zVo Z Y p else Int32.ofInt (0)) k), xi kk] [xi v, xi (Int32.ofInt (1)), xi (zsum (fun p => if (Y (20 + p)).toInt = r then zWe Z Y p * zVo Z Y p else Int32.ofInt (0)) k)] h2 := XT_call (l := l) (fr := 8) (lo := 218) (full := false) (M := 232) (n := 153) (u := 6051) (pc := 41) (L := [xf 13 104, xi (Int32.ofInt (1)), xi rr, xi (zsum (fun p => if (Y (20 + p)).toInt = r then zWe Z Y p * zVo Z Y p else Int32.ofInt (0)) k), xi kk]) (st := [xi kk, xi (Int32.ofInt (1)), xf 13 104, xi (Int32.ofInt (1)), xi (zsum (fun p => if (Y (20 + p)).toInt = r then zWe Z Y p * zVo Z Y p else Int32.ofInt (0)) k)]) (h := h1) (i := .invokevirtual 216) (aux := 3) (nx := 44) (K := 216) (vs := [xf 13 104, xi (Int32.ofInt (1)), xi kk]) (rs := [xi v]) (rest := [xi (Int32.ofInt (1)), xi (zsum (fun p => if (Y (20 + p)).toInt = r then zWe Z Y p * zVo Z Y p else Int32.ofInt (0)) k)]) rfl rfl rfl rfl rfl rfl c1 (by decide) (by decide) (Nat.le_of_ble_eq_true rfl) ⟨Nat.le_of_eq g1.1.2.2.2.1, Nat.le_of_eq g1.1.2.2.2.2⟩
        have t5 := t3.tr t4
        have t6 : XT l 8 218 false 232 153 6051 44 [xf 13 104, xi (Int32.ofInt (1)), xi rr, xi (zsum (fun p => if (Y (20 + p)).toInt = r then zWe Z Y p * zVo Z Y p else Int32.ofInt (0)) k), xi kk] [xi v, xi (Int32.ofInt (1)), xi (zsum (fun p => if (Y (20 + p)).toInt = r then zWe Z Y p * zVo Z Y p else Int32.ofInt (0)) k)] h2 5 [xf 13 104, xi (Int32.ofInt (1)), xi rr, xi ((zsum (fun p => if (Y (20 + p)).toInt = r then zWe Z Y p * zVo Z Y p else Int32.ofInt (0)) k) + ((Int32.ofInt (1)) * v)), xi (kk + Int32.ofInt (1))] [] h2 := XT_path (l := l) (fr := 8) (lo := 218) (full := false) (M := 232) (n := 153) (u := 6051) (pc := 44) (L := [xf 13 104, xi (Int32.ofInt (1)), xi rr, xi (zsum (fun p => if (Y (20 + p)).toInt = r then zWe Z Y p * zVo Z Y p else Int32.ofInt (0)) k), xi kk]) (st := [xi v, xi (Int32.ofInt (1)), xi (zsum (fun p => if (Y (20 + p)).toInt = r then zWe Z Y p * zVo Z Y p else Int32.ofInt (0)) k)]) (h := h2) (inl := [233]) (n' := 120) (sp := [5]) (o := []) rfl rfl ⟨rfl, rfl, rfl⟩ rfl ⟨Nat.le_of_eq g1.1.2.2.2.1, Nat.le_of_eq g1.1.2.2.2.2⟩ trivial
        have t7 := t5.tr t6
        have eWG : (Int32.ofInt (1)) = zWe Z Y k := by unfold zWe; rw [if_pos (by omega)]
        have ef : (fun p => if (Y (20 + p)).toInt = r then zWe Z Y p * zVo Z Y p else Int32.ofInt (0)) k = zWe Z Y k * zVo Z Y k := if_pos (by omega)
        have ea : ((zsum (fun p => if (Y (20 + p)).toInt = r then zWe Z Y p * zVo Z Y p else Int32.ofInt (0)) k) + ((Int32.ofInt (1)) * v)) = zsum (fun p => if (Y (20 + p)).toInt = r then zWe Z Y p * zVo Z Y p else Int32.ofInt (0)) (k + 1) := by rw [es, ef, ← eWG, ← ev]
        rw [ea] at t7
        obtain ⟨k3, h9, tq9, G9⟩ := jk_voteL1 l Z Y rr r h hg A jk jw jh V nm hr m (k + 1) (kk + Int32.ofInt (1)) h2 (G.tr g1) (by omega) (by omega)
        exact ⟨k3, h9, t7.tr tq9, G9⟩
      · have e_1 : (Int32.ofInt (1)).toInt = 1 := rfl
        have dcb2 : ¬ (xI h1 104 63).toInt = (Int32.ofInt (1)).toInt := fun z_ => cb2 (Int32.toInt_inj.mp z_)
        have t8 : XT l 8 218 false 232 153 6051 5 [xf 13 104, xi (Int32.ofInt (1)), xi rr, xi (zsum (fun p => if (Y (20 + p)).toInt = r then zWe Z Y p * zVo Z Y p else Int32.ofInt (0)) k), xi kk] [] h1 41 [xf 13 104, xi (Int32.ofInt (1)), xi rr, xi (zsum (fun p => if (Y (20 + p)).toInt = r then zWe Z Y p * zVo Z Y p else Int32.ofInt (0)) k), xi kk] [xi kk, xi (Int32.ofInt (1)), xf 13 104, xi (xI h1 (xR h1 104 34) (kk).toNatClampNeg), xi (zsum (fun p => if (Y (20 + p)).toInt = r then zWe Z Y p * zVo Z Y p else Int32.ofInt (0)) k)] h1 := XT_path (l := l) (fr := 8) (lo := 218) (full := false) (M := 232) (n := 153) (u := 6051) (pc := 5) (L := [xf 13 104, xi (Int32.ofInt (1)), xi rr, xi (zsum (fun p => if (Y (20 + p)).toInt = r then zWe Z Y p * zVo Z Y p else Int32.ofInt (0)) k), xi kk]) (st := []) (h := h1) (inl := [233]) (n' := 120) (sp := [41]) (o := [0, 0, 1]) rfl rfl ⟨rfl, rfl, rfl⟩ rfl ⟨Nat.le_of_eq hg1.2.2.2.1, Nat.le_of_eq hg1.2.2.2.2⟩ ⟨⟨⟨⟨⟨⟨⟨trivial, (show ¬ (xI h1 104 14) ≤ kk from fun z => absurd (Int32.le_iff_toInt_le.mp z) (by omega))⟩, (vnn hg1.1 (rfl : vRf 104 57 = [135]) (by decide))⟩, (vp_of (i := (((Int32.ofInt (8)) * (Int32.ofInt (1))) + kk)) (n := 16) (by omega) (by omega))⟩, cb1⟩, cb2⟩, (vnn hg1.1 (rfl : vRf 104 34 = [119]) (by decide))⟩, (vp_of (i := kk) (n := 16) (by omega) (by omega))⟩
        rw [vref hg1.1 (rfl : vRf 104 34 = [119])] at t8
        obtain ⟨v, h2, c1, g1, ev⟩ := jk_vote1 l Z Y kk k h1 hg1 A jk1 jw1 jh1 V nm hk lk
        have t9 : XT l 8 218 false 232 153 6051 41 [xf 13 104, xi (Int32.ofInt (1)), xi rr, xi (zsum (fun p => if (Y (20 + p)).toInt = r then zWe Z Y p * zVo Z Y p else Int32.ofInt (0)) k), xi kk] [xi kk, xi (Int32.ofInt (1)), xf 13 104, xi (xI h1 119 (kk).toNatClampNeg), xi (zsum (fun p => if (Y (20 + p)).toInt = r then zWe Z Y p * zVo Z Y p else Int32.ofInt (0)) k)] h1 44 [xf 13 104, xi (Int32.ofInt (1)), xi rr, xi (zsum (fun p => if (Y (20 + p)).toInt = r then zWe Z Y p * zVo Z Y p else Int32.ofInt (0)) k), xi kk] [xi v, xi (xI h1 119 (kk).toNatClampNeg), xi (zsum (fun p => if (Y (20 + p)).toInt = r then zWe Z Y p * zVo Z Y p else Int32.ofInt (0)) k)] h2 := XT_call (l := l) (fr := 8) (lo := 218) (full := false) (M := 232) (n := 153) (u := 6051) (pc := 41) (L := [xf 13 104, xi (Int32.ofInt (1)), xi rr, xi (zsum (fun p => if (Y (20 + p)).toInt = r then zWe Z Y p * zVo Z Y p else Int32.ofInt (0)) k), xi kk]) (st := [xi kk, xi (Int32.ofInt (1)), xf 13 104, xi (xI h1 119 (kk).toNatClampNeg), xi (zsum (fun p => if (Y (20 + p)).toInt = r then zWe Z Y p * zVo Z Y p else Int32.ofInt (0)) k)]) (h := h1) (i := .invokevirtual 216) (aux := 3) (nx := 44) (K := 216) (vs := [xf 13 104, xi (Int32.ofInt (1)), xi kk]) (rs := [xi v]) (rest := [xi (xI h1 119 (kk).toNatClampNeg), xi (zsum (fun p => if (Y (20 + p)).toInt = r then zWe Z Y p * zVo Z Y p else Int32.ofInt (0)) k)]) rfl rfl rfl rfl rfl rfl c1 (by decide) (by decide) (Nat.le_of_ble_eq_true rfl) ⟨Nat.le_of_eq g1.1.2.2.2.1, Nat.le_of_eq g1.1.2.2.2.2⟩
        have t10 := t8.tr t9
        have t11 : XT l 8 218 false 232 153 6051 44 [xf 13 104, xi (Int32.ofInt (1)), xi rr, xi (zsum (fun p => if (Y (20 + p)).toInt = r then zWe Z Y p * zVo Z Y p else Int32.ofInt (0)) k), xi kk] [xi v, xi (xI h1 119 (kk).toNatClampNeg), xi (zsum (fun p => if (Y (20 + p)).toInt = r then zWe Z Y p * zVo Z Y p else Int32.ofInt (0)) k)] h2 5 [xf 13 104, xi (Int32.ofInt (1)), xi rr, xi ((zsum (fun p => if (Y (20 + p)).toInt = r then zWe Z Y p * zVo Z Y p else Int32.ofInt (0)) k) + ((xI h1 119 (kk).toNatClampNeg) * v)), xi (kk + Int32.ofInt (1))] [] h2 := XT_path (l := l) (fr := 8) (lo := 218) (full := false) (M := 232) (n := 153) (u := 6051) (pc := 44) (L := [xf 13 104, xi (Int32.ofInt (1)), xi rr, xi (zsum (fun p => if (Y (20 + p)).toInt = r then zWe Z Y p * zVo Z Y p else Int32.ofInt (0)) k), xi kk]) (st := [xi v, xi (xI h1 119 (kk).toNatClampNeg), xi (zsum (fun p => if (Y (20 + p)).toInt = r then zWe Z Y p * zVo Z Y p else Int32.ofInt (0)) k)]) (h := h2) (inl := [233]) (n' := 120) (sp := [5]) (o := []) rfl rfl ⟨rfl, rfl, rfl⟩ rfl ⟨Nat.le_of_eq g1.1.2.2.2.1, Nat.le_of_eq g1.1.2.2.2.2⟩ trivial
        have t12 := t10.tr t11
        have eWG : (xI h1 119 (kk).toNatClampNeg) = zWe Z Y k := by unfold zWe; rw [if_neg (by omega)]; exact ewg
        have ef : (fun p => if (Y (20 + p)).toInt = r then zWe Z Y p * zVo Z Y p else Int32.ofInt (0)) k = zWe Z Y k * zVo Z Y k := if_pos (by omega)
        have ea : ((zsum (fun p => if (Y (20 + p)).toInt = r then zWe Z Y p * zVo Z Y p else Int32.ofInt (0)) k) + ((xI h1 119 (kk).toNatClampNeg) * v)) = zsum (fun p => if (Y (20 + p)).toInt = r then zWe Z Y p * zVo Z Y p else Int32.ofInt (0)) (k + 1) := by rw [es, ef, ← eWG, ← ev]
        rw [ea] at t12
        obtain ⟨k3, h9, tq9, G9⟩ := jk_voteL1 l Z Y rr r h hg A jk jw jh V nm hr m (k + 1) (kk + Int32.ofInt (1)) h2 (G.tr g1) (by omega) (by omega)
        exact ⟨k3, h9, t12.tr tq9, G9⟩
    · have e_1 : (Int32.ofInt (1)).toInt = 1 := rfl
      have e_8 : (Int32.ofInt (8)).toInt = 8 := rfl
      have cb1r := cb1
      rw [vref hg1.1 (rfl : vRf 104 57 = [135])] at cb1r
      have dcb1 : ¬ (xI h1 135 ((((Int32.ofInt (8)) * (Int32.ofInt (1))) + kk)).toNatClampNeg).toInt = (rr).toInt := fun z_ => cb1r (Int32.toInt_inj.mp z_)
      have t13 : XT l 8 218 false 232 153 6051 5 [xf 13 104, xi (Int32.ofInt (1)), xi rr, xi (zsum (fun p => if (Y (20 + p)).toInt = r then zWe Z Y p * zVo Z Y p else Int32.ofInt (0)) k), xi kk] [] h1 5 [xf 13 104, xi (Int32.ofInt (1)), xi rr, xi ((zsum (fun p => if (Y (20 + p)).toInt = r then zWe Z Y p * zVo Z Y p else Int32.ofInt (0)) k) + (Int32.ofInt (0))), xi (kk + Int32.ofInt (1))] [] h1 := XT_path (l := l) (fr := 8) (lo := 218) (full := false) (M := 232) (n := 153) (u := 6051) (pc := 5) (L := [xf 13 104, xi (Int32.ofInt (1)), xi rr, xi (zsum (fun p => if (Y (20 + p)).toInt = r then zWe Z Y p * zVo Z Y p else Int32.ofInt (0)) k), xi kk]) (st := []) (h := h1) (inl := [233]) (n' := 120) (sp := [5]) (o := [0, 1]) rfl rfl ⟨rfl, rfl, rfl⟩ rfl ⟨Nat.le_of_eq hg1.2.2.2.1, Nat.le_of_eq hg1.2.2.2.2⟩ ⟨⟨⟨⟨trivial, (show ¬ (xI h1 104 14) ≤ kk from fun z => absurd (Int32.le_iff_toInt_le.mp z) (by omega))⟩, (vnn hg1.1 (rfl : vRf 104 57 = [135]) (by decide))⟩, (vp_of (i := (((Int32.ofInt (8)) * (Int32.ofInt (1))) + kk)) (n := 16) (by omega) (by omega))⟩, cb1⟩
      have ef : (fun p => if (Y (20 + p)).toInt = r then zWe Z Y p * zVo Z Y p else Int32.ofInt (0)) k = (Int32.ofInt (0)) := if_neg (by omega)
      have ea : ((zsum (fun p => if (Y (20 + p)).toInt = r then zWe Z Y p * zVo Z Y p else Int32.ofInt (0)) k) + (Int32.ofInt (0))) = zsum (fun p => if (Y (20 + p)).toInt = r then zWe Z Y p * zVo Z Y p else Int32.ofInt (0)) (k + 1) := by rw [es, ef]
      rw [ea] at t13
      obtain ⟨k3, h9, tq9, G9⟩ := jk_voteL1 l Z Y rr r h hg A jk jw jh V nm hr m (k + 1) (kk + Int32.ofInt (1)) h1 G (by omega) (by omega)
      exact ⟨k3, h9, t13.tr tq9, G9⟩
set_option maxRecDepth 100000 in
set_option maxHeartbeats 4000000 in
theorem jk_voteIn1 (l : Launch) (Z : Nat → Int) (Y : Nat → Int32) (rr : Int32) (r : Nat) (h : XH) (hg : mI h) (A : zAll Z) (jk : jK Z h) (jw : jHf 1 Z Y h) (jh : jHow Y h) (V : zVd Z Y) (nm : ¬ (Y 51).toInt = 4) (hr : rr.toInt = r) : ∃ h', CX l 8 218 false 232 [xf 13 104, xi (Int32.ofInt (1)), xi rr] h [xi (zVs Z Y r)] h' ∧ mF h h' := by
  obtain ⟨⟨⟨B00, B01⟩, ⟨B10, B11⟩, ⟨B20, B21⟩, B30, B31⟩, g6, zj, zv, LW⟩ := id A
  have t1 : XT l 8 218 false 232 153 6051 0 [xf 13 104, xi (Int32.ofInt (1)), xi rr, xun, xun] [] h 5 [xf 13 104, xi (Int32.ofInt (1)), xi rr, xi (Int32.ofInt (0)), xi (Int32.ofInt (0))] [] h := XT_path (l := l) (fr := 8) (lo := 218) (full := false) (M := 232) (n := 153) (u := 6051) (pc := 0) (L := [xf 13 104, xi (Int32.ofInt (1)), xi rr, xun, xun]) (st := []) (h := h) (inl := []) (n' := 80) (sp := [5]) (o := []) rfl rfl ⟨rfl, rfl, rfl⟩ rfl ⟨Nat.le_of_eq hg.2.2.2.1, Nat.le_of_eq hg.2.2.2.2⟩ trivial
  obtain ⟨k2, h2, t2, G2⟩ := jk_voteL1 l Z Y rr r h hg A jk jw jh V nm hr (Z 2).toNat 0 (Int32.ofInt (0)) h (mF.rf hg) rfl (by omega)
  have T2 := t1.tr t2
  have t2 : XT l 8 218 false 232 153 6051 57 [xf 13 104, xi (Int32.ofInt (1)), xi rr, xi (zsum (fun p => if (Y (20 + p)).toInt = r then zWe Z Y p * zVo Z Y p else Int32.ofInt (0)) (Z 2).toNat), xi k2] [] h2 58 [xf 13 104, xi (Int32.ofInt (1)), xi rr, xi (zsum (fun p => if (Y (20 + p)).toInt = r then zWe Z Y p * zVo Z Y p else Int32.ofInt (0)) (Z 2).toNat), xi k2] [xi (zsum (fun p => if (Y (20 + p)).toInt = r then zWe Z Y p * zVo Z Y p else Int32.ofInt (0)) (Z 2).toNat)] h2 := XT_path (l := l) (fr := 8) (lo := 218) (full := false) (M := 232) (n := 153) (u := 6051) (pc := 57) (L := [xf 13 104, xi (Int32.ofInt (1)), xi rr, xi (zsum (fun p => if (Y (20 + p)).toInt = r then zWe Z Y p * zVo Z Y p else Int32.ofInt (0)) (Z 2).toNat), xi k2]) (st := []) (h := h2) (inl := []) (n' := 80) (sp := [58]) (o := []) rfl rfl ⟨rfl, rfl, rfl⟩ rfl ⟨Nat.le_of_eq G2.1.2.2.2.1, Nat.le_of_eq G2.1.2.2.2.2⟩ trivial
  have t3 := T2.tr t2
  exact ⟨h2, CX_ofT (h' := h2) (by decide) rfl rfl trivial ⟨_, _, _, rfl, rfl, rfl⟩ rfl ⟨Nat.le_of_eq G2.1.2.2.2.1.symm, Nat.le_of_eq G2.1.2.2.2.2.symm⟩ t3, G2⟩
set_option maxRecDepth 100000 in
set_option maxHeartbeats 4000000 in
theorem jk_go11 (l : Launch) (Z : Nat → Int) (Y : Nat → Int32) (h : XH) (hg : mI h) (A : zAll Z) (jk : jK Z h) (jw : jHf 1 Z Y h) (jh : jHow Y h) (V : zVd Z Y) (nm : ¬ (Y 51).toInt = 4) : ∀ (m k : Nat) (kk : Int32) (x3 : XV) (h1 : XH), mW (fun c k : Nat => ((c = 104 ∧ k = 54) ∨ c = 139)) h h1 → kk.toInt = k → (k : Int) + m = Z 0 → (∀ r : Nat, r < k → xI h1 139 r = zVs Z Y r) → ∃ k2 y3 h2, XT l 9 242 false 244 153 6051 2 [xf 13 104, xi (Int32.ofInt (1)), xi kk, x3] [] h1 28 [xf 13 104, xi (Int32.ofInt (1)), xi k2, y3] [] h2 ∧ mW (fun c k : Nat => ((c = 104 ∧ k = 54) ∨ c = 139)) h h2 ∧ (∀ r : Nat, (r : Int) < Z 0 → xI h2 139 r = zVs Z Y r)
  | 0, k, kk, x3, h1, G, hk, hm, I1 => by
    obtain ⟨⟨⟨B00, B01⟩, ⟨B10, B11⟩, ⟨B20, B21⟩, B30, B31⟩, g6, zj, zv, LW⟩ := id A
    have hg1 := G.1
    have jk1 : jK Z h1 := jk.w hg.1 G (fun c k z => by have z : ((c = 104 ∧ k = 54) ∨ c = 139) := z; omega)
    have ej : (xI h1 104 12).toInt = Z 0 := jk1.1 0 (by decide)
    have t1 : XT l 9 242 false 244 153 6051 2 [xf 13 104, xi (Int32.ofInt (1)), xi kk, x3] [] h1 28 [xf 13 104, xi (Int32.ofInt (1)), xi kk, x3] [] h1 := XT_path (l := l) (fr := 9) (lo := 242) (full := false) (M := 244) (n := 153) (u := 6051) (pc := 2) (L := [xf 13 104, xi (Int32.ofInt (1)), xi kk, x3]) (st := []) (h := h1) (inl := [245]) (n' := 120) (sp := [28]) (o := [1]) rfl rfl ⟨rfl, rfl, rfl⟩ rfl ⟨Nat.le_of_eq hg1.2.2.2.1, Nat.le_of_eq hg1.2.2.2.2⟩ ⟨trivial, (show (xI h1 104 12) ≤ kk from Int32.le_iff_toInt_le.mpr (by omega))⟩
    obtain rfl : k = (Z 0).toNat := by omega
    exact ⟨kk, x3, h1, t1, G, fun r hr => I1 r (by omega)⟩
  | m + 1, k, kk, x3, h1, G, hk, hm, I1 => by
    obtain ⟨⟨⟨B00, B01⟩, ⟨B10, B11⟩, ⟨B20, B21⟩, B30, B31⟩, g6, zj, zv, LW⟩ := id A
    have hg1 := G.1
    have jk1 : jK Z h1 := jk.w hg.1 G (fun c k z => by have z : ((c = 104 ∧ k = 54) ∨ c = 139) := z; omega)
    have ej : (xI h1 104 12).toInt = Z 0 := jk1.1 0 (by decide)
    have lk : (k : Int) < Z 0 := by omega
    have nk : kk.toNatClampNeg = k := zi_ix hk
    have sk := y_suc1 (k := kk) (by omega) (by omega)
    have t1 : XT l 9 242 false 244 153 6051 2 [xf 13 104, xi (Int32.ofInt (1)), xi kk, x3] [] h1 18 [xf 13 104, xi (Int32.ofInt (1)), xi kk, x3] [xi kk, xi (Int32.ofInt (1)), xf 13 104, xi kk, xf 10006 (xR h1 104 61)] h1 := XT_path (l := l) (fr := 9) (lo := 242) (full := false) (M := 244) (n := 153) (u := 6051) (pc := 2) (L := [xf 13 104, xi (Int32.ofInt (1)), xi kk, x3]) (st := []) (h := h1) (inl := [245]) (n' := 120) (sp := [18]) (o := [0]) rfl rfl ⟨rfl, rfl, rfl⟩ rfl ⟨Nat.le_of_eq hg1.2.2.2.1, Nat.le_of_eq hg1.2.2.2.2⟩ ⟨⟨trivial, (show ¬ (xI h1 104 12) ≤ kk from fun z => absurd (Int32.le_iff_toInt_le.mp z) (by omega))⟩, (vnn hg1.1 (rfl : vRf 104 61 = [139]) (by decide))⟩
    rw [vref hg1.1 (rfl : vRf 104 61 = [139])] at t1
    obtain ⟨h2, c1, g1⟩ := jk_voteIn1 l Z Y kk k h1 hg1 A jk1 (jw.w G (fun c k z => by have z : ((c = 104 ∧ k = 54) ∨ c = 139) := z; omega)) (jh.w G (fun c k z => by have z : ((c = 104 ∧ k = 54) ∨ c = 139) := z; omega)) V nm hk
    have t2 : XT l 9 242 false 244 153 6051 18 [xf 13 104, xi (Int32.ofInt (1)), xi kk, x3] [xi kk, xi (Int32.ofInt (1)), xf 13 104, xi kk, xf 10006 139] h1 21 [xf 13 104, xi (Int32.ofInt (1)), xi kk, x3] [xi (zVs Z Y k), xi kk, xf 10006 139] h2 := XT_call (l := l) (fr := 9) (lo := 242) (full := false) (M := 244) (n := 153) (u := 6051) (pc := 18) (L := [xf 13 104, xi (Int32.ofInt (1)), xi kk, x3]) (st := [xi kk, xi (Int32.ofInt (1)), xf 13 104, xi kk, xf 10006 139]) (h := h1) (i := .invokevirtual 232) (aux := 3) (nx := 21) (K := 232) (vs := [xf 13 104, xi (Int32.ofInt (1)), xi kk]) (rs := [xi (zVs Z Y k)]) (rest := [xi kk, xf 10006 139]) rfl rfl rfl rfl rfl rfl c1 (by decide) (by decide) (Nat.le_of_ble_eq_true rfl) ⟨Nat.le_of_eq g1.1.2.2.2.1, Nat.le_of_eq g1.1.2.2.2.2⟩
    have t3 := t1.tr t2
    have t4 : XT l 9 242 false 244 153 6051 21 [xf 13 104, xi (Int32.ofInt (1)), xi kk, x3] [xi (zVs Z Y k), xi kk, xf 10006 139] h2 2 [xf 13 104, xi (Int32.ofInt (1)), xi (kk + Int32.ofInt (1)), x3] [] (xsetI h2 139 (kk).toNatClampNeg (zVs Z Y k)) := XT_path (l := l) (fr := 9) (lo := 242) (full := false) (M := 244) (n := 153) (u := 6051) (pc := 21) (L := [xf 13 104, xi (Int32.ofInt (1)), xi kk, x3]) (st := [xi (zVs Z Y k), xi kk, xf 10006 139]) (h := h2) (inl := [245]) (n' := 120) (sp := [2]) (o := []) rfl rfl ⟨rfl, rfl, rfl⟩ rfl ⟨Nat.le_of_eq g1.1.2.2.2.1, Nat.le_of_eq g1.1.2.2.2.2⟩ ⟨trivial, (vp_of (i := kk) (n := 6) (by omega) (by omega))⟩
    have t5 := t3.tr t4
    obtain ⟨hE, eE⟩ : ∃ x, x = (xsetI h2 139 (kk).toNatClampNeg (zVs Z Y k)) := ⟨_, rfl⟩
    rw [← eE] at t5
    have eE2 : hE = xsetI h2 139 k (zVs Z Y k) := by rw [eE]; simp only [nk]
    have GE : mW (fun c k : Nat => ((c = 104 ∧ k = 54) ∨ c = 139)) h hE := by rw [eE2]; exact (G.tr (g1.w (show ((104 = 104 ∧ 54 = 54) ∨ 104 = 139) from by omega))).set (show ((139 = 104 ∧ k = 54) ∨ 139 = 139) from by omega) (by rw [vI_u rfl (rfl : vRow 139 = sfull)]; exact i32r_of _)
    obtain ⟨k3, y3, h9, tq9, G9, I9⟩ := jk_go11 l Z Y h hg A jk jw jh V nm m (k + 1) (kk + Int32.ofInt (1)) (x3) hE GE (by omega) (by omega) (fun r hr => by rw [eE2]; exact if e : r = k then (by rw [e, yI_same]) else (by rw [yI_ne (eq_false (fun z => e z.2)), g1.2.1 139 r (by omega)]; exact I1 r (by omega)))
    exact ⟨k3, y3, h9, t5.tr tq9, G9, I9⟩
set_option maxRecDepth 100000 in
set_option maxHeartbeats 4000000 in
theorem jk_go21 (l : Launch) (Z : Nat → Int) (Y : Nat → Int32) (h : XH) (hg : mI h) (A : zAll Z) (jk : jK Z h) (jw : jHf 1 Z Y h) (jh : jHow Y h) (V : zVd Z Y) (k9 : ∀ r : Nat, (r : Int) < Z 0 → xI h 139 r = zVs Z Y r) : ∀ (m k : Nat) (kk : Int32) (x3 : XV) (h1 : XH), mW (fun c k : Nat => (c = 133 ∧ 6 ≤ k ∧ k < 12)) h h1 → kk.toInt = k → (k : Int) + m = Z 0 → (∀ r : Nat, r < k → xI h1 133 (6 + r) = zSt (Y r) (zVs Z Y r)) → (∀ r : Nat, k ≤ r → (r : Int) < Z 0 → xI h1 133 (6 + r) = Y r) → ∃ k2 y3 h2, XT l 9 242 false 244 153 6051 30 [xf 13 104, xi (Int32.ofInt (1)), xi kk, x3] [] h1 75 [xf 13 104, xi (Int32.ofInt (1)), xi k2, y3] [] h2 ∧ mW (fun c k : Nat => (c = 133 ∧ 6 ≤ k ∧ k < 12)) h h2 ∧ (∀ r : Nat, (r : Int) < Z 0 → xI h2 133 (6 + r) = zSt (Y r) (zVs Z Y r))
  | 0, k, kk, x3, h1, G, hk, hm, I1, I2 => by
    obtain ⟨⟨⟨B00, B01⟩, ⟨B10, B11⟩, ⟨B20, B21⟩, B30, B31⟩, g6, zj, zv, LW⟩ := id A
    have hg1 := G.1
    have jk1 : jK Z h1 := jk.w hg.1 G (fun c k z => by have z : (c = 133 ∧ 6 ≤ k ∧ k < 12) := z; omega)
    have ej : (xI h1 104 12).toInt = Z 0 := jk1.1 0 (by decide)
    have t1 : XT l 9 242 false 244 153 6051 30 [xf 13 104, xi (Int32.ofInt (1)), xi kk, x3] [] h1 75 [xf 13 104, xi (Int32.ofInt (1)), xi kk, x3] [] h1 := XT_path (l := l) (fr := 9) (lo := 242) (full := false) (M := 244) (n := 153) (u := 6051) (pc := 30) (L := [xf 13 104, xi (Int32.ofInt (1)), xi kk, x3]) (st := []) (h := h1) (inl := [245]) (n' := 120) (sp := [75]) (o := [1]) rfl rfl ⟨rfl, rfl, rfl⟩ rfl ⟨Nat.le_of_eq hg1.2.2.2.1, Nat.le_of_eq hg1.2.2.2.2⟩ ⟨trivial, (show (xI h1 104 12) ≤ kk from Int32.le_iff_toInt_le.mpr (by omega))⟩
    obtain rfl : k = (Z 0).toNat := by omega
    exact ⟨kk, x3, h1, t1, G, fun r hr => I1 r (by omega)⟩
  | m + 1, k, kk, x3, h1, G, hk, hm, I1, I2 => by
    obtain ⟨⟨⟨B00, B01⟩, ⟨B10, B11⟩, ⟨B20, B21⟩, B30, B31⟩, g6, zj, zv, LW⟩ := id A
    have hg1 := G.1
    have jk1 : jK Z h1 := jk.w hg.1 G (fun c k z => by have z : (c = 133 ∧ 6 ≤ k ∧ k < 12) := z; omega)
    have ej : (xI h1 104 12).toInt = Z 0 := jk1.1 0 (by decide)
    have lk : (k : Int) < Z 0 := by omega
    have nk : kk.toNatClampNeg = k := zi_ix hk
    have sk := y_suc1 (k := kk) (by omega) (by omega)
    have ea0 : ((Int32.ofInt (6)) * (Int32.ofInt (1))).toInt = 6 := rfl
    have ea : (((Int32.ofInt (6)) * (Int32.ofInt (1))) + kk).toInt = 6 + k := by rw [y_addb (by rw [ea0]; decide) (by omega), ea0]; omega
    have na : (((Int32.ofInt (6)) * (Int32.ofInt (1))) + kk).toNatClampNeg = 6 * 1 + k := zi_ix (by rw [ea]; omega)
    have bs := V.1 k lk
    have eS : xI h1 133 (((Int32.ofInt (6)) * (Int32.ofInt (1))) + kk).toNatClampNeg = Y k := by rw [na]; exact I2 k (Nat.le_refl _) lk
    have eV : xI h1 139 kk.toNatClampNeg = zVs Z Y k := by rw [nk, G.k (c := 139) (fun z => by have z : (139 = 133 ∧ 6 ≤ k ∧ k < 12) := z; omega)]; exact k9 k lk
    have eS2 := congrArg Int32.toInt eS
    have eV2 := congrArg Int32.toInt eV
    have ez : (0 : Int32).toInt = 0 := rfl
    have e_1 : ((Int32.ofInt (1))).toInt = 1 := rfl
    have e_9 : ((Int32.ofInt (9))).toInt = 9 := rfl
    by_cases cb1 : (xI h1 (xR h1 104 61) (kk).toNatClampNeg) ≤ 0
    · have e_0 : (0 : Int32).toInt = 0 := rfl
      have cb1r := cb1
      rw [vref hg1.1 (rfl : vRf 104 61 = [139])] at cb1r
      have dcb1 : (xI h1 139 (kk).toNatClampNeg).toInt ≤ (0 : Int32).toInt := Int32.le_iff_toInt_le.mp cb1r
      by_cases cb2 : (0 : Int32) ≤ (xI h1 (xR h1 104 61) (kk).toNatClampNeg)
      · have e_0 : (0 : Int32).toInt = 0 := rfl
        have cb2r := cb2
        rw [vref hg1.1 (rfl : vRf 104 61 = [139])] at cb2r
        have dcb2 : (0 : Int32).toInt ≤ (xI h1 139 (kk).toNatClampNeg).toInt := Int32.le_iff_toInt_le.mp cb2r
        have t3 : XT l 9 242 false 244 153 6051 30 [xf 13 104, xi (Int32.ofInt (1)), xi kk, x3] [] h1 30 [xf 13 104, xi (Int32.ofInt (1)), xi (kk + Int32.ofInt (1)), x3] [] (xsetI h1 (xR h1 104 55) ((((Int32.ofInt (6)) * (Int32.ofInt (1))) + kk)).toNatClampNeg (xI h1 (xR h1 104 55) ((((Int32.ofInt (6)) * (Int32.ofInt (1))) + kk)).toNatClampNeg)) := XT_path (l := l) (fr := 9) (lo := 242) (full := false) (M := 244) (n := 153) (u := 6051) (pc := 30) (L := [xf 13 104, xi (Int32.ofInt (1)), xi kk, x3]) (st := []) (h := h1) (inl := [245]) (n' := 120) (sp := [30]) (o := [0, 1, 1]) rfl rfl ⟨rfl, rfl, rfl⟩ rfl ⟨Nat.le_of_eq hg1.2.2.2.1, Nat.le_of_eq hg1.2.2.2.2⟩ ⟨⟨⟨⟨⟨⟨⟨⟨⟨trivial, (show ¬ (xI h1 104 12) ≤ kk from fun z => absurd (Int32.le_iff_toInt_le.mp z) (by omega))⟩, (vnn hg1.1 (rfl : vRf 104 55 = [133]) (by decide))⟩, (vnn hg1.1 (rfl : vRf 104 55 = [133]) (by decide))⟩, (vp_of (i := (((Int32.ofInt (6)) * (Int32.ofInt (1))) + kk)) (n := 12) (by omega) (by omega))⟩, (vnn hg1.1 (rfl : vRf 104 61 = [139]) (by decide))⟩, (vp_of (i := kk) (n := 6) (by omega) (by omega))⟩, cb1⟩, cb2⟩, (vp_of (i := (((Int32.ofInt (6)) * (Int32.ofInt (1))) + kk)) (n := 12) (by omega) (by omega))⟩
        rw [vref hg1.1 (rfl : vRf 104 55 = [133])] at t3
        obtain ⟨hE, eE⟩ : ∃ x, x = (xsetI h1 133 ((((Int32.ofInt (6)) * (Int32.ofInt (1))) + kk)).toNatClampNeg (xI h1 133 ((((Int32.ofInt (6)) * (Int32.ofInt (1))) + kk)).toNatClampNeg)) := ⟨_, rfl⟩
        rw [← eE] at t3
        have eN : (xI h1 133 ((((Int32.ofInt (6)) * (Int32.ofInt (1))) + kk)).toNatClampNeg) = zSt (Y k) (zVs Z Y k) := by
          unfold zSt
          rw [eS]
          repeat (first | rw [if_pos (by omega)] | rw [if_neg (by omega)])
          all_goals (exfalso; omega)
        have eE2 : hE = xsetI h1 133 (6 + k) (zSt (Y k) (zVs Z Y k)) := by rw [eE, eN]; simp only [na]
        have bz := zSt_b (v := zVs Z Y k) bs
        have GE : mW (fun c k : Nat => (c = 133 ∧ 6 ≤ k ∧ k < 12)) h hE := by rw [eE2]; exact G.set (show (133 = 133 ∧ 6 ≤ (6 + k) ∧ (6 + k) < 12) from by omega) (by rw [vS133_t k (by omega)]; exact ⟨by show (-1 : Int) ≤ _; omega, by show _ ≤ (10 : Int); omega⟩)
        obtain ⟨k3, y3, h9, tq9, G9, I9⟩ := jk_go21 l Z Y h hg A jk jw jh V k9 m (k + 1) (kk + Int32.ofInt (1)) (x3) hE GE (by omega) (by omega) (fun r hr => by rw [eE2]; exact if e : r = k then (by rw [e, yI_same]) else (by rw [yI_ne (eq_false (fun z => by have := z.2; omega))]; exact I1 r (by omega))) (fun r q1 q2 => by rw [eE2, yI_ne (eq_false (fun z => by have := z.2; omega))]; exact I2 r (by omega) q2)
        exact ⟨k3, y3, h9, t3.tr tq9, G9, I9⟩
      · have e_0 : (0 : Int32).toInt = 0 := rfl
        have cb2r := cb2
        rw [vref hg1.1 (rfl : vRf 104 61 = [139])] at cb2r
        have dcb2 : (xI h1 139 (kk).toNatClampNeg).toInt < (0 : Int32).toInt := Int32.lt_iff_toInt_lt.mp (Int32.not_le.mp cb2r)
        by_cases cb4 : (xI h1 (xR h1 104 55) ((((Int32.ofInt (6)) * (Int32.ofInt (1))) + kk)).toNatClampNeg) ≤ (Int32.ofInt (1))
        · have e_1 : (Int32.ofInt (1)).toInt = 1 := rfl
          have e_6 : (Int32.ofInt (6)).toInt = 6 := rfl
          have cb4r := cb4
          rw [vref hg1.1 (rfl : vRf 104 55 = [133])] at cb4r
          have dcb4 : (xI h1 133 ((((Int32.ofInt (6)) * (Int32.ofInt (1))) + kk)).toNatClampNeg).toInt ≤ (Int32.ofInt (1)).toInt := Int32.le_iff_toInt_le.mp cb4r
          have t5 : XT l 9 242 false 244 153 6051 30 [xf 13 104, xi (Int32.ofInt (1)), xi kk, x3] [] h1 30 [xf 13 104, xi (Int32.ofInt (1)), xi (kk + Int32.ofInt (1)), x3] [] (xsetI h1 (xR h1 104 55) ((((Int32.ofInt (6)) * (Int32.ofInt (1))) + kk)).toNatClampNeg (xI h1 (xR h1 104 55) ((((Int32.ofInt (6)) * (Int32.ofInt (1))) + kk)).toNatClampNeg)) := XT_path (l := l) (fr := 9) (lo := 242) (full := false) (M := 244) (n := 153) (u := 6051) (pc := 30) (L := [xf 13 104, xi (Int32.ofInt (1)), xi kk, x3]) (st := []) (h := h1) (inl := [245]) (n' := 120) (sp := [30]) (o := [0, 1, 0, 1]) rfl rfl ⟨rfl, rfl, rfl⟩ rfl ⟨Nat.le_of_eq hg1.2.2.2.1, Nat.le_of_eq hg1.2.2.2.2⟩ ⟨⟨⟨⟨⟨⟨⟨⟨⟨⟨trivial, (show ¬ (xI h1 104 12) ≤ kk from fun z => absurd (Int32.le_iff_toInt_le.mp z) (by omega))⟩, (vnn hg1.1 (rfl : vRf 104 55 = [133]) (by decide))⟩, (vnn hg1.1 (rfl : vRf 104 55 = [133]) (by decide))⟩, (vp_of (i := (((Int32.ofInt (6)) * (Int32.ofInt (1))) + kk)) (n := 12) (by omega) (by omega))⟩, (vnn hg1.1 (rfl : vRf 104 61 = [139]) (by decide))⟩, (vp_of (i := kk) (n := 6) (by omega) (by omega))⟩, cb1⟩, cb2⟩, cb4⟩, (vp_of (i := (((Int32.ofInt (6)) * (Int32.ofInt (1))) + kk)) (n := 12) (by omega) (by omega))⟩
          rw [vref hg1.1 (rfl : vRf 104 55 = [133])] at t5
          obtain ⟨hE, eE⟩ : ∃ x, x = (xsetI h1 133 ((((Int32.ofInt (6)) * (Int32.ofInt (1))) + kk)).toNatClampNeg (xI h1 133 ((((Int32.ofInt (6)) * (Int32.ofInt (1))) + kk)).toNatClampNeg)) := ⟨_, rfl⟩
          rw [← eE] at t5
          have eN : (xI h1 133 ((((Int32.ofInt (6)) * (Int32.ofInt (1))) + kk)).toNatClampNeg) = zSt (Y k) (zVs Z Y k) := by
            unfold zSt
            rw [eS]
            repeat (first | rw [if_pos (by omega)] | rw [if_neg (by omega)])
            all_goals (exfalso; omega)
          have eE2 : hE = xsetI h1 133 (6 + k) (zSt (Y k) (zVs Z Y k)) := by rw [eE, eN]; simp only [na]
          have bz := zSt_b (v := zVs Z Y k) bs
          have GE : mW (fun c k : Nat => (c = 133 ∧ 6 ≤ k ∧ k < 12)) h hE := by rw [eE2]; exact G.set (show (133 = 133 ∧ 6 ≤ (6 + k) ∧ (6 + k) < 12) from by omega) (by rw [vS133_t k (by omega)]; exact ⟨by show (-1 : Int) ≤ _; omega, by show _ ≤ (10 : Int); omega⟩)
          obtain ⟨k3, y3, h9, tq9, G9, I9⟩ := jk_go21 l Z Y h hg A jk jw jh V k9 m (k + 1) (kk + Int32.ofInt (1)) (x3) hE GE (by omega) (by omega) (fun r hr => by rw [eE2]; exact if e : r = k then (by rw [e, yI_same]) else (by rw [yI_ne (eq_false (fun z => by have := z.2; omega))]; exact I1 r (by omega))) (fun r q1 q2 => by rw [eE2, yI_ne (eq_false (fun z => by have := z.2; omega))]; exact I2 r (by omega) q2)
          exact ⟨k3, y3, h9, t5.tr tq9, G9, I9⟩
        · have e_1 : (Int32.ofInt (1)).toInt = 1 := rfl
          have e_6 : (Int32.ofInt (6)).toInt = 6 := rfl
          have cb4r := cb4
          rw [vref hg1.1 (rfl : vRf 104 55 = [133])] at cb4r
          have dcb4 : (Int32.ofInt (1)).toInt < (xI h1 133 ((((Int32.ofInt (6)) * (Int32.ofInt (1))) + kk)).toNatClampNeg).toInt := Int32.lt_iff_toInt_lt.mp (Int32.not_le.mp cb4r)
          have t6 : XT l 9 242 false 244 153 6051 30 [xf 13 104, xi (Int32.ofInt (1)), xi kk, x3] [] h1 30 [xf 13 104, xi (Int32.ofInt (1)), xi (kk + Int32.ofInt (1)), x3] [] (xsetI h1 (xR h1 104 55) ((((Int32.ofInt (6)) * (Int32.ofInt (1))) + kk)).toNatClampNeg ((xI h1 (xR h1 104 55) ((((Int32.ofInt (6)) * (Int32.ofInt (1))) + kk)).toNatClampNeg) - (Int32.ofInt (1)))) := XT_path (l := l) (fr := 9) (lo := 242) (full := false) (M := 244) (n := 153) (u := 6051) (pc := 30) (L := [xf 13 104, xi (Int32.ofInt (1)), xi kk, x3]) (st := []) (h := h1) (inl := [245]) (n' := 120) (sp := [30]) (o := [0, 1, 0, 0]) rfl rfl ⟨rfl, rfl, rfl⟩ rfl ⟨Nat.le_of_eq hg1.2.2.2.1, Nat.le_of_eq hg1.2.2.2.2⟩ ⟨⟨⟨⟨⟨⟨⟨⟨⟨⟨trivial, (show ¬ (xI h1 104 12) ≤ kk from fun z => absurd (Int32.le_iff_toInt_le.mp z) (by omega))⟩, (vnn hg1.1 (rfl : vRf 104 55 = [133]) (by decide))⟩, (vnn hg1.1 (rfl : vRf 104 55 = [133]) (by decide))⟩, (vp_of (i := (((Int32.ofInt (6)) * (Int32.ofInt (1))) + kk)) (n := 12) (by omega) (by omega))⟩, (vnn hg1.1 (rfl : vRf 104 61 = [139]) (by decide))⟩, (vp_of (i := kk) (n := 6) (by omega) (by omega))⟩, cb1⟩, cb2⟩, cb4⟩, (vp_of (i := (((Int32.ofInt (6)) * (Int32.ofInt (1))) + kk)) (n := 12) (by omega) (by omega))⟩
          rw [vref hg1.1 (rfl : vRf 104 55 = [133])] at t6
          obtain ⟨hE, eE⟩ : ∃ x, x = (xsetI h1 133 ((((Int32.ofInt (6)) * (Int32.ofInt (1))) + kk)).toNatClampNeg ((xI h1 133 ((((Int32.ofInt (6)) * (Int32.ofInt (1))) + kk)).toNatClampNeg) - (Int32.ofInt (1)))) := ⟨_, rfl⟩
          rw [← eE] at t6
          have eN : ((xI h1 133 ((((Int32.ofInt (6)) * (Int32.ofInt (1))) + kk)).toNatClampNeg) - (Int32.ofInt (1))) = zSt (Y k) (zVs Z Y k) := by
            unfold zSt
            rw [eS]
            repeat (first | rw [if_pos (by omega)] | rw [if_neg (by omega)])
            all_goals (exfalso; omega)
          have eE2 : hE = xsetI h1 133 (6 + k) (zSt (Y k) (zVs Z Y k)) := by rw [eE, eN]; simp only [na]
          have bz := zSt_b (v := zVs Z Y k) bs
          have GE : mW (fun c k : Nat => (c = 133 ∧ 6 ≤ k ∧ k < 12)) h hE := by rw [eE2]; exact G.set (show (133 = 133 ∧ 6 ≤ (6 + k) ∧ (6 + k) < 12) from by omega) (by rw [vS133_t k (by omega)]; exact ⟨by show (-1 : Int) ≤ _; omega, by show _ ≤ (10 : Int); omega⟩)
          obtain ⟨k3, y3, h9, tq9, G9, I9⟩ := jk_go21 l Z Y h hg A jk jw jh V k9 m (k + 1) (kk + Int32.ofInt (1)) (x3) hE GE (by omega) (by omega) (fun r hr => by rw [eE2]; exact if e : r = k then (by rw [e, yI_same]) else (by rw [yI_ne (eq_false (fun z => by have := z.2; omega))]; exact I1 r (by omega))) (fun r q1 q2 => by rw [eE2, yI_ne (eq_false (fun z => by have := z.2; omega))]; exact I2 r (by omega) q2)
          exact ⟨k3, y3, h9, t6.tr tq9, G9, I9⟩
    · have e_0 : (0 : Int32).toInt = 0 := rfl
      have cb1r := cb1
      rw [vref hg1.1 (rfl : vRf 104 61 = [139])] at cb1r
      have dcb1 : (0 : Int32).toInt < (xI h1 139 (kk).toNatClampNeg).toInt := Int32.lt_iff_toInt_lt.mp (Int32.not_le.mp cb1r)
      by_cases cb7 : (Int32.ofInt (9)) ≤ (xI h1 (xR h1 104 55) ((((Int32.ofInt (6)) * (Int32.ofInt (1))) + kk)).toNatClampNeg)
      · have e_1 : (Int32.ofInt (1)).toInt = 1 := rfl
        have e_6 : (Int32.ofInt (6)).toInt = 6 := rfl
        have e_9 : (Int32.ofInt (9)).toInt = 9 := rfl
        have cb7r := cb7
        rw [vref hg1.1 (rfl : vRf 104 55 = [133])] at cb7r
        have dcb7 : (Int32.ofInt (9)).toInt ≤ (xI h1 133 ((((Int32.ofInt (6)) * (Int32.ofInt (1))) + kk)).toNatClampNeg).toInt := Int32.le_iff_toInt_le.mp cb7r
        by_cases cb8 : (0 : Int32) ≤ (xI h1 (xR h1 104 61) (kk).toNatClampNeg)
        · have e_0 : (0 : Int32).toInt = 0 := rfl
          have cb8r := cb8
          rw [vref hg1.1 (rfl : vRf 104 61 = [139])] at cb8r
          have dcb8 : (0 : Int32).toInt ≤ (xI h1 139 (kk).toNatClampNeg).toInt := Int32.le_iff_toInt_le.mp cb8r
          have t9 : XT l 9 242 false 244 153 6051 30 [xf 13 104, xi (Int32.ofInt (1)), xi kk, x3] [] h1 30 [xf 13 104, xi (Int32.ofInt (1)), xi (kk + Int32.ofInt (1)), x3] [] (xsetI h1 (xR h1 104 55) ((((Int32.ofInt (6)) * (Int32.ofInt (1))) + kk)).toNatClampNeg (xI h1 (xR h1 104 55) ((((Int32.ofInt (6)) * (Int32.ofInt (1))) + kk)).toNatClampNeg)) := XT_path (l := l) (fr := 9) (lo := 242) (full := false) (M := 244) (n := 153) (u := 6051) (pc := 30) (L := [xf 13 104, xi (Int32.ofInt (1)), xi kk, x3]) (st := []) (h := h1) (inl := [245]) (n' := 120) (sp := [30]) (o := [0, 0, 1, 1]) rfl rfl ⟨rfl, rfl, rfl⟩ rfl ⟨Nat.le_of_eq hg1.2.2.2.1, Nat.le_of_eq hg1.2.2.2.2⟩ ⟨⟨⟨⟨⟨⟨⟨⟨⟨⟨trivial, (show ¬ (xI h1 104 12) ≤ kk from fun z => absurd (Int32.le_iff_toInt_le.mp z) (by omega))⟩, (vnn hg1.1 (rfl : vRf 104 55 = [133]) (by decide))⟩, (vnn hg1.1 (rfl : vRf 104 55 = [133]) (by decide))⟩, (vp_of (i := (((Int32.ofInt (6)) * (Int32.ofInt (1))) + kk)) (n := 12) (by omega) (by omega))⟩, (vnn hg1.1 (rfl : vRf 104 61 = [139]) (by decide))⟩, (vp_of (i := kk) (n := 6) (by omega) (by omega))⟩, cb1⟩, cb7⟩, cb8⟩, (vp_of (i := (((Int32.ofInt (6)) * (Int32.ofInt (1))) + kk)) (n := 12) (by omega) (by omega))⟩
          rw [vref hg1.1 (rfl : vRf 104 55 = [133])] at t9
          obtain ⟨hE, eE⟩ : ∃ x, x = (xsetI h1 133 ((((Int32.ofInt (6)) * (Int32.ofInt (1))) + kk)).toNatClampNeg (xI h1 133 ((((Int32.ofInt (6)) * (Int32.ofInt (1))) + kk)).toNatClampNeg)) := ⟨_, rfl⟩
          rw [← eE] at t9
          have eN : (xI h1 133 ((((Int32.ofInt (6)) * (Int32.ofInt (1))) + kk)).toNatClampNeg) = zSt (Y k) (zVs Z Y k) := by
            unfold zSt
            rw [eS]
            repeat (first | rw [if_pos (by omega)] | rw [if_neg (by omega)])
            all_goals (exfalso; omega)
          have eE2 : hE = xsetI h1 133 (6 + k) (zSt (Y k) (zVs Z Y k)) := by rw [eE, eN]; simp only [na]
          have bz := zSt_b (v := zVs Z Y k) bs
          have GE : mW (fun c k : Nat => (c = 133 ∧ 6 ≤ k ∧ k < 12)) h hE := by rw [eE2]; exact G.set (show (133 = 133 ∧ 6 ≤ (6 + k) ∧ (6 + k) < 12) from by omega) (by rw [vS133_t k (by omega)]; exact ⟨by show (-1 : Int) ≤ _; omega, by show _ ≤ (10 : Int); omega⟩)
          obtain ⟨k3, y3, h9, tq9, G9, I9⟩ := jk_go21 l Z Y h hg A jk jw jh V k9 m (k + 1) (kk + Int32.ofInt (1)) (x3) hE GE (by omega) (by omega) (fun r hr => by rw [eE2]; exact if e : r = k then (by rw [e, yI_same]) else (by rw [yI_ne (eq_false (fun z => by have := z.2; omega))]; exact I1 r (by omega))) (fun r q1 q2 => by rw [eE2, yI_ne (eq_false (fun z => by have := z.2; omega))]; exact I2 r (by omega) q2)
          exact ⟨k3, y3, h9, t9.tr tq9, G9, I9⟩
        · have e_0 : (0 : Int32).toInt = 0 := rfl
          have cb8r := cb8
          rw [vref hg1.1 (rfl : vRf 104 61 = [139])] at cb8r
          have dcb8 : (xI h1 139 (kk).toNatClampNeg).toInt < (0 : Int32).toInt := Int32.lt_iff_toInt_lt.mp (Int32.not_le.mp cb8r)
          by_cases cb10 : (xI h1 (xR h1 104 55) ((((Int32.ofInt (6)) * (Int32.ofInt (1))) + kk)).toNatClampNeg) ≤ (Int32.ofInt (1))
          · have e_1 : (Int32.ofInt (1)).toInt = 1 := rfl
            have e_6 : (Int32.ofInt (6)).toInt = 6 := rfl
            have cb10r := cb10
            rw [vref hg1.1 (rfl : vRf 104 55 = [133])] at cb10r
            have dcb10 : (xI h1 133 ((((Int32.ofInt (6)) * (Int32.ofInt (1))) + kk)).toNatClampNeg).toInt ≤ (Int32.ofInt (1)).toInt := Int32.le_iff_toInt_le.mp cb10r
            have t11 : XT l 9 242 false 244 153 6051 30 [xf 13 104, xi (Int32.ofInt (1)), xi kk, x3] [] h1 30 [xf 13 104, xi (Int32.ofInt (1)), xi (kk + Int32.ofInt (1)), x3] [] (xsetI h1 (xR h1 104 55) ((((Int32.ofInt (6)) * (Int32.ofInt (1))) + kk)).toNatClampNeg (xI h1 (xR h1 104 55) ((((Int32.ofInt (6)) * (Int32.ofInt (1))) + kk)).toNatClampNeg)) := XT_path (l := l) (fr := 9) (lo := 242) (full := false) (M := 244) (n := 153) (u := 6051) (pc := 30) (L := [xf 13 104, xi (Int32.ofInt (1)), xi kk, x3]) (st := []) (h := h1) (inl := [245]) (n' := 120) (sp := [30]) (o := [0, 0, 1, 0, 1]) rfl rfl ⟨rfl, rfl, rfl⟩ rfl ⟨Nat.le_of_eq hg1.2.2.2.1, Nat.le_of_eq hg1.2.2.2.2⟩ ⟨⟨⟨⟨⟨⟨⟨⟨⟨⟨⟨trivial, (show ¬ (xI h1 104 12) ≤ kk from fun z => absurd (Int32.le_iff_toInt_le.mp z) (by omega))⟩, (vnn hg1.1 (rfl : vRf 104 55 = [133]) (by decide))⟩, (vnn hg1.1 (rfl : vRf 104 55 = [133]) (by decide))⟩, (vp_of (i := (((Int32.ofInt (6)) * (Int32.ofInt (1))) + kk)) (n := 12) (by omega) (by omega))⟩, (vnn hg1.1 (rfl : vRf 104 61 = [139]) (by decide))⟩, (vp_of (i := kk) (n := 6) (by omega) (by omega))⟩, cb1⟩, cb7⟩, cb8⟩, cb10⟩, (vp_of (i := (((Int32.ofInt (6)) * (Int32.ofInt (1))) + kk)) (n := 12) (by omega) (by omega))⟩
            rw [vref hg1.1 (rfl : vRf 104 55 = [133])] at t11
            obtain ⟨hE, eE⟩ : ∃ x, x = (xsetI h1 133 ((((Int32.ofInt (6)) * (Int32.ofInt (1))) + kk)).toNatClampNeg (xI h1 133 ((((Int32.ofInt (6)) * (Int32.ofInt (1))) + kk)).toNatClampNeg)) := ⟨_, rfl⟩
            rw [← eE] at t11
            have eN : (xI h1 133 ((((Int32.ofInt (6)) * (Int32.ofInt (1))) + kk)).toNatClampNeg) = zSt (Y k) (zVs Z Y k) := by
              unfold zSt
              rw [eS]
              repeat (first | rw [if_pos (by omega)] | rw [if_neg (by omega)])
              all_goals (exfalso; omega)
            have eE2 : hE = xsetI h1 133 (6 + k) (zSt (Y k) (zVs Z Y k)) := by rw [eE, eN]; simp only [na]
            have bz := zSt_b (v := zVs Z Y k) bs
            have GE : mW (fun c k : Nat => (c = 133 ∧ 6 ≤ k ∧ k < 12)) h hE := by rw [eE2]; exact G.set (show (133 = 133 ∧ 6 ≤ (6 + k) ∧ (6 + k) < 12) from by omega) (by rw [vS133_t k (by omega)]; exact ⟨by show (-1 : Int) ≤ _; omega, by show _ ≤ (10 : Int); omega⟩)
            obtain ⟨k3, y3, h9, tq9, G9, I9⟩ := jk_go21 l Z Y h hg A jk jw jh V k9 m (k + 1) (kk + Int32.ofInt (1)) (x3) hE GE (by omega) (by omega) (fun r hr => by rw [eE2]; exact if e : r = k then (by rw [e, yI_same]) else (by rw [yI_ne (eq_false (fun z => by have := z.2; omega))]; exact I1 r (by omega))) (fun r q1 q2 => by rw [eE2, yI_ne (eq_false (fun z => by have := z.2; omega))]; exact I2 r (by omega) q2)
            exact ⟨k3, y3, h9, t11.tr tq9, G9, I9⟩
          · have e_1 : (Int32.ofInt (1)).toInt = 1 := rfl
            have e_6 : (Int32.ofInt (6)).toInt = 6 := rfl
            have cb10r := cb10
            rw [vref hg1.1 (rfl : vRf 104 55 = [133])] at cb10r
            have dcb10 : (Int32.ofInt (1)).toInt < (xI h1 133 ((((Int32.ofInt (6)) * (Int32.ofInt (1))) + kk)).toNatClampNeg).toInt := Int32.lt_iff_toInt_lt.mp (Int32.not_le.mp cb10r)
            have t12 : XT l 9 242 false 244 153 6051 30 [xf 13 104, xi (Int32.ofInt (1)), xi kk, x3] [] h1 30 [xf 13 104, xi (Int32.ofInt (1)), xi (kk + Int32.ofInt (1)), x3] [] (xsetI h1 (xR h1 104 55) ((((Int32.ofInt (6)) * (Int32.ofInt (1))) + kk)).toNatClampNeg ((xI h1 (xR h1 104 55) ((((Int32.ofInt (6)) * (Int32.ofInt (1))) + kk)).toNatClampNeg) - (Int32.ofInt (1)))) := XT_path (l := l) (fr := 9) (lo := 242) (full := false) (M := 244) (n := 153) (u := 6051) (pc := 30) (L := [xf 13 104, xi (Int32.ofInt (1)), xi kk, x3]) (st := []) (h := h1) (inl := [245]) (n' := 120) (sp := [30]) (o := [0, 0, 1, 0, 0]) rfl rfl ⟨rfl, rfl, rfl⟩ rfl ⟨Nat.le_of_eq hg1.2.2.2.1, Nat.le_of_eq hg1.2.2.2.2⟩ ⟨⟨⟨⟨⟨⟨⟨⟨⟨⟨⟨trivial, (show ¬ (xI h1 104 12) ≤ kk from fun z => absurd (Int32.le_iff_toInt_le.mp z) (by omega))⟩, (vnn hg1.1 (rfl : vRf 104 55 = [133]) (by decide))⟩, (vnn hg1.1 (rfl : vRf 104 55 = [133]) (by decide))⟩, (vp_of (i := (((Int32.ofInt (6)) * (Int32.ofInt (1))) + kk)) (n := 12) (by omega) (by omega))⟩, (vnn hg1.1 (rfl : vRf 104 61 = [139]) (by decide))⟩, (vp_of (i := kk) (n := 6) (by omega) (by omega))⟩, cb1⟩, cb7⟩, cb8⟩, cb10⟩, (vp_of (i := (((Int32.ofInt (6)) * (Int32.ofInt (1))) + kk)) (n := 12) (by omega) (by omega))⟩
            rw [vref hg1.1 (rfl : vRf 104 55 = [133])] at t12
            obtain ⟨hE, eE⟩ : ∃ x, x = (xsetI h1 133 ((((Int32.ofInt (6)) * (Int32.ofInt (1))) + kk)).toNatClampNeg ((xI h1 133 ((((Int32.ofInt (6)) * (Int32.ofInt (1))) + kk)).toNatClampNeg) - (Int32.ofInt (1)))) := ⟨_, rfl⟩
            rw [← eE] at t12
            have eN : ((xI h1 133 ((((Int32.ofInt (6)) * (Int32.ofInt (1))) + kk)).toNatClampNeg) - (Int32.ofInt (1))) = zSt (Y k) (zVs Z Y k) := by
              unfold zSt
              rw [eS]
              repeat (first | rw [if_pos (by omega)] | rw [if_neg (by omega)])
              all_goals (exfalso; omega)
            have eE2 : hE = xsetI h1 133 (6 + k) (zSt (Y k) (zVs Z Y k)) := by rw [eE, eN]; simp only [na]
            have bz := zSt_b (v := zVs Z Y k) bs
            have GE : mW (fun c k : Nat => (c = 133 ∧ 6 ≤ k ∧ k < 12)) h hE := by rw [eE2]; exact G.set (show (133 = 133 ∧ 6 ≤ (6 + k) ∧ (6 + k) < 12) from by omega) (by rw [vS133_t k (by omega)]; exact ⟨by show (-1 : Int) ≤ _; omega, by show _ ≤ (10 : Int); omega⟩)
            obtain ⟨k3, y3, h9, tq9, G9, I9⟩ := jk_go21 l Z Y h hg A jk jw jh V k9 m (k + 1) (kk + Int32.ofInt (1)) (x3) hE GE (by omega) (by omega) (fun r hr => by rw [eE2]; exact if e : r = k then (by rw [e, yI_same]) else (by rw [yI_ne (eq_false (fun z => by have := z.2; omega))]; exact I1 r (by omega))) (fun r q1 q2 => by rw [eE2, yI_ne (eq_false (fun z => by have := z.2; omega))]; exact I2 r (by omega) q2)
            exact ⟨k3, y3, h9, t12.tr tq9, G9, I9⟩
      · have e_1 : (Int32.ofInt (1)).toInt = 1 := rfl
        have e_6 : (Int32.ofInt (6)).toInt = 6 := rfl
        have e_9 : (Int32.ofInt (9)).toInt = 9 := rfl
        have cb7r := cb7
        rw [vref hg1.1 (rfl : vRf 104 55 = [133])] at cb7r
        have dcb7 : (xI h1 133 ((((Int32.ofInt (6)) * (Int32.ofInt (1))) + kk)).toNatClampNeg).toInt < (Int32.ofInt (9)).toInt := Int32.lt_iff_toInt_lt.mp (Int32.not_le.mp cb7r)
        have t13 : XT l 9 242 false 244 153 6051 30 [xf 13 104, xi (Int32.ofInt (1)), xi kk, x3] [] h1 30 [xf 13 104, xi (Int32.ofInt (1)), xi (kk + Int32.ofInt (1)), x3] [] (xsetI h1 (xR h1 104 55) ((((Int32.ofInt (6)) * (Int32.ofInt (1))) + kk)).toNatClampNeg ((xI h1 (xR h1 104 55) ((((Int32.ofInt (6)) * (Int32.ofInt (1))) + kk)).toNatClampNeg) + (Int32.ofInt (1)))) := XT_path (l := l) (fr := 9) (lo := 242) (full := false) (M := 244) (n := 153) (u := 6051) (pc := 30) (L := [xf 13 104, xi (Int32.ofInt (1)), xi kk, x3]) (st := []) (h := h1) (inl := [245]) (n' := 120) (sp := [30]) (o := [0, 0, 0]) rfl rfl ⟨rfl, rfl, rfl⟩ rfl ⟨Nat.le_of_eq hg1.2.2.2.1, Nat.le_of_eq hg1.2.2.2.2⟩ ⟨⟨⟨⟨⟨⟨⟨⟨⟨trivial, (show ¬ (xI h1 104 12) ≤ kk from fun z => absurd (Int32.le_iff_toInt_le.mp z) (by omega))⟩, (vnn hg1.1 (rfl : vRf 104 55 = [133]) (by decide))⟩, (vnn hg1.1 (rfl : vRf 104 55 = [133]) (by decide))⟩, (vp_of (i := (((Int32.ofInt (6)) * (Int32.ofInt (1))) + kk)) (n := 12) (by omega) (by omega))⟩, (vnn hg1.1 (rfl : vRf 104 61 = [139]) (by decide))⟩, (vp_of (i := kk) (n := 6) (by omega) (by omega))⟩, cb1⟩, cb7⟩, (vp_of (i := (((Int32.ofInt (6)) * (Int32.ofInt (1))) + kk)) (n := 12) (by omega) (by omega))⟩
        rw [vref hg1.1 (rfl : vRf 104 55 = [133])] at t13
        obtain ⟨hE, eE⟩ : ∃ x, x = (xsetI h1 133 ((((Int32.ofInt (6)) * (Int32.ofInt (1))) + kk)).toNatClampNeg ((xI h1 133 ((((Int32.ofInt (6)) * (Int32.ofInt (1))) + kk)).toNatClampNeg) + (Int32.ofInt (1)))) := ⟨_, rfl⟩
        rw [← eE] at t13
        have eN : ((xI h1 133 ((((Int32.ofInt (6)) * (Int32.ofInt (1))) + kk)).toNatClampNeg) + (Int32.ofInt (1))) = zSt (Y k) (zVs Z Y k) := by
          unfold zSt
          rw [eS]
          repeat (first | rw [if_pos (by omega)] | rw [if_neg (by omega)])
          all_goals (exfalso; omega)
        have eE2 : hE = xsetI h1 133 (6 + k) (zSt (Y k) (zVs Z Y k)) := by rw [eE, eN]; simp only [na]
        have bz := zSt_b (v := zVs Z Y k) bs
        have GE : mW (fun c k : Nat => (c = 133 ∧ 6 ≤ k ∧ k < 12)) h hE := by rw [eE2]; exact G.set (show (133 = 133 ∧ 6 ≤ (6 + k) ∧ (6 + k) < 12) from by omega) (by rw [vS133_t k (by omega)]; exact ⟨by show (-1 : Int) ≤ _; omega, by show _ ≤ (10 : Int); omega⟩)
        obtain ⟨k3, y3, h9, tq9, G9, I9⟩ := jk_go21 l Z Y h hg A jk jw jh V k9 m (k + 1) (kk + Int32.ofInt (1)) (x3) hE GE (by omega) (by omega) (fun r hr => by rw [eE2]; exact if e : r = k then (by rw [e, yI_same]) else (by rw [yI_ne (eq_false (fun z => by have := z.2; omega))]; exact I1 r (by omega))) (fun r q1 q2 => by rw [eE2, yI_ne (eq_false (fun z => by have := z.2; omega))]; exact I2 r (by omega) q2)
        exact ⟨k3, y3, h9, t13.tr tq9, G9, I9⟩
set_option maxRecDepth 100000 in
set_option maxHeartbeats 4000000 in
theorem jk_go31 (l : Launch) (Z : Nat → Int) (Y : Nat → Int32) (h : XH) (hg : mI h) (A : zAll Z) (jk : jK Z h) (jw : jHf 1 Z Y h) (jh : jHow Y h) (V : zVd Z Y)  : ∀ (m k : Nat) (kk : Int32) (x3 : XV) (h1 : XH), mW (fun c k : Nat => ((c = 104 ∧ k = 54) ∨ (c = 134 ∧ 6 ≤ k ∧ k < 12))) h h1 → kk.toInt = k → (k : Int) + m = Z 0 → (∀ r : Nat, r < k → xI h1 134 (6 + r) = zRp Z Y (10 + r)) → (∀ r : Nat, k ≤ r → (r : Int) < Z 0 → xI h1 134 (6 + r) = Y (10 + r)) → ∃ k2 y3 h2, XT l 9 242 false 244 153 6051 77 [xf 13 104, xi (Int32.ofInt (1)), xi kk, x3] [] h1 113 [xf 13 104, xi (Int32.ofInt (1)), xi k2, y3] [] h2 ∧ mW (fun c k : Nat => ((c = 104 ∧ k = 54) ∨ (c = 134 ∧ 6 ≤ k ∧ k < 12))) h h2 ∧ (∀ r : Nat, (r : Int) < Z 0 → xI h2 134 (6 + r) = zRp Z Y (10 + r))
  | 0, k, kk, x3, h1, G, hk, hm, I1, I2 => by
    obtain ⟨⟨⟨B00, B01⟩, ⟨B10, B11⟩, ⟨B20, B21⟩, B30, B31⟩, g6, zj, zv, LW⟩ := id A
    have hg1 := G.1
    have jk1 : jK Z h1 := jk.w hg.1 G (fun c k z => by have z : ((c = 104 ∧ k = 54) ∨ (c = 134 ∧ 6 ≤ k ∧ k < 12)) := z; omega)
    have ej : (xI h1 104 12).toInt = Z 0 := jk1.1 0 (by decide)
    have t1 : XT l 9 242 false 244 153 6051 77 [xf 13 104, xi (Int32.ofInt (1)), xi kk, x3] [] h1 113 [xf 13 104, xi (Int32.ofInt (1)), xi kk, x3] [] h1 := XT_path (l := l) (fr := 9) (lo := 242) (full := false) (M := 244) (n := 153) (u := 6051) (pc := 77) (L := [xf 13 104, xi (Int32.ofInt (1)), xi kk, x3]) (st := []) (h := h1) (inl := [245]) (n' := 120) (sp := [113]) (o := [1]) rfl rfl ⟨rfl, rfl, rfl⟩ rfl ⟨Nat.le_of_eq hg1.2.2.2.1, Nat.le_of_eq hg1.2.2.2.2⟩ ⟨trivial, (show (xI h1 104 12) ≤ kk from Int32.le_iff_toInt_le.mpr (by omega))⟩
    obtain rfl : k = (Z 0).toNat := by omega
    exact ⟨kk, x3, h1, t1, G, fun r hr => I1 r (by omega)⟩
  | m + 1, k, kk, x3, h1, G, hk, hm, I1, I2 => by
    obtain ⟨⟨⟨B00, B01⟩, ⟨B10, B11⟩, ⟨B20, B21⟩, B30, B31⟩, g6, zj, zv, LW⟩ := id A
    have hg1 := G.1
    have jk1 : jK Z h1 := jk.w hg.1 G (fun c k z => by have z : ((c = 104 ∧ k = 54) ∨ (c = 134 ∧ 6 ≤ k ∧ k < 12)) := z; omega)
    have ej : (xI h1 104 12).toInt = Z 0 := jk1.1 0 (by decide)
    have lk : (k : Int) < Z 0 := by omega
    have nk : kk.toNatClampNeg = k := zi_ix hk
    have sk := y_suc1 (k := kk) (by omega) (by omega)
    have ea0 : ((Int32.ofInt (6)) * (Int32.ofInt (1))).toInt = 6 := rfl
    have ea : (((Int32.ofInt (6)) * (Int32.ofInt (1))) + kk).toInt = 6 + k := by rw [y_addb (by rw [ea0]; decide) (by omega), ea0]; omega
    have na : (((Int32.ofInt (6)) * (Int32.ofInt (1))) + kk).toNatClampNeg = 6 * 1 + k := zi_ix (by rw [ea]; omega)
    have t1 : XT l 9 242 false 244 153 6051 77 [xf 13 104, xi (Int32.ofInt (1)), xi kk, x3] [] h1 88 [xf 13 104, xi (Int32.ofInt (1)), xi kk, x3] [xi kk, xi (Int32.ofInt (1)), xf 13 104] h1 := XT_path (l := l) (fr := 9) (lo := 242) (full := false) (M := 244) (n := 153) (u := 6051) (pc := 77) (L := [xf 13 104, xi (Int32.ofInt (1)), xi kk, x3]) (st := []) (h := h1) (inl := [245]) (n' := 120) (sp := [88]) (o := [0]) rfl rfl ⟨rfl, rfl, rfl⟩ rfl ⟨Nat.le_of_eq hg1.2.2.2.1, Nat.le_of_eq hg1.2.2.2.2⟩ ⟨trivial, (show ¬ (xI h1 104 12) ≤ kk from fun z => absurd (Int32.le_iff_toInt_le.mp z) (by omega))⟩
    obtain ⟨v, h2, c1, g1, ev⟩ := jk_yield1 l Z Y kk k h1 hg1 A jk1 (jw.w G (fun c k z => by have z : ((c = 104 ∧ k = 54) ∨ (c = 134 ∧ 6 ≤ k ∧ k < 12)) := z; omega)) (jh.w G (fun c k z => by have z : ((c = 104 ∧ k = 54) ∨ (c = 134 ∧ 6 ≤ k ∧ k < 12)) := z; omega)) V hk lk
    have ev2 := i32_e ev
    have t2 : XT l 9 242 false 244 153 6051 88 [xf 13 104, xi (Int32.ofInt (1)), xi kk, x3] [xi kk, xi (Int32.ofInt (1)), xf 13 104] h1 91 [xf 13 104, xi (Int32.ofInt (1)), xi kk, x3] [xi v] h2 := XT_call (l := l) (fr := 9) (lo := 242) (full := false) (M := 244) (n := 153) (u := 6051) (pc := 88) (L := [xf 13 104, xi (Int32.ofInt (1)), xi kk, x3]) (st := [xi kk, xi (Int32.ofInt (1)), xf 13 104]) (h := h1) (i := .invokevirtual 234) (aux := 3) (nx := 91) (K := 234) (vs := [xf 13 104, xi (Int32.ofInt (1)), xi kk]) (rs := [xi v]) (rest := []) rfl rfl rfl rfl rfl rfl c1 (by decide) (by decide) (Nat.le_of_ble_eq_true rfl) ⟨Nat.le_of_eq g1.1.2.2.2.1, Nat.le_of_eq g1.1.2.2.2.2⟩
    have t3 := t1.tr t2
    have t4 : XT l 9 242 false 244 153 6051 91 [xf 13 104, xi (Int32.ofInt (1)), xi kk, x3] [xi v] h2 77 [xf 13 104, xi (Int32.ofInt (1)), xi (kk + Int32.ofInt (1)), xi v] [] (xsetI h2 (xR h2 104 56) ((((Int32.ofInt (6)) * (Int32.ofInt (1))) + kk)).toNatClampNeg ((xI h2 (xR h2 104 56) ((((Int32.ofInt (6)) * (Int32.ofInt (1))) + kk)).toNatClampNeg) + v)) := XT_path (l := l) (fr := 9) (lo := 242) (full := false) (M := 244) (n := 153) (u := 6051) (pc := 91) (L := [xf 13 104, xi (Int32.ofInt (1)), xi kk, x3]) (st := [xi v]) (h := h2) (inl := [245]) (n' := 120) (sp := [77]) (o := []) rfl rfl ⟨rfl, rfl, rfl⟩ rfl ⟨Nat.le_of_eq g1.1.2.2.2.1, Nat.le_of_eq g1.1.2.2.2.2⟩ ⟨⟨⟨trivial, (vnn g1.1.1 (rfl : vRf 104 56 = [134]) (by decide))⟩, (vp_of (i := (((Int32.ofInt (6)) * (Int32.ofInt (1))) + kk)) (n := 12) (by omega) (by omega))⟩, (vp_of (i := (((Int32.ofInt (6)) * (Int32.ofInt (1))) + kk)) (n := 12) (by omega) (by omega))⟩
    rw [vref g1.1.1 (rfl : vRf 104 56 = [134])] at t4
    have t5 := t3.tr t4
    obtain ⟨hE, eE⟩ : ∃ x, x = (xsetI h2 134 ((((Int32.ofInt (6)) * (Int32.ofInt (1))) + kk)).toNatClampNeg ((xI h2 134 ((((Int32.ofInt (6)) * (Int32.ofInt (1))) + kk)).toNatClampNeg) + v)) := ⟨_, rfl⟩
    rw [← eE] at t5
    have eE2 : hE = xsetI h2 134 (6 + k) (xI h1 134 (6 + k) + v) := by rw [eE]; simp only [na]; rw [g1.2.1 134 _ (by omega)]
    have GE : mW (fun c k : Nat => ((c = 104 ∧ k = 54) ∨ (c = 134 ∧ 6 ≤ k ∧ k < 12))) h hE := by rw [eE2]; exact (G.tr (g1.w (show ((104 = 104 ∧ 54 = 54) ∨ (104 = 134 ∧ 6 ≤ 54 ∧ 54 < 12)) from by omega))).set (show ((134 = 104 ∧ (6 + k) = 54) ∨ (134 = 134 ∧ 6 ≤ (6 + k) ∧ (6 + k) < 12)) from by omega) (by rw [vI_u rfl (rfl : vRow 134 = sfull)]; exact i32r_of _)
    obtain ⟨k3, y3, h9, tq9, G9, I9⟩ := jk_go31 l Z Y h hg A jk jw jh V  m (k + 1) (kk + Int32.ofInt (1)) (xi v) hE GE (by omega) (by omega) (fun r hr => by rw [eE2]; exact if e : r = k then (by rw [e, yI_same, zRp_y lk, I2 k (Nat.le_refl _) lk, ev2]) else (by rw [yI_ne (eq_false (fun z => by have := z.2; omega)), g1.2.1 134 _ (by omega)]; exact I1 r (by omega))) (fun r q1 q2 => by rw [eE2, yI_ne (eq_false (fun z => by have := z.2; omega)), g1.2.1 134 _ (by omega)]; exact I2 r (by omega) q2)
    exact ⟨k3, y3, h9, t5.tr tq9, G9, I9⟩
set_option maxRecDepth 100000 in
set_option maxHeartbeats 4000000 in
theorem jk_go41 (l : Launch) (Z : Nat → Int) (Y : Nat → Int32) (h : XH) (hg : mI h) (A : zAll Z) (jk : jK Z h) (jw : jHf 1 Z Y h) (jh : jHow Y h) (V : zVd Z Y) : ∀ (m k : Nat) (kk : Int32) (x3 : XV) (h1 : XH), mW (fun c k : Nat => ((c = 136 ∨ c = 137) ∧ 8 ≤ k ∧ k < 16)) h h1 → kk.toInt = k → (k : Int) + m = Z 2 → (∀ r : Nat, r < k → xI h1 137 (8 + r) = zRp Z Y (40 + r)) → (∀ r : Nat, k ≤ r → (r : Int) < Z 2 → xI h1 137 (8 + r) = Y (40 + r)) → (∀ r : Nat, r < k → xI h1 136 (8 + r) = (Int32.ofInt (-2))) → ∃ k2 y3 h2, XT l 9 242 false 244 153 6051 115 [xf 13 104, xi (Int32.ofInt (1)), xi kk, x3] [] h1 191 [xf 13 104, xi (Int32.ofInt (1)), xi k2, y3] [] h2 ∧ mW (fun c k : Nat => ((c = 136 ∨ c = 137) ∧ 8 ≤ k ∧ k < 16)) h h2 ∧ (∀ r : Nat, (r : Int) < Z 2 → xI h2 137 (8 + r) = zRp Z Y (40 + r)) ∧ (∀ r : Nat, (r : Int) < Z 2 → xI h2 136 (8 + r) = (Int32.ofInt (-2)))
  | 0, k, kk, x3, h1, G, hk, hm, I1, I2, I3 => by
    obtain ⟨⟨⟨B00, B01⟩, ⟨B10, B11⟩, ⟨B20, B21⟩, B30, B31⟩, g6, zj, zv, LW⟩ := id A
    have hg1 := G.1
    have jk1 : jK Z h1 := jk.w hg.1 G (fun c k z => by have z : ((c = 136 ∨ c = 137) ∧ 8 ≤ k ∧ k < 16) := z; omega)
    have ej : (xI h1 104 14).toInt = Z 2 := jk1.1 2 (by decide)
    have t1 : XT l 9 242 false 244 153 6051 115 [xf 13 104, xi (Int32.ofInt (1)), xi kk, x3] [] h1 191 [xf 13 104, xi (Int32.ofInt (1)), xi kk, x3] [] h1 := XT_path (l := l) (fr := 9) (lo := 242) (full := false) (M := 244) (n := 153) (u := 6051) (pc := 115) (L := [xf 13 104, xi (Int32.ofInt (1)), xi kk, x3]) (st := []) (h := h1) (inl := []) (n' := 160) (sp := [191]) (o := [1]) rfl rfl ⟨rfl, rfl, rfl⟩ rfl ⟨Nat.le_of_eq hg1.2.2.2.1, Nat.le_of_eq hg1.2.2.2.2⟩ ⟨trivial, (show (xI h1 104 14) ≤ kk from Int32.le_iff_toInt_le.mpr (by omega))⟩
    obtain rfl : k = (Z 2).toNat := by omega
    exact ⟨kk, x3, h1, t1, G, fun r hr => I1 r (by omega), fun r hr => I3 r (by omega)⟩
  | m + 1, k, kk, x3, h1, G, hk, hm, I1, I2, I3 => by
    obtain ⟨⟨⟨B00, B01⟩, ⟨B10, B11⟩, ⟨B20, B21⟩, B30, B31⟩, g6, zj, zv, LW⟩ := id A
    have hg1 := G.1
    have jk1 : jK Z h1 := jk.w hg.1 G (fun c k z => by have z : ((c = 136 ∨ c = 137) ∧ 8 ≤ k ∧ k < 16) := z; omega)
    have ej : (xI h1 104 14).toInt = Z 2 := jk1.1 2 (by decide)
    have lk : (k : Int) < Z 2 := by omega
    have nk : kk.toNatClampNeg = k := zi_ix hk
    have sk := y_suc1 (k := kk) (by omega) (by omega)
    have ea0 : ((Int32.ofInt (8)) * (Int32.ofInt (1))).toInt = 8 := rfl
    have ea : (((Int32.ofInt (8)) * (Int32.ofInt (1))) + kk).toInt = 8 + k := by rw [y_addb (by rw [ea0]; decide) (by omega), ea0]; omega
    have na : (((Int32.ofInt (8)) * (Int32.ofInt (1))) + kk).toNatClampNeg = 8 * 1 + k := zi_ix (by rw [ea]; omega)
    have eh : (xI h1 135 (((Int32.ofInt (8)) * (Int32.ofInt (1))) + kk).toNatClampNeg).toInt = (Y (20 + k)).toInt := by rw [na, G.k (c := 135) (fun z => by have z : ((135 = 136 ∨ 135 = 137) ∧ 8 ≤ (8 + k) ∧ (8 + k) < 16) := z; omega)]; exact congrArg Int32.toInt (jw.2.1 k lk).1
    have bh := V.2.1 k lk
    obtain ⟨H, hH⟩ : ∃ H : Nat, H = (Y (20 + k)).toInt.toNat := ⟨_, rfl⟩
    have eH : (xI h1 135 (((Int32.ofInt (8)) * (Int32.ofInt (1))) + kk).toNatClampNeg).toInt = H := by omega
    have eb0 : ((Int32.ofInt (6)) * (Int32.ofInt (1))).toInt = 6 := rfl
    have eb : (((Int32.ofInt (6)) * (Int32.ofInt (1))) + xI h1 135 (((Int32.ofInt (8)) * (Int32.ofInt (1))) + kk).toNatClampNeg).toInt = 6 + H := by rw [y_addb (by rw [eb0]; decide) (by omega), eb0]; omega
    have nb : (((Int32.ofInt (6)) * (Int32.ofInt (1))) + xI h1 135 (((Int32.ofInt (8)) * (Int32.ofInt (1))) + kk).toNatClampNeg).toNatClampNeg = 6 * 1 + H := zi_ix (by rw [eb]; omega)
    have es : (xI h1 133 (((Int32.ofInt (6)) * (Int32.ofInt (1))) + xI h1 135 (((Int32.ofInt (8)) * (Int32.ofInt (1))) + kk).toNatClampNeg).toNatClampNeg).toInt = (Y H).toInt := by rw [nb, G.k (c := 133) (fun z => by have z : ((133 = 136 ∨ 133 = 137) ∧ 8 ≤ (6 + H) ∧ (6 + H) < 16) := z; omega)]; exact congrArg Int32.toInt (jw.1 H (by omega))
    have ez : (xI h1 118 kk.toNatClampNeg).toInt = Z (190 + k) := by rw [nk]; exact jk1.2.2.1 9 k (by decide) lk
    by_cases cb1 : (xI h1 (xR h1 104 33) (kk).toNatClampNeg) ≤ (xI h1 (xR h1 104 55) ((((Int32.ofInt (6)) * (Int32.ofInt (1))) + (xI h1 (xR h1 104 57) ((((Int32.ofInt (8)) * (Int32.ofInt (1))) + kk)).toNatClampNeg))).toNatClampNeg)
    · have e_1 : (Int32.ofInt (1)).toInt = 1 := rfl
      have e_6 : (Int32.ofInt (6)).toInt = 6 := rfl
      have e_8 : (Int32.ofInt (8)).toInt = 8 := rfl
      have cb1r := cb1
      rw [vref hg1.1 (rfl : vRf 104 33 = [118]), vref hg1.1 (rfl : vRf 104 55 = [133]), vref hg1.1 (rfl : vRf 104 57 = [135])] at cb1r
      have dcb1 : (xI h1 118 (kk).toNatClampNeg).toInt ≤ (xI h1 133 ((((Int32.ofInt (6)) * (Int32.ofInt (1))) + (xI h1 135 ((((Int32.ofInt (8)) * (Int32.ofInt (1))) + kk)).toNatClampNeg))).toNatClampNeg).toInt := Int32.le_iff_toInt_le.mp cb1r
      have t2 : XT l 9 242 false 244 153 6051 115 [xf 13 104, xi (Int32.ofInt (1)), xi kk, x3] [] h1 115 [xf 13 104, xi (Int32.ofInt (1)), xi (kk + Int32.ofInt (1)), x3] [] (xsetI (xsetI h1 (xR h1 104 59) ((((Int32.ofInt (8)) * (Int32.ofInt (1))) + kk)).toNatClampNeg ((xI h1 (xR h1 104 59) ((((Int32.ofInt (8)) * (Int32.ofInt (1))) + kk)).toNatClampNeg) + (Int32.ofInt (0)))) (xR h1 104 58) ((((Int32.ofInt (8)) * (Int32.ofInt (1))) + kk)).toNatClampNeg (Int32.ofInt (-2))) := XT_path (l := l) (fr := 9) (lo := 242) (full := false) (M := 244) (n := 153) (u := 6051) (pc := 115) (L := [xf 13 104, xi (Int32.ofInt (1)), xi kk, x3]) (st := []) (h := h1) (inl := []) (n' := 160) (sp := [115]) (o := [0, 1]) rfl rfl ⟨rfl, rfl, rfl⟩ rfl ⟨Nat.le_of_eq hg1.2.2.2.1, Nat.le_of_eq hg1.2.2.2.2⟩ ⟨⟨⟨⟨⟨⟨⟨⟨⟨⟨⟨⟨⟨trivial, (show ¬ (xI h1 104 14) ≤ kk from fun z => absurd (Int32.le_iff_toInt_le.mp z) (by omega))⟩, (vnn hg1.1 (rfl : vRf 104 59 = [137]) (by decide))⟩, (vp_of (i := (((Int32.ofInt (8)) * (Int32.ofInt (1))) + kk)) (n := 16) (by omega) (by omega))⟩, (vnn hg1.1 (rfl : vRf 104 33 = [118]) (by decide))⟩, (vp_of (i := kk) (n := 16) (by omega) (by omega))⟩, (vnn hg1.1 (rfl : vRf 104 55 = [133]) (by decide))⟩, (vnn hg1.1 (rfl : vRf 104 57 = [135]) (by decide))⟩, (vp_of (i := (((Int32.ofInt (8)) * (Int32.ofInt (1))) + kk)) (n := 16) (by omega) (by omega))⟩, (show vp_in ((((Int32.ofInt (6)) * (Int32.ofInt (1))) + (xI h1 (xR h1 104 57) ((((Int32.ofInt (8)) * (Int32.ofInt (1))) + kk)).toNatClampNeg))) (12) from (by rw [vref hg1.1 (rfl : vRf 104 57 = [135])]; exact (vp_of (i := (((Int32.ofInt (6)) * (Int32.ofInt (1))) + (xI h1 135 ((((Int32.ofInt (8)) * (Int32.ofInt (1))) + kk)).toNatClampNeg))) (n := 12) (by omega) (by omega) : vp_in ((((Int32.ofInt (6)) * (Int32.ofInt (1))) + (xI h1 135 ((((Int32.ofInt (8)) * (Int32.ofInt (1))) + kk)).toNatClampNeg))) (12))))⟩, cb1⟩, (vp_of (i := (((Int32.ofInt (8)) * (Int32.ofInt (1))) + kk)) (n := 16) (by omega) (by omega))⟩, (vnn hg1.1 (rfl : vRf 104 58 = [136]) (by decide))⟩, (vp_of (i := (((Int32.ofInt (8)) * (Int32.ofInt (1))) + kk)) (n := 16) (by omega) (by omega))⟩
      rw [vref hg1.1 (rfl : vRf 104 59 = [137]), vref hg1.1 (rfl : vRf 104 58 = [136])] at t2
      obtain ⟨hE, eE⟩ : ∃ x, x = (xsetI (xsetI h1 137 ((((Int32.ofInt (8)) * (Int32.ofInt (1))) + kk)).toNatClampNeg ((xI h1 137 ((((Int32.ofInt (8)) * (Int32.ofInt (1))) + kk)).toNatClampNeg) + (Int32.ofInt (0)))) 136 ((((Int32.ofInt (8)) * (Int32.ofInt (1))) + kk)).toNatClampNeg (Int32.ofInt (-2))) := ⟨_, rfl⟩
      rw [← eE] at t2
      have eE2 : hE = xsetI (xsetI h1 137 (8 + k) (xI h1 137 (8 + k) + (Int32.ofInt (0)))) 136 (8 + k) (Int32.ofInt (-2)) := by rw [eE]; simp only [na]
      have GE : mW (fun c k : Nat => ((c = 136 ∨ c = 137) ∧ 8 ≤ k ∧ k < 16)) h hE := by rw [eE2]; exact (G.set (show ((137 = 136 ∨ 137 = 137) ∧ 8 ≤ (8 + k) ∧ (8 + k) < 16) from by omega) (by rw [vI_u rfl (rfl : vRow 137 = sfull)]; exact i32r_of _)).set (show ((136 = 136 ∨ 136 = 137) ∧ 8 ≤ (8 + k) ∧ (8 + k) < 16) from by omega) (by rw [vI_u rfl (rfl : vRow 136 = (-2, 1))]; exact (by decide))
      have eK : xI hE 137 (8 + k) = zRp Z Y (40 + k) := by rw [eE2, yI_c (by decide), yI_same, zRp_b B01 lk, ← hH, if_neg (by omega), I2 k (Nat.le_refl _) lk]; exact Int32.add_zero _
      have eO : ∀ r : Nat, ¬ r = k → xI hE 137 (8 + r) = xI h1 137 (8 + r) := fun r hr => by rw [eE2, yI_c (by decide)]; exact yI_ne (eq_false (fun z => by have := z.2; omega))
      obtain ⟨k3, y3, h9, tq9, G9, I9, I10⟩ := jk_go41 l Z Y h hg A jk jw jh V m (k + 1) (kk + Int32.ofInt (1)) (x3) hE GE (by omega) (by omega) (fun r hr => if e : r = k then (by rw [e]; exact eK) else (by rw [eO r e]; exact I1 r (by omega))) (fun r q1 q2 => by rw [eO r (by omega)]; exact I2 r (by omega) q2) (fun r hr => by rw [eE2]; exact if e : r = k then (by rw [e]; exact yI_same) else (by rw [yI_ne (eq_false (fun z => by have := z.2; omega)), yI_c (by decide)]; exact I3 r (by omega)))
      exact ⟨k3, y3, h9, t2.tr tq9, G9, I9, I10⟩
    · have e_1 : (Int32.ofInt (1)).toInt = 1 := rfl
      have e_6 : (Int32.ofInt (6)).toInt = 6 := rfl
      have e_8 : (Int32.ofInt (8)).toInt = 8 := rfl
      have cb1r := cb1
      rw [vref hg1.1 (rfl : vRf 104 33 = [118]), vref hg1.1 (rfl : vRf 104 55 = [133]), vref hg1.1 (rfl : vRf 104 57 = [135])] at cb1r
      have dcb1 : (xI h1 133 ((((Int32.ofInt (6)) * (Int32.ofInt (1))) + (xI h1 135 ((((Int32.ofInt (8)) * (Int32.ofInt (1))) + kk)).toNatClampNeg))).toNatClampNeg).toInt < (xI h1 118 (kk).toNatClampNeg).toInt := Int32.lt_iff_toInt_lt.mp (Int32.not_le.mp cb1r)
      have t3 : XT l 9 242 false 244 153 6051 115 [xf 13 104, xi (Int32.ofInt (1)), xi kk, x3] [] h1 115 [xf 13 104, xi (Int32.ofInt (1)), xi (kk + Int32.ofInt (1)), x3] [] (xsetI (xsetI h1 (xR h1 104 59) ((((Int32.ofInt (8)) * (Int32.ofInt (1))) + kk)).toNatClampNeg ((xI h1 (xR h1 104 59) ((((Int32.ofInt (8)) * (Int32.ofInt (1))) + kk)).toNatClampNeg) + (Int32.ofInt (1)))) (xR h1 104 58) ((((Int32.ofInt (8)) * (Int32.ofInt (1))) + kk)).toNatClampNeg (Int32.ofInt (-2))) := XT_path (l := l) (fr := 9) (lo := 242) (full := false) (M := 244) (n := 153) (u := 6051) (pc := 115) (L := [xf 13 104, xi (Int32.ofInt (1)), xi kk, x3]) (st := []) (h := h1) (inl := []) (n' := 160) (sp := [115]) (o := [0, 0]) rfl rfl ⟨rfl, rfl, rfl⟩ rfl ⟨Nat.le_of_eq hg1.2.2.2.1, Nat.le_of_eq hg1.2.2.2.2⟩ ⟨⟨⟨⟨⟨⟨⟨⟨⟨⟨⟨⟨⟨trivial, (show ¬ (xI h1 104 14) ≤ kk from fun z => absurd (Int32.le_iff_toInt_le.mp z) (by omega))⟩, (vnn hg1.1 (rfl : vRf 104 59 = [137]) (by decide))⟩, (vp_of (i := (((Int32.ofInt (8)) * (Int32.ofInt (1))) + kk)) (n := 16) (by omega) (by omega))⟩, (vnn hg1.1 (rfl : vRf 104 33 = [118]) (by decide))⟩, (vp_of (i := kk) (n := 16) (by omega) (by omega))⟩, (vnn hg1.1 (rfl : vRf 104 55 = [133]) (by decide))⟩, (vnn hg1.1 (rfl : vRf 104 57 = [135]) (by decide))⟩, (vp_of (i := (((Int32.ofInt (8)) * (Int32.ofInt (1))) + kk)) (n := 16) (by omega) (by omega))⟩, (show vp_in ((((Int32.ofInt (6)) * (Int32.ofInt (1))) + (xI h1 (xR h1 104 57) ((((Int32.ofInt (8)) * (Int32.ofInt (1))) + kk)).toNatClampNeg))) (12) from (by rw [vref hg1.1 (rfl : vRf 104 57 = [135])]; exact (vp_of (i := (((Int32.ofInt (6)) * (Int32.ofInt (1))) + (xI h1 135 ((((Int32.ofInt (8)) * (Int32.ofInt (1))) + kk)).toNatClampNeg))) (n := 12) (by omega) (by omega) : vp_in ((((Int32.ofInt (6)) * (Int32.ofInt (1))) + (xI h1 135 ((((Int32.ofInt (8)) * (Int32.ofInt (1))) + kk)).toNatClampNeg))) (12))))⟩, cb1⟩, (vp_of (i := (((Int32.ofInt (8)) * (Int32.ofInt (1))) + kk)) (n := 16) (by omega) (by omega))⟩, (vnn hg1.1 (rfl : vRf 104 58 = [136]) (by decide))⟩, (vp_of (i := (((Int32.ofInt (8)) * (Int32.ofInt (1))) + kk)) (n := 16) (by omega) (by omega))⟩
      rw [vref hg1.1 (rfl : vRf 104 59 = [137]), vref hg1.1 (rfl : vRf 104 58 = [136])] at t3
      obtain ⟨hE, eE⟩ : ∃ x, x = (xsetI (xsetI h1 137 ((((Int32.ofInt (8)) * (Int32.ofInt (1))) + kk)).toNatClampNeg ((xI h1 137 ((((Int32.ofInt (8)) * (Int32.ofInt (1))) + kk)).toNatClampNeg) + (Int32.ofInt (1)))) 136 ((((Int32.ofInt (8)) * (Int32.ofInt (1))) + kk)).toNatClampNeg (Int32.ofInt (-2))) := ⟨_, rfl⟩
      rw [← eE] at t3
      have eE2 : hE = xsetI (xsetI h1 137 (8 + k) (xI h1 137 (8 + k) + (Int32.ofInt (1)))) 136 (8 + k) (Int32.ofInt (-2)) := by rw [eE]; simp only [na]
      have GE : mW (fun c k : Nat => ((c = 136 ∨ c = 137) ∧ 8 ≤ k ∧ k < 16)) h hE := by rw [eE2]; exact (G.set (show ((137 = 136 ∨ 137 = 137) ∧ 8 ≤ (8 + k) ∧ (8 + k) < 16) from by omega) (by rw [vI_u rfl (rfl : vRow 137 = sfull)]; exact i32r_of _)).set (show ((136 = 136 ∨ 136 = 137) ∧ 8 ≤ (8 + k) ∧ (8 + k) < 16) from by omega) (by rw [vI_u rfl (rfl : vRow 136 = (-2, 1))]; exact (by decide))
      have eK : xI hE 137 (8 + k) = zRp Z Y (40 + k) := by rw [eE2, yI_c (by decide), yI_same, zRp_b B01 lk, ← hH, if_pos (by omega), I2 k (Nat.le_refl _) lk]
      have eO : ∀ r : Nat, ¬ r = k → xI hE 137 (8 + r) = xI h1 137 (8 + r) := fun r hr => by rw [eE2, yI_c (by decide)]; exact yI_ne (eq_false (fun z => by have := z.2; omega))
      obtain ⟨k3, y3, h9, tq9, G9, I9, I10⟩ := jk_go41 l Z Y h hg A jk jw jh V m (k + 1) (kk + Int32.ofInt (1)) (x3) hE GE (by omega) (by omega) (fun r hr => if e : r = k then (by rw [e]; exact eK) else (by rw [eO r e]; exact I1 r (by omega))) (fun r q1 q2 => by rw [eO r (by omega)]; exact I2 r (by omega) q2) (fun r hr => by rw [eE2]; exact if e : r = k then (by rw [e]; exact yI_same) else (by rw [yI_ne (eq_false (fun z => by have := z.2; omega)), yI_c (by decide)]; exact I3 r (by omega)))
      exact ⟨k3, y3, h9, t3.tr tq9, G9, I9, I10⟩
set_option maxRecDepth 100000 in
set_option maxHeartbeats 4000000 in
theorem jk_goOn1s (l : Launch) (Z : Nat → Int) (Y : Nat → Int32) (h : XH) (hg : mI h) (A : zAll Z) (jk : jK Z h) (jw : jHf 1 Z Y h) (jh : jHow Y h) (V : zVd Z Y) (nm : ¬ (Y 51).toInt = 4) (jy : jY 1 Z Y h) : ∃ h', CX l 9 242 false 244 [xf 13 104, xi (Int32.ofInt (1))] h [] h' ∧ mW (fun c k : Nat => ((c = 104 ∧ k = 54) ∨ c = 139 ∨ ((c = 133 ∨ c = 134) ∧ 6 ≤ k ∧ k < 12) ∨ ((c = 136 ∨ c = 137) ∧ 8 ≤ k ∧ k < 16) ∨ (c = 138 ∧ k = 1))) h h' ∧ jHf 1 Z (zPs Z Y) h' ∧ jY 1 Z (zPs Z Y) h' := by
  obtain ⟨⟨⟨B00, B01⟩, ⟨B10, B11⟩, ⟨B20, B21⟩, B30, B31⟩, g6, zj, zv, LW⟩ := id A
  have V1 := zVd_str A.1 V
  have eb_ : ((Int32.ofInt (1))).toInt = 1 := rfl
  have t1 : XT l 9 242 false 244 153 6051 0 [xf 13 104, xi (Int32.ofInt (1)), xun, xun] [] h 2 [xf 13 104, xi (Int32.ofInt (1)), xi (Int32.ofInt (0)), xun] [] h := XT_path (l := l) (fr := 9) (lo := 242) (full := false) (M := 244) (n := 153) (u := 6051) (pc := 0) (L := [xf 13 104, xi (Int32.ofInt (1)), xun, xun]) (st := []) (h := h) (inl := []) (n' := 80) (sp := [2]) (o := []) rfl rfl ⟨rfl, rfl, rfl⟩ rfl ⟨Nat.le_of_eq hg.2.2.2.1, Nat.le_of_eq hg.2.2.2.2⟩ trivial
  obtain ⟨k_h2, y_h2, h2, t_h2, G2, I2⟩ := jk_go11 l Z Y h hg A jk jw jh V nm (Z 0).toNat 0 (Int32.ofInt (0)) (xun) h (mW.rf hg) rfl (by omega) (fun r hr => absurd hr (Nat.not_lt_zero r))
  have T_h2 := t1.tr t_h2
  have t2 : XT l 9 242 false 244 153 6051 28 [xf 13 104, xi (Int32.ofInt (1)), xi k_h2, y_h2] [] h2 30 [xf 13 104, xi (Int32.ofInt (1)), xi (Int32.ofInt (0)), y_h2] [] h2 := XT_path (l := l) (fr := 9) (lo := 242) (full := false) (M := 244) (n := 153) (u := 6051) (pc := 28) (L := [xf 13 104, xi (Int32.ofInt (1)), xi k_h2, y_h2]) (st := []) (h := h2) (inl := []) (n' := 80) (sp := [30]) (o := []) rfl rfl ⟨rfl, rfl, rfl⟩ rfl ⟨Nat.le_of_eq G2.1.2.2.2.1, Nat.le_of_eq G2.1.2.2.2.2⟩ trivial
  have t3 := T_h2.tr t2
  have jk2 := jk.w hg.1 G2 (fun c k z => by have z : ((c = 104 ∧ k = 54) ∨ c = 139) := z; omega)
  have jw2 := jw.w G2 (fun c k z => by have z : ((c = 104 ∧ k = 54) ∨ c = 139) := z; omega)
  have jh2 := jh.w G2 (fun c k z => by have z : ((c = 104 ∧ k = 54) ∨ c = 139) := z; omega)
  obtain ⟨k_h3, y_h3, h3, t_h3, G3, I3⟩ := jk_go21 l Z Y h2 G2.1 A jk2 jw2 jh2 V I2 (Z 0).toNat 0 (Int32.ofInt (0)) (y_h2) h2 (mW.rf G2.1) rfl (by omega) (fun r hr => absurd hr (Nat.not_lt_zero r)) (fun r _ hr => by have z := jw2.1 r hr; exact z)
  have T_h3 := t3.tr t_h3
  have t4 : XT l 9 242 false 244 153 6051 75 [xf 13 104, xi (Int32.ofInt (1)), xi k_h3, y_h3] [] h3 77 [xf 13 104, xi (Int32.ofInt (1)), xi (Int32.ofInt (0)), y_h3] [] h3 := XT_path (l := l) (fr := 9) (lo := 242) (full := false) (M := 244) (n := 153) (u := 6051) (pc := 75) (L := [xf 13 104, xi (Int32.ofInt (1)), xi k_h3, y_h3]) (st := []) (h := h3) (inl := []) (n' := 80) (sp := [77]) (o := []) rfl rfl ⟨rfl, rfl, rfl⟩ rfl ⟨Nat.le_of_eq G3.1.2.2.2.1, Nat.le_of_eq G3.1.2.2.2.2⟩ trivial
  have t5 := T_h3.tr t4
  have jk3 := jk2.w G2.1.1 G3 (fun c k z => by have z : (c = 133 ∧ 6 ≤ k ∧ k < 12) := z; omega)
  have jh3 : jHow (zStr Z Y) h3 := (jh2.w G3 (fun c k z => by have z : (c = 133 ∧ 6 ≤ k ∧ k < 12) := z; omega)).sm (if_neg (by omega)) (if_neg (by omega))
  have jw3 : jHf 1 Z (zStr Z Y) h3 := by
    obtain ⟨a1, a2, a3⟩ := jw2
    have f : ∀ i : Nat, 6 ≤ i → zStr Z Y i = Y i := fun i hi => if_neg (by omega)
    refine ⟨fun r hr => ?_, fun p hp => ?_, ?_⟩
    · have z : xI h3 133 (6 + r) = zSt (Y r) (zVs Z Y r) := I3 r hr
      exact z.trans (if_pos hr).symm
    · rw [G3.k (c := 135) (k := 8 * 1 + p) (fun z => by have z : (135 = 133 ∧ 6 ≤ (8 * 1 + p) ∧ (8 * 1 + p) < 12) := z; omega), G3.k (c := 136) (k := 8 * 1 + p) (fun z => by have z : (136 = 133 ∧ 6 ≤ (8 * 1 + p) ∧ (8 * 1 + p) < 12) := z; omega), f _ (by omega), f _ (by omega)]
      exact a2 p hp
    · rw [G3.k (c := 138) (k := 1) (fun z => by have z : (138 = 133 ∧ 6 ≤ 1 ∧ 1 < 12) := z; omega), f _ (by omega)]
      exact a3
  have y3 : ∀ r : Nat, (r : Int) < Z 0 → xI h3 134 (6 + r) = zStr Z Y (10 + r) := fun r hr => by
    rw [G3.k (c := 134) (fun z => by have z : (134 = 133 ∧ 6 ≤ (6 + r) ∧ (6 + r) < 12) := z; omega), G2.k (c := 134) (fun z => by have z : ((134 = 104 ∧ (6 + r) = 54) ∨ 134 = 139) := z; omega), show zStr Z Y (10 + r) = Y (10 + r) from if_neg (by omega)]
    have z := jy.1 r hr
    exact z
  obtain ⟨k_h4, y_h4, h4, t_h4, G4, I4⟩ := jk_go31 l Z (zStr Z Y) h3 G3.1 A jk3 jw3 jh3 V1 (Z 0).toNat 0 (Int32.ofInt (0)) (y_h3) h3 (mW.rf G3.1) rfl (by omega) (fun r hr => absurd hr (Nat.not_lt_zero r)) (fun r _ hr => y3 r hr)
  have T_h4 := t5.tr t_h4
  have t6 : XT l 9 242 false 244 153 6051 113 [xf 13 104, xi (Int32.ofInt (1)), xi k_h4, y_h4] [] h4 115 [xf 13 104, xi (Int32.ofInt (1)), xi (Int32.ofInt (0)), y_h4] [] h4 := XT_path (l := l) (fr := 9) (lo := 242) (full := false) (M := 244) (n := 153) (u := 6051) (pc := 113) (L := [xf 13 104, xi (Int32.ofInt (1)), xi k_h4, y_h4]) (st := []) (h := h4) (inl := []) (n' := 80) (sp := [115]) (o := []) rfl rfl ⟨rfl, rfl, rfl⟩ rfl ⟨Nat.le_of_eq G4.1.2.2.2.1, Nat.le_of_eq G4.1.2.2.2.2⟩ trivial
  have t7 := T_h4.tr t6
  have jk4 := jk3.w G3.1.1 G4 (fun c k z => by have z : ((c = 104 ∧ k = 54) ∨ (c = 134 ∧ 6 ≤ k ∧ k < 12)) := z; omega)
  have jw4 := jw3.w G4 (fun c k z => by have z : ((c = 104 ∧ k = 54) ∨ (c = 134 ∧ 6 ≤ k ∧ k < 12)) := z; omega)
  have jh4 := jh3.w G4 (fun c k z => by have z : ((c = 104 ∧ k = 54) ∨ (c = 134 ∧ 6 ≤ k ∧ k < 12)) := z; omega)
  have y4 : ∀ r : Nat, (r : Int) < Z 2 → xI h4 137 (8 + r) = zStr Z Y (40 + r) := fun r hr => by
    rw [G4.k (c := 137) (fun z => by have z : ((137 = 104 ∧ (8 + r) = 54) ∨ (137 = 134 ∧ 6 ≤ (8 + r) ∧ (8 + r) < 12)) := z; omega), G3.k (c := 137) (fun z => by have z : (137 = 133 ∧ 6 ≤ (8 + r) ∧ (8 + r) < 12) := z; omega), G2.k (c := 137) (fun z => by have z : ((137 = 104 ∧ (8 + r) = 54) ∨ 137 = 139) := z; omega), show zStr Z Y (40 + r) = Y (40 + r) from if_neg (by omega)]
    have z := jy.2 r hr
    exact z
  obtain ⟨k_h5, y_h5, h5, t_h5, G5, I5, J5⟩ := jk_go41 l Z (zStr Z Y) h4 G4.1 A jk4 jw4 jh4 V1 (Z 2).toNat 0 (Int32.ofInt (0)) (y_h4) h4 (mW.rf G4.1) rfl (by omega) (fun r hr => absurd hr (Nat.not_lt_zero r)) (fun r _ hr => y4 r hr) (fun r hr => absurd hr (Nat.not_lt_zero r))
  have T_h5 := t7.tr t_h5
  have t8 : XT l 9 242 false 244 153 6051 191 [xf 13 104, xi (Int32.ofInt (1)), xi k_h5, y_h5] [] h5 201 [xf 13 104, xi (Int32.ofInt (1)), xi k_h5, y_h5] [] (xsetI h5 (xR h5 104 60) ((Int32.ofInt (1))).toNatClampNeg ((xI h5 (xR h5 104 60) ((Int32.ofInt (1))).toNatClampNeg) + (Int32.ofInt (1)))) := XT_path (l := l) (fr := 9) (lo := 242) (full := false) (M := 244) (n := 153) (u := 6051) (pc := 191) (L := [xf 13 104, xi (Int32.ofInt (1)), xi k_h5, y_h5]) (st := []) (h := h5) (inl := []) (n' := 80) (sp := [201]) (o := []) rfl rfl ⟨rfl, rfl, rfl⟩ rfl ⟨Nat.le_of_eq G5.1.2.2.2.1, Nat.le_of_eq G5.1.2.2.2.2⟩ ⟨⟨⟨trivial, (vnn G5.1.1 (rfl : vRf 104 60 = [138]) (by decide))⟩, (vp_of (i := (Int32.ofInt (1))) (n := 2) (by omega) (by omega))⟩, (vp_of (i := (Int32.ofInt (1))) (n := 2) (by omega) (by omega))⟩
  rw [vref G5.1.1 (rfl : vRf 104 60 = [138])] at t8
  have t9 := T_h5.tr t8
  obtain ⟨hE, eE⟩ : ∃ x, x = (xsetI h5 138 ((Int32.ofInt (1))).toNatClampNeg ((xI h5 138 ((Int32.ofInt (1))).toNatClampNeg) + (Int32.ofInt (1)))) := ⟨_, rfl⟩
  have eE2 : hE = xsetI h5 138 1 (xI h5 138 1 + (Int32.ofInt (1))) := eE
  have g5 : mW (fun c k : Nat => (c = 138 ∧ k = 1)) h5 hE := by rw [eE2]; exact (mW.rf G5.1).set (show (138 = 138 ∧ 1 = 1) from by omega) (by rw [vI_u rfl (rfl : vRow 138 = sfull)]; exact i32r_of _)
  have GE : mW (fun c k : Nat => ((c = 104 ∧ k = 54) ∨ c = 139 ∨ ((c = 133 ∨ c = 134) ∧ 6 ≤ k ∧ k < 12) ∨ ((c = 136 ∨ c = 137) ∧ 8 ≤ k ∧ k < 16) ∨ (c = 138 ∧ k = 1))) h hE := ((((G2.mono (fun c k z => by have z : ((c = 104 ∧ k = 54) ∨ c = 139) := z; show ((c = 104 ∧ k = 54) ∨ c = 139 ∨ ((c = 133 ∨ c = 134) ∧ 6 ≤ k ∧ k < 12) ∨ ((c = 136 ∨ c = 137) ∧ 8 ≤ k ∧ k < 16) ∨ (c = 138 ∧ k = 1)); omega)).tr (G3.mono (fun c k z => by have z : (c = 133 ∧ 6 ≤ k ∧ k < 12) := z; show ((c = 104 ∧ k = 54) ∨ c = 139 ∨ ((c = 133 ∨ c = 134) ∧ 6 ≤ k ∧ k < 12) ∨ ((c = 136 ∨ c = 137) ∧ 8 ≤ k ∧ k < 16) ∨ (c = 138 ∧ k = 1)); omega))).tr (G4.mono (fun c k z => by have z : ((c = 104 ∧ k = 54) ∨ (c = 134 ∧ 6 ≤ k ∧ k < 12)) := z; show ((c = 104 ∧ k = 54) ∨ c = 139 ∨ ((c = 133 ∨ c = 134) ∧ 6 ≤ k ∧ k < 12) ∨ ((c = 136 ∨ c = 137) ∧ 8 ≤ k ∧ k < 16) ∨ (c = 138 ∧ k = 1)); omega))).tr (G5.mono (fun c k z => by have z : ((c = 136 ∨ c = 137) ∧ 8 ≤ k ∧ k < 16) := z; show ((c = 104 ∧ k = 54) ∨ c = 139 ∨ ((c = 133 ∨ c = 134) ∧ 6 ≤ k ∧ k < 12) ∨ ((c = 136 ∨ c = 137) ∧ 8 ≤ k ∧ k < 16) ∨ (c = 138 ∧ k = 1)); omega))).tr (g5.mono (fun c k z => by have z : (c = 138 ∧ k = 1) := z; show ((c = 104 ∧ k = 54) ∨ c = 139 ∨ ((c = 133 ∨ c = 134) ∧ 6 ≤ k ∧ k < 12) ∨ ((c = 136 ∨ c = 137) ∧ 8 ≤ k ∧ k < 16) ∨ (c = 138 ∧ k = 1)); omega))
  rw [← eE] at t9
  have f : ∀ i, ¬ (30 ≤ i ∧ i < 40) → ¬ i = 50 → zPs Z Y i = zRp Z (zStr Z Y) i := fun i h1 h2 => (if_neg h1).trans (if_neg h2)
  have n5 : ∀ c k, ¬ c = 138 → xI hE c k = xI h5 c k := fun c k hc => g5.k (fun z => hc z.1)
  refine ⟨hE, CX_ofT (h' := hE) (by decide) rfl rfl trivial ⟨_, _, _, rfl, rfl, rfl⟩ rfl ⟨Nat.le_of_eq GE.1.2.2.2.1.symm, Nat.le_of_eq GE.1.2.2.2.2.symm⟩ t9, GE, ⟨fun r hr => ?_, fun p hp => ⟨?_, ?_⟩, ?_⟩, ⟨fun r hr => ?_, fun p hp => ?_⟩⟩
  · rw [f r (by omega) (by omega), zRp_o A.1 r (by omega), n5 133 _ (by decide), G5.k (c := 133) (k := 6 * 1 + r) (fun z => by have z : ((133 = 136 ∨ 133 = 137) ∧ 8 ≤ (6 * 1 + r) ∧ (6 * 1 + r) < 16) := z; omega)]
    exact jw4.1 r hr
  · rw [f (20 + p) (by omega) (by omega), zRp_o A.1 (20 + p) (by omega), n5 135 _ (by decide), G5.k (c := 135) (k := 8 * 1 + p) (fun z => by have z : ((135 = 136 ∨ 135 = 137) ∧ 8 ≤ (8 * 1 + p) ∧ (8 * 1 + p) < 16) := z; omega)]
    exact (jw4.2.1 p hp).1
  · rw [n5 136 _ (by decide), show zPs Z Y (30 + p) = (Int32.ofInt (2)) from if_pos (by omega)]
    have z : xI h5 136 (8 + p) = (Int32.ofInt (-2)) := J5 p hp
    exact z
  · have z := jw4.2.2
    rw [eE2, yI_same, G5.k (c := 138) (k := 1) (fun z => by have z : ((138 = 136 ∨ 138 = 137) ∧ 8 ≤ 1 ∧ 1 < 16) := z; omega), z, ← zRp_o (Y := zStr Z Y) A.1 50 (by decide)]
    have zz : zCls (zRp Z (zStr Z Y)) 50 = zRp Z (zStr Z Y) 50 + Int32.ofInt (1) := (if_neg (by decide)).trans (if_pos rfl)
    exact zz.symm
  · rw [f (10 + r) (by omega) (by omega), n5 134 _ (by decide), G5.k (c := 134) (k := 6 * 1 + r) (fun z => by have z : ((134 = 136 ∨ 134 = 137) ∧ 8 ≤ (6 * 1 + r) ∧ (6 * 1 + r) < 16) := z; omega)]
    have z := I4 r hr
    exact z
  · rw [f (40 + p) (by omega) (by omega), n5 137 _ (by decide)]
    have z := I5 p hp
    exact z
