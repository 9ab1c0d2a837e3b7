/-! THE MODEL'S CALLS THAT CHANGE THE WORLD. -/
theorem jHf.o {b : Nat} {Z : Nat → Int} {Y : Nat → Int32} {h h' : XH} (a : jHf b Z Y h) (e : ∀ c k, 133 ≤ c → c ≤ 138 → xI h' c k = xI h c k) : jHf b Z Y h' := by
  obtain ⟨a1, a2, a3⟩ := a
  exact ⟨fun r hr => by rw [e 133 _ (by decide) (by decide)]; exact a1 r hr, fun p hp => by rw [e 135 _ (by decide) (by decide), e 136 _ (by decide) (by decide)]; exact a2 p hp, (e 138 _ (by decide) (by decide)).trans a3⟩
def jSn (e o : Nat) (Z : Nat → Int) (Y : Nat → Int32) (h : XH) : Prop := (∀ p : Nat, (p : Int) < Z 2 → xI h e (o + p) = (if (Y (30 + p)).toInt = 2 then Int32.ofInt (-2) else Y (30 + p)) ∧ xI h e (o + 8 + p) = Y (20 + p)) ∧ ∀ r : Nat, (r : Int) < Z 0 → xI h e (o + 16 + r) = Y r
def jPa (n : Nat) (U : Nat → Nat → Int32) (Z : Nat → Int) (h : XH) : Prop := (xI h 104 76).toInt = n ∧ ∀ k, k < n → jSn 149 (22 * k) Z (U k) h
def jIm (Z : Nat → Int) (X : Nat → Int32) (h : XH) : Prop := jSn 150 0 Z X h ∧ (∀ r : Nat, (r : Int) < Z 0 → xI h 151 r = X (10 + r)) ∧ (∀ p : Nat, (p : Int) < Z 2 → xI h 151 (6 + p) = X (40 + p)) ∧ xI h 151 14 = X 50
theorem jSn.fr {e o : Nat} {Z : Nat → Int} {Y : Nat → Int32} {h h' : XH} (B : zcB Z) (a : jSn e o Z Y h) (f : ∀ k, o ≤ k → k < o + 22 → xI h' e k = xI h e k) : jSn e o Z Y h' := by
  obtain ⟨⟨-, B0⟩, -, ⟨-, B2⟩, -⟩ := B
  exact ⟨fun p hp => ⟨(f _ (by omega) (by omega)).trans (a.1 p hp).1, (f _ (by omega) (by omega)).trans (a.1 p hp).2⟩, fun r hr => (f _ (by omega) (by omega)).trans (a.2 r hr)⟩
theorem jSn.eq {e o : Nat} {Z : Nat → Int} {Y X : Nat → Int32} {h : XH} (B : zcB Z) (a : jSn e o Z Y h) (f : ∀ i, i < 10 ∨ (20 ≤ i ∧ i < 40) → X i = Y i) : jSn e o Z X h := by
  obtain ⟨⟨-, B0⟩, -, ⟨-, B2⟩, -⟩ := B
  exact ⟨fun p hp => by rw [f (30 + p) (by omega), f (20 + p) (by omega)]; exact a.1 p hp, fun r hr => by rw [f r (by omega)]; exact a.2 r hr⟩
theorem jHf.cc {Z : Nat → Int} {Y : Nat → Int32} {P : Nat} {v : Int32} {h h' : XH} (a : jHf 0 Z Y h) (B : zcB Z) (hp : (P : Int) < Z 2) (hv : ¬ v.toInt = 2) (e : ∀ c k, 133 ≤ c → c ≤ 138 → ¬ (c = 136 ∧ k = P) → xI h' c k = xI h c k) (s : xI h' 136 P = v) : jHf 0 Z (zup Y (30 + P) v) h' := by
  obtain ⟨⟨-, B0⟩, -, ⟨-, B2⟩, -⟩ := B
  obtain ⟨a1, a2, a3⟩ := a
  refine ⟨fun r hr => by rw [e 133 _ (by decide) (by decide) (by omega), zup_o (by omega)]; exact a1 r hr, fun q hq => ⟨by rw [e 135 _ (by decide) (by decide) (by omega), zup_o (by omega)]; exact (a2 q hq).1, ?_⟩, by rw [e 138 _ (by decide) (by decide) (by omega), zup_o (by omega)]; exact a3⟩
  by_cases y : q = P
  · rw [y, zup_s, if_neg hv]
    have z : 8 * 0 + P = P := by omega
    rw [z]
    exact s
  · rw [e 136 _ (by decide) (by decide) (by omega), zup_o (by omega)]
    exact (a2 q hq).2
theorem jHf.mv {Z : Nat → Int} {Y : Nat → Int32} {P : Nat} {v : Int32} {h h' : XH} (a : jHf 0 Z Y h) (B : zcB Z) (hp : (P : Int) < Z 2) (e : ∀ c k, 133 ≤ c → c ≤ 138 → ¬ (c = 135 ∧ k = P) → xI h' c k = xI h c k) (s : xI h' 135 P = v) : jHf 0 Z (zup Y (20 + P) v) h' := by
  obtain ⟨⟨-, B0⟩, -, ⟨-, B2⟩, -⟩ := B
  obtain ⟨a1, a2, a3⟩ := a
  refine ⟨fun r hr => by rw [e 133 _ (by decide) (by decide) (by omega), zup_o (by omega)]; exact a1 r hr, fun q hq => ⟨?_, by rw [e 136 _ (by decide) (by decide) (by omega), zup_o (by omega)]; exact (a2 q hq).2⟩, by rw [e 138 _ (by decide) (by decide) (by omega), zup_o (by omega)]; exact a3⟩
  by_cases y : q = P
  · rw [y, zup_s]
    have z : 8 * 0 + P = P := by omega
    rw [z]
    exact s
  · rw [e 135 _ (by decide) (by decide) (by omega), zup_o (by omega)]
    exact (a2 q hq).1
theorem jHf.dc {Z : Nat → Int} {Y : Nat → Int32} {R : Nat} {v : Int32} {h h' : XH} (a : jHf 0 Z Y h) (B : zcB Z) (hr : (R : Int) < Z 0) (e : ∀ c k, 133 ≤ c → c ≤ 138 → ¬ (c = 133 ∧ k = R) → xI h' c k = xI h c k) (s : xI h' 133 R = v) : jHf 0 Z (zup Y R v) h' := by
  obtain ⟨⟨-, B0⟩, -, ⟨-, B2⟩, -⟩ := B
  obtain ⟨a1, a2, a3⟩ := a
  refine ⟨fun r hr => ?_, fun q hq => ⟨by rw [e 135 _ (by decide) (by decide) (by omega), zup_o (by omega)]; exact (a2 q hq).1, by rw [e 136 _ (by decide) (by decide) (by omega), zup_o (by omega)]; exact (a2 q hq).2⟩, by rw [e 138 _ (by decide) (by decide) (by omega), zup_o (by omega)]; exact a3⟩
  by_cases y : r = R
  · rw [y, zup_s]
    have z : 6 * 0 + R = R := by omega
    rw [z]
    exact s
  · rw [e 133 _ (by decide) (by decide) (by omega), zup_o (by omega)]
    exact a1 r hr
theorem jY.up {Z : Nat → Int} {Y : Nat → Int32} {i : Nat} {v : Int32} {h h' : XH} (a : jY 0 Z Y h) (B : zcB Z) (hi : i < 10 ∨ (20 ≤ i ∧ i < 40)) (e : ∀ c k, c = 134 ∨ c = 137 → xI h' c k = xI h c k) : jY 0 Z (zup Y i v) h' := by
  obtain ⟨⟨-, B0⟩, -, ⟨-, B2⟩, -⟩ := B
  exact ⟨fun r hr => by rw [e 134 _ (Or.inl rfl), zup_o (by omega)]; exact a.1 r hr, fun q hq => by rw [e 137 _ (Or.inr rfl), zup_o (by omega)]; exact a.2 q hq⟩
theorem vb_u {h : XH} {c k : Nat} {q : SI} (i : sinv vT h) (we : vWr c = true) (re : vRow c = q) : q.1 ≤ (xI h c k).toInt ∧ (xI h c k).toInt ≤ q.2 := by
  have z := vbnd i c k
  rw [vI_u we re] at z
  exact z
theorem vb_s {h : XH} {c k : Nat} {q : SI} (i : sinv vT h) (re : vI c k = q) : q.1 ≤ (xI h c k).toInt ∧ (xI h c k).toInt ≤ q.2 := by
  have z := vbnd i c k
  rw [re] at z
  exact z
set_option maxRecDepth 100000 in
set_option maxHeartbeats 4000000 in
theorem jk_putA149 (l : Launch) (u : Nat) (hu : u < 20) (oo : Int32) (ho : oo.toInt = 22 * u) (h : XH) : ∀ (m k : Nat) (kk : Int32) (h1 : XH), mW (fun c k : Nat => (c = 149 ∧ 22 * u ≤ k ∧ k < 22 * u + 16)) h h1 → kk.toInt = k → k + m = 8 → (∀ j : Nat, j < k → xI h1 149 (22 * u + j) = xI h 136 j ∧ xI h1 149 (22 * u + 8 + j) = xI h 135 j) → ∃ k2 h2, XT l 0 0 false 240 153 6051 2 [xf 13 104, xf 10440 149, xi oo, xi kk] [] h1 39 [xf 13 104, xf 10440 149, xi oo, xi k2] [] h2 ∧ mW (fun c k : Nat => (c = 149 ∧ 22 * u ≤ k ∧ k < 22 * u + 16)) h h2 ∧ (∀ j : Nat, j < 8 → xI h2 149 (22 * u + j) = xI h 136 j ∧ xI h2 149 (22 * u + 8 + j) = xI h 135 j)
  | 0, k, kk, h1, G, hk, hm, I1 => by
    have hg1 := G.1
    have e_N : ((Int32.ofInt (8))).toInt = 8 := rfl
    have t1 : XT l 0 0 false 240 153 6051 2 [xf 13 104, xf 10440 149, xi oo, xi kk] [] h1 39 [xf 13 104, xf 10440 149, xi oo, xi kk] [] h1 := XT_path (l := l) (fr := 0) (lo := 0) (full := false) (M := 240) (n := 153) (u := 6051) (pc := 2) (L := [xf 13 104, xf 10440 149, xi oo, xi kk]) (st := []) (h := h1) (inl := []) (n' := 80) (sp := [39]) (o := [1]) rfl rfl ⟨rfl, rfl, rfl⟩ rfl ⟨Nat.le_of_eq hg1.2.2.2.1, Nat.le_of_eq hg1.2.2.2.2⟩ ⟨trivial, (show (Int32.ofInt (8)) ≤ kk from Int32.le_iff_toInt_le.mpr (by omega))⟩
    obtain rfl : k = 8 := by omega
    exact ⟨kk, h1, t1, G, I1⟩
  | m + 1, k, kk, h1, G, hk, hm, I1 => by
    have hg1 := G.1
    have e_N : ((Int32.ofInt (8))).toInt = 8 := rfl
    have nk : kk.toNatClampNeg = k := zi_ix hk
    have sk := y_suc1 (k := kk) (by omega) (by omega)
    have ea : (oo + kk).toInt = 22 * u + k := by rw [y_addb (by omega) (by omega), ho, hk]
    have na : (oo + kk).toNatClampNeg = 22 * u + k := zi_ix (by rw [ea]; omega)
    have eb0 : ((Int32.ofInt (8))).toInt = 8 := rfl
    have eb1 : (oo + (Int32.ofInt (8))).toInt = 22 * u + 8 := by rw [y_addb (by omega) (by omega), ho, eb0]
    have eb : (oo + (Int32.ofInt (8)) + kk).toInt = 22 * u + 8 + k := by rw [y_addb (by omega) (by omega), eb1, hk]
    have nb : (oo + (Int32.ofInt (8)) + kk).toNatClampNeg = 22 * u + 8 + k := zi_ix (by rw [eb]; omega)
    have t1 : XT l 0 0 false 240 153 6051 2 [xf 13 104, xf 10440 149, xi oo, xi kk] [] h1 2 [xf 13 104, xf 10440 149, xi oo, xi (kk + Int32.ofInt (1))] [] (xsetI (xsetI h1 149 ((oo + kk)).toNatClampNeg (xI h1 (xR h1 104 58) (kk).toNatClampNeg)) 149 (((oo + (Int32.ofInt (8))) + kk)).toNatClampNeg (xI (xsetI h1 149 ((oo + kk)).toNatClampNeg (xI h1 (xR h1 104 58) (kk).toNatClampNeg)) (xR h1 104 57) (kk).toNatClampNeg)) := XT_path (l := l) (fr := 0) (lo := 0) (full := false) (M := 240) (n := 153) (u := 6051) (pc := 2) (L := [xf 13 104, xf 10440 149, xi oo, xi kk]) (st := []) (h := h1) (inl := []) (n' := 80) (sp := [2]) (o := [0]) rfl rfl ⟨rfl, rfl, rfl⟩ rfl ⟨Nat.le_of_eq hg1.2.2.2.1, Nat.le_of_eq hg1.2.2.2.2⟩ ⟨⟨⟨⟨⟨⟨⟨trivial, (show ¬ (Int32.ofInt (8)) ≤ kk from fun z => absurd (Int32.le_iff_toInt_le.mp z) (by omega))⟩, (vnn hg1.1 (rfl : vRf 104 58 = [136]) (by decide))⟩, (vp_of (i := kk) (n := 16) (by omega) (by omega))⟩, (vp_of (i := (oo + kk)) (n := 440) (by omega) (by omega))⟩, (vnn hg1.1 (rfl : vRf 104 57 = [135]) (by decide))⟩, (vp_of (i := kk) (n := 16) (by omega) (by omega))⟩, (vp_of (i := ((oo + (Int32.ofInt (8))) + kk)) (n := 440) (by omega) (by omega))⟩
    rw [vref hg1.1 (rfl : vRf 104 58 = [136]), vref hg1.1 (rfl : vRf 104 57 = [135])] at t1
    have t2 : XT l 0 0 false 240 153 6051 2 [xf 13 104, xf 10440 149, xi oo, xi kk] [] h1 2 [xf 13 104, xf 10440 149, xi oo, xi (kk + Int32.ofInt (1))] [] (xsetI (xsetI h1 149 ((oo + kk)).toNatClampNeg (xI h1 136 (kk).toNatClampNeg)) 149 (((oo + (Int32.ofInt (8))) + kk)).toNatClampNeg (xI h1 135 (kk).toNatClampNeg)) := t1
    obtain ⟨hE, eE⟩ : ∃ x, x = (xsetI (xsetI h1 149 ((oo + kk)).toNatClampNeg (xI h1 136 (kk).toNatClampNeg)) 149 (((oo + (Int32.ofInt (8))) + kk)).toNatClampNeg (xI h1 135 (kk).toNatClampNeg)) := ⟨_, rfl⟩
    have eE2 : hE = xsetI (xsetI h1 149 (22 * u + k) (xI h1 136 k)) 149 (22 * u + 8 + k) (xI h1 135 k) := by rw [eE]; simp only [na, nb, nk]
    have b1 := vb_u (k := k) hg1.1 rfl (rfl : vRow 136 = (-2, 1))
    have b2 := vb_u (k := k) hg1.1 rfl (rfl : vRow 135 = (0, 5))
    have GE : mW (fun c k : Nat => (c = 149 ∧ 22 * u ≤ k ∧ k < 22 * u + 16)) h hE := by rw [eE2]; exact (G.set (show (149 = 149 ∧ 22 * u ≤ (22 * u + k) ∧ (22 * u + k) < 22 * u + 16) from by omega) (by rw [vS149_c u hu k (by omega)]; exact b1)).set (show (149 = 149 ∧ 22 * u ≤ (22 * u + 8 + k) ∧ (22 * u + 8 + k) < 22 * u + 16) from by omega) (by rw [vS149_p u hu k (by omega)]; exact b2)
    have K1 : xI h1 136 k = xI h 136 k := G.k (fun z => by have z : (136 = 149 ∧ 22 * u ≤ k ∧ k < 22 * u + 16) := z; omega)
    have K2 : xI h1 135 k = xI h 135 k := G.k (fun z => by have z : (135 = 149 ∧ 22 * u ≤ k ∧ k < 22 * u + 16) := z; omega)
    rw [← eE] at t2
    obtain ⟨k3, h9, tq9, G9, I9⟩ := jk_putA149 l u hu oo ho h m (k + 1) (kk + Int32.ofInt (1)) hE GE (by omega) (by omega) (fun j hj => by rw [eE2]; exact if e : j = k then (by rw [e]; exact ⟨(yI_ne (eq_false (fun z => by have := z.2; omega))).trans (yI_same.trans K1), yI_same.trans K2⟩) else ⟨(yI_ne (eq_false (fun z => by have := z.2; omega))).trans ((yI_ne (eq_false (fun z => by have := z.2; omega))).trans (I1 j (by omega)).1), (yI_ne (eq_false (fun z => by have := z.2; omega))).trans ((yI_ne (eq_false (fun z => by have := z.2; omega))).trans (I1 j (by omega)).2)⟩)
    exact ⟨k3, h9, t2.tr tq9, G9, I9⟩
set_option maxRecDepth 100000 in
set_option maxHeartbeats 4000000 in
theorem jk_putB149 (l : Launch) (u : Nat) (hu : u < 20) (oo : Int32) (ho : oo.toInt = 22 * u) (h : XH) : ∀ (m k : Nat) (kk : Int32) (h1 : XH), mW (fun c k : Nat => (c = 149 ∧ 22 * u + 16 ≤ k ∧ k < 22 * u + 22)) h h1 → kk.toInt = k → k + m = 6 → (∀ j : Nat, j < k → xI h1 149 (22 * u + 16 + j) = xI h 133 j) → ∃ k2 h2, XT l 0 0 false 240 153 6051 41 [xf 13 104, xf 10440 149, xi oo, xi kk] [] h1 67 [xf 13 104, xf 10440 149, xi oo, xi k2] [] h2 ∧ mW (fun c k : Nat => (c = 149 ∧ 22 * u + 16 ≤ k ∧ k < 22 * u + 22)) h h2 ∧ (∀ j : Nat, j < 6 → xI h2 149 (22 * u + 16 + j) = xI h 133 j)
  | 0, k, kk, h1, G, hk, hm, I1 => by
    have hg1 := G.1
    have e_N : ((Int32.ofInt (6))).toInt = 6 := rfl
    have t1 : XT l 0 0 false 240 153 6051 41 [xf 13 104, xf 10440 149, xi oo, xi kk] [] h1 67 [xf 13 104, xf 10440 149, xi oo, xi kk] [] h1 := XT_path (l := l) (fr := 0) (lo := 0) (full := false) (M := 240) (n := 153) (u := 6051) (pc := 41) (L := [xf 13 104, xf 10440 149, xi oo, xi kk]) (st := []) (h := h1) (inl := []) (n' := 80) (sp := [67]) (o := [1]) rfl rfl ⟨rfl, rfl, rfl⟩ rfl ⟨Nat.le_of_eq hg1.2.2.2.1, Nat.le_of_eq hg1.2.2.2.2⟩ ⟨trivial, (show (Int32.ofInt (6)) ≤ kk from Int32.le_iff_toInt_le.mpr (by omega))⟩
    obtain rfl : k = 6 := by omega
    exact ⟨kk, h1, t1, G, I1⟩
  | m + 1, k, kk, h1, G, hk, hm, I1 => by
    have hg1 := G.1
    have e_N : ((Int32.ofInt (6))).toInt = 6 := rfl
    have nk : kk.toNatClampNeg = k := zi_ix hk
    have sk := y_suc1 (k := kk) (by omega) (by omega)
    have ec0 : ((Int32.ofInt (16))).toInt = 16 := rfl
    have ec1 : (oo + (Int32.ofInt (16))).toInt = 22 * u + 16 := by rw [y_addb (by omega) (by omega), ho, ec0]
    have ec : (oo + (Int32.ofInt (16)) + kk).toInt = 22 * u + 16 + k := by rw [y_addb (by omega) (by omega), ec1, hk]
    have nc : (oo + (Int32.ofInt (16)) + kk).toNatClampNeg = 22 * u + 16 + k := zi_ix (by rw [ec]; omega)
    have t1 : XT l 0 0 false 240 153 6051 41 [xf 13 104, xf 10440 149, xi oo, xi kk] [] h1 41 [xf 13 104, xf 10440 149, xi oo, xi (kk + Int32.ofInt (1))] [] (xsetI h1 149 (((oo + (Int32.ofInt (16))) + kk)).toNatClampNeg (xI h1 (xR h1 104 55) (kk).toNatClampNeg)) := XT_path (l := l) (fr := 0) (lo := 0) (full := false) (M := 240) (n := 153) (u := 6051) (pc := 41) (L := [xf 13 104, xf 10440 149, xi oo, xi kk]) (st := []) (h := h1) (inl := []) (n' := 80) (sp := [41]) (o := [0]) rfl rfl ⟨rfl, rfl, rfl⟩ rfl ⟨Nat.le_of_eq hg1.2.2.2.1, Nat.le_of_eq hg1.2.2.2.2⟩ ⟨⟨⟨⟨trivial, (show ¬ (Int32.ofInt (6)) ≤ kk from fun z => absurd (Int32.le_iff_toInt_le.mp z) (by omega))⟩, (vnn hg1.1 (rfl : vRf 104 55 = [133]) (by decide))⟩, (vp_of (i := kk) (n := 12) (by omega) (by omega))⟩, (vp_of (i := ((oo + (Int32.ofInt (16))) + kk)) (n := 440) (by omega) (by omega))⟩
    rw [vref hg1.1 (rfl : vRf 104 55 = [133])] at t1
    obtain ⟨hE, eE⟩ : ∃ x, x = (xsetI h1 149 (((oo + (Int32.ofInt (16))) + kk)).toNatClampNeg (xI h1 133 (kk).toNatClampNeg)) := ⟨_, rfl⟩
    have eE2 : hE = xsetI h1 149 (22 * u + 16 + k) (xI h1 133 k) := by rw [eE]; simp only [nc, nk]
    have b1 := vb_s (k := k) hg1.1 (vS133_s k (by omega))
    have GE : mW (fun c k : Nat => (c = 149 ∧ 22 * u + 16 ≤ k ∧ k < 22 * u + 22)) h hE := by rw [eE2]; exact G.set (show (149 = 149 ∧ 22 * u + 16 ≤ (22 * u + 16 + k) ∧ (22 * u + 16 + k) < 22 * u + 22) from by omega) (by rw [vS149_s u hu k (by omega)]; exact b1)
    have K1 : xI h1 133 k = xI h 133 k := G.k (fun z => by have z : (133 = 149 ∧ 22 * u + 16 ≤ k ∧ k < 22 * u + 22) := z; omega)
    rw [← eE] at t1
    obtain ⟨k3, h9, tq9, G9, I9⟩ := jk_putB149 l u hu oo ho h m (k + 1) (kk + Int32.ofInt (1)) hE GE (by omega) (by omega) (fun j hj => by rw [eE2]; exact if e : j = k then (by rw [e]; exact yI_same.trans K1) else ((yI_ne (eq_false (fun z => by have := z.2; omega))).trans (I1 j (by omega))))
    exact ⟨k3, h9, t1.tr tq9, G9, I9⟩
set_option maxRecDepth 100000 in
set_option maxHeartbeats 4000000 in
theorem jk_put149 (l : Launch) (u : Nat) (hu : u < 20) (oo : Int32) (ho : oo.toInt = 22 * u) (h : XH) (hg : mI h) : ∃ h', CX l 0 0 false 240 [xf 13 104, xf 10440 149, xi oo] h [] h' ∧ mW (fun c k : Nat => (c = 149 ∧ 22 * u ≤ k ∧ k < 22 * u + 22)) h h' ∧ (∀ j : Nat, j < 8 → xI h' 149 (22 * u + j) = xI h 136 j ∧ xI h' 149 (22 * u + 8 + j) = xI h 135 j) ∧ (∀ j : Nat, j < 6 → xI h' 149 (22 * u + 16 + j) = xI h 133 j) := by
  have t1 : XT l 0 0 false 240 153 6051 0 [xf 13 104, xf 10440 149, xi oo, xun] [] h 2 [xf 13 104, xf 10440 149, xi oo, xi (Int32.ofInt (0))] [] h := XT_path (l := l) (fr := 0) (lo := 0) (full := false) (M := 240) (n := 153) (u := 6051) (pc := 0) (L := [xf 13 104, xf 10440 149, xi oo, xun]) (st := []) (h := h) (inl := []) (n' := 80) (sp := [2]) (o := []) rfl rfl ⟨rfl, rfl, rfl⟩ rfl ⟨Nat.le_of_eq hg.2.2.2.1, Nat.le_of_eq hg.2.2.2.2⟩ trivial
  obtain ⟨k2, h2, z2, G2, I2⟩ := jk_putA149 l u hu oo ho h 8 0 (Int32.ofInt (0)) h (mW.rf hg) rfl rfl (fun j hj => absurd hj (Nat.not_lt_zero j))
  have T2 := t1.tr z2
  have t2 : XT l 0 0 false 240 153 6051 39 [xf 13 104, xf 10440 149, xi oo, xi k2] [] h2 41 [xf 13 104, xf 10440 149, xi oo, xi (Int32.ofInt (0))] [] h2 := XT_path (l := l) (fr := 0) (lo := 0) (full := false) (M := 240) (n := 153) (u := 6051) (pc := 39) (L := [xf 13 104, xf 10440 149, xi oo, xi k2]) (st := []) (h := h2) (inl := []) (n' := 80) (sp := [41]) (o := []) rfl rfl ⟨rfl, rfl, rfl⟩ rfl ⟨Nat.le_of_eq G2.1.2.2.2.1, Nat.le_of_eq G2.1.2.2.2.2⟩ trivial
  have t3 := T2.tr t2
  obtain ⟨k3, h3, z3, G3, I3⟩ := jk_putB149 l u hu oo ho h2 6 0 (Int32.ofInt (0)) h2 (mW.rf G2.1) rfl rfl (fun j hj => absurd hj (Nat.not_lt_zero j))
  have T3 := t3.tr z3
  exact ⟨h3, CX_ofT (h' := h3) (by decide) rfl rfl trivial ⟨_, _, _, rfl, rfl, rfl⟩ rfl ⟨Nat.le_of_eq G3.1.2.2.2.1.symm, Nat.le_of_eq G3.1.2.2.2.2.symm⟩ T3, (G2.mono (fun c k z => by have z : (c = 149 ∧ 22 * u ≤ k ∧ k < 22 * u + 16) := z; show (c = 149 ∧ 22 * u ≤ k ∧ k < 22 * u + 22); omega)).tr (G3.mono (fun c k z => by have z : (c = 149 ∧ 22 * u + 16 ≤ k ∧ k < 22 * u + 22) := z; show (c = 149 ∧ 22 * u ≤ k ∧ k < 22 * u + 22); omega)), fun j hj => ⟨(G3.k (fun z => by have z : (149 = 149 ∧ 22 * u + 16 ≤ (22 * u + j) ∧ (22 * u + j) < 22 * u + 22) := z; omega)).trans (I2 j hj).1, (G3.k (fun z => by have z : (149 = 149 ∧ 22 * u + 16 ≤ (22 * u + 8 + j) ∧ (22 * u + 8 + j) < 22 * u + 22) := z; omega)).trans (I2 j hj).2⟩, fun j hj => (I3 j hj).trans (G2.k (fun z => by have z : (133 = 149 ∧ 22 * u ≤ j ∧ j < 22 * u + 16) := z; omega))⟩
set_option maxRecDepth 100000 in
set_option maxHeartbeats 4000000 in
theorem jk_takeA149 (l : Launch) (u : Nat) (hu : u < 20) (oo : Int32) (ho : oo.toInt = 22 * u) (h : XH) : ∀ (m k : Nat) (kk : Int32) (h1 : XH), mW (fun c k : Nat => ((c = 135 ∨ c = 136) ∧ k < 8)) h h1 → kk.toInt = k → k + m = 8 → (∀ j : Nat, j < k → xI h1 136 j = xI h 149 (22 * u + j) ∧ xI h1 135 j = xI h 149 (22 * u + 8 + j)) → ∃ k2 h2, XT l 0 0 false 284 153 6051 2 [xf 13 104, xf 10440 149, xi oo, xi kk] [] h1 39 [xf 13 104, xf 10440 149, xi oo, xi k2] [] h2 ∧ mW (fun c k : Nat => ((c = 135 ∨ c = 136) ∧ k < 8)) h h2 ∧ (∀ j : Nat, j < 8 → xI h2 136 j = xI h 149 (22 * u + j) ∧ xI h2 135 j = xI h 149 (22 * u + 8 + j))
  | 0, k, kk, h1, G, hk, hm, I1 => by
    have hg1 := G.1
    have e_N : ((Int32.ofInt (8))).toInt = 8 := rfl
    have t1 : XT l 0 0 false 284 153 6051 2 [xf 13 104, xf 10440 149, xi oo, xi kk] [] h1 39 [xf 13 104, xf 10440 149, xi oo, xi kk] [] h1 := XT_path (l := l) (fr := 0) (lo := 0) (full := false) (M := 284) (n := 153) (u := 6051) (pc := 2) (L := [xf 13 104, xf 10440 149, xi oo, xi kk]) (st := []) (h := h1) (inl := []) (n' := 80) (sp := [39]) (o := [1]) rfl rfl ⟨rfl, rfl, rfl⟩ rfl ⟨Nat.le_of_eq hg1.2.2.2.1, Nat.le_of_eq hg1.2.2.2.2⟩ ⟨trivial, (show (Int32.ofInt (8)) ≤ kk from Int32.le_iff_toInt_le.mpr (by omega))⟩
    obtain rfl : k = 8 := by omega
    exact ⟨kk, h1, t1, G, I1⟩
  | m + 1, k, kk, h1, G, hk, hm, I1 => by
    have hg1 := G.1
    have e_N : ((Int32.ofInt (8))).toInt = 8 := rfl
    have nk : kk.toNatClampNeg = k := zi_ix hk
    have sk := y_suc1 (k := kk) (by omega) (by omega)
    have ea : (oo + kk).toInt = 22 * u + k := by rw [y_addb (by omega) (by omega), ho, hk]
    have na : (oo + kk).toNatClampNeg = 22 * u + k := zi_ix (by rw [ea]; omega)
    have eb0 : ((Int32.ofInt (8))).toInt = 8 := rfl
    have eb1 : (oo + (Int32.ofInt (8))).toInt = 22 * u + 8 := by rw [y_addb (by omega) (by omega), ho, eb0]
    have eb : (oo + (Int32.ofInt (8)) + kk).toInt = 22 * u + 8 + k := by rw [y_addb (by omega) (by omega), eb1, hk]
    have nb : (oo + (Int32.ofInt (8)) + kk).toNatClampNeg = 22 * u + 8 + k := zi_ix (by rw [eb]; omega)
    have t1 : XT l 0 0 false 284 153 6051 2 [xf 13 104, xf 10440 149, xi oo, xi kk] [] h1 2 [xf 13 104, xf 10440 149, xi oo, xi (kk + Int32.ofInt (1))] [] (xsetI (xsetI h1 (xR h1 104 58) (kk).toNatClampNeg (xI h1 149 ((oo + kk)).toNatClampNeg)) (xR h1 104 57) (kk).toNatClampNeg (xI (xsetI h1 (xR h1 104 58) (kk).toNatClampNeg (xI h1 149 ((oo + kk)).toNatClampNeg)) 149 (((oo + (Int32.ofInt (8))) + kk)).toNatClampNeg)) := XT_path (l := l) (fr := 0) (lo := 0) (full := false) (M := 284) (n := 153) (u := 6051) (pc := 2) (L := [xf 13 104, xf 10440 149, xi oo, xi kk]) (st := []) (h := h1) (inl := []) (n' := 80) (sp := [2]) (o := [0]) rfl rfl ⟨rfl, rfl, rfl⟩ rfl ⟨Nat.le_of_eq hg1.2.2.2.1, Nat.le_of_eq hg1.2.2.2.2⟩ ⟨⟨⟨⟨⟨⟨⟨trivial, (show ¬ (Int32.ofInt (8)) ≤ kk from fun z => absurd (Int32.le_iff_toInt_le.mp z) (by omega))⟩, (vnn hg1.1 (rfl : vRf 104 58 = [136]) (by decide))⟩, (vp_of (i := (oo + kk)) (n := 440) (by omega) (by omega))⟩, (vp_of (i := kk) (n := 16) (by omega) (by omega))⟩, (vnn hg1.1 (rfl : vRf 104 57 = [135]) (by decide))⟩, (vp_of (i := ((oo + (Int32.ofInt (8))) + kk)) (n := 440) (by omega) (by omega))⟩, (vp_of (i := kk) (n := 16) (by omega) (by omega))⟩
    rw [vref hg1.1 (rfl : vRf 104 58 = [136]), vref hg1.1 (rfl : vRf 104 57 = [135])] at t1
    have t2 : XT l 0 0 false 284 153 6051 2 [xf 13 104, xf 10440 149, xi oo, xi kk] [] h1 2 [xf 13 104, xf 10440 149, xi oo, xi (kk + Int32.ofInt (1))] [] (xsetI (xsetI h1 136 (kk).toNatClampNeg (xI h1 149 ((oo + kk)).toNatClampNeg)) 135 (kk).toNatClampNeg (xI h1 149 (((oo + (Int32.ofInt (8))) + kk)).toNatClampNeg)) := t1
    obtain ⟨hE, eE⟩ : ∃ x, x = (xsetI (xsetI h1 136 (kk).toNatClampNeg (xI h1 149 ((oo + kk)).toNatClampNeg)) 135 (kk).toNatClampNeg (xI h1 149 (((oo + (Int32.ofInt (8))) + kk)).toNatClampNeg)) := ⟨_, rfl⟩
    have eE2 : hE = xsetI (xsetI h1 136 k (xI h1 149 (22 * u + k))) 135 k (xI h1 149 (22 * u + 8 + k)) := by rw [eE]; simp only [na, nb, nk]
    have b1 := vb_s (k := 22 * u + k) hg1.1 (vS149_c u hu k (by omega))
    have b2 := vb_s (k := 22 * u + 8 + k) hg1.1 (vS149_p u hu k (by omega))
    have GE : mW (fun c k : Nat => ((c = 135 ∨ c = 136) ∧ k < 8)) h hE := by rw [eE2]; exact (G.set (show ((136 = 135 ∨ 136 = 136) ∧ k < 8) from by omega) (by rw [vI_u rfl (rfl : vRow 136 = (-2, 1))]; exact b1)).set (show ((135 = 135 ∨ 135 = 136) ∧ k < 8) from by omega) (by rw [vI_u rfl (rfl : vRow 135 = (0, 5))]; exact b2)
    have K : ∀ j, xI h1 149 j = xI h 149 j := fun j => G.k (fun z => by have z : ((149 = 135 ∨ 149 = 136) ∧ j < 8) := z; omega)
    rw [← eE] at t2
    obtain ⟨k3, h9, tq9, G9, I9⟩ := jk_takeA149 l u hu oo ho h m (k + 1) (kk + Int32.ofInt (1)) hE GE (by omega) (by omega) (fun j hj => by rw [eE2]; exact if e : j = k then (by rw [e]; exact ⟨(yI_c (by decide)).trans (yI_same.trans (K _)), yI_same.trans (K _)⟩) else ⟨(yI_c (by decide)).trans ((yI_ne (eq_false (fun z => e z.2))).trans (I1 j (by omega)).1), (yI_ne (eq_false (fun z => e z.2))).trans ((yI_c (by decide)).trans (I1 j (by omega)).2)⟩)
    exact ⟨k3, h9, t2.tr tq9, G9, I9⟩
set_option maxRecDepth 100000 in
set_option maxHeartbeats 4000000 in
theorem jk_takeB149 (l : Launch) (u : Nat) (hu : u < 20) (oo : Int32) (ho : oo.toInt = 22 * u) (h : XH) : ∀ (m k : Nat) (kk : Int32) (h1 : XH), mW (fun c k : Nat => (c = 133 ∧ k < 6)) h h1 → kk.toInt = k → k + m = 6 → (∀ j : Nat, j < k → xI h1 133 j = xI h 149 (22 * u + 16 + j)) → ∃ k2 h2, XT l 0 0 false 284 153 6051 41 [xf 13 104, xf 10440 149, xi oo, xi kk] [] h1 67 [xf 13 104, xf 10440 149, xi oo, xi k2] [] h2 ∧ mW (fun c k : Nat => (c = 133 ∧ k < 6)) h h2 ∧ (∀ j : Nat, j < 6 → xI h2 133 j = xI h 149 (22 * u + 16 + j))
  | 0, k, kk, h1, G, hk, hm, I1 => by
    have hg1 := G.1
    have e_N : ((Int32.ofInt (6))).toInt = 6 := rfl
    have t1 : XT l 0 0 false 284 153 6051 41 [xf 13 104, xf 10440 149, xi oo, xi kk] [] h1 67 [xf 13 104, xf 10440 149, xi oo, xi kk] [] h1 := XT_path (l := l) (fr := 0) (lo := 0) (full := false) (M := 284) (n := 153) (u := 6051) (pc := 41) (L := [xf 13 104, xf 10440 149, xi oo, xi kk]) (st := []) (h := h1) (inl := []) (n' := 80) (sp := [67]) (o := [1]) rfl rfl ⟨rfl, rfl, rfl⟩ rfl ⟨Nat.le_of_eq hg1.2.2.2.1, Nat.le_of_eq hg1.2.2.2.2⟩ ⟨trivial, (show (Int32.ofInt (6)) ≤ kk from Int32.le_iff_toInt_le.mpr (by omega))⟩
    obtain rfl : k = 6 := by omega
    exact ⟨kk, h1, t1, G, I1⟩
  | m + 1, k, kk, h1, G, hk, hm, I1 => by
    have hg1 := G.1
    have e_N : ((Int32.ofInt (6))).toInt = 6 := rfl
    have nk : kk.toNatClampNeg = k := zi_ix hk
    have sk := y_suc1 (k := kk) (by omega) (by omega)
    have ec0 : ((Int32.ofInt (16))).toInt = 16 := rfl
    have ec1 : (oo + (Int32.ofInt (16))).toInt = 22 * u + 16 := by rw [y_addb (by omega) (by omega), ho, ec0]
    have ec : (oo + (Int32.ofInt (16)) + kk).toInt = 22 * u + 16 + k := by rw [y_addb (by omega) (by omega), ec1, hk]
    have nc : (oo + (Int32.ofInt (16)) + kk).toNatClampNeg = 22 * u + 16 + k := zi_ix (by rw [ec]; omega)
    have t1 : XT l 0 0 false 284 153 6051 41 [xf 13 104, xf 10440 149, xi oo, xi kk] [] h1 41 [xf 13 104, xf 10440 149, xi oo, xi (kk + Int32.ofInt (1))] [] (xsetI h1 (xR h1 104 55) (kk).toNatClampNeg (xI h1 149 (((oo + (Int32.ofInt (16))) + kk)).toNatClampNeg)) := XT_path (l := l) (fr := 0) (lo := 0) (full := false) (M := 284) (n := 153) (u := 6051) (pc := 41) (L := [xf 13 104, xf 10440 149, xi oo, xi kk]) (st := []) (h := h1) (inl := []) (n' := 80) (sp := [41]) (o := [0]) rfl rfl ⟨rfl, rfl, rfl⟩ rfl ⟨Nat.le_of_eq hg1.2.2.2.1, Nat.le_of_eq hg1.2.2.2.2⟩ ⟨⟨⟨⟨trivial, (show ¬ (Int32.ofInt (6)) ≤ kk from fun z => absurd (Int32.le_iff_toInt_le.mp z) (by omega))⟩, (vnn hg1.1 (rfl : vRf 104 55 = [133]) (by decide))⟩, (vp_of (i := ((oo + (Int32.ofInt (16))) + kk)) (n := 440) (by omega) (by omega))⟩, (vp_of (i := kk) (n := 12) (by omega) (by omega))⟩
    rw [vref hg1.1 (rfl : vRf 104 55 = [133])] at t1
    obtain ⟨hE, eE⟩ : ∃ x, x = (xsetI h1 133 (kk).toNatClampNeg (xI h1 149 (((oo + (Int32.ofInt (16))) + kk)).toNatClampNeg)) := ⟨_, rfl⟩
    have eE2 : hE = xsetI h1 133 k (xI h1 149 (22 * u + 16 + k)) := by rw [eE]; simp only [nc, nk]
    have b1 := vb_s (k := 22 * u + 16 + k) hg1.1 (vS149_s u hu k (by omega))
    have GE : mW (fun c k : Nat => (c = 133 ∧ k < 6)) h hE := by rw [eE2]; exact G.set (show (133 = 133 ∧ k < 6) from by omega) (by rw [vS133_s k (by omega)]; exact b1)
    have K : ∀ j, xI h1 149 j = xI h 149 j := fun j => G.k (fun z => by have z : (149 = 133 ∧ j < 6) := z; omega)
    rw [← eE] at t1
    obtain ⟨k3, h9, tq9, G9, I9⟩ := jk_takeB149 l u hu oo ho h m (k + 1) (kk + Int32.ofInt (1)) hE GE (by omega) (by omega) (fun j hj => by rw [eE2]; exact if e : j = k then (by rw [e]; exact yI_same.trans (K _)) else ((yI_ne (eq_false (fun z => e z.2))).trans (I1 j (by omega))))
    exact ⟨k3, h9, t1.tr tq9, G9, I9⟩
set_option maxRecDepth 100000 in
set_option maxHeartbeats 4000000 in
theorem jk_take149 (l : Launch) (u : Nat) (hu : u < 20) (oo : Int32) (ho : oo.toInt = 22 * u) (h : XH) (hg : mI h) : ∃ h', CX l 0 0 false 284 [xf 13 104, xf 10440 149, xi oo] h [] h' ∧ mW (fun c k : Nat => ((c = 133 ∧ k < 6) ∨ ((c = 135 ∨ c = 136) ∧ k < 8))) h h' ∧ (∀ j : Nat, j < 8 → xI h' 136 j = xI h 149 (22 * u + j) ∧ xI h' 135 j = xI h 149 (22 * u + 8 + j)) ∧ (∀ j : Nat, j < 6 → xI h' 133 j = xI h 149 (22 * u + 16 + j)) := by
  have t1 : XT l 0 0 false 284 153 6051 0 [xf 13 104, xf 10440 149, xi oo, xun] [] h 2 [xf 13 104, xf 10440 149, xi oo, xi (Int32.ofInt (0))] [] h := XT_path (l := l) (fr := 0) (lo := 0) (full := false) (M := 284) (n := 153) (u := 6051) (pc := 0) (L := [xf 13 104, xf 10440 149, xi oo, xun]) (st := []) (h := h) (inl := []) (n' := 80) (sp := [2]) (o := []) rfl rfl ⟨rfl, rfl, rfl⟩ rfl ⟨Nat.le_of_eq hg.2.2.2.1, Nat.le_of_eq hg.2.2.2.2⟩ trivial
  obtain ⟨k2, h2, z2, G2, I2⟩ := jk_takeA149 l u hu oo ho h 8 0 (Int32.ofInt (0)) h (mW.rf hg) rfl rfl (fun j hj => absurd hj (Nat.not_lt_zero j))
  have T2 := t1.tr z2
  have t2 : XT l 0 0 false 284 153 6051 39 [xf 13 104, xf 10440 149, xi oo, xi k2] [] h2 41 [xf 13 104, xf 10440 149, xi oo, xi (Int32.ofInt (0))] [] h2 := XT_path (l := l) (fr := 0) (lo := 0) (full := false) (M := 284) (n := 153) (u := 6051) (pc := 39) (L := [xf 13 104, xf 10440 149, xi oo, xi k2]) (st := []) (h := h2) (inl := []) (n' := 80) (sp := [41]) (o := []) rfl rfl ⟨rfl, rfl, rfl⟩ rfl ⟨Nat.le_of_eq G2.1.2.2.2.1, Nat.le_of_eq G2.1.2.2.2.2⟩ trivial
  have t3 := T2.tr t2
  obtain ⟨k3, h3, z3, G3, I3⟩ := jk_takeB149 l u hu oo ho h2 6 0 (Int32.ofInt (0)) h2 (mW.rf G2.1) rfl rfl (fun j hj => absurd hj (Nat.not_lt_zero j))
  have T3 := t3.tr z3
  exact ⟨h3, CX_ofT (h' := h3) (by decide) rfl rfl trivial ⟨_, _, _, rfl, rfl, rfl⟩ rfl ⟨Nat.le_of_eq G3.1.2.2.2.1.symm, Nat.le_of_eq G3.1.2.2.2.2.symm⟩ T3, (G2.mono (fun c k z => by have z : ((c = 135 ∨ c = 136) ∧ k < 8) := z; show ((c = 133 ∧ k < 6) ∨ ((c = 135 ∨ c = 136) ∧ k < 8)); omega)).tr (G3.mono (fun c k z => by have z : (c = 133 ∧ k < 6) := z; show ((c = 133 ∧ k < 6) ∨ ((c = 135 ∨ c = 136) ∧ k < 8)); omega)), fun j hj => ⟨(G3.k (fun z => by have z : (136 = 133 ∧ j < 6) := z; omega)).trans (I2 j hj).1, (G3.k (fun z => by have z : (135 = 133 ∧ j < 6) := z; omega)).trans (I2 j hj).2⟩, fun j hj => (I3 j hj).trans (G2.k (fun z => by have z : ((149 = 135 ∨ 149 = 136) ∧ (22 * u + 16 + j) < 8) := z; omega))⟩
set_option maxRecDepth 100000 in
set_option maxHeartbeats 4000000 in
theorem jk_putA150 (l : Launch) (u : Nat) (hu : u < 1) (oo : Int32) (ho : oo.toInt = 22 * u) (h : XH) : ∀ (m k : Nat) (kk : Int32) (h1 : XH), mW (fun c k : Nat => (c = 150 ∧ 22 * u ≤ k ∧ k < 22 * u + 16)) h h1 → kk.toInt = k → k + m = 8 → (∀ j : Nat, j < k → xI h1 150 (22 * u + j) = xI h 136 j ∧ xI h1 150 (22 * u + 8 + j) = xI h 135 j) → ∃ k2 h2, XT l 0 0 false 240 153 6051 2 [xf 13 104, xf 10022 150, xi oo, xi kk] [] h1 39 [xf 13 104, xf 10022 150, xi oo, xi k2] [] h2 ∧ mW (fun c k : Nat => (c = 150 ∧ 22 * u ≤ k ∧ k < 22 * u + 16)) h h2 ∧ (∀ j : Nat, j < 8 → xI h2 150 (22 * u + j) = xI h 136 j ∧ xI h2 150 (22 * u + 8 + j) = xI h 135 j)
  | 0, k, kk, h1, G, hk, hm, I1 => by
    have hg1 := G.1
    have e_N : ((Int32.ofInt (8))).toInt = 8 := rfl
    have t1 : XT l 0 0 false 240 153 6051 2 [xf 13 104, xf 10022 150, xi oo, xi kk] [] h1 39 [xf 13 104, xf 10022 150, xi oo, xi kk] [] h1 := XT_path (l := l) (fr := 0) (lo := 0) (full := false) (M := 240) (n := 153) (u := 6051) (pc := 2) (L := [xf 13 104, xf 10022 150, xi oo, xi kk]) (st := []) (h := h1) (inl := []) (n' := 80) (sp := [39]) (o := [1]) rfl rfl ⟨rfl, rfl, rfl⟩ rfl ⟨Nat.le_of_eq hg1.2.2.2.1, Nat.le_of_eq hg1.2.2.2.2⟩ ⟨trivial, (show (Int32.ofInt (8)) ≤ kk from Int32.le_iff_toInt_le.mpr (by omega))⟩
    obtain rfl : k = 8 := by omega
    exact ⟨kk, h1, t1, G, I1⟩
  | m + 1, k, kk, h1, G, hk, hm, I1 => by
    have hg1 := G.1
    have e_N : ((Int32.ofInt (8))).toInt = 8 := rfl
    have nk : kk.toNatClampNeg = k := zi_ix hk
    have sk := y_suc1 (k := kk) (by omega) (by omega)
    have ea : (oo + kk).toInt = 22 * u + k := by rw [y_addb (by omega) (by omega), ho, hk]
    have na : (oo + kk).toNatClampNeg = 22 * u + k := zi_ix (by rw [ea]; omega)
    have eb0 : ((Int32.ofInt (8))).toInt = 8 := rfl
    have eb1 : (oo + (Int32.ofInt (8))).toInt = 22 * u + 8 := by rw [y_addb (by omega) (by omega), ho, eb0]
    have eb : (oo + (Int32.ofInt (8)) + kk).toInt = 22 * u + 8 + k := by rw [y_addb (by omega) (by omega), eb1, hk]
    have nb : (oo + (Int32.ofInt (8)) + kk).toNatClampNeg = 22 * u + 8 + k := zi_ix (by rw [eb]; omega)
    have t1 : XT l 0 0 false 240 153 6051 2 [xf 13 104, xf 10022 150, xi oo, xi kk] [] h1 2 [xf 13 104, xf 10022 150, xi oo, xi (kk + Int32.ofInt (1))] [] (xsetI (xsetI h1 150 ((oo + kk)).toNatClampNeg (xI h1 (xR h1 104 58) (kk).toNatClampNeg)) 150 (((oo + (Int32.ofInt (8))) + kk)).toNatClampNeg (xI (xsetI h1 150 ((oo + kk)).toNatClampNeg (xI h1 (xR h1 104 58) (kk).toNatClampNeg)) (xR h1 104 57) (kk).toNatClampNeg)) := XT_path (l := l) (fr := 0) (lo := 0) (full := false) (M := 240) (n := 153) (u := 6051) (pc := 2) (L := [xf 13 104, xf 10022 150, xi oo, xi kk]) (st := []) (h := h1) (inl := []) (n' := 80) (sp := [2]) (o := [0]) rfl rfl ⟨rfl, rfl, rfl⟩ rfl ⟨Nat.le_of_eq hg1.2.2.2.1, Nat.le_of_eq hg1.2.2.2.2⟩ ⟨⟨⟨⟨⟨⟨⟨trivial, (show ¬ (Int32.ofInt (8)) ≤ kk from fun z => absurd (Int32.le_iff_toInt_le.mp z) (by omega))⟩, (vnn hg1.1 (rfl : vRf 104 58 = [136]) (by decide))⟩, (vp_of (i := kk) (n := 16) (by omega) (by omega))⟩, (vp_of (i := (oo + kk)) (n := 22) (by omega) (by omega))⟩, (vnn hg1.1 (rfl : vRf 104 57 = [135]) (by decide))⟩, (vp_of (i := kk) (n := 16) (by omega) (by omega))⟩, (vp_of (i := ((oo + (Int32.ofInt (8))) + kk)) (n := 22) (by omega) (by omega))⟩
    rw [vref hg1.1 (rfl : vRf 104 58 = [136]), vref hg1.1 (rfl : vRf 104 57 = [135])] at t1
    have t2 : XT l 0 0 false 240 153 6051 2 [xf 13 104, xf 10022 150, xi oo, xi kk] [] h1 2 [xf 13 104, xf 10022 150, xi oo, xi (kk + Int32.ofInt (1))] [] (xsetI (xsetI h1 150 ((oo + kk)).toNatClampNeg (xI h1 136 (kk).toNatClampNeg)) 150 (((oo + (Int32.ofInt (8))) + kk)).toNatClampNeg (xI h1 135 (kk).toNatClampNeg)) := t1
    obtain ⟨hE, eE⟩ : ∃ x, x = (xsetI (xsetI h1 150 ((oo + kk)).toNatClampNeg (xI h1 136 (kk).toNatClampNeg)) 150 (((oo + (Int32.ofInt (8))) + kk)).toNatClampNeg (xI h1 135 (kk).toNatClampNeg)) := ⟨_, rfl⟩
    have eE2 : hE = xsetI (xsetI h1 150 (22 * u + k) (xI h1 136 k)) 150 (22 * u + 8 + k) (xI h1 135 k) := by rw [eE]; simp only [na, nb, nk]
    have b1 := vb_u (k := k) hg1.1 rfl (rfl : vRow 136 = (-2, 1))
    have b2 := vb_u (k := k) hg1.1 rfl (rfl : vRow 135 = (0, 5))
    have GE : mW (fun c k : Nat => (c = 150 ∧ 22 * u ≤ k ∧ k < 22 * u + 16)) h hE := by rw [eE2]; exact (G.set (show (150 = 150 ∧ 22 * u ≤ (22 * u + k) ∧ (22 * u + k) < 22 * u + 16) from by omega) (by rw [vS150_c u hu k (by omega)]; exact b1)).set (show (150 = 150 ∧ 22 * u ≤ (22 * u + 8 + k) ∧ (22 * u + 8 + k) < 22 * u + 16) from by omega) (by rw [vS150_p u hu k (by omega)]; exact b2)
    have K1 : xI h1 136 k = xI h 136 k := G.k (fun z => by have z : (136 = 150 ∧ 22 * u ≤ k ∧ k < 22 * u + 16) := z; omega)
    have K2 : xI h1 135 k = xI h 135 k := G.k (fun z => by have z : (135 = 150 ∧ 22 * u ≤ k ∧ k < 22 * u + 16) := z; omega)
    rw [← eE] at t2
    obtain ⟨k3, h9, tq9, G9, I9⟩ := jk_putA150 l u hu oo ho h m (k + 1) (kk + Int32.ofInt (1)) hE GE (by omega) (by omega) (fun j hj => by rw [eE2]; exact if e : j = k then (by rw [e]; exact ⟨(yI_ne (eq_false (fun z => by have := z.2; omega))).trans (yI_same.trans K1), yI_same.trans K2⟩) else ⟨(yI_ne (eq_false (fun z => by have := z.2; omega))).trans ((yI_ne (eq_false (fun z => by have := z.2; omega))).trans (I1 j (by omega)).1), (yI_ne (eq_false (fun z => by have := z.2; omega))).trans ((yI_ne (eq_false (fun z => by have := z.2; omega))).trans (I1 j (by omega)).2)⟩)
    exact ⟨k3, h9, t2.tr tq9, G9, I9⟩
set_option maxRecDepth 100000 in
set_option maxHeartbeats 4000000 in
theorem jk_putB150 (l : Launch) (u : Nat) (hu : u < 1) (oo : Int32) (ho : oo.toInt = 22 * u) (h : XH) : ∀ (m k : Nat) (kk : Int32) (h1 : XH), mW (fun c k : Nat => (c = 150 ∧ 22 * u + 16 ≤ k ∧ k < 22 * u + 22)) h h1 → kk.toInt = k → k + m = 6 → (∀ j : Nat, j < k → xI h1 150 (22 * u + 16 + j) = xI h 133 j) → ∃ k2 h2, XT l 0 0 false 240 153 6051 41 [xf 13 104, xf 10022 150, xi oo, xi kk] [] h1 67 [xf 13 104, xf 10022 150, xi oo, xi k2] [] h2 ∧ mW (fun c k : Nat => (c = 150 ∧ 22 * u + 16 ≤ k ∧ k < 22 * u + 22)) h h2 ∧ (∀ j : Nat, j < 6 → xI h2 150 (22 * u + 16 + j) = xI h 133 j)
  | 0, k, kk, h1, G, hk, hm, I1 => by
    have hg1 := G.1
    have e_N : ((Int32.ofInt (6))).toInt = 6 := rfl
    have t1 : XT l 0 0 false 240 153 6051 41 [xf 13 104, xf 10022 150, xi oo, xi kk] [] h1 67 [xf 13 104, xf 10022 150, xi oo, xi kk] [] h1 := XT_path (l := l) (fr := 0) (lo := 0) (full := false) (M := 240) (n := 153) (u := 6051) (pc := 41) (L := [xf 13 104, xf 10022 150, xi oo, xi kk]) (st := []) (h := h1) (inl := []) (n' := 80) (sp := [67]) (o := [1]) rfl rfl ⟨rfl, rfl, rfl⟩ rfl ⟨Nat.le_of_eq hg1.2.2.2.1, Nat.le_of_eq hg1.2.2.2.2⟩ ⟨trivial, (show (Int32.ofInt (6)) ≤ kk from Int32.le_iff_toInt_le.mpr (by omega))⟩
    obtain rfl : k = 6 := by omega
    exact ⟨kk, h1, t1, G, I1⟩
  | m + 1, k, kk, h1, G, hk, hm, I1 => by
    have hg1 := G.1
    have e_N : ((Int32.ofInt (6))).toInt = 6 := rfl
    have nk : kk.toNatClampNeg = k := zi_ix hk
    have sk := y_suc1 (k := kk) (by omega) (by omega)
    have ec0 : ((Int32.ofInt (16))).toInt = 16 := rfl
    have ec1 : (oo + (Int32.ofInt (16))).toInt = 22 * u + 16 := by rw [y_addb (by omega) (by omega), ho, ec0]
    have ec : (oo + (Int32.ofInt (16)) + kk).toInt = 22 * u + 16 + k := by rw [y_addb (by omega) (by omega), ec1, hk]
    have nc : (oo + (Int32.ofInt (16)) + kk).toNatClampNeg = 22 * u + 16 + k := zi_ix (by rw [ec]; omega)
    have t1 : XT l 0 0 false 240 153 6051 41 [xf 13 104, xf 10022 150, xi oo, xi kk] [] h1 41 [xf 13 104, xf 10022 150, xi oo, xi (kk + Int32.ofInt (1))] [] (xsetI h1 150 (((oo + (Int32.ofInt (16))) + kk)).toNatClampNeg (xI h1 (xR h1 104 55) (kk).toNatClampNeg)) := XT_path (l := l) (fr := 0) (lo := 0) (full := false) (M := 240) (n := 153) (u := 6051) (pc := 41) (L := [xf 13 104, xf 10022 150, xi oo, xi kk]) (st := []) (h := h1) (inl := []) (n' := 80) (sp := [41]) (o := [0]) rfl rfl ⟨rfl, rfl, rfl⟩ rfl ⟨Nat.le_of_eq hg1.2.2.2.1, Nat.le_of_eq hg1.2.2.2.2⟩ ⟨⟨⟨⟨trivial, (show ¬ (Int32.ofInt (6)) ≤ kk from fun z => absurd (Int32.le_iff_toInt_le.mp z) (by omega))⟩, (vnn hg1.1 (rfl : vRf 104 55 = [133]) (by decide))⟩, (vp_of (i := kk) (n := 12) (by omega) (by omega))⟩, (vp_of (i := ((oo + (Int32.ofInt (16))) + kk)) (n := 22) (by omega) (by omega))⟩
    rw [vref hg1.1 (rfl : vRf 104 55 = [133])] at t1
    obtain ⟨hE, eE⟩ : ∃ x, x = (xsetI h1 150 (((oo + (Int32.ofInt (16))) + kk)).toNatClampNeg (xI h1 133 (kk).toNatClampNeg)) := ⟨_, rfl⟩
    have eE2 : hE = xsetI h1 150 (22 * u + 16 + k) (xI h1 133 k) := by rw [eE]; simp only [nc, nk]
    have b1 := vb_s (k := k) hg1.1 (vS133_s k (by omega))
    have GE : mW (fun c k : Nat => (c = 150 ∧ 22 * u + 16 ≤ k ∧ k < 22 * u + 22)) h hE := by rw [eE2]; exact G.set (show (150 = 150 ∧ 22 * u + 16 ≤ (22 * u + 16 + k) ∧ (22 * u + 16 + k) < 22 * u + 22) from by omega) (by rw [vS150_s u hu k (by omega)]; exact b1)
    have K1 : xI h1 133 k = xI h 133 k := G.k (fun z => by have z : (133 = 150 ∧ 22 * u + 16 ≤ k ∧ k < 22 * u + 22) := z; omega)
    rw [← eE] at t1
    obtain ⟨k3, h9, tq9, G9, I9⟩ := jk_putB150 l u hu oo ho h m (k + 1) (kk + Int32.ofInt (1)) hE GE (by omega) (by omega) (fun j hj => by rw [eE2]; exact if e : j = k then (by rw [e]; exact yI_same.trans K1) else ((yI_ne (eq_false (fun z => by have := z.2; omega))).trans (I1 j (by omega))))
    exact ⟨k3, h9, t1.tr tq9, G9, I9⟩
set_option maxRecDepth 100000 in
set_option maxHeartbeats 4000000 in
theorem jk_put150 (l : Launch) (u : Nat) (hu : u < 1) (oo : Int32) (ho : oo.toInt = 22 * u) (h : XH) (hg : mI h) : ∃ h', CX l 0 0 false 240 [xf 13 104, xf 10022 150, xi oo] h [] h' ∧ mW (fun c k : Nat => (c = 150 ∧ 22 * u ≤ k ∧ k < 22 * u + 22)) h h' ∧ (∀ j : Nat, j < 8 → xI h' 150 (22 * u + j) = xI h 136 j ∧ xI h' 150 (22 * u + 8 + j) = xI h 135 j) ∧ (∀ j : Nat, j < 6 → xI h' 150 (22 * u + 16 + j) = xI h 133 j) := by
  have t1 : XT l 0 0 false 240 153 6051 0 [xf 13 104, xf 10022 150, xi oo, xun] [] h 2 [xf 13 104, xf 10022 150, xi oo, xi (Int32.ofInt (0))] [] h := XT_path (l := l) (fr := 0) (lo := 0) (full := false) (M := 240) (n := 153) (u := 6051) (pc := 0) (L := [xf 13 104, xf 10022 150, xi oo, xun]) (st := []) (h := h) (inl := []) (n' := 80) (sp := [2]) (o := []) rfl rfl ⟨rfl, rfl, rfl⟩ rfl ⟨Nat.le_of_eq hg.2.2.2.1, Nat.le_of_eq hg.2.2.2.2⟩ trivial
  obtain ⟨k2, h2, z2, G2, I2⟩ := jk_putA150 l u hu oo ho h 8 0 (Int32.ofInt (0)) h (mW.rf hg) rfl rfl (fun j hj => absurd hj (Nat.not_lt_zero j))
  have T2 := t1.tr z2
  have t2 : XT l 0 0 false 240 153 6051 39 [xf 13 104, xf 10022 150, xi oo, xi k2] [] h2 41 [xf 13 104, xf 10022 150, xi oo, xi (Int32.ofInt (0))] [] h2 := XT_path (l := l) (fr := 0) (lo := 0) (full := false) (M := 240) (n := 153) (u := 6051) (pc := 39) (L := [xf 13 104, xf 10022 150, xi oo, xi k2]) (st := []) (h := h2) (inl := []) (n' := 80) (sp := [41]) (o := []) rfl rfl ⟨rfl, rfl, rfl⟩ rfl ⟨Nat.le_of_eq G2.1.2.2.2.1, Nat.le_of_eq G2.1.2.2.2.2⟩ trivial
  have t3 := T2.tr t2
  obtain ⟨k3, h3, z3, G3, I3⟩ := jk_putB150 l u hu oo ho h2 6 0 (Int32.ofInt (0)) h2 (mW.rf G2.1) rfl rfl (fun j hj => absurd hj (Nat.not_lt_zero j))
  have T3 := t3.tr z3
  exact ⟨h3, CX_ofT (h' := h3) (by decide) rfl rfl trivial ⟨_, _, _, rfl, rfl, rfl⟩ rfl ⟨Nat.le_of_eq G3.1.2.2.2.1.symm, Nat.le_of_eq G3.1.2.2.2.2.symm⟩ T3, (G2.mono (fun c k z => by have z : (c = 150 ∧ 22 * u ≤ k ∧ k < 22 * u + 16) := z; show (c = 150 ∧ 22 * u ≤ k ∧ k < 22 * u + 22); omega)).tr (G3.mono (fun c k z => by have z : (c = 150 ∧ 22 * u + 16 ≤ k ∧ k < 22 * u + 22) := z; show (c = 150 ∧ 22 * u ≤ k ∧ k < 22 * u + 22); omega)), fun j hj => ⟨(G3.k (fun z => by have z : (150 = 150 ∧ 22 * u + 16 ≤ (22 * u + j) ∧ (22 * u + j) < 22 * u + 22) := z; omega)).trans (I2 j hj).1, (G3.k (fun z => by have z : (150 = 150 ∧ 22 * u + 16 ≤ (22 * u + 8 + j) ∧ (22 * u + 8 + j) < 22 * u + 22) := z; omega)).trans (I2 j hj).2⟩, fun j hj => (I3 j hj).trans (G2.k (fun z => by have z : (133 = 150 ∧ 22 * u ≤ j ∧ j < 22 * u + 16) := z; omega))⟩
set_option maxRecDepth 100000 in
set_option maxHeartbeats 4000000 in
theorem jk_takeA150 (l : Launch) (u : Nat) (hu : u < 1) (oo : Int32) (ho : oo.toInt = 22 * u) (h : XH) : ∀ (m k : Nat) (kk : Int32) (h1 : XH), mW (fun c k : Nat => ((c = 135 ∨ c = 136) ∧ k < 8)) h h1 → kk.toInt = k → k + m = 8 → (∀ j : Nat, j < k → xI h1 136 j = xI h 150 (22 * u + j) ∧ xI h1 135 j = xI h 150 (22 * u + 8 + j)) → ∃ k2 h2, XT l 0 0 false 284 153 6051 2 [xf 13 104, xf 10022 150, xi oo, xi kk] [] h1 39 [xf 13 104, xf 10022 150, xi oo, xi k2] [] h2 ∧ mW (fun c k : Nat => ((c = 135 ∨ c = 136) ∧ k < 8)) h h2 ∧ (∀ j : Nat, j < 8 → xI h2 136 j = xI h 150 (22 * u + j) ∧ xI h2 135 j = xI h 150 (22 * u + 8 + j))
  | 0, k, kk, h1, G, hk, hm, I1 => by
    have hg1 := G.1
    have e_N : ((Int32.ofInt (8))).toInt = 8 := rfl
    have t1 : XT l 0 0 false 284 153 6051 2 [xf 13 104, xf 10022 150, xi oo, xi kk] [] h1 39 [xf 13 104, xf 10022 150, xi oo, xi kk] [] h1 := XT_path (l := l) (fr := 0) (lo := 0) (full := false) (M := 284) (n := 153) (u := 6051) (pc := 2) (L := [xf 13 104, xf 10022 150, xi oo, xi kk]) (st := []) (h := h1) (inl := []) (n' := 80) (sp := [39]) (o := [1]) rfl rfl ⟨rfl, rfl, rfl⟩ rfl ⟨Nat.le_of_eq hg1.2.2.2.1, Nat.le_of_eq hg1.2.2.2.2⟩ ⟨trivial, (show (Int32.ofInt (8)) ≤ kk from Int32.le_iff_toInt_le.mpr (by omega))⟩
    obtain rfl : k = 8 := by omega
    exact ⟨kk, h1, t1, G, I1⟩
  | m + 1, k, kk, h1, G, hk, hm, I1 => by
    have hg1 := G.1
    have e_N : ((Int32.ofInt (8))).toInt = 8 := rfl
    have nk : kk.toNatClampNeg = k := zi_ix hk
    have sk := y_suc1 (k := kk) (by omega) (by omega)
    have ea : (oo + kk).toInt = 22 * u + k := by rw [y_addb (by omega) (by omega), ho, hk]
    have na : (oo + kk).toNatClampNeg = 22 * u + k := zi_ix (by rw [ea]; omega)
    have eb0 : ((Int32.ofInt (8))).toInt = 8 := rfl
    have eb1 : (oo + (Int32.ofInt (8))).toInt = 22 * u + 8 := by rw [y_addb (by omega) (by omega), ho, eb0]
    have eb : (oo + (Int32.ofInt (8)) + kk).toInt = 22 * u + 8 + k := by rw [y_addb (by omega) (by omega), eb1, hk]
    have nb : (oo + (Int32.ofInt (8)) + kk).toNatClampNeg = 22 * u + 8 + k := zi_ix (by rw [eb]; omega)
    have t1 : XT l 0 0 false 284 153 6051 2 [xf 13 104, xf 10022 150, xi oo, xi kk] [] h1 2 [xf 13 104, xf 10022 150, xi oo, xi (kk + Int32.ofInt (1))] [] (xsetI (xsetI h1 (xR h1 104 58) (kk).toNatClampNeg (xI h1 150 ((oo + kk)).toNatClampNeg)) (xR h1 104 57) (kk).toNatClampNeg (xI (xsetI h1 (xR h1 104 58) (kk).toNatClampNeg (xI h1 150 ((oo + kk)).toNatClampNeg)) 150 (((oo + (Int32.ofInt (8))) + kk)).toNatClampNeg)) := XT_path (l := l) (fr := 0) (lo := 0) (full := false) (M := 284) (n := 153) (u := 6051) (pc := 2) (L := [xf 13 104, xf 10022 150, xi oo, xi kk]) (st := []) (h := h1) (inl := []) (n' := 80) (sp := [2]) (o := [0]) rfl rfl ⟨rfl, rfl, rfl⟩ rfl ⟨Nat.le_of_eq hg1.2.2.2.1, Nat.le_of_eq hg1.2.2.2.2⟩ ⟨⟨⟨⟨⟨⟨⟨trivial, (show ¬ (Int32.ofInt (8)) ≤ kk from fun z => absurd (Int32.le_iff_toInt_le.mp z) (by omega))⟩, (vnn hg1.1 (rfl : vRf 104 58 = [136]) (by decide))⟩, (vp_of (i := (oo + kk)) (n := 22) (by omega) (by omega))⟩, (vp_of (i := kk) (n := 16) (by omega) (by omega))⟩, (vnn hg1.1 (rfl : vRf 104 57 = [135]) (by decide))⟩, (vp_of (i := ((oo + (Int32.ofInt (8))) + kk)) (n := 22) (by omega) (by omega))⟩, (vp_of (i := kk) (n := 16) (by omega) (by omega))⟩
    rw [vref hg1.1 (rfl : vRf 104 58 = [136]), vref hg1.1 (rfl : vRf 104 57 = [135])] at t1
    have t2 : XT l 0 0 false 284 153 6051 2 [xf 13 104, xf 10022 150, xi oo, xi kk] [] h1 2 [xf 13 104, xf 10022 150, xi oo, xi (kk + Int32.ofInt (1))] [] (xsetI (xsetI h1 136 (kk).toNatClampNeg (xI h1 150 ((oo + kk)).toNatClampNeg)) 135 (kk).toNatClampNeg (xI h1 150 (((oo + (Int32.ofInt (8))) + kk)).toNatClampNeg)) := t1
    obtain ⟨hE, eE⟩ : ∃ x, x = (xsetI (xsetI h1 136 (kk).toNatClampNeg (xI h1 150 ((oo + kk)).toNatClampNeg)) 135 (kk).toNatClampNeg (xI h1 150 (((oo + (Int32.ofInt (8))) + kk)).toNatClampNeg)) := ⟨_, rfl⟩
    have eE2 : hE = xsetI (xsetI h1 136 k (xI h1 150 (22 * u + k))) 135 k (xI h1 150 (22 * u + 8 + k)) := by rw [eE]; simp only [na, nb, nk]
    have b1 := vb_s (k := 22 * u + k) hg1.1 (vS150_c u hu k (by omega))
    have b2 := vb_s (k := 22 * u + 8 + k) hg1.1 (vS150_p u hu k (by omega))
    have GE : mW (fun c k : Nat => ((c = 135 ∨ c = 136) ∧ k < 8)) h hE := by rw [eE2]; exact (G.set (show ((136 = 135 ∨ 136 = 136) ∧ k < 8) from by omega) (by rw [vI_u rfl (rfl : vRow 136 = (-2, 1))]; exact b1)).set (show ((135 = 135 ∨ 135 = 136) ∧ k < 8) from by omega) (by rw [vI_u rfl (rfl : vRow 135 = (0, 5))]; exact b2)
    have K : ∀ j, xI h1 150 j = xI h 150 j := fun j => G.k (fun z => by have z : ((150 = 135 ∨ 150 = 136) ∧ j < 8) := z; omega)
    rw [← eE] at t2
    obtain ⟨k3, h9, tq9, G9, I9⟩ := jk_takeA150 l u hu oo ho h m (k + 1) (kk + Int32.ofInt (1)) hE GE (by omega) (by omega) (fun j hj => by rw [eE2]; exact if e : j = k then (by rw [e]; exact ⟨(yI_c (by decide)).trans (yI_same.trans (K _)), yI_same.trans (K _)⟩) else ⟨(yI_c (by decide)).trans ((yI_ne (eq_false (fun z => e z.2))).trans (I1 j (by omega)).1), (yI_ne (eq_false (fun z => e z.2))).trans ((yI_c (by decide)).trans (I1 j (by omega)).2)⟩)
    exact ⟨k3, h9, t2.tr tq9, G9, I9⟩
set_option maxRecDepth 100000 in
set_option maxHeartbeats 4000000 in
theorem jk_takeB150 (l : Launch) (u : Nat) (hu : u < 1) (oo : Int32) (ho : oo.toInt = 22 * u) (h : XH) : ∀ (m k : Nat) (kk : Int32) (h1 : XH), mW (fun c k : Nat => (c = 133 ∧ k < 6)) h h1 → kk.toInt = k → k + m = 6 → (∀ j : Nat, j < k → xI h1 133 j = xI h 150 (22 * u + 16 + j)) → ∃ k2 h2, XT l 0 0 false 284 153 6051 41 [xf 13 104, xf 10022 150, xi oo, xi kk] [] h1 67 [xf 13 104, xf 10022 150, xi oo, xi k2] [] h2 ∧ mW (fun c k : Nat => (c = 133 ∧ k < 6)) h h2 ∧ (∀ j : Nat, j < 6 → xI h2 133 j = xI h 150 (22 * u + 16 + j))
  | 0, k, kk, h1, G, hk, hm, I1 => by
    have hg1 := G.1
    have e_N : ((Int32.ofInt (6))).toInt = 6 := rfl
    have t1 : XT l 0 0 false 284 153 6051 41 [xf 13 104, xf 10022 150, xi oo, xi kk] [] h1 67 [xf 13 104, xf 10022 150, xi oo, xi kk] [] h1 := XT_path (l := l) (fr := 0) (lo := 0) (full := false) (M := 284) (n := 153) (u := 6051) (pc := 41) (L := [xf 13 104, xf 10022 150, xi oo, xi kk]) (st := []) (h := h1) (inl := []) (n' := 80) (sp := [67]) (o := [1]) rfl rfl ⟨rfl, rfl, rfl⟩ rfl ⟨Nat.le_of_eq hg1.2.2.2.1, Nat.le_of_eq hg1.2.2.2.2⟩ ⟨trivial, (show (Int32.ofInt (6)) ≤ kk from Int32.le_iff_toInt_le.mpr (by omega))⟩
    obtain rfl : k = 6 := by omega
    exact ⟨kk, h1, t1, G, I1⟩
  | m + 1, k, kk, h1, G, hk, hm, I1 => by
    have hg1 := G.1
    have e_N : ((Int32.ofInt (6))).toInt = 6 := rfl
    have nk : kk.toNatClampNeg = k := zi_ix hk
    have sk := y_suc1 (k := kk) (by omega) (by omega)
    have ec0 : ((Int32.ofInt (16))).toInt = 16 := rfl
    have ec1 : (oo + (Int32.ofInt (16))).toInt = 22 * u + 16 := by rw [y_addb (by omega) (by omega), ho, ec0]
    have ec : (oo + (Int32.ofInt (16)) + kk).toInt = 22 * u + 16 + k := by rw [y_addb (by omega) (by omega), ec1, hk]
    have nc : (oo + (Int32.ofInt (16)) + kk).toNatClampNeg = 22 * u + 16 + k := zi_ix (by rw [ec]; omega)
    have t1 : XT l 0 0 false 284 153 6051 41 [xf 13 104, xf 10022 150, xi oo, xi kk] [] h1 41 [xf 13 104, xf 10022 150, xi oo, xi (kk + Int32.ofInt (1))] [] (xsetI h1 (xR h1 104 55) (kk).toNatClampNeg (xI h1 150 (((oo + (Int32.ofInt (16))) + kk)).toNatClampNeg)) := XT_path (l := l) (fr := 0) (lo := 0) (full := false) (M := 284) (n := 153) (u := 6051) (pc := 41) (L := [xf 13 104, xf 10022 150, xi oo, xi kk]) (st := []) (h := h1) (inl := []) (n' := 80) (sp := [41]) (o := [0]) rfl rfl ⟨rfl, rfl, rfl⟩ rfl ⟨Nat.le_of_eq hg1.2.2.2.1, Nat.le_of_eq hg1.2.2.2.2⟩ ⟨⟨⟨⟨trivial, (show ¬ (Int32.ofInt (6)) ≤ kk from fun z => absurd (Int32.le_iff_toInt_le.mp z) (by omega))⟩, (vnn hg1.1 (rfl : vRf 104 55 = [133]) (by decide))⟩, (vp_of (i := ((oo + (Int32.ofInt (16))) + kk)) (n := 22) (by omega) (by omega))⟩, (vp_of (i := kk) (n := 12) (by omega) (by omega))⟩
    rw [vref hg1.1 (rfl : vRf 104 55 = [133])] at t1
    obtain ⟨hE, eE⟩ : ∃ x, x = (xsetI h1 133 (kk).toNatClampNeg (xI h1 150 (((oo + (Int32.ofInt (16))) + kk)).toNatClampNeg)) := ⟨_, rfl⟩
    have eE2 : hE = xsetI h1 133 k (xI h1 150 (22 * u + 16 + k)) := by rw [eE]; simp only [nc, nk]
    have b1 := vb_s (k := 22 * u + 16 + k) hg1.1 (vS150_s u hu k (by omega))
    have GE : mW (fun c k : Nat => (c = 133 ∧ k < 6)) h hE := by rw [eE2]; exact G.set (show (133 = 133 ∧ k < 6) from by omega) (by rw [vS133_s k (by omega)]; exact b1)
    have K : ∀ j, xI h1 150 j = xI h 150 j := fun j => G.k (fun z => by have z : (150 = 133 ∧ j < 6) := z; omega)
    rw [← eE] at t1
    obtain ⟨k3, h9, tq9, G9, I9⟩ := jk_takeB150 l u hu oo ho h m (k + 1) (kk + Int32.ofInt (1)) hE GE (by omega) (by omega) (fun j hj => by rw [eE2]; exact if e : j = k then (by rw [e]; exact yI_same.trans (K _)) else ((yI_ne (eq_false (fun z => e z.2))).trans (I1 j (by omega))))
    exact ⟨k3, h9, t1.tr tq9, G9, I9⟩
set_option maxRecDepth 100000 in
set_option maxHeartbeats 4000000 in
theorem jk_take150 (l : Launch) (u : Nat) (hu : u < 1) (oo : Int32) (ho : oo.toInt = 22 * u) (h : XH) (hg : mI h) : ∃ h', CX l 0 0 false 284 [xf 13 104, xf 10022 150, xi oo] h [] h' ∧ mW (fun c k : Nat => ((c = 133 ∧ k < 6) ∨ ((c = 135 ∨ c = 136) ∧ k < 8))) h h' ∧ (∀ j : Nat, j < 8 → xI h' 136 j = xI h 150 (22 * u + j) ∧ xI h' 135 j = xI h 150 (22 * u + 8 + j)) ∧ (∀ j : Nat, j < 6 → xI h' 133 j = xI h 150 (22 * u + 16 + j)) := by
  have t1 : XT l 0 0 false 284 153 6051 0 [xf 13 104, xf 10022 150, xi oo, xun] [] h 2 [xf 13 104, xf 10022 150, xi oo, xi (Int32.ofInt (0))] [] h := XT_path (l := l) (fr := 0) (lo := 0) (full := false) (M := 284) (n := 153) (u := 6051) (pc := 0) (L := [xf 13 104, xf 10022 150, xi oo, xun]) (st := []) (h := h) (inl := []) (n' := 80) (sp := [2]) (o := []) rfl rfl ⟨rfl, rfl, rfl⟩ rfl ⟨Nat.le_of_eq hg.2.2.2.1, Nat.le_of_eq hg.2.2.2.2⟩ trivial
  obtain ⟨k2, h2, z2, G2, I2⟩ := jk_takeA150 l u hu oo ho h 8 0 (Int32.ofInt (0)) h (mW.rf hg) rfl rfl (fun j hj => absurd hj (Nat.not_lt_zero j))
  have T2 := t1.tr z2
  have t2 : XT l 0 0 false 284 153 6051 39 [xf 13 104, xf 10022 150, xi oo, xi k2] [] h2 41 [xf 13 104, xf 10022 150, xi oo, xi (Int32.ofInt (0))] [] h2 := XT_path (l := l) (fr := 0) (lo := 0) (full := false) (M := 284) (n := 153) (u := 6051) (pc := 39) (L := [xf 13 104, xf 10022 150, xi oo, xi k2]) (st := []) (h := h2) (inl := []) (n' := 80) (sp := [41]) (o := []) rfl rfl ⟨rfl, rfl, rfl⟩ rfl ⟨Nat.le_of_eq G2.1.2.2.2.1, Nat.le_of_eq G2.1.2.2.2.2⟩ trivial
  have t3 := T2.tr t2
  obtain ⟨k3, h3, z3, G3, I3⟩ := jk_takeB150 l u hu oo ho h2 6 0 (Int32.ofInt (0)) h2 (mW.rf G2.1) rfl rfl (fun j hj => absurd hj (Nat.not_lt_zero j))
  have T3 := t3.tr z3
  exact ⟨h3, CX_ofT (h' := h3) (by decide) rfl rfl trivial ⟨_, _, _, rfl, rfl, rfl⟩ rfl ⟨Nat.le_of_eq G3.1.2.2.2.1.symm, Nat.le_of_eq G3.1.2.2.2.2.symm⟩ T3, (G2.mono (fun c k z => by have z : ((c = 135 ∨ c = 136) ∧ k < 8) := z; show ((c = 133 ∧ k < 6) ∨ ((c = 135 ∨ c = 136) ∧ k < 8)); omega)).tr (G3.mono (fun c k z => by have z : (c = 133 ∧ k < 6) := z; show ((c = 133 ∧ k < 6) ∨ ((c = 135 ∨ c = 136) ∧ k < 8)); omega)), fun j hj => ⟨(G3.k (fun z => by have z : (136 = 133 ∧ j < 6) := z; omega)).trans (I2 j hj).1, (G3.k (fun z => by have z : (135 = 133 ∧ j < 6) := z; omega)).trans (I2 j hj).2⟩, fun j hj => (I3 j hj).trans (G2.k (fun z => by have z : ((150 = 135 ∨ 150 = 136) ∧ (22 * u + 16 + j) < 8) := z; omega))⟩
set_option maxRecDepth 100000 in
set_option maxHeartbeats 4000000 in
theorem jk_shift (l : Launch) (h : XH) : ∀ (m k : Nat) (kk : Int32) (h1 : XH), mW (fun c _ : Nat => c = 149) h h1 → kk.toInt = k → k + m = 418 → (∀ j : Nat, j < k → xI h1 149 j = xI h 149 (j + 22)) → (∀ j : Nat, k ≤ j → xI h1 149 j = xI h 149 j) → ∃ k2 h2, XT l 2 60 false 239 153 6051 11 [xf 13 104, xi kk] [] h1 39 [xf 13 104, xi k2] [] h2 ∧ mW (fun c _ : Nat => c = 149) h h2 ∧ (∀ j : Nat, j < 418 → xI h2 149 j = xI h 149 (j + 22))
  | 0, k, kk, h1, G, hk, hm, I1, I2 => by
    have hg1 := G.1
    have e_N : ((Int32.ofInt (418))).toInt = 418 := rfl
    have t1 : XT l 2 60 false 239 153 6051 11 [xf 13 104, xi kk] [] h1 39 [xf 13 104, xi kk] [] h1 := XT_path (l := l) (fr := 2) (lo := 60) (full := false) (M := 239) (n := 153) (u := 6051) (pc := 11) (L := [xf 13 104, xi kk]) (st := []) (h := h1) (inl := []) (n' := 80) (sp := [39]) (o := [1]) rfl rfl ⟨rfl, rfl, rfl⟩ rfl ⟨Nat.le_of_eq hg1.2.2.2.1, Nat.le_of_eq hg1.2.2.2.2⟩ ⟨trivial, (show (Int32.ofInt (418)) ≤ kk from Int32.le_iff_toInt_le.mpr (by omega))⟩
    obtain rfl : k = 418 := by omega
    exact ⟨kk, h1, t1, G, I1⟩
  | m + 1, k, kk, h1, G, hk, hm, I1, I2 => by
    have hg1 := G.1
    have e_N : ((Int32.ofInt (418))).toInt = 418 := rfl
    have nk : kk.toNatClampNeg = k := zi_ix hk
    have sk := y_suc1 (k := kk) (by omega) (by omega)
    have ea0 : ((Int32.ofInt (22))).toInt = 22 := rfl
    have ea : (kk + (Int32.ofInt (22))).toInt = k + 22 := by rw [y_addb (by omega) (by omega), hk, ea0]
    have na : (kk + (Int32.ofInt (22))).toNatClampNeg = k + 22 := zi_ix (by rw [ea]; omega)
    have t1 : XT l 2 60 false 239 153 6051 11 [xf 13 104, xi kk] [] h1 11 [xf 13 104, xi (kk + Int32.ofInt (1))] [] (xsetI h1 (xR h1 104 77) (kk).toNatClampNeg (xI h1 (xR h1 104 77) ((kk + (Int32.ofInt (22)))).toNatClampNeg)) := XT_path (l := l) (fr := 2) (lo := 60) (full := false) (M := 239) (n := 153) (u := 6051) (pc := 11) (L := [xf 13 104, xi kk]) (st := []) (h := h1) (inl := []) (n' := 80) (sp := [11]) (o := [0]) rfl rfl ⟨rfl, rfl, rfl⟩ rfl ⟨Nat.le_of_eq hg1.2.2.2.1, Nat.le_of_eq hg1.2.2.2.2⟩ ⟨⟨⟨⟨⟨trivial, (show ¬ (Int32.ofInt (418)) ≤ kk from fun z => absurd (Int32.le_iff_toInt_le.mp z) (by omega))⟩, (vnn hg1.1 (rfl : vRf 104 77 = [149]) (by decide))⟩, (vnn hg1.1 (rfl : vRf 104 77 = [149]) (by decide))⟩, (vp_of (i := (kk + (Int32.ofInt (22)))) (n := 440) (by omega) (by omega))⟩, (vp_of (i := kk) (n := 440) (by omega) (by omega))⟩
    rw [vref hg1.1 (rfl : vRf 104 77 = [149])] at t1
    obtain ⟨hE, eE⟩ : ∃ x, x = (xsetI h1 149 (kk).toNatClampNeg (xI h1 149 ((kk + (Int32.ofInt (22)))).toNatClampNeg)) := ⟨_, rfl⟩
    have eE2 : hE = xsetI h1 149 k (xI h1 149 (k + 22)) := by rw [eE]; simp only [na, nk]
    have b1 := vbnd hg1.1 149 (k + 22)
    rw [vS149_sh k (by omega)] at b1
    have GE : mW (fun c _ : Nat => c = 149) h hE := by rw [eE2]; exact G.set (show 149 = 149 from rfl) b1
    rw [← eE] at t1
    obtain ⟨k3, h9, tq9, G9, I9⟩ := jk_shift l h m (k + 1) (kk + Int32.ofInt (1)) hE GE (by omega) (by omega) (fun j hj => by rw [eE2]; exact if e : j = k then (by rw [e]; exact yI_same.trans (I2 (k + 22) (by omega))) else ((yI_ne (eq_false (fun z => e z.2))).trans (I1 j (by omega)))) (fun j hj => by rw [eE2]; exact (yI_ne (eq_false (fun z => by have := z.2; omega))).trans (I2 j (by omega)))
    exact ⟨k3, h9, t1.tr tq9, G9, I9⟩
set_option maxRecDepth 100000 in
set_option maxHeartbeats 4000000 in
theorem jk_remT (l : Launch) (Z : Nat → Int) (Y : Nat → Int32) (n : Nat) (hn : n < 20) (x1 : XV) (h : XH) (hg : mI h) (B : zcB Z) (jw : jHf 0 Z Y h) (e76 : (xI h 104 76).toInt = n) : ∃ L' h', XT l 2 60 false 239 153 6051 49 [xf 13 104, x1] [] h 74 L' [] h' ∧ L'.length = 2 ∧ mW (fun c k : Nat => ((c = 149) ∨ (c = 104 ∧ k = 76))) h h' ∧ (xI h' 104 76).toInt = n + 1 ∧ jSn 149 (22 * n) Z Y h' ∧ (∀ k, k < 22 * n → xI h' 149 k = xI h 149 k) := by
  have ea0 : ((Int32.ofInt (22))).toInt = 22 := rfl
  have ea : ((Int32.ofInt (22)) * xI h 104 76).toInt = 22 * n := by rw [y_mulb (by rw [ea0, e76]; omega), ea0, e76]
  have t1 : XT l 2 60 false 239 153 6051 49 [xf 13 104, x1] [] h 61 [xf 13 104, x1] [xi ((Int32.ofInt (22)) * (xI h 104 76)), xf 10440 (xR h 104 77), xf 13 104] h := XT_path (l := l) (fr := 2) (lo := 60) (full := false) (M := 239) (n := 153) (u := 6051) (pc := 49) (L := [xf 13 104, x1]) (st := []) (h := h) (inl := []) (n' := 80) (sp := [61]) (o := []) rfl rfl ⟨rfl, rfl, rfl⟩ rfl ⟨Nat.le_of_eq hg.2.2.2.1, Nat.le_of_eq hg.2.2.2.2⟩ ⟨trivial, (vnn hg.1 (rfl : vRf 104 77 = [149]) (by decide))⟩
  rw [vref hg.1 (rfl : vRf 104 77 = [149])] at t1
  obtain ⟨h2, c2, G2, I2, J2⟩ := jk_put149 l n hn ((Int32.ofInt (22)) * (xI h 104 76)) ea h hg
  have t2 : XT l 2 60 false 239 153 6051 61 [xf 13 104, x1] [xi ((Int32.ofInt (22)) * (xI h 104 76)), xf 10440 149, xf 13 104] h 64 [xf 13 104, x1] [] h2 := XT_call (l := l) (fr := 2) (lo := 60) (full := false) (M := 239) (n := 153) (u := 6051) (pc := 61) (L := [xf 13 104, x1]) (st := [xi ((Int32.ofInt (22)) * (xI h 104 76)), xf 10440 149, xf 13 104]) (h := h) (i := .invokevirtual 240) (aux := 3) (nx := 64) (K := 240) (vs := [xf 13 104, xf 10440 149, xi ((Int32.ofInt (22)) * (xI h 104 76))]) (rs := []) (rest := []) rfl rfl rfl rfl rfl rfl c2 (by decide) (by decide) (Nat.le_of_ble_eq_true rfl) ⟨Nat.le_of_eq G2.1.2.2.2.1, Nat.le_of_eq G2.1.2.2.2.2⟩
  have t3 := t1.tr t2
  have t4 : XT l 2 60 false 239 153 6051 64 [xf 13 104, x1] [] h2 74 [xf 13 104, x1] [] (xsetI h2 104 76 ((xI h2 104 76) + (Int32.ofInt (1)))) := XT_path (l := l) (fr := 2) (lo := 60) (full := false) (M := 239) (n := 153) (u := 6051) (pc := 64) (L := [xf 13 104, x1]) (st := []) (h := h2) (inl := []) (n' := 80) (sp := [74]) (o := []) rfl rfl ⟨rfl, rfl, rfl⟩ rfl ⟨Nat.le_of_eq G2.1.2.2.2.1, Nat.le_of_eq G2.1.2.2.2.2⟩ trivial
  have t5 := t3.tr t4
  obtain ⟨hE, eE⟩ : ∃ x, x = (xsetI h2 104 76 ((xI h2 104 76) + (Int32.ofInt (1)))) := ⟨_, rfl⟩
  have k76 : xI h2 104 76 = xI h 104 76 := G2.k (fun z => by have z : (104 = 149 ∧ 22 * n ≤ 76 ∧ 76 < 22 * n + 22) := z; omega)
  have s76 : (xI h2 104 76 + (Int32.ofInt (1))).toInt = n + 1 := by rw [k76, y_suc1 (by omega) (by omega), e76]
  have eE2 : hE = xsetI h2 104 76 (xI h2 104 76 + (Int32.ofInt (1))) := eE
  have GE : mW (fun c k : Nat => ((c = 149) ∨ (c = 104 ∧ k = 76))) h hE := by rw [eE2]; exact (G2.mono (fun c k z => Or.inl z.1)).set (Or.inr ⟨rfl, rfl⟩) (by show (0 : Int) ≤ _ ∧ _ ≤ 20; rw [s76]; omega)
  rw [← eE] at t5
  obtain ⟨⟨B00, B01⟩, -, ⟨B20, B21⟩, -⟩ := B
  have f9 : ∀ k, xI hE 149 k = xI h2 149 k := fun k => by rw [eE2]; exact yI_c (by decide)
  refine ⟨_, hE, t5, rfl, GE, by rw [eE2, yI_same]; exact s76, ⟨fun p hp => ⟨?_, ?_⟩, fun r hr => ?_⟩, fun k hk => (f9 k).trans (G2.k (fun z => by have z : (149 = 149 ∧ 22 * n ≤ k ∧ k < 22 * n + 22) := z; omega))⟩
  · rw [f9, (I2 p (by omega)).1]
    have z := (jw.2.1 p hp).2
    rw [show 8 * 0 + p = p from by omega] at z
    exact z
  · rw [f9, (I2 p (by omega)).2]
    have z := (jw.2.1 p hp).1
    rw [show 8 * 0 + p = p from by omega] at z
    exact z
  · rw [f9, J2 r (by omega)]
    have z := jw.1 r hr
    rw [show 6 * 0 + r = r from by omega] at z
    exact z
set_option maxRecDepth 100000 in
set_option maxHeartbeats 4000000 in
theorem jk_rem (l : Launch) (Z : Nat → Int) (U : Nat → Nat → Int32) (X : Nat → Int32) (n : Nat) (hn : n ≤ 20) (h : XH) (hg : mI h) (B : zcB Z) (jw : jHf 0 Z (U n) h) (jp : jPa n U Z h) : ∃ h', CX l 2 60 false 239 [xf 13 104] h [] h' ∧ mW (fun c k : Nat => ((c = 149) ∨ (c = 104 ∧ k = 76))) h h' ∧ jPa (zpn n) (zpu n U X) Z h' := by
  have e_20 : ((Int32.ofInt (20))).toInt = 20 := rfl
  have e76 := jp.1
  by_cases n20 : n = 20
  · have z1 : zpn n = 20 := if_neg (by omega)
    have t1 : XT l 2 60 false 239 153 6051 0 [xf 13 104, xun] [] h 11 [xf 13 104, xi (Int32.ofInt (0))] [] h := XT_path (l := l) (fr := 2) (lo := 60) (full := false) (M := 239) (n := 153) (u := 6051) (pc := 0) (L := [xf 13 104, xun]) (st := []) (h := h) (inl := []) (n' := 80) (sp := [11]) (o := [0]) rfl rfl ⟨rfl, rfl, rfl⟩ rfl ⟨Nat.le_of_eq hg.2.2.2.1, Nat.le_of_eq hg.2.2.2.2⟩ ⟨trivial, (show (xI h 104 76) = (Int32.ofInt (20)) from Int32.toInt_inj.mp (by omega))⟩
    obtain ⟨k2, h2, z2, G2, I2⟩ := jk_shift l h 418 0 (Int32.ofInt (0)) h (mW.rf hg) rfl rfl (fun j hj => absurd hj (Nat.not_lt_zero j)) (fun j _ => rfl)
    have T2 := t1.tr z2
    have t2 : XT l 2 60 false 239 153 6051 39 [xf 13 104, xi k2] [] h2 49 [xf 13 104, xi k2] [] (xsetI h2 104 76 ((xI h2 104 76) - (Int32.ofInt (1)))) := XT_path (l := l) (fr := 2) (lo := 60) (full := false) (M := 239) (n := 153) (u := 6051) (pc := 39) (L := [xf 13 104, xi k2]) (st := []) (h := h2) (inl := []) (n' := 80) (sp := [49]) (o := []) rfl rfl ⟨rfl, rfl, rfl⟩ rfl ⟨Nat.le_of_eq G2.1.2.2.2.1, Nat.le_of_eq G2.1.2.2.2.2⟩ trivial
    have t3 := T2.tr t2
    obtain ⟨hB, eB⟩ : ∃ x, x = (xsetI h2 104 76 ((xI h2 104 76) - (Int32.ofInt (1)))) := ⟨_, rfl⟩
    have k76 : xI h2 104 76 = xI h 104 76 := G2.k (fun z => by have z : 104 = 149 := z; omega)
    have s76 : (xI h2 104 76 - (Int32.ofInt (1))).toInt = 19 := by rw [k76, y_pred (by omega) (by omega), e76]; omega
    have eB2 : hB = xsetI h2 104 76 (xI h2 104 76 - (Int32.ofInt (1))) := eB
    have GB : mW (fun c k : Nat => ((c = 149) ∨ (c = 104 ∧ k = 76))) h hB := by rw [eB2]; exact (G2.mono (fun c k z => Or.inl z)).set (Or.inr ⟨rfl, rfl⟩) (by show (0 : Int) ≤ _ ∧ _ ≤ 20; rw [s76]; omega)
    rw [← eB] at t3
    have eN : (xI hB 104 76).toInt = (19 : Nat) := by rw [eB2, yI_same]; exact s76
    have jwB : jHf 0 Z (U n) hB := jw.o (fun c k c1 c2 => GB.k (fun z => by have z : ((c = 149) ∨ (c = 104 ∧ k = 76)) := z; omega))
    obtain ⟨L4, h4, z4, l4, G4, s4, J4, K4⟩ := jk_remT l Z (U n) 19 (by omega) (xi k2) hB GB.1 B jwB eN
    have T4 := t3.tr z4
    have G5 : mW (fun c k : Nat => ((c = 149) ∨ (c = 104 ∧ k = 76))) h h4 := GB.tr G4
    refine ⟨h4, CX_ofT (h' := h4) (by decide) rfl rfl trivial ⟨_, _, _, rfl, rfl, rfl⟩ l4 ⟨Nat.le_of_eq G4.1.2.2.2.1.symm, Nat.le_of_eq G4.1.2.2.2.2.symm⟩ T4, G5, ?_⟩
    rw [z1]
    refine ⟨by rw [s4]; rfl, fun k hk => ?_⟩
    have zu : zpu n U X k = U (k + 1) := (if_neg (by omega)).trans (if_pos hk)
    rw [zu]
    by_cases e : k = 19
    · have e2 : k + 1 = n := by omega
      rw [e2, e]
      exact J4
    · have f : ∀ j, 22 * k ≤ j → j < 22 * k + 22 → xI h4 149 j = xI h 149 (j + 22) := fun j j1 j2 => (K4 j (by omega)).trans (by rw [eB2, yI_c (by decide)]; exact I2 j (by omega))
      obtain ⟨a1, a2⟩ := jp.2 (k + 1) (by omega)
      obtain ⟨⟨B00, B01⟩, -, ⟨B20, B21⟩, -⟩ := B
      refine ⟨fun p hp => ⟨?_, ?_⟩, fun r hr => ?_⟩
      · rw [f _ (by omega) (by omega), show 22 * k + p + 22 = 22 * (k + 1) + p from by omega]; exact (a1 p hp).1
      · rw [f _ (by omega) (by omega), show 22 * k + 8 + p + 22 = 22 * (k + 1) + 8 + p from by omega]; exact (a1 p hp).2
      · rw [f _ (by omega) (by omega), show 22 * k + 16 + r + 22 = 22 * (k + 1) + 16 + r from by omega]; exact a2 r hr
  · have z1 : zpn n = n + 1 := if_pos (by omega)
    have t4 : XT l 2 60 false 239 153 6051 0 [xf 13 104, xun] [] h 49 [xf 13 104, xun] [] h := XT_path (l := l) (fr := 2) (lo := 60) (full := false) (M := 239) (n := 153) (u := 6051) (pc := 0) (L := [xf 13 104, xun]) (st := []) (h := h) (inl := []) (n' := 80) (sp := [49]) (o := [1]) rfl rfl ⟨rfl, rfl, rfl⟩ rfl ⟨Nat.le_of_eq hg.2.2.2.1, Nat.le_of_eq hg.2.2.2.2⟩ ⟨trivial, (show ¬ (xI h 104 76) = (Int32.ofInt (20)) from fun z => absurd (congrArg Int32.toInt z) (by omega))⟩
    have GB : mW (fun c k : Nat => ((c = 149) ∨ (c = 104 ∧ k = 76))) h h := mW.rf hg
    have eN : (xI h 104 76).toInt = (n : Nat) := e76
    have jwB : jHf 0 Z (U n) h := jw.o (fun c k c1 c2 => GB.k (fun z => by have z : ((c = 149) ∨ (c = 104 ∧ k = 76)) := z; omega))
    obtain ⟨L4, h4, z4, l4, G4, s4, J4, K4⟩ := jk_remT l Z (U n) n (by omega) (xun) h GB.1 B jwB eN
    have T4 := t4.tr z4
    have G5 : mW (fun c k : Nat => ((c = 149) ∨ (c = 104 ∧ k = 76))) h h4 := GB.tr G4
    refine ⟨h4, CX_ofT (h' := h4) (by decide) rfl rfl trivial ⟨_, _, _, rfl, rfl, rfl⟩ l4 ⟨Nat.le_of_eq G4.1.2.2.2.1.symm, Nat.le_of_eq G4.1.2.2.2.2.symm⟩ T4, G5, ?_⟩
    rw [z1]
    refine ⟨by rw [s4]; rfl, fun k hk => ?_⟩
    have zu : zpu n U X k = U k := (if_pos (by omega)).trans (if_pos (by omega))
    rw [zu]
    by_cases e : k = n
    · rw [e]; exact J4
    · exact (jp.2 k (by omega)).fr B (fun j j1 j2 => K4 j (by omega))
theorem jHf.sm {b : Nat} {Z : Nat → Int} {Y X : Nat → Int32} {h : XH} (a : jHf b Z Y h) (B : zcB Z) (f : ∀ i, i < 10 ∨ (20 ≤ i ∧ i < 40) ∨ i = 50 → X i = Y i) : jHf b Z X h := by
  obtain ⟨⟨-, B0⟩, -, ⟨-, B2⟩, -⟩ := B
  obtain ⟨a1, a2, a3⟩ := a
  exact ⟨fun r hr => by rw [f r (by omega)]; exact a1 r hr, fun p hp => by rw [f (20 + p) (by omega), f (30 + p) (by omega)]; exact a2 p hp, by rw [f 50 (by omega)]; exact a3⟩
theorem jPa.o {n : Nat} {U : Nat → Nat → Int32} {Z : Nat → Int} {h h' : XH} (a : jPa n U Z h) (B : zcB Z) (e : ∀ k, xI h' 149 k = xI h 149 k) (e2 : xI h' 104 76 = xI h 104 76) : jPa n U Z h' := ⟨by rw [e2]; exact a.1, fun k hk => (a.2 k hk).fr B (fun j _ _ => e j)⟩
set_option maxRecDepth 100000 in
set_option maxHeartbeats 4000000 in
theorem jk_canvass (l : Launch) (Z : Nat → Int) (U : Nat → Nat → Int32) (n : Nat) (pp vv : Int32) (h : XH) (hg : mI h) (A : zAll Z) (jk : jK Z h) (hn : n ≤ 20) (jw : jHf 0 Z (U n) h) (V : zVd Z (U n)) (jp : jPa n U Z h) : ∃ v h', CX l 3 81 false 238 [xf 13 104, xi pp, xi vv] h [xi v] h' ∧ ((¬ zCan Z (U n) pp vv ∧ v = (Int32.ofInt (0)) ∧ mW (fun c k : Nat => (c = 104 ∧ k = 2)) h h') ∨ (zCan Z (U n) pp vv ∧ v = (Int32.ofInt (1)) ∧ mW (fun c k : Nat => ((c = 149) ∨ (c = 104 ∧ (k = 76 ∨ k = 2)) ∨ (c = 136 ∧ k < 8))) h h' ∧ jHf 0 Z (zup (U n) (30 + pp.toInt.toNat) vv) h' ∧ jPa (zpn n) (zpu n U (zup (U n) (30 + pp.toInt.toNat) vv)) Z h')) := by
  obtain ⟨⟨⟨B00, B01⟩, ⟨B10, B11⟩, ⟨B20, B21⟩, B30, B31⟩, g6, zj, zv, LW⟩ := id A
  have e_0 : ((Int32.ofInt (0))).toInt = 0 := rfl
  have e_1 : ((Int32.ofInt (1))).toInt = 1 := rfl
  have e_m1 : ((Int32.ofInt (-1))).toInt = -1 := rfl
  have e_9 : ((Int32.ofInt (9))).toInt = 9 := rfl
  have e_2 : ((Int32.ofInt (2))).toInt = 2 := rfl
  have e_m2 : ((Int32.ofInt (-2))).toInt = -2 := rfl
  have ez : (0 : Int32).toInt = 0 := rfl
  have ep : (xI h 104 14).toInt = Z 2 := jk.1 2 (by decide)
  have eg : (xI h 104 12).toInt = Z 0 := jk.1 0 (by decide)
  have ec0 : 0 ≤ pp.toInt → pp.toInt < Z 2 → xI h 136 pp.toNatClampNeg = (if (U n (30 + pp.toInt.toNat)).toInt = 2 then (Int32.ofInt (-2)) else U n (30 + pp.toInt.toNat)) := fun a b => by have z := (jw.2.1 pp.toInt.toNat (by omega)).2; rw [show 8 * 0 + pp.toInt.toNat = pp.toInt.toNat from by omega] at z; exact z
  have ec : 0 ≤ pp.toInt → pp.toInt < Z 2 → (xI h 136 pp.toNatClampNeg).toInt = (if (U n (30 + pp.toInt.toNat)).toInt = 2 then -2 else (U n (30 + pp.toInt.toNat)).toInt) := fun a b => by rw [ec0 a b]; split <;> rfl
  by_cases cb1 : pp < 0
  · have e_0 : (0 : Int32).toInt = 0 := rfl
    have dcb1 : (pp).toInt < (0 : Int32).toInt := Int32.lt_iff_toInt_lt.mp cb1
    have t2 : XT l 3 81 false 238 153 6051 0 [xf 13 104, xi pp, xi vv] [] h 33 [xf 13 104, xi pp, xi vv] [xi (Int32.ofInt (0))] (xsetI h 104 2 (Int32.ofInt (0))) := XT_path (l := l) (fr := 3) (lo := 81) (full := false) (M := 238) (n := 153) (u := 6051) (pc := 0) (L := [xf 13 104, xi pp, xi vv]) (st := []) (h := h) (inl := [192, 214, 231, 177]) (n' := 120) (sp := [33]) (o := [1, 1]) rfl rfl ⟨rfl, rfl, rfl⟩ rfl ⟨Nat.le_of_eq hg.2.2.2.1, Nat.le_of_eq hg.2.2.2.2⟩ ⟨⟨⟨trivial, cb1⟩, (Or.inl rfl)⟩, rfl⟩
    obtain ⟨hS, eS⟩ : ∃ x, x = (xsetI h 104 2 (Int32.ofInt (0))) := ⟨_, rfl⟩
    have GS : mW (fun c k : Nat => (c = 104 ∧ k = 2)) h hS := by rw [eS]; exact (mW.rf hg).set ⟨rfl, rfl⟩ (by show (0 : Int) ≤ _ ∧ _ ≤ 2; decide)
    rw [← eS] at t2
    exact ⟨_, hS, CX_ofT (h' := hS) (by decide) rfl rfl ⟨trivial, (Or.inl rfl)⟩ ⟨_, _, _, rfl, rfl, rfl⟩ rfl ⟨Nat.le_of_eq GS.1.2.2.2.1.symm, Nat.le_of_eq GS.1.2.2.2.2.symm⟩ t2, Or.inl ⟨fun z => by obtain ⟨z1, z2, z3⟩ := z; have e := ec z1.1 z1.2; split at e <;> omega, rfl, GS⟩⟩
  · have e_0 : (0 : Int32).toInt = 0 := rfl
    have dcb1 : (0 : Int32).toInt ≤ (pp).toInt := Int32.le_iff_toInt_le.mp (Int32.not_lt.mp cb1)
    by_cases cb3 : (xI h 104 14) ≤ pp
    · have dcb3 : (xI h 104 14).toInt ≤ (pp).toInt := Int32.le_iff_toInt_le.mp cb3
      have t4 : XT l 3 81 false 238 153 6051 0 [xf 13 104, xi pp, xi vv] [] h 33 [xf 13 104, xi pp, xi vv] [xi (Int32.ofInt (0))] (xsetI h 104 2 (Int32.ofInt (0))) := XT_path (l := l) (fr := 3) (lo := 81) (full := false) (M := 238) (n := 153) (u := 6051) (pc := 0) (L := [xf 13 104, xi pp, xi vv]) (st := []) (h := h) (inl := [192, 214, 231, 177]) (n' := 120) (sp := [33]) (o := [0, 1, 1]) rfl rfl ⟨rfl, rfl, rfl⟩ rfl ⟨Nat.le_of_eq hg.2.2.2.1, Nat.le_of_eq hg.2.2.2.2⟩ ⟨⟨⟨⟨trivial, cb1⟩, cb3⟩, (Or.inl rfl)⟩, rfl⟩
      obtain ⟨hS, eS⟩ : ∃ x, x = (xsetI h 104 2 (Int32.ofInt (0))) := ⟨_, rfl⟩
      have GS : mW (fun c k : Nat => (c = 104 ∧ k = 2)) h hS := by rw [eS]; exact (mW.rf hg).set ⟨rfl, rfl⟩ (by show (0 : Int) ≤ _ ∧ _ ≤ 2; decide)
      rw [← eS] at t4
      exact ⟨_, hS, CX_ofT (h' := hS) (by decide) rfl rfl ⟨trivial, (Or.inl rfl)⟩ ⟨_, _, _, rfl, rfl, rfl⟩ rfl ⟨Nat.le_of_eq GS.1.2.2.2.1.symm, Nat.le_of_eq GS.1.2.2.2.2.symm⟩ t4, Or.inl ⟨fun z => by obtain ⟨z1, z2, z3⟩ := z; have e := ec z1.1 z1.2; split at e <;> omega, rfl, GS⟩⟩
    · have dcb3 : (pp).toInt < (xI h 104 14).toInt := Int32.lt_iff_toInt_lt.mp (Int32.not_le.mp cb3)
      by_cases cb5 : vv < (Int32.ofInt (-1))
      · have e_m1 : (Int32.ofInt (-1)).toInt = -1 := rfl
        have dcb5 : (vv).toInt < (Int32.ofInt (-1)).toInt := Int32.lt_iff_toInt_lt.mp cb5
        have t6 : XT l 3 81 false 238 153 6051 0 [xf 13 104, xi pp, xi vv] [] h 33 [xf 13 104, xi pp, xi vv] [xi (Int32.ofInt (0))] (xsetI h 104 2 (Int32.ofInt (0))) := XT_path (l := l) (fr := 3) (lo := 81) (full := false) (M := 238) (n := 153) (u := 6051) (pc := 0) (L := [xf 13 104, xi pp, xi vv]) (st := []) (h := h) (inl := [192, 214, 231, 177]) (n' := 120) (sp := [33]) (o := [0, 0, 0, 1, 1]) rfl rfl ⟨rfl, rfl, rfl⟩ rfl ⟨Nat.le_of_eq hg.2.2.2.1, Nat.le_of_eq hg.2.2.2.2⟩ ⟨⟨⟨⟨⟨⟨⟨trivial, cb1⟩, cb3⟩, (Or.inr rfl)⟩, (show ¬ (Int32.ofInt (1)) = 0 from by decide)⟩, cb5⟩, (Or.inl rfl)⟩, rfl⟩
        obtain ⟨hS, eS⟩ : ∃ x, x = (xsetI h 104 2 (Int32.ofInt (0))) := ⟨_, rfl⟩
        have GS : mW (fun c k : Nat => (c = 104 ∧ k = 2)) h hS := by rw [eS]; exact (mW.rf hg).set ⟨rfl, rfl⟩ (by show (0 : Int) ≤ _ ∧ _ ≤ 2; decide)
        rw [← eS] at t6
        exact ⟨_, hS, CX_ofT (h' := hS) (by decide) rfl rfl ⟨trivial, (Or.inl rfl)⟩ ⟨_, _, _, rfl, rfl, rfl⟩ rfl ⟨Nat.le_of_eq GS.1.2.2.2.1.symm, Nat.le_of_eq GS.1.2.2.2.2.symm⟩ t6, Or.inl ⟨fun z => by obtain ⟨z1, z2, z3⟩ := z; have e := ec z1.1 z1.2; split at e <;> omega, rfl, GS⟩⟩
      · have e_m1 : (Int32.ofInt (-1)).toInt = -1 := rfl
        have dcb5 : (Int32.ofInt (-1)).toInt ≤ (vv).toInt := Int32.le_iff_toInt_le.mp (Int32.not_lt.mp cb5)
        by_cases cb7 : (Int32.ofInt (1)) < vv
        · have e_1 : (Int32.ofInt (1)).toInt = 1 := rfl
          have dcb7 : (Int32.ofInt (1)).toInt < (vv).toInt := Int32.lt_iff_toInt_lt.mp cb7
          have t8 : XT l 3 81 false 238 153 6051 0 [xf 13 104, xi pp, xi vv] [] h 33 [xf 13 104, xi pp, xi vv] [xi (Int32.ofInt (0))] (xsetI h 104 2 (Int32.ofInt (0))) := XT_path (l := l) (fr := 3) (lo := 81) (full := false) (M := 238) (n := 153) (u := 6051) (pc := 0) (L := [xf 13 104, xi pp, xi vv]) (st := []) (h := h) (inl := [192, 214, 231, 177]) (n' := 120) (sp := [33]) (o := [0, 0, 0, 0, 1, 1]) rfl rfl ⟨rfl, rfl, rfl⟩ rfl ⟨Nat.le_of_eq hg.2.2.2.1, Nat.le_of_eq hg.2.2.2.2⟩ ⟨⟨⟨⟨⟨⟨⟨⟨trivial, cb1⟩, cb3⟩, (Or.inr rfl)⟩, (show ¬ (Int32.ofInt (1)) = 0 from by decide)⟩, cb5⟩, cb7⟩, (Or.inl rfl)⟩, rfl⟩
          obtain ⟨hS, eS⟩ : ∃ x, x = (xsetI h 104 2 (Int32.ofInt (0))) := ⟨_, rfl⟩
          have GS : mW (fun c k : Nat => (c = 104 ∧ k = 2)) h hS := by rw [eS]; exact (mW.rf hg).set ⟨rfl, rfl⟩ (by show (0 : Int) ≤ _ ∧ _ ≤ 2; decide)
          rw [← eS] at t8
          exact ⟨_, hS, CX_ofT (h' := hS) (by decide) rfl rfl ⟨trivial, (Or.inl rfl)⟩ ⟨_, _, _, rfl, rfl, rfl⟩ rfl ⟨Nat.le_of_eq GS.1.2.2.2.1.symm, Nat.le_of_eq GS.1.2.2.2.2.symm⟩ t8, Or.inl ⟨fun z => by obtain ⟨z1, z2, z3⟩ := z; have e := ec z1.1 z1.2; split at e <;> omega, rfl, GS⟩⟩
        · have e_1 : (Int32.ofInt (1)).toInt = 1 := rfl
          have dcb7 : (vv).toInt ≤ (Int32.ofInt (1)).toInt := Int32.le_iff_toInt_le.mp (Int32.not_lt.mp cb7)
          by_cases cb9 : (xI (xsetI h 104 2 (Int32.ofInt (0))) (xR h 104 58) (pp).toNatClampNeg) = vv
          · have e_0 : (Int32.ofInt (0)).toInt = 0 := rfl
            have cb9r := cb9
            rw [vref hg.1 (rfl : vRf 104 58 = [136])] at cb9r
            have dcb9 : (xI h 136 (pp).toNatClampNeg).toInt = (vv).toInt := congrArg Int32.toInt cb9r
            have t10 : XT l 3 81 false 238 153 6051 0 [xf 13 104, xi pp, xi vv] [] h 33 [xf 13 104, xi pp, xi vv] [xi (Int32.ofInt (0))] (xsetI h 104 2 (Int32.ofInt (0))) := XT_path (l := l) (fr := 3) (lo := 81) (full := false) (M := 238) (n := 153) (u := 6051) (pc := 0) (L := [xf 13 104, xi pp, xi vv]) (st := []) (h := h) (inl := [192, 214, 231, 177]) (n' := 120) (sp := [33]) (o := [0, 0, 0, 0, 0, 0, 0]) rfl rfl ⟨rfl, rfl, rfl⟩ rfl ⟨Nat.le_of_eq hg.2.2.2.1, Nat.le_of_eq hg.2.2.2.2⟩ ⟨⟨⟨⟨⟨⟨⟨⟨⟨⟨⟨trivial, cb1⟩, cb3⟩, (Or.inr rfl)⟩, (show ¬ (Int32.ofInt (1)) = 0 from by decide)⟩, cb5⟩, cb7⟩, (Or.inr rfl)⟩, (show ¬ (Int32.ofInt (1)) = 0 from by decide)⟩, (vnn hg.1 (rfl : vRf 104 58 = [136]) (by decide))⟩, (vp_of (i := pp) (n := 16) (by omega) (by omega))⟩, cb9⟩
            obtain ⟨hS, eS⟩ : ∃ x, x = (xsetI h 104 2 (Int32.ofInt (0))) := ⟨_, rfl⟩
            have GS : mW (fun c k : Nat => (c = 104 ∧ k = 2)) h hS := by rw [eS]; exact (mW.rf hg).set ⟨rfl, rfl⟩ (by show (0 : Int) ≤ _ ∧ _ ≤ 2; decide)
            rw [← eS] at t10
            exact ⟨_, hS, CX_ofT (h' := hS) (by decide) rfl rfl ⟨trivial, (Or.inl rfl)⟩ ⟨_, _, _, rfl, rfl, rfl⟩ rfl ⟨Nat.le_of_eq GS.1.2.2.2.1.symm, Nat.le_of_eq GS.1.2.2.2.2.symm⟩ t10, Or.inl ⟨fun z => by obtain ⟨z1, z2, z3⟩ := z; have e := ec z1.1 z1.2; split at e <;> omega, rfl, GS⟩⟩
          · have e_0 : (Int32.ofInt (0)).toInt = 0 := rfl
            have cb9r := cb9
            rw [vref hg.1 (rfl : vRf 104 58 = [136])] at cb9r
            have dcb9 : ¬ (xI h 136 (pp).toNatClampNeg).toInt = (vv).toInt := fun z_ => cb9r (Int32.toInt_inj.mp z_)
            have t11 : XT l 3 81 false 238 153 6051 0 [xf 13 104, xi pp, xi vv] [] h 35 [xf 13 104, xi pp, xi vv] [xf 13 104] (xsetI h 104 2 (Int32.ofInt (0))) := XT_path (l := l) (fr := 3) (lo := 81) (full := false) (M := 238) (n := 153) (u := 6051) (pc := 0) (L := [xf 13 104, xi pp, xi vv]) (st := []) (h := h) (inl := [192, 214, 231, 177]) (n' := 120) (sp := [35]) (o := [0, 0, 0, 0, 0, 0, 1]) rfl rfl ⟨rfl, rfl, rfl⟩ rfl ⟨Nat.le_of_eq hg.2.2.2.1, Nat.le_of_eq hg.2.2.2.2⟩ ⟨⟨⟨⟨⟨⟨⟨⟨⟨⟨⟨trivial, cb1⟩, cb3⟩, (Or.inr rfl)⟩, (show ¬ (Int32.ofInt (1)) = 0 from by decide)⟩, cb5⟩, cb7⟩, (Or.inr rfl)⟩, (show ¬ (Int32.ofInt (1)) = 0 from by decide)⟩, (vnn hg.1 (rfl : vRf 104 58 = [136]) (by decide))⟩, (vp_of (i := pp) (n := 16) (by omega) (by omega))⟩, cb9⟩
            obtain ⟨hS, eS⟩ : ∃ x, x = (xsetI h 104 2 (Int32.ofInt (0))) := ⟨_, rfl⟩
            have GS : mW (fun c k : Nat => (c = 104 ∧ k = 2)) h hS := by rw [eS]; exact (mW.rf hg).set ⟨rfl, rfl⟩ (by show (0 : Int) ≤ _ ∧ _ ≤ 2; decide)
            rw [← eS] at t11
            have jwS : jHf 0 Z (U n) hS := jw.o (fun c k c1 c2 => GS.k (fun z => by have z : (c = 104 ∧ k = 2) := z; omega))
            have jpS : jPa n U Z hS := jp.o A.1 (fun k => GS.k (fun z => by have z : (149 = 104 ∧ k = 2) := z; omega)) (GS.k (fun z => by have z : (104 = 104 ∧ 76 = 2) := z; omega))
            obtain ⟨h1, c2, G2, jp2⟩ := jk_rem l Z U (zup (U n) (30 + pp.toInt.toNat) vv) n hn hS GS.1 A.1 jwS jpS
            have t12 : XT l 3 81 false 238 153 6051 35 [xf 13 104, xi pp, xi vv] [xf 13 104] hS 38 [xf 13 104, xi pp, xi vv] [] h1 := XT_call (l := l) (fr := 3) (lo := 81) (full := false) (M := 238) (n := 153) (u := 6051) (pc := 35) (L := [xf 13 104, xi pp, xi vv]) (st := [xf 13 104]) (h := hS) (i := .invokevirtual 239) (aux := 1) (nx := 38) (K := 239) (vs := [xf 13 104]) (rs := []) (rest := []) rfl rfl rfl rfl rfl rfl c2 (by decide) (by decide) (Nat.le_of_ble_eq_true rfl) ⟨Nat.le_of_eq G2.1.2.2.2.1, Nat.le_of_eq G2.1.2.2.2.2⟩
            have t13 := t11.tr t12
            have t14 : XT l 3 81 false 238 153 6051 38 [xf 13 104, xi pp, xi vv] [] h1 46 [xf 13 104, xi pp, xi vv] [xi (Int32.ofInt (1))] (xsetI h1 (xR h1 104 58) (pp).toNatClampNeg vv) := XT_path (l := l) (fr := 3) (lo := 81) (full := false) (M := 238) (n := 153) (u := 6051) (pc := 38) (L := [xf 13 104, xi pp, xi vv]) (st := []) (h := h1) (inl := [192, 214, 231, 177]) (n' := 120) (sp := [46]) (o := []) rfl rfl ⟨rfl, rfl, rfl⟩ rfl ⟨Nat.le_of_eq G2.1.2.2.2.1, Nat.le_of_eq G2.1.2.2.2.2⟩ ⟨⟨trivial, (vnn G2.1.1 (rfl : vRf 104 58 = [136]) (by decide))⟩, (vp_of (i := pp) (n := 16) (by omega) (by omega))⟩
            rw [vref G2.1.1 (rfl : vRf 104 58 = [136])] at t14
            have t15 := t13.tr t14
            obtain ⟨hE, eE⟩ : ∃ x, x = (xsetI h1 136 (pp).toNatClampNeg vv) := ⟨_, rfl⟩
            have eE2 : hE = xsetI h1 136 pp.toInt.toNat vv := eE
            have GA : mW (fun c k : Nat => ((c = 149) ∨ (c = 104 ∧ (k = 76 ∨ k = 2)) ∨ (c = 136 ∧ k < 8))) h h1 := (GS.mono (fun c k z => by have z : (c = 104 ∧ k = 2) := z; show ((c = 149) ∨ (c = 104 ∧ (k = 76 ∨ k = 2)) ∨ (c = 136 ∧ k < 8)); omega)).tr (G2.mono (fun c k z => by have z : ((c = 149) ∨ (c = 104 ∧ k = 76)) := z; show ((c = 149) ∨ (c = 104 ∧ (k = 76 ∨ k = 2)) ∨ (c = 136 ∧ k < 8)); omega))
            have GE : mW (fun c k : Nat => ((c = 149) ∨ (c = 104 ∧ (k = 76 ∨ k = 2)) ∨ (c = 136 ∧ k < 8))) h hE := by rw [eE2]; exact GA.set (show ((136 = 149) ∨ (136 = 104 ∧ (pp.toInt.toNat = 76 ∨ pp.toInt.toNat = 2)) ∨ (136 = 136 ∧ pp.toInt.toNat < 8)) from by omega) (by rw [vI_u rfl (rfl : vRow 136 = (-2, 1))]; exact ⟨by show (-2 : Int) ≤ _; omega, by show _ ≤ (1 : Int); omega⟩)
            rw [← eE] at t15
            have fE : ∀ c k, 133 ≤ c → c ≤ 138 → ¬ (c = 136 ∧ k = pp.toInt.toNat) → xI hE c k = xI h c k := fun c k c1 c2 c3 => by rw [eE2, yI_ne (eq_false c3), G2.k (fun z => by have z : ((c = 149) ∨ (c = 104 ∧ k = 76)) := z; omega)]; exact GS.k (fun z => by have z : (c = 104 ∧ k = 2) := z; omega)
            refine ⟨_, hE, CX_ofT (h' := hE) (by decide) rfl rfl ⟨trivial, (Or.inr rfl)⟩ ⟨_, _, _, rfl, rfl, rfl⟩ rfl ⟨Nat.le_of_eq GE.1.2.2.2.1.symm, Nat.le_of_eq GE.1.2.2.2.2.symm⟩ t15, Or.inr ⟨⟨⟨by omega, by omega⟩, ⟨by omega, by omega⟩, by have e := ec (by omega) (by omega); split at e <;> omega⟩, rfl, GE, jw.cc A.1 (by omega) (by omega) fE (by rw [eE2]; exact yI_same), ?_⟩⟩
            exact jp2.o A.1 (fun k => by rw [eE2]; exact yI_c (by decide)) (by rw [eE2]; exact yI_c (by decide))
set_option maxRecDepth 100000 in
set_option maxHeartbeats 4000000 in
theorem jk_decree (l : Launch) (Z : Nat → Int) (U : Nat → Nat → Int32) (n : Nat) (rr ss : Int32) (h : XH) (hg : mI h) (A : zAll Z) (jk : jK Z h) (hn : n ≤ 20) (jw : jHf 0 Z (U n) h) (V : zVd Z (U n)) (jp : jPa n U Z h) : ∃ v h', CX l 3 81 false 242 [xf 13 104, xi rr, xi ss] h [xi v] h' ∧ ((¬ zDec Z (U n) rr ss ∧ v = (Int32.ofInt (0)) ∧ mW (fun c k : Nat => (c = 104 ∧ k = 2)) h h') ∨ (zDec Z (U n) rr ss ∧ v = (Int32.ofInt (1)) ∧ mW (fun c k : Nat => ((c = 149) ∨ (c = 104 ∧ (k = 76 ∨ k = 2)) ∨ (c = 133 ∧ k < 6))) h h' ∧ jHf 0 Z (zup (U n) rr.toInt.toNat ss) h' ∧ jPa (zpn n) (zpu n U (zup (U n) rr.toInt.toNat ss)) Z h')) := by
  obtain ⟨⟨⟨B00, B01⟩, ⟨B10, B11⟩, ⟨B20, B21⟩, B30, B31⟩, g6, zj, zv, LW⟩ := id A
  have e_0 : ((Int32.ofInt (0))).toInt = 0 := rfl
  have e_1 : ((Int32.ofInt (1))).toInt = 1 := rfl
  have e_m1 : ((Int32.ofInt (-1))).toInt = -1 := rfl
  have e_9 : ((Int32.ofInt (9))).toInt = 9 := rfl
  have e_2 : ((Int32.ofInt (2))).toInt = 2 := rfl
  have e_m2 : ((Int32.ofInt (-2))).toInt = -2 := rfl
  have ez : (0 : Int32).toInt = 0 := rfl
  have ep : (xI h 104 14).toInt = Z 2 := jk.1 2 (by decide)
  have eg : (xI h 104 12).toInt = Z 0 := jk.1 0 (by decide)
  have ec : 0 ≤ rr.toInt → rr.toInt < Z 0 → (xI h 133 rr.toNatClampNeg).toInt = (U n rr.toInt.toNat).toInt := fun a b => by have z := jw.1 rr.toInt.toNat (by omega); rw [show 6 * 0 + rr.toInt.toNat = rr.toInt.toNat from by omega] at z; exact congrArg Int32.toInt z
  by_cases cb1 : rr < 0
  · have e_0 : (0 : Int32).toInt = 0 := rfl
    have dcb1 : (rr).toInt < (0 : Int32).toInt := Int32.lt_iff_toInt_lt.mp cb1
    have t2 : XT l 3 81 false 242 153 6051 0 [xf 13 104, xi rr, xi ss] [] h 34 [xf 13 104, xi rr, xi ss] [xi (Int32.ofInt (0))] (xsetI h 104 2 (Int32.ofInt (0))) := XT_path (l := l) (fr := 3) (lo := 81) (full := false) (M := 242) (n := 153) (u := 6051) (pc := 0) (L := [xf 13 104, xi rr, xi ss]) (st := []) (h := h) (inl := [192, 214, 231, 177]) (n' := 120) (sp := [34]) (o := [1, 1]) rfl rfl ⟨rfl, rfl, rfl⟩ rfl ⟨Nat.le_of_eq hg.2.2.2.1, Nat.le_of_eq hg.2.2.2.2⟩ ⟨⟨⟨trivial, cb1⟩, (Or.inl rfl)⟩, rfl⟩
    obtain ⟨hS, eS⟩ : ∃ x, x = (xsetI h 104 2 (Int32.ofInt (0))) := ⟨_, rfl⟩
    have GS : mW (fun c k : Nat => (c = 104 ∧ k = 2)) h hS := by rw [eS]; exact (mW.rf hg).set ⟨rfl, rfl⟩ (by show (0 : Int) ≤ _ ∧ _ ≤ 2; decide)
    rw [← eS] at t2
    exact ⟨_, hS, CX_ofT (h' := hS) (by decide) rfl rfl ⟨trivial, (Or.inl rfl)⟩ ⟨_, _, _, rfl, rfl, rfl⟩ rfl ⟨Nat.le_of_eq GS.1.2.2.2.1.symm, Nat.le_of_eq GS.1.2.2.2.2.symm⟩ t2, Or.inl ⟨fun z => by obtain ⟨z1, z2, z3⟩ := z; have e := ec z1.1 z1.2; omega, rfl, GS⟩⟩
  · have e_0 : (0 : Int32).toInt = 0 := rfl
    have dcb1 : (0 : Int32).toInt ≤ (rr).toInt := Int32.le_iff_toInt_le.mp (Int32.not_lt.mp cb1)
    by_cases cb3 : (xI h 104 12) ≤ rr
    · have dcb3 : (xI h 104 12).toInt ≤ (rr).toInt := Int32.le_iff_toInt_le.mp cb3
      have t4 : XT l 3 81 false 242 153 6051 0 [xf 13 104, xi rr, xi ss] [] h 34 [xf 13 104, xi rr, xi ss] [xi (Int32.ofInt (0))] (xsetI h 104 2 (Int32.ofInt (0))) := XT_path (l := l) (fr := 3) (lo := 81) (full := false) (M := 242) (n := 153) (u := 6051) (pc := 0) (L := [xf 13 104, xi rr, xi ss]) (st := []) (h := h) (inl := [192, 214, 231, 177]) (n' := 120) (sp := [34]) (o := [0, 1, 1]) rfl rfl ⟨rfl, rfl, rfl⟩ rfl ⟨Nat.le_of_eq hg.2.2.2.1, Nat.le_of_eq hg.2.2.2.2⟩ ⟨⟨⟨⟨trivial, cb1⟩, cb3⟩, (Or.inl rfl)⟩, rfl⟩
      obtain ⟨hS, eS⟩ : ∃ x, x = (xsetI h 104 2 (Int32.ofInt (0))) := ⟨_, rfl⟩
      have GS : mW (fun c k : Nat => (c = 104 ∧ k = 2)) h hS := by rw [eS]; exact (mW.rf hg).set ⟨rfl, rfl⟩ (by show (0 : Int) ≤ _ ∧ _ ≤ 2; decide)
      rw [← eS] at t4
      exact ⟨_, hS, CX_ofT (h' := hS) (by decide) rfl rfl ⟨trivial, (Or.inl rfl)⟩ ⟨_, _, _, rfl, rfl, rfl⟩ rfl ⟨Nat.le_of_eq GS.1.2.2.2.1.symm, Nat.le_of_eq GS.1.2.2.2.2.symm⟩ t4, Or.inl ⟨fun z => by obtain ⟨z1, z2, z3⟩ := z; have e := ec z1.1 z1.2; omega, rfl, GS⟩⟩
    · have dcb3 : (rr).toInt < (xI h 104 12).toInt := Int32.lt_iff_toInt_lt.mp (Int32.not_le.mp cb3)
      by_cases cb5 : ss < (Int32.ofInt (1))
      · have e_1 : (Int32.ofInt (1)).toInt = 1 := rfl
        have dcb5 : (ss).toInt < (Int32.ofInt (1)).toInt := Int32.lt_iff_toInt_lt.mp cb5
        have t6 : XT l 3 81 false 242 153 6051 0 [xf 13 104, xi rr, xi ss] [] h 34 [xf 13 104, xi rr, xi ss] [xi (Int32.ofInt (0))] (xsetI h 104 2 (Int32.ofInt (0))) := XT_path (l := l) (fr := 3) (lo := 81) (full := false) (M := 242) (n := 153) (u := 6051) (pc := 0) (L := [xf 13 104, xi rr, xi ss]) (st := []) (h := h) (inl := [192, 214, 231, 177]) (n' := 120) (sp := [34]) (o := [0, 0, 0, 1, 1]) rfl rfl ⟨rfl, rfl, rfl⟩ rfl ⟨Nat.le_of_eq hg.2.2.2.1, Nat.le_of_eq hg.2.2.2.2⟩ ⟨⟨⟨⟨⟨⟨⟨trivial, cb1⟩, cb3⟩, (Or.inr rfl)⟩, (show ¬ (Int32.ofInt (1)) = 0 from by decide)⟩, cb5⟩, (Or.inl rfl)⟩, rfl⟩
        obtain ⟨hS, eS⟩ : ∃ x, x = (xsetI h 104 2 (Int32.ofInt (0))) := ⟨_, rfl⟩
        have GS : mW (fun c k : Nat => (c = 104 ∧ k = 2)) h hS := by rw [eS]; exact (mW.rf hg).set ⟨rfl, rfl⟩ (by show (0 : Int) ≤ _ ∧ _ ≤ 2; decide)
        rw [← eS] at t6
        exact ⟨_, hS, CX_ofT (h' := hS) (by decide) rfl rfl ⟨trivial, (Or.inl rfl)⟩ ⟨_, _, _, rfl, rfl, rfl⟩ rfl ⟨Nat.le_of_eq GS.1.2.2.2.1.symm, Nat.le_of_eq GS.1.2.2.2.2.symm⟩ t6, Or.inl ⟨fun z => by obtain ⟨z1, z2, z3⟩ := z; have e := ec z1.1 z1.2; omega, rfl, GS⟩⟩
      · have e_1 : (Int32.ofInt (1)).toInt = 1 := rfl
        have dcb5 : (Int32.ofInt (1)).toInt ≤ (ss).toInt := Int32.le_iff_toInt_le.mp (Int32.not_lt.mp cb5)
        by_cases cb7 : (Int32.ofInt (9)) < ss
        · have e_9 : (Int32.ofInt (9)).toInt = 9 := rfl
          have dcb7 : (Int32.ofInt (9)).toInt < (ss).toInt := Int32.lt_iff_toInt_lt.mp cb7
          have t8 : XT l 3 81 false 242 153 6051 0 [xf 13 104, xi rr, xi ss] [] h 34 [xf 13 104, xi rr, xi ss] [xi (Int32.ofInt (0))] (xsetI h 104 2 (Int32.ofInt (0))) := XT_path (l := l) (fr := 3) (lo := 81) (full := false) (M := 242) (n := 153) (u := 6051) (pc := 0) (L := [xf 13 104, xi rr, xi ss]) (st := []) (h := h) (inl := [192, 214, 231, 177]) (n' := 120) (sp := [34]) (o := [0, 0, 0, 0, 1, 1]) rfl rfl ⟨rfl, rfl, rfl⟩ rfl ⟨Nat.le_of_eq hg.2.2.2.1, Nat.le_of_eq hg.2.2.2.2⟩ ⟨⟨⟨⟨⟨⟨⟨⟨trivial, cb1⟩, cb3⟩, (Or.inr rfl)⟩, (show ¬ (Int32.ofInt (1)) = 0 from by decide)⟩, cb5⟩, cb7⟩, (Or.inl rfl)⟩, rfl⟩
          obtain ⟨hS, eS⟩ : ∃ x, x = (xsetI h 104 2 (Int32.ofInt (0))) := ⟨_, rfl⟩
          have GS : mW (fun c k : Nat => (c = 104 ∧ k = 2)) h hS := by rw [eS]; exact (mW.rf hg).set ⟨rfl, rfl⟩ (by show (0 : Int) ≤ _ ∧ _ ≤ 2; decide)
          rw [← eS] at t8
          exact ⟨_, hS, CX_ofT (h' := hS) (by decide) rfl rfl ⟨trivial, (Or.inl rfl)⟩ ⟨_, _, _, rfl, rfl, rfl⟩ rfl ⟨Nat.le_of_eq GS.1.2.2.2.1.symm, Nat.le_of_eq GS.1.2.2.2.2.symm⟩ t8, Or.inl ⟨fun z => by obtain ⟨z1, z2, z3⟩ := z; have e := ec z1.1 z1.2; omega, rfl, GS⟩⟩
        · have e_9 : (Int32.ofInt (9)).toInt = 9 := rfl
          have dcb7 : (ss).toInt ≤ (Int32.ofInt (9)).toInt := Int32.le_iff_toInt_le.mp (Int32.not_lt.mp cb7)
          by_cases cb9 : (xI (xsetI h 104 2 (Int32.ofInt (0))) (xR h 104 55) (rr).toNatClampNeg) = ss
          · have e_0 : (Int32.ofInt (0)).toInt = 0 := rfl
            have cb9r := cb9
            rw [vref hg.1 (rfl : vRf 104 55 = [133])] at cb9r
            have dcb9 : (xI h 133 (rr).toNatClampNeg).toInt = (ss).toInt := congrArg Int32.toInt cb9r
            have t10 : XT l 3 81 false 242 153 6051 0 [xf 13 104, xi rr, xi ss] [] h 34 [xf 13 104, xi rr, xi ss] [xi (Int32.ofInt (0))] (xsetI h 104 2 (Int32.ofInt (0))) := XT_path (l := l) (fr := 3) (lo := 81) (full := false) (M := 242) (n := 153) (u := 6051) (pc := 0) (L := [xf 13 104, xi rr, xi ss]) (st := []) (h := h) (inl := [192, 214, 231, 177]) (n' := 120) (sp := [34]) (o := [0, 0, 0, 0, 0, 0, 0]) rfl rfl ⟨rfl, rfl, rfl⟩ rfl ⟨Nat.le_of_eq hg.2.2.2.1, Nat.le_of_eq hg.2.2.2.2⟩ ⟨⟨⟨⟨⟨⟨⟨⟨⟨⟨⟨trivial, cb1⟩, cb3⟩, (Or.inr rfl)⟩, (show ¬ (Int32.ofInt (1)) = 0 from by decide)⟩, cb5⟩, cb7⟩, (Or.inr rfl)⟩, (show ¬ (Int32.ofInt (1)) = 0 from by decide)⟩, (vnn hg.1 (rfl : vRf 104 55 = [133]) (by decide))⟩, (vp_of (i := rr) (n := 12) (by omega) (by omega))⟩, cb9⟩
            obtain ⟨hS, eS⟩ : ∃ x, x = (xsetI h 104 2 (Int32.ofInt (0))) := ⟨_, rfl⟩
            have GS : mW (fun c k : Nat => (c = 104 ∧ k = 2)) h hS := by rw [eS]; exact (mW.rf hg).set ⟨rfl, rfl⟩ (by show (0 : Int) ≤ _ ∧ _ ≤ 2; decide)
            rw [← eS] at t10
            exact ⟨_, hS, CX_ofT (h' := hS) (by decide) rfl rfl ⟨trivial, (Or.inl rfl)⟩ ⟨_, _, _, rfl, rfl, rfl⟩ rfl ⟨Nat.le_of_eq GS.1.2.2.2.1.symm, Nat.le_of_eq GS.1.2.2.2.2.symm⟩ t10, Or.inl ⟨fun z => by obtain ⟨z1, z2, z3⟩ := z; have e := ec z1.1 z1.2; omega, rfl, GS⟩⟩
          · have e_0 : (Int32.ofInt (0)).toInt = 0 := rfl
            have cb9r := cb9
            rw [vref hg.1 (rfl : vRf 104 55 = [133])] at cb9r
            have dcb9 : ¬ (xI h 133 (rr).toNatClampNeg).toInt = (ss).toInt := fun z_ => cb9r (Int32.toInt_inj.mp z_)
            have t11 : XT l 3 81 false 242 153 6051 0 [xf 13 104, xi rr, xi ss] [] h 36 [xf 13 104, xi rr, xi ss] [xf 13 104] (xsetI h 104 2 (Int32.ofInt (0))) := XT_path (l := l) (fr := 3) (lo := 81) (full := false) (M := 242) (n := 153) (u := 6051) (pc := 0) (L := [xf 13 104, xi rr, xi ss]) (st := []) (h := h) (inl := [192, 214, 231, 177]) (n' := 120) (sp := [36]) (o := [0, 0, 0, 0, 0, 0, 1]) rfl rfl ⟨rfl, rfl, rfl⟩ rfl ⟨Nat.le_of_eq hg.2.2.2.1, Nat.le_of_eq hg.2.2.2.2⟩ ⟨⟨⟨⟨⟨⟨⟨⟨⟨⟨⟨trivial, cb1⟩, cb3⟩, (Or.inr rfl)⟩, (show ¬ (Int32.ofInt (1)) = 0 from by decide)⟩, cb5⟩, cb7⟩, (Or.inr rfl)⟩, (show ¬ (Int32.ofInt (1)) = 0 from by decide)⟩, (vnn hg.1 (rfl : vRf 104 55 = [133]) (by decide))⟩, (vp_of (i := rr) (n := 12) (by omega) (by omega))⟩, cb9⟩
            obtain ⟨hS, eS⟩ : ∃ x, x = (xsetI h 104 2 (Int32.ofInt (0))) := ⟨_, rfl⟩
            have GS : mW (fun c k : Nat => (c = 104 ∧ k = 2)) h hS := by rw [eS]; exact (mW.rf hg).set ⟨rfl, rfl⟩ (by show (0 : Int) ≤ _ ∧ _ ≤ 2; decide)
            rw [← eS] at t11
            have jwS : jHf 0 Z (U n) hS := jw.o (fun c k c1 c2 => GS.k (fun z => by have z : (c = 104 ∧ k = 2) := z; omega))
            have jpS : jPa n U Z hS := jp.o A.1 (fun k => GS.k (fun z => by have z : (149 = 104 ∧ k = 2) := z; omega)) (GS.k (fun z => by have z : (104 = 104 ∧ 76 = 2) := z; omega))
            obtain ⟨h1, c2, G2, jp2⟩ := jk_rem l Z U (zup (U n) rr.toInt.toNat ss) n hn hS GS.1 A.1 jwS jpS
            have t12 : XT l 3 81 false 242 153 6051 36 [xf 13 104, xi rr, xi ss] [xf 13 104] hS 39 [xf 13 104, xi rr, xi ss] [] h1 := XT_call (l := l) (fr := 3) (lo := 81) (full := false) (M := 242) (n := 153) (u := 6051) (pc := 36) (L := [xf 13 104, xi rr, xi ss]) (st := [xf 13 104]) (h := hS) (i := .invokevirtual 239) (aux := 1) (nx := 39) (K := 239) (vs := [xf 13 104]) (rs := []) (rest := []) rfl rfl rfl rfl rfl rfl c2 (by decide) (by decide) (Nat.le_of_ble_eq_true rfl) ⟨Nat.le_of_eq G2.1.2.2.2.1, Nat.le_of_eq G2.1.2.2.2.2⟩
            have t13 := t11.tr t12
            have t14 : XT l 3 81 false 242 153 6051 39 [xf 13 104, xi rr, xi ss] [] h1 47 [xf 13 104, xi rr, xi ss] [xi (Int32.ofInt (1))] (xsetI h1 (xR h1 104 55) (rr).toNatClampNeg ss) := XT_path (l := l) (fr := 3) (lo := 81) (full := false) (M := 242) (n := 153) (u := 6051) (pc := 39) (L := [xf 13 104, xi rr, xi ss]) (st := []) (h := h1) (inl := [192, 214, 231, 177]) (n' := 120) (sp := [47]) (o := []) rfl rfl ⟨rfl, rfl, rfl⟩ rfl ⟨Nat.le_of_eq G2.1.2.2.2.1, Nat.le_of_eq G2.1.2.2.2.2⟩ ⟨⟨trivial, (vnn G2.1.1 (rfl : vRf 104 55 = [133]) (by decide))⟩, (vp_of (i := rr) (n := 12) (by omega) (by omega))⟩
            rw [vref G2.1.1 (rfl : vRf 104 55 = [133])] at t14
            have t15 := t13.tr t14
            obtain ⟨hE, eE⟩ : ∃ x, x = (xsetI h1 133 (rr).toNatClampNeg ss) := ⟨_, rfl⟩
            have eE2 : hE = xsetI h1 133 rr.toInt.toNat ss := eE
            have GA : mW (fun c k : Nat => ((c = 149) ∨ (c = 104 ∧ (k = 76 ∨ k = 2)) ∨ (c = 133 ∧ k < 6))) h h1 := (GS.mono (fun c k z => by have z : (c = 104 ∧ k = 2) := z; show ((c = 149) ∨ (c = 104 ∧ (k = 76 ∨ k = 2)) ∨ (c = 133 ∧ k < 6)); omega)).tr (G2.mono (fun c k z => by have z : ((c = 149) ∨ (c = 104 ∧ k = 76)) := z; show ((c = 149) ∨ (c = 104 ∧ (k = 76 ∨ k = 2)) ∨ (c = 133 ∧ k < 6)); omega))
            have GE : mW (fun c k : Nat => ((c = 149) ∨ (c = 104 ∧ (k = 76 ∨ k = 2)) ∨ (c = 133 ∧ k < 6))) h hE := by rw [eE2]; exact GA.set (show ((133 = 149) ∨ (133 = 104 ∧ (rr.toInt.toNat = 76 ∨ rr.toInt.toNat = 2)) ∨ (133 = 133 ∧ rr.toInt.toNat < 6)) from by omega) (by rw [vS133_s rr.toInt.toNat (by omega)]; exact ⟨by show (0 : Int) ≤ _; omega, by show _ ≤ (9 : Int); omega⟩)
            rw [← eE] at t15
            have fE : ∀ c k, 133 ≤ c → c ≤ 138 → ¬ (c = 133 ∧ k = rr.toInt.toNat) → xI hE c k = xI h c k := fun c k c1 c2 c3 => by rw [eE2, yI_ne (eq_false c3), G2.k (fun z => by have z : ((c = 149) ∨ (c = 104 ∧ k = 76)) := z; omega)]; exact GS.k (fun z => by have z : (c = 104 ∧ k = 2) := z; omega)
            refine ⟨_, hE, CX_ofT (h' := hE) (by decide) rfl rfl ⟨trivial, (Or.inr rfl)⟩ ⟨_, _, _, rfl, rfl, rfl⟩ rfl ⟨Nat.le_of_eq GE.1.2.2.2.1.symm, Nat.le_of_eq GE.1.2.2.2.2.symm⟩ t15, Or.inr ⟨⟨⟨by omega, by omega⟩, ⟨by omega, by omega⟩, by have e := ec (by omega) (by omega); omega⟩, rfl, GE, jw.dc A.1 (by omega) fE (by rw [eE2]; exact yI_same), ?_⟩⟩
            exact jp2.o A.1 (fun k => by rw [eE2]; exact yI_c (by decide)) (by rw [eE2]; exact yI_c (by decide))
set_option maxRecDepth 100000 in
set_option maxHeartbeats 4000000 in
theorem jk_move (l : Launch) (Z : Nat → Int) (U : Nat → Nat → Int32) (n : Nat) (pp rr : Int32) (h : XH) (hg : mI h) (A : zAll Z) (jk : jK Z h) (hn : n ≤ 20) (jw : jHf 0 Z (U n) h) (V : zVd Z (U n)) (jp : jPa n U Z h) : ∃ v h', CX l 3 81 false 241 [xf 13 104, xi pp, xi rr] h [xi v] h' ∧ ((¬ zMov Z (U n) pp rr ∧ v = (Int32.ofInt (0)) ∧ mW (fun c k : Nat => (c = 104 ∧ k = 2)) h h') ∨ (zMov Z (U n) pp rr ∧ v = (Int32.ofInt (1)) ∧ mW (fun c k : Nat => ((c = 149) ∨ (c = 104 ∧ (k = 76 ∨ k = 2)) ∨ (c = 135 ∧ k < 8))) h h' ∧ jHf 0 Z (zup (U n) (20 + pp.toInt.toNat) rr) h' ∧ jPa (zpn n) (zpu n U (zup (U n) (20 + pp.toInt.toNat) rr)) Z h')) := by
  obtain ⟨⟨⟨B00, B01⟩, ⟨B10, B11⟩, ⟨B20, B21⟩, B30, B31⟩, g6, zj, zv, LW⟩ := id A
  have e_0 : ((Int32.ofInt (0))).toInt = 0 := rfl
  have e_1 : ((Int32.ofInt (1))).toInt = 1 := rfl
  have e_m1 : ((Int32.ofInt (-1))).toInt = -1 := rfl
  have e_9 : ((Int32.ofInt (9))).toInt = 9 := rfl
  have e_2 : ((Int32.ofInt (2))).toInt = 2 := rfl
  have e_m2 : ((Int32.ofInt (-2))).toInt = -2 := rfl
  have ez : (0 : Int32).toInt = 0 := rfl
  have ep : (xI h 104 14).toInt = Z 2 := jk.1 2 (by decide)
  have eg : (xI h 104 12).toInt = Z 0 := jk.1 0 (by decide)
  have ec : 0 ≤ pp.toInt → pp.toInt < Z 2 → (xI h 135 pp.toNatClampNeg).toInt = (U n (20 + pp.toInt.toNat)).toInt := fun a b => by have z := (jw.2.1 pp.toInt.toNat (by omega)).1; rw [show 8 * 0 + pp.toInt.toNat = pp.toInt.toNat from by omega] at z; exact congrArg Int32.toInt z
  have eh0 : 0 ≤ rr.toInt → rr.toInt < Z 0 → (xI h 112 rr.toNatClampNeg).toInt = Z (130 + rr.toInt.toNat) := fun a b => jk.2.2.1 3 rr.toInt.toNat (by decide) (show ((rr.toInt.toNat : Nat) : Int) < Z 0 by omega)
  by_cases cb1 : pp < 0
  · have e_0 : (0 : Int32).toInt = 0 := rfl
    have dcb1 : (pp).toInt < (0 : Int32).toInt := Int32.lt_iff_toInt_lt.mp cb1
    have t2 : XT l 3 81 false 241 153 6051 0 [xf 13 104, xi pp, xi rr] [] h 47 [xf 13 104, xi pp, xi rr] [xi (Int32.ofInt (0))] (xsetI h 104 2 (Int32.ofInt (0))) := XT_path (l := l) (fr := 3) (lo := 81) (full := false) (M := 241) (n := 153) (u := 6051) (pc := 0) (L := [xf 13 104, xi pp, xi rr]) (st := []) (h := h) (inl := [192, 214, 231, 177]) (n' := 120) (sp := [47]) (o := [1, 1]) rfl rfl ⟨rfl, rfl, rfl⟩ rfl ⟨Nat.le_of_eq hg.2.2.2.1, Nat.le_of_eq hg.2.2.2.2⟩ ⟨⟨⟨trivial, cb1⟩, (Or.inl rfl)⟩, rfl⟩
    obtain ⟨hS, eS⟩ : ∃ x, x = (xsetI h 104 2 (Int32.ofInt (0))) := ⟨_, rfl⟩
    have GS : mW (fun c k : Nat => (c = 104 ∧ k = 2)) h hS := by rw [eS]; exact (mW.rf hg).set ⟨rfl, rfl⟩ (by show (0 : Int) ≤ _ ∧ _ ≤ 2; decide)
    rw [← eS] at t2
    exact ⟨_, hS, CX_ofT (h' := hS) (by decide) rfl rfl ⟨trivial, (Or.inl rfl)⟩ ⟨_, _, _, rfl, rfl, rfl⟩ rfl ⟨Nat.le_of_eq GS.1.2.2.2.1.symm, Nat.le_of_eq GS.1.2.2.2.2.symm⟩ t2, Or.inl ⟨fun z => by obtain ⟨z1, z2, z3, z4⟩ := z; have e := ec z1.1 z1.2; have e3 := eh0 z2.1 z2.2; omega, rfl, GS⟩⟩
  · have e_0 : (0 : Int32).toInt = 0 := rfl
    have dcb1 : (0 : Int32).toInt ≤ (pp).toInt := Int32.le_iff_toInt_le.mp (Int32.not_lt.mp cb1)
    by_cases cb3 : (xI h 104 14) ≤ pp
    · have dcb3 : (xI h 104 14).toInt ≤ (pp).toInt := Int32.le_iff_toInt_le.mp cb3
      have t4 : XT l 3 81 false 241 153 6051 0 [xf 13 104, xi pp, xi rr] [] h 47 [xf 13 104, xi pp, xi rr] [xi (Int32.ofInt (0))] (xsetI h 104 2 (Int32.ofInt (0))) := XT_path (l := l) (fr := 3) (lo := 81) (full := false) (M := 241) (n := 153) (u := 6051) (pc := 0) (L := [xf 13 104, xi pp, xi rr]) (st := []) (h := h) (inl := [192, 214, 231, 177]) (n' := 120) (sp := [47]) (o := [0, 1, 1]) rfl rfl ⟨rfl, rfl, rfl⟩ rfl ⟨Nat.le_of_eq hg.2.2.2.1, Nat.le_of_eq hg.2.2.2.2⟩ ⟨⟨⟨⟨trivial, cb1⟩, cb3⟩, (Or.inl rfl)⟩, rfl⟩
      obtain ⟨hS, eS⟩ : ∃ x, x = (xsetI h 104 2 (Int32.ofInt (0))) := ⟨_, rfl⟩
      have GS : mW (fun c k : Nat => (c = 104 ∧ k = 2)) h hS := by rw [eS]; exact (mW.rf hg).set ⟨rfl, rfl⟩ (by show (0 : Int) ≤ _ ∧ _ ≤ 2; decide)
      rw [← eS] at t4
      exact ⟨_, hS, CX_ofT (h' := hS) (by decide) rfl rfl ⟨trivial, (Or.inl rfl)⟩ ⟨_, _, _, rfl, rfl, rfl⟩ rfl ⟨Nat.le_of_eq GS.1.2.2.2.1.symm, Nat.le_of_eq GS.1.2.2.2.2.symm⟩ t4, Or.inl ⟨fun z => by obtain ⟨z1, z2, z3, z4⟩ := z; have e := ec z1.1 z1.2; have e3 := eh0 z2.1 z2.2; omega, rfl, GS⟩⟩
    · have dcb3 : (pp).toInt < (xI h 104 14).toInt := Int32.lt_iff_toInt_lt.mp (Int32.not_le.mp cb3)
      by_cases cb5 : rr < 0
      · have e_0 : (0 : Int32).toInt = 0 := rfl
        have dcb5 : (rr).toInt < (0 : Int32).toInt := Int32.lt_iff_toInt_lt.mp cb5
        have t6 : XT l 3 81 false 241 153 6051 0 [xf 13 104, xi pp, xi rr] [] h 47 [xf 13 104, xi pp, xi rr] [xi (Int32.ofInt (0))] (xsetI h 104 2 (Int32.ofInt (0))) := XT_path (l := l) (fr := 3) (lo := 81) (full := false) (M := 241) (n := 153) (u := 6051) (pc := 0) (L := [xf 13 104, xi pp, xi rr]) (st := []) (h := h) (inl := [192, 214, 231, 177]) (n' := 120) (sp := [47]) (o := [0, 0, 0, 1, 1]) rfl rfl ⟨rfl, rfl, rfl⟩ rfl ⟨Nat.le_of_eq hg.2.2.2.1, Nat.le_of_eq hg.2.2.2.2⟩ ⟨⟨⟨⟨⟨⟨⟨trivial, cb1⟩, cb3⟩, (Or.inr rfl)⟩, (show ¬ (Int32.ofInt (1)) = 0 from by decide)⟩, cb5⟩, (Or.inl rfl)⟩, rfl⟩
        obtain ⟨hS, eS⟩ : ∃ x, x = (xsetI h 104 2 (Int32.ofInt (0))) := ⟨_, rfl⟩
        have GS : mW (fun c k : Nat => (c = 104 ∧ k = 2)) h hS := by rw [eS]; exact (mW.rf hg).set ⟨rfl, rfl⟩ (by show (0 : Int) ≤ _ ∧ _ ≤ 2; decide)
        rw [← eS] at t6
        exact ⟨_, hS, CX_ofT (h' := hS) (by decide) rfl rfl ⟨trivial, (Or.inl rfl)⟩ ⟨_, _, _, rfl, rfl, rfl⟩ rfl ⟨Nat.le_of_eq GS.1.2.2.2.1.symm, Nat.le_of_eq GS.1.2.2.2.2.symm⟩ t6, Or.inl ⟨fun z => by obtain ⟨z1, z2, z3, z4⟩ := z; have e := ec z1.1 z1.2; have e3 := eh0 z2.1 z2.2; omega, rfl, GS⟩⟩
      · have e_0 : (0 : Int32).toInt = 0 := rfl
        have dcb5 : (0 : Int32).toInt ≤ (rr).toInt := Int32.le_iff_toInt_le.mp (Int32.not_lt.mp cb5)
        by_cases cb7 : (xI h 104 12) ≤ rr
        · have dcb7 : (xI h 104 12).toInt ≤ (rr).toInt := Int32.le_iff_toInt_le.mp cb7
          have t8 : XT l 3 81 false 241 153 6051 0 [xf 13 104, xi pp, xi rr] [] h 47 [xf 13 104, xi pp, xi rr] [xi (Int32.ofInt (0))] (xsetI h 104 2 (Int32.ofInt (0))) := XT_path (l := l) (fr := 3) (lo := 81) (full := false) (M := 241) (n := 153) (u := 6051) (pc := 0) (L := [xf 13 104, xi pp, xi rr]) (st := []) (h := h) (inl := [192, 214, 231, 177]) (n' := 120) (sp := [47]) (o := [0, 0, 0, 0, 1, 1]) rfl rfl ⟨rfl, rfl, rfl⟩ rfl ⟨Nat.le_of_eq hg.2.2.2.1, Nat.le_of_eq hg.2.2.2.2⟩ ⟨⟨⟨⟨⟨⟨⟨⟨trivial, cb1⟩, cb3⟩, (Or.inr rfl)⟩, (show ¬ (Int32.ofInt (1)) = 0 from by decide)⟩, cb5⟩, cb7⟩, (Or.inl rfl)⟩, rfl⟩
          obtain ⟨hS, eS⟩ : ∃ x, x = (xsetI h 104 2 (Int32.ofInt (0))) := ⟨_, rfl⟩
          have GS : mW (fun c k : Nat => (c = 104 ∧ k = 2)) h hS := by rw [eS]; exact (mW.rf hg).set ⟨rfl, rfl⟩ (by show (0 : Int) ≤ _ ∧ _ ≤ 2; decide)
          rw [← eS] at t8
          exact ⟨_, hS, CX_ofT (h' := hS) (by decide) rfl rfl ⟨trivial, (Or.inl rfl)⟩ ⟨_, _, _, rfl, rfl, rfl⟩ rfl ⟨Nat.le_of_eq GS.1.2.2.2.1.symm, Nat.le_of_eq GS.1.2.2.2.2.symm⟩ t8, Or.inl ⟨fun z => by obtain ⟨z1, z2, z3, z4⟩ := z; have e := ec z1.1 z1.2; have e3 := eh0 z2.1 z2.2; omega, rfl, GS⟩⟩
        · have dcb7 : (rr).toInt < (xI h 104 12).toInt := Int32.lt_iff_toInt_lt.mp (Int32.not_le.mp cb7)
          by_cases cb9 : (xI (xsetI h 104 2 (Int32.ofInt (0))) (xR h 104 57) (pp).toNatClampNeg) = rr
          · have e_0 : (Int32.ofInt (0)).toInt = 0 := rfl
            have cb9r := cb9
            rw [vref hg.1 (rfl : vRf 104 57 = [135])] at cb9r
            have dcb9 : (xI h 135 (pp).toNatClampNeg).toInt = (rr).toInt := congrArg Int32.toInt cb9r
            have t10 : XT l 3 81 false 241 153 6051 0 [xf 13 104, xi pp, xi rr] [] h 47 [xf 13 104, xi pp, xi rr] [xi (Int32.ofInt (0))] (xsetI h 104 2 (Int32.ofInt (0))) := XT_path (l := l) (fr := 3) (lo := 81) (full := false) (M := 241) (n := 153) (u := 6051) (pc := 0) (L := [xf 13 104, xi pp, xi rr]) (st := []) (h := h) (inl := [192, 214, 231, 177]) (n' := 120) (sp := [47]) (o := [0, 0, 0, 0, 0, 0, 1]) rfl rfl ⟨rfl, rfl, rfl⟩ rfl ⟨Nat.le_of_eq hg.2.2.2.1, Nat.le_of_eq hg.2.2.2.2⟩ ⟨⟨⟨⟨⟨⟨⟨⟨⟨⟨⟨trivial, cb1⟩, cb3⟩, (Or.inr rfl)⟩, (show ¬ (Int32.ofInt (1)) = 0 from by decide)⟩, cb5⟩, cb7⟩, (Or.inr rfl)⟩, (show ¬ (Int32.ofInt (1)) = 0 from by decide)⟩, (vnn hg.1 (rfl : vRf 104 57 = [135]) (by decide))⟩, (vp_of (i := pp) (n := 16) (by omega) (by omega))⟩, cb9⟩
            obtain ⟨hS, eS⟩ : ∃ x, x = (xsetI h 104 2 (Int32.ofInt (0))) := ⟨_, rfl⟩
            have GS : mW (fun c k : Nat => (c = 104 ∧ k = 2)) h hS := by rw [eS]; exact (mW.rf hg).set ⟨rfl, rfl⟩ (by show (0 : Int) ≤ _ ∧ _ ≤ 2; decide)
            rw [← eS] at t10
            exact ⟨_, hS, CX_ofT (h' := hS) (by decide) rfl rfl ⟨trivial, (Or.inl rfl)⟩ ⟨_, _, _, rfl, rfl, rfl⟩ rfl ⟨Nat.le_of_eq GS.1.2.2.2.1.symm, Nat.le_of_eq GS.1.2.2.2.2.symm⟩ t10, Or.inl ⟨fun z => by obtain ⟨z1, z2, z3, z4⟩ := z; have e := ec z1.1 z1.2; have e3 := eh0 z2.1 z2.2; omega, rfl, GS⟩⟩
          · have e_0 : (Int32.ofInt (0)).toInt = 0 := rfl
            have cb9r := cb9
            rw [vref hg.1 (rfl : vRf 104 57 = [135])] at cb9r
            have dcb9 : ¬ (xI h 135 (pp).toNatClampNeg).toInt = (rr).toInt := fun z_ => cb9r (Int32.toInt_inj.mp z_)
            have t11 : XT l 3 81 false 241 153 6051 0 [xf 13 104, xi pp, xi rr] [] h 34 [xf 13 104, xi pp, xi rr] [xi rr, xi (Int32.ofInt (0)), xf 13 104] (xsetI h 104 2 (Int32.ofInt (0))) := XT_path (l := l) (fr := 3) (lo := 81) (full := false) (M := 241) (n := 153) (u := 6051) (pc := 0) (L := [xf 13 104, xi pp, xi rr]) (st := []) (h := h) (inl := [192, 214, 231, 177]) (n' := 120) (sp := [34]) (o := [0, 0, 0, 0, 0, 0, 0]) rfl rfl ⟨rfl, rfl, rfl⟩ rfl ⟨Nat.le_of_eq hg.2.2.2.1, Nat.le_of_eq hg.2.2.2.2⟩ ⟨⟨⟨⟨⟨⟨⟨⟨⟨⟨⟨trivial, cb1⟩, cb3⟩, (Or.inr rfl)⟩, (show ¬ (Int32.ofInt (1)) = 0 from by decide)⟩, cb5⟩, cb7⟩, (Or.inr rfl)⟩, (show ¬ (Int32.ofInt (1)) = 0 from by decide)⟩, (vnn hg.1 (rfl : vRf 104 57 = [135]) (by decide))⟩, (vp_of (i := pp) (n := 16) (by omega) (by omega))⟩, cb9⟩
            obtain ⟨hS, eS⟩ : ∃ x, x = (xsetI h 104 2 (Int32.ofInt (0))) := ⟨_, rfl⟩
            have GS : mW (fun c k : Nat => (c = 104 ∧ k = 2)) h hS := by rw [eS]; exact (mW.rf hg).set ⟨rfl, rfl⟩ (by show (0 : Int) ≤ _ ∧ _ ≤ 2; decide)
            rw [← eS] at t11
            have jkS : jK Z hS := jk.fr hg.1 (fun k k1 k2 => GS.k (fun z => by have z : (104 = 104 ∧ k = 2) := z; omega)) (fun c k c1 c2 _ => GS.k (fun z => by have z : (c = 104 ∧ k = 2) := z; omega))
            have jwS : jHf 0 Z (U n) hS := jw.o (fun c k c1 c2 => GS.k (fun z => by have z : (c = 104 ∧ k = 2) := z; omega))
            obtain ⟨Y1, hY1⟩ : ∃ Y1, Y1 = zup (zup (U n) 51 (xI hS 104 63)) 52 (xI hS 104 64) := ⟨_, rfl⟩
            have jhY : jHow Y1 hS := ⟨by rw [hY1, zup_o (by decide), zup_s], fun _ => by rw [hY1, zup_s]⟩
            have jwY : jHf 0 Z Y1 hS := jwS.sm A.1 (fun i hi => by rw [hY1, zup_o (by omega), zup_o (by omega)])
            have c1 := jk_crowd0 l Z Y1 rr rr.toInt.toNat hS GS.1 A jkS jwY jhY (by omega)
            rw [show zCr Z Y1 rr.toInt.toNat = zCr Z (U n) rr.toInt.toNat from zCr_e (fun p hp => by rw [hY1, zup_o (by omega), zup_o (by omega)])] at c1
            have eh := eh0 (by omega) (by omega)
            have ehS : (xI hS 112 rr.toNatClampNeg).toInt = Z (130 + rr.toInt.toNat) := by rw [GS.k (c := 112) (fun z => by have z : (112 = 104 ∧ _ = 2) := z; omega)]; exact eh
            have t12 : XT l 3 81 false 241 153 6051 34 [xf 13 104, xi pp, xi rr] [xi rr, xi (Int32.ofInt (0)), xf 13 104] hS 37 [xf 13 104, xi pp, xi rr] [xi (zCr Z (U n) rr.toInt.toNat)] hS := XT_call (l := l) (fr := 3) (lo := 81) (full := false) (M := 241) (n := 153) (u := 6051) (pc := 34) (L := [xf 13 104, xi pp, xi rr]) (st := [xi rr, xi (Int32.ofInt (0)), xf 13 104]) (h := hS) (i := .invokevirtual 220) (aux := 3) (nx := 37) (K := 220) (vs := [xf 13 104, xi (Int32.ofInt (0)), xi rr]) (rs := [xi (zCr Z (U n) rr.toInt.toNat)]) (rest := []) rfl rfl rfl rfl rfl rfl c1 (by decide) (by decide) (Nat.le_of_ble_eq_true rfl) ⟨Nat.le_of_eq GS.1.2.2.2.1, Nat.le_of_eq GS.1.2.2.2.2⟩
            have t13 := t11.tr t12
            by_cases cb14 : (zCr Z (U n) rr.toInt.toNat) < (xI hS (xR hS 104 27) (rr).toNatClampNeg)
            · have cb14r := cb14
              rw [vref GS.1.1 (rfl : vRf 104 27 = [112])] at cb14r
              have dcb14 : (zCr Z (U n) rr.toInt.toNat).toInt < (xI hS 112 (rr).toNatClampNeg).toInt := Int32.lt_iff_toInt_lt.mp cb14r
              have t15 : XT l 3 81 false 241 153 6051 37 [xf 13 104, xi pp, xi rr] [xi (zCr Z (U n) rr.toInt.toNat)] hS 49 [xf 13 104, xi pp, xi rr] [xf 13 104] hS := XT_path (l := l) (fr := 3) (lo := 81) (full := false) (M := 241) (n := 153) (u := 6051) (pc := 37) (L := [xf 13 104, xi pp, xi rr]) (st := [xi (zCr Z (U n) rr.toInt.toNat)]) (h := hS) (inl := [192, 214, 231, 177]) (n' := 120) (sp := [49]) (o := [1]) rfl rfl ⟨rfl, rfl, rfl⟩ rfl ⟨Nat.le_of_eq GS.1.2.2.2.1, Nat.le_of_eq GS.1.2.2.2.2⟩ ⟨⟨⟨trivial, (vnn GS.1.1 (rfl : vRf 104 27 = [112]) (by decide))⟩, (vp_of (i := rr) (n := 12) (by omega) (by omega))⟩, cb14⟩
              have t16 := t13.tr t15
              have jpS : jPa n U Z hS := jp.o A.1 (fun k => GS.k (fun z => by have z : (149 = 104 ∧ k = 2) := z; omega)) (GS.k (fun z => by have z : (104 = 104 ∧ 76 = 2) := z; omega))
              obtain ⟨h1, c2, G2, jp2⟩ := jk_rem l Z U (zup (U n) (20 + pp.toInt.toNat) rr) n hn hS GS.1 A.1 jwS jpS
              have t17 : XT l 3 81 false 241 153 6051 49 [xf 13 104, xi pp, xi rr] [xf 13 104] hS 52 [xf 13 104, xi pp, xi rr] [] h1 := XT_call (l := l) (fr := 3) (lo := 81) (full := false) (M := 241) (n := 153) (u := 6051) (pc := 49) (L := [xf 13 104, xi pp, xi rr]) (st := [xf 13 104]) (h := hS) (i := .invokevirtual 239) (aux := 1) (nx := 52) (K := 239) (vs := [xf 13 104]) (rs := []) (rest := []) rfl rfl rfl rfl rfl rfl c2 (by decide) (by decide) (Nat.le_of_ble_eq_true rfl) ⟨Nat.le_of_eq G2.1.2.2.2.1, Nat.le_of_eq G2.1.2.2.2.2⟩
              have t18 := t16.tr t17
              have t19 : XT l 3 81 false 241 153 6051 52 [xf 13 104, xi pp, xi rr] [] h1 60 [xf 13 104, xi pp, xi rr] [xi (Int32.ofInt (1))] (xsetI h1 (xR h1 104 57) (pp).toNatClampNeg rr) := XT_path (l := l) (fr := 3) (lo := 81) (full := false) (M := 241) (n := 153) (u := 6051) (pc := 52) (L := [xf 13 104, xi pp, xi rr]) (st := []) (h := h1) (inl := [192, 214, 231, 177]) (n' := 120) (sp := [60]) (o := []) rfl rfl ⟨rfl, rfl, rfl⟩ rfl ⟨Nat.le_of_eq G2.1.2.2.2.1, Nat.le_of_eq G2.1.2.2.2.2⟩ ⟨⟨trivial, (vnn G2.1.1 (rfl : vRf 104 57 = [135]) (by decide))⟩, (vp_of (i := pp) (n := 16) (by omega) (by omega))⟩
              rw [vref G2.1.1 (rfl : vRf 104 57 = [135])] at t19
              have t20 := t18.tr t19
              obtain ⟨hE, eE⟩ : ∃ x, x = (xsetI h1 135 (pp).toNatClampNeg rr) := ⟨_, rfl⟩
              have eE2 : hE = xsetI h1 135 pp.toInt.toNat rr := eE
              have GA : mW (fun c k : Nat => ((c = 149) ∨ (c = 104 ∧ (k = 76 ∨ k = 2)) ∨ (c = 135 ∧ k < 8))) h h1 := (GS.mono (fun c k z => by have z : (c = 104 ∧ k = 2) := z; show ((c = 149) ∨ (c = 104 ∧ (k = 76 ∨ k = 2)) ∨ (c = 135 ∧ k < 8)); omega)).tr (G2.mono (fun c k z => by have z : ((c = 149) ∨ (c = 104 ∧ k = 76)) := z; show ((c = 149) ∨ (c = 104 ∧ (k = 76 ∨ k = 2)) ∨ (c = 135 ∧ k < 8)); omega))
              have GE : mW (fun c k : Nat => ((c = 149) ∨ (c = 104 ∧ (k = 76 ∨ k = 2)) ∨ (c = 135 ∧ k < 8))) h hE := by rw [eE2]; exact GA.set (show ((135 = 149) ∨ (135 = 104 ∧ (pp.toInt.toNat = 76 ∨ pp.toInt.toNat = 2)) ∨ (135 = 135 ∧ pp.toInt.toNat < 8)) from by omega) (by rw [vI_u rfl (rfl : vRow 135 = (0, 5))]; exact ⟨by show (0 : Int) ≤ _; omega, by show _ ≤ (5 : Int); omega⟩)
              rw [← eE] at t20
              have fE : ∀ c k, 133 ≤ c → c ≤ 138 → ¬ (c = 135 ∧ k = pp.toInt.toNat) → xI hE c k = xI h c k := fun c k c1 c2 c3 => by rw [eE2, yI_ne (eq_false c3), G2.k (fun z => by have z : ((c = 149) ∨ (c = 104 ∧ k = 76)) := z; omega)]; exact GS.k (fun z => by have z : (c = 104 ∧ k = 2) := z; omega)
              refine ⟨_, hE, CX_ofT (h' := hE) (by decide) rfl rfl ⟨trivial, (Or.inr rfl)⟩ ⟨_, _, _, rfl, rfl, rfl⟩ rfl ⟨Nat.le_of_eq GE.1.2.2.2.1.symm, Nat.le_of_eq GE.1.2.2.2.2.symm⟩ t20, Or.inr ⟨⟨⟨by omega, by omega⟩, ⟨by omega, by omega⟩, by have e := ec (by omega) (by omega); omega, by omega⟩, rfl, GE, jw.mv A.1 (by omega) fE (by rw [eE2]; exact yI_same), ?_⟩⟩
              exact jp2.o A.1 (fun k => by rw [eE2]; exact yI_c (by decide)) (by rw [eE2]; exact yI_c (by decide))
            · have cb14r := cb14
              rw [vref GS.1.1 (rfl : vRf 104 27 = [112])] at cb14r
              have dcb14 : (xI hS 112 (rr).toNatClampNeg).toInt ≤ (zCr Z (U n) rr.toInt.toNat).toInt := Int32.le_iff_toInt_le.mp (Int32.not_lt.mp cb14r)
              have t21 : XT l 3 81 false 241 153 6051 37 [xf 13 104, xi pp, xi rr] [xi (zCr Z (U n) rr.toInt.toNat)] hS 47 [xf 13 104, xi pp, xi rr] [xi (Int32.ofInt (0))] hS := XT_path (l := l) (fr := 3) (lo := 81) (full := false) (M := 241) (n := 153) (u := 6051) (pc := 37) (L := [xf 13 104, xi pp, xi rr]) (st := [xi (zCr Z (U n) rr.toInt.toNat)]) (h := hS) (inl := [192, 214, 231, 177]) (n' := 120) (sp := [47]) (o := [0]) rfl rfl ⟨rfl, rfl, rfl⟩ rfl ⟨Nat.le_of_eq GS.1.2.2.2.1, Nat.le_of_eq GS.1.2.2.2.2⟩ ⟨⟨⟨trivial, (vnn GS.1.1 (rfl : vRf 104 27 = [112]) (by decide))⟩, (vp_of (i := rr) (n := 12) (by omega) (by omega))⟩, cb14⟩
              have t22 := t13.tr t21
              exact ⟨_, hS, CX_ofT (h' := hS) (by decide) rfl rfl ⟨trivial, (Or.inl rfl)⟩ ⟨_, _, _, rfl, rfl, rfl⟩ rfl ⟨Nat.le_of_eq GS.1.2.2.2.1.symm, Nat.le_of_eq GS.1.2.2.2.2.symm⟩ t22, Or.inl ⟨fun z => by obtain ⟨z1, z2, z3, z4⟩ := z; have e := ec z1.1 z1.2; have e3 := eh0 z2.1 z2.2; omega, rfl, GS⟩⟩
set_option maxRecDepth 100000 in
set_option maxHeartbeats 4000000 in
theorem jk_undo (l : Launch) (Z : Nat → Int) (U : Nat → Nat → Int32) (n : Nat) (h : XH) (hg : mI h) (A : zAll Z) (jk : jK Z h) (hn : n ≤ 20) (jw : jHf 0 Z (U n) h) (V : zVd Z (U n)) (jp : jPa n U Z h) (same : 0 < n → U (n - 1) 50 = U n 50) : ∃ v h', CX l 1 23 false 283 [xf 13 104] h [xi v] h' ∧ ((n = 0 ∧ v = (Int32.ofInt (-1)) ∧ mW (fun c k : Nat => (c = 104 ∧ k = 2)) h h') ∨ (0 < n ∧ v.toInt = (n : Int) - 1 ∧ mW (fun c k : Nat => ((c = 104 ∧ (k = 76 ∨ k = 2)) ∨ (c = 133 ∧ k < 6) ∨ ((c = 135 ∨ c = 136) ∧ k < 8))) h h' ∧ jHf 0 Z (U (n - 1)) h' ∧ jPa (n - 1) U Z h')) := by
  obtain ⟨⟨⟨B00, B01⟩, ⟨B10, B11⟩, ⟨B20, B21⟩, B30, B31⟩, g6, zj, zv, LW⟩ := id A
  have e_0 : ((Int32.ofInt (0))).toInt = 0 := rfl
  have e_1 : ((Int32.ofInt (1))).toInt = 1 := rfl
  have e_m1 : ((Int32.ofInt (-1))).toInt = -1 := rfl
  have e_9 : ((Int32.ofInt (9))).toInt = 9 := rfl
  have e_2 : ((Int32.ofInt (2))).toInt = 2 := rfl
  have e_m2 : ((Int32.ofInt (-2))).toInt = -2 := rfl
  have ez : (0 : Int32).toInt = 0 := rfl
  have ep : (xI h 104 14).toInt = Z 2 := jk.1 2 (by decide)
  have eg : (xI h 104 12).toInt = Z 0 := jk.1 0 (by decide)
  have e76 := jp.1
  by_cases hn0 : n = 0
  · have hn1 : 0 ≤ n := by omega
    have t1 : XT l 1 23 false 283 153 6051 0 [xf 13 104] [] h 13 [xf 13 104] [xi (Int32.ofInt (-1))] (xsetI h 104 2 (Int32.ofInt (0))) := XT_path (l := l) (fr := 1) (lo := 23) (full := false) (M := 283) (n := 153) (u := 6051) (pc := 0) (L := [xf 13 104]) (st := []) (h := h) (inl := [192, 214, 231, 177]) (n' := 120) (sp := [13]) (o := [0]) rfl rfl ⟨rfl, rfl, rfl⟩ rfl ⟨Nat.le_of_eq hg.2.2.2.1, Nat.le_of_eq hg.2.2.2.2⟩ ⟨trivial, (show (xI h 104 76) = 0 from Int32.toInt_inj.mp (by omega))⟩
    obtain ⟨hS, eS⟩ : ∃ x, x = (xsetI h 104 2 (Int32.ofInt (0))) := ⟨_, rfl⟩
    have GS : mW (fun c k : Nat => (c = 104 ∧ k = 2)) h hS := by rw [eS]; exact (mW.rf hg).set ⟨rfl, rfl⟩ (by show (0 : Int) ≤ _ ∧ _ ≤ 2; decide)
    rw [← eS] at t1
    exact ⟨_, hS, CX_ofT (h' := hS) (by decide) rfl rfl trivial ⟨_, _, _, rfl, rfl, rfl⟩ rfl ⟨Nat.le_of_eq GS.1.2.2.2.1.symm, Nat.le_of_eq GS.1.2.2.2.2.symm⟩ t1, Or.inl ⟨hn0, rfl, GS⟩⟩
  · have hn1 : 0 < n := by omega
    have t2 : XT l 1 23 false 283 153 6051 0 [xf 13 104] [] h 36 [xf 13 104] [xi ((Int32.ofInt (22)) * ((xI h 104 76) - (Int32.ofInt (1)))), xf 10440 (xR h 104 77), xf 13 104] (xsetI (xsetI h 104 2 (Int32.ofInt (0))) 104 76 ((xI h 104 76) - (Int32.ofInt (1)))) := XT_path (l := l) (fr := 1) (lo := 23) (full := false) (M := 283) (n := 153) (u := 6051) (pc := 0) (L := [xf 13 104]) (st := []) (h := h) (inl := [192, 214, 231, 177]) (n' := 120) (sp := [36]) (o := [1]) rfl rfl ⟨rfl, rfl, rfl⟩ rfl ⟨Nat.le_of_eq hg.2.2.2.1, Nat.le_of_eq hg.2.2.2.2⟩ ⟨⟨trivial, (show ¬ (xI h 104 76) = 0 from fun z => absurd (congrArg Int32.toInt z) (by omega))⟩, (vnn hg.1 (rfl : vRf 104 77 = [149]) (by decide))⟩
    rw [vref hg.1 (rfl : vRf 104 77 = [149])] at t2
    obtain ⟨hS, eS⟩ : ∃ x, x = (xsetI (xsetI h 104 2 (Int32.ofInt (0))) 104 76 ((xI h 104 76) - (Int32.ofInt (1)))) := ⟨_, rfl⟩
    have es : (xI h 104 76 - (Int32.ofInt (1))).toInt = (n : Int) - 1 := by rw [y_pred (by omega) (by omega), e76]
    have eS2 : hS = xsetI (xsetI h 104 2 (Int32.ofInt (0))) 104 76 (xI h 104 76 - (Int32.ofInt (1))) := eS
    have GS : mW (fun c k : Nat => ((c = 104 ∧ (k = 76 ∨ k = 2)) ∨ (c = 133 ∧ k < 6) ∨ ((c = 135 ∨ c = 136) ∧ k < 8))) h hS := by rw [eS2]; exact ((mW.rf hg).set (show (104 = 104 ∧ (2 = 76 ∨ 2 = 2)) ∨ (104 = 133 ∧ 2 < 6) ∨ ((104 = 135 ∨ 104 = 136) ∧ 2 < 8) from by omega) (by show (0 : Int) ≤ _ ∧ _ ≤ 2; decide)).set (show (104 = 104 ∧ (76 = 76 ∨ 76 = 2)) ∨ (104 = 133 ∧ 76 < 6) ∨ ((104 = 135 ∨ 104 = 136) ∧ 76 < 8) from by omega) (by show (0 : Int) ≤ _ ∧ _ ≤ 20; rw [es]; omega)
    have s76 : (xI hS 104 76).toInt = (n : Int) - 1 := by rw [eS2, yI_same]; exact es
    have oS : ∀ c k, ¬ c = 104 → xI hS c k = xI h c k := fun c k hc => by rw [eS2, yI_c (eq_false hc), yI_c (eq_false hc)]
    have ei : (((Int32.ofInt (22)) * ((xI h 104 76) - (Int32.ofInt (1))))).toInt = 22 * ((n - 1 : Nat) : Int) := by rw [show (((Int32.ofInt (22)) * ((xI h 104 76) - (Int32.ofInt (1))))) = (Int32.ofInt (22)) * (xI h 104 76 - (Int32.ofInt (1))) from rfl, y_mulb (by rw [es, show ((Int32.ofInt (22))).toInt = 22 from rfl]; omega), es, show ((Int32.ofInt (22))).toInt = 22 from rfl]; omega
    obtain ⟨h2, c2, G2, I2, J2⟩ := jk_take149 l (n - 1) (by omega) (((Int32.ofInt (22)) * ((xI h 104 76) - (Int32.ofInt (1))))) ei hS GS.1
    rw [← eS] at t2
    have t3 : XT l 1 23 false 283 153 6051 36 [xf 13 104] [xi ((Int32.ofInt (22)) * ((xI h 104 76) - (Int32.ofInt (1)))), xf 10440 149, xf 13 104] hS 39 [xf 13 104] [] h2 := XT_call (l := l) (fr := 1) (lo := 23) (full := false) (M := 283) (n := 153) (u := 6051) (pc := 36) (L := [xf 13 104]) (st := [xi ((Int32.ofInt (22)) * ((xI h 104 76) - (Int32.ofInt (1)))), xf 10440 149, xf 13 104]) (h := hS) (i := .invokevirtual 284) (aux := 3) (nx := 39) (K := 284) (vs := [xf 13 104, xf 10440 149, xi ((Int32.ofInt (22)) * ((xI h 104 76) - (Int32.ofInt (1))))]) (rs := []) (rest := []) rfl rfl rfl rfl rfl rfl c2 (by decide) (by decide) (Nat.le_of_ble_eq_true rfl) ⟨Nat.le_of_eq G2.1.2.2.2.1, Nat.le_of_eq G2.1.2.2.2.2⟩
    have t4 := t2.tr t3
    have t5 : XT l 1 23 false 283 153 6051 39 [xf 13 104] [] h2 43 [xf 13 104] [xi (xI h2 104 76)] h2 := XT_path (l := l) (fr := 1) (lo := 23) (full := false) (M := 283) (n := 153) (u := 6051) (pc := 39) (L := [xf 13 104]) (st := []) (h := h2) (inl := [192, 214, 231, 177]) (n' := 120) (sp := [43]) (o := []) rfl rfl ⟨rfl, rfl, rfl⟩ rfl ⟨Nat.le_of_eq G2.1.2.2.2.1, Nat.le_of_eq G2.1.2.2.2.2⟩ trivial
    have t6 := t4.tr t5
    have GE : mW (fun c k : Nat => ((c = 104 ∧ (k = 76 ∨ k = 2)) ∨ (c = 133 ∧ k < 6) ∨ ((c = 135 ∨ c = 136) ∧ k < 8))) h h2 := GS.tr (G2.mono (fun c k z => by have z : ((c = 133 ∧ k < 6) ∨ ((c = 135 ∨ c = 136) ∧ k < 8)) := z; show ((c = 104 ∧ (k = 76 ∨ k = 2)) ∨ (c = 133 ∧ k < 6) ∨ ((c = 135 ∨ c = 136) ∧ k < 8)); omega))
    have r76 : (xI h2 104 76).toInt = (n : Int) - 1 := by rw [G2.k (c := 104) (k := 76) (fun z => by have z : ((104 = 133 ∧ 76 < 6) ∨ ((104 = 135 ∨ 104 = 136) ∧ 76 < 8)) := z; omega)]; exact s76
    have r149 : ∀ k, xI h2 149 k = xI h 149 k := fun k => (G2.k (fun z => by have z : ((149 = 133 ∧ k < 6) ∨ ((149 = 135 ∨ 149 = 136) ∧ k < 8)) := z; omega)).trans (oS 149 k (by decide))
    obtain ⟨a1, a2⟩ := jp.2 (n - 1) (by omega)
    refine ⟨_, h2, CX_ofT (h' := h2) (by decide) rfl rfl trivial ⟨_, _, _, rfl, rfl, rfl⟩ rfl ⟨Nat.le_of_eq G2.1.2.2.2.1.symm, Nat.le_of_eq G2.1.2.2.2.2.symm⟩ t6, Or.inr ⟨hn1, r76, GE, ⟨fun r hr => ?_, fun p hp => ⟨?_, ?_⟩, ?_⟩, ⟨by rw [r76]; omega, fun k hk => (jp.2 k (by omega)).fr A.1 (fun j _ _ => r149 j)⟩⟩⟩
    · rw [show 6 * 0 + r = r from by omega, J2 r (by omega), oS 149 _ (by decide)]; exact a2 r hr
    · rw [show 8 * 0 + p = p from by omega, (I2 p (by omega)).2, oS 149 _ (by decide)]; exact (a1 p hp).2
    · rw [show 8 * 0 + p = p from by omega, (I2 p (by omega)).1, oS 149 _ (by decide)]; exact (a1 p hp).1
    · rw [same hn1, G2.k (c := 138) (k := 0) (fun z => by have z : ((138 = 133 ∧ 0 < 6) ∨ ((138 = 135 ∨ 138 = 136) ∧ 0 < 8)) := z; omega), oS 138 _ (by decide)]; exact jw.2.2
theorem zPs_o {Z : Nat → Int} {Y : Nat → Int32} (B : zcB Z) (i : Nat) (hi : i = 51 ∨ i = 52) : zPs Z Y i = Y i := by
  obtain ⟨⟨-, B0⟩, -, ⟨-, B2⟩, -⟩ := id B
  have e1 : zPs Z Y i = zRp Z (zStr Z Y) i := (if_neg (by omega)).trans (if_neg (by omega))
  have e2 : zStr Z Y i = Y i := if_neg (by omega)
  rw [e1, zRp_o B i (by omega), e2]
set_option maxRecDepth 100000 in
set_option maxHeartbeats 4000000 in
theorem jk_seaW (l : Launch) (Z : Nat → Int) (A : zAll Z) (n : Int32) (n9 : n.toInt ≤ 99) : ∀ (m : Nat) (Y : Nat → Int32) (i : Int32) (h : XH), mI h → jK Z h → jHf 0 Z Y h → jHow Y h → zVd Z Y → Y 51 = (Int32.ofInt (-1)) → jY 0 Z Y h → 0 ≤ i.toInt → i.toInt + m = n.toInt → ∃ i' h', XT l 10 265 false 243 153 6051 37 [xf 13 104, xi n, xi i] [] h 53 [xf 13 104, xi n, xi i'] [] h' ∧ mW (fun c k : Nat => ((c = 104 ∧ k = 54) ∨ c = 139 ∨ ((c = 133 ∨ c = 134) ∧ 0 ≤ k ∧ k < 6) ∨ ((c = 136 ∨ c = 137) ∧ 0 ≤ k ∧ k < 8) ∨ (c = 138 ∧ k = 0))) h h' ∧ jHf 0 Z (zIt Z m Y) h' ∧ jY 0 Z (zIt Z m Y) h'
  | 0, Y, i, h, hg, jk, jw, jh, V, md, jy, i0, im => by
    have t1 : XT l 10 265 false 243 153 6051 37 [xf 13 104, xi n, xi i] [] h 53 [xf 13 104, xi n, xi i] [] h := XT_path (l := l) (fr := 10) (lo := 265) (full := false) (M := 243) (n := 153) (u := 6051) (pc := 37) (L := [xf 13 104, xi n, xi i]) (st := []) (h := h) (inl := []) (n' := 80) (sp := [53]) (o := [1]) rfl rfl ⟨rfl, rfl, rfl⟩ rfl ⟨Nat.le_of_eq hg.2.2.2.1, Nat.le_of_eq hg.2.2.2.2⟩ ⟨trivial, (Int32.le_iff_toInt_le.mpr (by omega))⟩
    exact ⟨i, h, t1, mW.rf hg, jw, jy⟩
  | m + 1, Y, i, h, hg, jk, jw, jh, V, md, jy, i0, im => by
    have ej := y_suc1 i0 (by omega)
    have t1 : XT l 10 265 false 243 153 6051 37 [xf 13 104, xi n, xi i] [] h 44 [xf 13 104, xi n, xi i] [xi (Int32.ofInt (0)), xf 13 104] h := XT_path (l := l) (fr := 10) (lo := 265) (full := false) (M := 243) (n := 153) (u := 6051) (pc := 37) (L := [xf 13 104, xi n, xi i]) (st := []) (h := h) (inl := []) (n' := 80) (sp := [44]) (o := [0]) rfl rfl ⟨rfl, rfl, rfl⟩ rfl ⟨Nat.le_of_eq hg.2.2.2.1, Nat.le_of_eq hg.2.2.2.2⟩ ⟨trivial, (fun z => absurd (Int32.le_iff_toInt_le.mp z) (by omega))⟩
    obtain ⟨h1, c1, G1, jw1, jy1⟩ := jk_goOn0s l Z Y h hg A jk jw jh V (by rw [md]; decide) jy
    have t2 : XT l 10 265 false 243 153 6051 44 [xf 13 104, xi n, xi i] [xi (Int32.ofInt (0)), xf 13 104] h 47 [xf 13 104, xi n, xi i] [] h1 := XT_call (l := l) (fr := 10) (lo := 265) (full := false) (M := 243) (n := 153) (u := 6051) (pc := 44) (L := [xf 13 104, xi n, xi i]) (st := [xi (Int32.ofInt (0)), xf 13 104]) (h := h) (i := .invokevirtual 244) (aux := 2) (nx := 47) (K := 244) (vs := [xf 13 104, xi (Int32.ofInt (0))]) (rs := []) (rest := []) rfl rfl rfl rfl rfl rfl c1 (by decide) (by decide) (Nat.le_of_ble_eq_true rfl) ⟨Nat.le_of_eq G1.1.2.2.2.1, Nat.le_of_eq G1.1.2.2.2.2⟩
    have t3 := t1.tr t2
    have t4 : XT l 10 265 false 243 153 6051 47 [xf 13 104, xi n, xi i] [] h1 37 [xf 13 104, xi n, xi (i + Int32.ofInt (1))] [] h1 := XT_path (l := l) (fr := 10) (lo := 265) (full := false) (M := 243) (n := 153) (u := 6051) (pc := 47) (L := [xf 13 104, xi n, xi i]) (st := []) (h := h1) (inl := []) (n' := 80) (sp := [37]) (o := []) rfl rfl ⟨rfl, rfl, rfl⟩ rfl ⟨Nat.le_of_eq G1.1.2.2.2.1, Nat.le_of_eq G1.1.2.2.2.2⟩ trivial
    have t5 := t3.tr t4
    have jk1 := jk.w hg.1 G1 (fun c k z => by have z : ((c = 104 ∧ k = 54) ∨ c = 139 ∨ ((c = 133 ∨ c = 134) ∧ 0 ≤ k ∧ k < 6) ∨ ((c = 136 ∨ c = 137) ∧ 0 ≤ k ∧ k < 8) ∨ (c = 138 ∧ k = 0)) := z; omega)
    have jh1 : jHow (zPs Z Y) h1 := (jh.w G1 (fun c k z => by have z : ((c = 104 ∧ k = 54) ∨ c = 139 ∨ ((c = 133 ∨ c = 134) ∧ 0 ≤ k ∧ k < 6) ∨ ((c = 136 ∨ c = 137) ∧ 0 ≤ k ∧ k < 8) ∨ (c = 138 ∧ k = 0)) := z; omega)).sm (zPs_o A.1 51 (Or.inl rfl)) (zPs_o A.1 52 (Or.inr rfl))
    obtain ⟨i', h2, z1, G2, jw2, jy2⟩ := jk_seaW l Z A n n9 m (zPs Z Y) (i + (Int32.ofInt (1))) h1 G1.1 jk1 jw1 jh1 (zVd_ps A.1 V) ((zPs_o A.1 51 (Or.inl rfl)).trans md) jy1 (by omega) (by omega)
    exact ⟨i', h2, t5.tr z1, G1.tr G2, jw2, jy2⟩
set_option maxRecDepth 100000 in
set_option maxHeartbeats 4000000 in
theorem jk_seasonsW (l : Launch) (Z : Nat → Int) (Y : Nat → Int32) (n : Int32) (h : XH) (hg : mI h) (A : zAll Z) (jk : jK Z h) (jw : jHf 0 Z Y h) (V : zVd Z Y) (md : Y 51 = (Int32.ofInt (-1))) (jy : jY 0 Z Y h) : ∃ v h', CX l 10 265 false 243 [xf 13 104, xi n] h [xi v] h' ∧ ((¬ (0 ≤ n.toInt ∧ n.toInt ≤ 99 ∧ (Y 50 + n).toInt ≤ 9999) ∧ mW (fun c k : Nat => (c = 104 ∧ k = 2)) h h') ∨ ((0 ≤ n.toInt ∧ n.toInt ≤ 99 ∧ (Y 50 + n).toInt ≤ 9999) ∧ mW (fun c k : Nat => ((c = 104 ∧ (k = 2 ∨ k = 54 ∨ k = 63 ∨ k = 64 ∨ k = 76)) ∨ c = 139 ∨ ((c = 133 ∨ c = 134) ∧ k < 6) ∨ ((c = 136 ∨ c = 137) ∧ k < 8) ∨ (c = 138 ∧ k = 0))) h h' ∧ jHf 0 Z (zIt Z n.toInt.toNat Y) h' ∧ jY 0 Z (zIt Z n.toInt.toNat Y) h' ∧ (0 < n.toInt → xI h' 104 76 = (Int32.ofInt (0))) ∧ (n.toInt = 0 → xI h' 104 76 = xI h 104 76))) := by
  obtain ⟨⟨⟨B00, B01⟩, ⟨B10, B11⟩, ⟨B20, B21⟩, B30, B31⟩, g6, zj, zv, LW⟩ := id A
  have e_0 : ((Int32.ofInt (0))).toInt = 0 := rfl
  have e_1 : ((Int32.ofInt (1))).toInt = 1 := rfl
  have e_m1 : ((Int32.ofInt (-1))).toInt = -1 := rfl
  have e_9 : ((Int32.ofInt (9))).toInt = 9 := rfl
  have e_2 : ((Int32.ofInt (2))).toInt = 2 := rfl
  have e_m2 : ((Int32.ofInt (-2))).toInt = -2 := rfl
  have ez : (0 : Int32).toInt = 0 := rfl
  have ep : (xI h 104 14).toInt = Z 2 := jk.1 2 (by decide)
  have eg : (xI h 104 12).toInt = Z 0 := jk.1 0 (by decide)
  have e_99 : ((Int32.ofInt (99))).toInt = 99 := rfl
  have e_9999 : ((Int32.ofInt (9999))).toInt = 9999 := rfl
  have e50 : xI h 138 0 = Y 50 := jw.2.2
  have e51 : (xI h 138 0 + n).toInt = (Y 50 + n).toInt := by rw [e50]
  obtain ⟨S, hS9⟩ : ∃ S, S = xI h 138 0 + n := ⟨_, rfl⟩
  rw [← hS9] at e51
  by_cases cb1 : n < (Int32.ofInt (0))
  · have e_0 : (Int32.ofInt (0)).toInt = 0 := rfl
    have dcb1 : (n).toInt < (Int32.ofInt (0)).toInt := Int32.lt_iff_toInt_lt.mp cb1
    have t2 : XT l 10 265 false 243 153 6051 0 [xf 13 104, xi n, xun] [] h 30 [xf 13 104, xi n, xun] [xi (Int32.ofInt (-1))] (xsetI h 104 2 (Int32.ofInt (0))) := XT_path (l := l) (fr := 10) (lo := 265) (full := false) (M := 243) (n := 153) (u := 6051) (pc := 0) (L := [xf 13 104, xi n, xun]) (st := []) (h := h) (inl := [192, 214, 231, 177]) (n' := 120) (sp := [30]) (o := [1, 1]) rfl rfl ⟨rfl, rfl, rfl⟩ rfl ⟨Nat.le_of_eq hg.2.2.2.1, Nat.le_of_eq hg.2.2.2.2⟩ ⟨⟨⟨trivial, cb1⟩, (Or.inl rfl)⟩, rfl⟩
    obtain ⟨hS, eS⟩ : ∃ x, x = (xsetI h 104 2 (Int32.ofInt (0))) := ⟨_, rfl⟩
    have GS : mW (fun c k : Nat => (c = 104 ∧ k = 2)) h hS := by rw [eS]; exact (mW.rf hg).set ⟨rfl, rfl⟩ (by show (0 : Int) ≤ _ ∧ _ ≤ 2; decide)
    rw [← eS] at t2
    exact ⟨_, hS, CX_ofT (h' := hS) (by decide) rfl rfl trivial ⟨_, _, _, rfl, rfl, rfl⟩ rfl ⟨Nat.le_of_eq GS.1.2.2.2.1.symm, Nat.le_of_eq GS.1.2.2.2.2.symm⟩ t2, Or.inl ⟨fun z => by obtain ⟨z1, z2, z3⟩ := z; omega, GS⟩⟩
  · have e_0 : (Int32.ofInt (0)).toInt = 0 := rfl
    have dcb1 : (Int32.ofInt (0)).toInt ≤ (n).toInt := Int32.le_iff_toInt_le.mp (Int32.not_lt.mp cb1)
    by_cases cb3 : (Int32.ofInt (99)) < n
    · have e_99 : (Int32.ofInt (99)).toInt = 99 := rfl
      have dcb3 : (Int32.ofInt (99)).toInt < (n).toInt := Int32.lt_iff_toInt_lt.mp cb3
      have t4 : XT l 10 265 false 243 153 6051 0 [xf 13 104, xi n, xun] [] h 30 [xf 13 104, xi n, xun] [xi (Int32.ofInt (-1))] (xsetI h 104 2 (Int32.ofInt (0))) := XT_path (l := l) (fr := 10) (lo := 265) (full := false) (M := 243) (n := 153) (u := 6051) (pc := 0) (L := [xf 13 104, xi n, xun]) (st := []) (h := h) (inl := [192, 214, 231, 177]) (n' := 120) (sp := [30]) (o := [0, 1, 1]) rfl rfl ⟨rfl, rfl, rfl⟩ rfl ⟨Nat.le_of_eq hg.2.2.2.1, Nat.le_of_eq hg.2.2.2.2⟩ ⟨⟨⟨⟨trivial, cb1⟩, cb3⟩, (Or.inl rfl)⟩, rfl⟩
      obtain ⟨hS, eS⟩ : ∃ x, x = (xsetI h 104 2 (Int32.ofInt (0))) := ⟨_, rfl⟩
      have GS : mW (fun c k : Nat => (c = 104 ∧ k = 2)) h hS := by rw [eS]; exact (mW.rf hg).set ⟨rfl, rfl⟩ (by show (0 : Int) ≤ _ ∧ _ ≤ 2; decide)
      rw [← eS] at t4
      exact ⟨_, hS, CX_ofT (h' := hS) (by decide) rfl rfl trivial ⟨_, _, _, rfl, rfl, rfl⟩ rfl ⟨Nat.le_of_eq GS.1.2.2.2.1.symm, Nat.le_of_eq GS.1.2.2.2.2.symm⟩ t4, Or.inl ⟨fun z => by obtain ⟨z1, z2, z3⟩ := z; omega, GS⟩⟩
    · have e_99 : (Int32.ofInt (99)).toInt = 99 := rfl
      have dcb3 : (n).toInt ≤ (Int32.ofInt (99)).toInt := Int32.le_iff_toInt_le.mp (Int32.not_lt.mp cb3)
      by_cases cb5 : ((xI (xsetI h 104 2 (Int32.ofInt (0))) (xR h 104 60) ((Int32.ofInt (0))).toNatClampNeg) + n) ≤ (Int32.ofInt (9999))
      · have e_0 : (Int32.ofInt (0)).toInt = 0 := rfl
        have e_9999 : (Int32.ofInt (9999)).toInt = 9999 := rfl
        have cb5r := cb5
        rw [vref hg.1 (rfl : vRf 104 60 = [138])] at cb5r
        have dcb5 : ((xI h 138 ((Int32.ofInt (0))).toNatClampNeg) + n).toInt ≤ (Int32.ofInt (9999)).toInt := Int32.le_iff_toInt_le.mp cb5r
        rw [show (xI h 138 (Int32.ofInt (0)).toNatClampNeg + n) = S from hS9.symm] at dcb5
        have t6 : XT l 10 265 false 243 153 6051 0 [xf 13 104, xi n, xun] [] h 37 [xf 13 104, xi n, xi (Int32.ofInt (0))] [] (xsetI (xsetI (xsetI h 104 2 (Int32.ofInt (0))) 104 63 (Int32.ofInt (-1))) 104 64 (Int32.ofInt (-1))) := XT_path (l := l) (fr := 10) (lo := 265) (full := false) (M := 243) (n := 153) (u := 6051) (pc := 0) (L := [xf 13 104, xi n, xun]) (st := []) (h := h) (inl := [192, 214, 231, 177]) (n' := 120) (sp := [37]) (o := [0, 0, 0, 1]) rfl rfl ⟨rfl, rfl, rfl⟩ rfl ⟨Nat.le_of_eq hg.2.2.2.1, Nat.le_of_eq hg.2.2.2.2⟩ ⟨⟨⟨⟨⟨⟨⟨trivial, cb1⟩, cb3⟩, (Or.inr rfl)⟩, (show ¬ (Int32.ofInt (1)) = 0 from by decide)⟩, (vnn hg.1 (rfl : vRf 104 60 = [138]) (by decide))⟩, (vp_of (i := (Int32.ofInt (0))) (n := 2) (by omega) (by omega))⟩, cb5⟩
        obtain ⟨hS, eS⟩ : ∃ x, x = (xsetI (xsetI (xsetI h 104 2 (Int32.ofInt (0))) 104 63 (Int32.ofInt (-1))) 104 64 (Int32.ofInt (-1))) := ⟨_, rfl⟩
        have eS2 : hS = xsetI (xsetI (xsetI h 104 2 (Int32.ofInt (0))) 104 63 (Int32.ofInt (-1))) 104 64 (Int32.ofInt (-1)) := eS
        have GS : mW (fun c k : Nat => c = 104 ∧ (k = 2 ∨ k = 63 ∨ k = 64)) h hS := by rw [eS2]; exact (((mW.rf hg).set ⟨rfl, Or.inl rfl⟩ (by show (0 : Int) ≤ _ ∧ _ ≤ 2; decide)).set ⟨rfl, Or.inr (Or.inl rfl)⟩ (by show (-1 : Int) ≤ _ ∧ _ ≤ 4; decide)).set ⟨rfl, Or.inr (Or.inr rfl)⟩ (by show (-2147483648 : Int) ≤ _ ∧ _ ≤ 2147483647; exact i32r_of _)
        rw [← eS] at t6
        have oS : ∀ c k, ¬ c = 104 → xI hS c k = xI h c k := fun c k hc => GS.k (fun z => by have z : c = 104 ∧ (k = 2 ∨ k = 63 ∨ k = 64) := z; omega)
        have jkS : jK Z hS := jk.fr hg.1 (fun k k1 k2 => GS.k (fun z => by have z : 104 = 104 ∧ (k = 2 ∨ k = 63 ∨ k = 64) := z; omega)) (fun c k c1 c2 _ => oS c k (by omega))
        have jwS : jHf 0 Z Y hS := jw.o (fun c k c1 c2 => oS c k (by omega))
        have jyS : jY 0 Z Y hS := ⟨fun r hr => (oS 134 _ (by decide)).trans (jy.1 r hr), fun p hp => (oS 137 _ (by decide)).trans (jy.2 p hp)⟩
        have jhS : jHow Y hS := ⟨by rw [eS2, yI_ne (by decide), yI_same, md], fun z => absurd z (by rw [md]; decide)⟩
        obtain ⟨i', h1, z1, G1, jw1, jy1⟩ := jk_seaW l Z A n (by omega) n.toInt.toNat Y (Int32.ofInt (0)) hS GS.1 jkS jwS jhS V md jyS (by decide) (by have e0 : ((Int32.ofInt (0))).toInt = 0 := rfl; omega)
        have T1 := t6.tr z1
        by_cases cb7 : n ≤ 0
        · have e_0 : (0 : Int32).toInt = 0 := rfl
          have dcb7 : (n).toInt ≤ (0 : Int32).toInt := Int32.le_iff_toInt_le.mp cb7
          have t8 : XT l 10 265 false 243 153 6051 53 [xf 13 104, xi n, xi i'] [] h1 75 [xf 13 104, xi n, xi i'] [xi (xI (xsetI h1 104 76 (xI h1 104 76)) (xR h1 104 60) ((Int32.ofInt (0))).toNatClampNeg)] (xsetI h1 104 76 (xI h1 104 76)) := XT_path (l := l) (fr := 10) (lo := 265) (full := false) (M := 243) (n := 153) (u := 6051) (pc := 53) (L := [xf 13 104, xi n, xi i']) (st := []) (h := h1) (inl := [192, 214, 231, 177]) (n' := 120) (sp := [75]) (o := [1]) rfl rfl ⟨rfl, rfl, rfl⟩ rfl ⟨Nat.le_of_eq G1.1.2.2.2.1, Nat.le_of_eq G1.1.2.2.2.2⟩ ⟨⟨⟨trivial, cb7⟩, (vnn G1.1.1 (rfl : vRf 104 60 = [138]) (by decide))⟩, (vp_of (i := (Int32.ofInt (0))) (n := 2) (by omega) (by omega))⟩
          rw [vref G1.1.1 (rfl : vRf 104 60 = [138])] at t8
          have t9 : XT l 10 265 false 243 153 6051 53 [xf 13 104, xi n, xi i'] [] h1 75 [xf 13 104, xi n, xi i'] [xi (xI h1 138 ((Int32.ofInt (0))).toNatClampNeg)] (xsetI h1 104 76 (xI h1 104 76)) := t8
          have t10 := T1.tr t9
          obtain ⟨hE, eE⟩ : ∃ x, x = (xsetI h1 104 76 (xI h1 104 76)) := ⟨_, rfl⟩
          have eE2 : hE = xsetI h1 104 76 (xI h1 104 76) := eE
          have bV : 0 ≤ ((xI h1 104 76)).toInt ∧ ((xI h1 104 76)).toInt ≤ 20 := vbnd G1.1.1 104 76
          have GE : mW (fun c k : Nat => ((c = 104 ∧ (k = 2 ∨ k = 54 ∨ k = 63 ∨ k = 64 ∨ k = 76)) ∨ c = 139 ∨ ((c = 133 ∨ c = 134) ∧ k < 6) ∨ ((c = 136 ∨ c = 137) ∧ k < 8) ∨ (c = 138 ∧ k = 0))) h hE := by rw [eE2]; exact ((GS.mono (fun c k z => by have z : c = 104 ∧ (k = 2 ∨ k = 63 ∨ k = 64) := z; show ((c = 104 ∧ (k = 2 ∨ k = 54 ∨ k = 63 ∨ k = 64 ∨ k = 76)) ∨ c = 139 ∨ ((c = 133 ∨ c = 134) ∧ k < 6) ∨ ((c = 136 ∨ c = 137) ∧ k < 8) ∨ (c = 138 ∧ k = 0)); omega)).tr (G1.mono (fun c k z => by have z : ((c = 104 ∧ k = 54) ∨ c = 139 ∨ ((c = 133 ∨ c = 134) ∧ 0 ≤ k ∧ k < 6) ∨ ((c = 136 ∨ c = 137) ∧ 0 ≤ k ∧ k < 8) ∨ (c = 138 ∧ k = 0)) := z; show ((c = 104 ∧ (k = 2 ∨ k = 54 ∨ k = 63 ∨ k = 64 ∨ k = 76)) ∨ c = 139 ∨ ((c = 133 ∨ c = 134) ∧ k < 6) ∨ ((c = 136 ∨ c = 137) ∧ k < 8) ∨ (c = 138 ∧ k = 0)); omega))).set (Or.inl ⟨rfl, by omega⟩) (show (0 : Int) ≤ _ ∧ _ ≤ 20 from bV)
          rw [← eE] at t10
          have oE : ∀ c k, ¬ c = 104 → xI hE c k = xI h1 c k := fun c k hc => by rw [eE2]; exact yI_c (eq_false hc)
          exact ⟨_, hE, CX_ofT (h' := hE) (by decide) rfl rfl trivial ⟨_, _, _, rfl, rfl, rfl⟩ rfl ⟨Nat.le_of_eq GE.1.2.2.2.1.symm, Nat.le_of_eq GE.1.2.2.2.2.symm⟩ t10, Or.inr ⟨⟨by omega, by omega, by omega⟩, GE, jw1.o (fun c k c1 c2 => oE c k (by omega)), ⟨fun r hr => (oE 134 _ (by decide)).trans (jy1.1 r hr), fun p hp => (oE 137 _ (by decide)).trans (jy1.2 p hp)⟩, fun z => absurd z (by omega), fun _ => by rw [eE2, yI_same, G1.k (c := 104) (k := 76) (fun z => by have z : ((104 = 104 ∧ 76 = 54) ∨ 104 = 139 ∨ ((104 = 133 ∨ 104 = 134) ∧ 0 ≤ 76 ∧ 76 < 6) ∨ ((104 = 136 ∨ 104 = 137) ∧ 0 ≤ 76 ∧ 76 < 8) ∨ (104 = 138 ∧ 76 = 0)) := z; omega)]; exact GS.k (fun z => by have z : 104 = 104 ∧ (76 = 2 ∨ 76 = 63 ∨ 76 = 64) := z; omega)⟩⟩
        · have e_0 : (0 : Int32).toInt = 0 := rfl
          have dcb7 : (0 : Int32).toInt < (n).toInt := Int32.lt_iff_toInt_lt.mp (Int32.not_le.mp cb7)
          have t11 : XT l 10 265 false 243 153 6051 53 [xf 13 104, xi n, xi i'] [] h1 75 [xf 13 104, xi n, xi i'] [xi (xI (xsetI h1 104 76 (Int32.ofInt (0))) (xR h1 104 60) ((Int32.ofInt (0))).toNatClampNeg)] (xsetI h1 104 76 (Int32.ofInt (0))) := XT_path (l := l) (fr := 10) (lo := 265) (full := false) (M := 243) (n := 153) (u := 6051) (pc := 53) (L := [xf 13 104, xi n, xi i']) (st := []) (h := h1) (inl := [192, 214, 231, 177]) (n' := 120) (sp := [75]) (o := [0]) rfl rfl ⟨rfl, rfl, rfl⟩ rfl ⟨Nat.le_of_eq G1.1.2.2.2.1, Nat.le_of_eq G1.1.2.2.2.2⟩ ⟨⟨⟨trivial, cb7⟩, (vnn G1.1.1 (rfl : vRf 104 60 = [138]) (by decide))⟩, (vp_of (i := (Int32.ofInt (0))) (n := 2) (by omega) (by omega))⟩
          rw [vref G1.1.1 (rfl : vRf 104 60 = [138])] at t11
          have t12 : XT l 10 265 false 243 153 6051 53 [xf 13 104, xi n, xi i'] [] h1 75 [xf 13 104, xi n, xi i'] [xi (xI h1 138 ((Int32.ofInt (0))).toNatClampNeg)] (xsetI h1 104 76 (Int32.ofInt (0))) := t11
          have t13 := T1.tr t12
          obtain ⟨hE, eE⟩ : ∃ x, x = (xsetI h1 104 76 (Int32.ofInt (0))) := ⟨_, rfl⟩
          have eE2 : hE = xsetI h1 104 76 (Int32.ofInt (0)) := eE
          have bV : 0 ≤ ((Int32.ofInt (0))).toInt ∧ ((Int32.ofInt (0))).toInt ≤ 20 := by decide
          have GE : mW (fun c k : Nat => ((c = 104 ∧ (k = 2 ∨ k = 54 ∨ k = 63 ∨ k = 64 ∨ k = 76)) ∨ c = 139 ∨ ((c = 133 ∨ c = 134) ∧ k < 6) ∨ ((c = 136 ∨ c = 137) ∧ k < 8) ∨ (c = 138 ∧ k = 0))) h hE := by rw [eE2]; exact ((GS.mono (fun c k z => by have z : c = 104 ∧ (k = 2 ∨ k = 63 ∨ k = 64) := z; show ((c = 104 ∧ (k = 2 ∨ k = 54 ∨ k = 63 ∨ k = 64 ∨ k = 76)) ∨ c = 139 ∨ ((c = 133 ∨ c = 134) ∧ k < 6) ∨ ((c = 136 ∨ c = 137) ∧ k < 8) ∨ (c = 138 ∧ k = 0)); omega)).tr (G1.mono (fun c k z => by have z : ((c = 104 ∧ k = 54) ∨ c = 139 ∨ ((c = 133 ∨ c = 134) ∧ 0 ≤ k ∧ k < 6) ∨ ((c = 136 ∨ c = 137) ∧ 0 ≤ k ∧ k < 8) ∨ (c = 138 ∧ k = 0)) := z; show ((c = 104 ∧ (k = 2 ∨ k = 54 ∨ k = 63 ∨ k = 64 ∨ k = 76)) ∨ c = 139 ∨ ((c = 133 ∨ c = 134) ∧ k < 6) ∨ ((c = 136 ∨ c = 137) ∧ k < 8) ∨ (c = 138 ∧ k = 0)); omega))).set (Or.inl ⟨rfl, by omega⟩) (show (0 : Int) ≤ _ ∧ _ ≤ 20 from bV)
          rw [← eE] at t13
          have oE : ∀ c k, ¬ c = 104 → xI hE c k = xI h1 c k := fun c k hc => by rw [eE2]; exact yI_c (eq_false hc)
          exact ⟨_, hE, CX_ofT (h' := hE) (by decide) rfl rfl trivial ⟨_, _, _, rfl, rfl, rfl⟩ rfl ⟨Nat.le_of_eq GE.1.2.2.2.1.symm, Nat.le_of_eq GE.1.2.2.2.2.symm⟩ t13, Or.inr ⟨⟨by omega, by omega, by omega⟩, GE, jw1.o (fun c k c1 c2 => oE c k (by omega)), ⟨fun r hr => (oE 134 _ (by decide)).trans (jy1.1 r hr), fun p hp => (oE 137 _ (by decide)).trans (jy1.2 p hp)⟩, fun _ => by rw [eE2, yI_same], fun z => absurd z (by omega)⟩⟩
      · have e_0 : (Int32.ofInt (0)).toInt = 0 := rfl
        have e_9999 : (Int32.ofInt (9999)).toInt = 9999 := rfl
        have cb5r := cb5
        rw [vref hg.1 (rfl : vRf 104 60 = [138])] at cb5r
        have dcb5 : (Int32.ofInt (9999)).toInt < ((xI h 138 ((Int32.ofInt (0))).toNatClampNeg) + n).toInt := Int32.lt_iff_toInt_lt.mp (Int32.not_le.mp cb5r)
        rw [show (xI h 138 (Int32.ofInt (0)).toNatClampNeg + n) = S from hS9.symm] at dcb5
        have t14 : XT l 10 265 false 243 153 6051 0 [xf 13 104, xi n, xun] [] h 30 [xf 13 104, xi n, xun] [xi (Int32.ofInt (-1))] (xsetI h 104 2 (Int32.ofInt (0))) := XT_path (l := l) (fr := 10) (lo := 265) (full := false) (M := 243) (n := 153) (u := 6051) (pc := 0) (L := [xf 13 104, xi n, xun]) (st := []) (h := h) (inl := [192, 214, 231, 177]) (n' := 120) (sp := [30]) (o := [0, 0, 0, 0]) rfl rfl ⟨rfl, rfl, rfl⟩ rfl ⟨Nat.le_of_eq hg.2.2.2.1, Nat.le_of_eq hg.2.2.2.2⟩ ⟨⟨⟨⟨⟨⟨⟨trivial, cb1⟩, cb3⟩, (Or.inr rfl)⟩, (show ¬ (Int32.ofInt (1)) = 0 from by decide)⟩, (vnn hg.1 (rfl : vRf 104 60 = [138]) (by decide))⟩, (vp_of (i := (Int32.ofInt (0))) (n := 2) (by omega) (by omega))⟩, cb5⟩
        obtain ⟨hS, eS⟩ : ∃ x, x = (xsetI h 104 2 (Int32.ofInt (0))) := ⟨_, rfl⟩
        have GS : mW (fun c k : Nat => (c = 104 ∧ k = 2)) h hS := by rw [eS]; exact (mW.rf hg).set ⟨rfl, rfl⟩ (by show (0 : Int) ≤ _ ∧ _ ≤ 2; decide)
        rw [← eS] at t14
        exact ⟨_, hS, CX_ofT (h' := hS) (by decide) rfl rfl trivial ⟨_, _, _, rfl, rfl, rfl⟩ rfl ⟨Nat.le_of_eq GS.1.2.2.2.1.symm, Nat.le_of_eq GS.1.2.2.2.2.symm⟩ t14, Or.inl ⟨fun z => by obtain ⟨z1, z2, z3⟩ := z; omega, GS⟩⟩
