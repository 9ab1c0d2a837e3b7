/-! THE CLASS'S SEASON: reaped, closed. -/
theorem kW.same {w c : Nat} {Z : Nat → Int} {Y X : Nat → Int32} {h : XH} (a : kW w c Z Y h) (B : zcB Z) (e : ∀ i, (i < 10 ∨ (16 ≤ i ∧ i < 40) ∨ 48 ≤ i) → X i = Y i) : kW w c Z X h := by
  obtain ⟨⟨-, B0⟩, -, ⟨-, B2⟩, -⟩ := B
  obtain ⟨a1, a2, a3, a4, a5, a6⟩ := a
  refine ⟨fun r hr => by rw [e r (by omega)]; exact a1 r hr, fun p hp => by rw [e (20 + p) (by omega), e (30 + p) (by omega)]; exact a2 p hp, by rw [e 50 (by decide)]; exact a3, by rw [e 51 (by decide)]; exact a4, fun z => by rw [e 51 (by decide)] at z; rw [e 52 (by decide)]; exact a5 z, a6⟩
theorem zRp_o {Z : Nat → Int} {Y : Nat → Int32} (B : zcB Z) (i : Nat) (hi : i < 10 ∨ (16 ≤ i ∧ i < 40) ∨ 48 ≤ i) : zRp Z Y i = Y i := by
  obtain ⟨⟨-, B0⟩, -, ⟨-, B2⟩, -⟩ := B
  exact (if_neg (by omega)).trans (if_neg (by omega))
/-- closed: but for the row of who is called, and the season -/
def mC (w : Nat) (h h' : XH) : Prop := mQ [w, w + 5] h h' ∧ ∀ k, ¬ k = 7 → xI h' w k = xI h w k
theorem kY.sm {w : Nat} {Z : Nat → Int} {Y X : Nat → Int32} {h : XH} (a : kY w Z Y h) (B : zcB Z) (e : ∀ i, (10 ≤ i ∧ i < 16) ∨ (40 ≤ i ∧ i < 48) → X i = Y i) : kY w Z X h := by
  obtain ⟨⟨-, B0⟩, -, ⟨-, B2⟩, -⟩ := B
  exact ⟨fun r hr => by rw [e (10 + r) (by omega)]; exact a.1 r hr, fun p hp => by rw [e (40 + p) (by omega)]; exact a.2 p hp⟩
set_option maxRecDepth 100000 in
set_option maxHeartbeats 4000000 in
theorem ck_yieldOf48_3 (l : Launch) (Z : Nat → Int) (Y : Nat → Int32) (rr : Int32) (r : Nat) (h : XH) (hg : mI h) (A : zAll Z) (kt : kTx 3 Z h) (kw : kW 48 3 Z Y h) (V : zVd Z Y) (kd : kD 48 Z Y h) (ke : kE 48 Z Y h) (hr : rr.toInt = r) (lr : (r : Int) < Z 0) : ∃ v h', CX l 4 97 false 81 [xf 11 48, xi rr] h [xi v] h' ∧ mX h h' ∧ v = Int32.ofInt (zYb Z Y r (Y r).toInt (zTs Z Y r).toInt) := by
  obtain ⟨⟨⟨B00, B01⟩, ⟨B10, B11⟩, ⟨B20, B21⟩, B30, B31⟩, g6, zj, zv, LW⟩ := id A
  have r0 : xR h 48 0 = 3 := kw.2.2.2.2.2
  have nr : rr.toNatClampNeg = r := zi_ix hr
  have bs := V.1 r lr
  have eS : xI h 49 rr.toNatClampNeg = Y r := by rw [nr]; exact kw.1 r lr
  have eT : xI h 55 rr.toNatClampNeg = zTs Z Y r := by rw [nr]; exact kd.2 r lr
  have t1 : XT l 4 97 false 81 153 6051 0 [xf 11 48, xi rr] [] h 14 [xf 11 48, xi rr] [xi (xI h (xR h 48 8) (rr).toNatClampNeg), xi (xI h (xR h 48 1) (rr).toNatClampNeg), xi rr, xf 11 48] h := XT_path (l := l) (fr := 4) (lo := 97) (full := false) (M := 81) (n := 153) (u := 6051) (pc := 0) (L := [xf 11 48, xi rr]) (st := []) (h := h) (inl := []) (n' := 60) (sp := [14]) (o := []) rfl rfl ⟨rfl, rfl, rfl⟩ rfl ⟨Nat.le_of_eq hg.2.2.2.1, Nat.le_of_eq hg.2.2.2.2⟩ ⟨⟨⟨⟨trivial, (vnn hg.1 (rfl : vRf 48 1 = [49]) (by decide))⟩, (vp_of (i := rr) (n := 6) (by omega) (by omega))⟩, (vnn hg.1 (rfl : vRf 48 8 = [55]) (by decide))⟩, (vp_of (i := rr) (n := 6) (by omega) (by omega))⟩
  rw [vref hg.1 (rfl : vRf 48 8 = [55]), vref hg.1 (rfl : vRf 48 1 = [49])] at t1
  obtain ⟨v, h1, c1, g1, z1⟩ := ck_yieldBy48_3 l Z Y rr (xI h 49 (rr).toNatClampNeg) (xI h 55 (rr).toNatClampNeg) r h hg A kt kw ke hr lr (by rw [eS]; omega)
  rw [eS, eT] at z1
  have t2 : XT l 4 97 false 81 153 6051 14 [xf 11 48, xi rr] [xi (xI h 55 (rr).toNatClampNeg), xi (xI h 49 (rr).toNatClampNeg), xi rr, xf 11 48] h 17 [xf 11 48, xi rr] [xi v] h1 := XT_call (l := l) (fr := 4) (lo := 97) (full := false) (M := 81) (n := 153) (u := 6051) (pc := 14) (L := [xf 11 48, xi rr]) (st := [xi (xI h 55 (rr).toNatClampNeg), xi (xI h 49 (rr).toNatClampNeg), xi rr, xf 11 48]) (h := h) (i := .invokevirtual 82) (aux := 4) (nx := 17) (K := 82) (vs := [xf 11 48, xi rr, xi (xI h 49 (rr).toNatClampNeg), xi (xI h 55 (rr).toNatClampNeg)]) (rs := [xi v]) (rest := []) rfl rfl rfl rfl rfl rfl c1 (by decide) (by decide) (Nat.le_of_ble_eq_true rfl) ⟨Nat.le_of_eq g1.1.2.2.2.1, Nat.le_of_eq g1.1.2.2.2.2⟩
  have t3 := t1.tr t2
  exact ⟨v, h1, CX_ofT (h' := h1) (by decide) rfl rfl trivial ⟨_, _, _, rfl, rfl, rfl⟩ rfl ⟨Nat.le_of_eq g1.1.2.2.2.1.symm, Nat.le_of_eq g1.1.2.2.2.2.symm⟩ t3, g1, i32_e z1⟩
set_option maxRecDepth 100000 in
set_option maxHeartbeats 4000000 in
theorem ck_yieldOf48_24 (l : Launch) (Z : Nat → Int) (Y : Nat → Int32) (rr : Int32) (r : Nat) (h : XH) (hg : mI h) (A : zAll Z) (kt : kTx 24 Z h) (kw : kW 48 24 Z Y h) (V : zVd Z Y) (kd : kD 48 Z Y h) (ke : kE 48 Z Y h) (hr : rr.toInt = r) (lr : (r : Int) < Z 0) : ∃ v h', CX l 4 97 false 81 [xf 11 48, xi rr] h [xi v] h' ∧ mX h h' ∧ v = Int32.ofInt (zYb Z Y r (Y r).toInt (zTs Z Y r).toInt) := by
  obtain ⟨⟨⟨B00, B01⟩, ⟨B10, B11⟩, ⟨B20, B21⟩, B30, B31⟩, g6, zj, zv, LW⟩ := id A
  have r0 : xR h 48 0 = 24 := kw.2.2.2.2.2
  have nr : rr.toNatClampNeg = r := zi_ix hr
  have bs := V.1 r lr
  have eS : xI h 49 rr.toNatClampNeg = Y r := by rw [nr]; exact kw.1 r lr
  have eT : xI h 55 rr.toNatClampNeg = zTs Z Y r := by rw [nr]; exact kd.2 r lr
  have t1 : XT l 4 97 false 81 153 6051 0 [xf 11 48, xi rr] [] h 14 [xf 11 48, xi rr] [xi (xI h (xR h 48 8) (rr).toNatClampNeg), xi (xI h (xR h 48 1) (rr).toNatClampNeg), xi rr, xf 11 48] h := XT_path (l := l) (fr := 4) (lo := 97) (full := false) (M := 81) (n := 153) (u := 6051) (pc := 0) (L := [xf 11 48, xi rr]) (st := []) (h := h) (inl := []) (n' := 60) (sp := [14]) (o := []) rfl rfl ⟨rfl, rfl, rfl⟩ rfl ⟨Nat.le_of_eq hg.2.2.2.1, Nat.le_of_eq hg.2.2.2.2⟩ ⟨⟨⟨⟨trivial, (vnn hg.1 (rfl : vRf 48 1 = [49]) (by decide))⟩, (vp_of (i := rr) (n := 6) (by omega) (by omega))⟩, (vnn hg.1 (rfl : vRf 48 8 = [55]) (by decide))⟩, (vp_of (i := rr) (n := 6) (by omega) (by omega))⟩
  rw [vref hg.1 (rfl : vRf 48 8 = [55]), vref hg.1 (rfl : vRf 48 1 = [49])] at t1
  obtain ⟨v, h1, c1, g1, z1⟩ := ck_yieldBy48_24 l Z Y rr (xI h 49 (rr).toNatClampNeg) (xI h 55 (rr).toNatClampNeg) r h hg A kt kw ke hr lr (by rw [eS]; omega)
  rw [eS, eT] at z1
  have t2 : XT l 4 97 false 81 153 6051 14 [xf 11 48, xi rr] [xi (xI h 55 (rr).toNatClampNeg), xi (xI h 49 (rr).toNatClampNeg), xi rr, xf 11 48] h 17 [xf 11 48, xi rr] [xi v] h1 := XT_call (l := l) (fr := 4) (lo := 97) (full := false) (M := 81) (n := 153) (u := 6051) (pc := 14) (L := [xf 11 48, xi rr]) (st := [xi (xI h 55 (rr).toNatClampNeg), xi (xI h 49 (rr).toNatClampNeg), xi rr, xf 11 48]) (h := h) (i := .invokevirtual 82) (aux := 4) (nx := 17) (K := 82) (vs := [xf 11 48, xi rr, xi (xI h 49 (rr).toNatClampNeg), xi (xI h 55 (rr).toNatClampNeg)]) (rs := [xi v]) (rest := []) rfl rfl rfl rfl rfl rfl c1 (by decide) (by decide) (Nat.le_of_ble_eq_true rfl) ⟨Nat.le_of_eq g1.1.2.2.2.1, Nat.le_of_eq g1.1.2.2.2.2⟩
  have t3 := t1.tr t2
  exact ⟨v, h1, CX_ofT (h' := h1) (by decide) rfl rfl trivial ⟨_, _, _, rfl, rfl, rfl⟩ rfl ⟨Nat.le_of_eq g1.1.2.2.2.1.symm, Nat.le_of_eq g1.1.2.2.2.2.symm⟩ t3, g1, i32_e z1⟩
set_option maxRecDepth 100000 in
set_option maxHeartbeats 4000000 in
theorem ck_yieldOf59_3 (l : Launch) (Z : Nat → Int) (Y : Nat → Int32) (rr : Int32) (r : Nat) (h : XH) (hg : mI h) (A : zAll Z) (kt : kTx 3 Z h) (kw : kW 59 3 Z Y h) (V : zVd Z Y) (kd : kD 59 Z Y h) (ke : kE 59 Z Y h) (hr : rr.toInt = r) (lr : (r : Int) < Z 0) : ∃ v h', CX l 4 97 false 81 [xf 11 59, xi rr] h [xi v] h' ∧ mX h h' ∧ v = Int32.ofInt (zYb Z Y r (Y r).toInt (zTs Z Y r).toInt) := by
  obtain ⟨⟨⟨B00, B01⟩, ⟨B10, B11⟩, ⟨B20, B21⟩, B30, B31⟩, g6, zj, zv, LW⟩ := id A
  have r0 : xR h 59 0 = 3 := kw.2.2.2.2.2
  have nr : rr.toNatClampNeg = r := zi_ix hr
  have bs := V.1 r lr
  have eS : xI h 60 rr.toNatClampNeg = Y r := by rw [nr]; exact kw.1 r lr
  have eT : xI h 66 rr.toNatClampNeg = zTs Z Y r := by rw [nr]; exact kd.2 r lr
  have t1 : XT l 4 97 false 81 153 6051 0 [xf 11 59, xi rr] [] h 14 [xf 11 59, xi rr] [xi (xI h (xR h 59 8) (rr).toNatClampNeg), xi (xI h (xR h 59 1) (rr).toNatClampNeg), xi rr, xf 11 59] h := XT_path (l := l) (fr := 4) (lo := 97) (full := false) (M := 81) (n := 153) (u := 6051) (pc := 0) (L := [xf 11 59, xi rr]) (st := []) (h := h) (inl := []) (n' := 60) (sp := [14]) (o := []) rfl rfl ⟨rfl, rfl, rfl⟩ rfl ⟨Nat.le_of_eq hg.2.2.2.1, Nat.le_of_eq hg.2.2.2.2⟩ ⟨⟨⟨⟨trivial, (vnn hg.1 (rfl : vRf 59 1 = [60]) (by decide))⟩, (vp_of (i := rr) (n := 6) (by omega) (by omega))⟩, (vnn hg.1 (rfl : vRf 59 8 = [66]) (by decide))⟩, (vp_of (i := rr) (n := 6) (by omega) (by omega))⟩
  rw [vref hg.1 (rfl : vRf 59 8 = [66]), vref hg.1 (rfl : vRf 59 1 = [60])] at t1
  obtain ⟨v, h1, c1, g1, z1⟩ := ck_yieldBy59_3 l Z Y rr (xI h 60 (rr).toNatClampNeg) (xI h 66 (rr).toNatClampNeg) r h hg A kt kw ke hr lr (by rw [eS]; omega)
  rw [eS, eT] at z1
  have t2 : XT l 4 97 false 81 153 6051 14 [xf 11 59, xi rr] [xi (xI h 66 (rr).toNatClampNeg), xi (xI h 60 (rr).toNatClampNeg), xi rr, xf 11 59] h 17 [xf 11 59, xi rr] [xi v] h1 := XT_call (l := l) (fr := 4) (lo := 97) (full := false) (M := 81) (n := 153) (u := 6051) (pc := 14) (L := [xf 11 59, xi rr]) (st := [xi (xI h 66 (rr).toNatClampNeg), xi (xI h 60 (rr).toNatClampNeg), xi rr, xf 11 59]) (h := h) (i := .invokevirtual 82) (aux := 4) (nx := 17) (K := 82) (vs := [xf 11 59, xi rr, xi (xI h 60 (rr).toNatClampNeg), xi (xI h 66 (rr).toNatClampNeg)]) (rs := [xi v]) (rest := []) rfl rfl rfl rfl rfl rfl c1 (by decide) (by decide) (Nat.le_of_ble_eq_true rfl) ⟨Nat.le_of_eq g1.1.2.2.2.1, Nat.le_of_eq g1.1.2.2.2.2⟩
  have t3 := t1.tr t2
  exact ⟨v, h1, CX_ofT (h' := h1) (by decide) rfl rfl trivial ⟨_, _, _, rfl, rfl, rfl⟩ rfl ⟨Nat.le_of_eq g1.1.2.2.2.1.symm, Nat.le_of_eq g1.1.2.2.2.2.symm⟩ t3, g1, i32_e z1⟩
set_option maxRecDepth 100000 in
set_option maxHeartbeats 4000000 in
theorem ck_yieldOf59_24 (l : Launch) (Z : Nat → Int) (Y : Nat → Int32) (rr : Int32) (r : Nat) (h : XH) (hg : mI h) (A : zAll Z) (kt : kTx 24 Z h) (kw : kW 59 24 Z Y h) (V : zVd Z Y) (kd : kD 59 Z Y h) (ke : kE 59 Z Y h) (hr : rr.toInt = r) (lr : (r : Int) < Z 0) : ∃ v h', CX l 4 97 false 81 [xf 11 59, xi rr] h [xi v] h' ∧ mX h h' ∧ v = Int32.ofInt (zYb Z Y r (Y r).toInt (zTs Z Y r).toInt) := by
  obtain ⟨⟨⟨B00, B01⟩, ⟨B10, B11⟩, ⟨B20, B21⟩, B30, B31⟩, g6, zj, zv, LW⟩ := id A
  have r0 : xR h 59 0 = 24 := kw.2.2.2.2.2
  have nr : rr.toNatClampNeg = r := zi_ix hr
  have bs := V.1 r lr
  have eS : xI h 60 rr.toNatClampNeg = Y r := by rw [nr]; exact kw.1 r lr
  have eT : xI h 66 rr.toNatClampNeg = zTs Z Y r := by rw [nr]; exact kd.2 r lr
  have t1 : XT l 4 97 false 81 153 6051 0 [xf 11 59, xi rr] [] h 14 [xf 11 59, xi rr] [xi (xI h (xR h 59 8) (rr).toNatClampNeg), xi (xI h (xR h 59 1) (rr).toNatClampNeg), xi rr, xf 11 59] h := XT_path (l := l) (fr := 4) (lo := 97) (full := false) (M := 81) (n := 153) (u := 6051) (pc := 0) (L := [xf 11 59, xi rr]) (st := []) (h := h) (inl := []) (n' := 60) (sp := [14]) (o := []) rfl rfl ⟨rfl, rfl, rfl⟩ rfl ⟨Nat.le_of_eq hg.2.2.2.1, Nat.le_of_eq hg.2.2.2.2⟩ ⟨⟨⟨⟨trivial, (vnn hg.1 (rfl : vRf 59 1 = [60]) (by decide))⟩, (vp_of (i := rr) (n := 6) (by omega) (by omega))⟩, (vnn hg.1 (rfl : vRf 59 8 = [66]) (by decide))⟩, (vp_of (i := rr) (n := 6) (by omega) (by omega))⟩
  rw [vref hg.1 (rfl : vRf 59 8 = [66]), vref hg.1 (rfl : vRf 59 1 = [60])] at t1
  obtain ⟨v, h1, c1, g1, z1⟩ := ck_yieldBy59_24 l Z Y rr (xI h 60 (rr).toNatClampNeg) (xI h 66 (rr).toNatClampNeg) r h hg A kt kw ke hr lr (by rw [eS]; omega)
  rw [eS, eT] at z1
  have t2 : XT l 4 97 false 81 153 6051 14 [xf 11 59, xi rr] [xi (xI h 66 (rr).toNatClampNeg), xi (xI h 60 (rr).toNatClampNeg), xi rr, xf 11 59] h 17 [xf 11 59, xi rr] [xi v] h1 := XT_call (l := l) (fr := 4) (lo := 97) (full := false) (M := 81) (n := 153) (u := 6051) (pc := 14) (L := [xf 11 59, xi rr]) (st := [xi (xI h 66 (rr).toNatClampNeg), xi (xI h 60 (rr).toNatClampNeg), xi rr, xf 11 59]) (h := h) (i := .invokevirtual 82) (aux := 4) (nx := 17) (K := 82) (vs := [xf 11 59, xi rr, xi (xI h 60 (rr).toNatClampNeg), xi (xI h 66 (rr).toNatClampNeg)]) (rs := [xi v]) (rest := []) rfl rfl rfl rfl rfl rfl c1 (by decide) (by decide) (Nat.le_of_ble_eq_true rfl) ⟨Nat.le_of_eq g1.1.2.2.2.1, Nat.le_of_eq g1.1.2.2.2.2⟩
  have t3 := t1.tr t2
  exact ⟨v, h1, CX_ofT (h' := h1) (by decide) rfl rfl trivial ⟨_, _, _, rfl, rfl, rfl⟩ rfl ⟨Nat.le_of_eq g1.1.2.2.2.1.symm, Nat.le_of_eq g1.1.2.2.2.2.symm⟩ t3, g1, i32_e z1⟩
set_option maxRecDepth 100000 in
set_option maxHeartbeats 4000000 in
theorem ck_reapA48_3 (l : Launch) (Z : Nat → Int) (Y : Nat → Int32) (h : XH) (hg : mI h) (A : zAll Z) (kt : kTx 3 Z h) (kw : kW 48 3 Z Y h) (V : zVd Z Y) (kd : kD 48 Z Y h) (ke : kE 48 Z Y h) : ∀ (m k : Nat) (kk : Int32) (h1 : XH), mQ [50] h h1 → kk.toInt = k → (k : Int) + m = Z 0 → (∀ r : Nat, r < k → xI h1 50 r = zRp Z Y (10 + r)) → (∀ r : Nat, k ≤ r → (r : Int) < Z 0 → xI h1 50 r = Y (10 + r)) → ∃ k2 h2, XT l 5 118 false 101 153 6051 2 [xf 11 48, xi kk] [] h1 33 [xf 11 48, xi k2] [] h2 ∧ mQ [50] h h2 ∧ (∀ r : Nat, (r : Int) < Z 0 → xI h2 50 r = zRp Z Y (10 + r))
  | 0, k, kk, h1, G, hk, hm, I1, I2 => by
    obtain ⟨⟨⟨B00, B01⟩, ⟨B10, B11⟩, ⟨B20, B21⟩, B30, B31⟩, g6, zj, zv, LW⟩ := id A
    have r0 : xR h1 48 0 = 3 := (G.2.2 48 0).trans kw.2.2.2.2.2
    have hg1 := G.1
    have ej : (xI h1 3 0).toInt = Z 0 := by rw [G.2.1 3 0 (by decide)]; exact kt.1.1 0 (by decide)
    have t1 : XT l 5 118 false 101 153 6051 2 [xf 11 48, xi kk] [] h1 33 [xf 11 48, xi kk] [] h1 := XT_path (l := l) (fr := 5) (lo := 118) (full := false) (M := 101) (n := 153) (u := 6051) (pc := 2) (L := [xf 11 48, xi kk]) (st := []) (h := h1) (inl := []) (n' := 120) (sp := [33]) (o := [1]) rfl rfl ⟨rfl, rfl, rfl⟩ rfl ⟨Nat.le_of_eq hg1.2.2.2.1, Nat.le_of_eq hg1.2.2.2.2⟩ ⟨⟨trivial, (show ¬ xR h1 48 0 = 0 from by rw [r0]; decide)⟩, (show (xI h1 (xR h1 48 0) 0) ≤ kk from by rw [r0]; exact Int32.le_iff_toInt_le.mpr (by omega))⟩
    obtain rfl : k = (Z 0).toNat := by omega
    exact ⟨kk, h1, t1, G, fun r hr => I1 r (by omega)⟩
  | m + 1, k, kk, h1, G, hk, hm, I1, I2 => by
    obtain ⟨⟨⟨B00, B01⟩, ⟨B10, B11⟩, ⟨B20, B21⟩, B30, B31⟩, g6, zj, zv, LW⟩ := id A
    have r0 : xR h1 48 0 = 3 := (G.2.2 48 0).trans kw.2.2.2.2.2
    have hg1 := G.1
    have ej : (xI h1 3 0).toInt = Z 0 := by rw [G.2.1 3 0 (by decide)]; exact kt.1.1 0 (by decide)
    have lk : (k : Int) < Z 0 := by omega
    have nk : kk.toNatClampNeg = k := zi_ix hk
    have sk := y_suc1 (k := kk) (by omega) (by omega)
    have t1 : XT l 5 118 false 101 153 6051 2 [xf 11 48, xi kk] [] h1 22 [xf 11 48, xi kk] [xi kk, xf 11 48, xi (xI h1 (xR h1 48 2) (kk).toNatClampNeg), xi kk, xf 10006 (xR h1 48 2)] h1 := XT_path (l := l) (fr := 5) (lo := 118) (full := false) (M := 101) (n := 153) (u := 6051) (pc := 2) (L := [xf 11 48, xi kk]) (st := []) (h := h1) (inl := []) (n' := 120) (sp := [22]) (o := [0]) rfl rfl ⟨rfl, rfl, rfl⟩ rfl ⟨Nat.le_of_eq hg1.2.2.2.1, Nat.le_of_eq hg1.2.2.2.2⟩ ⟨⟨⟨⟨trivial, (show ¬ xR h1 48 0 = 0 from by rw [r0]; decide)⟩, (show ¬ (xI h1 (xR h1 48 0) 0) ≤ kk from by rw [r0]; exact fun z => absurd (Int32.le_iff_toInt_le.mp z) (by omega))⟩, (vnn hg1.1 (rfl : vRf 48 2 = [50]) (by decide))⟩, (vp_of (i := kk) (n := 6) (by omega) (by omega))⟩
    rw [vref hg1.1 (rfl : vRf 48 2 = [50])] at t1
    obtain ⟨v, h2, c1, g1, ev⟩ := ck_yieldOf48_3 l Z Y kk k h1 hg1 A (kt.q G (by decide)) (kw.q G (by decide)) V (kd.q G (by decide)) (ke.q G (by decide)) hk lk
    have t2 : XT l 5 118 false 101 153 6051 22 [xf 11 48, xi kk] [xi kk, xf 11 48, xi (xI h1 50 (kk).toNatClampNeg), xi kk, xf 10006 50] h1 25 [xf 11 48, xi kk] [xi v, xi (xI h1 50 (kk).toNatClampNeg), xi kk, xf 10006 50] h2 := XT_call (l := l) (fr := 5) (lo := 118) (full := false) (M := 101) (n := 153) (u := 6051) (pc := 22) (L := [xf 11 48, xi kk]) (st := [xi kk, xf 11 48, xi (xI h1 50 (kk).toNatClampNeg), xi kk, xf 10006 50]) (h := h1) (i := .invokevirtual 81) (aux := 2) (nx := 25) (K := 81) (vs := [xf 11 48, xi kk]) (rs := [xi v]) (rest := [xi (xI h1 50 (kk).toNatClampNeg), xi kk, xf 10006 50]) rfl rfl rfl rfl rfl rfl c1 (by decide) (by decide) (Nat.le_of_ble_eq_true rfl) ⟨Nat.le_of_eq g1.1.2.2.2.1, Nat.le_of_eq g1.1.2.2.2.2⟩
    have t3 := t1.tr t2
    have t4 : XT l 5 118 false 101 153 6051 25 [xf 11 48, xi kk] [xi v, xi (xI h1 50 (kk).toNatClampNeg), xi kk, xf 10006 50] h2 2 [xf 11 48, xi (kk + Int32.ofInt (1))] [] (xsetI h2 50 (kk).toNatClampNeg ((xI h1 50 (kk).toNatClampNeg) + v)) := XT_path (l := l) (fr := 5) (lo := 118) (full := false) (M := 101) (n := 153) (u := 6051) (pc := 25) (L := [xf 11 48, xi kk]) (st := [xi v, xi (xI h1 50 (kk).toNatClampNeg), xi kk, xf 10006 50]) (h := h2) (inl := []) (n' := 120) (sp := [2]) (o := []) rfl rfl ⟨rfl, rfl, rfl⟩ rfl ⟨Nat.le_of_eq g1.1.2.2.2.1, Nat.le_of_eq g1.1.2.2.2.2⟩ ⟨trivial, (vp_of (i := kk) (n := 6) (by omega) (by omega))⟩
    have t5 := t3.tr t4
    obtain ⟨hE, eE⟩ : ∃ x, x = (xsetI h2 50 (kk).toNatClampNeg ((xI h1 50 (kk).toNatClampNeg) + v)) := ⟨_, rfl⟩
    have eE2 : hE = xsetI h2 50 k (xI h1 50 k + v) := by rw [eE]; simp only [nk]
    rw [← eE] at t5
    have GE : mQ [50] h hE := by rw [eE2]; exact (G.tr g1.q).set (by decide) (by rw [vI_u rfl (rfl : vRow 50 = sfull)]; exact i32r_of _)
    obtain ⟨k3, h9, t9, G9, I9⟩ := ck_reapA48_3 l Z Y h hg A kt kw V kd ke m (k + 1) (kk + Int32.ofInt (1)) hE GE (by omega) (by omega) (fun r hr => by rw [eE2]; exact if e : r = k then (by rw [e, yI_same, zRp_y lk, I2 k (Nat.le_refl _) lk, ev]) else (by rw [yI_ne (eq_false (fun z => e z.2)), g1.2.1]; exact I1 r (by omega))) (fun r q1 q2 => by rw [eE2, yI_ne (eq_false (fun z => by have := z.2; omega)), g1.2.1]; exact I2 r (by omega) q2)
    exact ⟨k3, h9, t5.tr t9, G9, I9⟩
set_option maxRecDepth 100000 in
set_option maxHeartbeats 4000000 in
theorem ck_reapB48_3 (l : Launch) (Z : Nat → Int) (Y : Nat → Int32) (h : XH) (hg : mI h) (A : zAll Z) (kt : kTx 3 Z h) (kw : kW 48 3 Z Y h) (V : zVd Z Y) : ∀ (m k : Nat) (kk : Int32) (h1 : XH), mQ [54] h h1 → kk.toInt = k → (k : Int) + m = Z 2 → (∀ r : Nat, r < k → xI h1 54 r = zRp Z Y (40 + r)) → (∀ r : Nat, k ≤ r → (r : Int) < Z 2 → xI h1 54 r = Y (40 + r)) → ∃ k2 h2, XT l 5 118 false 101 153 6051 35 [xf 11 48, xi kk] [] h1 85 [xf 11 48, xi k2] [] h2 ∧ mQ [54] h h2 ∧ (∀ r : Nat, (r : Int) < Z 2 → xI h2 54 r = zRp Z Y (40 + r))
  | 0, k, kk, h1, G, hk, hm, I1, I2 => by
    obtain ⟨⟨⟨B00, B01⟩, ⟨B10, B11⟩, ⟨B20, B21⟩, B30, B31⟩, g6, zj, zv, LW⟩ := id A
    have r0 : xR h1 48 0 = 3 := (G.2.2 48 0).trans kw.2.2.2.2.2
    have hg1 := G.1
    have ej : (xI h1 3 9).toInt = Z 2 := by rw [G.2.1 3 9 (by decide)]; exact kt.1.1 2 (by decide)
    have t1 : XT l 5 118 false 101 153 6051 35 [xf 11 48, xi kk] [] h1 85 [xf 11 48, xi kk] [] h1 := XT_path (l := l) (fr := 5) (lo := 118) (full := false) (M := 101) (n := 153) (u := 6051) (pc := 35) (L := [xf 11 48, xi kk]) (st := []) (h := h1) (inl := []) (n' := 120) (sp := [85]) (o := [1]) rfl rfl ⟨rfl, rfl, rfl⟩ rfl ⟨Nat.le_of_eq hg1.2.2.2.1, Nat.le_of_eq hg1.2.2.2.2⟩ ⟨⟨trivial, (show ¬ xR h1 48 0 = 0 from by rw [r0]; decide)⟩, (show (xI h1 (xR h1 48 0) 9) ≤ kk from by rw [r0]; exact Int32.le_iff_toInt_le.mpr (by omega))⟩
    obtain rfl : k = (Z 2).toNat := by omega
    exact ⟨kk, h1, t1, G, fun r hr => I1 r (by omega)⟩
  | m + 1, k, kk, h1, G, hk, hm, I1, I2 => by
    obtain ⟨⟨⟨B00, B01⟩, ⟨B10, B11⟩, ⟨B20, B21⟩, B30, B31⟩, g6, zj, zv, LW⟩ := id A
    have r0 : xR h1 48 0 = 3 := (G.2.2 48 0).trans kw.2.2.2.2.2
    have hg1 := G.1
    have ej : (xI h1 3 9).toInt = Z 2 := by rw [G.2.1 3 9 (by decide)]; exact kt.1.1 2 (by decide)
    have lk : (k : Int) < Z 2 := by omega
    have nk : kk.toNatClampNeg = k := zi_ix hk
    have sk := y_suc1 (k := kk) (by omega) (by omega)
    have kt1 : kTx 3 Z h1 := kt.q G (by decide)
    have kw1 : kW 48 3 Z Y h1 := kw.q G (by decide)
    have eh := congrArg Int32.toInt (show xI h1 52 kk.toNatClampNeg = Y (20 + k) from by rw [nk]; exact (kw1.2.1 k lk).1)
    have bh := V.2.1 k lk
    obtain ⟨H, hH⟩ : ∃ H : Nat, H = (Y (20 + k)).toInt.toNat := ⟨_, rfl⟩
    have nh : (xI h1 52 kk.toNatClampNeg).toNatClampNeg = H := zi_ix (by omega)
    have es : (xI h1 49 (xI h1 52 kk.toNatClampNeg).toNatClampNeg).toInt = (Y H).toInt := by rw [nh]; exact congrArg Int32.toInt (kw1.1 H (by omega))
    have ez : (xI h1 13 kk.toNatClampNeg).toInt = Z (190 + k) := by rw [nk]; exact kt1.1.2.2 9 k (by decide) lk
    by_cases cb1 : (xI h1 (xR h1 (xR h1 48 0) 12) (kk).toNatClampNeg) ≤ (xI h1 (xR h1 48 1) ((xI h1 (xR h1 48 4) (kk).toNatClampNeg)).toNatClampNeg)
    · have cb1r := cb1
      rw [r0, vref hg1.1 (rfl : vRf 48 1 = [49]), vref hg1.1 (rfl : vRf 48 4 = [52]), vref hg1.1 (rfl : vRf 3 12 = [13])] at cb1r
      have dcb1 : (xI h1 13 (kk).toNatClampNeg).toInt ≤ (xI h1 49 ((xI h1 52 (kk).toNatClampNeg)).toNatClampNeg).toInt := Int32.le_iff_toInt_le.mp cb1r
      have t2 : XT l 5 118 false 101 153 6051 35 [xf 11 48, xi kk] [] h1 35 [xf 11 48, xi (kk + Int32.ofInt (1))] [] h1 := XT_path (l := l) (fr := 5) (lo := 118) (full := false) (M := 101) (n := 153) (u := 6051) (pc := 35) (L := [xf 11 48, xi kk]) (st := []) (h := h1) (inl := []) (n' := 120) (sp := [35]) (o := [0, 1]) rfl rfl ⟨rfl, rfl, rfl⟩ rfl ⟨Nat.le_of_eq hg1.2.2.2.1, Nat.le_of_eq hg1.2.2.2.2⟩ ⟨⟨⟨⟨⟨⟨⟨⟨⟨⟨trivial, (show ¬ xR h1 48 0 = 0 from by rw [r0]; decide)⟩, (show ¬ (xI h1 (xR h1 48 0) 9) ≤ kk from by rw [r0]; exact fun z => absurd (Int32.le_iff_toInt_le.mp z) (by omega))⟩, (show ¬ xR h1 48 0 = 0 from by rw [r0]; decide)⟩, (show ¬ xR h1 (xR h1 48 0) 12 = 0 from by rw [r0]; exact vnn hg1.1 (rfl : vRf 3 12 = [13]) (by decide))⟩, (vp_of (i := kk) (n := 8) (by omega) (by omega))⟩, (vnn hg1.1 (rfl : vRf 48 1 = [49]) (by decide))⟩, (vnn hg1.1 (rfl : vRf 48 4 = [52]) (by decide))⟩, (vp_of (i := kk) (n := 8) (by omega) (by omega))⟩, (show vp_in ((xI h1 (xR h1 48 4) (kk).toNatClampNeg)) (6) from (by rw [vref hg1.1 (rfl : vRf 48 4 = [52])]; exact (vp_of (i := (xI h1 52 (kk).toNatClampNeg)) (n := 6) (by omega) (by omega) : vp_in ((xI h1 52 (kk).toNatClampNeg)) (6))))⟩, cb1⟩
      have GE : mQ [54] h h1 := G
      have eK : xI h1 54 k = zRp Z Y (40 + k) := by rw [zRp_b B01 lk, ← hH, if_neg (by omega)]; exact I2 k (Nat.le_refl _) lk
      have eO : ∀ r : Nat, ¬ r = k → xI h1 54 r = xI h1 54 r := fun r hr => rfl
      obtain ⟨k3, h9, t9, G9, I9⟩ := ck_reapB48_3 l Z Y h hg A kt kw V m (k + 1) (kk + Int32.ofInt (1)) h1 GE (by omega) (by omega) (fun r hr => if e : r = k then (by rw [e]; exact eK) else (by rw [eO r e]; exact I1 r (by omega))) (fun r q1 q2 => by rw [eO r (by omega)]; exact I2 r (by omega) q2)
      exact ⟨k3, h9, t2.tr t9, G9, I9⟩
    · have cb1r := cb1
      rw [r0, vref hg1.1 (rfl : vRf 48 1 = [49]), vref hg1.1 (rfl : vRf 48 4 = [52]), vref hg1.1 (rfl : vRf 3 12 = [13])] at cb1r
      have dcb1 : (xI h1 49 ((xI h1 52 (kk).toNatClampNeg)).toNatClampNeg).toInt < (xI h1 13 (kk).toNatClampNeg).toInt := Int32.lt_iff_toInt_lt.mp (Int32.not_le.mp cb1r)
      have t3 : XT l 5 118 false 101 153 6051 35 [xf 11 48, xi kk] [] h1 35 [xf 11 48, xi (kk + Int32.ofInt (1))] [] (xsetI h1 (xR h1 48 6) (kk).toNatClampNeg ((xI h1 (xR h1 48 6) (kk).toNatClampNeg) + (Int32.ofInt (1)))) := XT_path (l := l) (fr := 5) (lo := 118) (full := false) (M := 101) (n := 153) (u := 6051) (pc := 35) (L := [xf 11 48, xi kk]) (st := []) (h := h1) (inl := []) (n' := 120) (sp := [35]) (o := [0, 0]) rfl rfl ⟨rfl, rfl, rfl⟩ rfl ⟨Nat.le_of_eq hg1.2.2.2.1, Nat.le_of_eq hg1.2.2.2.2⟩ ⟨⟨⟨⟨⟨⟨⟨⟨⟨⟨⟨⟨⟨trivial, (show ¬ xR h1 48 0 = 0 from by rw [r0]; decide)⟩, (show ¬ (xI h1 (xR h1 48 0) 9) ≤ kk from by rw [r0]; exact fun z => absurd (Int32.le_iff_toInt_le.mp z) (by omega))⟩, (show ¬ xR h1 48 0 = 0 from by rw [r0]; decide)⟩, (show ¬ xR h1 (xR h1 48 0) 12 = 0 from by rw [r0]; exact vnn hg1.1 (rfl : vRf 3 12 = [13]) (by decide))⟩, (vp_of (i := kk) (n := 8) (by omega) (by omega))⟩, (vnn hg1.1 (rfl : vRf 48 1 = [49]) (by decide))⟩, (vnn hg1.1 (rfl : vRf 48 4 = [52]) (by decide))⟩, (vp_of (i := kk) (n := 8) (by omega) (by omega))⟩, (show vp_in ((xI h1 (xR h1 48 4) (kk).toNatClampNeg)) (6) from (by rw [vref hg1.1 (rfl : vRf 48 4 = [52])]; exact (vp_of (i := (xI h1 52 (kk).toNatClampNeg)) (n := 6) (by omega) (by omega) : vp_in ((xI h1 52 (kk).toNatClampNeg)) (6))))⟩, cb1⟩, (vnn hg1.1 (rfl : vRf 48 6 = [54]) (by decide))⟩, (vp_of (i := kk) (n := 8) (by omega) (by omega))⟩, (vp_of (i := kk) (n := 8) (by omega) (by omega))⟩
      rw [vref hg1.1 (rfl : vRf 48 6 = [54])] at t3
      obtain ⟨hE, eE⟩ : ∃ x, x = (xsetI h1 54 (kk).toNatClampNeg ((xI h1 54 (kk).toNatClampNeg) + (Int32.ofInt (1)))) := ⟨_, rfl⟩
      have eE2 : hE = xsetI h1 54 k (xI h1 54 k + (Int32.ofInt (1))) := by rw [eE]; simp only [nk]
      have GE : mQ [54] h hE := by rw [eE2]; exact G.set (by decide) (by rw [vI_u rfl (rfl : vRow 54 = sfull)]; exact i32r_of _)
      have eK : xI hE 54 k = zRp Z Y (40 + k) := by rw [eE2, yI_same, zRp_b B01 lk, ← hH, if_pos (by omega), I2 k (Nat.le_refl _) lk]
      have eO : ∀ r : Nat, ¬ r = k → xI hE 54 r = xI h1 54 r := fun r hr => by rw [eE2]; exact yI_ne (eq_false (fun z => hr z.2))
      rw [← eE] at t3
      obtain ⟨k3, h9, t9, G9, I9⟩ := ck_reapB48_3 l Z Y h hg A kt kw V m (k + 1) (kk + Int32.ofInt (1)) hE GE (by omega) (by omega) (fun r hr => if e : r = k then (by rw [e]; exact eK) else (by rw [eO r e]; exact I1 r (by omega))) (fun r q1 q2 => by rw [eO r (by omega)]; exact I2 r (by omega) q2)
      exact ⟨k3, h9, t3.tr t9, G9, I9⟩
set_option maxRecDepth 100000 in
set_option maxHeartbeats 4000000 in
theorem ck_reap48_3 (l : Launch) (Z : Nat → Int) (Y : Nat → Int32) (h : XH) (hg : mI h) (A : zAll Z) (kt : kTx 3 Z h) (kw : kW 48 3 Z Y h) (V : zVd Z Y) (kd : kD 48 Z Y h) (ke : kE 48 Z Y h) (ky : kY 48 Z Y h) : ∃ h', CX l 5 118 false 101 [xf 11 48] h [] h' ∧ mQ [50, 54] h h' ∧ kW 48 3 Z (zRp Z Y) h' ∧ kD 48 Z (zRp Z Y) h' ∧ kE 48 Z (zRp Z Y) h' ∧ kY 48 Z (zRp Z Y) h' := by
  obtain ⟨⟨⟨B00, B01⟩, ⟨B10, B11⟩, ⟨B20, B21⟩, B30, B31⟩, g6, zj, zv, LW⟩ := id A
  have t1 : XT l 5 118 false 101 153 6051 0 [xf 11 48, xun] [] h 2 [xf 11 48, xi (Int32.ofInt (0))] [] h := XT_path (l := l) (fr := 5) (lo := 118) (full := false) (M := 101) (n := 153) (u := 6051) (pc := 0) (L := [xf 11 48, xun]) (st := []) (h := h) (inl := []) (n' := 60) (sp := [2]) (o := []) rfl rfl ⟨rfl, rfl, rfl⟩ rfl ⟨Nat.le_of_eq hg.2.2.2.1, Nat.le_of_eq hg.2.2.2.2⟩ trivial
  obtain ⟨k2, h2, u2, G2, I2⟩ := ck_reapA48_3 l Z Y h hg A kt kw V kd ke (Z 0).toNat 0 (Int32.ofInt (0)) h (mQ.rf hg) rfl (by omega) (fun r hr => absurd hr (Nat.not_lt_zero r)) (fun r _ hr => ky.1 r hr)
  have T2 := t1.tr u2
  have t2 : XT l 5 118 false 101 153 6051 33 [xf 11 48, xi k2] [] h2 35 [xf 11 48, xi (Int32.ofInt (0))] [] h2 := XT_path (l := l) (fr := 5) (lo := 118) (full := false) (M := 101) (n := 153) (u := 6051) (pc := 33) (L := [xf 11 48, xi k2]) (st := []) (h := h2) (inl := []) (n' := 60) (sp := [35]) (o := []) rfl rfl ⟨rfl, rfl, rfl⟩ rfl ⟨Nat.le_of_eq G2.1.2.2.2.1, Nat.le_of_eq G2.1.2.2.2.2⟩ trivial
  have t3 := T2.tr t2
  obtain ⟨k3, h3, u3, G3, I3⟩ := ck_reapB48_3 l Z Y h2 G2.1 A (kt.q G2 (by decide)) (kw.q G2 (by decide)) V (Z 2).toNat 0 (Int32.ofInt (0)) h2 (mQ.rf G2.1) rfl (by omega) (fun r hr => absurd hr (Nat.not_lt_zero r)) (fun r _ hr => by rw [G2.2.1 54 r (by decide)]; exact ky.2 r hr)
  have T3 := t3.tr u3
  have G : mQ [50, 54] h h3 := (G2.mono (by decide)).tr (G3.mono (by decide))
  exact ⟨h3, CX_ofT (h' := h3) (by decide) rfl rfl trivial ⟨_, _, _, rfl, rfl, rfl⟩ rfl ⟨Nat.le_of_eq G3.1.2.2.2.1.symm, Nat.le_of_eq G3.1.2.2.2.2.symm⟩ T3, G, (kw.q G (by decide)).same A.1 (zRp_o A.1), (kd.q G (by decide)).sm zv B01 (zSm_rp A.1), (ke.q G (by decide)).sm B21 (zSm_rp A.1), fun r hr => by rw [G3.2.1 50 r (by decide)]; exact I2 r hr, fun r hr => I3 r hr⟩
set_option maxRecDepth 100000 in
set_option maxHeartbeats 4000000 in
theorem ck_reapA48_24 (l : Launch) (Z : Nat → Int) (Y : Nat → Int32) (h : XH) (hg : mI h) (A : zAll Z) (kt : kTx 24 Z h) (kw : kW 48 24 Z Y h) (V : zVd Z Y) (kd : kD 48 Z Y h) (ke : kE 48 Z Y h) : ∀ (m k : Nat) (kk : Int32) (h1 : XH), mQ [50] h h1 → kk.toInt = k → (k : Int) + m = Z 0 → (∀ r : Nat, r < k → xI h1 50 r = zRp Z Y (10 + r)) → (∀ r : Nat, k ≤ r → (r : Int) < Z 0 → xI h1 50 r = Y (10 + r)) → ∃ k2 h2, XT l 5 118 false 101 153 6051 2 [xf 11 48, xi kk] [] h1 33 [xf 11 48, xi k2] [] h2 ∧ mQ [50] h h2 ∧ (∀ r : Nat, (r : Int) < Z 0 → xI h2 50 r = zRp Z Y (10 + r))
  | 0, k, kk, h1, G, hk, hm, I1, I2 => by
    obtain ⟨⟨⟨B00, B01⟩, ⟨B10, B11⟩, ⟨B20, B21⟩, B30, B31⟩, g6, zj, zv, LW⟩ := id A
    have r0 : xR h1 48 0 = 24 := (G.2.2 48 0).trans kw.2.2.2.2.2
    have hg1 := G.1
    have ej : (xI h1 24 0).toInt = Z 0 := by rw [G.2.1 24 0 (by decide)]; exact kt.1.1 0 (by decide)
    have t1 : XT l 5 118 false 101 153 6051 2 [xf 11 48, xi kk] [] h1 33 [xf 11 48, xi kk] [] h1 := XT_path (l := l) (fr := 5) (lo := 118) (full := false) (M := 101) (n := 153) (u := 6051) (pc := 2) (L := [xf 11 48, xi kk]) (st := []) (h := h1) (inl := []) (n' := 120) (sp := [33]) (o := [1]) rfl rfl ⟨rfl, rfl, rfl⟩ rfl ⟨Nat.le_of_eq hg1.2.2.2.1, Nat.le_of_eq hg1.2.2.2.2⟩ ⟨⟨trivial, (show ¬ xR h1 48 0 = 0 from by rw [r0]; decide)⟩, (show (xI h1 (xR h1 48 0) 0) ≤ kk from by rw [r0]; exact Int32.le_iff_toInt_le.mpr (by omega))⟩
    obtain rfl : k = (Z 0).toNat := by omega
    exact ⟨kk, h1, t1, G, fun r hr => I1 r (by omega)⟩
  | m + 1, k, kk, h1, G, hk, hm, I1, I2 => by
    obtain ⟨⟨⟨B00, B01⟩, ⟨B10, B11⟩, ⟨B20, B21⟩, B30, B31⟩, g6, zj, zv, LW⟩ := id A
    have r0 : xR h1 48 0 = 24 := (G.2.2 48 0).trans kw.2.2.2.2.2
    have hg1 := G.1
    have ej : (xI h1 24 0).toInt = Z 0 := by rw [G.2.1 24 0 (by decide)]; exact kt.1.1 0 (by decide)
    have lk : (k : Int) < Z 0 := by omega
    have nk : kk.toNatClampNeg = k := zi_ix hk
    have sk := y_suc1 (k := kk) (by omega) (by omega)
    have t1 : XT l 5 118 false 101 153 6051 2 [xf 11 48, xi kk] [] h1 22 [xf 11 48, xi kk] [xi kk, xf 11 48, xi (xI h1 (xR h1 48 2) (kk).toNatClampNeg), xi kk, xf 10006 (xR h1 48 2)] h1 := XT_path (l := l) (fr := 5) (lo := 118) (full := false) (M := 101) (n := 153) (u := 6051) (pc := 2) (L := [xf 11 48, xi kk]) (st := []) (h := h1) (inl := []) (n' := 120) (sp := [22]) (o := [0]) rfl rfl ⟨rfl, rfl, rfl⟩ rfl ⟨Nat.le_of_eq hg1.2.2.2.1, Nat.le_of_eq hg1.2.2.2.2⟩ ⟨⟨⟨⟨trivial, (show ¬ xR h1 48 0 = 0 from by rw [r0]; decide)⟩, (show ¬ (xI h1 (xR h1 48 0) 0) ≤ kk from by rw [r0]; exact fun z => absurd (Int32.le_iff_toInt_le.mp z) (by omega))⟩, (vnn hg1.1 (rfl : vRf 48 2 = [50]) (by decide))⟩, (vp_of (i := kk) (n := 6) (by omega) (by omega))⟩
    rw [vref hg1.1 (rfl : vRf 48 2 = [50])] at t1
    obtain ⟨v, h2, c1, g1, ev⟩ := ck_yieldOf48_24 l Z Y kk k h1 hg1 A (kt.q G (by decide)) (kw.q G (by decide)) V (kd.q G (by decide)) (ke.q G (by decide)) hk lk
    have t2 : XT l 5 118 false 101 153 6051 22 [xf 11 48, xi kk] [xi kk, xf 11 48, xi (xI h1 50 (kk).toNatClampNeg), xi kk, xf 10006 50] h1 25 [xf 11 48, xi kk] [xi v, xi (xI h1 50 (kk).toNatClampNeg), xi kk, xf 10006 50] h2 := XT_call (l := l) (fr := 5) (lo := 118) (full := false) (M := 101) (n := 153) (u := 6051) (pc := 22) (L := [xf 11 48, xi kk]) (st := [xi kk, xf 11 48, xi (xI h1 50 (kk).toNatClampNeg), xi kk, xf 10006 50]) (h := h1) (i := .invokevirtual 81) (aux := 2) (nx := 25) (K := 81) (vs := [xf 11 48, xi kk]) (rs := [xi v]) (rest := [xi (xI h1 50 (kk).toNatClampNeg), xi kk, xf 10006 50]) rfl rfl rfl rfl rfl rfl c1 (by decide) (by decide) (Nat.le_of_ble_eq_true rfl) ⟨Nat.le_of_eq g1.1.2.2.2.1, Nat.le_of_eq g1.1.2.2.2.2⟩
    have t3 := t1.tr t2
    have t4 : XT l 5 118 false 101 153 6051 25 [xf 11 48, xi kk] [xi v, xi (xI h1 50 (kk).toNatClampNeg), xi kk, xf 10006 50] h2 2 [xf 11 48, xi (kk + Int32.ofInt (1))] [] (xsetI h2 50 (kk).toNatClampNeg ((xI h1 50 (kk).toNatClampNeg) + v)) := XT_path (l := l) (fr := 5) (lo := 118) (full := false) (M := 101) (n := 153) (u := 6051) (pc := 25) (L := [xf 11 48, xi kk]) (st := [xi v, xi (xI h1 50 (kk).toNatClampNeg), xi kk, xf 10006 50]) (h := h2) (inl := []) (n' := 120) (sp := [2]) (o := []) rfl rfl ⟨rfl, rfl, rfl⟩ rfl ⟨Nat.le_of_eq g1.1.2.2.2.1, Nat.le_of_eq g1.1.2.2.2.2⟩ ⟨trivial, (vp_of (i := kk) (n := 6) (by omega) (by omega))⟩
    have t5 := t3.tr t4
    obtain ⟨hE, eE⟩ : ∃ x, x = (xsetI h2 50 (kk).toNatClampNeg ((xI h1 50 (kk).toNatClampNeg) + v)) := ⟨_, rfl⟩
    have eE2 : hE = xsetI h2 50 k (xI h1 50 k + v) := by rw [eE]; simp only [nk]
    rw [← eE] at t5
    have GE : mQ [50] h hE := by rw [eE2]; exact (G.tr g1.q).set (by decide) (by rw [vI_u rfl (rfl : vRow 50 = sfull)]; exact i32r_of _)
    obtain ⟨k3, h9, t9, G9, I9⟩ := ck_reapA48_24 l Z Y h hg A kt kw V kd ke m (k + 1) (kk + Int32.ofInt (1)) hE GE (by omega) (by omega) (fun r hr => by rw [eE2]; exact if e : r = k then (by rw [e, yI_same, zRp_y lk, I2 k (Nat.le_refl _) lk, ev]) else (by rw [yI_ne (eq_false (fun z => e z.2)), g1.2.1]; exact I1 r (by omega))) (fun r q1 q2 => by rw [eE2, yI_ne (eq_false (fun z => by have := z.2; omega)), g1.2.1]; exact I2 r (by omega) q2)
    exact ⟨k3, h9, t5.tr t9, G9, I9⟩
set_option maxRecDepth 100000 in
set_option maxHeartbeats 4000000 in
theorem ck_reapB48_24 (l : Launch) (Z : Nat → Int) (Y : Nat → Int32) (h : XH) (hg : mI h) (A : zAll Z) (kt : kTx 24 Z h) (kw : kW 48 24 Z Y h) (V : zVd Z Y) : ∀ (m k : Nat) (kk : Int32) (h1 : XH), mQ [54] h h1 → kk.toInt = k → (k : Int) + m = Z 2 → (∀ r : Nat, r < k → xI h1 54 r = zRp Z Y (40 + r)) → (∀ r : Nat, k ≤ r → (r : Int) < Z 2 → xI h1 54 r = Y (40 + r)) → ∃ k2 h2, XT l 5 118 false 101 153 6051 35 [xf 11 48, xi kk] [] h1 85 [xf 11 48, xi k2] [] h2 ∧ mQ [54] h h2 ∧ (∀ r : Nat, (r : Int) < Z 2 → xI h2 54 r = zRp Z Y (40 + r))
  | 0, k, kk, h1, G, hk, hm, I1, I2 => by
    obtain ⟨⟨⟨B00, B01⟩, ⟨B10, B11⟩, ⟨B20, B21⟩, B30, B31⟩, g6, zj, zv, LW⟩ := id A
    have r0 : xR h1 48 0 = 24 := (G.2.2 48 0).trans kw.2.2.2.2.2
    have hg1 := G.1
    have ej : (xI h1 24 9).toInt = Z 2 := by rw [G.2.1 24 9 (by decide)]; exact kt.1.1 2 (by decide)
    have t1 : XT l 5 118 false 101 153 6051 35 [xf 11 48, xi kk] [] h1 85 [xf 11 48, xi kk] [] h1 := XT_path (l := l) (fr := 5) (lo := 118) (full := false) (M := 101) (n := 153) (u := 6051) (pc := 35) (L := [xf 11 48, xi kk]) (st := []) (h := h1) (inl := []) (n' := 120) (sp := [85]) (o := [1]) rfl rfl ⟨rfl, rfl, rfl⟩ rfl ⟨Nat.le_of_eq hg1.2.2.2.1, Nat.le_of_eq hg1.2.2.2.2⟩ ⟨⟨trivial, (show ¬ xR h1 48 0 = 0 from by rw [r0]; decide)⟩, (show (xI h1 (xR h1 48 0) 9) ≤ kk from by rw [r0]; exact Int32.le_iff_toInt_le.mpr (by omega))⟩
    obtain rfl : k = (Z 2).toNat := by omega
    exact ⟨kk, h1, t1, G, fun r hr => I1 r (by omega)⟩
  | m + 1, k, kk, h1, G, hk, hm, I1, I2 => by
    obtain ⟨⟨⟨B00, B01⟩, ⟨B10, B11⟩, ⟨B20, B21⟩, B30, B31⟩, g6, zj, zv, LW⟩ := id A
    have r0 : xR h1 48 0 = 24 := (G.2.2 48 0).trans kw.2.2.2.2.2
    have hg1 := G.1
    have ej : (xI h1 24 9).toInt = Z 2 := by rw [G.2.1 24 9 (by decide)]; exact kt.1.1 2 (by decide)
    have lk : (k : Int) < Z 2 := by omega
    have nk : kk.toNatClampNeg = k := zi_ix hk
    have sk := y_suc1 (k := kk) (by omega) (by omega)
    have kt1 : kTx 24 Z h1 := kt.q G (by decide)
    have kw1 : kW 48 24 Z Y h1 := kw.q G (by decide)
    have eh := congrArg Int32.toInt (show xI h1 52 kk.toNatClampNeg = Y (20 + k) from by rw [nk]; exact (kw1.2.1 k lk).1)
    have bh := V.2.1 k lk
    obtain ⟨H, hH⟩ : ∃ H : Nat, H = (Y (20 + k)).toInt.toNat := ⟨_, rfl⟩
    have nh : (xI h1 52 kk.toNatClampNeg).toNatClampNeg = H := zi_ix (by omega)
    have es : (xI h1 49 (xI h1 52 kk.toNatClampNeg).toNatClampNeg).toInt = (Y H).toInt := by rw [nh]; exact congrArg Int32.toInt (kw1.1 H (by omega))
    have ez : (xI h1 34 kk.toNatClampNeg).toInt = Z (190 + k) := by rw [nk]; exact kt1.1.2.2 9 k (by decide) lk
    by_cases cb1 : (xI h1 (xR h1 (xR h1 48 0) 12) (kk).toNatClampNeg) ≤ (xI h1 (xR h1 48 1) ((xI h1 (xR h1 48 4) (kk).toNatClampNeg)).toNatClampNeg)
    · have cb1r := cb1
      rw [r0, vref hg1.1 (rfl : vRf 48 1 = [49]), vref hg1.1 (rfl : vRf 48 4 = [52]), vref hg1.1 (rfl : vRf 24 12 = [34])] at cb1r
      have dcb1 : (xI h1 34 (kk).toNatClampNeg).toInt ≤ (xI h1 49 ((xI h1 52 (kk).toNatClampNeg)).toNatClampNeg).toInt := Int32.le_iff_toInt_le.mp cb1r
      have t2 : XT l 5 118 false 101 153 6051 35 [xf 11 48, xi kk] [] h1 35 [xf 11 48, xi (kk + Int32.ofInt (1))] [] h1 := XT_path (l := l) (fr := 5) (lo := 118) (full := false) (M := 101) (n := 153) (u := 6051) (pc := 35) (L := [xf 11 48, xi kk]) (st := []) (h := h1) (inl := []) (n' := 120) (sp := [35]) (o := [0, 1]) rfl rfl ⟨rfl, rfl, rfl⟩ rfl ⟨Nat.le_of_eq hg1.2.2.2.1, Nat.le_of_eq hg1.2.2.2.2⟩ ⟨⟨⟨⟨⟨⟨⟨⟨⟨⟨trivial, (show ¬ xR h1 48 0 = 0 from by rw [r0]; decide)⟩, (show ¬ (xI h1 (xR h1 48 0) 9) ≤ kk from by rw [r0]; exact fun z => absurd (Int32.le_iff_toInt_le.mp z) (by omega))⟩, (show ¬ xR h1 48 0 = 0 from by rw [r0]; decide)⟩, (show ¬ xR h1 (xR h1 48 0) 12 = 0 from by rw [r0]; exact vnn hg1.1 (rfl : vRf 24 12 = [34]) (by decide))⟩, (vp_of (i := kk) (n := 8) (by omega) (by omega))⟩, (vnn hg1.1 (rfl : vRf 48 1 = [49]) (by decide))⟩, (vnn hg1.1 (rfl : vRf 48 4 = [52]) (by decide))⟩, (vp_of (i := kk) (n := 8) (by omega) (by omega))⟩, (show vp_in ((xI h1 (xR h1 48 4) (kk).toNatClampNeg)) (6) from (by rw [vref hg1.1 (rfl : vRf 48 4 = [52])]; exact (vp_of (i := (xI h1 52 (kk).toNatClampNeg)) (n := 6) (by omega) (by omega) : vp_in ((xI h1 52 (kk).toNatClampNeg)) (6))))⟩, cb1⟩
      have GE : mQ [54] h h1 := G
      have eK : xI h1 54 k = zRp Z Y (40 + k) := by rw [zRp_b B01 lk, ← hH, if_neg (by omega)]; exact I2 k (Nat.le_refl _) lk
      have eO : ∀ r : Nat, ¬ r = k → xI h1 54 r = xI h1 54 r := fun r hr => rfl
      obtain ⟨k3, h9, t9, G9, I9⟩ := ck_reapB48_24 l Z Y h hg A kt kw V m (k + 1) (kk + Int32.ofInt (1)) h1 GE (by omega) (by omega) (fun r hr => if e : r = k then (by rw [e]; exact eK) else (by rw [eO r e]; exact I1 r (by omega))) (fun r q1 q2 => by rw [eO r (by omega)]; exact I2 r (by omega) q2)
      exact ⟨k3, h9, t2.tr t9, G9, I9⟩
    · have cb1r := cb1
      rw [r0, vref hg1.1 (rfl : vRf 48 1 = [49]), vref hg1.1 (rfl : vRf 48 4 = [52]), vref hg1.1 (rfl : vRf 24 12 = [34])] at cb1r
      have dcb1 : (xI h1 49 ((xI h1 52 (kk).toNatClampNeg)).toNatClampNeg).toInt < (xI h1 34 (kk).toNatClampNeg).toInt := Int32.lt_iff_toInt_lt.mp (Int32.not_le.mp cb1r)
      have t3 : XT l 5 118 false 101 153 6051 35 [xf 11 48, xi kk] [] h1 35 [xf 11 48, xi (kk + Int32.ofInt (1))] [] (xsetI h1 (xR h1 48 6) (kk).toNatClampNeg ((xI h1 (xR h1 48 6) (kk).toNatClampNeg) + (Int32.ofInt (1)))) := XT_path (l := l) (fr := 5) (lo := 118) (full := false) (M := 101) (n := 153) (u := 6051) (pc := 35) (L := [xf 11 48, xi kk]) (st := []) (h := h1) (inl := []) (n' := 120) (sp := [35]) (o := [0, 0]) rfl rfl ⟨rfl, rfl, rfl⟩ rfl ⟨Nat.le_of_eq hg1.2.2.2.1, Nat.le_of_eq hg1.2.2.2.2⟩ ⟨⟨⟨⟨⟨⟨⟨⟨⟨⟨⟨⟨⟨trivial, (show ¬ xR h1 48 0 = 0 from by rw [r0]; decide)⟩, (show ¬ (xI h1 (xR h1 48 0) 9) ≤ kk from by rw [r0]; exact fun z => absurd (Int32.le_iff_toInt_le.mp z) (by omega))⟩, (show ¬ xR h1 48 0 = 0 from by rw [r0]; decide)⟩, (show ¬ xR h1 (xR h1 48 0) 12 = 0 from by rw [r0]; exact vnn hg1.1 (rfl : vRf 24 12 = [34]) (by decide))⟩, (vp_of (i := kk) (n := 8) (by omega) (by omega))⟩, (vnn hg1.1 (rfl : vRf 48 1 = [49]) (by decide))⟩, (vnn hg1.1 (rfl : vRf 48 4 = [52]) (by decide))⟩, (vp_of (i := kk) (n := 8) (by omega) (by omega))⟩, (show vp_in ((xI h1 (xR h1 48 4) (kk).toNatClampNeg)) (6) from (by rw [vref hg1.1 (rfl : vRf 48 4 = [52])]; exact (vp_of (i := (xI h1 52 (kk).toNatClampNeg)) (n := 6) (by omega) (by omega) : vp_in ((xI h1 52 (kk).toNatClampNeg)) (6))))⟩, cb1⟩, (vnn hg1.1 (rfl : vRf 48 6 = [54]) (by decide))⟩, (vp_of (i := kk) (n := 8) (by omega) (by omega))⟩, (vp_of (i := kk) (n := 8) (by omega) (by omega))⟩
      rw [vref hg1.1 (rfl : vRf 48 6 = [54])] at t3
      obtain ⟨hE, eE⟩ : ∃ x, x = (xsetI h1 54 (kk).toNatClampNeg ((xI h1 54 (kk).toNatClampNeg) + (Int32.ofInt (1)))) := ⟨_, rfl⟩
      have eE2 : hE = xsetI h1 54 k (xI h1 54 k + (Int32.ofInt (1))) := by rw [eE]; simp only [nk]
      have GE : mQ [54] h hE := by rw [eE2]; exact G.set (by decide) (by rw [vI_u rfl (rfl : vRow 54 = sfull)]; exact i32r_of _)
      have eK : xI hE 54 k = zRp Z Y (40 + k) := by rw [eE2, yI_same, zRp_b B01 lk, ← hH, if_pos (by omega), I2 k (Nat.le_refl _) lk]
      have eO : ∀ r : Nat, ¬ r = k → xI hE 54 r = xI h1 54 r := fun r hr => by rw [eE2]; exact yI_ne (eq_false (fun z => hr z.2))
      rw [← eE] at t3
      obtain ⟨k3, h9, t9, G9, I9⟩ := ck_reapB48_24 l Z Y h hg A kt kw V m (k + 1) (kk + Int32.ofInt (1)) hE GE (by omega) (by omega) (fun r hr => if e : r = k then (by rw [e]; exact eK) else (by rw [eO r e]; exact I1 r (by omega))) (fun r q1 q2 => by rw [eO r (by omega)]; exact I2 r (by omega) q2)
      exact ⟨k3, h9, t3.tr t9, G9, I9⟩
set_option maxRecDepth 100000 in
set_option maxHeartbeats 4000000 in
theorem ck_reap48_24 (l : Launch) (Z : Nat → Int) (Y : Nat → Int32) (h : XH) (hg : mI h) (A : zAll Z) (kt : kTx 24 Z h) (kw : kW 48 24 Z Y h) (V : zVd Z Y) (kd : kD 48 Z Y h) (ke : kE 48 Z Y h) (ky : kY 48 Z Y h) : ∃ h', CX l 5 118 false 101 [xf 11 48] h [] h' ∧ mQ [50, 54] h h' ∧ kW 48 24 Z (zRp Z Y) h' ∧ kD 48 Z (zRp Z Y) h' ∧ kE 48 Z (zRp Z Y) h' ∧ kY 48 Z (zRp Z Y) h' := by
  obtain ⟨⟨⟨B00, B01⟩, ⟨B10, B11⟩, ⟨B20, B21⟩, B30, B31⟩, g6, zj, zv, LW⟩ := id A
  have t1 : XT l 5 118 false 101 153 6051 0 [xf 11 48, xun] [] h 2 [xf 11 48, xi (Int32.ofInt (0))] [] h := XT_path (l := l) (fr := 5) (lo := 118) (full := false) (M := 101) (n := 153) (u := 6051) (pc := 0) (L := [xf 11 48, xun]) (st := []) (h := h) (inl := []) (n' := 60) (sp := [2]) (o := []) rfl rfl ⟨rfl, rfl, rfl⟩ rfl ⟨Nat.le_of_eq hg.2.2.2.1, Nat.le_of_eq hg.2.2.2.2⟩ trivial
  obtain ⟨k2, h2, u2, G2, I2⟩ := ck_reapA48_24 l Z Y h hg A kt kw V kd ke (Z 0).toNat 0 (Int32.ofInt (0)) h (mQ.rf hg) rfl (by omega) (fun r hr => absurd hr (Nat.not_lt_zero r)) (fun r _ hr => ky.1 r hr)
  have T2 := t1.tr u2
  have t2 : XT l 5 118 false 101 153 6051 33 [xf 11 48, xi k2] [] h2 35 [xf 11 48, xi (Int32.ofInt (0))] [] h2 := XT_path (l := l) (fr := 5) (lo := 118) (full := false) (M := 101) (n := 153) (u := 6051) (pc := 33) (L := [xf 11 48, xi k2]) (st := []) (h := h2) (inl := []) (n' := 60) (sp := [35]) (o := []) rfl rfl ⟨rfl, rfl, rfl⟩ rfl ⟨Nat.le_of_eq G2.1.2.2.2.1, Nat.le_of_eq G2.1.2.2.2.2⟩ trivial
  have t3 := T2.tr t2
  obtain ⟨k3, h3, u3, G3, I3⟩ := ck_reapB48_24 l Z Y h2 G2.1 A (kt.q G2 (by decide)) (kw.q G2 (by decide)) V (Z 2).toNat 0 (Int32.ofInt (0)) h2 (mQ.rf G2.1) rfl (by omega) (fun r hr => absurd hr (Nat.not_lt_zero r)) (fun r _ hr => by rw [G2.2.1 54 r (by decide)]; exact ky.2 r hr)
  have T3 := t3.tr u3
  have G : mQ [50, 54] h h3 := (G2.mono (by decide)).tr (G3.mono (by decide))
  exact ⟨h3, CX_ofT (h' := h3) (by decide) rfl rfl trivial ⟨_, _, _, rfl, rfl, rfl⟩ rfl ⟨Nat.le_of_eq G3.1.2.2.2.1.symm, Nat.le_of_eq G3.1.2.2.2.2.symm⟩ T3, G, (kw.q G (by decide)).same A.1 (zRp_o A.1), (kd.q G (by decide)).sm zv B01 (zSm_rp A.1), (ke.q G (by decide)).sm B21 (zSm_rp A.1), fun r hr => by rw [G3.2.1 50 r (by decide)]; exact I2 r hr, fun r hr => I3 r hr⟩
set_option maxRecDepth 100000 in
set_option maxHeartbeats 4000000 in
theorem ck_reapA59_3 (l : Launch) (Z : Nat → Int) (Y : Nat → Int32) (h : XH) (hg : mI h) (A : zAll Z) (kt : kTx 3 Z h) (kw : kW 59 3 Z Y h) (V : zVd Z Y) (kd : kD 59 Z Y h) (ke : kE 59 Z Y h) : ∀ (m k : Nat) (kk : Int32) (h1 : XH), mQ [61] h h1 → kk.toInt = k → (k : Int) + m = Z 0 → (∀ r : Nat, r < k → xI h1 61 r = zRp Z Y (10 + r)) → (∀ r : Nat, k ≤ r → (r : Int) < Z 0 → xI h1 61 r = Y (10 + r)) → ∃ k2 h2, XT l 5 118 false 101 153 6051 2 [xf 11 59, xi kk] [] h1 33 [xf 11 59, xi k2] [] h2 ∧ mQ [61] h h2 ∧ (∀ r : Nat, (r : Int) < Z 0 → xI h2 61 r = zRp Z Y (10 + r))
  | 0, k, kk, h1, G, hk, hm, I1, I2 => by
    obtain ⟨⟨⟨B00, B01⟩, ⟨B10, B11⟩, ⟨B20, B21⟩, B30, B31⟩, g6, zj, zv, LW⟩ := id A
    have r0 : xR h1 59 0 = 3 := (G.2.2 59 0).trans kw.2.2.2.2.2
    have hg1 := G.1
    have ej : (xI h1 3 0).toInt = Z 0 := by rw [G.2.1 3 0 (by decide)]; exact kt.1.1 0 (by decide)
    have t1 : XT l 5 118 false 101 153 6051 2 [xf 11 59, xi kk] [] h1 33 [xf 11 59, xi kk] [] h1 := XT_path (l := l) (fr := 5) (lo := 118) (full := false) (M := 101) (n := 153) (u := 6051) (pc := 2) (L := [xf 11 59, xi kk]) (st := []) (h := h1) (inl := []) (n' := 120) (sp := [33]) (o := [1]) rfl rfl ⟨rfl, rfl, rfl⟩ rfl ⟨Nat.le_of_eq hg1.2.2.2.1, Nat.le_of_eq hg1.2.2.2.2⟩ ⟨⟨trivial, (show ¬ xR h1 59 0 = 0 from by rw [r0]; decide)⟩, (show (xI h1 (xR h1 59 0) 0) ≤ kk from by rw [r0]; exact Int32.le_iff_toInt_le.mpr (by omega))⟩
    obtain rfl : k = (Z 0).toNat := by omega
    exact ⟨kk, h1, t1, G, fun r hr => I1 r (by omega)⟩
  | m + 1, k, kk, h1, G, hk, hm, I1, I2 => by
    obtain ⟨⟨⟨B00, B01⟩, ⟨B10, B11⟩, ⟨B20, B21⟩, B30, B31⟩, g6, zj, zv, LW⟩ := id A
    have r0 : xR h1 59 0 = 3 := (G.2.2 59 0).trans kw.2.2.2.2.2
    have hg1 := G.1
    have ej : (xI h1 3 0).toInt = Z 0 := by rw [G.2.1 3 0 (by decide)]; exact kt.1.1 0 (by decide)
    have lk : (k : Int) < Z 0 := by omega
    have nk : kk.toNatClampNeg = k := zi_ix hk
    have sk := y_suc1 (k := kk) (by omega) (by omega)
    have t1 : XT l 5 118 false 101 153 6051 2 [xf 11 59, xi kk] [] h1 22 [xf 11 59, xi kk] [xi kk, xf 11 59, xi (xI h1 (xR h1 59 2) (kk).toNatClampNeg), xi kk, xf 10006 (xR h1 59 2)] h1 := XT_path (l := l) (fr := 5) (lo := 118) (full := false) (M := 101) (n := 153) (u := 6051) (pc := 2) (L := [xf 11 59, xi kk]) (st := []) (h := h1) (inl := []) (n' := 120) (sp := [22]) (o := [0]) rfl rfl ⟨rfl, rfl, rfl⟩ rfl ⟨Nat.le_of_eq hg1.2.2.2.1, Nat.le_of_eq hg1.2.2.2.2⟩ ⟨⟨⟨⟨trivial, (show ¬ xR h1 59 0 = 0 from by rw [r0]; decide)⟩, (show ¬ (xI h1 (xR h1 59 0) 0) ≤ kk from by rw [r0]; exact fun z => absurd (Int32.le_iff_toInt_le.mp z) (by omega))⟩, (vnn hg1.1 (rfl : vRf 59 2 = [61]) (by decide))⟩, (vp_of (i := kk) (n := 6) (by omega) (by omega))⟩
    rw [vref hg1.1 (rfl : vRf 59 2 = [61])] at t1
    obtain ⟨v, h2, c1, g1, ev⟩ := ck_yieldOf59_3 l Z Y kk k h1 hg1 A (kt.q G (by decide)) (kw.q G (by decide)) V (kd.q G (by decide)) (ke.q G (by decide)) hk lk
    have t2 : XT l 5 118 false 101 153 6051 22 [xf 11 59, xi kk] [xi kk, xf 11 59, xi (xI h1 61 (kk).toNatClampNeg), xi kk, xf 10006 61] h1 25 [xf 11 59, xi kk] [xi v, xi (xI h1 61 (kk).toNatClampNeg), xi kk, xf 10006 61] h2 := XT_call (l := l) (fr := 5) (lo := 118) (full := false) (M := 101) (n := 153) (u := 6051) (pc := 22) (L := [xf 11 59, xi kk]) (st := [xi kk, xf 11 59, xi (xI h1 61 (kk).toNatClampNeg), xi kk, xf 10006 61]) (h := h1) (i := .invokevirtual 81) (aux := 2) (nx := 25) (K := 81) (vs := [xf 11 59, xi kk]) (rs := [xi v]) (rest := [xi (xI h1 61 (kk).toNatClampNeg), xi kk, xf 10006 61]) rfl rfl rfl rfl rfl rfl c1 (by decide) (by decide) (Nat.le_of_ble_eq_true rfl) ⟨Nat.le_of_eq g1.1.2.2.2.1, Nat.le_of_eq g1.1.2.2.2.2⟩
    have t3 := t1.tr t2
    have t4 : XT l 5 118 false 101 153 6051 25 [xf 11 59, xi kk] [xi v, xi (xI h1 61 (kk).toNatClampNeg), xi kk, xf 10006 61] h2 2 [xf 11 59, xi (kk + Int32.ofInt (1))] [] (xsetI h2 61 (kk).toNatClampNeg ((xI h1 61 (kk).toNatClampNeg) + v)) := XT_path (l := l) (fr := 5) (lo := 118) (full := false) (M := 101) (n := 153) (u := 6051) (pc := 25) (L := [xf 11 59, xi kk]) (st := [xi v, xi (xI h1 61 (kk).toNatClampNeg), xi kk, xf 10006 61]) (h := h2) (inl := []) (n' := 120) (sp := [2]) (o := []) rfl rfl ⟨rfl, rfl, rfl⟩ rfl ⟨Nat.le_of_eq g1.1.2.2.2.1, Nat.le_of_eq g1.1.2.2.2.2⟩ ⟨trivial, (vp_of (i := kk) (n := 6) (by omega) (by omega))⟩
    have t5 := t3.tr t4
    obtain ⟨hE, eE⟩ : ∃ x, x = (xsetI h2 61 (kk).toNatClampNeg ((xI h1 61 (kk).toNatClampNeg) + v)) := ⟨_, rfl⟩
    have eE2 : hE = xsetI h2 61 k (xI h1 61 k + v) := by rw [eE]; simp only [nk]
    rw [← eE] at t5
    have GE : mQ [61] h hE := by rw [eE2]; exact (G.tr g1.q).set (by decide) (by rw [vI_u rfl (rfl : vRow 61 = sfull)]; exact i32r_of _)
    obtain ⟨k3, h9, t9, G9, I9⟩ := ck_reapA59_3 l Z Y h hg A kt kw V kd ke m (k + 1) (kk + Int32.ofInt (1)) hE GE (by omega) (by omega) (fun r hr => by rw [eE2]; exact if e : r = k then (by rw [e, yI_same, zRp_y lk, I2 k (Nat.le_refl _) lk, ev]) else (by rw [yI_ne (eq_false (fun z => e z.2)), g1.2.1]; exact I1 r (by omega))) (fun r q1 q2 => by rw [eE2, yI_ne (eq_false (fun z => by have := z.2; omega)), g1.2.1]; exact I2 r (by omega) q2)
    exact ⟨k3, h9, t5.tr t9, G9, I9⟩
set_option maxRecDepth 100000 in
set_option maxHeartbeats 4000000 in
theorem ck_reapB59_3 (l : Launch) (Z : Nat → Int) (Y : Nat → Int32) (h : XH) (hg : mI h) (A : zAll Z) (kt : kTx 3 Z h) (kw : kW 59 3 Z Y h) (V : zVd Z Y) : ∀ (m k : Nat) (kk : Int32) (h1 : XH), mQ [65] h h1 → kk.toInt = k → (k : Int) + m = Z 2 → (∀ r : Nat, r < k → xI h1 65 r = zRp Z Y (40 + r)) → (∀ r : Nat, k ≤ r → (r : Int) < Z 2 → xI h1 65 r = Y (40 + r)) → ∃ k2 h2, XT l 5 118 false 101 153 6051 35 [xf 11 59, xi kk] [] h1 85 [xf 11 59, xi k2] [] h2 ∧ mQ [65] h h2 ∧ (∀ r : Nat, (r : Int) < Z 2 → xI h2 65 r = zRp Z Y (40 + r))
  | 0, k, kk, h1, G, hk, hm, I1, I2 => by
    obtain ⟨⟨⟨B00, B01⟩, ⟨B10, B11⟩, ⟨B20, B21⟩, B30, B31⟩, g6, zj, zv, LW⟩ := id A
    have r0 : xR h1 59 0 = 3 := (G.2.2 59 0).trans kw.2.2.2.2.2
    have hg1 := G.1
    have ej : (xI h1 3 9).toInt = Z 2 := by rw [G.2.1 3 9 (by decide)]; exact kt.1.1 2 (by decide)
    have t1 : XT l 5 118 false 101 153 6051 35 [xf 11 59, xi kk] [] h1 85 [xf 11 59, xi kk] [] h1 := XT_path (l := l) (fr := 5) (lo := 118) (full := false) (M := 101) (n := 153) (u := 6051) (pc := 35) (L := [xf 11 59, xi kk]) (st := []) (h := h1) (inl := []) (n' := 120) (sp := [85]) (o := [1]) rfl rfl ⟨rfl, rfl, rfl⟩ rfl ⟨Nat.le_of_eq hg1.2.2.2.1, Nat.le_of_eq hg1.2.2.2.2⟩ ⟨⟨trivial, (show ¬ xR h1 59 0 = 0 from by rw [r0]; decide)⟩, (show (xI h1 (xR h1 59 0) 9) ≤ kk from by rw [r0]; exact Int32.le_iff_toInt_le.mpr (by omega))⟩
    obtain rfl : k = (Z 2).toNat := by omega
    exact ⟨kk, h1, t1, G, fun r hr => I1 r (by omega)⟩
  | m + 1, k, kk, h1, G, hk, hm, I1, I2 => by
    obtain ⟨⟨⟨B00, B01⟩, ⟨B10, B11⟩, ⟨B20, B21⟩, B30, B31⟩, g6, zj, zv, LW⟩ := id A
    have r0 : xR h1 59 0 = 3 := (G.2.2 59 0).trans kw.2.2.2.2.2
    have hg1 := G.1
    have ej : (xI h1 3 9).toInt = Z 2 := by rw [G.2.1 3 9 (by decide)]; exact kt.1.1 2 (by decide)
    have lk : (k : Int) < Z 2 := by omega
    have nk : kk.toNatClampNeg = k := zi_ix hk
    have sk := y_suc1 (k := kk) (by omega) (by omega)
    have kt1 : kTx 3 Z h1 := kt.q G (by decide)
    have kw1 : kW 59 3 Z Y h1 := kw.q G (by decide)
    have eh := congrArg Int32.toInt (show xI h1 63 kk.toNatClampNeg = Y (20 + k) from by rw [nk]; exact (kw1.2.1 k lk).1)
    have bh := V.2.1 k lk
    obtain ⟨H, hH⟩ : ∃ H : Nat, H = (Y (20 + k)).toInt.toNat := ⟨_, rfl⟩
    have nh : (xI h1 63 kk.toNatClampNeg).toNatClampNeg = H := zi_ix (by omega)
    have es : (xI h1 60 (xI h1 63 kk.toNatClampNeg).toNatClampNeg).toInt = (Y H).toInt := by rw [nh]; exact congrArg Int32.toInt (kw1.1 H (by omega))
    have ez : (xI h1 13 kk.toNatClampNeg).toInt = Z (190 + k) := by rw [nk]; exact kt1.1.2.2 9 k (by decide) lk
    by_cases cb1 : (xI h1 (xR h1 (xR h1 59 0) 12) (kk).toNatClampNeg) ≤ (xI h1 (xR h1 59 1) ((xI h1 (xR h1 59 4) (kk).toNatClampNeg)).toNatClampNeg)
    · have cb1r := cb1
      rw [r0, vref hg1.1 (rfl : vRf 59 1 = [60]), vref hg1.1 (rfl : vRf 59 4 = [63]), vref hg1.1 (rfl : vRf 3 12 = [13])] at cb1r
      have dcb1 : (xI h1 13 (kk).toNatClampNeg).toInt ≤ (xI h1 60 ((xI h1 63 (kk).toNatClampNeg)).toNatClampNeg).toInt := Int32.le_iff_toInt_le.mp cb1r
      have t2 : XT l 5 118 false 101 153 6051 35 [xf 11 59, xi kk] [] h1 35 [xf 11 59, xi (kk + Int32.ofInt (1))] [] h1 := XT_path (l := l) (fr := 5) (lo := 118) (full := false) (M := 101) (n := 153) (u := 6051) (pc := 35) (L := [xf 11 59, xi kk]) (st := []) (h := h1) (inl := []) (n' := 120) (sp := [35]) (o := [0, 1]) rfl rfl ⟨rfl, rfl, rfl⟩ rfl ⟨Nat.le_of_eq hg1.2.2.2.1, Nat.le_of_eq hg1.2.2.2.2⟩ ⟨⟨⟨⟨⟨⟨⟨⟨⟨⟨trivial, (show ¬ xR h1 59 0 = 0 from by rw [r0]; decide)⟩, (show ¬ (xI h1 (xR h1 59 0) 9) ≤ kk from by rw [r0]; exact fun z => absurd (Int32.le_iff_toInt_le.mp z) (by omega))⟩, (show ¬ xR h1 59 0 = 0 from by rw [r0]; decide)⟩, (show ¬ xR h1 (xR h1 59 0) 12 = 0 from by rw [r0]; exact vnn hg1.1 (rfl : vRf 3 12 = [13]) (by decide))⟩, (vp_of (i := kk) (n := 8) (by omega) (by omega))⟩, (vnn hg1.1 (rfl : vRf 59 1 = [60]) (by decide))⟩, (vnn hg1.1 (rfl : vRf 59 4 = [63]) (by decide))⟩, (vp_of (i := kk) (n := 8) (by omega) (by omega))⟩, (show vp_in ((xI h1 (xR h1 59 4) (kk).toNatClampNeg)) (6) from (by rw [vref hg1.1 (rfl : vRf 59 4 = [63])]; exact (vp_of (i := (xI h1 63 (kk).toNatClampNeg)) (n := 6) (by omega) (by omega) : vp_in ((xI h1 63 (kk).toNatClampNeg)) (6))))⟩, cb1⟩
      have GE : mQ [65] h h1 := G
      have eK : xI h1 65 k = zRp Z Y (40 + k) := by rw [zRp_b B01 lk, ← hH, if_neg (by omega)]; exact I2 k (Nat.le_refl _) lk
      have eO : ∀ r : Nat, ¬ r = k → xI h1 65 r = xI h1 65 r := fun r hr => rfl
      obtain ⟨k3, h9, t9, G9, I9⟩ := ck_reapB59_3 l Z Y h hg A kt kw V m (k + 1) (kk + Int32.ofInt (1)) h1 GE (by omega) (by omega) (fun r hr => if e : r = k then (by rw [e]; exact eK) else (by rw [eO r e]; exact I1 r (by omega))) (fun r q1 q2 => by rw [eO r (by omega)]; exact I2 r (by omega) q2)
      exact ⟨k3, h9, t2.tr t9, G9, I9⟩
    · have cb1r := cb1
      rw [r0, vref hg1.1 (rfl : vRf 59 1 = [60]), vref hg1.1 (rfl : vRf 59 4 = [63]), vref hg1.1 (rfl : vRf 3 12 = [13])] at cb1r
      have dcb1 : (xI h1 60 ((xI h1 63 (kk).toNatClampNeg)).toNatClampNeg).toInt < (xI h1 13 (kk).toNatClampNeg).toInt := Int32.lt_iff_toInt_lt.mp (Int32.not_le.mp cb1r)
      have t3 : XT l 5 118 false 101 153 6051 35 [xf 11 59, xi kk] [] h1 35 [xf 11 59, xi (kk + Int32.ofInt (1))] [] (xsetI h1 (xR h1 59 6) (kk).toNatClampNeg ((xI h1 (xR h1 59 6) (kk).toNatClampNeg) + (Int32.ofInt (1)))) := XT_path (l := l) (fr := 5) (lo := 118) (full := false) (M := 101) (n := 153) (u := 6051) (pc := 35) (L := [xf 11 59, xi kk]) (st := []) (h := h1) (inl := []) (n' := 120) (sp := [35]) (o := [0, 0]) rfl rfl ⟨rfl, rfl, rfl⟩ rfl ⟨Nat.le_of_eq hg1.2.2.2.1, Nat.le_of_eq hg1.2.2.2.2⟩ ⟨⟨⟨⟨⟨⟨⟨⟨⟨⟨⟨⟨⟨trivial, (show ¬ xR h1 59 0 = 0 from by rw [r0]; decide)⟩, (show ¬ (xI h1 (xR h1 59 0) 9) ≤ kk from by rw [r0]; exact fun z => absurd (Int32.le_iff_toInt_le.mp z) (by omega))⟩, (show ¬ xR h1 59 0 = 0 from by rw [r0]; decide)⟩, (show ¬ xR h1 (xR h1 59 0) 12 = 0 from by rw [r0]; exact vnn hg1.1 (rfl : vRf 3 12 = [13]) (by decide))⟩, (vp_of (i := kk) (n := 8) (by omega) (by omega))⟩, (vnn hg1.1 (rfl : vRf 59 1 = [60]) (by decide))⟩, (vnn hg1.1 (rfl : vRf 59 4 = [63]) (by decide))⟩, (vp_of (i := kk) (n := 8) (by omega) (by omega))⟩, (show vp_in ((xI h1 (xR h1 59 4) (kk).toNatClampNeg)) (6) from (by rw [vref hg1.1 (rfl : vRf 59 4 = [63])]; exact (vp_of (i := (xI h1 63 (kk).toNatClampNeg)) (n := 6) (by omega) (by omega) : vp_in ((xI h1 63 (kk).toNatClampNeg)) (6))))⟩, cb1⟩, (vnn hg1.1 (rfl : vRf 59 6 = [65]) (by decide))⟩, (vp_of (i := kk) (n := 8) (by omega) (by omega))⟩, (vp_of (i := kk) (n := 8) (by omega) (by omega))⟩
      rw [vref hg1.1 (rfl : vRf 59 6 = [65])] at t3
      obtain ⟨hE, eE⟩ : ∃ x, x = (xsetI h1 65 (kk).toNatClampNeg ((xI h1 65 (kk).toNatClampNeg) + (Int32.ofInt (1)))) := ⟨_, rfl⟩
      have eE2 : hE = xsetI h1 65 k (xI h1 65 k + (Int32.ofInt (1))) := by rw [eE]; simp only [nk]
      have GE : mQ [65] h hE := by rw [eE2]; exact G.set (by decide) (by rw [vI_u rfl (rfl : vRow 65 = sfull)]; exact i32r_of _)
      have eK : xI hE 65 k = zRp Z Y (40 + k) := by rw [eE2, yI_same, zRp_b B01 lk, ← hH, if_pos (by omega), I2 k (Nat.le_refl _) lk]
      have eO : ∀ r : Nat, ¬ r = k → xI hE 65 r = xI h1 65 r := fun r hr => by rw [eE2]; exact yI_ne (eq_false (fun z => hr z.2))
      rw [← eE] at t3
      obtain ⟨k3, h9, t9, G9, I9⟩ := ck_reapB59_3 l Z Y h hg A kt kw V m (k + 1) (kk + Int32.ofInt (1)) hE GE (by omega) (by omega) (fun r hr => if e : r = k then (by rw [e]; exact eK) else (by rw [eO r e]; exact I1 r (by omega))) (fun r q1 q2 => by rw [eO r (by omega)]; exact I2 r (by omega) q2)
      exact ⟨k3, h9, t3.tr t9, G9, I9⟩
set_option maxRecDepth 100000 in
set_option maxHeartbeats 4000000 in
theorem ck_reap59_3 (l : Launch) (Z : Nat → Int) (Y : Nat → Int32) (h : XH) (hg : mI h) (A : zAll Z) (kt : kTx 3 Z h) (kw : kW 59 3 Z Y h) (V : zVd Z Y) (kd : kD 59 Z Y h) (ke : kE 59 Z Y h) (ky : kY 59 Z Y h) : ∃ h', CX l 5 118 false 101 [xf 11 59] h [] h' ∧ mQ [61, 65] h h' ∧ kW 59 3 Z (zRp Z Y) h' ∧ kD 59 Z (zRp Z Y) h' ∧ kE 59 Z (zRp Z Y) h' ∧ kY 59 Z (zRp Z Y) h' := by
  obtain ⟨⟨⟨B00, B01⟩, ⟨B10, B11⟩, ⟨B20, B21⟩, B30, B31⟩, g6, zj, zv, LW⟩ := id A
  have t1 : XT l 5 118 false 101 153 6051 0 [xf 11 59, xun] [] h 2 [xf 11 59, xi (Int32.ofInt (0))] [] h := XT_path (l := l) (fr := 5) (lo := 118) (full := false) (M := 101) (n := 153) (u := 6051) (pc := 0) (L := [xf 11 59, xun]) (st := []) (h := h) (inl := []) (n' := 60) (sp := [2]) (o := []) rfl rfl ⟨rfl, rfl, rfl⟩ rfl ⟨Nat.le_of_eq hg.2.2.2.1, Nat.le_of_eq hg.2.2.2.2⟩ trivial
  obtain ⟨k2, h2, u2, G2, I2⟩ := ck_reapA59_3 l Z Y h hg A kt kw V kd ke (Z 0).toNat 0 (Int32.ofInt (0)) h (mQ.rf hg) rfl (by omega) (fun r hr => absurd hr (Nat.not_lt_zero r)) (fun r _ hr => ky.1 r hr)
  have T2 := t1.tr u2
  have t2 : XT l 5 118 false 101 153 6051 33 [xf 11 59, xi k2] [] h2 35 [xf 11 59, xi (Int32.ofInt (0))] [] h2 := XT_path (l := l) (fr := 5) (lo := 118) (full := false) (M := 101) (n := 153) (u := 6051) (pc := 33) (L := [xf 11 59, xi k2]) (st := []) (h := h2) (inl := []) (n' := 60) (sp := [35]) (o := []) rfl rfl ⟨rfl, rfl, rfl⟩ rfl ⟨Nat.le_of_eq G2.1.2.2.2.1, Nat.le_of_eq G2.1.2.2.2.2⟩ trivial
  have t3 := T2.tr t2
  obtain ⟨k3, h3, u3, G3, I3⟩ := ck_reapB59_3 l Z Y h2 G2.1 A (kt.q G2 (by decide)) (kw.q G2 (by decide)) V (Z 2).toNat 0 (Int32.ofInt (0)) h2 (mQ.rf G2.1) rfl (by omega) (fun r hr => absurd hr (Nat.not_lt_zero r)) (fun r _ hr => by rw [G2.2.1 65 r (by decide)]; exact ky.2 r hr)
  have T3 := t3.tr u3
  have G : mQ [61, 65] h h3 := (G2.mono (by decide)).tr (G3.mono (by decide))
  exact ⟨h3, CX_ofT (h' := h3) (by decide) rfl rfl trivial ⟨_, _, _, rfl, rfl, rfl⟩ rfl ⟨Nat.le_of_eq G3.1.2.2.2.1.symm, Nat.le_of_eq G3.1.2.2.2.2.symm⟩ T3, G, (kw.q G (by decide)).same A.1 (zRp_o A.1), (kd.q G (by decide)).sm zv B01 (zSm_rp A.1), (ke.q G (by decide)).sm B21 (zSm_rp A.1), fun r hr => by rw [G3.2.1 61 r (by decide)]; exact I2 r hr, fun r hr => I3 r hr⟩
set_option maxRecDepth 100000 in
set_option maxHeartbeats 4000000 in
theorem ck_reapA59_24 (l : Launch) (Z : Nat → Int) (Y : Nat → Int32) (h : XH) (hg : mI h) (A : zAll Z) (kt : kTx 24 Z h) (kw : kW 59 24 Z Y h) (V : zVd Z Y) (kd : kD 59 Z Y h) (ke : kE 59 Z Y h) : ∀ (m k : Nat) (kk : Int32) (h1 : XH), mQ [61] h h1 → kk.toInt = k → (k : Int) + m = Z 0 → (∀ r : Nat, r < k → xI h1 61 r = zRp Z Y (10 + r)) → (∀ r : Nat, k ≤ r → (r : Int) < Z 0 → xI h1 61 r = Y (10 + r)) → ∃ k2 h2, XT l 5 118 false 101 153 6051 2 [xf 11 59, xi kk] [] h1 33 [xf 11 59, xi k2] [] h2 ∧ mQ [61] h h2 ∧ (∀ r : Nat, (r : Int) < Z 0 → xI h2 61 r = zRp Z Y (10 + r))
  | 0, k, kk, h1, G, hk, hm, I1, I2 => by
    obtain ⟨⟨⟨B00, B01⟩, ⟨B10, B11⟩, ⟨B20, B21⟩, B30, B31⟩, g6, zj, zv, LW⟩ := id A
    have r0 : xR h1 59 0 = 24 := (G.2.2 59 0).trans kw.2.2.2.2.2
    have hg1 := G.1
    have ej : (xI h1 24 0).toInt = Z 0 := by rw [G.2.1 24 0 (by decide)]; exact kt.1.1 0 (by decide)
    have t1 : XT l 5 118 false 101 153 6051 2 [xf 11 59, xi kk] [] h1 33 [xf 11 59, xi kk] [] h1 := XT_path (l := l) (fr := 5) (lo := 118) (full := false) (M := 101) (n := 153) (u := 6051) (pc := 2) (L := [xf 11 59, xi kk]) (st := []) (h := h1) (inl := []) (n' := 120) (sp := [33]) (o := [1]) rfl rfl ⟨rfl, rfl, rfl⟩ rfl ⟨Nat.le_of_eq hg1.2.2.2.1, Nat.le_of_eq hg1.2.2.2.2⟩ ⟨⟨trivial, (show ¬ xR h1 59 0 = 0 from by rw [r0]; decide)⟩, (show (xI h1 (xR h1 59 0) 0) ≤ kk from by rw [r0]; exact Int32.le_iff_toInt_le.mpr (by omega))⟩
    obtain rfl : k = (Z 0).toNat := by omega
    exact ⟨kk, h1, t1, G, fun r hr => I1 r (by omega)⟩
  | m + 1, k, kk, h1, G, hk, hm, I1, I2 => by
    obtain ⟨⟨⟨B00, B01⟩, ⟨B10, B11⟩, ⟨B20, B21⟩, B30, B31⟩, g6, zj, zv, LW⟩ := id A
    have r0 : xR h1 59 0 = 24 := (G.2.2 59 0).trans kw.2.2.2.2.2
    have hg1 := G.1
    have ej : (xI h1 24 0).toInt = Z 0 := by rw [G.2.1 24 0 (by decide)]; exact kt.1.1 0 (by decide)
    have lk : (k : Int) < Z 0 := by omega
    have nk : kk.toNatClampNeg = k := zi_ix hk
    have sk := y_suc1 (k := kk) (by omega) (by omega)
    have t1 : XT l 5 118 false 101 153 6051 2 [xf 11 59, xi kk] [] h1 22 [xf 11 59, xi kk] [xi kk, xf 11 59, xi (xI h1 (xR h1 59 2) (kk).toNatClampNeg), xi kk, xf 10006 (xR h1 59 2)] h1 := XT_path (l := l) (fr := 5) (lo := 118) (full := false) (M := 101) (n := 153) (u := 6051) (pc := 2) (L := [xf 11 59, xi kk]) (st := []) (h := h1) (inl := []) (n' := 120) (sp := [22]) (o := [0]) rfl rfl ⟨rfl, rfl, rfl⟩ rfl ⟨Nat.le_of_eq hg1.2.2.2.1, Nat.le_of_eq hg1.2.2.2.2⟩ ⟨⟨⟨⟨trivial, (show ¬ xR h1 59 0 = 0 from by rw [r0]; decide)⟩, (show ¬ (xI h1 (xR h1 59 0) 0) ≤ kk from by rw [r0]; exact fun z => absurd (Int32.le_iff_toInt_le.mp z) (by omega))⟩, (vnn hg1.1 (rfl : vRf 59 2 = [61]) (by decide))⟩, (vp_of (i := kk) (n := 6) (by omega) (by omega))⟩
    rw [vref hg1.1 (rfl : vRf 59 2 = [61])] at t1
    obtain ⟨v, h2, c1, g1, ev⟩ := ck_yieldOf59_24 l Z Y kk k h1 hg1 A (kt.q G (by decide)) (kw.q G (by decide)) V (kd.q G (by decide)) (ke.q G (by decide)) hk lk
    have t2 : XT l 5 118 false 101 153 6051 22 [xf 11 59, xi kk] [xi kk, xf 11 59, xi (xI h1 61 (kk).toNatClampNeg), xi kk, xf 10006 61] h1 25 [xf 11 59, xi kk] [xi v, xi (xI h1 61 (kk).toNatClampNeg), xi kk, xf 10006 61] h2 := XT_call (l := l) (fr := 5) (lo := 118) (full := false) (M := 101) (n := 153) (u := 6051) (pc := 22) (L := [xf 11 59, xi kk]) (st := [xi kk, xf 11 59, xi (xI h1 61 (kk).toNatClampNeg), xi kk, xf 10006 61]) (h := h1) (i := .invokevirtual 81) (aux := 2) (nx := 25) (K := 81) (vs := [xf 11 59, xi kk]) (rs := [xi v]) (rest := [xi (xI h1 61 (kk).toNatClampNeg), xi kk, xf 10006 61]) rfl rfl rfl rfl rfl rfl c1 (by decide) (by decide) (Nat.le_of_ble_eq_true rfl) ⟨Nat.le_of_eq g1.1.2.2.2.1, Nat.le_of_eq g1.1.2.2.2.2⟩
    have t3 := t1.tr t2
    have t4 : XT l 5 118 false 101 153 6051 25 [xf 11 59, xi kk] [xi v, xi (xI h1 61 (kk).toNatClampNeg), xi kk, xf 10006 61] h2 2 [xf 11 59, xi (kk + Int32.ofInt (1))] [] (xsetI h2 61 (kk).toNatClampNeg ((xI h1 61 (kk).toNatClampNeg) + v)) := XT_path (l := l) (fr := 5) (lo := 118) (full := false) (M := 101) (n := 153) (u := 6051) (pc := 25) (L := [xf 11 59, xi kk]) (st := [xi v, xi (xI h1 61 (kk).toNatClampNeg), xi kk, xf 10006 61]) (h := h2) (inl := []) (n' := 120) (sp := [2]) (o := []) rfl rfl ⟨rfl, rfl, rfl⟩ rfl ⟨Nat.le_of_eq g1.1.2.2.2.1, Nat.le_of_eq g1.1.2.2.2.2⟩ ⟨trivial, (vp_of (i := kk) (n := 6) (by omega) (by omega))⟩
    have t5 := t3.tr t4
    obtain ⟨hE, eE⟩ : ∃ x, x = (xsetI h2 61 (kk).toNatClampNeg ((xI h1 61 (kk).toNatClampNeg) + v)) := ⟨_, rfl⟩
    have eE2 : hE = xsetI h2 61 k (xI h1 61 k + v) := by rw [eE]; simp only [nk]
    rw [← eE] at t5
    have GE : mQ [61] h hE := by rw [eE2]; exact (G.tr g1.q).set (by decide) (by rw [vI_u rfl (rfl : vRow 61 = sfull)]; exact i32r_of _)
    obtain ⟨k3, h9, t9, G9, I9⟩ := ck_reapA59_24 l Z Y h hg A kt kw V kd ke m (k + 1) (kk + Int32.ofInt (1)) hE GE (by omega) (by omega) (fun r hr => by rw [eE2]; exact if e : r = k then (by rw [e, yI_same, zRp_y lk, I2 k (Nat.le_refl _) lk, ev]) else (by rw [yI_ne (eq_false (fun z => e z.2)), g1.2.1]; exact I1 r (by omega))) (fun r q1 q2 => by rw [eE2, yI_ne (eq_false (fun z => by have := z.2; omega)), g1.2.1]; exact I2 r (by omega) q2)
    exact ⟨k3, h9, t5.tr t9, G9, I9⟩
set_option maxRecDepth 100000 in
set_option maxHeartbeats 4000000 in
theorem ck_reapB59_24 (l : Launch) (Z : Nat → Int) (Y : Nat → Int32) (h : XH) (hg : mI h) (A : zAll Z) (kt : kTx 24 Z h) (kw : kW 59 24 Z Y h) (V : zVd Z Y) : ∀ (m k : Nat) (kk : Int32) (h1 : XH), mQ [65] h h1 → kk.toInt = k → (k : Int) + m = Z 2 → (∀ r : Nat, r < k → xI h1 65 r = zRp Z Y (40 + r)) → (∀ r : Nat, k ≤ r → (r : Int) < Z 2 → xI h1 65 r = Y (40 + r)) → ∃ k2 h2, XT l 5 118 false 101 153 6051 35 [xf 11 59, xi kk] [] h1 85 [xf 11 59, xi k2] [] h2 ∧ mQ [65] h h2 ∧ (∀ r : Nat, (r : Int) < Z 2 → xI h2 65 r = zRp Z Y (40 + r))
  | 0, k, kk, h1, G, hk, hm, I1, I2 => by
    obtain ⟨⟨⟨B00, B01⟩, ⟨B10, B11⟩, ⟨B20, B21⟩, B30, B31⟩, g6, zj, zv, LW⟩ := id A
    have r0 : xR h1 59 0 = 24 := (G.2.2 59 0).trans kw.2.2.2.2.2
    have hg1 := G.1
    have ej : (xI h1 24 9).toInt = Z 2 := by rw [G.2.1 24 9 (by decide)]; exact kt.1.1 2 (by decide)
    have t1 : XT l 5 118 false 101 153 6051 35 [xf 11 59, xi kk] [] h1 85 [xf 11 59, xi kk] [] h1 := XT_path (l := l) (fr := 5) (lo := 118) (full := false) (M := 101) (n := 153) (u := 6051) (pc := 35) (L := [xf 11 59, xi kk]) (st := []) (h := h1) (inl := []) (n' := 120) (sp := [85]) (o := [1]) rfl rfl ⟨rfl, rfl, rfl⟩ rfl ⟨Nat.le_of_eq hg1.2.2.2.1, Nat.le_of_eq hg1.2.2.2.2⟩ ⟨⟨trivial, (show ¬ xR h1 59 0 = 0 from by rw [r0]; decide)⟩, (show (xI h1 (xR h1 59 0) 9) ≤ kk from by rw [r0]; exact Int32.le_iff_toInt_le.mpr (by omega))⟩
    obtain rfl : k = (Z 2).toNat := by omega
    exact ⟨kk, h1, t1, G, fun r hr => I1 r (by omega)⟩
  | m + 1, k, kk, h1, G, hk, hm, I1, I2 => by
    obtain ⟨⟨⟨B00, B01⟩, ⟨B10, B11⟩, ⟨B20, B21⟩, B30, B31⟩, g6, zj, zv, LW⟩ := id A
    have r0 : xR h1 59 0 = 24 := (G.2.2 59 0).trans kw.2.2.2.2.2
    have hg1 := G.1
    have ej : (xI h1 24 9).toInt = Z 2 := by rw [G.2.1 24 9 (by decide)]; exact kt.1.1 2 (by decide)
    have lk : (k : Int) < Z 2 := by omega
    have nk : kk.toNatClampNeg = k := zi_ix hk
    have sk := y_suc1 (k := kk) (by omega) (by omega)
    have kt1 : kTx 24 Z h1 := kt.q G (by decide)
    have kw1 : kW 59 24 Z Y h1 := kw.q G (by decide)
    have eh := congrArg Int32.toInt (show xI h1 63 kk.toNatClampNeg = Y (20 + k) from by rw [nk]; exact (kw1.2.1 k lk).1)
    have bh := V.2.1 k lk
    obtain ⟨H, hH⟩ : ∃ H : Nat, H = (Y (20 + k)).toInt.toNat := ⟨_, rfl⟩
    have nh : (xI h1 63 kk.toNatClampNeg).toNatClampNeg = H := zi_ix (by omega)
    have es : (xI h1 60 (xI h1 63 kk.toNatClampNeg).toNatClampNeg).toInt = (Y H).toInt := by rw [nh]; exact congrArg Int32.toInt (kw1.1 H (by omega))
    have ez : (xI h1 34 kk.toNatClampNeg).toInt = Z (190 + k) := by rw [nk]; exact kt1.1.2.2 9 k (by decide) lk
    by_cases cb1 : (xI h1 (xR h1 (xR h1 59 0) 12) (kk).toNatClampNeg) ≤ (xI h1 (xR h1 59 1) ((xI h1 (xR h1 59 4) (kk).toNatClampNeg)).toNatClampNeg)
    · have cb1r := cb1
      rw [r0, vref hg1.1 (rfl : vRf 59 1 = [60]), vref hg1.1 (rfl : vRf 59 4 = [63]), vref hg1.1 (rfl : vRf 24 12 = [34])] at cb1r
      have dcb1 : (xI h1 34 (kk).toNatClampNeg).toInt ≤ (xI h1 60 ((xI h1 63 (kk).toNatClampNeg)).toNatClampNeg).toInt := Int32.le_iff_toInt_le.mp cb1r
      have t2 : XT l 5 118 false 101 153 6051 35 [xf 11 59, xi kk] [] h1 35 [xf 11 59, xi (kk + Int32.ofInt (1))] [] h1 := XT_path (l := l) (fr := 5) (lo := 118) (full := false) (M := 101) (n := 153) (u := 6051) (pc := 35) (L := [xf 11 59, xi kk]) (st := []) (h := h1) (inl := []) (n' := 120) (sp := [35]) (o := [0, 1]) rfl rfl ⟨rfl, rfl, rfl⟩ rfl ⟨Nat.le_of_eq hg1.2.2.2.1, Nat.le_of_eq hg1.2.2.2.2⟩ ⟨⟨⟨⟨⟨⟨⟨⟨⟨⟨trivial, (show ¬ xR h1 59 0 = 0 from by rw [r0]; decide)⟩, (show ¬ (xI h1 (xR h1 59 0) 9) ≤ kk from by rw [r0]; exact fun z => absurd (Int32.le_iff_toInt_le.mp z) (by omega))⟩, (show ¬ xR h1 59 0 = 0 from by rw [r0]; decide)⟩, (show ¬ xR h1 (xR h1 59 0) 12 = 0 from by rw [r0]; exact vnn hg1.1 (rfl : vRf 24 12 = [34]) (by decide))⟩, (vp_of (i := kk) (n := 8) (by omega) (by omega))⟩, (vnn hg1.1 (rfl : vRf 59 1 = [60]) (by decide))⟩, (vnn hg1.1 (rfl : vRf 59 4 = [63]) (by decide))⟩, (vp_of (i := kk) (n := 8) (by omega) (by omega))⟩, (show vp_in ((xI h1 (xR h1 59 4) (kk).toNatClampNeg)) (6) from (by rw [vref hg1.1 (rfl : vRf 59 4 = [63])]; exact (vp_of (i := (xI h1 63 (kk).toNatClampNeg)) (n := 6) (by omega) (by omega) : vp_in ((xI h1 63 (kk).toNatClampNeg)) (6))))⟩, cb1⟩
      have GE : mQ [65] h h1 := G
      have eK : xI h1 65 k = zRp Z Y (40 + k) := by rw [zRp_b B01 lk, ← hH, if_neg (by omega)]; exact I2 k (Nat.le_refl _) lk
      have eO : ∀ r : Nat, ¬ r = k → xI h1 65 r = xI h1 65 r := fun r hr => rfl
      obtain ⟨k3, h9, t9, G9, I9⟩ := ck_reapB59_24 l Z Y h hg A kt kw V m (k + 1) (kk + Int32.ofInt (1)) h1 GE (by omega) (by omega) (fun r hr => if e : r = k then (by rw [e]; exact eK) else (by rw [eO r e]; exact I1 r (by omega))) (fun r q1 q2 => by rw [eO r (by omega)]; exact I2 r (by omega) q2)
      exact ⟨k3, h9, t2.tr t9, G9, I9⟩
    · have cb1r := cb1
      rw [r0, vref hg1.1 (rfl : vRf 59 1 = [60]), vref hg1.1 (rfl : vRf 59 4 = [63]), vref hg1.1 (rfl : vRf 24 12 = [34])] at cb1r
      have dcb1 : (xI h1 60 ((xI h1 63 (kk).toNatClampNeg)).toNatClampNeg).toInt < (xI h1 34 (kk).toNatClampNeg).toInt := Int32.lt_iff_toInt_lt.mp (Int32.not_le.mp cb1r)
      have t3 : XT l 5 118 false 101 153 6051 35 [xf 11 59, xi kk] [] h1 35 [xf 11 59, xi (kk + Int32.ofInt (1))] [] (xsetI h1 (xR h1 59 6) (kk).toNatClampNeg ((xI h1 (xR h1 59 6) (kk).toNatClampNeg) + (Int32.ofInt (1)))) := XT_path (l := l) (fr := 5) (lo := 118) (full := false) (M := 101) (n := 153) (u := 6051) (pc := 35) (L := [xf 11 59, xi kk]) (st := []) (h := h1) (inl := []) (n' := 120) (sp := [35]) (o := [0, 0]) rfl rfl ⟨rfl, rfl, rfl⟩ rfl ⟨Nat.le_of_eq hg1.2.2.2.1, Nat.le_of_eq hg1.2.2.2.2⟩ ⟨⟨⟨⟨⟨⟨⟨⟨⟨⟨⟨⟨⟨trivial, (show ¬ xR h1 59 0 = 0 from by rw [r0]; decide)⟩, (show ¬ (xI h1 (xR h1 59 0) 9) ≤ kk from by rw [r0]; exact fun z => absurd (Int32.le_iff_toInt_le.mp z) (by omega))⟩, (show ¬ xR h1 59 0 = 0 from by rw [r0]; decide)⟩, (show ¬ xR h1 (xR h1 59 0) 12 = 0 from by rw [r0]; exact vnn hg1.1 (rfl : vRf 24 12 = [34]) (by decide))⟩, (vp_of (i := kk) (n := 8) (by omega) (by omega))⟩, (vnn hg1.1 (rfl : vRf 59 1 = [60]) (by decide))⟩, (vnn hg1.1 (rfl : vRf 59 4 = [63]) (by decide))⟩, (vp_of (i := kk) (n := 8) (by omega) (by omega))⟩, (show vp_in ((xI h1 (xR h1 59 4) (kk).toNatClampNeg)) (6) from (by rw [vref hg1.1 (rfl : vRf 59 4 = [63])]; exact (vp_of (i := (xI h1 63 (kk).toNatClampNeg)) (n := 6) (by omega) (by omega) : vp_in ((xI h1 63 (kk).toNatClampNeg)) (6))))⟩, cb1⟩, (vnn hg1.1 (rfl : vRf 59 6 = [65]) (by decide))⟩, (vp_of (i := kk) (n := 8) (by omega) (by omega))⟩, (vp_of (i := kk) (n := 8) (by omega) (by omega))⟩
      rw [vref hg1.1 (rfl : vRf 59 6 = [65])] at t3
      obtain ⟨hE, eE⟩ : ∃ x, x = (xsetI h1 65 (kk).toNatClampNeg ((xI h1 65 (kk).toNatClampNeg) + (Int32.ofInt (1)))) := ⟨_, rfl⟩
      have eE2 : hE = xsetI h1 65 k (xI h1 65 k + (Int32.ofInt (1))) := by rw [eE]; simp only [nk]
      have GE : mQ [65] h hE := by rw [eE2]; exact G.set (by decide) (by rw [vI_u rfl (rfl : vRow 65 = sfull)]; exact i32r_of _)
      have eK : xI hE 65 k = zRp Z Y (40 + k) := by rw [eE2, yI_same, zRp_b B01 lk, ← hH, if_pos (by omega), I2 k (Nat.le_refl _) lk]
      have eO : ∀ r : Nat, ¬ r = k → xI hE 65 r = xI h1 65 r := fun r hr => by rw [eE2]; exact yI_ne (eq_false (fun z => hr z.2))
      rw [← eE] at t3
      obtain ⟨k3, h9, t9, G9, I9⟩ := ck_reapB59_24 l Z Y h hg A kt kw V m (k + 1) (kk + Int32.ofInt (1)) hE GE (by omega) (by omega) (fun r hr => if e : r = k then (by rw [e]; exact eK) else (by rw [eO r e]; exact I1 r (by omega))) (fun r q1 q2 => by rw [eO r (by omega)]; exact I2 r (by omega) q2)
      exact ⟨k3, h9, t3.tr t9, G9, I9⟩
set_option maxRecDepth 100000 in
set_option maxHeartbeats 4000000 in
theorem ck_reap59_24 (l : Launch) (Z : Nat → Int) (Y : Nat → Int32) (h : XH) (hg : mI h) (A : zAll Z) (kt : kTx 24 Z h) (kw : kW 59 24 Z Y h) (V : zVd Z Y) (kd : kD 59 Z Y h) (ke : kE 59 Z Y h) (ky : kY 59 Z Y h) : ∃ h', CX l 5 118 false 101 [xf 11 59] h [] h' ∧ mQ [61, 65] h h' ∧ kW 59 24 Z (zRp Z Y) h' ∧ kD 59 Z (zRp Z Y) h' ∧ kE 59 Z (zRp Z Y) h' ∧ kY 59 Z (zRp Z Y) h' := by
  obtain ⟨⟨⟨B00, B01⟩, ⟨B10, B11⟩, ⟨B20, B21⟩, B30, B31⟩, g6, zj, zv, LW⟩ := id A
  have t1 : XT l 5 118 false 101 153 6051 0 [xf 11 59, xun] [] h 2 [xf 11 59, xi (Int32.ofInt (0))] [] h := XT_path (l := l) (fr := 5) (lo := 118) (full := false) (M := 101) (n := 153) (u := 6051) (pc := 0) (L := [xf 11 59, xun]) (st := []) (h := h) (inl := []) (n' := 60) (sp := [2]) (o := []) rfl rfl ⟨rfl, rfl, rfl⟩ rfl ⟨Nat.le_of_eq hg.2.2.2.1, Nat.le_of_eq hg.2.2.2.2⟩ trivial
  obtain ⟨k2, h2, u2, G2, I2⟩ := ck_reapA59_24 l Z Y h hg A kt kw V kd ke (Z 0).toNat 0 (Int32.ofInt (0)) h (mQ.rf hg) rfl (by omega) (fun r hr => absurd hr (Nat.not_lt_zero r)) (fun r _ hr => ky.1 r hr)
  have T2 := t1.tr u2
  have t2 : XT l 5 118 false 101 153 6051 33 [xf 11 59, xi k2] [] h2 35 [xf 11 59, xi (Int32.ofInt (0))] [] h2 := XT_path (l := l) (fr := 5) (lo := 118) (full := false) (M := 101) (n := 153) (u := 6051) (pc := 33) (L := [xf 11 59, xi k2]) (st := []) (h := h2) (inl := []) (n' := 60) (sp := [35]) (o := []) rfl rfl ⟨rfl, rfl, rfl⟩ rfl ⟨Nat.le_of_eq G2.1.2.2.2.1, Nat.le_of_eq G2.1.2.2.2.2⟩ trivial
  have t3 := T2.tr t2
  obtain ⟨k3, h3, u3, G3, I3⟩ := ck_reapB59_24 l Z Y h2 G2.1 A (kt.q G2 (by decide)) (kw.q G2 (by decide)) V (Z 2).toNat 0 (Int32.ofInt (0)) h2 (mQ.rf G2.1) rfl (by omega) (fun r hr => absurd hr (Nat.not_lt_zero r)) (fun r _ hr => by rw [G2.2.1 65 r (by decide)]; exact ky.2 r hr)
  have T3 := t3.tr u3
  have G : mQ [61, 65] h h3 := (G2.mono (by decide)).tr (G3.mono (by decide))
  exact ⟨h3, CX_ofT (h' := h3) (by decide) rfl rfl trivial ⟨_, _, _, rfl, rfl, rfl⟩ rfl ⟨Nat.le_of_eq G3.1.2.2.2.1.symm, Nat.le_of_eq G3.1.2.2.2.2.symm⟩ T3, G, (kw.q G (by decide)).same A.1 (zRp_o A.1), (kd.q G (by decide)).sm zv B01 (zSm_rp A.1), (ke.q G (by decide)).sm B21 (zSm_rp A.1), fun r hr => by rw [G3.2.1 61 r (by decide)]; exact I2 r hr, fun r hr => I3 r hr⟩
set_option maxRecDepth 100000 in
set_option maxHeartbeats 4000000 in
theorem ck_closeW48_3 (l : Launch) (Z : Nat → Int) (Y : Nat → Int32) (h : XH) (hg : mI h) (A : zAll Z) (kt : kTx 3 Z h) (kw : kW 48 3 Z Y h) : ∃ h', CX l 1 23 false 102 [xf 11 48] h [] h' ∧ mC 48 h h' ∧ kW 48 3 Z (zCls Y) h' := by
  obtain ⟨⟨⟨B00, B01⟩, ⟨B10, B11⟩, ⟨B20, B21⟩, B30, B31⟩, g6, zj, zv, LW⟩ := id A
  have t1 : XT l 1 23 false 102 153 6051 0 [xf 11 48] [] h 5 [xf 11 48] [xi (Int32.ofInt (2)), xf 10008 (xR h 48 5)] h := XT_path (l := l) (fr := 1) (lo := 23) (full := false) (M := 102) (n := 153) (u := 6051) (pc := 0) (L := [xf 11 48]) (st := []) (h := h) (inl := []) (n' := 60) (sp := [5]) (o := []) rfl rfl ⟨rfl, rfl, rfl⟩ rfl ⟨Nat.le_of_eq hg.2.2.2.1, Nat.le_of_eq hg.2.2.2.2⟩ ⟨trivial, (vnn hg.1 (rfl : vRf 48 5 = [53]) (by decide))⟩
  rw [vref hg.1 (rfl : vRf 48 5 = [53])] at t1
  obtain ⟨h1, c1, G1, z1⟩ := cm_fill53 l h hg
  have t2 : XT l 1 23 false 102 153 6051 5 [xf 11 48] [xi (Int32.ofInt (2)), xf 10008 53] h 8 [xf 11 48] [] h1 := XT_call (l := l) (fr := 1) (lo := 23) (full := false) (M := 102) (n := 153) (u := 6051) (pc := 5) (L := [xf 11 48]) (st := [xi (Int32.ofInt (2)), xf 10008 53]) (h := h) (i := .invokestatic 5) (aux := 2) (nx := 8) (K := 5) (vs := [xf 10008 53, xi (Int32.ofInt (2))]) (rs := []) (rest := []) rfl rfl rfl rfl rfl rfl c1 (by decide) (by decide) (Nat.le_of_ble_eq_true rfl) ⟨Nat.le_of_eq G1.1.2.2.2.1, Nat.le_of_eq G1.1.2.2.2.2⟩
  have t3 := t1.tr t2
  have t4 : XT l 1 23 false 102 153 6051 8 [xf 11 48] [] h1 18 [xf 11 48] [] (xsetI h1 48 7 ((xI h1 48 7) + (Int32.ofInt (1)))) := XT_path (l := l) (fr := 1) (lo := 23) (full := false) (M := 102) (n := 153) (u := 6051) (pc := 8) (L := [xf 11 48]) (st := []) (h := h1) (inl := []) (n' := 60) (sp := [18]) (o := []) rfl rfl ⟨rfl, rfl, rfl⟩ rfl ⟨Nat.le_of_eq G1.1.2.2.2.1, Nat.le_of_eq G1.1.2.2.2.2⟩ trivial
  have t5 := t3.tr t4
  obtain ⟨hE, eE⟩ : ∃ x, x = (xsetI h1 48 7 ((xI h1 48 7) + (Int32.ofInt (1)))) := ⟨_, rfl⟩
  have eE2 : hE = xsetI h1 48 7 (xI h1 48 7 + (Int32.ofInt (1))) := eE
  have GE : mQ [48, 53] h hE := by rw [eE2]; exact (G1.mono (by decide)).set (by decide) (show (-2147483648 : Int) ≤ _ ∧ _ ≤ 2147483647 from i32r_of _)
  have eO : ∀ k, ¬ k = 7 → xI hE 48 k = xI h 48 k := fun k hk => by rw [eE2, yI_ne (eq_false (fun z => hk z.2))]; exact G1.2.1 48 k (by decide)
  have e5 : ∀ k, xI hE 53 k = xI h1 53 k := fun k => by rw [eE2]; exact yI_c (by decide)
  rw [← eE] at t5
  refine ⟨hE, CX_ofT (h' := hE) (by decide) rfl rfl trivial ⟨_, _, _, rfl, rfl, rfl⟩ rfl ⟨Nat.le_of_eq GE.1.2.2.2.1.symm, Nat.le_of_eq GE.1.2.2.2.2.symm⟩ t5, ⟨GE, eO⟩, ?_⟩
  obtain ⟨a1, a2, a3, a4, a5, a6⟩ := kw
  have e3 : xI hE 48 7 = zCls Y 50 := by rw [eE2, yI_same, G1.2.1 48 7 (by decide), a3]; exact (if_pos rfl).symm.trans (if_neg (by decide)).symm
  have f : ∀ i, ¬ (30 ≤ i ∧ i < 40) → ¬ i = 50 → zCls Y i = Y i := fun i h1 h2 => (if_neg h1).trans (if_neg h2)
  refine ⟨fun r hr => by rw [GE.2.1 49 r (by decide), f r (by omega) (by omega)]; exact a1 r hr, fun p hp => ⟨by rw [GE.2.1 52 p (by decide), f (20 + p) (by omega) (by omega)]; exact (a2 p hp).1, by rw [e5, z1 p (by omega)]; exact (if_pos (by omega)).symm⟩, e3, by rw [eO 10 (by decide), f 51 (by decide) (by decide)]; exact a4, fun z => by rw [f 51 (by decide) (by decide)] at z; rw [eO 11 (by decide), f 52 (by decide) (by decide)]; exact a5 z, (GE.2.2 _ _).trans a6⟩
set_option maxRecDepth 100000 in
set_option maxHeartbeats 4000000 in
theorem ck_closeW48_24 (l : Launch) (Z : Nat → Int) (Y : Nat → Int32) (h : XH) (hg : mI h) (A : zAll Z) (kt : kTx 24 Z h) (kw : kW 48 24 Z Y h) : ∃ h', CX l 1 23 false 102 [xf 11 48] h [] h' ∧ mC 48 h h' ∧ kW 48 24 Z (zCls Y) h' := by
  obtain ⟨⟨⟨B00, B01⟩, ⟨B10, B11⟩, ⟨B20, B21⟩, B30, B31⟩, g6, zj, zv, LW⟩ := id A
  have t1 : XT l 1 23 false 102 153 6051 0 [xf 11 48] [] h 5 [xf 11 48] [xi (Int32.ofInt (2)), xf 10008 (xR h 48 5)] h := XT_path (l := l) (fr := 1) (lo := 23) (full := false) (M := 102) (n := 153) (u := 6051) (pc := 0) (L := [xf 11 48]) (st := []) (h := h) (inl := []) (n' := 60) (sp := [5]) (o := []) rfl rfl ⟨rfl, rfl, rfl⟩ rfl ⟨Nat.le_of_eq hg.2.2.2.1, Nat.le_of_eq hg.2.2.2.2⟩ ⟨trivial, (vnn hg.1 (rfl : vRf 48 5 = [53]) (by decide))⟩
  rw [vref hg.1 (rfl : vRf 48 5 = [53])] at t1
  obtain ⟨h1, c1, G1, z1⟩ := cm_fill53 l h hg
  have t2 : XT l 1 23 false 102 153 6051 5 [xf 11 48] [xi (Int32.ofInt (2)), xf 10008 53] h 8 [xf 11 48] [] h1 := XT_call (l := l) (fr := 1) (lo := 23) (full := false) (M := 102) (n := 153) (u := 6051) (pc := 5) (L := [xf 11 48]) (st := [xi (Int32.ofInt (2)), xf 10008 53]) (h := h) (i := .invokestatic 5) (aux := 2) (nx := 8) (K := 5) (vs := [xf 10008 53, xi (Int32.ofInt (2))]) (rs := []) (rest := []) rfl rfl rfl rfl rfl rfl c1 (by decide) (by decide) (Nat.le_of_ble_eq_true rfl) ⟨Nat.le_of_eq G1.1.2.2.2.1, Nat.le_of_eq G1.1.2.2.2.2⟩
  have t3 := t1.tr t2
  have t4 : XT l 1 23 false 102 153 6051 8 [xf 11 48] [] h1 18 [xf 11 48] [] (xsetI h1 48 7 ((xI h1 48 7) + (Int32.ofInt (1)))) := XT_path (l := l) (fr := 1) (lo := 23) (full := false) (M := 102) (n := 153) (u := 6051) (pc := 8) (L := [xf 11 48]) (st := []) (h := h1) (inl := []) (n' := 60) (sp := [18]) (o := []) rfl rfl ⟨rfl, rfl, rfl⟩ rfl ⟨Nat.le_of_eq G1.1.2.2.2.1, Nat.le_of_eq G1.1.2.2.2.2⟩ trivial
  have t5 := t3.tr t4
  obtain ⟨hE, eE⟩ : ∃ x, x = (xsetI h1 48 7 ((xI h1 48 7) + (Int32.ofInt (1)))) := ⟨_, rfl⟩
  have eE2 : hE = xsetI h1 48 7 (xI h1 48 7 + (Int32.ofInt (1))) := eE
  have GE : mQ [48, 53] h hE := by rw [eE2]; exact (G1.mono (by decide)).set (by decide) (show (-2147483648 : Int) ≤ _ ∧ _ ≤ 2147483647 from i32r_of _)
  have eO : ∀ k, ¬ k = 7 → xI hE 48 k = xI h 48 k := fun k hk => by rw [eE2, yI_ne (eq_false (fun z => hk z.2))]; exact G1.2.1 48 k (by decide)
  have e5 : ∀ k, xI hE 53 k = xI h1 53 k := fun k => by rw [eE2]; exact yI_c (by decide)
  rw [← eE] at t5
  refine ⟨hE, CX_ofT (h' := hE) (by decide) rfl rfl trivial ⟨_, _, _, rfl, rfl, rfl⟩ rfl ⟨Nat.le_of_eq GE.1.2.2.2.1.symm, Nat.le_of_eq GE.1.2.2.2.2.symm⟩ t5, ⟨GE, eO⟩, ?_⟩
  obtain ⟨a1, a2, a3, a4, a5, a6⟩ := kw
  have e3 : xI hE 48 7 = zCls Y 50 := by rw [eE2, yI_same, G1.2.1 48 7 (by decide), a3]; exact (if_pos rfl).symm.trans (if_neg (by decide)).symm
  have f : ∀ i, ¬ (30 ≤ i ∧ i < 40) → ¬ i = 50 → zCls Y i = Y i := fun i h1 h2 => (if_neg h1).trans (if_neg h2)
  refine ⟨fun r hr => by rw [GE.2.1 49 r (by decide), f r (by omega) (by omega)]; exact a1 r hr, fun p hp => ⟨by rw [GE.2.1 52 p (by decide), f (20 + p) (by omega) (by omega)]; exact (a2 p hp).1, by rw [e5, z1 p (by omega)]; exact (if_pos (by omega)).symm⟩, e3, by rw [eO 10 (by decide), f 51 (by decide) (by decide)]; exact a4, fun z => by rw [f 51 (by decide) (by decide)] at z; rw [eO 11 (by decide), f 52 (by decide) (by decide)]; exact a5 z, (GE.2.2 _ _).trans a6⟩
set_option maxRecDepth 100000 in
set_option maxHeartbeats 4000000 in
theorem ck_closeW59_3 (l : Launch) (Z : Nat → Int) (Y : Nat → Int32) (h : XH) (hg : mI h) (A : zAll Z) (kt : kTx 3 Z h) (kw : kW 59 3 Z Y h) : ∃ h', CX l 1 23 false 102 [xf 11 59] h [] h' ∧ mC 59 h h' ∧ kW 59 3 Z (zCls Y) h' := by
  obtain ⟨⟨⟨B00, B01⟩, ⟨B10, B11⟩, ⟨B20, B21⟩, B30, B31⟩, g6, zj, zv, LW⟩ := id A
  have t1 : XT l 1 23 false 102 153 6051 0 [xf 11 59] [] h 5 [xf 11 59] [xi (Int32.ofInt (2)), xf 10008 (xR h 59 5)] h := XT_path (l := l) (fr := 1) (lo := 23) (full := false) (M := 102) (n := 153) (u := 6051) (pc := 0) (L := [xf 11 59]) (st := []) (h := h) (inl := []) (n' := 60) (sp := [5]) (o := []) rfl rfl ⟨rfl, rfl, rfl⟩ rfl ⟨Nat.le_of_eq hg.2.2.2.1, Nat.le_of_eq hg.2.2.2.2⟩ ⟨trivial, (vnn hg.1 (rfl : vRf 59 5 = [64]) (by decide))⟩
  rw [vref hg.1 (rfl : vRf 59 5 = [64])] at t1
  obtain ⟨h1, c1, G1, z1⟩ := cm_fill64 l h hg
  have t2 : XT l 1 23 false 102 153 6051 5 [xf 11 59] [xi (Int32.ofInt (2)), xf 10008 64] h 8 [xf 11 59] [] h1 := XT_call (l := l) (fr := 1) (lo := 23) (full := false) (M := 102) (n := 153) (u := 6051) (pc := 5) (L := [xf 11 59]) (st := [xi (Int32.ofInt (2)), xf 10008 64]) (h := h) (i := .invokestatic 5) (aux := 2) (nx := 8) (K := 5) (vs := [xf 10008 64, xi (Int32.ofInt (2))]) (rs := []) (rest := []) rfl rfl rfl rfl rfl rfl c1 (by decide) (by decide) (Nat.le_of_ble_eq_true rfl) ⟨Nat.le_of_eq G1.1.2.2.2.1, Nat.le_of_eq G1.1.2.2.2.2⟩
  have t3 := t1.tr t2
  have t4 : XT l 1 23 false 102 153 6051 8 [xf 11 59] [] h1 18 [xf 11 59] [] (xsetI h1 59 7 ((xI h1 59 7) + (Int32.ofInt (1)))) := XT_path (l := l) (fr := 1) (lo := 23) (full := false) (M := 102) (n := 153) (u := 6051) (pc := 8) (L := [xf 11 59]) (st := []) (h := h1) (inl := []) (n' := 60) (sp := [18]) (o := []) rfl rfl ⟨rfl, rfl, rfl⟩ rfl ⟨Nat.le_of_eq G1.1.2.2.2.1, Nat.le_of_eq G1.1.2.2.2.2⟩ trivial
  have t5 := t3.tr t4
  obtain ⟨hE, eE⟩ : ∃ x, x = (xsetI h1 59 7 ((xI h1 59 7) + (Int32.ofInt (1)))) := ⟨_, rfl⟩
  have eE2 : hE = xsetI h1 59 7 (xI h1 59 7 + (Int32.ofInt (1))) := eE
  have GE : mQ [59, 64] h hE := by rw [eE2]; exact (G1.mono (by decide)).set (by decide) (show (-2147483648 : Int) ≤ _ ∧ _ ≤ 2147483647 from i32r_of _)
  have eO : ∀ k, ¬ k = 7 → xI hE 59 k = xI h 59 k := fun k hk => by rw [eE2, yI_ne (eq_false (fun z => hk z.2))]; exact G1.2.1 59 k (by decide)
  have e5 : ∀ k, xI hE 64 k = xI h1 64 k := fun k => by rw [eE2]; exact yI_c (by decide)
  rw [← eE] at t5
  refine ⟨hE, CX_ofT (h' := hE) (by decide) rfl rfl trivial ⟨_, _, _, rfl, rfl, rfl⟩ rfl ⟨Nat.le_of_eq GE.1.2.2.2.1.symm, Nat.le_of_eq GE.1.2.2.2.2.symm⟩ t5, ⟨GE, eO⟩, ?_⟩
  obtain ⟨a1, a2, a3, a4, a5, a6⟩ := kw
  have e3 : xI hE 59 7 = zCls Y 50 := by rw [eE2, yI_same, G1.2.1 59 7 (by decide), a3]; exact (if_pos rfl).symm.trans (if_neg (by decide)).symm
  have f : ∀ i, ¬ (30 ≤ i ∧ i < 40) → ¬ i = 50 → zCls Y i = Y i := fun i h1 h2 => (if_neg h1).trans (if_neg h2)
  refine ⟨fun r hr => by rw [GE.2.1 60 r (by decide), f r (by omega) (by omega)]; exact a1 r hr, fun p hp => ⟨by rw [GE.2.1 63 p (by decide), f (20 + p) (by omega) (by omega)]; exact (a2 p hp).1, by rw [e5, z1 p (by omega)]; exact (if_pos (by omega)).symm⟩, e3, by rw [eO 10 (by decide), f 51 (by decide) (by decide)]; exact a4, fun z => by rw [f 51 (by decide) (by decide)] at z; rw [eO 11 (by decide), f 52 (by decide) (by decide)]; exact a5 z, (GE.2.2 _ _).trans a6⟩
set_option maxRecDepth 100000 in
set_option maxHeartbeats 4000000 in
theorem ck_closeW59_24 (l : Launch) (Z : Nat → Int) (Y : Nat → Int32) (h : XH) (hg : mI h) (A : zAll Z) (kt : kTx 24 Z h) (kw : kW 59 24 Z Y h) : ∃ h', CX l 1 23 false 102 [xf 11 59] h [] h' ∧ mC 59 h h' ∧ kW 59 24 Z (zCls Y) h' := by
  obtain ⟨⟨⟨B00, B01⟩, ⟨B10, B11⟩, ⟨B20, B21⟩, B30, B31⟩, g6, zj, zv, LW⟩ := id A
  have t1 : XT l 1 23 false 102 153 6051 0 [xf 11 59] [] h 5 [xf 11 59] [xi (Int32.ofInt (2)), xf 10008 (xR h 59 5)] h := XT_path (l := l) (fr := 1) (lo := 23) (full := false) (M := 102) (n := 153) (u := 6051) (pc := 0) (L := [xf 11 59]) (st := []) (h := h) (inl := []) (n' := 60) (sp := [5]) (o := []) rfl rfl ⟨rfl, rfl, rfl⟩ rfl ⟨Nat.le_of_eq hg.2.2.2.1, Nat.le_of_eq hg.2.2.2.2⟩ ⟨trivial, (vnn hg.1 (rfl : vRf 59 5 = [64]) (by decide))⟩
  rw [vref hg.1 (rfl : vRf 59 5 = [64])] at t1
  obtain ⟨h1, c1, G1, z1⟩ := cm_fill64 l h hg
  have t2 : XT l 1 23 false 102 153 6051 5 [xf 11 59] [xi (Int32.ofInt (2)), xf 10008 64] h 8 [xf 11 59] [] h1 := XT_call (l := l) (fr := 1) (lo := 23) (full := false) (M := 102) (n := 153) (u := 6051) (pc := 5) (L := [xf 11 59]) (st := [xi (Int32.ofInt (2)), xf 10008 64]) (h := h) (i := .invokestatic 5) (aux := 2) (nx := 8) (K := 5) (vs := [xf 10008 64, xi (Int32.ofInt (2))]) (rs := []) (rest := []) rfl rfl rfl rfl rfl rfl c1 (by decide) (by decide) (Nat.le_of_ble_eq_true rfl) ⟨Nat.le_of_eq G1.1.2.2.2.1, Nat.le_of_eq G1.1.2.2.2.2⟩
  have t3 := t1.tr t2
  have t4 : XT l 1 23 false 102 153 6051 8 [xf 11 59] [] h1 18 [xf 11 59] [] (xsetI h1 59 7 ((xI h1 59 7) + (Int32.ofInt (1)))) := XT_path (l := l) (fr := 1) (lo := 23) (full := false) (M := 102) (n := 153) (u := 6051) (pc := 8) (L := [xf 11 59]) (st := []) (h := h1) (inl := []) (n' := 60) (sp := [18]) (o := []) rfl rfl ⟨rfl, rfl, rfl⟩ rfl ⟨Nat.le_of_eq G1.1.2.2.2.1, Nat.le_of_eq G1.1.2.2.2.2⟩ trivial
  have t5 := t3.tr t4
  obtain ⟨hE, eE⟩ : ∃ x, x = (xsetI h1 59 7 ((xI h1 59 7) + (Int32.ofInt (1)))) := ⟨_, rfl⟩
  have eE2 : hE = xsetI h1 59 7 (xI h1 59 7 + (Int32.ofInt (1))) := eE
  have GE : mQ [59, 64] h hE := by rw [eE2]; exact (G1.mono (by decide)).set (by decide) (show (-2147483648 : Int) ≤ _ ∧ _ ≤ 2147483647 from i32r_of _)
  have eO : ∀ k, ¬ k = 7 → xI hE 59 k = xI h 59 k := fun k hk => by rw [eE2, yI_ne (eq_false (fun z => hk z.2))]; exact G1.2.1 59 k (by decide)
  have e5 : ∀ k, xI hE 64 k = xI h1 64 k := fun k => by rw [eE2]; exact yI_c (by decide)
  rw [← eE] at t5
  refine ⟨hE, CX_ofT (h' := hE) (by decide) rfl rfl trivial ⟨_, _, _, rfl, rfl, rfl⟩ rfl ⟨Nat.le_of_eq GE.1.2.2.2.1.symm, Nat.le_of_eq GE.1.2.2.2.2.symm⟩ t5, ⟨GE, eO⟩, ?_⟩
  obtain ⟨a1, a2, a3, a4, a5, a6⟩ := kw
  have e3 : xI hE 59 7 = zCls Y 50 := by rw [eE2, yI_same, G1.2.1 59 7 (by decide), a3]; exact (if_pos rfl).symm.trans (if_neg (by decide)).symm
  have f : ∀ i, ¬ (30 ≤ i ∧ i < 40) → ¬ i = 50 → zCls Y i = Y i := fun i h1 h2 => (if_neg h1).trans (if_neg h2)
  refine ⟨fun r hr => by rw [GE.2.1 60 r (by decide), f r (by omega) (by omega)]; exact a1 r hr, fun p hp => ⟨by rw [GE.2.1 63 p (by decide), f (20 + p) (by omega) (by omega)]; exact (a2 p hp).1, by rw [e5, z1 p (by omega)]; exact (if_pos (by omega)).symm⟩, e3, by rw [eO 10 (by decide), f 51 (by decide) (by decide)]; exact a4, fun z => by rw [f 51 (by decide) (by decide)] at z; rw [eO 11 (by decide), f 52 (by decide) (by decide)]; exact a5 z, (GE.2.2 _ _).trans a6⟩
set_option maxRecDepth 100000 in
set_option maxHeartbeats 4000000 in
theorem ck_passW48_3 (l : Launch) (Z : Nat → Int) (Y : Nat → Int32) (h : XH) (hg : mI h) (A : zAll Z) (kt : kTx 3 Z h) (kw : kW 48 3 Z Y h) (V : zVd Z Y) (kd : kD 48 Z Y h) (ke : kE 48 Z Y h) (ky : kY 48 Z Y h) : ∃ h', CX l 6 145 false 98 [xf 11 48] h [] h' ∧ mQ [48, 49, 50, 51, 53, 54, 55, 57] h h' ∧ (∀ k, ¬ k = 7 → xI h' 48 k = xI h 48 k) ∧ kW 48 3 Z (zPs Z Y) h' ∧ kD 48 Z (zPs Z Y) h' ∧ kE 48 Z (zPs Z Y) h' ∧ kY 48 Z (zPs Z Y) h' := by
  obtain ⟨⟨⟨B00, B01⟩, ⟨B10, B11⟩, ⟨B20, B21⟩, B30, B31⟩, g6, zj, zv, LW⟩ := id A
  have t1 : XT l 6 145 false 98 153 6051 0 [xf 11 48] [] h 1 [xf 11 48] [xf 11 48] h := XT_path (l := l) (fr := 6) (lo := 145) (full := false) (M := 98) (n := 153) (u := 6051) (pc := 0) (L := [xf 11 48]) (st := []) (h := h) (inl := []) (n' := 60) (sp := [1]) (o := []) rfl rfl ⟨rfl, rfl, rfl⟩ rfl ⟨Nat.le_of_eq hg.2.2.2.1, Nat.le_of_eq hg.2.2.2.2⟩ trivial
  obtain ⟨v, h1, c1, G1, kw1, kd1, ke1, -⟩ := ck_stretch48_3 l Z Y h hg A kt kw V kd ke
  have V1 := zVd_str A.1 V
  have ky1 : kY 48 Z (zStr Z Y) h1 := (ky.q G1 (by decide)).sm A.1 (fun i hi => if_neg (by omega))
  have t2 : XT l 6 145 false 98 153 6051 1 [xf 11 48] [xf 11 48] h 4 [xf 11 48] [xi v] h1 := XT_call (l := l) (fr := 6) (lo := 145) (full := false) (M := 98) (n := 153) (u := 6051) (pc := 1) (L := [xf 11 48]) (st := [xf 11 48]) (h := h) (i := .invokevirtual 99) (aux := 1) (nx := 4) (K := 99) (vs := [xf 11 48]) (rs := [xi v]) (rest := []) rfl rfl rfl rfl rfl rfl c1 (by decide) (by decide) (Nat.le_of_ble_eq_true rfl) ⟨Nat.le_of_eq G1.1.2.2.2.1, Nat.le_of_eq G1.1.2.2.2.2⟩
  have t3 := t1.tr t2
  have t4 : XT l 6 145 false 98 153 6051 4 [xf 11 48] [xi v] h1 6 [xf 11 48] [xf 11 48] h1 := XT_path (l := l) (fr := 6) (lo := 145) (full := false) (M := 98) (n := 153) (u := 6051) (pc := 4) (L := [xf 11 48]) (st := [xi v]) (h := h1) (inl := []) (n' := 60) (sp := [6]) (o := []) rfl rfl ⟨rfl, rfl, rfl⟩ rfl ⟨Nat.le_of_eq G1.1.2.2.2.1, Nat.le_of_eq G1.1.2.2.2.2⟩ trivial
  have t5 := t3.tr t4
  obtain ⟨h2, c2, G2, kw2, kd2, ke2, ky2⟩ := ck_reap48_3 l Z (zStr Z Y) h1 G1.1 A (kt.q G1 (by decide)) kw1 V1 kd1 ke1 ky1
  have t6 : XT l 6 145 false 98 153 6051 6 [xf 11 48] [xf 11 48] h1 9 [xf 11 48] [] h2 := XT_call (l := l) (fr := 6) (lo := 145) (full := false) (M := 98) (n := 153) (u := 6051) (pc := 6) (L := [xf 11 48]) (st := [xf 11 48]) (h := h1) (i := .invokevirtual 101) (aux := 1) (nx := 9) (K := 101) (vs := [xf 11 48]) (rs := []) (rest := []) rfl rfl rfl rfl rfl rfl c2 (by decide) (by decide) (Nat.le_of_ble_eq_true rfl) ⟨Nat.le_of_eq G2.1.2.2.2.1, Nat.le_of_eq G2.1.2.2.2.2⟩
  have t7 := t5.tr t6
  have t8 : XT l 6 145 false 98 153 6051 9 [xf 11 48] [] h2 10 [xf 11 48] [xf 11 48] h2 := XT_path (l := l) (fr := 6) (lo := 145) (full := false) (M := 98) (n := 153) (u := 6051) (pc := 9) (L := [xf 11 48]) (st := []) (h := h2) (inl := []) (n' := 60) (sp := [10]) (o := []) rfl rfl ⟨rfl, rfl, rfl⟩ rfl ⟨Nat.le_of_eq G2.1.2.2.2.1, Nat.le_of_eq G2.1.2.2.2.2⟩ trivial
  have t9 := t7.tr t8
  obtain ⟨h3, c3, ⟨G3, o3⟩, kw3⟩ := ck_closeW48_3 l Z (zRp Z (zStr Z Y)) h2 G2.1 A ((kt.q G1 (by decide)).q G2 (by decide)) kw2
  have t10 : XT l 6 145 false 98 153 6051 10 [xf 11 48] [xf 11 48] h2 13 [xf 11 48] [] h3 := XT_call (l := l) (fr := 6) (lo := 145) (full := false) (M := 98) (n := 153) (u := 6051) (pc := 10) (L := [xf 11 48]) (st := [xf 11 48]) (h := h2) (i := .invokevirtual 102) (aux := 1) (nx := 13) (K := 102) (vs := [xf 11 48]) (rs := []) (rest := []) rfl rfl rfl rfl rfl rfl c3 (by decide) (by decide) (Nat.le_of_ble_eq_true rfl) ⟨Nat.le_of_eq G3.1.2.2.2.1, Nat.le_of_eq G3.1.2.2.2.2⟩
  have t11 := t9.tr t10
  have G : mQ [48, 49, 50, 51, 53, 54, 55, 57] h h3 := ((G1.mono (by decide)).tr (G2.mono (by decide))).tr (G3.mono (by decide))
  exact ⟨h3, CX_ofT (h' := h3) (by decide) rfl rfl trivial ⟨_, _, _, rfl, rfl, rfl⟩ rfl ⟨Nat.le_of_eq G3.1.2.2.2.1.symm, Nat.le_of_eq G3.1.2.2.2.2.symm⟩ t11, G, fun k hk => by rw [o3 k hk, G2.2.1 48 k (by decide), G1.2.1 48 k (by decide)], kw3, (kd2.q G3 (by decide)).sm zv B01 zSm_cls, (ke2.q G3 (by decide)).sm B21 zSm_cls, (ky2.q G3 (by decide)).sm A.1 (fun i hi => (if_neg (by omega)).trans (if_neg (by omega)))⟩
set_option maxRecDepth 100000 in
set_option maxHeartbeats 4000000 in
theorem ck_passW48_24 (l : Launch) (Z : Nat → Int) (Y : Nat → Int32) (h : XH) (hg : mI h) (A : zAll Z) (kt : kTx 24 Z h) (kw : kW 48 24 Z Y h) (V : zVd Z Y) (kd : kD 48 Z Y h) (ke : kE 48 Z Y h) (ky : kY 48 Z Y h) : ∃ h', CX l 6 145 false 98 [xf 11 48] h [] h' ∧ mQ [48, 49, 50, 51, 53, 54, 55, 57] h h' ∧ (∀ k, ¬ k = 7 → xI h' 48 k = xI h 48 k) ∧ kW 48 24 Z (zPs Z Y) h' ∧ kD 48 Z (zPs Z Y) h' ∧ kE 48 Z (zPs Z Y) h' ∧ kY 48 Z (zPs Z Y) h' := by
  obtain ⟨⟨⟨B00, B01⟩, ⟨B10, B11⟩, ⟨B20, B21⟩, B30, B31⟩, g6, zj, zv, LW⟩ := id A
  have t1 : XT l 6 145 false 98 153 6051 0 [xf 11 48] [] h 1 [xf 11 48] [xf 11 48] h := XT_path (l := l) (fr := 6) (lo := 145) (full := false) (M := 98) (n := 153) (u := 6051) (pc := 0) (L := [xf 11 48]) (st := []) (h := h) (inl := []) (n' := 60) (sp := [1]) (o := []) rfl rfl ⟨rfl, rfl, rfl⟩ rfl ⟨Nat.le_of_eq hg.2.2.2.1, Nat.le_of_eq hg.2.2.2.2⟩ trivial
  obtain ⟨v, h1, c1, G1, kw1, kd1, ke1, -⟩ := ck_stretch48_24 l Z Y h hg A kt kw V kd ke
  have V1 := zVd_str A.1 V
  have ky1 : kY 48 Z (zStr Z Y) h1 := (ky.q G1 (by decide)).sm A.1 (fun i hi => if_neg (by omega))
  have t2 : XT l 6 145 false 98 153 6051 1 [xf 11 48] [xf 11 48] h 4 [xf 11 48] [xi v] h1 := XT_call (l := l) (fr := 6) (lo := 145) (full := false) (M := 98) (n := 153) (u := 6051) (pc := 1) (L := [xf 11 48]) (st := [xf 11 48]) (h := h) (i := .invokevirtual 99) (aux := 1) (nx := 4) (K := 99) (vs := [xf 11 48]) (rs := [xi v]) (rest := []) rfl rfl rfl rfl rfl rfl c1 (by decide) (by decide) (Nat.le_of_ble_eq_true rfl) ⟨Nat.le_of_eq G1.1.2.2.2.1, Nat.le_of_eq G1.1.2.2.2.2⟩
  have t3 := t1.tr t2
  have t4 : XT l 6 145 false 98 153 6051 4 [xf 11 48] [xi v] h1 6 [xf 11 48] [xf 11 48] h1 := XT_path (l := l) (fr := 6) (lo := 145) (full := false) (M := 98) (n := 153) (u := 6051) (pc := 4) (L := [xf 11 48]) (st := [xi v]) (h := h1) (inl := []) (n' := 60) (sp := [6]) (o := []) rfl rfl ⟨rfl, rfl, rfl⟩ rfl ⟨Nat.le_of_eq G1.1.2.2.2.1, Nat.le_of_eq G1.1.2.2.2.2⟩ trivial
  have t5 := t3.tr t4
  obtain ⟨h2, c2, G2, kw2, kd2, ke2, ky2⟩ := ck_reap48_24 l Z (zStr Z Y) h1 G1.1 A (kt.q G1 (by decide)) kw1 V1 kd1 ke1 ky1
  have t6 : XT l 6 145 false 98 153 6051 6 [xf 11 48] [xf 11 48] h1 9 [xf 11 48] [] h2 := XT_call (l := l) (fr := 6) (lo := 145) (full := false) (M := 98) (n := 153) (u := 6051) (pc := 6) (L := [xf 11 48]) (st := [xf 11 48]) (h := h1) (i := .invokevirtual 101) (aux := 1) (nx := 9) (K := 101) (vs := [xf 11 48]) (rs := []) (rest := []) rfl rfl rfl rfl rfl rfl c2 (by decide) (by decide) (Nat.le_of_ble_eq_true rfl) ⟨Nat.le_of_eq G2.1.2.2.2.1, Nat.le_of_eq G2.1.2.2.2.2⟩
  have t7 := t5.tr t6
  have t8 : XT l 6 145 false 98 153 6051 9 [xf 11 48] [] h2 10 [xf 11 48] [xf 11 48] h2 := XT_path (l := l) (fr := 6) (lo := 145) (full := false) (M := 98) (n := 153) (u := 6051) (pc := 9) (L := [xf 11 48]) (st := []) (h := h2) (inl := []) (n' := 60) (sp := [10]) (o := []) rfl rfl ⟨rfl, rfl, rfl⟩ rfl ⟨Nat.le_of_eq G2.1.2.2.2.1, Nat.le_of_eq G2.1.2.2.2.2⟩ trivial
  have t9 := t7.tr t8
  obtain ⟨h3, c3, ⟨G3, o3⟩, kw3⟩ := ck_closeW48_24 l Z (zRp Z (zStr Z Y)) h2 G2.1 A ((kt.q G1 (by decide)).q G2 (by decide)) kw2
  have t10 : XT l 6 145 false 98 153 6051 10 [xf 11 48] [xf 11 48] h2 13 [xf 11 48] [] h3 := XT_call (l := l) (fr := 6) (lo := 145) (full := false) (M := 98) (n := 153) (u := 6051) (pc := 10) (L := [xf 11 48]) (st := [xf 11 48]) (h := h2) (i := .invokevirtual 102) (aux := 1) (nx := 13) (K := 102) (vs := [xf 11 48]) (rs := []) (rest := []) rfl rfl rfl rfl rfl rfl c3 (by decide) (by decide) (Nat.le_of_ble_eq_true rfl) ⟨Nat.le_of_eq G3.1.2.2.2.1, Nat.le_of_eq G3.1.2.2.2.2⟩
  have t11 := t9.tr t10
  have G : mQ [48, 49, 50, 51, 53, 54, 55, 57] h h3 := ((G1.mono (by decide)).tr (G2.mono (by decide))).tr (G3.mono (by decide))
  exact ⟨h3, CX_ofT (h' := h3) (by decide) rfl rfl trivial ⟨_, _, _, rfl, rfl, rfl⟩ rfl ⟨Nat.le_of_eq G3.1.2.2.2.1.symm, Nat.le_of_eq G3.1.2.2.2.2.symm⟩ t11, G, fun k hk => by rw [o3 k hk, G2.2.1 48 k (by decide), G1.2.1 48 k (by decide)], kw3, (kd2.q G3 (by decide)).sm zv B01 zSm_cls, (ke2.q G3 (by decide)).sm B21 zSm_cls, (ky2.q G3 (by decide)).sm A.1 (fun i hi => (if_neg (by omega)).trans (if_neg (by omega)))⟩
set_option maxRecDepth 100000 in
set_option maxHeartbeats 4000000 in
theorem ck_passW59_3 (l : Launch) (Z : Nat → Int) (Y : Nat → Int32) (h : XH) (hg : mI h) (A : zAll Z) (kt : kTx 3 Z h) (kw : kW 59 3 Z Y h) (V : zVd Z Y) (kd : kD 59 Z Y h) (ke : kE 59 Z Y h) (ky : kY 59 Z Y h) : ∃ h', CX l 6 145 false 98 [xf 11 59] h [] h' ∧ mQ [59, 60, 61, 62, 64, 65, 66, 68] h h' ∧ (∀ k, ¬ k = 7 → xI h' 59 k = xI h 59 k) ∧ kW 59 3 Z (zPs Z Y) h' ∧ kD 59 Z (zPs Z Y) h' ∧ kE 59 Z (zPs Z Y) h' ∧ kY 59 Z (zPs Z Y) h' := by
  obtain ⟨⟨⟨B00, B01⟩, ⟨B10, B11⟩, ⟨B20, B21⟩, B30, B31⟩, g6, zj, zv, LW⟩ := id A
  have t1 : XT l 6 145 false 98 153 6051 0 [xf 11 59] [] h 1 [xf 11 59] [xf 11 59] h := XT_path (l := l) (fr := 6) (lo := 145) (full := false) (M := 98) (n := 153) (u := 6051) (pc := 0) (L := [xf 11 59]) (st := []) (h := h) (inl := []) (n' := 60) (sp := [1]) (o := []) rfl rfl ⟨rfl, rfl, rfl⟩ rfl ⟨Nat.le_of_eq hg.2.2.2.1, Nat.le_of_eq hg.2.2.2.2⟩ trivial
  obtain ⟨v, h1, c1, G1, kw1, kd1, ke1, -⟩ := ck_stretch59_3 l Z Y h hg A kt kw V kd ke
  have V1 := zVd_str A.1 V
  have ky1 : kY 59 Z (zStr Z Y) h1 := (ky.q G1 (by decide)).sm A.1 (fun i hi => if_neg (by omega))
  have t2 : XT l 6 145 false 98 153 6051 1 [xf 11 59] [xf 11 59] h 4 [xf 11 59] [xi v] h1 := XT_call (l := l) (fr := 6) (lo := 145) (full := false) (M := 98) (n := 153) (u := 6051) (pc := 1) (L := [xf 11 59]) (st := [xf 11 59]) (h := h) (i := .invokevirtual 99) (aux := 1) (nx := 4) (K := 99) (vs := [xf 11 59]) (rs := [xi v]) (rest := []) rfl rfl rfl rfl rfl rfl c1 (by decide) (by decide) (Nat.le_of_ble_eq_true rfl) ⟨Nat.le_of_eq G1.1.2.2.2.1, Nat.le_of_eq G1.1.2.2.2.2⟩
  have t3 := t1.tr t2
  have t4 : XT l 6 145 false 98 153 6051 4 [xf 11 59] [xi v] h1 6 [xf 11 59] [xf 11 59] h1 := XT_path (l := l) (fr := 6) (lo := 145) (full := false) (M := 98) (n := 153) (u := 6051) (pc := 4) (L := [xf 11 59]) (st := [xi v]) (h := h1) (inl := []) (n' := 60) (sp := [6]) (o := []) rfl rfl ⟨rfl, rfl, rfl⟩ rfl ⟨Nat.le_of_eq G1.1.2.2.2.1, Nat.le_of_eq G1.1.2.2.2.2⟩ trivial
  have t5 := t3.tr t4
  obtain ⟨h2, c2, G2, kw2, kd2, ke2, ky2⟩ := ck_reap59_3 l Z (zStr Z Y) h1 G1.1 A (kt.q G1 (by decide)) kw1 V1 kd1 ke1 ky1
  have t6 : XT l 6 145 false 98 153 6051 6 [xf 11 59] [xf 11 59] h1 9 [xf 11 59] [] h2 := XT_call (l := l) (fr := 6) (lo := 145) (full := false) (M := 98) (n := 153) (u := 6051) (pc := 6) (L := [xf 11 59]) (st := [xf 11 59]) (h := h1) (i := .invokevirtual 101) (aux := 1) (nx := 9) (K := 101) (vs := [xf 11 59]) (rs := []) (rest := []) rfl rfl rfl rfl rfl rfl c2 (by decide) (by decide) (Nat.le_of_ble_eq_true rfl) ⟨Nat.le_of_eq G2.1.2.2.2.1, Nat.le_of_eq G2.1.2.2.2.2⟩
  have t7 := t5.tr t6
  have t8 : XT l 6 145 false 98 153 6051 9 [xf 11 59] [] h2 10 [xf 11 59] [xf 11 59] h2 := XT_path (l := l) (fr := 6) (lo := 145) (full := false) (M := 98) (n := 153) (u := 6051) (pc := 9) (L := [xf 11 59]) (st := []) (h := h2) (inl := []) (n' := 60) (sp := [10]) (o := []) rfl rfl ⟨rfl, rfl, rfl⟩ rfl ⟨Nat.le_of_eq G2.1.2.2.2.1, Nat.le_of_eq G2.1.2.2.2.2⟩ trivial
  have t9 := t7.tr t8
  obtain ⟨h3, c3, ⟨G3, o3⟩, kw3⟩ := ck_closeW59_3 l Z (zRp Z (zStr Z Y)) h2 G2.1 A ((kt.q G1 (by decide)).q G2 (by decide)) kw2
  have t10 : XT l 6 145 false 98 153 6051 10 [xf 11 59] [xf 11 59] h2 13 [xf 11 59] [] h3 := XT_call (l := l) (fr := 6) (lo := 145) (full := false) (M := 98) (n := 153) (u := 6051) (pc := 10) (L := [xf 11 59]) (st := [xf 11 59]) (h := h2) (i := .invokevirtual 102) (aux := 1) (nx := 13) (K := 102) (vs := [xf 11 59]) (rs := []) (rest := []) rfl rfl rfl rfl rfl rfl c3 (by decide) (by decide) (Nat.le_of_ble_eq_true rfl) ⟨Nat.le_of_eq G3.1.2.2.2.1, Nat.le_of_eq G3.1.2.2.2.2⟩
  have t11 := t9.tr t10
  have G : mQ [59, 60, 61, 62, 64, 65, 66, 68] h h3 := ((G1.mono (by decide)).tr (G2.mono (by decide))).tr (G3.mono (by decide))
  exact ⟨h3, CX_ofT (h' := h3) (by decide) rfl rfl trivial ⟨_, _, _, rfl, rfl, rfl⟩ rfl ⟨Nat.le_of_eq G3.1.2.2.2.1.symm, Nat.le_of_eq G3.1.2.2.2.2.symm⟩ t11, G, fun k hk => by rw [o3 k hk, G2.2.1 59 k (by decide), G1.2.1 59 k (by decide)], kw3, (kd2.q G3 (by decide)).sm zv B01 zSm_cls, (ke2.q G3 (by decide)).sm B21 zSm_cls, (ky2.q G3 (by decide)).sm A.1 (fun i hi => (if_neg (by omega)).trans (if_neg (by omega)))⟩
set_option maxRecDepth 100000 in
set_option maxHeartbeats 4000000 in
theorem ck_passW59_24 (l : Launch) (Z : Nat → Int) (Y : Nat → Int32) (h : XH) (hg : mI h) (A : zAll Z) (kt : kTx 24 Z h) (kw : kW 59 24 Z Y h) (V : zVd Z Y) (kd : kD 59 Z Y h) (ke : kE 59 Z Y h) (ky : kY 59 Z Y h) : ∃ h', CX l 6 145 false 98 [xf 11 59] h [] h' ∧ mQ [59, 60, 61, 62, 64, 65, 66, 68] h h' ∧ (∀ k, ¬ k = 7 → xI h' 59 k = xI h 59 k) ∧ kW 59 24 Z (zPs Z Y) h' ∧ kD 59 Z (zPs Z Y) h' ∧ kE 59 Z (zPs Z Y) h' ∧ kY 59 Z (zPs Z Y) h' := by
  obtain ⟨⟨⟨B00, B01⟩, ⟨B10, B11⟩, ⟨B20, B21⟩, B30, B31⟩, g6, zj, zv, LW⟩ := id A
  have t1 : XT l 6 145 false 98 153 6051 0 [xf 11 59] [] h 1 [xf 11 59] [xf 11 59] h := XT_path (l := l) (fr := 6) (lo := 145) (full := false) (M := 98) (n := 153) (u := 6051) (pc := 0) (L := [xf 11 59]) (st := []) (h := h) (inl := []) (n' := 60) (sp := [1]) (o := []) rfl rfl ⟨rfl, rfl, rfl⟩ rfl ⟨Nat.le_of_eq hg.2.2.2.1, Nat.le_of_eq hg.2.2.2.2⟩ trivial
  obtain ⟨v, h1, c1, G1, kw1, kd1, ke1, -⟩ := ck_stretch59_24 l Z Y h hg A kt kw V kd ke
  have V1 := zVd_str A.1 V
  have ky1 : kY 59 Z (zStr Z Y) h1 := (ky.q G1 (by decide)).sm A.1 (fun i hi => if_neg (by omega))
  have t2 : XT l 6 145 false 98 153 6051 1 [xf 11 59] [xf 11 59] h 4 [xf 11 59] [xi v] h1 := XT_call (l := l) (fr := 6) (lo := 145) (full := false) (M := 98) (n := 153) (u := 6051) (pc := 1) (L := [xf 11 59]) (st := [xf 11 59]) (h := h) (i := .invokevirtual 99) (aux := 1) (nx := 4) (K := 99) (vs := [xf 11 59]) (rs := [xi v]) (rest := []) rfl rfl rfl rfl rfl rfl c1 (by decide) (by decide) (Nat.le_of_ble_eq_true rfl) ⟨Nat.le_of_eq G1.1.2.2.2.1, Nat.le_of_eq G1.1.2.2.2.2⟩
  have t3 := t1.tr t2
  have t4 : XT l 6 145 false 98 153 6051 4 [xf 11 59] [xi v] h1 6 [xf 11 59] [xf 11 59] h1 := XT_path (l := l) (fr := 6) (lo := 145) (full := false) (M := 98) (n := 153) (u := 6051) (pc := 4) (L := [xf 11 59]) (st := [xi v]) (h := h1) (inl := []) (n' := 60) (sp := [6]) (o := []) rfl rfl ⟨rfl, rfl, rfl⟩ rfl ⟨Nat.le_of_eq G1.1.2.2.2.1, Nat.le_of_eq G1.1.2.2.2.2⟩ trivial
  have t5 := t3.tr t4
  obtain ⟨h2, c2, G2, kw2, kd2, ke2, ky2⟩ := ck_reap59_24 l Z (zStr Z Y) h1 G1.1 A (kt.q G1 (by decide)) kw1 V1 kd1 ke1 ky1
  have t6 : XT l 6 145 false 98 153 6051 6 [xf 11 59] [xf 11 59] h1 9 [xf 11 59] [] h2 := XT_call (l := l) (fr := 6) (lo := 145) (full := false) (M := 98) (n := 153) (u := 6051) (pc := 6) (L := [xf 11 59]) (st := [xf 11 59]) (h := h1) (i := .invokevirtual 101) (aux := 1) (nx := 9) (K := 101) (vs := [xf 11 59]) (rs := []) (rest := []) rfl rfl rfl rfl rfl rfl c2 (by decide) (by decide) (Nat.le_of_ble_eq_true rfl) ⟨Nat.le_of_eq G2.1.2.2.2.1, Nat.le_of_eq G2.1.2.2.2.2⟩
  have t7 := t5.tr t6
  have t8 : XT l 6 145 false 98 153 6051 9 [xf 11 59] [] h2 10 [xf 11 59] [xf 11 59] h2 := XT_path (l := l) (fr := 6) (lo := 145) (full := false) (M := 98) (n := 153) (u := 6051) (pc := 9) (L := [xf 11 59]) (st := []) (h := h2) (inl := []) (n' := 60) (sp := [10]) (o := []) rfl rfl ⟨rfl, rfl, rfl⟩ rfl ⟨Nat.le_of_eq G2.1.2.2.2.1, Nat.le_of_eq G2.1.2.2.2.2⟩ trivial
  have t9 := t7.tr t8
  obtain ⟨h3, c3, ⟨G3, o3⟩, kw3⟩ := ck_closeW59_24 l Z (zRp Z (zStr Z Y)) h2 G2.1 A ((kt.q G1 (by decide)).q G2 (by decide)) kw2
  have t10 : XT l 6 145 false 98 153 6051 10 [xf 11 59] [xf 11 59] h2 13 [xf 11 59] [] h3 := XT_call (l := l) (fr := 6) (lo := 145) (full := false) (M := 98) (n := 153) (u := 6051) (pc := 10) (L := [xf 11 59]) (st := [xf 11 59]) (h := h2) (i := .invokevirtual 102) (aux := 1) (nx := 13) (K := 102) (vs := [xf 11 59]) (rs := []) (rest := []) rfl rfl rfl rfl rfl rfl c3 (by decide) (by decide) (Nat.le_of_ble_eq_true rfl) ⟨Nat.le_of_eq G3.1.2.2.2.1, Nat.le_of_eq G3.1.2.2.2.2⟩
  have t11 := t9.tr t10
  have G : mQ [59, 60, 61, 62, 64, 65, 66, 68] h h3 := ((G1.mono (by decide)).tr (G2.mono (by decide))).tr (G3.mono (by decide))
  exact ⟨h3, CX_ofT (h' := h3) (by decide) rfl rfl trivial ⟨_, _, _, rfl, rfl, rfl⟩ rfl ⟨Nat.le_of_eq G3.1.2.2.2.1.symm, Nat.le_of_eq G3.1.2.2.2.2.symm⟩ t11, G, fun k hk => by rw [o3 k hk, G2.2.1 59 k (by decide), G1.2.1 59 k (by decide)], kw3, (kd2.q G3 (by decide)).sm zv B01 zSm_cls, (ke2.q G3 (by decide)).sm B21 zSm_cls, (ky2.q G3 (by decide)).sm A.1 (fun i hi => (if_neg (by omega)).trans (if_neg (by omega)))⟩
