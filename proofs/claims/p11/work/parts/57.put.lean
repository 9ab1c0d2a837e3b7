/-! CONTRACTS BY HAND: put. -/
def vRiB (p v : Nat) : SRl → Bool
  | .inl ([(c, k, q)], (d, m, w)) => ((Nat.beq c 135 && Nat.beq k p) && (decide (q = ((v : Int), (v : Int))) && Nat.beq d 110)) && (Nat.beq m v && decide (w = (1, 9)))
  | _ => false
theorem vRi_any : ∀ p : Nat, p < 8 → ∀ v : Nat, v < 6 → 1 ≤ v → vR.any (vRiB p v) = true := by decide +kernel
theorem vRi_in (p : Nat) (hp : p < 8) (v : Nat) (hv : v < 6) (h1 : 1 ≤ v) : (.inl ([(135, p, ((v : Int), (v : Int)))], (110, v, (1, 9))) : SRl) ∈ vR := by
  obtain ⟨r, hr, hb⟩ := List.any_eq_true.mp (vRi_any p hp v hv h1)
  unfold vRiB at hb
  split at hb
  · rename_i c k q d m w
    simp only [Bool.and_eq_true, decide_eq_true_eq] at hb
    obtain ⟨⟨⟨b1, b2⟩, b3, b4⟩, b5, b6⟩ := hb
    obtain rfl := Nat.eq_of_beq_eq_true b1
    obtain rfl := Nat.eq_of_beq_eq_true b2
    obtain rfl := Nat.eq_of_beq_eq_true b4
    obtain rfl := Nat.eq_of_beq_eq_true b5
    subst b3
    subst b6
    exact hr
  · cases hb
theorem vz_place {h : XH} (hr : srw vR [] h) {p : Nat} (hp : p < 8) : vz h (xI h 135 p) := fun v hv h1 e => by
  have k : (∀ q ∈ ([(135, p, ((v : Int), (v : Int)))] : List SQ), sqin h q) → sqin h (110, v, (1, 9)) := hr _ (vRi_in p hp v hv h1) rfl
  have := k (fun q hq => by
    rw [List.mem_singleton.mp hq]
    unfold sqin
    dsimp only
    rw [e]
    exact ⟨Int.le_refl _, Int.le_refl _⟩)
  exact this.1
theorem vS133_s : ∀ k, k < 6 → vI 133 k = (0, 9) := by decide +kernel
theorem vS149_c : ∀ u, u < 20 → ∀ p, p < 8 → vI 149 (22 * u + p) = (-2, 1) := by decide +kernel
theorem vS149_p : ∀ u, u < 20 → ∀ p, p < 8 → vI 149 (22 * u + 8 + p) = (0, 5) := by decide +kernel
theorem vS149_s : ∀ u, u < 20 → ∀ p, p < 6 → vI 149 (22 * u + 16 + p) = (0, 9) := by decide +kernel
theorem vS150_c : ∀ u, u < 1 → ∀ p, p < 8 → vI 150 (22 * u + p) = (-2, 1) := by decide +kernel
theorem vS150_p : ∀ u, u < 1 → ∀ p, p < 8 → vI 150 (22 * u + 8 + p) = (0, 5) := by decide +kernel
theorem vS150_s : ∀ u, u < 1 → ∀ p, p < 6 → vI 150 (22 * u + 16 + p) = (0, 9) := by decide +kernel
/-- a slot of the row of what can be undone written -/
theorem vput149 {h : XH} (hg : sgood vT vR vE 153 6051 h) {k : Nat} {v : Int32} (hv : (vI 149 k).1 ≤ v.toInt ∧ v.toInt ≤ (vI 149 k).2) (hz : vz h v ∨ k % 22 < 8 ∨ 16 ≤ k % 22) : sgood vT vR vE 153 6051 (xsetI h 149 k v) := by
  have o : ∀ c j, c ≠ 149 → xI (xsetI h 149 k v) c j = xI h c j := fun c j hc => yI_c (eq_false hc)
  refine ⟨sinv_setI hg.1 hv, srw_setI hg.2.1 (stou_no (by decide +kernel)), ⟨vEp_of (fun j => o 82 j (by decide)) (fun j => o 83 j (by decide)) (fun j => o 84 j (by decide)) hg.2.2.1.1, ⟨fun j => ?_, fun p hp => ?_⟩, vEk_of (fun c c1 c2 j => o c j (by omega)) hg.2.2.1.2.2.1, vEj_of (o 3 5 (by decide)) (o 24 5 (by decide)) (fun c hc j => o c j (by omega)) hg.2.2.1.2.2.2⟩, hg.2.2.2⟩
  · by_cases hj : j = k
    · subst hj
      rw [yI_same]
      exact hz.imp (vz_fr (fun v _ => o 110 v (by decide))) id
    · rw [yI_ne (eq_false (fun e => hj e.2))]
      exact (hg.2.2.1.2.1.1 j).imp (vz_fr (fun v _ => o 110 v (by decide))) id
  · rw [o 150 _ (by decide)]
    exact vz_fr (fun v _ => o 110 v (by decide)) (hg.2.2.1.2.1.2 p hp)
theorem vput150 {h : XH} (hg : sgood vT vR vE 153 6051 h) {k : Nat} {v : Int32} (hv : (vI 150 k).1 ≤ v.toInt ∧ v.toInt ≤ (vI 150 k).2) (hz : vz h v ∨ k % 22 < 8 ∨ 16 ≤ k % 22) : sgood vT vR vE 153 6051 (xsetI h 150 k v) := by
  have o : ∀ c j, c ≠ 150 → xI (xsetI h 150 k v) c j = xI h c j := fun c j hc => yI_c (eq_false hc)
  refine ⟨sinv_setI hg.1 hv, srw_setI hg.2.1 (stou_no (by decide +kernel)), ⟨vEp_of (fun j => o 82 j (by decide)) (fun j => o 83 j (by decide)) (fun j => o 84 j (by decide)) hg.2.2.1.1, ⟨fun j => ?_, fun p hp => ?_⟩, vEk_of (fun c c1 c2 j => o c j (by omega)) hg.2.2.1.2.2.1, vEj_of (o 3 5 (by decide)) (o 24 5 (by decide)) (fun c hc j => o c j (by omega)) hg.2.2.1.2.2.2⟩, hg.2.2.2⟩
  · rw [o 149 _ (by decide)]
    exact (hg.2.2.1.2.1.1 j).imp (vz_fr (fun v _ => o 110 v (by decide))) id
  · by_cases hj : 8 + p = k
    · subst hj
      rw [yI_same]
      refine vz_fr (fun v _ => o 110 v (by decide)) ?_
      rcases hz with hz | hz | hz
      · exact hz
      · omega
      · omega
    · rw [yI_ne (eq_false (fun e => hj e.2))]
      exact vz_fr (fun v _ => o 110 v (by decide)) (hg.2.2.1.2.1.2 p hp)
set_option maxRecDepth 100000 in
set_option maxHeartbeats 1000000 in
theorem vh_put149_a (l : Launch) (i : Int32) (u : Nat) (hu : u < 20) (hi : i.toInt = 22 * u) : ∀ (m : Nat) (x : Int32) (h : XH), 0 ≤ x.toInt → x.toInt + m = 8 → sgood vT vR vE 153 6051 h → ∃ x' h', XT l 0 0 false 240 153 6051 2 [xf 13 104, xf 10440 149, xi i, xi x] [] h 39 [xf 13 104, xf 10440 149, xi i, xi x'] [] h' ∧ sgood vT vR vE 153 6051 h' ∧ (∀ c k, c ≠ 149 → xI h' c k = xI h c k) ∧ (∀ c k, xR h' c k = xR h c k)
  | 0, x, h, h0, hm, hg => by
    have e8 : (8 : Int32).toInt = 8 := rfl
    have e8' : (Int32.ofInt 8).toInt = 8 := rfl
    have key := XT_path (l := l) (fr := 0) (lo := 0) (full := false) (M := 240) (n := 153) (u := 6051) (pc := 2) (L := [xf 13 104, xf 10440 149, xi i, xi x]) (st := []) (h := h) (inl := []) (n' := 40) (sp := [39]) (o := [1]) rfl rfl ⟨rfl, rfl, rfl⟩ rfl ⟨Nat.le_of_eq hg.2.2.2.1, Nat.le_of_eq hg.2.2.2.2⟩ ⟨trivial, Int32.le_iff_toInt_le.mpr (by omega)⟩
    exact ⟨x, h, key, hg, fun _ _ _ => rfl, fun _ _ => rfl⟩
  | m + 1, x, h, h0, hm, hg => by
    have e8 : (8 : Int32).toInt = 8 := rfl
    have e8' : (Int32.ofInt 8).toInt = 8 := rfl
    have r58 : xR h 104 58 = 136 := vref hg.1 rfl
    have r57 : xR h 104 57 = 135 := vref hg.1 rfl
    have ei : (i + x).toInt = 22 * u + x.toInt := by
      rw [Int32.toInt_add, hi]
      exact Int.bmod_eq_of_le (by omega) (by omega)
    have ei8 : (i + 8 + x).toInt = 22 * u + 8 + x.toInt := by
      have e1 : (i + 8).toInt = 22 * u + 8 := by
        rw [Int32.toInt_add, hi, e8]
        exact Int.bmod_eq_of_le (by omega) (by omega)
      rw [Int32.toInt_add, e1]
      exact Int.bmod_eq_of_le (by omega) (by omega)
    have ex : (x + 1).toInt = x.toInt + 1 := y_succ h0 (by omega)
    have nx : x.toNatClampNeg = x.toInt.toNat := rfl
    have n1 : (i + x).toNatClampNeg = 22 * u + x.toNatClampNeg := by
      show (i + x).toInt.toNat = _
      omega
    have n2 : (i + 8 + x).toNatClampNeg = 22 * u + 8 + x.toNatClampNeg := by
      show (i + 8 + x).toInt.toNat = _
      omega
    have key := XT_path (l := l) (fr := 0) (lo := 0) (full := false) (M := 240) (n := 153) (u := 6051) (pc := 2) (L := [xf 13 104, xf 10440 149, xi i, xi x]) (st := []) (h := h) (inl := []) (n' := 60) (sp := [2]) (o := [0]) rfl rfl ⟨rfl, rfl, rfl⟩ rfl ⟨Nat.le_of_eq hg.2.2.2.1, Nat.le_of_eq hg.2.2.2.2⟩
    simp [r58, r57, yI_same, yI_ne, yI_c, yR_I, n1, n2] at key
    have key := key (Int32.lt_iff_toInt_lt.mpr (by omega)) (vp_of (n := 16) (by omega) (by omega)) (vp_of (n := 440) (by omega) (by omega)) (vp_of (n := 16) (by omega) (by omega)) (vp_of (n := 440) (by omega) (by omega))
    have b1 : (-2 : Int) ≤ (xI h 136 x.toNatClampNeg).toInt ∧ (xI h 136 x.toNatClampNeg).toInt ≤ 1 := by
      have := vbnd hg.1 136 x.toNatClampNeg
      rw [vI_u (c := 136) (q := (-2, 1)) (by decide +kernel) (by decide +kernel)] at this
      exact this
    have b2 : (0 : Int) ≤ (xI h 135 x.toNatClampNeg).toInt ∧ (xI h 135 x.toNatClampNeg).toInt ≤ 5 := by
      have := vbnd hg.1 135 x.toNatClampNeg
      rw [vI_u (c := 135) (q := (0, 5)) (by decide +kernel) (by decide +kernel)] at this
      exact this
    have hx8 : x.toNatClampNeg < 8 := by omega
    have g1 : sgood vT vR vE 153 6051 (xsetI h 149 (22 * u + x.toNatClampNeg) (xI h 136 x.toNatClampNeg)) := vput149 hg (by
      rw [vS149_c u hu _ hx8]
      exact b1) (Or.inr (Or.inl (by omega)))
    have g2 : sgood vT vR vE 153 6051 (xsetI (xsetI h 149 (22 * u + x.toNatClampNeg) (xI h 136 x.toNatClampNeg)) 149 (22 * u + 8 + x.toNatClampNeg) (xI h 135 x.toNatClampNeg)) := vput149 g1 (by
      rw [vS149_p u hu _ hx8]
      exact b2) (Or.inl (vz_fr (fun v _ => yI_c (by decide)) (vz_place hg.2.1 hx8)))
    obtain ⟨x', h', t, g', f', fR'⟩ := vh_put149_a l i u hu hi m (x + 1) _ (by omega) (by omega) g2
    refine ⟨x', h', key.tr t, g', fun c k hc => ?_, fun c k => fR' c k⟩
    rw [f' c k hc, yI_c (eq_false hc), yI_c (eq_false hc)]
set_option maxRecDepth 100000 in
set_option maxHeartbeats 1000000 in
theorem vh_put149_b (l : Launch) (i : Int32) (u : Nat) (hu : u < 20) (hi : i.toInt = 22 * u) : ∀ (m : Nat) (x : Int32) (h : XH), 0 ≤ x.toInt → x.toInt + m = 6 → sgood vT vR vE 153 6051 h → ∃ x' h', XT l 0 0 false 240 153 6051 41 [xf 13 104, xf 10440 149, xi i, xi x] [] h 67 [xf 13 104, xf 10440 149, xi i, xi x'] [] h' ∧ sgood vT vR vE 153 6051 h' ∧ (∀ c k, c ≠ 149 → xI h' c k = xI h c k) ∧ (∀ c k, xR h' c k = xR h c k)
  | 0, x, h, h0, hm, hg => by
    have e8 : (6 : Int32).toInt = 6 := rfl
    have e8' : (Int32.ofInt 6).toInt = 6 := rfl
    have key := XT_path (l := l) (fr := 0) (lo := 0) (full := false) (M := 240) (n := 153) (u := 6051) (pc := 41) (L := [xf 13 104, xf 10440 149, xi i, xi x]) (st := []) (h := h) (inl := []) (n' := 40) (sp := [67]) (o := [1]) rfl rfl ⟨rfl, rfl, rfl⟩ rfl ⟨Nat.le_of_eq hg.2.2.2.1, Nat.le_of_eq hg.2.2.2.2⟩ ⟨trivial, Int32.le_iff_toInt_le.mpr (by omega)⟩
    exact ⟨x, h, key, hg, fun _ _ _ => rfl, fun _ _ => rfl⟩
  | m + 1, x, h, h0, hm, hg => by
    have e8 : (6 : Int32).toInt = 6 := rfl
    have e8' : (Int32.ofInt 6).toInt = 6 := rfl
    have r55 : xR h 104 55 = 133 := vref hg.1 rfl
    have ei8 : (i + 16 + x).toInt = 22 * u + 16 + x.toInt := by
      have e1 : (i + 16).toInt = 22 * u + 16 := by
        rw [Int32.toInt_add, hi, show (16 : Int32).toInt = 16 from rfl]
        exact Int.bmod_eq_of_le (by omega) (by omega)
      rw [Int32.toInt_add, e1]
      exact Int.bmod_eq_of_le (by omega) (by omega)
    have ex : (x + 1).toInt = x.toInt + 1 := y_succ h0 (by omega)
    have nx : x.toNatClampNeg = x.toInt.toNat := rfl
    have n2 : (i + 16 + x).toNatClampNeg = 22 * u + 16 + x.toNatClampNeg := by
      show (i + 16 + x).toInt.toNat = _
      omega
    have key := XT_path (l := l) (fr := 0) (lo := 0) (full := false) (M := 240) (n := 153) (u := 6051) (pc := 41) (L := [xf 13 104, xf 10440 149, xi i, xi x]) (st := []) (h := h) (inl := []) (n' := 60) (sp := [41]) (o := [0]) rfl rfl ⟨rfl, rfl, rfl⟩ rfl ⟨Nat.le_of_eq hg.2.2.2.1, Nat.le_of_eq hg.2.2.2.2⟩
    simp [r55, yI_same, yI_ne, yI_c, yR_I, n2] at key
    have key := key (Int32.lt_iff_toInt_lt.mpr (by omega)) (vp_of (n := 12) (by omega) (by omega)) (vp_of (n := 440) (by omega) (by omega))
    have hx8 : x.toNatClampNeg < 6 := by omega
    have b2 : (0 : Int) ≤ (xI h 133 x.toNatClampNeg).toInt ∧ (xI h 133 x.toNatClampNeg).toInt ≤ 9 := by
      have := vbnd hg.1 133 x.toNatClampNeg
      rw [vS133_s _ hx8] at this
      exact this
    have g2 : sgood vT vR vE 153 6051 (xsetI h 149 (22 * u + 16 + x.toNatClampNeg) (xI h 133 x.toNatClampNeg)) := vput149 hg (by
      rw [vS149_s u hu _ hx8]
      exact b2) (Or.inr (Or.inr (by omega)))
    obtain ⟨x', h', t, g', f', fR'⟩ := vh_put149_b l i u hu hi m (x + 1) _ (by omega) (by omega) g2
    refine ⟨x', h', key.tr t, g', fun c k hc => ?_, fun c k => fR' c k⟩
    rw [f' c k hc, yI_c (eq_false hc)]
set_option maxRecDepth 100000 in
theorem vh_put149 (l : Launch) (u : Nat) (hu : u < 20) (i : Int32) (hi : i.toInt = 22 * u) (h : XH) (hg : sgood vT vR vE 153 6051 h) : ∃ h', CX l 0 0 false 240 [xf 13 104, xf 10440 149, xi i] h [] h' ∧ sgood vT vR vE 153 6051 h' ∧ (∀ c k, c ≠ 149 → xI h' c k = xI h c k) ∧ (∀ c k, xR h' c k = xR h c k) := by
  have e0 : (0 : Int32).toInt = 0 := rfl
  have t0 := XT_path (l := l) (fr := 0) (lo := 0) (full := false) (M := 240) (n := 153) (u := 6051) (pc := 0) (L := [xf 13 104, xf 10440 149, xi i, xun]) (st := []) (h := h) (inl := []) (n' := 40) (sp := [2]) (o := []) rfl rfl ⟨rfl, rfl, rfl⟩ rfl ⟨Nat.le_of_eq hg.2.2.2.1, Nat.le_of_eq hg.2.2.2.2⟩ trivial
  obtain ⟨x1, h1, t1, g1, f1, q1⟩ := vh_put149_a l i u hu hi 8 0 h (by rw [e0]; omega) (by rw [e0]; omega) hg
  have t2 := XT_path (l := l) (fr := 0) (lo := 0) (full := false) (M := 240) (n := 153) (u := 6051) (pc := 39) (L := [xf 13 104, xf 10440 149, xi i, xi x1]) (st := []) (h := h1) (inl := []) (n' := 40) (sp := [41]) (o := []) rfl rfl ⟨rfl, rfl, rfl⟩ rfl ⟨Nat.le_of_eq g1.2.2.2.1, Nat.le_of_eq g1.2.2.2.2⟩ trivial
  obtain ⟨x2, h2, t3, g2, f2, q2⟩ := vh_put149_b l i u hu hi 6 0 h1 (by rw [e0]; omega) (by rw [e0]; omega) g1
  refine ⟨h2, CX_ofT (by decide) rfl rfl trivial ⟨_, _, _, rfl, rfl, rfl⟩ rfl ⟨Nat.le_of_eq g2.2.2.2.1.symm, Nat.le_of_eq g2.2.2.2.2.symm⟩ (((t0.tr t1).tr t2).tr t3), g2, fun c k hc => (f2 c k hc).trans (f1 c k hc), fun c k => (q2 c k).trans (q1 c k)⟩
set_option maxRecDepth 100000 in
set_option maxHeartbeats 1000000 in
theorem vh_put150_a (l : Launch) (i : Int32) (u : Nat) (hu : u < 1) (hi : i.toInt = 22 * u) : ∀ (m : Nat) (x : Int32) (h : XH), 0 ≤ x.toInt → x.toInt + m = 8 → sgood vT vR vE 153 6051 h → ∃ x' h', XT l 0 0 false 240 153 6051 2 [xf 13 104, xf 10022 150, xi i, xi x] [] h 39 [xf 13 104, xf 10022 150, xi i, xi x'] [] h' ∧ sgood vT vR vE 153 6051 h' ∧ (∀ c k, c ≠ 150 → xI h' c k = xI h c k) ∧ (∀ c k, xR h' c k = xR h c k)
  | 0, x, h, h0, hm, hg => by
    have e8 : (8 : Int32).toInt = 8 := rfl
    have e8' : (Int32.ofInt 8).toInt = 8 := rfl
    have key := XT_path (l := l) (fr := 0) (lo := 0) (full := false) (M := 240) (n := 153) (u := 6051) (pc := 2) (L := [xf 13 104, xf 10022 150, xi i, xi x]) (st := []) (h := h) (inl := []) (n' := 40) (sp := [39]) (o := [1]) rfl rfl ⟨rfl, rfl, rfl⟩ rfl ⟨Nat.le_of_eq hg.2.2.2.1, Nat.le_of_eq hg.2.2.2.2⟩ ⟨trivial, Int32.le_iff_toInt_le.mpr (by omega)⟩
    exact ⟨x, h, key, hg, fun _ _ _ => rfl, fun _ _ => rfl⟩
  | m + 1, x, h, h0, hm, hg => by
    have e8 : (8 : Int32).toInt = 8 := rfl
    have e8' : (Int32.ofInt 8).toInt = 8 := rfl
    have r58 : xR h 104 58 = 136 := vref hg.1 rfl
    have r57 : xR h 104 57 = 135 := vref hg.1 rfl
    have ei : (i + x).toInt = 22 * u + x.toInt := by
      rw [Int32.toInt_add, hi]
      exact Int.bmod_eq_of_le (by omega) (by omega)
    have ei8 : (i + 8 + x).toInt = 22 * u + 8 + x.toInt := by
      have e1 : (i + 8).toInt = 22 * u + 8 := by
        rw [Int32.toInt_add, hi, e8]
        exact Int.bmod_eq_of_le (by omega) (by omega)
      rw [Int32.toInt_add, e1]
      exact Int.bmod_eq_of_le (by omega) (by omega)
    have ex : (x + 1).toInt = x.toInt + 1 := y_succ h0 (by omega)
    have nx : x.toNatClampNeg = x.toInt.toNat := rfl
    have n1 : (i + x).toNatClampNeg = 22 * u + x.toNatClampNeg := by
      show (i + x).toInt.toNat = _
      omega
    have n2 : (i + 8 + x).toNatClampNeg = 22 * u + 8 + x.toNatClampNeg := by
      show (i + 8 + x).toInt.toNat = _
      omega
    have key := XT_path (l := l) (fr := 0) (lo := 0) (full := false) (M := 240) (n := 153) (u := 6051) (pc := 2) (L := [xf 13 104, xf 10022 150, xi i, xi x]) (st := []) (h := h) (inl := []) (n' := 60) (sp := [2]) (o := [0]) rfl rfl ⟨rfl, rfl, rfl⟩ rfl ⟨Nat.le_of_eq hg.2.2.2.1, Nat.le_of_eq hg.2.2.2.2⟩
    simp [r58, r57, yI_same, yI_ne, yI_c, yR_I, n1, n2] at key
    have key := key (Int32.lt_iff_toInt_lt.mpr (by omega)) (vp_of (n := 16) (by omega) (by omega)) (vp_of (n := 22) (by omega) (by omega)) (vp_of (n := 16) (by omega) (by omega)) (vp_of (n := 22) (by omega) (by omega))
    have b1 : (-2 : Int) ≤ (xI h 136 x.toNatClampNeg).toInt ∧ (xI h 136 x.toNatClampNeg).toInt ≤ 1 := by
      have := vbnd hg.1 136 x.toNatClampNeg
      rw [vI_u (c := 136) (q := (-2, 1)) (by decide +kernel) (by decide +kernel)] at this
      exact this
    have b2 : (0 : Int) ≤ (xI h 135 x.toNatClampNeg).toInt ∧ (xI h 135 x.toNatClampNeg).toInt ≤ 5 := by
      have := vbnd hg.1 135 x.toNatClampNeg
      rw [vI_u (c := 135) (q := (0, 5)) (by decide +kernel) (by decide +kernel)] at this
      exact this
    have hx8 : x.toNatClampNeg < 8 := by omega
    have g1 : sgood vT vR vE 153 6051 (xsetI h 150 (22 * u + x.toNatClampNeg) (xI h 136 x.toNatClampNeg)) := vput150 hg (by
      rw [vS150_c u hu _ hx8]
      exact b1) (Or.inr (Or.inl (by omega)))
    have g2 : sgood vT vR vE 153 6051 (xsetI (xsetI h 150 (22 * u + x.toNatClampNeg) (xI h 136 x.toNatClampNeg)) 150 (22 * u + 8 + x.toNatClampNeg) (xI h 135 x.toNatClampNeg)) := vput150 g1 (by
      rw [vS150_p u hu _ hx8]
      exact b2) (Or.inl (vz_fr (fun v _ => yI_c (by decide)) (vz_place hg.2.1 hx8)))
    obtain ⟨x', h', t, g', f', fR'⟩ := vh_put150_a l i u hu hi m (x + 1) _ (by omega) (by omega) g2
    refine ⟨x', h', key.tr t, g', fun c k hc => ?_, fun c k => fR' c k⟩
    rw [f' c k hc, yI_c (eq_false hc), yI_c (eq_false hc)]
set_option maxRecDepth 100000 in
set_option maxHeartbeats 1000000 in
theorem vh_put150_b (l : Launch) (i : Int32) (u : Nat) (hu : u < 1) (hi : i.toInt = 22 * u) : ∀ (m : Nat) (x : Int32) (h : XH), 0 ≤ x.toInt → x.toInt + m = 6 → sgood vT vR vE 153 6051 h → ∃ x' h', XT l 0 0 false 240 153 6051 41 [xf 13 104, xf 10022 150, xi i, xi x] [] h 67 [xf 13 104, xf 10022 150, xi i, xi x'] [] h' ∧ sgood vT vR vE 153 6051 h' ∧ (∀ c k, c ≠ 150 → xI h' c k = xI h c k) ∧ (∀ c k, xR h' c k = xR h c k)
  | 0, x, h, h0, hm, hg => by
    have e8 : (6 : Int32).toInt = 6 := rfl
    have e8' : (Int32.ofInt 6).toInt = 6 := rfl
    have key := XT_path (l := l) (fr := 0) (lo := 0) (full := false) (M := 240) (n := 153) (u := 6051) (pc := 41) (L := [xf 13 104, xf 10022 150, xi i, xi x]) (st := []) (h := h) (inl := []) (n' := 40) (sp := [67]) (o := [1]) rfl rfl ⟨rfl, rfl, rfl⟩ rfl ⟨Nat.le_of_eq hg.2.2.2.1, Nat.le_of_eq hg.2.2.2.2⟩ ⟨trivial, Int32.le_iff_toInt_le.mpr (by omega)⟩
    exact ⟨x, h, key, hg, fun _ _ _ => rfl, fun _ _ => rfl⟩
  | m + 1, x, h, h0, hm, hg => by
    have e8 : (6 : Int32).toInt = 6 := rfl
    have e8' : (Int32.ofInt 6).toInt = 6 := rfl
    have r55 : xR h 104 55 = 133 := vref hg.1 rfl
    have ei8 : (i + 16 + x).toInt = 22 * u + 16 + x.toInt := by
      have e1 : (i + 16).toInt = 22 * u + 16 := by
        rw [Int32.toInt_add, hi, show (16 : Int32).toInt = 16 from rfl]
        exact Int.bmod_eq_of_le (by omega) (by omega)
      rw [Int32.toInt_add, e1]
      exact Int.bmod_eq_of_le (by omega) (by omega)
    have ex : (x + 1).toInt = x.toInt + 1 := y_succ h0 (by omega)
    have nx : x.toNatClampNeg = x.toInt.toNat := rfl
    have n2 : (i + 16 + x).toNatClampNeg = 22 * u + 16 + x.toNatClampNeg := by
      show (i + 16 + x).toInt.toNat = _
      omega
    have key := XT_path (l := l) (fr := 0) (lo := 0) (full := false) (M := 240) (n := 153) (u := 6051) (pc := 41) (L := [xf 13 104, xf 10022 150, xi i, xi x]) (st := []) (h := h) (inl := []) (n' := 60) (sp := [41]) (o := [0]) rfl rfl ⟨rfl, rfl, rfl⟩ rfl ⟨Nat.le_of_eq hg.2.2.2.1, Nat.le_of_eq hg.2.2.2.2⟩
    simp [r55, yI_same, yI_ne, yI_c, yR_I, n2] at key
    have key := key (Int32.lt_iff_toInt_lt.mpr (by omega)) (vp_of (n := 12) (by omega) (by omega)) (vp_of (n := 22) (by omega) (by omega))
    have hx8 : x.toNatClampNeg < 6 := by omega
    have b2 : (0 : Int) ≤ (xI h 133 x.toNatClampNeg).toInt ∧ (xI h 133 x.toNatClampNeg).toInt ≤ 9 := by
      have := vbnd hg.1 133 x.toNatClampNeg
      rw [vS133_s _ hx8] at this
      exact this
    have g2 : sgood vT vR vE 153 6051 (xsetI h 150 (22 * u + 16 + x.toNatClampNeg) (xI h 133 x.toNatClampNeg)) := vput150 hg (by
      rw [vS150_s u hu _ hx8]
      exact b2) (Or.inr (Or.inr (by omega)))
    obtain ⟨x', h', t, g', f', fR'⟩ := vh_put150_b l i u hu hi m (x + 1) _ (by omega) (by omega) g2
    refine ⟨x', h', key.tr t, g', fun c k hc => ?_, fun c k => fR' c k⟩
    rw [f' c k hc, yI_c (eq_false hc)]
set_option maxRecDepth 100000 in
theorem vh_put150 (l : Launch) (u : Nat) (hu : u < 1) (i : Int32) (hi : i.toInt = 22 * u) (h : XH) (hg : sgood vT vR vE 153 6051 h) : ∃ h', CX l 0 0 false 240 [xf 13 104, xf 10022 150, xi i] h [] h' ∧ sgood vT vR vE 153 6051 h' ∧ (∀ c k, c ≠ 150 → xI h' c k = xI h c k) ∧ (∀ c k, xR h' c k = xR h c k) := by
  have e0 : (0 : Int32).toInt = 0 := rfl
  have t0 := XT_path (l := l) (fr := 0) (lo := 0) (full := false) (M := 240) (n := 153) (u := 6051) (pc := 0) (L := [xf 13 104, xf 10022 150, xi i, xun]) (st := []) (h := h) (inl := []) (n' := 40) (sp := [2]) (o := []) rfl rfl ⟨rfl, rfl, rfl⟩ rfl ⟨Nat.le_of_eq hg.2.2.2.1, Nat.le_of_eq hg.2.2.2.2⟩ trivial
  obtain ⟨x1, h1, t1, g1, f1, q1⟩ := vh_put150_a l i u hu hi 8 0 h (by rw [e0]; omega) (by rw [e0]; omega) hg
  have t2 := XT_path (l := l) (fr := 0) (lo := 0) (full := false) (M := 240) (n := 153) (u := 6051) (pc := 39) (L := [xf 13 104, xf 10022 150, xi i, xi x1]) (st := []) (h := h1) (inl := []) (n' := 40) (sp := [41]) (o := []) rfl rfl ⟨rfl, rfl, rfl⟩ rfl ⟨Nat.le_of_eq g1.2.2.2.1, Nat.le_of_eq g1.2.2.2.2⟩ trivial
  obtain ⟨x2, h2, t3, g2, f2, q2⟩ := vh_put150_b l i u hu hi 6 0 h1 (by rw [e0]; omega) (by rw [e0]; omega) g1
  refine ⟨h2, CX_ofT (by decide) rfl rfl trivial ⟨_, _, _, rfl, rfl, rfl⟩ rfl ⟨Nat.le_of_eq g2.2.2.2.1.symm, Nat.le_of_eq g2.2.2.2.2.symm⟩ (((t0.tr t1).tr t2).tr t3), g2, fun c k hc => (f2 c k hc).trans (f1 c k hc), fun c k => (q2 c k).trans (q1 c k)⟩
