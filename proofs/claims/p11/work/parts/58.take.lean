/-! CONTRACTS BY HAND: take. -/
def vRiA : SRl → Bool
  | .inl ([(c, k, q)], (d, m, w)) => ((Nat.beq c 135 && Nat.blt k 8) && (decide (q = ((m : Int), (m : Int))) && Nat.beq d 110)) && ((Nat.blt m 6 && Nat.blt 0 m) && decide (w = (1, 9)))
  | _ => false
theorem vRi_only : vR.all (fun r => !stch [(135, 0, true)] r || vRiA r) = true := by decide +kernel
theorem vI110 : ∀ v, v < 6 → vI 110 v = (0, 9) := by decide +kernel
theorem srw_set135 {h : XH} (hi : sinv vT h) (hr : srw vR [] h) {p : Nat} {v : Int32} (hz : vz h v) : srw vR [] (xsetI h 135 p v) := by
  intro r hr' h00
  cases ht : stch [(135, p, false)] r with
  | false =>
    have h1 : srw vR ([(135, p, false)] ++ []) (xsetI h 135 p v) := srw_frame hr (fun c' k' hc => yI_ne (eq_false (swin1 hc)))
    exact h1 r hr' ht
  | true =>
    have hall := List.all_eq_true.mp vRi_only r hr'
    rw [Bool.or_eq_true] at hall
    have h135 : ∀ c k, swin [(135, p, false)] c k = true → c = 135 ∧ k = p := fun c k hs => by
      unfold swin at hs
      rw [List.any_cons, List.any_nil, Bool.or_false, Bool.and_eq_true, Bool.false_or] at hs
      exact ⟨(Nat.eq_of_beq_eq_true hs.1).symm, (Nat.eq_of_beq_eq_true hs.2).symm⟩
    rcases hall with hall | hall
    · exfalso
      have hw : ∀ c k, swin [(135, p, false)] c k = true → swin [(135, 0, true)] c k = true := fun c k hs => by
        rw [(h135 c k hs).1]
        rfl
      have : stch [(135, 0, true)] r = true := by
        match r, ht with
        | .inl r, ht =>
          have ht : (r.1.any (fun q => swin [(135, p, false)] q.1 q.2.1) || swin [(135, p, false)] r.2.1 r.2.2.1) = true := ht
          show (r.1.any (fun q => swin [(135, 0, true)] q.1 q.2.1) || swin [(135, 0, true)] r.2.1 r.2.2.1) = true
          rw [Bool.or_eq_true] at ht ⊢
          rcases ht with ht | ht
          · obtain ⟨q, hq, hz⟩ := List.any_eq_true.mp ht
            exact Or.inl (List.any_eq_true.mpr ⟨q, hq, hw _ _ hz⟩)
          · exact Or.inr (hw _ _ ht)
        | .inr r, ht =>
          have ht : (swin [(135, p, false)] r.1.1 r.1.2 || swin [(135, p, false)] r.2.1 r.2.2) = true := ht
          show (swin [(135, 0, true)] r.1.1 r.1.2 || swin [(135, 0, true)] r.2.1 r.2.2) = true
          rw [Bool.or_eq_true] at ht ⊢
          exact ht.imp (hw _ _) (hw _ _)
      rw [this] at hall
      cases hall
    · unfold vRiA at hall
      split at hall
      · rename_i c k q d m w
        simp only [Bool.and_eq_true, decide_eq_true_eq] at hall
        obtain ⟨⟨⟨b1, b2⟩, b3, b4⟩, ⟨b5, b6⟩, b7⟩ := hall
        have b1 := Nat.eq_of_beq_eq_true b1
        have b4 := Nat.eq_of_beq_eq_true b4
        subst b1 b4 b3 b7
        have hm : m < 6 := Nat.le_of_ble_eq_true b5
        have h1 : 1 ≤ m := Nat.le_of_ble_eq_true b6
        have hk : k = p := by
          have ht : ((swin [(135, p, false)] 135 k || false) || swin [(135, p, false)] 110 m) = true := ht
          rw [Bool.or_eq_true, Bool.or_eq_true] at ht
          rcases ht with (ht | ht) | ht
          · exact (h135 _ _ ht).2
          · cases ht
          · exact absurd (h135 _ _ ht).1 (by decide)
        subst hk
        intro hg
        have hg := hg _ List.mem_cons_self
        unfold sqin at hg ⊢
        dsimp only at hg ⊢
        rw [yI_same] at hg
        rw [yI_c (by decide)]
        have ub := vbnd hi 110 m
        rw [vI110 m hm] at ub
        exact ⟨hz m hm h1 (by omega), ub.2⟩
      · cases hall
theorem vEC_no {c : Nat} (h : vEC.all (fun q => !Nat.beq q.1 c) = true) (k : Nat) : swin vEC c k = false := by
  unfold swin
  refine List.any_eq_false.mpr fun q hq => ?_
  have := List.all_eq_true.mp h q hq
  have e : Nat.beq q.1 c = false := by simpa using this
  rw [e]
  simp
/-- a slot written on which nothing else rests -/
theorem vset0 {h : XH} (hg : sgood vT vR vE 153 6051 h) {c k : Nat} {v : Int32} (hv : (vI c k).1 ≤ v.toInt ∧ v.toInt ≤ (vI c k).2) (h1 : stou vRC (c, k, false) = false) (h2 : vEC.all (fun q => !Nat.beq q.1 c) = true) : sgood vT vR vE 153 6051 (xsetI h c k v) := by
  refine ⟨sinv_setI hg.1 hv, srw_setI hg.2.1 h1, vE_fr h _ (fun c' k' hck => ?_) hg.2.2.1, hg.2.2.2⟩
  have hc : ¬ c' = c := fun z => by
    rw [z, vEC_no h2] at hck
    cases hck
  exact yI_c (eq_false hc)
theorem vset135 {h : XH} (hg : sgood vT vR vE 153 6051 h) {k : Nat} {v : Int32} (hv : 0 ≤ v.toInt ∧ v.toInt ≤ 5) (hz : vz h v) : sgood vT vR vE 153 6051 (xsetI h 135 k v) := by
  refine ⟨sinv_setI hg.1 (by rw [vI_u (c := 135) (q := (0, 5)) (by decide +kernel) (by decide +kernel)]; exact hv), srw_set135 hg.1 hg.2.1 hz, vE_fr h _ (fun c' k' hck => ?_) hg.2.2.1, hg.2.2.2⟩
  have hc : ¬ c' = 135 := fun z => by
    rw [z, vEC_no (by decide +kernel)] at hck
    cases hck
  exact yI_c (eq_false hc)
theorem vz149 {h : XH} (hg : sgood vT vR vE 153 6051 h) {u p : Nat} (hp : p < 8) : vz h (xI h 149 (22 * u + 8 + p)) := by
  rcases hg.2.2.1.2.1.1 (22 * u + 8 + p) with z | z | z
  · exact z
  · omega
  · omega
theorem vz150 {h : XH} (hg : sgood vT vR vE 153 6051 h) {u p : Nat} (hu : u < 1) (hp : p < 8) : vz h (xI h 150 (22 * u + 8 + p)) := by
  obtain rfl : u = 0 := by omega
  rw [show 22 * 0 + 8 + p = 8 + p by omega]
  exact hg.2.2.1.2.1.2 p hp
set_option maxRecDepth 100000 in
set_option maxHeartbeats 1000000 in
theorem vh_tk149_a (l : Launch) (i : Int32) (u : Nat) (hu : u < 20) (hi : i.toInt = 22 * u) : ∀ (m : Nat) (x : Int32) (h : XH), 0 ≤ x.toInt → x.toInt + m = 8 → sgood vT vR vE 153 6051 h → ∃ x' h', XT l 0 0 false 284 153 6051 2 [xf 13 104, xf 10440 149, xi i, xi x] [] h 39 [xf 13 104, xf 10440 149, xi i, xi x'] [] h' ∧ sgood vT vR vE 153 6051 h' ∧ (∀ c k, c ≠ 135 → c ≠ 136 → xI h' c k = xI h c k) ∧ (∀ c k, xR h' c k = xR h c k)
  | 0, x, h, h0, hm, hg => by
    have e8' : (Int32.ofInt 8).toInt = 8 := rfl
    have key := XT_path (l := l) (fr := 0) (lo := 0) (full := false) (M := 284) (n := 153) (u := 6051) (pc := 2) (L := [xf 13 104, xf 10440 149, xi i, xi x]) (st := []) (h := h) (inl := []) (n' := 40) (sp := [39]) (o := [1]) rfl rfl ⟨rfl, rfl, rfl⟩ rfl ⟨Nat.le_of_eq hg.2.2.2.1, Nat.le_of_eq hg.2.2.2.2⟩ ⟨trivial, Int32.le_iff_toInt_le.mpr (by omega)⟩
    exact ⟨x, h, key, hg, fun _ _ _ _ => rfl, fun _ _ => rfl⟩
  | m + 1, x, h, h0, hm, hg => by
    have e8 : (8 : Int32).toInt = 8 := rfl
    have e8' : (Int32.ofInt 8).toInt = 8 := rfl
    have r58 : xR h 104 58 = 136 := vref hg.1 rfl
    have r57 : xR h 104 57 = 135 := vref hg.1 rfl
    have ei : (i + x).toInt = 22 * u + x.toInt := by
      rw [Int32.toInt_add, hi]
      exact Int.bmod_eq_of_le (by omega) (by omega)
    have ei8 : (i + 8 + x).toInt = 22 * u + 8 + x.toInt := by
      have e1 : (i + 8).toInt = 22 * u + 8 := by
        rw [Int32.toInt_add, hi, e8]
        exact Int.bmod_eq_of_le (by omega) (by omega)
      rw [Int32.toInt_add, e1]
      exact Int.bmod_eq_of_le (by omega) (by omega)
    have ex : (x + 1).toInt = x.toInt + 1 := y_succ h0 (by omega)
    have nx : x.toNatClampNeg = x.toInt.toNat := rfl
    have n1 : (i + x).toNatClampNeg = 22 * u + x.toNatClampNeg := by
      show (i + x).toInt.toNat = _
      omega
    have n2 : (i + 8 + x).toNatClampNeg = 22 * u + 8 + x.toNatClampNeg := by
      show (i + 8 + x).toInt.toNat = _
      omega
    have key := XT_path (l := l) (fr := 0) (lo := 0) (full := false) (M := 284) (n := 153) (u := 6051) (pc := 2) (L := [xf 13 104, xf 10440 149, xi i, xi x]) (st := []) (h := h) (inl := []) (n' := 60) (sp := [2]) (o := [0]) rfl rfl ⟨rfl, rfl, rfl⟩ rfl ⟨Nat.le_of_eq hg.2.2.2.1, Nat.le_of_eq hg.2.2.2.2⟩
    simp [r58, r57, yI_same, yI_ne, yI_c, yR_I, n1, n2] at key
    have key := key (Int32.lt_iff_toInt_lt.mpr (by omega)) (vp_of (n := 440) (by omega) (by omega)) (vp_of (n := 16) (by omega) (by omega)) (vp_of (n := 440) (by omega) (by omega)) (vp_of (n := 16) (by omega) (by omega))
    have hx8 : x.toNatClampNeg < 8 := by omega
    have b1 : (-2 : Int) ≤ (xI h 149 (22 * u + x.toNatClampNeg)).toInt ∧ (xI h 149 (22 * u + x.toNatClampNeg)).toInt ≤ 1 := by
      have := vbnd hg.1 149 (22 * u + x.toNatClampNeg)
      rw [vS149_c u hu _ hx8] at this
      exact this
    have b2 : (0 : Int) ≤ (xI h 149 (22 * u + 8 + x.toNatClampNeg)).toInt ∧ (xI h 149 (22 * u + 8 + x.toNatClampNeg)).toInt ≤ 5 := by
      have := vbnd hg.1 149 (22 * u + 8 + x.toNatClampNeg)
      rw [vS149_p u hu _ hx8] at this
      exact this
    have g1 : sgood vT vR vE 153 6051 (xsetI h 136 x.toNatClampNeg (xI h 149 (22 * u + x.toNatClampNeg))) := vset0 hg (by
      rw [vI_u (c := 136) (q := (-2, 1)) (by decide +kernel) (by decide +kernel)]
      exact b1) (stou_no (by decide +kernel)) (by decide +kernel)
    have g2 : sgood vT vR vE 153 6051 (xsetI (xsetI h 136 x.toNatClampNeg (xI h 149 (22 * u + x.toNatClampNeg))) 135 x.toNatClampNeg (xI h 149 (22 * u + 8 + x.toNatClampNeg))) := vset135 g1 b2 (vz_fr (fun v _ => yI_c (by decide)) (vz149 hg  hx8))
    obtain ⟨x', h', t, g', f', fR'⟩ := vh_tk149_a l i u hu hi m (x + 1) _ (by omega) (by omega) g2
    refine ⟨x', h', key.tr t, g', fun c k hc hd => ?_, fun c k => fR' c k⟩
    rw [f' c k hc hd, yI_c (eq_false hc), yI_c (eq_false hd)]
set_option maxRecDepth 100000 in
set_option maxHeartbeats 1000000 in
theorem vh_tk149_b (l : Launch) (i : Int32) (u : Nat) (hu : u < 20) (hi : i.toInt = 22 * u) : ∀ (m : Nat) (x : Int32) (h : XH), 0 ≤ x.toInt → x.toInt + m = 6 → sgood vT vR vE 153 6051 h → ∃ x' h', XT l 0 0 false 284 153 6051 41 [xf 13 104, xf 10440 149, xi i, xi x] [] h 67 [xf 13 104, xf 10440 149, xi i, xi x'] [] h' ∧ sgood vT vR vE 153 6051 h' ∧ (∀ c k, c ≠ 133 → xI h' c k = xI h c k) ∧ (∀ c k, xR h' c k = xR h c k)
  | 0, x, h, h0, hm, hg => by
    have e8' : (Int32.ofInt 6).toInt = 6 := rfl
    have key := XT_path (l := l) (fr := 0) (lo := 0) (full := false) (M := 284) (n := 153) (u := 6051) (pc := 41) (L := [xf 13 104, xf 10440 149, xi i, xi x]) (st := []) (h := h) (inl := []) (n' := 40) (sp := [67]) (o := [1]) rfl rfl ⟨rfl, rfl, rfl⟩ rfl ⟨Nat.le_of_eq hg.2.2.2.1, Nat.le_of_eq hg.2.2.2.2⟩ ⟨trivial, Int32.le_iff_toInt_le.mpr (by omega)⟩
    exact ⟨x, h, key, hg, fun _ _ _ => rfl, fun _ _ => rfl⟩
  | m + 1, x, h, h0, hm, hg => by
    have e8 : (6 : Int32).toInt = 6 := rfl
    have e8' : (Int32.ofInt 6).toInt = 6 := rfl
    have r55 : xR h 104 55 = 133 := vref hg.1 rfl
    have ei8 : (i + 16 + x).toInt = 22 * u + 16 + x.toInt := by
      have e1 : (i + 16).toInt = 22 * u + 16 := by
        rw [Int32.toInt_add, hi, show (16 : Int32).toInt = 16 from rfl]
        exact Int.bmod_eq_of_le (by omega) (by omega)
      rw [Int32.toInt_add, e1]
      exact Int.bmod_eq_of_le (by omega) (by omega)
    have ex : (x + 1).toInt = x.toInt + 1 := y_succ h0 (by omega)
    have nx : x.toNatClampNeg = x.toInt.toNat := rfl
    have n2 : (i + 16 + x).toNatClampNeg = 22 * u + 16 + x.toNatClampNeg := by
      show (i + 16 + x).toInt.toNat = _
      omega
    have key := XT_path (l := l) (fr := 0) (lo := 0) (full := false) (M := 284) (n := 153) (u := 6051) (pc := 41) (L := [xf 13 104, xf 10440 149, xi i, xi x]) (st := []) (h := h) (inl := []) (n' := 60) (sp := [41]) (o := [0]) rfl rfl ⟨rfl, rfl, rfl⟩ rfl ⟨Nat.le_of_eq hg.2.2.2.1, Nat.le_of_eq hg.2.2.2.2⟩
    simp [r55, yI_same, yI_ne, yI_c, yR_I, n2] at key
    have key := key (Int32.lt_iff_toInt_lt.mpr (by omega)) (vp_of (n := 440) (by omega) (by omega)) (vp_of (n := 12) (by omega) (by omega))
    have hx8 : x.toNatClampNeg < 6 := by omega
    have b2 : (0 : Int) ≤ (xI h 149 (22 * u + 16 + x.toNatClampNeg)).toInt ∧ (xI h 149 (22 * u + 16 + x.toNatClampNeg)).toInt ≤ 9 := by
      have := vbnd hg.1 149 (22 * u + 16 + x.toNatClampNeg)
      rw [vS149_s u hu _ hx8] at this
      exact this
    have g2 : sgood vT vR vE 153 6051 (xsetI h 133 x.toNatClampNeg (xI h 149 (22 * u + 16 + x.toNatClampNeg))) := vset0 hg (by
      rw [vS133_s _ hx8]
      exact b2) (stou_no (by decide +kernel)) (by decide +kernel)
    obtain ⟨x', h', t, g', f', fR'⟩ := vh_tk149_b l i u hu hi m (x + 1) _ (by omega) (by omega) g2
    refine ⟨x', h', key.tr t, g', fun c k hc => ?_, fun c k => fR' c k⟩
    rw [f' c k hc, yI_c (eq_false hc)]
set_option maxRecDepth 100000 in
theorem vh_tk149 (l : Launch) (u : Nat) (hu : u < 20) (i : Int32) (hi : i.toInt = 22 * u) (h : XH) (hg : sgood vT vR vE 153 6051 h) : ∃ h', CX l 0 0 false 284 [xf 13 104, xf 10440 149, xi i] h [] h' ∧ sgood vT vR vE 153 6051 h' ∧ (∀ c k, c ≠ 133 → c ≠ 135 → c ≠ 136 → xI h' c k = xI h c k) ∧ (∀ c k, xR h' c k = xR h c k) := by
  have e0 : (0 : Int32).toInt = 0 := rfl
  have t0 := XT_path (l := l) (fr := 0) (lo := 0) (full := false) (M := 284) (n := 153) (u := 6051) (pc := 0) (L := [xf 13 104, xf 10440 149, xi i, xun]) (st := []) (h := h) (inl := []) (n' := 40) (sp := [2]) (o := []) rfl rfl ⟨rfl, rfl, rfl⟩ rfl ⟨Nat.le_of_eq hg.2.2.2.1, Nat.le_of_eq hg.2.2.2.2⟩ trivial
  obtain ⟨x1, h1, t1, g1, f1, q1⟩ := vh_tk149_a l i u hu hi 8 0 h (by rw [e0]; omega) (by rw [e0]; omega) hg
  have t2 := XT_path (l := l) (fr := 0) (lo := 0) (full := false) (M := 284) (n := 153) (u := 6051) (pc := 39) (L := [xf 13 104, xf 10440 149, xi i, xi x1]) (st := []) (h := h1) (inl := []) (n' := 40) (sp := [41]) (o := []) rfl rfl ⟨rfl, rfl, rfl⟩ rfl ⟨Nat.le_of_eq g1.2.2.2.1, Nat.le_of_eq g1.2.2.2.2⟩ trivial
  obtain ⟨x2, h2, t3, g2, f2, q2⟩ := vh_tk149_b l i u hu hi 6 0 h1 (by rw [e0]; omega) (by rw [e0]; omega) g1
  refine ⟨h2, CX_ofT (by decide) rfl rfl trivial ⟨_, _, _, rfl, rfl, rfl⟩ rfl ⟨Nat.le_of_eq g2.2.2.2.1.symm, Nat.le_of_eq g2.2.2.2.2.symm⟩ (((t0.tr t1).tr t2).tr t3), g2, fun c k h1 h2 h3 => (f2 c k h1).trans (f1 c k h2 h3), fun c k => (q2 c k).trans (q1 c k)⟩
set_option maxRecDepth 100000 in
set_option maxHeartbeats 1000000 in
theorem vh_tk150_a (l : Launch) (i : Int32) (u : Nat) (hu : u < 1) (hi : i.toInt = 22 * u) : ∀ (m : Nat) (x : Int32) (h : XH), 0 ≤ x.toInt → x.toInt + m = 8 → sgood vT vR vE 153 6051 h → ∃ x' h', XT l 0 0 false 284 153 6051 2 [xf 13 104, xf 10022 150, xi i, xi x] [] h 39 [xf 13 104, xf 10022 150, xi i, xi x'] [] h' ∧ sgood vT vR vE 153 6051 h' ∧ (∀ c k, c ≠ 135 → c ≠ 136 → xI h' c k = xI h c k) ∧ (∀ c k, xR h' c k = xR h c k)
  | 0, x, h, h0, hm, hg => by
    have e8' : (Int32.ofInt 8).toInt = 8 := rfl
    have key := XT_path (l := l) (fr := 0) (lo := 0) (full := false) (M := 284) (n := 153) (u := 6051) (pc := 2) (L := [xf 13 104, xf 10022 150, xi i, xi x]) (st := []) (h := h) (inl := []) (n' := 40) (sp := [39]) (o := [1]) rfl rfl ⟨rfl, rfl, rfl⟩ rfl ⟨Nat.le_of_eq hg.2.2.2.1, Nat.le_of_eq hg.2.2.2.2⟩ ⟨trivial, Int32.le_iff_toInt_le.mpr (by omega)⟩
    exact ⟨x, h, key, hg, fun _ _ _ _ => rfl, fun _ _ => rfl⟩
  | m + 1, x, h, h0, hm, hg => by
    have e8 : (8 : Int32).toInt = 8 := rfl
    have e8' : (Int32.ofInt 8).toInt = 8 := rfl
    have r58 : xR h 104 58 = 136 := vref hg.1 rfl
    have r57 : xR h 104 57 = 135 := vref hg.1 rfl
    have ei : (i + x).toInt = 22 * u + x.toInt := by
      rw [Int32.toInt_add, hi]
      exact Int.bmod_eq_of_le (by omega) (by omega)
    have ei8 : (i + 8 + x).toInt = 22 * u + 8 + x.toInt := by
      have e1 : (i + 8).toInt = 22 * u + 8 := by
        rw [Int32.toInt_add, hi, e8]
        exact Int.bmod_eq_of_le (by omega) (by omega)
      rw [Int32.toInt_add, e1]
      exact Int.bmod_eq_of_le (by omega) (by omega)
    have ex : (x + 1).toInt = x.toInt + 1 := y_succ h0 (by omega)
    have nx : x.toNatClampNeg = x.toInt.toNat := rfl
    have n1 : (i + x).toNatClampNeg = 22 * u + x.toNatClampNeg := by
      show (i + x).toInt.toNat = _
      omega
    have n2 : (i + 8 + x).toNatClampNeg = 22 * u + 8 + x.toNatClampNeg := by
      show (i + 8 + x).toInt.toNat = _
      omega
    have key := XT_path (l := l) (fr := 0) (lo := 0) (full := false) (M := 284) (n := 153) (u := 6051) (pc := 2) (L := [xf 13 104, xf 10022 150, xi i, xi x]) (st := []) (h := h) (inl := []) (n' := 60) (sp := [2]) (o := [0]) rfl rfl ⟨rfl, rfl, rfl⟩ rfl ⟨Nat.le_of_eq hg.2.2.2.1, Nat.le_of_eq hg.2.2.2.2⟩
    simp [r58, r57, yI_same, yI_ne, yI_c, yR_I, n1, n2] at key
    have key := key (Int32.lt_iff_toInt_lt.mpr (by omega)) (vp_of (n := 22) (by omega) (by omega)) (vp_of (n := 16) (by omega) (by omega)) (vp_of (n := 22) (by omega) (by omega)) (vp_of (n := 16) (by omega) (by omega))
    have hx8 : x.toNatClampNeg < 8 := by omega
    have b1 : (-2 : Int) ≤ (xI h 150 (22 * u + x.toNatClampNeg)).toInt ∧ (xI h 150 (22 * u + x.toNatClampNeg)).toInt ≤ 1 := by
      have := vbnd hg.1 150 (22 * u + x.toNatClampNeg)
      rw [vS150_c u hu _ hx8] at this
      exact this
    have b2 : (0 : Int) ≤ (xI h 150 (22 * u + 8 + x.toNatClampNeg)).toInt ∧ (xI h 150 (22 * u + 8 + x.toNatClampNeg)).toInt ≤ 5 := by
      have := vbnd hg.1 150 (22 * u + 8 + x.toNatClampNeg)
      rw [vS150_p u hu _ hx8] at this
      exact this
    have g1 : sgood vT vR vE 153 6051 (xsetI h 136 x.toNatClampNeg (xI h 150 (22 * u + x.toNatClampNeg))) := vset0 hg (by
      rw [vI_u (c := 136) (q := (-2, 1)) (by decide +kernel) (by decide +kernel)]
      exact b1) (stou_no (by decide +kernel)) (by decide +kernel)
    have g2 : sgood vT vR vE 153 6051 (xsetI (xsetI h 136 x.toNatClampNeg (xI h 150 (22 * u + x.toNatClampNeg))) 135 x.toNatClampNeg (xI h 150 (22 * u + 8 + x.toNatClampNeg))) := vset135 g1 b2 (vz_fr (fun v _ => yI_c (by decide)) (vz150 hg hu hx8))
    obtain ⟨x', h', t, g', f', fR'⟩ := vh_tk150_a l i u hu hi m (x + 1) _ (by omega) (by omega) g2
    refine ⟨x', h', key.tr t, g', fun c k hc hd => ?_, fun c k => fR' c k⟩
    rw [f' c k hc hd, yI_c (eq_false hc), yI_c (eq_false hd)]
set_option maxRecDepth 100000 in
set_option maxHeartbeats 1000000 in
theorem vh_tk150_b (l : Launch) (i : Int32) (u : Nat) (hu : u < 1) (hi : i.toInt = 22 * u) : ∀ (m : Nat) (x : Int32) (h : XH), 0 ≤ x.toInt → x.toInt + m = 6 → sgood vT vR vE 153 6051 h → ∃ x' h', XT l 0 0 false 284 153 6051 41 [xf 13 104, xf 10022 150, xi i, xi x] [] h 67 [xf 13 104, xf 10022 150, xi i, xi x'] [] h' ∧ sgood vT vR vE 153 6051 h' ∧ (∀ c k, c ≠ 133 → xI h' c k = xI h c k) ∧ (∀ c k, xR h' c k = xR h c k)
  | 0, x, h, h0, hm, hg => by
    have e8' : (Int32.ofInt 6).toInt = 6 := rfl
    have key := XT_path (l := l) (fr := 0) (lo := 0) (full := false) (M := 284) (n := 153) (u := 6051) (pc := 41) (L := [xf 13 104, xf 10022 150, xi i, xi x]) (st := []) (h := h) (inl := []) (n' := 40) (sp := [67]) (o := [1]) rfl rfl ⟨rfl, rfl, rfl⟩ rfl ⟨Nat.le_of_eq hg.2.2.2.1, Nat.le_of_eq hg.2.2.2.2⟩ ⟨trivial, Int32.le_iff_toInt_le.mpr (by omega)⟩
    exact ⟨x, h, key, hg, fun _ _ _ => rfl, fun _ _ => rfl⟩
  | m + 1, x, h, h0, hm, hg => by
    have e8 : (6 : Int32).toInt = 6 := rfl
    have e8' : (Int32.ofInt 6).toInt = 6 := rfl
    have r55 : xR h 104 55 = 133 := vref hg.1 rfl
    have ei8 : (i + 16 + x).toInt = 22 * u + 16 + x.toInt := by
      have e1 : (i + 16).toInt = 22 * u + 16 := by
        rw [Int32.toInt_add, hi, show (16 : Int32).toInt = 16 from rfl]
        exact Int.bmod_eq_of_le (by omega) (by omega)
      rw [Int32.toInt_add, e1]
      exact Int.bmod_eq_of_le (by omega) (by omega)
    have ex : (x + 1).toInt = x.toInt + 1 := y_succ h0 (by omega)
    have nx : x.toNatClampNeg = x.toInt.toNat := rfl
    have n2 : (i + 16 + x).toNatClampNeg = 22 * u + 16 + x.toNatClampNeg := by
      show (i + 16 + x).toInt.toNat = _
      omega
    have key := XT_path (l := l) (fr := 0) (lo := 0) (full := false) (M := 284) (n := 153) (u := 6051) (pc := 41) (L := [xf 13 104, xf 10022 150, xi i, xi x]) (st := []) (h := h) (inl := []) (n' := 60) (sp := [41]) (o := [0]) rfl rfl ⟨rfl, rfl, rfl⟩ rfl ⟨Nat.le_of_eq hg.2.2.2.1, Nat.le_of_eq hg.2.2.2.2⟩
    simp [r55, yI_same, yI_ne, yI_c, yR_I, n2] at key
    have key := key (Int32.lt_iff_toInt_lt.mpr (by omega)) (vp_of (n := 22) (by omega) (by omega)) (vp_of (n := 12) (by omega) (by omega))
    have hx8 : x.toNatClampNeg < 6 := by omega
    have b2 : (0 : Int) ≤ (xI h 150 (22 * u + 16 + x.toNatClampNeg)).toInt ∧ (xI h 150 (22 * u + 16 + x.toNatClampNeg)).toInt ≤ 9 := by
      have := vbnd hg.1 150 (22 * u + 16 + x.toNatClampNeg)
      rw [vS150_s u hu _ hx8] at this
      exact this
    have g2 : sgood vT vR vE 153 6051 (xsetI h 133 x.toNatClampNeg (xI h 150 (22 * u + 16 + x.toNatClampNeg))) := vset0 hg (by
      rw [vS133_s _ hx8]
      exact b2) (stou_no (by decide +kernel)) (by decide +kernel)
    obtain ⟨x', h', t, g', f', fR'⟩ := vh_tk150_b l i u hu hi m (x + 1) _ (by omega) (by omega) g2
    refine ⟨x', h', key.tr t, g', fun c k hc => ?_, fun c k => fR' c k⟩
    rw [f' c k hc, yI_c (eq_false hc)]
set_option maxRecDepth 100000 in
theorem vh_tk150 (l : Launch) (u : Nat) (hu : u < 1) (i : Int32) (hi : i.toInt = 22 * u) (h : XH) (hg : sgood vT vR vE 153 6051 h) : ∃ h', CX l 0 0 false 284 [xf 13 104, xf 10022 150, xi i] h [] h' ∧ sgood vT vR vE 153 6051 h' ∧ (∀ c k, c ≠ 133 → c ≠ 135 → c ≠ 136 → xI h' c k = xI h c k) ∧ (∀ c k, xR h' c k = xR h c k) := by
  have e0 : (0 : Int32).toInt = 0 := rfl
  have t0 := XT_path (l := l) (fr := 0) (lo := 0) (full := false) (M := 284) (n := 153) (u := 6051) (pc := 0) (L := [xf 13 104, xf 10022 150, xi i, xun]) (st := []) (h := h) (inl := []) (n' := 40) (sp := [2]) (o := []) rfl rfl ⟨rfl, rfl, rfl⟩ rfl ⟨Nat.le_of_eq hg.2.2.2.1, Nat.le_of_eq hg.2.2.2.2⟩ trivial
  obtain ⟨x1, h1, t1, g1, f1, q1⟩ := vh_tk150_a l i u hu hi 8 0 h (by rw [e0]; omega) (by rw [e0]; omega) hg
  have t2 := XT_path (l := l) (fr := 0) (lo := 0) (full := false) (M := 284) (n := 153) (u := 6051) (pc := 39) (L := [xf 13 104, xf 10022 150, xi i, xi x1]) (st := []) (h := h1) (inl := []) (n' := 40) (sp := [41]) (o := []) rfl rfl ⟨rfl, rfl, rfl⟩ rfl ⟨Nat.le_of_eq g1.2.2.2.1, Nat.le_of_eq g1.2.2.2.2⟩ trivial
  obtain ⟨x2, h2, t3, g2, f2, q2⟩ := vh_tk150_b l i u hu hi 6 0 h1 (by rw [e0]; omega) (by rw [e0]; omega) g1
  refine ⟨h2, CX_ofT (by decide) rfl rfl trivial ⟨_, _, _, rfl, rfl, rfl⟩ rfl ⟨Nat.le_of_eq g2.2.2.2.1.symm, Nat.le_of_eq g2.2.2.2.2.symm⟩ (((t0.tr t1).tr t2).tr t3), g2, fun c k h1 h2 h3 => (f2 c k h1).trans (f1 c k h2 h3), fun c k => (q2 c k).trans (q1 c k)⟩
