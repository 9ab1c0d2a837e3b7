/-! WHICH WORD: the letters held against each word of the constant. -/
def zcn (k : Nat) : Nat := ((zby.take k).filter (fun z => z == 32)).length
theorem zcn_ok : ∀ k, k < 105 → (zby.getD k 0 = 32 → zcn (k + 1) = zcn k + 1 ∧ zcn k ≤ 19) ∧ (¬ zby.getD k 0 = 32 → zcn (k + 1) = zcn k) := by decide +kernel
set_option maxRecDepth 100000 in
set_option maxHeartbeats 2000000 in
theorem vw_loop (l : Launch) (n : Int32) (h : XH) (hg : sgood vT vR vE 153 6051 h) : ∀ (m : Nat) (w c sh k : Int32) (x5 : XV), 0 ≤ k.toInt → k.toInt + m = 105 → w.toInt = 20 + zcn k.toNatClampNeg → w.toInt ≤ 40 → ∃ v pcR L', XT l 4 150 false 22 153 6051 11 [xi n, xi w, xi c, xi sh, xi k, x5] [] h pcR L' [xi v] h ∧ XE 22 pcR [xi v] ∧ L'.length = 6 ∧ 3 ≤ v.toInt ∧ v.toInt ≤ 39
  | 0, w, c, sh, k, x5, a1, a2, hw, hw4 => by
    have e105 : (105 : Int32).toInt = 105 := rfl
    have e0 : (0 : Int32).toInt = 0 := rfl
    have e32 : (Int32.ofInt (32)) = 32 := rfl
    have nk : k.toNatClampNeg = k.toInt.toNat := rfl
    have t1 : XT l 4 150 false 22 153 6051 11 [xi n, xi w, xi c, xi sh, xi k, x5] [] h 13 [xi n, xi w, xi c, xi sh, xi k, x5] [xi k] h := XT_path (l := l) (fr := 4) (lo := 150) (full := false) (M := 22) (n := 153) (u := 6051) (pc := 11) (L := [xi n, xi w, xi c, xi sh, xi k, x5]) (st := []) (h := h) (inl := []) (n' := 80) (sp := [13]) (o := []) rfl rfl ⟨rfl, rfl, rfl⟩ rfl ⟨Nat.le_of_eq hg.2.2.2.1, Nat.le_of_eq hg.2.2.2.2⟩ trivial
    have z2 := t1.tr (XT_zlen (l := l) (fr := 4) (lo := 150) (n := 153) (u := 6051) (full := false) (L := [xi n, xi w, xi c, xi sh, xi k, x5]) (st := [xi k]) (h := h) rfl (by decide) (by decide) (Nat.le_of_ble_eq_true rfl))
    have t3 : XT l 4 150 false 22 153 6051 18 [xi n, xi w, xi c, xi sh, xi k, x5] [xi 105, xi k] h 77 [xi n, xi w, xi c, xi sh, xi k, x5] [xi (Int32.ofInt (3))] h := XT_path (l := l) (fr := 4) (lo := 150) (full := false) (M := 22) (n := 153) (u := 6051) (pc := 18) (L := [xi n, xi w, xi c, xi sh, xi k, x5]) (st := [xi 105, xi k]) (h := h) (inl := []) (n' := 80) (sp := [77]) (o := [1]) rfl rfl ⟨rfl, rfl, rfl⟩ rfl ⟨Nat.le_of_eq hg.2.2.2.1, Nat.le_of_eq hg.2.2.2.2⟩ ⟨trivial, (Int32.le_iff_toInt_le.mpr (by omega))⟩
    have t4 := z2.tr t3
    exact ⟨_, _, _, t4, ⟨_, _, _, rfl, rfl, rfl⟩, rfl, by decide, by decide⟩
  | m + 1, w, c, sh, k, x5, a1, a2, hw, hw4 => by
    have e105 : (105 : Int32).toInt = 105 := rfl
    have e0 : (0 : Int32).toInt = 0 := rfl
    have e32 : (Int32.ofInt (32)) = 32 := rfl
    have nk : k.toNatClampNeg = k.toInt.toNat := rfl
    have zc := zcn_ok k.toNatClampNeg (by omega)
    have t5 : XT l 4 150 false 22 153 6051 11 [xi n, xi w, xi c, xi sh, xi k, x5] [] h 13 [xi n, xi w, xi c, xi sh, xi k, x5] [xi k] h := XT_path (l := l) (fr := 4) (lo := 150) (full := false) (M := 22) (n := 153) (u := 6051) (pc := 11) (L := [xi n, xi w, xi c, xi sh, xi k, x5]) (st := []) (h := h) (inl := []) (n' := 80) (sp := [13]) (o := []) rfl rfl ⟨rfl, rfl, rfl⟩ rfl ⟨Nat.le_of_eq hg.2.2.2.1, Nat.le_of_eq hg.2.2.2.2⟩ trivial
    have z6 := t5.tr (XT_zlen (l := l) (fr := 4) (lo := 150) (n := 153) (u := 6051) (full := false) (L := [xi n, xi w, xi c, xi sh, xi k, x5]) (st := [xi k]) (h := h) rfl (by decide) (by decide) (Nat.le_of_ble_eq_true rfl))
    have t7 : XT l 4 150 false 22 153 6051 18 [xi n, xi w, xi c, xi sh, xi k, x5] [xi 105, xi k] h 21 [xi n, xi w, xi c, xi sh, xi k, x5] [] h := XT_path (l := l) (fr := 4) (lo := 150) (full := false) (M := 22) (n := 153) (u := 6051) (pc := 18) (L := [xi n, xi w, xi c, xi sh, xi k, x5]) (st := [xi 105, xi k]) (h := h) (inl := []) (n' := 80) (sp := [21]) (o := [0]) rfl rfl ⟨rfl, rfl, rfl⟩ rfl ⟨Nat.le_of_eq hg.2.2.2.1, Nat.le_of_eq hg.2.2.2.2⟩ ⟨trivial, (fun z => absurd (Int32.le_iff_toInt_le.mp z) (by omega))⟩
    have t8 := z6.tr t7
    have z9 := t8.tr (XT_zchr (l := l) (fr := 4) (lo := 150) (n := 153) (u := 6051) (full := false) (L := [xi n, xi w, xi c, xi sh, xi k, x5]) (h := h) (i := k) rfl rfl (by decide) (by decide) (fun z => absurd (Int32.lt_iff_toInt_lt.mp z) (by omega)) (Int32.lt_iff_toInt_lt.mpr (by omega)) (vp_of (by omega) (by omega)))
    by_cases c10 : (zch k) = (Int32.ofInt (32))
    · by_cases c11 : c = n
      · have t12 : XT l 4 150 false 22 153 6051 28 [xi n, xi w, xi c, xi sh, xi k, x5] [xi (zch k)] h 61 [xi n, xi w, xi c, xi sh, xi k, xi (zch k)] [xi w] h := XT_path (l := l) (fr := 4) (lo := 150) (full := false) (M := 22) (n := 153) (u := 6051) (pc := 28) (L := [xi n, xi w, xi c, xi sh, xi k, x5]) (st := [xi (zch k)]) (h := h) (inl := []) (n' := 80) (sp := [61]) (o := [1, 0]) rfl rfl ⟨rfl, rfl, rfl⟩ rfl ⟨Nat.le_of_eq hg.2.2.2.1, Nat.le_of_eq hg.2.2.2.2⟩ ⟨⟨trivial, c10⟩, c11⟩
        have t13 := z9.tr t12
        have z1 := zc.1 (c10.trans e32)
        exact ⟨_, _, _, t13, ⟨_, _, _, rfl, rfl, rfl⟩, rfl, by omega, by omega⟩
      · have t14 : XT l 4 150 false 22 153 6051 28 [xi n, xi w, xi c, xi sh, xi k, x5] [xi (zch k)] h 11 [xi n, xi (w + Int32.ofInt (1)), xi (Int32.ofInt (0)), xi (Int32.ofInt (25)), xi (k + Int32.ofInt (1)), xi (zch k)] [] h := XT_path (l := l) (fr := 4) (lo := 150) (full := false) (M := 22) (n := 153) (u := 6051) (pc := 28) (L := [xi n, xi w, xi c, xi sh, xi k, x5]) (st := [xi (zch k)]) (h := h) (inl := []) (n' := 80) (sp := [11]) (o := [1, 1]) rfl rfl ⟨rfl, rfl, rfl⟩ rfl ⟨Nat.le_of_eq hg.2.2.2.1, Nat.le_of_eq hg.2.2.2.2⟩ ⟨⟨trivial, c10⟩, c11⟩
        have t15 := z9.tr t14
        have ek : (k + Int32.ofInt (1)).toInt = k.toInt + 1 := y_succ a1 (by omega)
        have nk1 : (k + Int32.ofInt (1)).toNatClampNeg = k.toNatClampNeg + 1 := by
          have : (k + Int32.ofInt (1)).toNatClampNeg = (k + Int32.ofInt (1)).toInt.toNat := rfl
          omega
        have ew : (w + Int32.ofInt (1)).toInt = w.toInt + 1 := y_succ (by omega) (by omega)
        have z1 := zc.1 (c10.trans e32)
        obtain ⟨v, pcR, L', y1, y2, y3, y4⟩ := vw_loop l n h hg m (w + Int32.ofInt (1)) (Int32.ofInt (0)) (Int32.ofInt (25)) (k + Int32.ofInt (1)) (xi (zch k)) (by omega) (by omega) (by rw [nk1]; omega) (by omega)
        exact ⟨v, pcR, L', t15.tr y1, y2, y3, y4⟩
    · have t16 : XT l 4 150 false 22 153 6051 28 [xi n, xi w, xi c, xi sh, xi k, x5] [xi (zch k)] h 11 [xi n, xi w, xi (c ||| ((((zch k) - (Int32.ofInt (97))) + (Int32.ofInt (1))) <<< (sh &&& 31))), xi (sh + Int32.ofInt (-5)), xi (k + Int32.ofInt (1)), xi (zch k)] [] h := XT_path (l := l) (fr := 4) (lo := 150) (full := false) (M := 22) (n := 153) (u := 6051) (pc := 28) (L := [xi n, xi w, xi c, xi sh, xi k, x5]) (st := [xi (zch k)]) (h := h) (inl := []) (n' := 80) (sp := [11]) (o := [0]) rfl rfl ⟨rfl, rfl, rfl⟩ rfl ⟨Nat.le_of_eq hg.2.2.2.1, Nat.le_of_eq hg.2.2.2.2⟩ ⟨trivial, c10⟩
      have t17 := z9.tr t16
      have ek : (k + Int32.ofInt (1)).toInt = k.toInt + 1 := y_succ a1 (by omega)
      have nk1 : (k + Int32.ofInt (1)).toNatClampNeg = k.toNatClampNeg + 1 := by
        have : (k + Int32.ofInt (1)).toNatClampNeg = (k + Int32.ofInt (1)).toInt.toNat := rfl
        omega
      have z1 := zc.2 (fun z => c10 (z.trans e32.symm))
      obtain ⟨v, pcR, L', y1, y2, y3, y4⟩ := vw_loop l n h hg m w (c ||| ((((zch k) - (Int32.ofInt (97))) + (Int32.ofInt (1))) <<< (sh &&& 31))) (sh + Int32.ofInt (-5)) (k + Int32.ofInt (1)) (xi (zch k)) (by omega) (by omega) (by rw [nk1]; omega) (by omega)
      exact ⟨v, pcR, L', t17.tr y1, y2, y3, y4⟩
set_option maxRecDepth 100000 in
set_option maxHeartbeats 2000000 in
theorem vh_word (l : Launch) : scm l vT vR vE 153 6051 (22, 4, 150, [.inl sfull], [], [], [([sfull], [], some (.inl (3, 39)), [], [], [])], ([], []), []) := by
  intro vs h ha hg hR hW hP
  match vs, ha with
  | [.inl (.inl n)], ha =>
    have t1 : XT l 4 150 false 22 153 6051 0 [xi n, xun, xun, xun, xun, xun] [] h 11 [xi n, xi (Int32.ofInt (20)), xi (Int32.ofInt (0)), xi (Int32.ofInt (25)), xi (Int32.ofInt (0)), xun] [] h := XT_path (l := l) (fr := 4) (lo := 150) (full := false) (M := 22) (n := 153) (u := 6051) (pc := 0) (L := [xi n, xun, xun, xun, xun, xun]) (st := []) (h := h) (inl := []) (n' := 80) (sp := [11]) (o := []) rfl rfl ⟨rfl, rfl, rfl⟩ rfl ⟨Nat.le_of_eq hg.2.2.2.1, Nat.le_of_eq hg.2.2.2.2⟩ trivial
    obtain ⟨v, pcR, L', y1, y2, y3, y4⟩ := vw_loop l n h hg 105 (Int32.ofInt (20)) (Int32.ofInt (0)) (Int32.ofInt (25)) (Int32.ofInt (0)) xun (by decide) rfl rfl (by decide)
    have hX : CX l 4 150 false 22 [xi n] h [xi v] h := CX_ofT (by decide) rfl rfl trivial y2 y3 ⟨Nat.le_of_eq hg.2.2.2.1.symm, Nat.le_of_eq hg.2.2.2.2.symm⟩ (t1.tr y1)
    refine ⟨fun _ => n.toInt, _, _, ⟨⟨rfl, trivial⟩, fun i q hq => by cases hq⟩, hX, hg, ⟨fun _ _ _ => rfl, fun _ _ _ => rfl⟩, _, List.mem_singleton.mpr rfl, scas_one (fun i q hq => ?_) (fun i q hq => by cases hq) y4⟩
    match i, hq with
    | 0, hq =>
      obtain rfl := Option.some.inj hq
      exact i32r_of n
