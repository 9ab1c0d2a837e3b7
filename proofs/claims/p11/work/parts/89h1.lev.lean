/-! THE CLASS READS AN EXPRESSION: levels, signs, knots. -/
def kO (cl co cv : Nat) (Z : Nat → Int) (h : XH) : Prop := (xI h cl 5).toInt = Z 10 ∧ (xI h cl 6).toInt = Z 6 ∧ ∀ k : Nat, (k : Int) < Z 10 → (xI h co k).toInt = Z (300 + k) ∧ (xI h cv k).toInt = Z (400 + k)
def kS (Z : Nat → Int) (h : XH) : Prop := (xI h 45 12).toInt = Z 11 ∧ (xI h 45 13).toInt = Z 12 ∧ ∀ k : Nat, (k : Int) < Z 11 → (xI h 47 k).toInt = Z (700 + k)
theorem kO.fr {cl co cv : Nat} {Z Y : Nat → Int} {h h' : XH} (r : kO cl co cv Z h) (e5 : xI h' cl 5 = xI h cl 5) (e6 : (xI h' cl 6).toInt = Y 6) (eo : ∀ k, xI h' co k = xI h co k) (ev : ∀ k, xI h' cv k = xI h cv k) (y10 : Y 10 = Z 10) (yk : ∀ k : Nat, (k : Int) < Z 10 → Y (300 + k) = Z (300 + k) ∧ Y (400 + k) = Z (400 + k)) : kO cl co cv Y h' :=
  ⟨by rw [e5, y10]; exact r.1, e6, fun k hk => by
    rw [y10] at hk
    rw [eo, ev, (yk k hk).1, (yk k hk).2]
    exact r.2.2 k hk⟩
theorem kO.add {cl co cv : Nat} {Z Y : Nat → Int} {h h' : XH} (r : kO cl co cv Z h) (hb : 0 ≤ Z 10) (e5 : (xI h' cl 5).toInt = Z 10 + 1) (e6 : (xI h' cl 6).toInt = Y 6) (eo : (xI h' co (Z 10).toNat).toInt = Y (300 + (Z 10).toNat)) (ev : (xI h' cv (Z 10).toNat).toInt = Y (400 + (Z 10).toNat)) (ro : ∀ k, k ≠ (Z 10).toNat → xI h' co k = xI h co k) (rv : ∀ k, k ≠ (Z 10).toNat → xI h' cv k = xI h cv k) (y10 : Y 10 = Z 10 + 1) (yk : ∀ k : Nat, (k : Int) < Z 10 → Y (300 + k) = Z (300 + k) ∧ Y (400 + k) = Z (400 + k)) : kO cl co cv Y h' :=
  ⟨by rw [e5, y10], e6, fun k hk => by
    rw [y10] at hk
    by_cases e : k = (Z 10).toNat
    · rw [e]; exact ⟨eo, ev⟩
    · rw [ro k e, rv k e, (yk k (by omega)).1, (yk k (by omega)).2]
      exact r.2.2 k (by omega)⟩
theorem y_dec {k : Int32} (h0 : 0 ≤ k.toInt) (h1 : k.toInt < 100000) : (k + Int32.ofInt (-1)).toInt = k.toInt - 1 := by
  rw [Int32.toInt_add, show (Int32.ofInt (-1)).toInt = -1 from rfl]
  exact (Int.bmod_eq_of_le (by omega) (by omega)).trans (by omega)
set_option maxRecDepth 100000 in
set_option maxHeartbeats 4000000 in
theorem ck_lev (l : Launch) (v : Int32) (h : XH) (hg : sgood vT vR vE 153 6051 h) : ∃ r, CX l 0 0 false 58 [xi v] h [xi r] h ∧ r.toInt = lev v.toInt := by
  by_cases hr : 7 ≤ v.toInt ∧ v.toInt ≤ 32
  · obtain ⟨k, hk, e⟩ : ∃ k : Nat, k < 26 ∧ v.toInt = 7 + k := ⟨(v.toInt - 7).toNat, by omega, by omega⟩
    match k, hk, e with
    | 0, _, e =>
      have t1 : XT l 0 0 false 58 153 6051 0 [xi v] [] h 127 [xi v] [xi (Int32.ofInt (4))] h := XT_path (l := l) (fr := 0) (lo := 0) (full := false) (M := 58) (n := 153) (u := 6051) (pc := 0) (L := [xi v]) (st := []) (h := h) (inl := []) (n' := 80) (sp := [127]) (o := [1]) rfl rfl ⟨rfl, rfl, rfl⟩ rfl ⟨Nat.le_of_eq hg.2.2.2.1, Nat.le_of_eq hg.2.2.2.2⟩ ⟨trivial, ⟨e, by decide⟩⟩
      exact ⟨_, CX_ofT (h' := h) (by decide) rfl rfl trivial ⟨_, _, _, rfl, rfl, rfl⟩ rfl ⟨Nat.le_of_eq hg.2.2.2.1.symm, Nat.le_of_eq hg.2.2.2.2.symm⟩ t1, (by rw [e]; decide)⟩
    | 1, _, e =>
      have t2 : XT l 0 0 false 58 153 6051 0 [xi v] [] h 127 [xi v] [xi (Int32.ofInt (4))] h := XT_path (l := l) (fr := 0) (lo := 0) (full := false) (M := 58) (n := 153) (u := 6051) (pc := 0) (L := [xi v]) (st := []) (h := h) (inl := []) (n' := 80) (sp := [127]) (o := [2]) rfl rfl ⟨rfl, rfl, rfl⟩ rfl ⟨Nat.le_of_eq hg.2.2.2.1, Nat.le_of_eq hg.2.2.2.2⟩ ⟨trivial, ⟨e, by decide⟩⟩
      exact ⟨_, CX_ofT (h' := h) (by decide) rfl rfl trivial ⟨_, _, _, rfl, rfl, rfl⟩ rfl ⟨Nat.le_of_eq hg.2.2.2.1.symm, Nat.le_of_eq hg.2.2.2.2.symm⟩ t2, (by rw [e]; decide)⟩
    | 2, _, e =>
      have t3 : XT l 0 0 false 58 153 6051 0 [xi v] [] h 127 [xi v] [xi (Int32.ofInt (4))] h := XT_path (l := l) (fr := 0) (lo := 0) (full := false) (M := 58) (n := 153) (u := 6051) (pc := 0) (L := [xi v]) (st := []) (h := h) (inl := []) (n' := 80) (sp := [127]) (o := [3]) rfl rfl ⟨rfl, rfl, rfl⟩ rfl ⟨Nat.le_of_eq hg.2.2.2.1, Nat.le_of_eq hg.2.2.2.2⟩ ⟨trivial, ⟨e, by decide⟩⟩
      exact ⟨_, CX_ofT (h' := h) (by decide) rfl rfl trivial ⟨_, _, _, rfl, rfl, rfl⟩ rfl ⟨Nat.le_of_eq hg.2.2.2.1.symm, Nat.le_of_eq hg.2.2.2.2.symm⟩ t3, (by rw [e]; decide)⟩
    | 3, _, e =>
      have t4 : XT l 0 0 false 58 153 6051 0 [xi v] [] h 127 [xi v] [xi (Int32.ofInt (4))] h := XT_path (l := l) (fr := 0) (lo := 0) (full := false) (M := 58) (n := 153) (u := 6051) (pc := 0) (L := [xi v]) (st := []) (h := h) (inl := []) (n' := 80) (sp := [127]) (o := [4]) rfl rfl ⟨rfl, rfl, rfl⟩ rfl ⟨Nat.le_of_eq hg.2.2.2.1, Nat.le_of_eq hg.2.2.2.2⟩ ⟨trivial, ⟨e, by decide⟩⟩
      exact ⟨_, CX_ofT (h' := h) (by decide) rfl rfl trivial ⟨_, _, _, rfl, rfl, rfl⟩ rfl ⟨Nat.le_of_eq hg.2.2.2.1.symm, Nat.le_of_eq hg.2.2.2.2.symm⟩ t4, (by rw [e]; decide)⟩
    | 4, _, e =>
      have t5 : XT l 0 0 false 58 153 6051 0 [xi v] [] h 127 [xi v] [xi (Int32.ofInt (4))] h := XT_path (l := l) (fr := 0) (lo := 0) (full := false) (M := 58) (n := 153) (u := 6051) (pc := 0) (L := [xi v]) (st := []) (h := h) (inl := []) (n' := 80) (sp := [127]) (o := [5]) rfl rfl ⟨rfl, rfl, rfl⟩ rfl ⟨Nat.le_of_eq hg.2.2.2.1, Nat.le_of_eq hg.2.2.2.2⟩ ⟨trivial, ⟨e, by decide⟩⟩
      exact ⟨_, CX_ofT (h' := h) (by decide) rfl rfl trivial ⟨_, _, _, rfl, rfl, rfl⟩ rfl ⟨Nat.le_of_eq hg.2.2.2.1.symm, Nat.le_of_eq hg.2.2.2.2.symm⟩ t5, (by rw [e]; decide)⟩
    | 5, _, e =>
      have t6 : XT l 0 0 false 58 153 6051 0 [xi v] [] h 127 [xi v] [xi (Int32.ofInt (4))] h := XT_path (l := l) (fr := 0) (lo := 0) (full := false) (M := 58) (n := 153) (u := 6051) (pc := 0) (L := [xi v]) (st := []) (h := h) (inl := []) (n' := 80) (sp := [127]) (o := [6]) rfl rfl ⟨rfl, rfl, rfl⟩ rfl ⟨Nat.le_of_eq hg.2.2.2.1, Nat.le_of_eq hg.2.2.2.2⟩ ⟨trivial, ⟨e, by decide⟩⟩
      exact ⟨_, CX_ofT (h' := h) (by decide) rfl rfl trivial ⟨_, _, _, rfl, rfl, rfl⟩ rfl ⟨Nat.le_of_eq hg.2.2.2.1.symm, Nat.le_of_eq hg.2.2.2.2.symm⟩ t6, (by rw [e]; decide)⟩
    | 6, _, e =>
      have t7 : XT l 0 0 false 58 153 6051 0 [xi v] [] h 129 [xi v] [xi (Int32.ofInt (5))] h := XT_path (l := l) (fr := 0) (lo := 0) (full := false) (M := 58) (n := 153) (u := 6051) (pc := 0) (L := [xi v]) (st := []) (h := h) (inl := []) (n' := 80) (sp := [129]) (o := [7]) rfl rfl ⟨rfl, rfl, rfl⟩ rfl ⟨Nat.le_of_eq hg.2.2.2.1, Nat.le_of_eq hg.2.2.2.2⟩ ⟨trivial, ⟨e, by decide⟩⟩
      exact ⟨_, CX_ofT (h' := h) (by decide) rfl rfl trivial ⟨_, _, _, rfl, rfl, rfl⟩ rfl ⟨Nat.le_of_eq hg.2.2.2.1.symm, Nat.le_of_eq hg.2.2.2.2.symm⟩ t7, (by rw [e]; decide)⟩
    | 7, _, e =>
      have t8 : XT l 0 0 false 58 153 6051 0 [xi v] [] h 129 [xi v] [xi (Int32.ofInt (5))] h := XT_path (l := l) (fr := 0) (lo := 0) (full := false) (M := 58) (n := 153) (u := 6051) (pc := 0) (L := [xi v]) (st := []) (h := h) (inl := []) (n' := 80) (sp := [129]) (o := [8]) rfl rfl ⟨rfl, rfl, rfl⟩ rfl ⟨Nat.le_of_eq hg.2.2.2.1, Nat.le_of_eq hg.2.2.2.2⟩ ⟨trivial, ⟨e, by decide⟩⟩
      exact ⟨_, CX_ofT (h' := h) (by decide) rfl rfl trivial ⟨_, _, _, rfl, rfl, rfl⟩ rfl ⟨Nat.le_of_eq hg.2.2.2.1.symm, Nat.le_of_eq hg.2.2.2.2.symm⟩ t8, (by rw [e]; decide)⟩
    | 8, _, e =>
      have t9 : XT l 0 0 false 58 153 6051 0 [xi v] [] h 132 [xi v] [xi (Int32.ofInt (6))] h := XT_path (l := l) (fr := 0) (lo := 0) (full := false) (M := 58) (n := 153) (u := 6051) (pc := 0) (L := [xi v]) (st := []) (h := h) (inl := []) (n' := 80) (sp := [132]) (o := [9]) rfl rfl ⟨rfl, rfl, rfl⟩ rfl ⟨Nat.le_of_eq hg.2.2.2.1, Nat.le_of_eq hg.2.2.2.2⟩ ⟨trivial, ⟨e, by decide⟩⟩
      exact ⟨_, CX_ofT (h' := h) (by decide) rfl rfl trivial ⟨_, _, _, rfl, rfl, rfl⟩ rfl ⟨Nat.le_of_eq hg.2.2.2.1.symm, Nat.le_of_eq hg.2.2.2.2.symm⟩ t9, (by rw [e]; decide)⟩
    | 9, _, e =>
      have t10 : XT l 0 0 false 58 153 6051 0 [xi v] [] h 132 [xi v] [xi (Int32.ofInt (6))] h := XT_path (l := l) (fr := 0) (lo := 0) (full := false) (M := 58) (n := 153) (u := 6051) (pc := 0) (L := [xi v]) (st := []) (h := h) (inl := []) (n' := 80) (sp := [132]) (o := [10]) rfl rfl ⟨rfl, rfl, rfl⟩ rfl ⟨Nat.le_of_eq hg.2.2.2.1, Nat.le_of_eq hg.2.2.2.2⟩ ⟨trivial, ⟨e, by decide⟩⟩
      exact ⟨_, CX_ofT (h' := h) (by decide) rfl rfl trivial ⟨_, _, _, rfl, rfl, rfl⟩ rfl ⟨Nat.le_of_eq hg.2.2.2.1.symm, Nat.le_of_eq hg.2.2.2.2.symm⟩ t10, (by rw [e]; decide)⟩
    | 10, _, e =>
      have t11 : XT l 0 0 false 58 153 6051 0 [xi v] [] h 134 [xi v] [xi (Int32.ofInt (0))] h := XT_path (l := l) (fr := 0) (lo := 0) (full := false) (M := 58) (n := 153) (u := 6051) (pc := 0) (L := [xi v]) (st := []) (h := h) (inl := []) (n' := 80) (sp := [134]) (o := [11]) rfl rfl ⟨rfl, rfl, rfl⟩ rfl ⟨Nat.le_of_eq hg.2.2.2.1, Nat.le_of_eq hg.2.2.2.2⟩ ⟨trivial, ⟨e, by decide⟩⟩
      exact ⟨_, CX_ofT (h' := h) (by decide) rfl rfl trivial ⟨_, _, _, rfl, rfl, rfl⟩ rfl ⟨Nat.le_of_eq hg.2.2.2.1.symm, Nat.le_of_eq hg.2.2.2.2.symm⟩ t11, (by rw [e]; decide)⟩
    | 11, _, e =>
      have t12 : XT l 0 0 false 58 153 6051 0 [xi v] [] h 134 [xi v] [xi (Int32.ofInt (0))] h := XT_path (l := l) (fr := 0) (lo := 0) (full := false) (M := 58) (n := 153) (u := 6051) (pc := 0) (L := [xi v]) (st := []) (h := h) (inl := []) (n' := 80) (sp := [134]) (o := [12]) rfl rfl ⟨rfl, rfl, rfl⟩ rfl ⟨Nat.le_of_eq hg.2.2.2.1, Nat.le_of_eq hg.2.2.2.2⟩ ⟨trivial, ⟨e, by decide⟩⟩
      exact ⟨_, CX_ofT (h' := h) (by decide) rfl rfl trivial ⟨_, _, _, rfl, rfl, rfl⟩ rfl ⟨Nat.le_of_eq hg.2.2.2.1.symm, Nat.le_of_eq hg.2.2.2.2.symm⟩ t12, (by rw [e]; decide)⟩
    | 12, _, e =>
      have t13 : XT l 0 0 false 58 153 6051 0 [xi v] [] h 134 [xi v] [xi (Int32.ofInt (0))] h := XT_path (l := l) (fr := 0) (lo := 0) (full := false) (M := 58) (n := 153) (u := 6051) (pc := 0) (L := [xi v]) (st := []) (h := h) (inl := []) (n' := 80) (sp := [134]) (o := [13]) rfl rfl ⟨rfl, rfl, rfl⟩ rfl ⟨Nat.le_of_eq hg.2.2.2.1, Nat.le_of_eq hg.2.2.2.2⟩ ⟨trivial, ⟨e, by decide⟩⟩
      exact ⟨_, CX_ofT (h' := h) (by decide) rfl rfl trivial ⟨_, _, _, rfl, rfl, rfl⟩ rfl ⟨Nat.le_of_eq hg.2.2.2.1.symm, Nat.le_of_eq hg.2.2.2.2.symm⟩ t13, (by rw [e]; decide)⟩
    | 13, _, e =>
      have t14 : XT l 0 0 false 58 153 6051 0 [xi v] [] h 134 [xi v] [xi (Int32.ofInt (0))] h := XT_path (l := l) (fr := 0) (lo := 0) (full := false) (M := 58) (n := 153) (u := 6051) (pc := 0) (L := [xi v]) (st := []) (h := h) (inl := []) (n' := 80) (sp := [134]) (o := [14]) rfl rfl ⟨rfl, rfl, rfl⟩ rfl ⟨Nat.le_of_eq hg.2.2.2.1, Nat.le_of_eq hg.2.2.2.2⟩ ⟨trivial, ⟨e, by decide⟩⟩
      exact ⟨_, CX_ofT (h' := h) (by decide) rfl rfl trivial ⟨_, _, _, rfl, rfl, rfl⟩ rfl ⟨Nat.le_of_eq hg.2.2.2.1.symm, Nat.le_of_eq hg.2.2.2.2.symm⟩ t14, (by rw [e]; decide)⟩
    | 14, _, e =>
      have t15 : XT l 0 0 false 58 153 6051 0 [xi v] [] h 134 [xi v] [xi (Int32.ofInt (0))] h := XT_path (l := l) (fr := 0) (lo := 0) (full := false) (M := 58) (n := 153) (u := 6051) (pc := 0) (L := [xi v]) (st := []) (h := h) (inl := []) (n' := 80) (sp := [134]) (o := [15]) rfl rfl ⟨rfl, rfl, rfl⟩ rfl ⟨Nat.le_of_eq hg.2.2.2.1, Nat.le_of_eq hg.2.2.2.2⟩ ⟨trivial, ⟨e, by decide⟩⟩
      exact ⟨_, CX_ofT (h' := h) (by decide) rfl rfl trivial ⟨_, _, _, rfl, rfl, rfl⟩ rfl ⟨Nat.le_of_eq hg.2.2.2.1.symm, Nat.le_of_eq hg.2.2.2.2.symm⟩ t15, (by rw [e]; decide)⟩
    | 15, _, e =>
      have t16 : XT l 0 0 false 58 153 6051 0 [xi v] [] h 134 [xi v] [xi (Int32.ofInt (0))] h := XT_path (l := l) (fr := 0) (lo := 0) (full := false) (M := 58) (n := 153) (u := 6051) (pc := 0) (L := [xi v]) (st := []) (h := h) (inl := []) (n' := 80) (sp := [134]) (o := [16]) rfl rfl ⟨rfl, rfl, rfl⟩ rfl ⟨Nat.le_of_eq hg.2.2.2.1, Nat.le_of_eq hg.2.2.2.2⟩ ⟨trivial, ⟨e, by decide⟩⟩
      exact ⟨_, CX_ofT (h' := h) (by decide) rfl rfl trivial ⟨_, _, _, rfl, rfl, rfl⟩ rfl ⟨Nat.le_of_eq hg.2.2.2.1.symm, Nat.le_of_eq hg.2.2.2.2.symm⟩ t16, (by rw [e]; decide)⟩
    | 16, _, e =>
      have t17 : XT l 0 0 false 58 153 6051 0 [xi v] [] h 134 [xi v] [xi (Int32.ofInt (0))] h := XT_path (l := l) (fr := 0) (lo := 0) (full := false) (M := 58) (n := 153) (u := 6051) (pc := 0) (L := [xi v]) (st := []) (h := h) (inl := []) (n' := 80) (sp := [134]) (o := [17]) rfl rfl ⟨rfl, rfl, rfl⟩ rfl ⟨Nat.le_of_eq hg.2.2.2.1, Nat.le_of_eq hg.2.2.2.2⟩ ⟨trivial, ⟨e, by decide⟩⟩
      exact ⟨_, CX_ofT (h' := h) (by decide) rfl rfl trivial ⟨_, _, _, rfl, rfl, rfl⟩ rfl ⟨Nat.le_of_eq hg.2.2.2.1.symm, Nat.le_of_eq hg.2.2.2.2.symm⟩ t17, (by rw [e]; decide)⟩
    | 17, _, e =>
      have t18 : XT l 0 0 false 58 153 6051 0 [xi v] [] h 134 [xi v] [xi (Int32.ofInt (0))] h := XT_path (l := l) (fr := 0) (lo := 0) (full := false) (M := 58) (n := 153) (u := 6051) (pc := 0) (L := [xi v]) (st := []) (h := h) (inl := []) (n' := 80) (sp := [134]) (o := [18]) rfl rfl ⟨rfl, rfl, rfl⟩ rfl ⟨Nat.le_of_eq hg.2.2.2.1, Nat.le_of_eq hg.2.2.2.2⟩ ⟨trivial, ⟨e, by decide⟩⟩
      exact ⟨_, CX_ofT (h' := h) (by decide) rfl rfl trivial ⟨_, _, _, rfl, rfl, rfl⟩ rfl ⟨Nat.le_of_eq hg.2.2.2.1.symm, Nat.le_of_eq hg.2.2.2.2.symm⟩ t18, (by rw [e]; decide)⟩
    | 18, _, e =>
      have t19 : XT l 0 0 false 58 153 6051 0 [xi v] [] h 134 [xi v] [xi (Int32.ofInt (0))] h := XT_path (l := l) (fr := 0) (lo := 0) (full := false) (M := 58) (n := 153) (u := 6051) (pc := 0) (L := [xi v]) (st := []) (h := h) (inl := []) (n' := 80) (sp := [134]) (o := [19]) rfl rfl ⟨rfl, rfl, rfl⟩ rfl ⟨Nat.le_of_eq hg.2.2.2.1, Nat.le_of_eq hg.2.2.2.2⟩ ⟨trivial, ⟨e, by decide⟩⟩
      exact ⟨_, CX_ofT (h' := h) (by decide) rfl rfl trivial ⟨_, _, _, rfl, rfl, rfl⟩ rfl ⟨Nat.le_of_eq hg.2.2.2.1.symm, Nat.le_of_eq hg.2.2.2.2.symm⟩ t19, (by rw [e]; decide)⟩
    | 19, _, e =>
      have t20 : XT l 0 0 false 58 153 6051 0 [xi v] [] h 134 [xi v] [xi (Int32.ofInt (0))] h := XT_path (l := l) (fr := 0) (lo := 0) (full := false) (M := 58) (n := 153) (u := 6051) (pc := 0) (L := [xi v]) (st := []) (h := h) (inl := []) (n' := 80) (sp := [134]) (o := [20]) rfl rfl ⟨rfl, rfl, rfl⟩ rfl ⟨Nat.le_of_eq hg.2.2.2.1, Nat.le_of_eq hg.2.2.2.2⟩ ⟨trivial, ⟨e, by decide⟩⟩
      exact ⟨_, CX_ofT (h' := h) (by decide) rfl rfl trivial ⟨_, _, _, rfl, rfl, rfl⟩ rfl ⟨Nat.le_of_eq hg.2.2.2.1.symm, Nat.le_of_eq hg.2.2.2.2.symm⟩ t20, (by rw [e]; decide)⟩
    | 20, _, e =>
      have t21 : XT l 0 0 false 58 153 6051 0 [xi v] [] h 134 [xi v] [xi (Int32.ofInt (0))] h := XT_path (l := l) (fr := 0) (lo := 0) (full := false) (M := 58) (n := 153) (u := 6051) (pc := 0) (L := [xi v]) (st := []) (h := h) (inl := []) (n' := 80) (sp := [134]) (o := [21]) rfl rfl ⟨rfl, rfl, rfl⟩ rfl ⟨Nat.le_of_eq hg.2.2.2.1, Nat.le_of_eq hg.2.2.2.2⟩ ⟨trivial, ⟨e, by decide⟩⟩
      exact ⟨_, CX_ofT (h' := h) (by decide) rfl rfl trivial ⟨_, _, _, rfl, rfl, rfl⟩ rfl ⟨Nat.le_of_eq hg.2.2.2.1.symm, Nat.le_of_eq hg.2.2.2.2.symm⟩ t21, (by rw [e]; decide)⟩
    | 21, _, e =>
      have t22 : XT l 0 0 false 58 153 6051 0 [xi v] [] h 134 [xi v] [xi (Int32.ofInt (0))] h := XT_path (l := l) (fr := 0) (lo := 0) (full := false) (M := 58) (n := 153) (u := 6051) (pc := 0) (L := [xi v]) (st := []) (h := h) (inl := []) (n' := 80) (sp := [134]) (o := [22]) rfl rfl ⟨rfl, rfl, rfl⟩ rfl ⟨Nat.le_of_eq hg.2.2.2.1, Nat.le_of_eq hg.2.2.2.2⟩ ⟨trivial, ⟨e, by decide⟩⟩
      exact ⟨_, CX_ofT (h' := h) (by decide) rfl rfl trivial ⟨_, _, _, rfl, rfl, rfl⟩ rfl ⟨Nat.le_of_eq hg.2.2.2.1.symm, Nat.le_of_eq hg.2.2.2.2.symm⟩ t22, (by rw [e]; decide)⟩
    | 22, _, e =>
      have t23 : XT l 0 0 false 58 153 6051 0 [xi v] [] h 134 [xi v] [xi (Int32.ofInt (0))] h := XT_path (l := l) (fr := 0) (lo := 0) (full := false) (M := 58) (n := 153) (u := 6051) (pc := 0) (L := [xi v]) (st := []) (h := h) (inl := []) (n' := 80) (sp := [134]) (o := [23]) rfl rfl ⟨rfl, rfl, rfl⟩ rfl ⟨Nat.le_of_eq hg.2.2.2.1, Nat.le_of_eq hg.2.2.2.2⟩ ⟨trivial, ⟨e, by decide⟩⟩
      exact ⟨_, CX_ofT (h' := h) (by decide) rfl rfl trivial ⟨_, _, _, rfl, rfl, rfl⟩ rfl ⟨Nat.le_of_eq hg.2.2.2.1.symm, Nat.le_of_eq hg.2.2.2.2.symm⟩ t23, (by rw [e]; decide)⟩
    | 23, _, e =>
      have t24 : XT l 0 0 false 58 153 6051 0 [xi v] [] h 121 [xi v] [xi (Int32.ofInt (1))] h := XT_path (l := l) (fr := 0) (lo := 0) (full := false) (M := 58) (n := 153) (u := 6051) (pc := 0) (L := [xi v]) (st := []) (h := h) (inl := []) (n' := 80) (sp := [121]) (o := [24]) rfl rfl ⟨rfl, rfl, rfl⟩ rfl ⟨Nat.le_of_eq hg.2.2.2.1, Nat.le_of_eq hg.2.2.2.2⟩ ⟨trivial, ⟨e, by decide⟩⟩
      exact ⟨_, CX_ofT (h' := h) (by decide) rfl rfl trivial ⟨_, _, _, rfl, rfl, rfl⟩ rfl ⟨Nat.le_of_eq hg.2.2.2.1.symm, Nat.le_of_eq hg.2.2.2.2.symm⟩ t24, (by rw [e]; decide)⟩
    | 24, _, e =>
      have t25 : XT l 0 0 false 58 153 6051 0 [xi v] [] h 123 [xi v] [xi (Int32.ofInt (2))] h := XT_path (l := l) (fr := 0) (lo := 0) (full := false) (M := 58) (n := 153) (u := 6051) (pc := 0) (L := [xi v]) (st := []) (h := h) (inl := []) (n' := 80) (sp := [123]) (o := [25]) rfl rfl ⟨rfl, rfl, rfl⟩ rfl ⟨Nat.le_of_eq hg.2.2.2.1, Nat.le_of_eq hg.2.2.2.2⟩ ⟨trivial, ⟨e, by decide⟩⟩
      exact ⟨_, CX_ofT (h' := h) (by decide) rfl rfl trivial ⟨_, _, _, rfl, rfl, rfl⟩ rfl ⟨Nat.le_of_eq hg.2.2.2.1.symm, Nat.le_of_eq hg.2.2.2.2.symm⟩ t25, (by rw [e]; decide)⟩
    | 25, _, e =>
      have t26 : XT l 0 0 false 58 153 6051 0 [xi v] [] h 125 [xi v] [xi (Int32.ofInt (3))] h := XT_path (l := l) (fr := 0) (lo := 0) (full := false) (M := 58) (n := 153) (u := 6051) (pc := 0) (L := [xi v]) (st := []) (h := h) (inl := []) (n' := 80) (sp := [125]) (o := [26]) rfl rfl ⟨rfl, rfl, rfl⟩ rfl ⟨Nat.le_of_eq hg.2.2.2.1, Nat.le_of_eq hg.2.2.2.2⟩ ⟨trivial, ⟨e, by decide⟩⟩
      exact ⟨_, CX_ofT (h' := h) (by decide) rfl rfl trivial ⟨_, _, _, rfl, rfl, rfl⟩ rfl ⟨Nat.le_of_eq hg.2.2.2.1.symm, Nat.le_of_eq hg.2.2.2.2.symm⟩ t26, (by rw [e]; decide)⟩
    | k + 26, hk, _ => exact absurd hk (by omega)
  · have t27 : XT l 0 0 false 58 153 6051 0 [xi v] [] h 134 [xi v] [xi (Int32.ofInt (0))] h := XT_path (l := l) (fr := 0) (lo := 0) (full := false) (M := 58) (n := 153) (u := 6051) (pc := 0) (L := [xi v]) (st := []) (h := h) (inl := []) (n' := 80) (sp := [134]) (o := [0]) rfl rfl ⟨rfl, rfl, rfl⟩ rfl ⟨Nat.le_of_eq hg.2.2.2.1, Nat.le_of_eq hg.2.2.2.2⟩ ⟨trivial, (by omega)⟩
    exact ⟨_, CX_ofT (h' := h) (by decide) rfl rfl trivial ⟨_, _, _, rfl, rfl, rfl⟩ rfl ⟨Nat.le_of_eq hg.2.2.2.1.symm, Nat.le_of_eq hg.2.2.2.2.symm⟩ t27, (lev_0.mpr (by omega)).symm⟩
