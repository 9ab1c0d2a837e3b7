/-! A TEXT KEPT BY THE MODEL. -/
def vcq (h : XH) (c n i : Nat) : XH := xrowI h c (fun k => if k < i then xI h c (n + k) else xI h c k)
theorem vcq_0 {h : XH} {c n : Nat} : vcq h c n 0 = h := by
  obtain ⟨I, r⟩ := h
  show (xr I c (fun k => if k < 0 then I c (n + k) else I c k), r) = (I, r)
  refine congrArg (fun z => (z, r)) (funext fun c' => ?_)
  unfold xr
  by_cases e : c' = c
  · rw [if_pos e, e]
    exact funext fun k => if_neg (Nat.not_lt_zero k)
  · rw [if_neg e]
theorem vcq_step {h : XH} {c n i : Nat} : xsetI (vcq h c n i) c i (xI (vcq h c n i) c (n + i)) = vcq h c n (i + 1) := by
  have e : xI (vcq h c n i) c (n + i) = xI h c (n + i) := by
    show xI (xrowI h c _) c (n + i) = _
    rw [yI_rowS]
    exact if_neg (by omega)
  rw [e]
  obtain ⟨I, r⟩ := h
  show (xu (xr I c (fun k => if k < i then I c (n + k) else I c k)) c i (I c (n + i)), r) = (xr I c (fun k => if k < i + 1 then I c (n + k) else I c k), r)
  refine congrArg (fun z => (z, r)) (funext fun c' => funext fun k' => ?_)
  unfold xu xr
  by_cases ec : c' = c
  · by_cases ek : k' = i
    · rw [if_pos ⟨ec, ek⟩, if_pos ec, if_pos (by omega), ek]
    · rw [if_neg (fun z => ek z.2), if_pos ec, if_pos ec]
      by_cases el : k' < i
      · rw [if_pos el, if_pos (by omega)]
      · rw [if_neg el, if_neg (by omega)]
  · rw [if_neg (fun z => ec z.1), if_neg ec, if_neg ec]
theorem vcq_ne {h : XH} {c n i c' : Nat} (hn : ¬ c' = c) : xI (vcq h c n i) c' = xI h c' := funext fun k => yI_row (eq_false hn)
theorem vcq_same {h : XH} {c n i k : Nat} : xI (vcq h c n i) c k = if k < i then xI h c (n + k) else xI h c k := yI_rowS
theorem yI_cF {h : XH} {c k c' : Nat} {v : Int32} (hn : ¬ c' = c) : xI (xsetI h c k v) c' = xI h c' := funext fun _ => yI_c (eq_false hn)
theorem sinv_cq {h : XH} (hg : sinv vT h) {c n i : Nat} (hw : vWr c = true) : sinv vT (vcq h c n i) := by
  refine sinv_row hg (fun k => ?_)
  have e : ∀ k, vI c k = vRow c := fun k => vI_u hw rfl k
  rw [e]
  split
  · have := vbnd hg c (n + k)
    rw [e] at this
    exact this
  · have := vbnd hg c k
    rw [e] at this
    exact this
set_option maxRecDepth 100000 in
set_option maxHeartbeats 2000000 in
theorem vh_cpL1 (l : Launch) (c : Nat) (h : XH) (hN : True ∧ True ∧ True ∧ xN h = 153 ∧ xU h = 6051) : ∀ (m : Nat) (i : Int32), 0 ≤ i.toInt → i.toInt + m = 1 → ∃ i', XT l 0 0 false 174 153 6051 2 [xf 10002 c, xi (Int32.ofInt (1)), xi i] [] (vcq h c 1 i.toNatClampNeg) 21 [xf 10002 c, xi (Int32.ofInt (1)), xi i'] [] (vcq h c 1 1)
  | 0, i, a1, a2 => by
    have en : (Int32.ofInt (1)).toInt = 1 := rfl
    have ni : i.toNatClampNeg = i.toInt.toNat := rfl
    have e : i.toNatClampNeg = 1 := by omega
    have t1 : XT l 0 0 false 174 153 6051 2 [xf 10002 c, xi (Int32.ofInt (1)), xi i] [] (vcq h c 1 i.toNatClampNeg) 21 [xf 10002 c, xi (Int32.ofInt (1)), xi i] [] (vcq h c 1 i.toNatClampNeg) := XT_path (l := l) (fr := 0) (lo := 0) (full := false) (M := 174) (n := 153) (u := 6051) (pc := 2) (L := [xf 10002 c, xi (Int32.ofInt (1)), xi i]) (st := []) (h := (vcq h c 1 i.toNatClampNeg)) (inl := []) (n' := 80) (sp := [21]) (o := [1]) rfl rfl ⟨rfl, rfl, rfl⟩ rfl ⟨Nat.le_of_eq hN.2.2.2.1, Nat.le_of_eq hN.2.2.2.2⟩ ⟨trivial, (Int32.le_iff_toInt_le.mpr (by omega))⟩
    rw [e] at t1 ⊢
    exact ⟨i, t1⟩
  | m + 1, i, a1, a2 => by
    have en : (Int32.ofInt (1)).toInt = 1 := rfl
    have ni : i.toNatClampNeg = i.toInt.toNat := rfl
    have ea : ((Int32.ofInt (1)) + i).toInt = 1 + i.toInt := by
      rw [Int32.toInt_add, en]
      exact Int.bmod_eq_of_le (by omega) (by omega)
    have na : (((Int32.ofInt (1)) + i)).toNatClampNeg = 1 + i.toNatClampNeg := by
      show ((Int32.ofInt (1)) + i).toInt.toNat = _
      omega
    have ei := y_suc1 a1 (by omega)
    have nj : (i + Int32.ofInt (1)).toNatClampNeg = i.toNatClampNeg + 1 := by
      show (i + Int32.ofInt (1)).toInt.toNat = _
      omega
    have t2 : XT l 0 0 false 174 153 6051 2 [xf 10002 c, xi (Int32.ofInt (1)), xi i] [] (vcq h c 1 i.toNatClampNeg) 2 [xf 10002 c, xi (Int32.ofInt (1)), xi (i + Int32.ofInt (1))] [] (xsetI (vcq h c 1 i.toNatClampNeg) c (i).toNatClampNeg (xI (vcq h c 1 i.toNatClampNeg) c (((Int32.ofInt (1)) + i)).toNatClampNeg)) := XT_path (l := l) (fr := 0) (lo := 0) (full := false) (M := 174) (n := 153) (u := 6051) (pc := 2) (L := [xf 10002 c, xi (Int32.ofInt (1)), xi i]) (st := []) (h := (vcq h c 1 i.toNatClampNeg)) (inl := []) (n' := 80) (sp := [2]) (o := [0]) rfl rfl ⟨rfl, rfl, rfl⟩ rfl ⟨Nat.le_of_eq hN.2.2.2.1, Nat.le_of_eq hN.2.2.2.2⟩ ⟨⟨⟨trivial, (fun z => absurd (Int32.le_iff_toInt_le.mp z) (by omega))⟩, (vp_of (i := ((Int32.ofInt (1)) + i)) (n := 2) (by omega) (by omega))⟩, (vp_of (i := i) (n := 2) (by omega) (by omega))⟩
    rw [na, vcq_step, ← nj] at t2
    obtain ⟨i', z⟩ := vh_cpL1 l c h hN m (i + Int32.ofInt (1)) (by omega) (by omega)
    exact ⟨i', t2.tr z⟩
set_option maxRecDepth 100000 in
set_option maxHeartbeats 2000000 in
theorem vh_cp1 (l : Launch) (c : Nat) (h : XH) (hN : True ∧ True ∧ True ∧ xN h = 153 ∧ xU h = 6051) : CX l 0 0 false 174 [xf 10002 c, xi (Int32.ofInt (1))] h [] (vcq h c 1 1) := by
  have t3 : XT l 0 0 false 174 153 6051 0 [xf 10002 c, xi (Int32.ofInt (1)), xun] [] h 2 [xf 10002 c, xi (Int32.ofInt (1)), xi (Int32.ofInt (0))] [] h := XT_path (l := l) (fr := 0) (lo := 0) (full := false) (M := 174) (n := 153) (u := 6051) (pc := 0) (L := [xf 10002 c, xi (Int32.ofInt (1)), xun]) (st := []) (h := h) (inl := []) (n' := 80) (sp := [2]) (o := []) rfl rfl ⟨rfl, rfl, rfl⟩ rfl ⟨Nat.le_of_eq hN.2.2.2.1, Nat.le_of_eq hN.2.2.2.2⟩ trivial
  obtain ⟨i', z⟩ := vh_cpL1 l c h hN 1 (Int32.ofInt (0)) (by decide) (by decide)
  rw [show (Int32.ofInt (0)).toNatClampNeg = 0 from rfl, vcq_0] at z
  exact CX_ofT (h' := (vcq h c 1 1)) (by decide) rfl rfl trivial ⟨_, _, _, rfl, rfl, rfl⟩ rfl ⟨Nat.le_of_eq hN.2.2.2.1.symm, Nat.le_of_eq hN.2.2.2.2.symm⟩ (t3.tr z)
set_option maxRecDepth 100000 in
set_option maxHeartbeats 2000000 in
theorem vh_cpL6 (l : Launch) (c : Nat) (h : XH) (hN : True ∧ True ∧ True ∧ xN h = 153 ∧ xU h = 6051) : ∀ (m : Nat) (i : Int32), 0 ≤ i.toInt → i.toInt + m = 6 → ∃ i', XT l 0 0 false 174 153 6051 2 [xf 10012 c, xi (Int32.ofInt (6)), xi i] [] (vcq h c 6 i.toNatClampNeg) 21 [xf 10012 c, xi (Int32.ofInt (6)), xi i'] [] (vcq h c 6 6)
  | 0, i, a1, a2 => by
    have en : (Int32.ofInt (6)).toInt = 6 := rfl
    have ni : i.toNatClampNeg = i.toInt.toNat := rfl
    have e : i.toNatClampNeg = 6 := by omega
    have t1 : XT l 0 0 false 174 153 6051 2 [xf 10012 c, xi (Int32.ofInt (6)), xi i] [] (vcq h c 6 i.toNatClampNeg) 21 [xf 10012 c, xi (Int32.ofInt (6)), xi i] [] (vcq h c 6 i.toNatClampNeg) := XT_path (l := l) (fr := 0) (lo := 0) (full := false) (M := 174) (n := 153) (u := 6051) (pc := 2) (L := [xf 10012 c, xi (Int32.ofInt (6)), xi i]) (st := []) (h := (vcq h c 6 i.toNatClampNeg)) (inl := []) (n' := 80) (sp := [21]) (o := [1]) rfl rfl ⟨rfl, rfl, rfl⟩ rfl ⟨Nat.le_of_eq hN.2.2.2.1, Nat.le_of_eq hN.2.2.2.2⟩ ⟨trivial, (Int32.le_iff_toInt_le.mpr (by omega))⟩
    rw [e] at t1 ⊢
    exact ⟨i, t1⟩
  | m + 1, i, a1, a2 => by
    have en : (Int32.ofInt (6)).toInt = 6 := rfl
    have ni : i.toNatClampNeg = i.toInt.toNat := rfl
    have ea : ((Int32.ofInt (6)) + i).toInt = 6 + i.toInt := by
      rw [Int32.toInt_add, en]
      exact Int.bmod_eq_of_le (by omega) (by omega)
    have na : (((Int32.ofInt (6)) + i)).toNatClampNeg = 6 + i.toNatClampNeg := by
      show ((Int32.ofInt (6)) + i).toInt.toNat = _
      omega
    have ei := y_suc1 a1 (by omega)
    have nj : (i + Int32.ofInt (1)).toNatClampNeg = i.toNatClampNeg + 1 := by
      show (i + Int32.ofInt (1)).toInt.toNat = _
      omega
    have t2 : XT l 0 0 false 174 153 6051 2 [xf 10012 c, xi (Int32.ofInt (6)), xi i] [] (vcq h c 6 i.toNatClampNeg) 2 [xf 10012 c, xi (Int32.ofInt (6)), xi (i + Int32.ofInt (1))] [] (xsetI (vcq h c 6 i.toNatClampNeg) c (i).toNatClampNeg (xI (vcq h c 6 i.toNatClampNeg) c (((Int32.ofInt (6)) + i)).toNatClampNeg)) := XT_path (l := l) (fr := 0) (lo := 0) (full := false) (M := 174) (n := 153) (u := 6051) (pc := 2) (L := [xf 10012 c, xi (Int32.ofInt (6)), xi i]) (st := []) (h := (vcq h c 6 i.toNatClampNeg)) (inl := []) (n' := 80) (sp := [2]) (o := [0]) rfl rfl ⟨rfl, rfl, rfl⟩ rfl ⟨Nat.le_of_eq hN.2.2.2.1, Nat.le_of_eq hN.2.2.2.2⟩ ⟨⟨⟨trivial, (fun z => absurd (Int32.le_iff_toInt_le.mp z) (by omega))⟩, (vp_of (i := ((Int32.ofInt (6)) + i)) (n := 12) (by omega) (by omega))⟩, (vp_of (i := i) (n := 12) (by omega) (by omega))⟩
    rw [na, vcq_step, ← nj] at t2
    obtain ⟨i', z⟩ := vh_cpL6 l c h hN m (i + Int32.ofInt (1)) (by omega) (by omega)
    exact ⟨i', t2.tr z⟩
set_option maxRecDepth 100000 in
set_option maxHeartbeats 2000000 in
theorem vh_cp6 (l : Launch) (c : Nat) (h : XH) (hN : True ∧ True ∧ True ∧ xN h = 153 ∧ xU h = 6051) : CX l 0 0 false 174 [xf 10012 c, xi (Int32.ofInt (6))] h [] (vcq h c 6 6) := by
  have t3 : XT l 0 0 false 174 153 6051 0 [xf 10012 c, xi (Int32.ofInt (6)), xun] [] h 2 [xf 10012 c, xi (Int32.ofInt (6)), xi (Int32.ofInt (0))] [] h := XT_path (l := l) (fr := 0) (lo := 0) (full := false) (M := 174) (n := 153) (u := 6051) (pc := 0) (L := [xf 10012 c, xi (Int32.ofInt (6)), xun]) (st := []) (h := h) (inl := []) (n' := 80) (sp := [2]) (o := []) rfl rfl ⟨rfl, rfl, rfl⟩ rfl ⟨Nat.le_of_eq hN.2.2.2.1, Nat.le_of_eq hN.2.2.2.2⟩ trivial
  obtain ⟨i', z⟩ := vh_cpL6 l c h hN 6 (Int32.ofInt (0)) (by decide) (by decide)
  rw [show (Int32.ofInt (0)).toNatClampNeg = 0 from rfl, vcq_0] at z
  exact CX_ofT (h' := (vcq h c 6 6)) (by decide) rfl rfl trivial ⟨_, _, _, rfl, rfl, rfl⟩ rfl ⟨Nat.le_of_eq hN.2.2.2.1.symm, Nat.le_of_eq hN.2.2.2.2.symm⟩ (t3.tr z)
set_option maxRecDepth 100000 in
set_option maxHeartbeats 2000000 in
theorem vh_cpL9 (l : Launch) (c : Nat) (h : XH) (hN : True ∧ True ∧ True ∧ xN h = 153 ∧ xU h = 6051) : ∀ (m : Nat) (i : Int32), 0 ≤ i.toInt → i.toInt + m = 9 → ∃ i', XT l 0 0 false 174 153 6051 2 [xf 10018 c, xi (Int32.ofInt (9)), xi i] [] (vcq h c 9 i.toNatClampNeg) 21 [xf 10018 c, xi (Int32.ofInt (9)), xi i'] [] (vcq h c 9 9)
  | 0, i, a1, a2 => by
    have en : (Int32.ofInt (9)).toInt = 9 := rfl
    have ni : i.toNatClampNeg = i.toInt.toNat := rfl
    have e : i.toNatClampNeg = 9 := by omega
    have t1 : XT l 0 0 false 174 153 6051 2 [xf 10018 c, xi (Int32.ofInt (9)), xi i] [] (vcq h c 9 i.toNatClampNeg) 21 [xf 10018 c, xi (Int32.ofInt (9)), xi i] [] (vcq h c 9 i.toNatClampNeg) := XT_path (l := l) (fr := 0) (lo := 0) (full := false) (M := 174) (n := 153) (u := 6051) (pc := 2) (L := [xf 10018 c, xi (Int32.ofInt (9)), xi i]) (st := []) (h := (vcq h c 9 i.toNatClampNeg)) (inl := []) (n' := 80) (sp := [21]) (o := [1]) rfl rfl ⟨rfl, rfl, rfl⟩ rfl ⟨Nat.le_of_eq hN.2.2.2.1, Nat.le_of_eq hN.2.2.2.2⟩ ⟨trivial, (Int32.le_iff_toInt_le.mpr (by omega))⟩
    rw [e] at t1 ⊢
    exact ⟨i, t1⟩
  | m + 1, i, a1, a2 => by
    have en : (Int32.ofInt (9)).toInt = 9 := rfl
    have ni : i.toNatClampNeg = i.toInt.toNat := rfl
    have ea : ((Int32.ofInt (9)) + i).toInt = 9 + i.toInt := by
      rw [Int32.toInt_add, en]
      exact Int.bmod_eq_of_le (by omega) (by omega)
    have na : (((Int32.ofInt (9)) + i)).toNatClampNeg = 9 + i.toNatClampNeg := by
      show ((Int32.ofInt (9)) + i).toInt.toNat = _
      omega
    have ei := y_suc1 a1 (by omega)
    have nj : (i + Int32.ofInt (1)).toNatClampNeg = i.toNatClampNeg + 1 := by
      show (i + Int32.ofInt (1)).toInt.toNat = _
      omega
    have t2 : XT l 0 0 false 174 153 6051 2 [xf 10018 c, xi (Int32.ofInt (9)), xi i] [] (vcq h c 9 i.toNatClampNeg) 2 [xf 10018 c, xi (Int32.ofInt (9)), xi (i + Int32.ofInt (1))] [] (xsetI (vcq h c 9 i.toNatClampNeg) c (i).toNatClampNeg (xI (vcq h c 9 i.toNatClampNeg) c (((Int32.ofInt (9)) + i)).toNatClampNeg)) := XT_path (l := l) (fr := 0) (lo := 0) (full := false) (M := 174) (n := 153) (u := 6051) (pc := 2) (L := [xf 10018 c, xi (Int32.ofInt (9)), xi i]) (st := []) (h := (vcq h c 9 i.toNatClampNeg)) (inl := []) (n' := 80) (sp := [2]) (o := [0]) rfl rfl ⟨rfl, rfl, rfl⟩ rfl ⟨Nat.le_of_eq hN.2.2.2.1, Nat.le_of_eq hN.2.2.2.2⟩ ⟨⟨⟨trivial, (fun z => absurd (Int32.le_iff_toInt_le.mp z) (by omega))⟩, (vp_of (i := ((Int32.ofInt (9)) + i)) (n := 18) (by omega) (by omega))⟩, (vp_of (i := i) (n := 18) (by omega) (by omega))⟩
    rw [na, vcq_step, ← nj] at t2
    obtain ⟨i', z⟩ := vh_cpL9 l c h hN m (i + Int32.ofInt (1)) (by omega) (by omega)
    exact ⟨i', t2.tr z⟩
set_option maxRecDepth 100000 in
set_option maxHeartbeats 2000000 in
theorem vh_cp9 (l : Launch) (c : Nat) (h : XH) (hN : True ∧ True ∧ True ∧ xN h = 153 ∧ xU h = 6051) : CX l 0 0 false 174 [xf 10018 c, xi (Int32.ofInt (9))] h [] (vcq h c 9 9) := by
  have t3 : XT l 0 0 false 174 153 6051 0 [xf 10018 c, xi (Int32.ofInt (9)), xun] [] h 2 [xf 10018 c, xi (Int32.ofInt (9)), xi (Int32.ofInt (0))] [] h := XT_path (l := l) (fr := 0) (lo := 0) (full := false) (M := 174) (n := 153) (u := 6051) (pc := 0) (L := [xf 10018 c, xi (Int32.ofInt (9)), xun]) (st := []) (h := h) (inl := []) (n' := 80) (sp := [2]) (o := []) rfl rfl ⟨rfl, rfl, rfl⟩ rfl ⟨Nat.le_of_eq hN.2.2.2.1, Nat.le_of_eq hN.2.2.2.2⟩ trivial
  obtain ⟨i', z⟩ := vh_cpL9 l c h hN 9 (Int32.ofInt (0)) (by decide) (by decide)
  rw [show (Int32.ofInt (0)).toNatClampNeg = 0 from rfl, vcq_0] at z
  exact CX_ofT (h' := (vcq h c 9 9)) (by decide) rfl rfl trivial ⟨_, _, _, rfl, rfl, rfl⟩ rfl ⟨Nat.le_of_eq hN.2.2.2.1.symm, Nat.le_of_eq hN.2.2.2.2.symm⟩ (t3.tr z)
set_option maxRecDepth 100000 in
set_option maxHeartbeats 2000000 in
theorem vh_cpL8 (l : Launch) (c : Nat) (h : XH) (hN : True ∧ True ∧ True ∧ xN h = 153 ∧ xU h = 6051) : ∀ (m : Nat) (i : Int32), 0 ≤ i.toInt → i.toInt + m = 8 → ∃ i', XT l 0 0 false 174 153 6051 2 [xf 10016 c, xi (Int32.ofInt (8)), xi i] [] (vcq h c 8 i.toNatClampNeg) 21 [xf 10016 c, xi (Int32.ofInt (8)), xi i'] [] (vcq h c 8 8)
  | 0, i, a1, a2 => by
    have en : (Int32.ofInt (8)).toInt = 8 := rfl
    have ni : i.toNatClampNeg = i.toInt.toNat := rfl
    have e : i.toNatClampNeg = 8 := by omega
    have t1 : XT l 0 0 false 174 153 6051 2 [xf 10016 c, xi (Int32.ofInt (8)), xi i] [] (vcq h c 8 i.toNatClampNeg) 21 [xf 10016 c, xi (Int32.ofInt (8)), xi i] [] (vcq h c 8 i.toNatClampNeg) := XT_path (l := l) (fr := 0) (lo := 0) (full := false) (M := 174) (n := 153) (u := 6051) (pc := 2) (L := [xf 10016 c, xi (Int32.ofInt (8)), xi i]) (st := []) (h := (vcq h c 8 i.toNatClampNeg)) (inl := []) (n' := 80) (sp := [21]) (o := [1]) rfl rfl ⟨rfl, rfl, rfl⟩ rfl ⟨Nat.le_of_eq hN.2.2.2.1, Nat.le_of_eq hN.2.2.2.2⟩ ⟨trivial, (Int32.le_iff_toInt_le.mpr (by omega))⟩
    rw [e] at t1 ⊢
    exact ⟨i, t1⟩
  | m + 1, i, a1, a2 => by
    have en : (Int32.ofInt (8)).toInt = 8 := rfl
    have ni : i.toNatClampNeg = i.toInt.toNat := rfl
    have ea : ((Int32.ofInt (8)) + i).toInt = 8 + i.toInt := by
      rw [Int32.toInt_add, en]
      exact Int.bmod_eq_of_le (by omega) (by omega)
    have na : (((Int32.ofInt (8)) + i)).toNatClampNeg = 8 + i.toNatClampNeg := by
      show ((Int32.ofInt (8)) + i).toInt.toNat = _
      omega
    have ei := y_suc1 a1 (by omega)
    have nj : (i + Int32.ofInt (1)).toNatClampNeg = i.toNatClampNeg + 1 := by
      show (i + Int32.ofInt (1)).toInt.toNat = _
      omega
    have t2 : XT l 0 0 false 174 153 6051 2 [xf 10016 c, xi (Int32.ofInt (8)), xi i] [] (vcq h c 8 i.toNatClampNeg) 2 [xf 10016 c, xi (Int32.ofInt (8)), xi (i + Int32.ofInt (1))] [] (xsetI (vcq h c 8 i.toNatClampNeg) c (i).toNatClampNeg (xI (vcq h c 8 i.toNatClampNeg) c (((Int32.ofInt (8)) + i)).toNatClampNeg)) := XT_path (l := l) (fr := 0) (lo := 0) (full := false) (M := 174) (n := 153) (u := 6051) (pc := 2) (L := [xf 10016 c, xi (Int32.ofInt (8)), xi i]) (st := []) (h := (vcq h c 8 i.toNatClampNeg)) (inl := []) (n' := 80) (sp := [2]) (o := [0]) rfl rfl ⟨rfl, rfl, rfl⟩ rfl ⟨Nat.le_of_eq hN.2.2.2.1, Nat.le_of_eq hN.2.2.2.2⟩ ⟨⟨⟨trivial, (fun z => absurd (Int32.le_iff_toInt_le.mp z) (by omega))⟩, (vp_of (i := ((Int32.ofInt (8)) + i)) (n := 16) (by omega) (by omega))⟩, (vp_of (i := i) (n := 16) (by omega) (by omega))⟩
    rw [na, vcq_step, ← nj] at t2
    obtain ⟨i', z⟩ := vh_cpL8 l c h hN m (i + Int32.ofInt (1)) (by omega) (by omega)
    exact ⟨i', t2.tr z⟩
set_option maxRecDepth 100000 in
set_option maxHeartbeats 2000000 in
theorem vh_cp8 (l : Launch) (c : Nat) (h : XH) (hN : True ∧ True ∧ True ∧ xN h = 153 ∧ xU h = 6051) : CX l 0 0 false 174 [xf 10016 c, xi (Int32.ofInt (8))] h [] (vcq h c 8 8) := by
  have t3 : XT l 0 0 false 174 153 6051 0 [xf 10016 c, xi (Int32.ofInt (8)), xun] [] h 2 [xf 10016 c, xi (Int32.ofInt (8)), xi (Int32.ofInt (0))] [] h := XT_path (l := l) (fr := 0) (lo := 0) (full := false) (M := 174) (n := 153) (u := 6051) (pc := 0) (L := [xf 10016 c, xi (Int32.ofInt (8)), xun]) (st := []) (h := h) (inl := []) (n' := 80) (sp := [2]) (o := []) rfl rfl ⟨rfl, rfl, rfl⟩ rfl ⟨Nat.le_of_eq hN.2.2.2.1, Nat.le_of_eq hN.2.2.2.2⟩ trivial
  obtain ⟨i', z⟩ := vh_cpL8 l c h hN 8 (Int32.ofInt (0)) (by decide) (by decide)
  rw [show (Int32.ofInt (0)).toNatClampNeg = 0 from rfl, vcq_0] at z
  exact CX_ofT (h' := (vcq h c 8 8)) (by decide) rfl rfl trivial ⟨_, _, _, rfl, rfl, rfl⟩ rfl ⟨Nat.le_of_eq hN.2.2.2.1.symm, Nat.le_of_eq hN.2.2.2.2.symm⟩ (t3.tr z)
set_option maxRecDepth 100000 in
set_option maxHeartbeats 2000000 in
theorem vh_cpL3 (l : Launch) (c : Nat) (h : XH) (hN : True ∧ True ∧ True ∧ xN h = 153 ∧ xU h = 6051) : ∀ (m : Nat) (i : Int32), 0 ≤ i.toInt → i.toInt + m = 3 → ∃ i', XT l 0 0 false 174 153 6051 2 [xf 10006 c, xi (Int32.ofInt (3)), xi i] [] (vcq h c 3 i.toNatClampNeg) 21 [xf 10006 c, xi (Int32.ofInt (3)), xi i'] [] (vcq h c 3 3)
  | 0, i, a1, a2 => by
    have en : (Int32.ofInt (3)).toInt = 3 := rfl
    have ni : i.toNatClampNeg = i.toInt.toNat := rfl
    have e : i.toNatClampNeg = 3 := by omega
    have t1 : XT l 0 0 false 174 153 6051 2 [xf 10006 c, xi (Int32.ofInt (3)), xi i] [] (vcq h c 3 i.toNatClampNeg) 21 [xf 10006 c, xi (Int32.ofInt (3)), xi i] [] (vcq h c 3 i.toNatClampNeg) := XT_path (l := l) (fr := 0) (lo := 0) (full := false) (M := 174) (n := 153) (u := 6051) (pc := 2) (L := [xf 10006 c, xi (Int32.ofInt (3)), xi i]) (st := []) (h := (vcq h c 3 i.toNatClampNeg)) (inl := []) (n' := 80) (sp := [21]) (o := [1]) rfl rfl ⟨rfl, rfl, rfl⟩ rfl ⟨Nat.le_of_eq hN.2.2.2.1, Nat.le_of_eq hN.2.2.2.2⟩ ⟨trivial, (Int32.le_iff_toInt_le.mpr (by omega))⟩
    rw [e] at t1 ⊢
    exact ⟨i, t1⟩
  | m + 1, i, a1, a2 => by
    have en : (Int32.ofInt (3)).toInt = 3 := rfl
    have ni : i.toNatClampNeg = i.toInt.toNat := rfl
    have ea : ((Int32.ofInt (3)) + i).toInt = 3 + i.toInt := by
      rw [Int32.toInt_add, en]
      exact Int.bmod_eq_of_le (by omega) (by omega)
    have na : (((Int32.ofInt (3)) + i)).toNatClampNeg = 3 + i.toNatClampNeg := by
      show ((Int32.ofInt (3)) + i).toInt.toNat = _
      omega
    have ei := y_suc1 a1 (by omega)
    have nj : (i + Int32.ofInt (1)).toNatClampNeg = i.toNatClampNeg + 1 := by
      show (i + Int32.ofInt (1)).toInt.toNat = _
      omega
    have t2 : XT l 0 0 false 174 153 6051 2 [xf 10006 c, xi (Int32.ofInt (3)), xi i] [] (vcq h c 3 i.toNatClampNeg) 2 [xf 10006 c, xi (Int32.ofInt (3)), xi (i + Int32.ofInt (1))] [] (xsetI (vcq h c 3 i.toNatClampNeg) c (i).toNatClampNeg (xI (vcq h c 3 i.toNatClampNeg) c (((Int32.ofInt (3)) + i)).toNatClampNeg)) := XT_path (l := l) (fr := 0) (lo := 0) (full := false) (M := 174) (n := 153) (u := 6051) (pc := 2) (L := [xf 10006 c, xi (Int32.ofInt (3)), xi i]) (st := []) (h := (vcq h c 3 i.toNatClampNeg)) (inl := []) (n' := 80) (sp := [2]) (o := [0]) rfl rfl ⟨rfl, rfl, rfl⟩ rfl ⟨Nat.le_of_eq hN.2.2.2.1, Nat.le_of_eq hN.2.2.2.2⟩ ⟨⟨⟨trivial, (fun z => absurd (Int32.le_iff_toInt_le.mp z) (by omega))⟩, (vp_of (i := ((Int32.ofInt (3)) + i)) (n := 6) (by omega) (by omega))⟩, (vp_of (i := i) (n := 6) (by omega) (by omega))⟩
    rw [na, vcq_step, ← nj] at t2
    obtain ⟨i', z⟩ := vh_cpL3 l c h hN m (i + Int32.ofInt (1)) (by omega) (by omega)
    exact ⟨i', t2.tr z⟩
set_option maxRecDepth 100000 in
set_option maxHeartbeats 2000000 in
theorem vh_cp3 (l : Launch) (c : Nat) (h : XH) (hN : True ∧ True ∧ True ∧ xN h = 153 ∧ xU h = 6051) : CX l 0 0 false 174 [xf 10006 c, xi (Int32.ofInt (3))] h [] (vcq h c 3 3) := by
  have t3 : XT l 0 0 false 174 153 6051 0 [xf 10006 c, xi (Int32.ofInt (3)), xun] [] h 2 [xf 10006 c, xi (Int32.ofInt (3)), xi (Int32.ofInt (0))] [] h := XT_path (l := l) (fr := 0) (lo := 0) (full := false) (M := 174) (n := 153) (u := 6051) (pc := 0) (L := [xf 10006 c, xi (Int32.ofInt (3)), xun]) (st := []) (h := h) (inl := []) (n' := 80) (sp := [2]) (o := []) rfl rfl ⟨rfl, rfl, rfl⟩ rfl ⟨Nat.le_of_eq hN.2.2.2.1, Nat.le_of_eq hN.2.2.2.2⟩ trivial
  obtain ⟨i', z⟩ := vh_cpL3 l c h hN 3 (Int32.ofInt (0)) (by decide) (by decide)
  rw [show (Int32.ofInt (0)).toNatClampNeg = 0 from rfl, vcq_0] at z
  exact CX_ofT (h' := (vcq h c 3 3)) (by decide) rfl rfl trivial ⟨_, _, _, rfl, rfl, rfl⟩ rfl ⟨Nat.le_of_eq hN.2.2.2.1.symm, Nat.le_of_eq hN.2.2.2.2.symm⟩ (t3.tr z)
set_option maxRecDepth 100000 in
set_option maxHeartbeats 2000000 in
theorem vh_cpL64 (l : Launch) (c : Nat) (h : XH) (hN : True ∧ True ∧ True ∧ xN h = 153 ∧ xU h = 6051) : ∀ (m : Nat) (i : Int32), 0 ≤ i.toInt → i.toInt + m = 64 → ∃ i', XT l 0 0 false 174 153 6051 2 [xf 10128 c, xi (Int32.ofInt (64)), xi i] [] (vcq h c 64 i.toNatClampNeg) 21 [xf 10128 c, xi (Int32.ofInt (64)), xi i'] [] (vcq h c 64 64)
  | 0, i, a1, a2 => by
    have en : (Int32.ofInt (64)).toInt = 64 := rfl
    have ni : i.toNatClampNeg = i.toInt.toNat := rfl
    have e : i.toNatClampNeg = 64 := by omega
    have t1 : XT l 0 0 false 174 153 6051 2 [xf 10128 c, xi (Int32.ofInt (64)), xi i] [] (vcq h c 64 i.toNatClampNeg) 21 [xf 10128 c, xi (Int32.ofInt (64)), xi i] [] (vcq h c 64 i.toNatClampNeg) := XT_path (l := l) (fr := 0) (lo := 0) (full := false) (M := 174) (n := 153) (u := 6051) (pc := 2) (L := [xf 10128 c, xi (Int32.ofInt (64)), xi i]) (st := []) (h := (vcq h c 64 i.toNatClampNeg)) (inl := []) (n' := 80) (sp := [21]) (o := [1]) rfl rfl ⟨rfl, rfl, rfl⟩ rfl ⟨Nat.le_of_eq hN.2.2.2.1, Nat.le_of_eq hN.2.2.2.2⟩ ⟨trivial, (Int32.le_iff_toInt_le.mpr (by omega))⟩
    rw [e] at t1 ⊢
    exact ⟨i, t1⟩
  | m + 1, i, a1, a2 => by
    have en : (Int32.ofInt (64)).toInt = 64 := rfl
    have ni : i.toNatClampNeg = i.toInt.toNat := rfl
    have ea : ((Int32.ofInt (64)) + i).toInt = 64 + i.toInt := by
      rw [Int32.toInt_add, en]
      exact Int.bmod_eq_of_le (by omega) (by omega)
    have na : (((Int32.ofInt (64)) + i)).toNatClampNeg = 64 + i.toNatClampNeg := by
      show ((Int32.ofInt (64)) + i).toInt.toNat = _
      omega
    have ei := y_suc1 a1 (by omega)
    have nj : (i + Int32.ofInt (1)).toNatClampNeg = i.toNatClampNeg + 1 := by
      show (i + Int32.ofInt (1)).toInt.toNat = _
      omega
    have t2 : XT l 0 0 false 174 153 6051 2 [xf 10128 c, xi (Int32.ofInt (64)), xi i] [] (vcq h c 64 i.toNatClampNeg) 2 [xf 10128 c, xi (Int32.ofInt (64)), xi (i + Int32.ofInt (1))] [] (xsetI (vcq h c 64 i.toNatClampNeg) c (i).toNatClampNeg (xI (vcq h c 64 i.toNatClampNeg) c (((Int32.ofInt (64)) + i)).toNatClampNeg)) := XT_path (l := l) (fr := 0) (lo := 0) (full := false) (M := 174) (n := 153) (u := 6051) (pc := 2) (L := [xf 10128 c, xi (Int32.ofInt (64)), xi i]) (st := []) (h := (vcq h c 64 i.toNatClampNeg)) (inl := []) (n' := 80) (sp := [2]) (o := [0]) rfl rfl ⟨rfl, rfl, rfl⟩ rfl ⟨Nat.le_of_eq hN.2.2.2.1, Nat.le_of_eq hN.2.2.2.2⟩ ⟨⟨⟨trivial, (fun z => absurd (Int32.le_iff_toInt_le.mp z) (by omega))⟩, (vp_of (i := ((Int32.ofInt (64)) + i)) (n := 128) (by omega) (by omega))⟩, (vp_of (i := i) (n := 128) (by omega) (by omega))⟩
    rw [na, vcq_step, ← nj] at t2
    obtain ⟨i', z⟩ := vh_cpL64 l c h hN m (i + Int32.ofInt (1)) (by omega) (by omega)
    exact ⟨i', t2.tr z⟩
set_option maxRecDepth 100000 in
set_option maxHeartbeats 2000000 in
theorem vh_cp64 (l : Launch) (c : Nat) (h : XH) (hN : True ∧ True ∧ True ∧ xN h = 153 ∧ xU h = 6051) : CX l 0 0 false 174 [xf 10128 c, xi (Int32.ofInt (64))] h [] (vcq h c 64 64) := by
  have t3 : XT l 0 0 false 174 153 6051 0 [xf 10128 c, xi (Int32.ofInt (64)), xun] [] h 2 [xf 10128 c, xi (Int32.ofInt (64)), xi (Int32.ofInt (0))] [] h := XT_path (l := l) (fr := 0) (lo := 0) (full := false) (M := 174) (n := 153) (u := 6051) (pc := 0) (L := [xf 10128 c, xi (Int32.ofInt (64)), xun]) (st := []) (h := h) (inl := []) (n' := 80) (sp := [2]) (o := []) rfl rfl ⟨rfl, rfl, rfl⟩ rfl ⟨Nat.le_of_eq hN.2.2.2.1, Nat.le_of_eq hN.2.2.2.2⟩ trivial
  obtain ⟨i', z⟩ := vh_cpL64 l c h hN 64 (Int32.ofInt (0)) (by decide) (by decide)
  rw [show (Int32.ofInt (0)).toNatClampNeg = 0 from rfl, vcq_0] at z
  exact CX_ofT (h' := (vcq h c 64 64)) (by decide) rfl rfl trivial ⟨_, _, _, rfl, rfl, rfl⟩ rfl ⟨Nat.le_of_eq hN.2.2.2.1.symm, Nat.le_of_eq hN.2.2.2.2.symm⟩ (t3.tr z)
/-- a slot of relations, written so that their guards fail -/
def svac (c k : Nat) (v : Int) : SRl → Bool
  | .inl r => !stch [(c, k, false)] (.inl r) || r.1.any (fun q => (Nat.beq q.1 c && Nat.beq q.2.1 k) && (decide (v < q.2.2.1) || decide (q.2.2.2 < v)))
  | .inr r => !stch [(c, k, false)] (.inr r)
theorem srw_vac {h : XH} (hr : srw vR [] h) {c k : Nat} {v : Int32} (hv : vR.all (svac c k v.toInt) = true) : srw vR [] (xsetI h c k v) := by
  have h1 : srw vR ([(c, k, false)] ++ []) (xsetI h c k v) := srw_frame hr (fun c' k' hc => yI_ne (eq_false (swin1 hc)))
  intro r hr' _
  have y := List.all_eq_true.mp hv r hr'
  cases ht : stch [(c, k, false)] r with
  | false => exact h1 r hr' ht
  | true =>
    cases r with
    | inr r =>
      have y : (!stch [(c, k, false)] (.inr r)) = true := y
      rw [ht] at y
      cases y
    | inl r =>
      have y : (!stch [(c, k, false)] (.inl r) || r.1.any (fun q => (Nat.beq q.1 c && Nat.beq q.2.1 k) && (decide (v.toInt < q.2.2.1) || decide (q.2.2.2 < v.toInt)))) = true := y
      rw [ht] at y
      obtain ⟨q, hq, hz⟩ := List.any_eq_true.mp (show r.1.any _ = true from y)
      intro hall
      exfalso
      have hb := hall q hq
      rw [Bool.and_eq_true, Bool.and_eq_true, Bool.or_eq_true] at hz
      unfold sqin at hb
      rw [Nat.eq_of_beq_eq_true hz.1.1, Nat.eq_of_beq_eq_true hz.1.2, yI_same] at hb
      rcases hz.2 with z | z
      · have := of_decide_eq_true z
        omega
      · have := of_decide_eq_true z
        omega
theorem vsv {W : SW} {h h' : XH} (a : vG W h h') {k : Nat} {v : Int32} (hv : (vI 104 k).1 ≤ v.toInt ∧ v.toInt ≤ (vI 104 k).2) (hr : vR.all (svac 104 k v.toInt) = true) (hw : swin W.1 104 k = true) : vG W h (xsetI h' 104 k v) := by
  refine ⟨⟨sinv_setI a.1.1 hv, srw_vac a.1.2.1 hr, vE_fr h' _ (fun c' k' hck => ?_) a.1.2.2.1, a.1.2.2.2⟩, a.2.tr (sframe_set hw)⟩
  have hc : ¬ c' = 104 := fun z => by
    rw [z, vEC_no vEC104] at hck
    cases hck
  exact yI_c (eq_false hc)
set_option maxRecDepth 100000 in
set_option maxHeartbeats 2000000 in
theorem vh_plain (l : Launch) (h : XH) (hg : sgood vT vR vE 153 6051 h) : ∃ h', CX l 0 0 false 172 [xf 13 104] h [] h' ∧ vG ([(104, 17, false), (104, 18, false), (104, 19, false), (104, 20, false), (104, 21, false), (104, 49, false), (107, 0, true), (108, 0, true), (123, 0, true)], []) h h' ∧ vLn h' := by
  have t1 : XT l 0 0 false 172 153 6051 0 [xf 13 104, xun] [] h 37 [xf 13 104, xun] [] (xsetI (xsetI (xsetI (xsetI (xsetI (xsetI (xsetI h 104 17 (Int32.ofInt (0))) 104 18 (Int32.ofInt (0))) 104 19 (Int32.ofInt (0))) 104 20 (Int32.ofInt (0))) 104 21 (Int32.ofInt (0))) 104 49 (Int32.ofInt (0))) (xR h 104 22) ((Int32.ofInt (0))).toNatClampNeg (vp_nar .boolean (Int32.ofInt (0)))) := XT_path (l := l) (fr := 0) (lo := 0) (full := false) (M := 172) (n := 153) (u := 6051) (pc := 0) (L := [xf 13 104, xun]) (st := []) (h := h) (inl := []) (n' := 200) (sp := [37]) (o := []) rfl rfl ⟨rfl, rfl, rfl⟩ rfl ⟨Nat.le_of_eq hg.2.2.2.1, Nat.le_of_eq hg.2.2.2.2⟩ ⟨⟨trivial, (vnn hg.1 (rfl : vRf 104 22 = [107]) (by decide))⟩, (vp_of (i := (Int32.ofInt (0))) (n := 1) (by decide) (by decide))⟩
  rw [vref hg.1 (rfl : vRf 104 22 = [107])] at t1
  have t2 : XT l 0 0 false 172 153 6051 37 [xf 13 104, xun] [] (xsetI (xsetI (xsetI (xsetI (xsetI (xsetI (xsetI h 104 17 (Int32.ofInt (0))) 104 18 (Int32.ofInt (0))) 104 19 (Int32.ofInt (0))) 104 20 (Int32.ofInt (0))) 104 21 (Int32.ofInt (0))) 104 49 (Int32.ofInt (0))) 107 ((Int32.ofInt (0))).toNatClampNeg (vp_nar .boolean (Int32.ofInt (0)))) 44 [xf 13 104, xun] [] (xsetI (xsetI (xsetI (xsetI (xsetI (xsetI (xsetI (xsetI h 104 17 (Int32.ofInt (0))) 104 18 (Int32.ofInt (0))) 104 19 (Int32.ofInt (0))) 104 20 (Int32.ofInt (0))) 104 21 (Int32.ofInt (0))) 104 49 (Int32.ofInt (0))) 107 ((Int32.ofInt (0))).toNatClampNeg (vp_nar .boolean (Int32.ofInt (0)))) (xR h 104 23) ((Int32.ofInt (1))).toNatClampNeg (Int32.ofInt (2))) := XT_path (l := l) (fr := 0) (lo := 0) (full := false) (M := 172) (n := 153) (u := 6051) (pc := 37) (L := [xf 13 104, xun]) (st := []) (h := (xsetI (xsetI (xsetI (xsetI (xsetI (xsetI (xsetI h 104 17 (Int32.ofInt (0))) 104 18 (Int32.ofInt (0))) 104 19 (Int32.ofInt (0))) 104 20 (Int32.ofInt (0))) 104 21 (Int32.ofInt (0))) 104 49 (Int32.ofInt (0))) 107 ((Int32.ofInt (0))).toNatClampNeg (vp_nar .boolean (Int32.ofInt (0))))) (inl := []) (n' := 200) (sp := [44]) (o := []) rfl rfl ⟨rfl, rfl, rfl⟩ rfl ⟨Nat.le_of_eq hg.2.2.2.1, Nat.le_of_eq hg.2.2.2.2⟩ ⟨⟨trivial, (vnn hg.1 (rfl : vRf 104 23 = [108]) (by decide))⟩, (vp_of (i := (Int32.ofInt (1))) (n := 2) (by decide) (by decide))⟩
  rw [vref hg.1 (rfl : vRf 104 23 = [108])] at t2
  have t3 := t1.tr t2
  have t4 : XT l 0 0 false 172 153 6051 44 [xf 13 104, xun] [] (xsetI (xsetI (xsetI (xsetI (xsetI (xsetI (xsetI (xsetI h 104 17 (Int32.ofInt (0))) 104 18 (Int32.ofInt (0))) 104 19 (Int32.ofInt (0))) 104 20 (Int32.ofInt (0))) 104 21 (Int32.ofInt (0))) 104 49 (Int32.ofInt (0))) 107 ((Int32.ofInt (0))).toNatClampNeg (vp_nar .boolean (Int32.ofInt (0)))) 108 ((Int32.ofInt (1))).toNatClampNeg (Int32.ofInt (2))) 59 [xf 13 104, xi (Int32.ofInt (3))] [] (xsetI (xsetI (xsetI (xsetI (xsetI (xsetI (xsetI (xsetI (xsetI h 104 17 (Int32.ofInt (0))) 104 18 (Int32.ofInt (0))) 104 19 (Int32.ofInt (0))) 104 20 (Int32.ofInt (0))) 104 21 (Int32.ofInt (0))) 104 49 (Int32.ofInt (0))) 107 ((Int32.ofInt (0))).toNatClampNeg (vp_nar .boolean (Int32.ofInt (0)))) 108 ((Int32.ofInt (1))).toNatClampNeg (Int32.ofInt (2))) (xR h 104 38) ((Int32.ofInt (3))).toNatClampNeg (vp_nar .boolean (Int32.ofInt (0)))) := XT_path (l := l) (fr := 0) (lo := 0) (full := false) (M := 172) (n := 153) (u := 6051) (pc := 44) (L := [xf 13 104, xun]) (st := []) (h := (xsetI (xsetI (xsetI (xsetI (xsetI (xsetI (xsetI (xsetI h 104 17 (Int32.ofInt (0))) 104 18 (Int32.ofInt (0))) 104 19 (Int32.ofInt (0))) 104 20 (Int32.ofInt (0))) 104 21 (Int32.ofInt (0))) 104 49 (Int32.ofInt (0))) 107 ((Int32.ofInt (0))).toNatClampNeg (vp_nar .boolean (Int32.ofInt (0)))) 108 ((Int32.ofInt (1))).toNatClampNeg (Int32.ofInt (2)))) (inl := []) (n' := 200) (sp := [59]) (o := [0]) rfl rfl ⟨rfl, rfl, rfl⟩ rfl ⟨Nat.le_of_eq hg.2.2.2.1, Nat.le_of_eq hg.2.2.2.2⟩ ⟨⟨⟨trivial, (by decide)⟩, (vnn hg.1 (rfl : vRf 104 38 = [123]) (by decide))⟩, (vp_of (i := (Int32.ofInt (3))) (n := 6) (by decide) (by decide))⟩
  rw [vref hg.1 (rfl : vRf 104 38 = [123])] at t4
  have t5 := t3.tr t4
  have t6 : XT l 0 0 false 172 153 6051 59 [xf 13 104, xi (Int32.ofInt (3))] [] (xsetI (xsetI (xsetI (xsetI (xsetI (xsetI (xsetI (xsetI (xsetI h 104 17 (Int32.ofInt (0))) 104 18 (Int32.ofInt (0))) 104 19 (Int32.ofInt (0))) 104 20 (Int32.ofInt (0))) 104 21 (Int32.ofInt (0))) 104 49 (Int32.ofInt (0))) 107 ((Int32.ofInt (0))).toNatClampNeg (vp_nar .boolean (Int32.ofInt (0)))) 108 ((Int32.ofInt (1))).toNatClampNeg (Int32.ofInt (2))) 123 ((Int32.ofInt (3))).toNatClampNeg (vp_nar .boolean (Int32.ofInt (0)))) 59 [xf 13 104, xi ((Int32.ofInt (3)) + Int32.ofInt (1))] [] (xsetI (xsetI (xsetI (xsetI (xsetI (xsetI (xsetI (xsetI (xsetI (xsetI h 104 17 (Int32.ofInt (0))) 104 18 (Int32.ofInt (0))) 104 19 (Int32.ofInt (0))) 104 20 (Int32.ofInt (0))) 104 21 (Int32.ofInt (0))) 104 49 (Int32.ofInt (0))) 107 ((Int32.ofInt (0))).toNatClampNeg (vp_nar .boolean (Int32.ofInt (0)))) 108 ((Int32.ofInt (1))).toNatClampNeg (Int32.ofInt (2))) 123 ((Int32.ofInt (3))).toNatClampNeg (vp_nar .boolean (Int32.ofInt (0)))) (xR h 104 38) (((Int32.ofInt (3)) + Int32.ofInt (1))).toNatClampNeg (vp_nar .boolean (Int32.ofInt (0)))) := XT_path (l := l) (fr := 0) (lo := 0) (full := false) (M := 172) (n := 153) (u := 6051) (pc := 59) (L := [xf 13 104, xi (Int32.ofInt (3))]) (st := []) (h := (xsetI (xsetI (xsetI (xsetI (xsetI (xsetI (xsetI (xsetI (xsetI h 104 17 (Int32.ofInt (0))) 104 18 (Int32.ofInt (0))) 104 19 (Int32.ofInt (0))) 104 20 (Int32.ofInt (0))) 104 21 (Int32.ofInt (0))) 104 49 (Int32.ofInt (0))) 107 ((Int32.ofInt (0))).toNatClampNeg (vp_nar .boolean (Int32.ofInt (0)))) 108 ((Int32.ofInt (1))).toNatClampNeg (Int32.ofInt (2))) 123 ((Int32.ofInt (3))).toNatClampNeg (vp_nar .boolean (Int32.ofInt (0))))) (inl := []) (n' := 200) (sp := [59]) (o := [0]) rfl rfl ⟨rfl, rfl, rfl⟩ rfl ⟨Nat.le_of_eq hg.2.2.2.1, Nat.le_of_eq hg.2.2.2.2⟩ ⟨⟨⟨trivial, (by decide)⟩, (vnn hg.1 (rfl : vRf 104 38 = [123]) (by decide))⟩, (vp_of (i := ((Int32.ofInt (3)) + Int32.ofInt (1))) (n := 6) (by decide) (by decide))⟩
  rw [vref hg.1 (rfl : vRf 104 38 = [123])] at t6
  have t7 := t5.tr t6
  have t8 : XT l 0 0 false 172 153 6051 59 [xf 13 104, xi ((Int32.ofInt (3)) + Int32.ofInt (1))] [] (xsetI (xsetI (xsetI (xsetI (xsetI (xsetI (xsetI (xsetI (xsetI (xsetI h 104 17 (Int32.ofInt (0))) 104 18 (Int32.ofInt (0))) 104 19 (Int32.ofInt (0))) 104 20 (Int32.ofInt (0))) 104 21 (Int32.ofInt (0))) 104 49 (Int32.ofInt (0))) 107 ((Int32.ofInt (0))).toNatClampNeg (vp_nar .boolean (Int32.ofInt (0)))) 108 ((Int32.ofInt (1))).toNatClampNeg (Int32.ofInt (2))) 123 ((Int32.ofInt (3))).toNatClampNeg (vp_nar .boolean (Int32.ofInt (0)))) 123 (((Int32.ofInt (3)) + Int32.ofInt (1))).toNatClampNeg (vp_nar .boolean (Int32.ofInt (0)))) 59 [xf 13 104, xi (((Int32.ofInt (3)) + Int32.ofInt (1)) + Int32.ofInt (1))] [] (xsetI (xsetI (xsetI (xsetI (xsetI (xsetI (xsetI (xsetI (xsetI (xsetI (xsetI h 104 17 (Int32.ofInt (0))) 104 18 (Int32.ofInt (0))) 104 19 (Int32.ofInt (0))) 104 20 (Int32.ofInt (0))) 104 21 (Int32.ofInt (0))) 104 49 (Int32.ofInt (0))) 107 ((Int32.ofInt (0))).toNatClampNeg (vp_nar .boolean (Int32.ofInt (0)))) 108 ((Int32.ofInt (1))).toNatClampNeg (Int32.ofInt (2))) 123 ((Int32.ofInt (3))).toNatClampNeg (vp_nar .boolean (Int32.ofInt (0)))) 123 (((Int32.ofInt (3)) + Int32.ofInt (1))).toNatClampNeg (vp_nar .boolean (Int32.ofInt (0)))) (xR h 104 38) ((((Int32.ofInt (3)) + Int32.ofInt (1)) + Int32.ofInt (1))).toNatClampNeg (vp_nar .boolean (Int32.ofInt (0)))) := XT_path (l := l) (fr := 0) (lo := 0) (full := false) (M := 172) (n := 153) (u := 6051) (pc := 59) (L := [xf 13 104, xi ((Int32.ofInt (3)) + Int32.ofInt (1))]) (st := []) (h := (xsetI (xsetI (xsetI (xsetI (xsetI (xsetI (xsetI (xsetI (xsetI (xsetI h 104 17 (Int32.ofInt (0))) 104 18 (Int32.ofInt (0))) 104 19 (Int32.ofInt (0))) 104 20 (Int32.ofInt (0))) 104 21 (Int32.ofInt (0))) 104 49 (Int32.ofInt (0))) 107 ((Int32.ofInt (0))).toNatClampNeg (vp_nar .boolean (Int32.ofInt (0)))) 108 ((Int32.ofInt (1))).toNatClampNeg (Int32.ofInt (2))) 123 ((Int32.ofInt (3))).toNatClampNeg (vp_nar .boolean (Int32.ofInt (0)))) 123 (((Int32.ofInt (3)) + Int32.ofInt (1))).toNatClampNeg (vp_nar .boolean (Int32.ofInt (0))))) (inl := []) (n' := 200) (sp := [59]) (o := [0]) rfl rfl ⟨rfl, rfl, rfl⟩ rfl ⟨Nat.le_of_eq hg.2.2.2.1, Nat.le_of_eq hg.2.2.2.2⟩ ⟨⟨⟨trivial, (by decide)⟩, (vnn hg.1 (rfl : vRf 104 38 = [123]) (by decide))⟩, (vp_of (i := (((Int32.ofInt (3)) + Int32.ofInt (1)) + Int32.ofInt (1))) (n := 6) (by decide) (by decide))⟩
  rw [vref hg.1 (rfl : vRf 104 38 = [123])] at t8
  have t9 := t7.tr t8
  have t10 : XT l 0 0 false 172 153 6051 59 [xf 13 104, xi (((Int32.ofInt (3)) + Int32.ofInt (1)) + Int32.ofInt (1))] [] (xsetI (xsetI (xsetI (xsetI (xsetI (xsetI (xsetI (xsetI (xsetI (xsetI (xsetI h 104 17 (Int32.ofInt (0))) 104 18 (Int32.ofInt (0))) 104 19 (Int32.ofInt (0))) 104 20 (Int32.ofInt (0))) 104 21 (Int32.ofInt (0))) 104 49 (Int32.ofInt (0))) 107 ((Int32.ofInt (0))).toNatClampNeg (vp_nar .boolean (Int32.ofInt (0)))) 108 ((Int32.ofInt (1))).toNatClampNeg (Int32.ofInt (2))) 123 ((Int32.ofInt (3))).toNatClampNeg (vp_nar .boolean (Int32.ofInt (0)))) 123 (((Int32.ofInt (3)) + Int32.ofInt (1))).toNatClampNeg (vp_nar .boolean (Int32.ofInt (0)))) 123 ((((Int32.ofInt (3)) + Int32.ofInt (1)) + Int32.ofInt (1))).toNatClampNeg (vp_nar .boolean (Int32.ofInt (0)))) 65 [xf 13 104, xi ((((Int32.ofInt (3)) + Int32.ofInt (1)) + Int32.ofInt (1)) + Int32.ofInt (1))] [] (xsetI (xsetI (xsetI (xsetI (xsetI (xsetI (xsetI (xsetI (xsetI (xsetI (xsetI h 104 17 (Int32.ofInt (0))) 104 18 (Int32.ofInt (0))) 104 19 (Int32.ofInt (0))) 104 20 (Int32.ofInt (0))) 104 21 (Int32.ofInt (0))) 104 49 (Int32.ofInt (0))) 107 ((Int32.ofInt (0))).toNatClampNeg (vp_nar .boolean (Int32.ofInt (0)))) 108 ((Int32.ofInt (1))).toNatClampNeg (Int32.ofInt (2))) 123 ((Int32.ofInt (3))).toNatClampNeg (vp_nar .boolean (Int32.ofInt (0)))) 123 (((Int32.ofInt (3)) + Int32.ofInt (1))).toNatClampNeg (vp_nar .boolean (Int32.ofInt (0)))) 123 ((((Int32.ofInt (3)) + Int32.ofInt (1)) + Int32.ofInt (1))).toNatClampNeg (vp_nar .boolean (Int32.ofInt (0)))) := XT_path (l := l) (fr := 0) (lo := 0) (full := false) (M := 172) (n := 153) (u := 6051) (pc := 59) (L := [xf 13 104, xi (((Int32.ofInt (3)) + Int32.ofInt (1)) + Int32.ofInt (1))]) (st := []) (h := (xsetI (xsetI (xsetI (xsetI (xsetI (xsetI (xsetI (xsetI (xsetI (xsetI (xsetI h 104 17 (Int32.ofInt (0))) 104 18 (Int32.ofInt (0))) 104 19 (Int32.ofInt (0))) 104 20 (Int32.ofInt (0))) 104 21 (Int32.ofInt (0))) 104 49 (Int32.ofInt (0))) 107 ((Int32.ofInt (0))).toNatClampNeg (vp_nar .boolean (Int32.ofInt (0)))) 108 ((Int32.ofInt (1))).toNatClampNeg (Int32.ofInt (2))) 123 ((Int32.ofInt (3))).toNatClampNeg (vp_nar .boolean (Int32.ofInt (0)))) 123 (((Int32.ofInt (3)) + Int32.ofInt (1))).toNatClampNeg (vp_nar .boolean (Int32.ofInt (0)))) 123 ((((Int32.ofInt (3)) + Int32.ofInt (1)) + Int32.ofInt (1))).toNatClampNeg (vp_nar .boolean (Int32.ofInt (0))))) (inl := []) (n' := 200) (sp := [65]) (o := [1]) rfl rfl ⟨rfl, rfl, rfl⟩ rfl ⟨Nat.le_of_eq hg.2.2.2.1, Nat.le_of_eq hg.2.2.2.2⟩ ⟨trivial, (by decide)⟩
  have t11 := t9.tr t10
  have g0 : vG ([(104, 17, false), (104, 18, false), (104, 19, false), (104, 20, false), (104, 21, false), (104, 49, false), (107, 0, true), (108, 0, true), (123, 0, true)], []) h h := vG.rf hg
  have g1 : vG ([(104, 17, false), (104, 18, false), (104, 19, false), (104, 20, false), (104, 21, false), (104, 49, false), (107, 0, true), (108, 0, true), (123, 0, true)], []) h (xsetI h 104 17 (Int32.ofInt (0))) := vsv g0 (by decide) (by decide +kernel) rfl
  have g2 : vG ([(104, 17, false), (104, 18, false), (104, 19, false), (104, 20, false), (104, 21, false), (104, 49, false), (107, 0, true), (108, 0, true), (123, 0, true)], []) h (xsetI (xsetI h 104 17 (Int32.ofInt (0))) 104 18 (Int32.ofInt (0))) := g1.set (by decide) (by decide +kernel) vEC104 rfl
  have g3 : vG ([(104, 17, false), (104, 18, false), (104, 19, false), (104, 20, false), (104, 21, false), (104, 49, false), (107, 0, true), (108, 0, true), (123, 0, true)], []) h (xsetI (xsetI (xsetI h 104 17 (Int32.ofInt (0))) 104 18 (Int32.ofInt (0))) 104 19 (Int32.ofInt (0))) := vsv g2 (by decide) (by decide +kernel) rfl
  have g4 : vG ([(104, 17, false), (104, 18, false), (104, 19, false), (104, 20, false), (104, 21, false), (104, 49, false), (107, 0, true), (108, 0, true), (123, 0, true)], []) h (xsetI (xsetI (xsetI (xsetI h 104 17 (Int32.ofInt (0))) 104 18 (Int32.ofInt (0))) 104 19 (Int32.ofInt (0))) 104 20 (Int32.ofInt (0))) := vsv g3 (by decide) (by decide +kernel) rfl
  have g5 : vG ([(104, 17, false), (104, 18, false), (104, 19, false), (104, 20, false), (104, 21, false), (104, 49, false), (107, 0, true), (108, 0, true), (123, 0, true)], []) h (xsetI (xsetI (xsetI (xsetI (xsetI h 104 17 (Int32.ofInt (0))) 104 18 (Int32.ofInt (0))) 104 19 (Int32.ofInt (0))) 104 20 (Int32.ofInt (0))) 104 21 (Int32.ofInt (0))) := g4.set (by decide) (by decide +kernel) vEC104 rfl
  have g6 : vG ([(104, 17, false), (104, 18, false), (104, 19, false), (104, 20, false), (104, 21, false), (104, 49, false), (107, 0, true), (108, 0, true), (123, 0, true)], []) h (xsetI (xsetI (xsetI (xsetI (xsetI (xsetI h 104 17 (Int32.ofInt (0))) 104 18 (Int32.ofInt (0))) 104 19 (Int32.ofInt (0))) 104 20 (Int32.ofInt (0))) 104 21 (Int32.ofInt (0))) 104 49 (Int32.ofInt (0))) := g5.set (by decide) (by decide +kernel) vEC104 rfl
  have g7 : vG ([(104, 17, false), (104, 18, false), (104, 19, false), (104, 20, false), (104, 21, false), (104, 49, false), (107, 0, true), (108, 0, true), (123, 0, true)], []) h (xsetI (xsetI (xsetI (xsetI (xsetI (xsetI (xsetI h 104 17 (Int32.ofInt (0))) 104 18 (Int32.ofInt (0))) 104 19 (Int32.ofInt (0))) 104 20 (Int32.ofInt (0))) 104 21 (Int32.ofInt (0))) 104 49 (Int32.ofInt (0))) 107 ((Int32.ofInt (0))).toNatClampNeg (vp_nar .boolean (Int32.ofInt (0)))) := g6.set (by rw [vI_u rfl (rfl : vRow 107 = (0, 1))]; decide) (stou_no (by decide +kernel)) (by decide +kernel) rfl
  have g8 : vG ([(104, 17, false), (104, 18, false), (104, 19, false), (104, 20, false), (104, 21, false), (104, 49, false), (107, 0, true), (108, 0, true), (123, 0, true)], []) h (xsetI (xsetI (xsetI (xsetI (xsetI (xsetI (xsetI (xsetI h 104 17 (Int32.ofInt (0))) 104 18 (Int32.ofInt (0))) 104 19 (Int32.ofInt (0))) 104 20 (Int32.ofInt (0))) 104 21 (Int32.ofInt (0))) 104 49 (Int32.ofInt (0))) 107 ((Int32.ofInt (0))).toNatClampNeg (vp_nar .boolean (Int32.ofInt (0)))) 108 ((Int32.ofInt (1))).toNatClampNeg (Int32.ofInt (2))) := g7.set (by rw [vI_u rfl (rfl : vRow 108 = (0, 8))]; decide) (stou_no (by decide +kernel)) (by decide +kernel) rfl
  have g9 : vG ([(104, 17, false), (104, 18, false), (104, 19, false), (104, 20, false), (104, 21, false), (104, 49, false), (107, 0, true), (108, 0, true), (123, 0, true)], []) h (xsetI (xsetI (xsetI (xsetI (xsetI (xsetI (xsetI (xsetI (xsetI h 104 17 (Int32.ofInt (0))) 104 18 (Int32.ofInt (0))) 104 19 (Int32.ofInt (0))) 104 20 (Int32.ofInt (0))) 104 21 (Int32.ofInt (0))) 104 49 (Int32.ofInt (0))) 107 ((Int32.ofInt (0))).toNatClampNeg (vp_nar .boolean (Int32.ofInt (0)))) 108 ((Int32.ofInt (1))).toNatClampNeg (Int32.ofInt (2))) 123 ((Int32.ofInt (3))).toNatClampNeg (vp_nar .boolean (Int32.ofInt (0)))) := vsK g8 (Or.inr ⟨by decide, by decide, by decide⟩) (by rw [vI_u rfl (rfl : vRow 123 = (0, 1))]; decide) (stou_no (by decide +kernel)) rfl
  have g10 : vG ([(104, 17, false), (104, 18, false), (104, 19, false), (104, 20, false), (104, 21, false), (104, 49, false), (107, 0, true), (108, 0, true), (123, 0, true)], []) h (xsetI (xsetI (xsetI (xsetI (xsetI (xsetI (xsetI (xsetI (xsetI (xsetI h 104 17 (Int32.ofInt (0))) 104 18 (Int32.ofInt (0))) 104 19 (Int32.ofInt (0))) 104 20 (Int32.ofInt (0))) 104 21 (Int32.ofInt (0))) 104 49 (Int32.ofInt (0))) 107 ((Int32.ofInt (0))).toNatClampNeg (vp_nar .boolean (Int32.ofInt (0)))) 108 ((Int32.ofInt (1))).toNatClampNeg (Int32.ofInt (2))) 123 ((Int32.ofInt (3))).toNatClampNeg (vp_nar .boolean (Int32.ofInt (0)))) 123 (((Int32.ofInt (3)) + Int32.ofInt (1))).toNatClampNeg (vp_nar .boolean (Int32.ofInt (0)))) := vsK g9 (Or.inr ⟨by decide, by decide, by decide⟩) (by rw [vI_u rfl (rfl : vRow 123 = (0, 1))]; decide) (stou_no (by decide +kernel)) rfl
  have g11 : vG ([(104, 17, false), (104, 18, false), (104, 19, false), (104, 20, false), (104, 21, false), (104, 49, false), (107, 0, true), (108, 0, true), (123, 0, true)], []) h (xsetI (xsetI (xsetI (xsetI (xsetI (xsetI (xsetI (xsetI (xsetI (xsetI (xsetI h 104 17 (Int32.ofInt (0))) 104 18 (Int32.ofInt (0))) 104 19 (Int32.ofInt (0))) 104 20 (Int32.ofInt (0))) 104 21 (Int32.ofInt (0))) 104 49 (Int32.ofInt (0))) 107 ((Int32.ofInt (0))).toNatClampNeg (vp_nar .boolean (Int32.ofInt (0)))) 108 ((Int32.ofInt (1))).toNatClampNeg (Int32.ofInt (2))) 123 ((Int32.ofInt (3))).toNatClampNeg (vp_nar .boolean (Int32.ofInt (0)))) 123 (((Int32.ofInt (3)) + Int32.ofInt (1))).toNatClampNeg (vp_nar .boolean (Int32.ofInt (0)))) 123 ((((Int32.ofInt (3)) + Int32.ofInt (1)) + Int32.ofInt (1))).toNatClampNeg (vp_nar .boolean (Int32.ofInt (0)))) := vsK g10 (Or.inr ⟨by decide, by decide, by decide⟩) (by rw [vI_u rfl (rfl : vRow 123 = (0, 1))]; decide) (stou_no (by decide +kernel)) rfl
  refine ⟨_, CX_ofT (h' := (xsetI (xsetI (xsetI (xsetI (xsetI (xsetI (xsetI (xsetI (xsetI (xsetI (xsetI h 104 17 (Int32.ofInt (0))) 104 18 (Int32.ofInt (0))) 104 19 (Int32.ofInt (0))) 104 20 (Int32.ofInt (0))) 104 21 (Int32.ofInt (0))) 104 49 (Int32.ofInt (0))) 107 ((Int32.ofInt (0))).toNatClampNeg (vp_nar .boolean (Int32.ofInt (0)))) 108 ((Int32.ofInt (1))).toNatClampNeg (Int32.ofInt (2))) 123 ((Int32.ofInt (3))).toNatClampNeg (vp_nar .boolean (Int32.ofInt (0)))) 123 (((Int32.ofInt (3)) + Int32.ofInt (1))).toNatClampNeg (vp_nar .boolean (Int32.ofInt (0)))) 123 ((((Int32.ofInt (3)) + Int32.ofInt (1)) + Int32.ofInt (1))).toNatClampNeg (vp_nar .boolean (Int32.ofInt (0))))) (by decide) rfl rfl trivial ⟨_, _, _, rfl, rfl, rfl⟩ rfl ⟨Nat.le_of_eq hg.2.2.2.1.symm, Nat.le_of_eq hg.2.2.2.2.symm⟩ t11, g11, fun w w1 w2 e => ?_, ?_⟩
  · exfalso
    rcases (by omega : w = 3 ∨ w = 4 ∨ w = 5) with rfl | rfl | rfl
    · exact absurd (show (Int32.ofInt (0)).toInt = 1 from e) (by decide)
    · exact absurd (show (Int32.ofInt (0)).toInt = 1 from e) (by decide)
    · exact absurd (show (Int32.ofInt (0)).toInt = 1 from e) (by decide)
  · show (Int32.ofInt (0)).toInt ≤ (Int32.ofInt (0)).toInt
    decide
theorem v133 : ∀ k, k < 6 → vI 133 k = (0, 9) := by decide +kernel
theorem vset135G {W : SW} {h h' : XH} (a : vG W h h') {k : Nat} {v : Int32} (hv : 0 ≤ v.toInt ∧ v.toInt ≤ 5) (hz : vz h' v) (hw : ∀ k, swin W.1 135 k = true) : vG W h (xsetI h' 135 k v) := ⟨vset135 a.1 hv hz, a.2.tr (sframe_set (hw k))⟩
set_option maxRecDepth 100000 in
set_option maxHeartbeats 2000000 in
theorem vh_firstA (l : Launch) (h : XH) : ∀ (m : Nat) (i : Int32) (h' : XH), vG ([(104, 63, false), (104, 64, false), (104, 72, false), (104, 73, false), (104, 76, false), (104, 78, false), (133, 0, true), (134, 0, true), (135, 0, true), (136, 0, true), (137, 0, true), (138, 0, true)], []) h h' → 0 ≤ i.toInt → i.toInt + m = 6 → ∃ i' h'', XT l 0 0 false 176 153 6051 2 [xf 13 104, xi (Int32.ofInt (0)), xi i] [] h' 43 [xf 13 104, xi (Int32.ofInt (0)), xi i'] [] h'' ∧ vG ([(104, 63, false), (104, 64, false), (104, 72, false), (104, 73, false), (104, 76, false), (104, 78, false), (133, 0, true), (134, 0, true), (135, 0, true), (136, 0, true), (137, 0, true), (138, 0, true)], []) h h''
  | 0, i, h', G, a1, a2 => by
    have en : (Int32.ofInt (6)).toInt = 6 := rfl
    have t1 : XT l 0 0 false 176 153 6051 2 [xf 13 104, xi (Int32.ofInt (0)), xi i] [] h' 43 [xf 13 104, xi (Int32.ofInt (0)), xi i] [] h' := XT_path (l := l) (fr := 0) (lo := 0) (full := false) (M := 176) (n := 153) (u := 6051) (pc := 2) (L := [xf 13 104, xi (Int32.ofInt (0)), xi i]) (st := []) (h := h') (inl := []) (n' := 80) (sp := [43]) (o := [1]) rfl rfl ⟨rfl, rfl, rfl⟩ rfl ⟨Nat.le_of_eq G.1.2.2.2.1, Nat.le_of_eq G.1.2.2.2.2⟩ ⟨trivial, (Int32.le_iff_toInt_le.mpr (by omega))⟩
    exact ⟨i, h', t1, G⟩
  | m + 1, i, h', G, a1, a2 => by
    have en : (Int32.ofInt (6)).toInt = 6 := rfl
    have e0 : ((Int32.ofInt (6)) * (Int32.ofInt (0))).toInt = 0 := rfl
    have ei : (((Int32.ofInt (6)) * (Int32.ofInt (0))) + i).toInt = i.toInt := by
      rw [Int32.toInt_add, e0, Int.bmod_eq_of_le (by omega) (by omega)]
      omega
    have ej := y_suc1 a1 (by omega)
    have t2 : XT l 0 0 false 176 153 6051 2 [xf 13 104, xi (Int32.ofInt (0)), xi i] [] h' 25 [xf 13 104, xi (Int32.ofInt (0)), xi i] [] (xsetI h' (xR h' 104 55) ((((Int32.ofInt (6)) * (Int32.ofInt (0))) + i)).toNatClampNeg (xI h' (xR h' 104 25) (i).toNatClampNeg)) := XT_path (l := l) (fr := 0) (lo := 0) (full := false) (M := 176) (n := 153) (u := 6051) (pc := 2) (L := [xf 13 104, xi (Int32.ofInt (0)), xi i]) (st := []) (h := h') (inl := []) (n' := 80) (sp := [25]) (o := [0]) rfl rfl ⟨rfl, rfl, rfl⟩ rfl ⟨Nat.le_of_eq G.1.2.2.2.1, Nat.le_of_eq G.1.2.2.2.2⟩ ⟨⟨⟨⟨⟨trivial, (fun z => absurd (Int32.le_iff_toInt_le.mp z) (by omega))⟩, (vnn G.1.1 (rfl : vRf 104 55 = [133]) (by decide))⟩, (vnn G.1.1 (rfl : vRf 104 25 = [110]) (by decide))⟩, (vp_of (i := i) (n := 12) (by omega) (by omega))⟩, (vp_of (i := (((Int32.ofInt (6)) * (Int32.ofInt (0))) + i)) (n := 12) (by omega) (by omega))⟩
    rw [vref G.1.1 (rfl : vRf 104 55 = [133]), vref G.1.1 (rfl : vRf 104 25 = [110])] at t2
    have t3 : XT l 0 0 false 176 153 6051 25 [xf 13 104, xi (Int32.ofInt (0)), xi i] [] (xsetI h' 133 ((((Int32.ofInt (6)) * (Int32.ofInt (0))) + i)).toNatClampNeg (xI h' 110 (i).toNatClampNeg)) 37 [xf 13 104, xi (Int32.ofInt (0)), xi i] [] (xsetI (xsetI h' 133 ((((Int32.ofInt (6)) * (Int32.ofInt (0))) + i)).toNatClampNeg (xI h' 110 (i).toNatClampNeg)) (xR h' 104 56) ((((Int32.ofInt (6)) * (Int32.ofInt (0))) + i)).toNatClampNeg (Int32.ofInt (0))) := XT_path (l := l) (fr := 0) (lo := 0) (full := false) (M := 176) (n := 153) (u := 6051) (pc := 25) (L := [xf 13 104, xi (Int32.ofInt (0)), xi i]) (st := []) (h := (xsetI h' 133 ((((Int32.ofInt (6)) * (Int32.ofInt (0))) + i)).toNatClampNeg (xI h' 110 (i).toNatClampNeg))) (inl := []) (n' := 80) (sp := [37]) (o := []) rfl rfl ⟨rfl, rfl, rfl⟩ rfl ⟨Nat.le_of_eq G.1.2.2.2.1, Nat.le_of_eq G.1.2.2.2.2⟩ ⟨⟨trivial, (vnn G.1.1 (rfl : vRf 104 56 = [134]) (by decide))⟩, (vp_of (i := (((Int32.ofInt (6)) * (Int32.ofInt (0))) + i)) (n := 12) (by omega) (by omega))⟩
    rw [vref G.1.1 (rfl : vRf 104 56 = [134])] at t3
    have t4 := t2.tr t3
    have t5 : XT l 0 0 false 176 153 6051 37 [xf 13 104, xi (Int32.ofInt (0)), xi i] [] (xsetI (xsetI h' 133 ((((Int32.ofInt (6)) * (Int32.ofInt (0))) + i)).toNatClampNeg (xI h' 110 (i).toNatClampNeg)) 134 ((((Int32.ofInt (6)) * (Int32.ofInt (0))) + i)).toNatClampNeg (Int32.ofInt (0))) 2 [xf 13 104, xi (Int32.ofInt (0)), xi (i + Int32.ofInt (1))] [] (xsetI (xsetI h' 133 ((((Int32.ofInt (6)) * (Int32.ofInt (0))) + i)).toNatClampNeg (xI h' 110 (i).toNatClampNeg)) 134 ((((Int32.ofInt (6)) * (Int32.ofInt (0))) + i)).toNatClampNeg (Int32.ofInt (0))) := XT_path (l := l) (fr := 0) (lo := 0) (full := false) (M := 176) (n := 153) (u := 6051) (pc := 37) (L := [xf 13 104, xi (Int32.ofInt (0)), xi i]) (st := []) (h := (xsetI (xsetI h' 133 ((((Int32.ofInt (6)) * (Int32.ofInt (0))) + i)).toNatClampNeg (xI h' 110 (i).toNatClampNeg)) 134 ((((Int32.ofInt (6)) * (Int32.ofInt (0))) + i)).toNatClampNeg (Int32.ofInt (0)))) (inl := []) (n' := 80) (sp := [2]) (o := []) rfl rfl ⟨rfl, rfl, rfl⟩ rfl ⟨Nat.le_of_eq G.1.2.2.2.1, Nat.le_of_eq G.1.2.2.2.2⟩ trivial
    have t6 := t4.tr t5
    have nx : (((Int32.ofInt (6)) * (Int32.ofInt (0))) + i).toNatClampNeg < 6 := by
      show (((Int32.ofInt (6)) * (Int32.ofInt (0))) + i).toInt.toNat < 6
      omega
    have q1 := vbnd G.1.1 110 i.toNatClampNeg
    rw [show vI 110 i.toNatClampNeg = (0, 9) from vI_u rfl rfl _] at q1
    have q1 : 0 ≤ (xI h' 110 i.toNatClampNeg).toInt ∧ (xI h' 110 i.toNatClampNeg).toInt ≤ 9 := q1
    have G2 : vG ([(104, 63, false), (104, 64, false), (104, 72, false), (104, 73, false), (104, 76, false), (104, 78, false), (133, 0, true), (134, 0, true), (135, 0, true), (136, 0, true), (137, 0, true), (138, 0, true)], []) h (xsetI (xsetI h' 133 ((((Int32.ofInt (6)) * (Int32.ofInt (0))) + i)).toNatClampNeg (xI h' 110 (i).toNatClampNeg)) 134 ((((Int32.ofInt (6)) * (Int32.ofInt (0))) + i)).toNatClampNeg (Int32.ofInt (0))) := ((G.set (by rw [v133 _ nx]; exact q1) (stou_no (by decide +kernel)) (by decide +kernel) rfl).set (by rw [vI_u rfl (rfl : vRow 134 = sfull)]; decide) (stou_no (by decide +kernel)) (by decide +kernel) rfl)
    obtain ⟨i', h2, z1, z2⟩ := vh_firstA l h m (i + Int32.ofInt (1)) _ G2 (by omega) (by omega)
    exact ⟨i', h2, t6.tr z1, z2⟩
set_option maxRecDepth 100000 in
set_option maxHeartbeats 2000000 in
theorem vh_firstB (l : Launch) (h : XH) (hz : ∀ p, p < 8 → vz h (xI h 117 p)) : ∀ (m : Nat) (i : Int32) (h' : XH), vG ([(104, 63, false), (104, 64, false), (104, 72, false), (104, 73, false), (104, 76, false), (104, 78, false), (133, 0, true), (134, 0, true), (135, 0, true), (136, 0, true), (137, 0, true), (138, 0, true)], []) h h' → 0 ≤ i.toInt → i.toInt + m = 8 → ∃ i' h'', XT l 0 0 false 176 153 6051 45 [xf 13 104, xi (Int32.ofInt (0)), xi i] [] h' 99 [xf 13 104, xi (Int32.ofInt (0)), xi i'] [] h'' ∧ vG ([(104, 63, false), (104, 64, false), (104, 72, false), (104, 73, false), (104, 76, false), (104, 78, false), (133, 0, true), (134, 0, true), (135, 0, true), (136, 0, true), (137, 0, true), (138, 0, true)], []) h h''
  | 0, i, h', G, a1, a2 => by
    have en : (Int32.ofInt (8)).toInt = 8 := rfl
    have t7 : XT l 0 0 false 176 153 6051 45 [xf 13 104, xi (Int32.ofInt (0)), xi i] [] h' 99 [xf 13 104, xi (Int32.ofInt (0)), xi i] [] h' := XT_path (l := l) (fr := 0) (lo := 0) (full := false) (M := 176) (n := 153) (u := 6051) (pc := 45) (L := [xf 13 104, xi (Int32.ofInt (0)), xi i]) (st := []) (h := h') (inl := []) (n' := 80) (sp := [99]) (o := [1]) rfl rfl ⟨rfl, rfl, rfl⟩ rfl ⟨Nat.le_of_eq G.1.2.2.2.1, Nat.le_of_eq G.1.2.2.2.2⟩ ⟨trivial, (Int32.le_iff_toInt_le.mpr (by omega))⟩
    exact ⟨i, h', t7, G⟩
  | m + 1, i, h', G, a1, a2 => by
    have en : (Int32.ofInt (8)).toInt = 8 := rfl
    have e0 : ((Int32.ofInt (8)) * (Int32.ofInt (0))).toInt = 0 := rfl
    have ei : (((Int32.ofInt (8)) * (Int32.ofInt (0))) + i).toInt = i.toInt := by
      rw [Int32.toInt_add, e0, Int.bmod_eq_of_le (by omega) (by omega)]
      omega
    have ej := y_suc1 a1 (by omega)
    have t8 : XT l 0 0 false 176 153 6051 45 [xf 13 104, xi (Int32.ofInt (0)), xi i] [] h' 68 [xf 13 104, xi (Int32.ofInt (0)), xi i] [] (xsetI h' (xR h' 104 57) ((((Int32.ofInt (8)) * (Int32.ofInt (0))) + i)).toNatClampNeg (xI h' (xR h' 104 32) (i).toNatClampNeg)) := XT_path (l := l) (fr := 0) (lo := 0) (full := false) (M := 176) (n := 153) (u := 6051) (pc := 45) (L := [xf 13 104, xi (Int32.ofInt (0)), xi i]) (st := []) (h := h') (inl := []) (n' := 80) (sp := [68]) (o := [0]) rfl rfl ⟨rfl, rfl, rfl⟩ rfl ⟨Nat.le_of_eq G.1.2.2.2.1, Nat.le_of_eq G.1.2.2.2.2⟩ ⟨⟨⟨⟨⟨trivial, (fun z => absurd (Int32.le_iff_toInt_le.mp z) (by omega))⟩, (vnn G.1.1 (rfl : vRf 104 57 = [135]) (by decide))⟩, (vnn G.1.1 (rfl : vRf 104 32 = [117]) (by decide))⟩, (vp_of (i := i) (n := 16) (by omega) (by omega))⟩, (vp_of (i := (((Int32.ofInt (8)) * (Int32.ofInt (0))) + i)) (n := 16) (by omega) (by omega))⟩
    rw [vref G.1.1 (rfl : vRf 104 57 = [135]), vref G.1.1 (rfl : vRf 104 32 = [117])] at t8
    have t9 : XT l 0 0 false 176 153 6051 68 [xf 13 104, xi (Int32.ofInt (0)), xi i] [] (xsetI h' 135 ((((Int32.ofInt (8)) * (Int32.ofInt (0))) + i)).toNatClampNeg (xI h' 117 (i).toNatClampNeg)) 81 [xf 13 104, xi (Int32.ofInt (0)), xi i] [] (xsetI (xsetI h' 135 ((((Int32.ofInt (8)) * (Int32.ofInt (0))) + i)).toNatClampNeg (xI h' 117 (i).toNatClampNeg)) (xR h' 104 58) ((((Int32.ofInt (8)) * (Int32.ofInt (0))) + i)).toNatClampNeg (Int32.ofInt (-2))) := XT_path (l := l) (fr := 0) (lo := 0) (full := false) (M := 176) (n := 153) (u := 6051) (pc := 68) (L := [xf 13 104, xi (Int32.ofInt (0)), xi i]) (st := []) (h := (xsetI h' 135 ((((Int32.ofInt (8)) * (Int32.ofInt (0))) + i)).toNatClampNeg (xI h' 117 (i).toNatClampNeg))) (inl := []) (n' := 80) (sp := [81]) (o := []) rfl rfl ⟨rfl, rfl, rfl⟩ rfl ⟨Nat.le_of_eq G.1.2.2.2.1, Nat.le_of_eq G.1.2.2.2.2⟩ ⟨⟨trivial, (vnn G.1.1 (rfl : vRf 104 58 = [136]) (by decide))⟩, (vp_of (i := (((Int32.ofInt (8)) * (Int32.ofInt (0))) + i)) (n := 16) (by omega) (by omega))⟩
    rw [vref G.1.1 (rfl : vRf 104 58 = [136])] at t9
    have t10 := t8.tr t9
    have t11 : XT l 0 0 false 176 153 6051 81 [xf 13 104, xi (Int32.ofInt (0)), xi i] [] (xsetI (xsetI h' 135 ((((Int32.ofInt (8)) * (Int32.ofInt (0))) + i)).toNatClampNeg (xI h' 117 (i).toNatClampNeg)) 136 ((((Int32.ofInt (8)) * (Int32.ofInt (0))) + i)).toNatClampNeg (Int32.ofInt (-2))) 93 [xf 13 104, xi (Int32.ofInt (0)), xi i] [] (xsetI (xsetI (xsetI h' 135 ((((Int32.ofInt (8)) * (Int32.ofInt (0))) + i)).toNatClampNeg (xI h' 117 (i).toNatClampNeg)) 136 ((((Int32.ofInt (8)) * (Int32.ofInt (0))) + i)).toNatClampNeg (Int32.ofInt (-2))) (xR h' 104 59) ((((Int32.ofInt (8)) * (Int32.ofInt (0))) + i)).toNatClampNeg (Int32.ofInt (0))) := XT_path (l := l) (fr := 0) (lo := 0) (full := false) (M := 176) (n := 153) (u := 6051) (pc := 81) (L := [xf 13 104, xi (Int32.ofInt (0)), xi i]) (st := []) (h := (xsetI (xsetI h' 135 ((((Int32.ofInt (8)) * (Int32.ofInt (0))) + i)).toNatClampNeg (xI h' 117 (i).toNatClampNeg)) 136 ((((Int32.ofInt (8)) * (Int32.ofInt (0))) + i)).toNatClampNeg (Int32.ofInt (-2)))) (inl := []) (n' := 80) (sp := [93]) (o := []) rfl rfl ⟨rfl, rfl, rfl⟩ rfl ⟨Nat.le_of_eq G.1.2.2.2.1, Nat.le_of_eq G.1.2.2.2.2⟩ ⟨⟨trivial, (vnn G.1.1 (rfl : vRf 104 59 = [137]) (by decide))⟩, (vp_of (i := (((Int32.ofInt (8)) * (Int32.ofInt (0))) + i)) (n := 16) (by omega) (by omega))⟩
    rw [vref G.1.1 (rfl : vRf 104 59 = [137])] at t11
    have t12 := t10.tr t11
    have t13 : XT l 0 0 false 176 153 6051 93 [xf 13 104, xi (Int32.ofInt (0)), xi i] [] (xsetI (xsetI (xsetI h' 135 ((((Int32.ofInt (8)) * (Int32.ofInt (0))) + i)).toNatClampNeg (xI h' 117 (i).toNatClampNeg)) 136 ((((Int32.ofInt (8)) * (Int32.ofInt (0))) + i)).toNatClampNeg (Int32.ofInt (-2))) 137 ((((Int32.ofInt (8)) * (Int32.ofInt (0))) + i)).toNatClampNeg (Int32.ofInt (0))) 45 [xf 13 104, xi (Int32.ofInt (0)), xi (i + Int32.ofInt (1))] [] (xsetI (xsetI (xsetI h' 135 ((((Int32.ofInt (8)) * (Int32.ofInt (0))) + i)).toNatClampNeg (xI h' 117 (i).toNatClampNeg)) 136 ((((Int32.ofInt (8)) * (Int32.ofInt (0))) + i)).toNatClampNeg (Int32.ofInt (-2))) 137 ((((Int32.ofInt (8)) * (Int32.ofInt (0))) + i)).toNatClampNeg (Int32.ofInt (0))) := XT_path (l := l) (fr := 0) (lo := 0) (full := false) (M := 176) (n := 153) (u := 6051) (pc := 93) (L := [xf 13 104, xi (Int32.ofInt (0)), xi i]) (st := []) (h := (xsetI (xsetI (xsetI h' 135 ((((Int32.ofInt (8)) * (Int32.ofInt (0))) + i)).toNatClampNeg (xI h' 117 (i).toNatClampNeg)) 136 ((((Int32.ofInt (8)) * (Int32.ofInt (0))) + i)).toNatClampNeg (Int32.ofInt (-2))) 137 ((((Int32.ofInt (8)) * (Int32.ofInt (0))) + i)).toNatClampNeg (Int32.ofInt (0)))) (inl := []) (n' := 80) (sp := [45]) (o := []) rfl rfl ⟨rfl, rfl, rfl⟩ rfl ⟨Nat.le_of_eq G.1.2.2.2.1, Nat.le_of_eq G.1.2.2.2.2⟩ trivial
    have t14 := t12.tr t13
    have nn : i.toNatClampNeg = i.toInt.toNat := rfl
    have q1 := vbnd G.1.1 117 i.toNatClampNeg
    rw [show vI 117 i.toNatClampNeg = (0, 5) from vI_u rfl rfl _] at q1
    have q1 : 0 ≤ (xI h' 117 i.toNatClampNeg).toInt ∧ (xI h' 117 i.toNatClampNeg).toInt ≤ 5 := q1
    have q2 : vz h' (xI h' 117 i.toNatClampNeg) := by
      rw [G.2.1 117 i.toNatClampNeg rfl]
      exact vz_fr (fun v _ => G.2.1 110 v rfl) (hz i.toNatClampNeg (by omega))
    have G2 : vG ([(104, 63, false), (104, 64, false), (104, 72, false), (104, 73, false), (104, 76, false), (104, 78, false), (133, 0, true), (134, 0, true), (135, 0, true), (136, 0, true), (137, 0, true), (138, 0, true)], []) h (xsetI (xsetI (xsetI h' 135 ((((Int32.ofInt (8)) * (Int32.ofInt (0))) + i)).toNatClampNeg (xI h' 117 (i).toNatClampNeg)) 136 ((((Int32.ofInt (8)) * (Int32.ofInt (0))) + i)).toNatClampNeg (Int32.ofInt (-2))) 137 ((((Int32.ofInt (8)) * (Int32.ofInt (0))) + i)).toNatClampNeg (Int32.ofInt (0))) := (((vset135G G q1 q2 (fun _ => rfl)).set (by rw [vI_u rfl (rfl : vRow 136 = (-2, 1))]; decide) (stou_no (by decide +kernel)) (by decide +kernel) rfl).set (by rw [vI_u rfl (rfl : vRow 137 = sfull)]; decide) (stou_no (by decide +kernel)) (by decide +kernel) rfl)
    obtain ⟨i', h2, z1, z2⟩ := vh_firstB l h hz m (i + Int32.ofInt (1)) _ G2 (by omega) (by omega)
    exact ⟨i', h2, t14.tr z1, z2⟩
set_option maxRecDepth 100000 in
set_option maxHeartbeats 2000000 in
theorem vh_first0 (l : Launch) (h : XH) (hg : sgood vT vR vE 153 6051 h) (hz : ∀ p, p < 8 → vz h (xI h 117 p)) : ∃ h', CX l 0 0 false 176 [xf 13 104, xi (Int32.ofInt (0))] h [] h' ∧ vG ([(104, 63, false), (104, 64, false), (104, 72, false), (104, 73, false), (104, 76, false), (104, 78, false), (133, 0, true), (134, 0, true), (135, 0, true), (136, 0, true), (137, 0, true), (138, 0, true)], []) h h' := by
  have t15 : XT l 0 0 false 176 153 6051 0 [xf 13 104, xi (Int32.ofInt (0)), xun] [] h 2 [xf 13 104, xi (Int32.ofInt (0)), xi (Int32.ofInt (0))] [] h := XT_path (l := l) (fr := 0) (lo := 0) (full := false) (M := 176) (n := 153) (u := 6051) (pc := 0) (L := [xf 13 104, xi (Int32.ofInt (0)), xun]) (st := []) (h := h) (inl := []) (n' := 80) (sp := [2]) (o := []) rfl rfl ⟨rfl, rfl, rfl⟩ rfl ⟨Nat.le_of_eq hg.2.2.2.1, Nat.le_of_eq hg.2.2.2.2⟩ trivial
  obtain ⟨i1, h1, z1, G1⟩ := vh_firstA l h 6 (Int32.ofInt (0)) h (vG.rf hg) (by decide) (by decide)
  have T1 := t15.tr z1
  have t16 : XT l 0 0 false 176 153 6051 43 [xf 13 104, xi (Int32.ofInt (0)), xi i1] [] h1 45 [xf 13 104, xi (Int32.ofInt (0)), xi (Int32.ofInt (0))] [] h1 := XT_path (l := l) (fr := 0) (lo := 0) (full := false) (M := 176) (n := 153) (u := 6051) (pc := 43) (L := [xf 13 104, xi (Int32.ofInt (0)), xi i1]) (st := []) (h := h1) (inl := []) (n' := 80) (sp := [45]) (o := []) rfl rfl ⟨rfl, rfl, rfl⟩ rfl ⟨Nat.le_of_eq G1.1.2.2.2.1, Nat.le_of_eq G1.1.2.2.2.2⟩ trivial
  have t17 := T1.tr t16
  obtain ⟨i2, h2, z2, G2⟩ := vh_firstB l h hz 8 (Int32.ofInt (0)) h1 G1 (by decide) (by decide)
  have T2 := t17.tr z2
  have t18 : XT l 0 0 false 176 153 6051 99 [xf 13 104, xi (Int32.ofInt (0)), xi i2] [] h2 106 [xf 13 104, xi (Int32.ofInt (0)), xi i2] [] (xsetI h2 (xR h2 104 60) ((Int32.ofInt (0))).toNatClampNeg (Int32.ofInt (0))) := XT_path (l := l) (fr := 0) (lo := 0) (full := false) (M := 176) (n := 153) (u := 6051) (pc := 99) (L := [xf 13 104, xi (Int32.ofInt (0)), xi i2]) (st := []) (h := h2) (inl := []) (n' := 80) (sp := [106]) (o := []) rfl rfl ⟨rfl, rfl, rfl⟩ rfl ⟨Nat.le_of_eq G2.1.2.2.2.1, Nat.le_of_eq G2.1.2.2.2.2⟩ ⟨⟨trivial, (vnn G2.1.1 (rfl : vRf 104 60 = [138]) (by decide))⟩, (vp_of (i := (Int32.ofInt (0))) (n := 2) (by decide) (by decide))⟩
  rw [vref G2.1.1 (rfl : vRf 104 60 = [138])] at t18
  have t19 := T2.tr t18
  have G3 : vG ([(104, 63, false), (104, 64, false), (104, 72, false), (104, 73, false), (104, 76, false), (104, 78, false), (133, 0, true), (134, 0, true), (135, 0, true), (136, 0, true), (137, 0, true), (138, 0, true)], []) h (xsetI h2 138 ((Int32.ofInt (0))).toNatClampNeg (Int32.ofInt (0))) := G2.set (by rw [vI_u rfl (rfl : vRow 138 = sfull)]; decide) (stou_no (by decide +kernel)) (by decide +kernel) rfl
  exact ⟨_, CX_ofT (h' := (xsetI h2 138 ((Int32.ofInt (0))).toNatClampNeg (Int32.ofInt (0)))) (by decide) rfl rfl trivial ⟨_, _, _, rfl, rfl, rfl⟩ rfl ⟨Nat.le_of_eq G3.1.2.2.2.1.symm, Nat.le_of_eq G3.1.2.2.2.2.symm⟩ t19, G3⟩
set_option maxRecDepth 100000 in
set_option maxHeartbeats 2000000 in
theorem vh_begin (l : Launch) (h : XH) (hg : sgood vT vR vE 153 6051 h) (hz : ∀ p, p < 8 → vz h (xI h 117 p)) : ∃ h', CX l 2 60 false 175 [xf 13 104] h [] h' ∧ vG ([(104, 63, false), (104, 64, false), (104, 72, false), (104, 73, false), (104, 76, false), (104, 78, false), (133, 0, true), (134, 0, true), (135, 0, true), (136, 0, true), (137, 0, true), (138, 0, true)], []) h h' := by
  have t1 : XT l 2 60 false 175 153 6051 0 [xf 13 104] [] h 2 [xf 13 104] [xi (Int32.ofInt (0)), xf 13 104] h := XT_path (l := l) (fr := 2) (lo := 60) (full := false) (M := 175) (n := 153) (u := 6051) (pc := 0) (L := [xf 13 104]) (st := []) (h := h) (inl := [177]) (n' := 80) (sp := [2]) (o := []) rfl rfl ⟨rfl, rfl, rfl⟩ rfl ⟨Nat.le_of_eq hg.2.2.2.1, Nat.le_of_eq hg.2.2.2.2⟩ trivial
  obtain ⟨h1, c1, G1⟩ := vh_first0 l h hg hz
  have t2 : XT l 2 60 false 175 153 6051 2 [xf 13 104] [xi (Int32.ofInt (0)), xf 13 104] h 5 [xf 13 104] [] h1 := XT_call (l := l) (fr := 2) (lo := 60) (full := false) (M := 175) (n := 153) (u := 6051) (pc := 2) (L := [xf 13 104]) (st := [xi (Int32.ofInt (0)), xf 13 104]) (h := h) (i := .invokevirtual 176) (aux := 2) (nx := 5) (K := 176) (vs := [xf 13 104, xi (Int32.ofInt (0))]) (rs := []) (rest := []) rfl rfl rfl rfl rfl rfl c1 (by decide) (by decide) (Nat.le_of_ble_eq_true rfl) ⟨Nat.le_of_eq G1.1.2.2.2.1, Nat.le_of_eq G1.1.2.2.2.2⟩
  have t3 := t1.tr t2
  have t4 : XT l 2 60 false 175 153 6051 5 [xf 13 104] [] h1 29 [xf 13 104] [] (xsetI (xsetI (xsetI (xsetI (xsetI (xsetI h1 104 63 (Int32.ofInt (-1))) 104 64 (Int32.ofInt (-1))) 104 72 (Int32.ofInt (0))) 104 73 (Int32.ofInt (-1))) 104 76 (Int32.ofInt (0))) 104 78 (Int32.ofInt (0))) := XT_path (l := l) (fr := 2) (lo := 60) (full := false) (M := 175) (n := 153) (u := 6051) (pc := 5) (L := [xf 13 104]) (st := []) (h := h1) (inl := [177]) (n' := 80) (sp := [29]) (o := []) rfl rfl ⟨rfl, rfl, rfl⟩ rfl ⟨Nat.le_of_eq G1.1.2.2.2.1, Nat.le_of_eq G1.1.2.2.2.2⟩ ⟨trivial, (Or.inl rfl)⟩
  have t5 := t3.tr t4
  have G2 : vG ([(104, 63, false), (104, 64, false), (104, 72, false), (104, 73, false), (104, 76, false), (104, 78, false), (133, 0, true), (134, 0, true), (135, 0, true), (136, 0, true), (137, 0, true), (138, 0, true)], []) h (xsetI (xsetI (xsetI (xsetI (xsetI (xsetI h1 104 63 (Int32.ofInt (-1))) 104 64 (Int32.ofInt (-1))) 104 72 (Int32.ofInt (0))) 104 73 (Int32.ofInt (-1))) 104 76 (Int32.ofInt (0))) 104 78 (Int32.ofInt (0))) := ((((((G1.set (by decide) (by decide +kernel) vEC104 rfl).set (by decide) (by decide +kernel) vEC104 rfl).set (by decide) (by decide +kernel) vEC104 rfl).set (by decide) (by decide +kernel) vEC104 rfl).set (by decide) (by decide +kernel) vEC104 rfl).set (by decide) (by decide +kernel) vEC104 rfl)
  exact ⟨_, CX_ofT (h' := (xsetI (xsetI (xsetI (xsetI (xsetI (xsetI h1 104 63 (Int32.ofInt (-1))) 104 64 (Int32.ofInt (-1))) 104 72 (Int32.ofInt (0))) 104 73 (Int32.ofInt (-1))) 104 76 (Int32.ofInt (0))) 104 78 (Int32.ofInt (0)))) (by decide) rfl rfl trivial ⟨_, _, _, rfl, rfl, rfl⟩ rfl ⟨Nat.le_of_eq G2.1.2.2.2.1.symm, Nat.le_of_eq G2.1.2.2.2.2.symm⟩ t5, G2⟩
