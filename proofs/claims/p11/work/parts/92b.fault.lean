/-! FAULT of both. -/
theorem zls_0 {d t k x : Int} {l : List (Int × Int)} (h : x = k) : Op.lookupswitch.offset ((k, t) :: l) d x = t := by simp [Op.lookupswitch.offset, h]
theorem zls_n {d t k x : Int} {l : List (Int × Int)} (h : ¬ x = k) : Op.lookupswitch.offset ((k, t) :: l) d x = Op.lookupswitch.offset l d x := by simp [Op.lookupswitch.offset]; exact fun e => absurd e.symm h
theorem zls_e {d x : Int} : Op.lookupswitch.offset [] d x = d := rfl
def zfl (n f q : Int32) : Int32 := if n.toInt = 0 then f else if n.toInt = 1 then q else Int32.ofInt (-1)
set_option maxRecDepth 100000 in
set_option maxHeartbeats 4000000 in
theorem ck_fault (l : Launch) (n : Int32) (h : XH) (hg : sgood vT vR vE 153 6051 h) : CX l 0 0 false 69 [xf 12 2, xi n] h [xi (zfl n (xI h 45 2) (xI h 45 3))] h := by
  unfold zfl
  by_cases k0 : n.toInt = 0
  · rw [if_pos k0]
    have t1 : XT l 0 0 false 69 153 6051 0 [xf 12 2, xi n] [] h 35 [xf 12 2, xi n] [xi (xI h (xR h 2 0) 2)] h := XT_path (l := l) (fr := 0) (lo := 0) (full := false) (M := 69) (n := 153) (u := 6051) (pc := 0) (L := [xf 12 2, xi n]) (st := []) (h := h) (inl := []) (n' := 80) (sp := [35]) (o := [1]) rfl rfl ⟨rfl, rfl, rfl⟩ rfl ⟨Nat.le_of_eq hg.2.2.2.1, Nat.le_of_eq hg.2.2.2.2⟩ ⟨⟨trivial, zls_0 k0⟩, (vnn hg.1 (rfl : vRf 2 0 = [45]) (by decide))⟩
    rw [vref hg.1 (rfl : vRf 2 0 = [45])] at t1
    exact CX_ofT (h' := h) (by decide) rfl rfl trivial ⟨_, _, _, rfl, rfl, rfl⟩ rfl ⟨Nat.le_of_eq hg.2.2.2.1.symm, Nat.le_of_eq hg.2.2.2.2.symm⟩ t1
  by_cases k1 : n.toInt = 1
  · rw [if_neg k0, if_pos k1]
    have t2 : XT l 0 0 false 69 153 6051 0 [xf 12 2, xi n] [] h 43 [xf 12 2, xi n] [xi (xI h (xR h 2 0) 3)] h := XT_path (l := l) (fr := 0) (lo := 0) (full := false) (M := 69) (n := 153) (u := 6051) (pc := 0) (L := [xf 12 2, xi n]) (st := []) (h := h) (inl := []) (n' := 80) (sp := [43]) (o := [2]) rfl rfl ⟨rfl, rfl, rfl⟩ rfl ⟨Nat.le_of_eq hg.2.2.2.1, Nat.le_of_eq hg.2.2.2.2⟩ ⟨⟨trivial, (zls_n k0).trans (zls_0 k1)⟩, (vnn hg.1 (rfl : vRf 2 0 = [45]) (by decide))⟩
    rw [vref hg.1 (rfl : vRf 2 0 = [45])] at t2
    exact CX_ofT (h' := h) (by decide) rfl rfl trivial ⟨_, _, _, rfl, rfl, rfl⟩ rfl ⟨Nat.le_of_eq hg.2.2.2.1.symm, Nat.le_of_eq hg.2.2.2.2.symm⟩ t2
  rw [if_neg k0, if_neg k1]
  have t3 : XT l 0 0 false 69 153 6051 0 [xf 12 2, xi n] [] h 45 [xf 12 2, xi n] [xi (Int32.ofInt (-1))] h := XT_path (l := l) (fr := 0) (lo := 0) (full := false) (M := 69) (n := 153) (u := 6051) (pc := 0) (L := [xf 12 2, xi n]) (st := []) (h := h) (inl := []) (n' := 80) (sp := [45]) (o := [0]) rfl rfl ⟨rfl, rfl, rfl⟩ rfl ⟨Nat.le_of_eq hg.2.2.2.1, Nat.le_of_eq hg.2.2.2.2⟩ ⟨trivial, (zls_n k0).trans ((zls_n k1).trans zls_e)⟩
  exact CX_ofT (h' := h) (by decide) rfl rfl trivial ⟨_, _, _, rfl, rfl, rfl⟩ rfl ⟨Nat.le_of_eq hg.2.2.2.1.symm, Nat.le_of_eq hg.2.2.2.2.symm⟩ t3
set_option maxRecDepth 100000 in
set_option maxHeartbeats 4000000 in
theorem jk_fault (l : Launch) (n : Int32) (h : XH) (hg : sgood vT vR vE 153 6051 h) : ∃ h', CX l 0 0 false 211 [xf 13 104, xi n] h [xi (zfl n (xI h 104 4) (xI h 104 5))] h' ∧ vG ([(104, 2, false)], []) h h' := by
  have e_0 : (0 : Int32).toInt = 0 := rfl
  have e_1 : (Int32.ofInt (1)).toInt = 1 := rfl
  unfold zfl
  by_cases cb1 : n = 0
  · have e_0 : (0 : Int32).toInt = 0 := rfl
    have dcb1 : (n).toInt = (0 : Int32).toInt := congrArg Int32.toInt cb1
    have t2 : XT l 0 0 false 211 153 6051 0 [xf 13 104, xi n] [] h 29 [xf 13 104, xi n] [xi (xI h 104 4)] (xsetI h 104 2 (Int32.ofInt (0))) := XT_path (l := l) (fr := 0) (lo := 0) (full := false) (M := 211) (n := 153) (u := 6051) (pc := 0) (L := [xf 13 104, xi n]) (st := []) (h := h) (inl := []) (n' := 80) (sp := [29]) (o := [0]) rfl rfl ⟨rfl, rfl, rfl⟩ rfl ⟨Nat.le_of_eq hg.2.2.2.1, Nat.le_of_eq hg.2.2.2.2⟩ ⟨trivial, cb1⟩
    have G : vG ([(104, 2, false)], []) h (xsetI h 104 2 (Int32.ofInt (0))) := ((vG.rf hg) : vG ([(104, 2, false)], []) h h).set (c := 104) (k := 2) (v := (Int32.ofInt (0))) (show (0 : Int) ≤ _ ∧ _ ≤ 2 from (by decide)) (by decide +kernel) (by decide +kernel) rfl
    have k0 : n.toInt = 0 := (congrArg Int32.toInt cb1).trans e_0
    rw [if_pos k0]
    exact ⟨_, CX_ofT (h' := (xsetI h 104 2 (Int32.ofInt (0)))) (by decide) rfl rfl trivial ⟨_, _, _, rfl, rfl, rfl⟩ rfl ⟨Nat.le_of_eq hg.2.2.2.1.symm, Nat.le_of_eq hg.2.2.2.2.symm⟩ t2, G⟩
  · have e_0 : (0 : Int32).toInt = 0 := rfl
    have dcb1 : ¬ (n).toInt = (0 : Int32).toInt := fun z_ => cb1 (Int32.toInt_inj.mp z_)
    by_cases cb3 : n = (Int32.ofInt (1))
    · have e_1 : (Int32.ofInt (1)).toInt = 1 := rfl
      have dcb3 : (n).toInt = (Int32.ofInt (1)).toInt := congrArg Int32.toInt cb3
      have t4 : XT l 0 0 false 211 153 6051 0 [xf 13 104, xi n] [] h 29 [xf 13 104, xi n] [xi (xI h 104 5)] (xsetI h 104 2 (Int32.ofInt (0))) := XT_path (l := l) (fr := 0) (lo := 0) (full := false) (M := 211) (n := 153) (u := 6051) (pc := 0) (L := [xf 13 104, xi n]) (st := []) (h := h) (inl := []) (n' := 80) (sp := [29]) (o := [1, 0]) rfl rfl ⟨rfl, rfl, rfl⟩ rfl ⟨Nat.le_of_eq hg.2.2.2.1, Nat.le_of_eq hg.2.2.2.2⟩ ⟨⟨trivial, cb1⟩, cb3⟩
      have G : vG ([(104, 2, false)], []) h (xsetI h 104 2 (Int32.ofInt (0))) := ((vG.rf hg) : vG ([(104, 2, false)], []) h h).set (c := 104) (k := 2) (v := (Int32.ofInt (0))) (show (0 : Int) ≤ _ ∧ _ ≤ 2 from (by decide)) (by decide +kernel) (by decide +kernel) rfl
      have k0 : ¬ n.toInt = 0 := fun z => cb1 (Int32.toInt_inj.mp (z.trans e_0.symm))
      have k1 : n.toInt = 1 := (congrArg Int32.toInt cb3).trans e_1
      rw [if_neg k0, if_pos k1]
      exact ⟨_, CX_ofT (h' := (xsetI h 104 2 (Int32.ofInt (0)))) (by decide) rfl rfl trivial ⟨_, _, _, rfl, rfl, rfl⟩ rfl ⟨Nat.le_of_eq hg.2.2.2.1.symm, Nat.le_of_eq hg.2.2.2.2.symm⟩ t4, G⟩
    · have e_1 : (Int32.ofInt (1)).toInt = 1 := rfl
      have dcb3 : ¬ (n).toInt = (Int32.ofInt (1)).toInt := fun z_ => cb3 (Int32.toInt_inj.mp z_)
      have t5 : XT l 0 0 false 211 153 6051 0 [xf 13 104, xi n] [] h 29 [xf 13 104, xi n] [xi (Int32.ofInt (-1))] (xsetI h 104 2 (Int32.ofInt (0))) := XT_path (l := l) (fr := 0) (lo := 0) (full := false) (M := 211) (n := 153) (u := 6051) (pc := 0) (L := [xf 13 104, xi n]) (st := []) (h := h) (inl := []) (n' := 80) (sp := [29]) (o := [1, 1]) rfl rfl ⟨rfl, rfl, rfl⟩ rfl ⟨Nat.le_of_eq hg.2.2.2.1, Nat.le_of_eq hg.2.2.2.2⟩ ⟨⟨trivial, cb1⟩, cb3⟩
      have G : vG ([(104, 2, false)], []) h (xsetI h 104 2 (Int32.ofInt (0))) := ((vG.rf hg) : vG ([(104, 2, false)], []) h h).set (c := 104) (k := 2) (v := (Int32.ofInt (0))) (show (0 : Int) ≤ _ ∧ _ ≤ 2 from (by decide)) (by decide +kernel) (by decide +kernel) rfl
      have k0 : ¬ n.toInt = 0 := fun z => cb1 (Int32.toInt_inj.mp (z.trans e_0.symm))
      have k1 : ¬ n.toInt = 1 := fun z => cb3 (Int32.toInt_inj.mp (z.trans e_1.symm))
      rw [if_neg k0, if_neg k1]
      exact ⟨_, CX_ofT (h' := (xsetI h 104 2 (Int32.ofInt (0)))) (by decide) rfl rfl trivial ⟨_, _, _, rfl, rfl, rfl⟩ rfl ⟨Nat.le_of_eq hg.2.2.2.1.symm, Nat.le_of_eq hg.2.2.2.2.symm⟩ t5, G⟩
