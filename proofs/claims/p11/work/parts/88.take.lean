/-! THE CLASS TAKES TOKENS. -/
/-- the token at q: what, its value, its end; where the next one begins -/
def tkc (b : Nat → Int) (n q : Nat) : Int := (sTk b n q).1
def tkv (b : Nat → Int) (n q : Nat) : Int := (sTk b n q).2.1
def tke (b : Nat → Int) (n q : Nat) : Nat := (sTk b n q).2.2
def nxt (b : Nat → Int) (n q : Nat) : Nat := sSk b (n - tke b n q) (tke b n q)
theorem nxt_b {b : Nat → Int} {n q : Nat} (h : q ≤ n) : q ≤ nxt b n q ∧ nxt b n q ≤ n ∧ (q < n → q < nxt b n q) := by
  have h1 := sTk_b (b := b) h
  have h2 := sSk_b b (n - tke b n q) (tke b n q)
  have e : tke b n q = (sTk b n q).2.2 := rfl
  unfold nxt
  omega
def kT (b : Nat → Int) (n q : Nat) (h : XH) : Prop := kR b n h ∧ n ≤ 700 ∧ q ≤ n ∧ (xI h 45 8).toInt = q ∧ (xI h 45 7).toInt = tkc b n q ∧ (xI h 45 9).toInt = tkv b n q ∧ (xI h 45 6).toInt = tke b n q ∧ (xI h 45 3).toInt = -1
theorem kT.fr {b : Nat → Int} {n q : Nat} {h h' : XH} (r : kT b n q h) (h1 : ∀ k, k = 3 ∨ k = 5 ∨ k = 6 ∨ k = 7 ∨ k = 8 ∨ k = 9 → xI h' 45 k = xI h 45 k) (h2 : ∀ k, xI h' 46 k = xI h 46 k) : kT b n q h' :=
  ⟨r.1.fr (h1 5 (by decide)) h2, r.2.1, r.2.2.1, by rw [h1 8 (by decide)]; exact r.2.2.2.1, by rw [h1 7 (by decide)]; exact r.2.2.2.2.1, by rw [h1 9 (by decide)]; exact r.2.2.2.2.2.1, by rw [h1 6 (by decide)]; exact r.2.2.2.2.2.2.1, by rw [h1 3 (by decide)]; exact r.2.2.2.2.2.2.2⟩
theorem ck_adv (l : Launch) (b : Nat → Int) (n q : Nat) (h : XH) (hg : sgood vT vR vE 153 6051 h) (kt : kT b n q h) : ∃ h', CX l 6 197 false 19 [xf 7 45] h [] h' ∧ vG ([(45, 6, false), (45, 7, false), (45, 8, false), (45, 9, false)], []) h h' ∧ kT b n (nxt b n q) h' := by
  have tb := sTk_b (b := b) kt.2.2.1
  obtain ⟨h', c, g, a8, a7, a9, a6⟩ := vk_adv l b n (tke b n q) h hg kt.1 kt.2.1 tb.2.1 kt.2.2.2.2.2.2.1
  exact ⟨h', c, g, kt.1.w g.2 rfl (fun _ => rfl), kt.2.1, (nxt_b kt.2.2.1).2.1, a8, a7, a9, a6, by rw [g.2.1 45 3 rfl]; exact kt.2.2.2.2.2.2.2⟩
/-- a number between two bounds -/
def sNu (b : Nat → Int) (n q : Nat) (lo hi : Int) : Int := if tkc b n q = 2 then (if tkv b n q < lo ∨ hi < tkv b n q then 2 else 0) else 1
/-- a name that none bears yet; that somebody bears -/
def sNn (b : Nat → Int) (n q : Nat) (w : Int) : Int := if tkc b n q = 3 then (if w = -1 then 0 else 3) else 1
def sTn (b : Nat → Int) (n q : Nat) (w : Int) : Int := if tkc b n q = 3 then (if w = -1 then 4 else 0) else 1
set_option maxRecDepth 100000 in
set_option maxHeartbeats 2000000 in
theorem ck_num0 (l : Launch) (b : Nat → Int) (n q : Nat) (lo hi : Int32) (h : XH) (hg : sgood vT vR vE 153 6051 h) (kt : kT b n q h) (f0 : (xI h 45 2).toInt = 0) : ∃ v h', CX l 7 218 false 42 [xf 7 45, xi lo, xi hi] h [xi v] h' ∧ vG ([(45, 2, false), (45, 3, false), (45, 6, false), (45, 7, false), (45, 8, false), (45, 9, false)], []) h h' ∧ v.toInt = tkv b n q ∧ (((sNu b n q lo.toInt hi.toInt) = 0 ∧ (xI h' 45 2).toInt = 0 ∧ kT b n (nxt b n q) h') ∨ (¬ (sNu b n q lo.toInt hi.toInt) = 0 ∧ (xI h' 45 2).toInt = (sNu b n q lo.toInt hi.toInt) ∧ (xI h' 45 3).toInt = q ∧ kR b n h')) := by
  obtain ⟨kr, hn7, hq, kq, kc, kv, ke⟩ := id kt
  have ef : xI h 45 2 = 0 := Int32.toInt_inj.mp f0
  have e_0 : (0 : Int32).toInt = 0 := rfl
  by_cases c1 : (xI h 45 7) = (Int32.ofInt (2))
  · have e_2 : (Int32.ofInt (2)).toInt = 2 := rfl
    have dc1 : (xI h 45 7).toInt = (Int32.ofInt (2)).toInt := congrArg Int32.toInt c1
    by_cases c2 : (xI h 45 9) < lo
    · have dc2 : (xI h 45 9).toInt < (lo).toInt := Int32.lt_iff_toInt_lt.mp c2
      have t3 : XT l 7 218 false 42 153 6051 0 [xf 7 45, xi lo, xi hi, xun] [] h 48 [xf 7 45, xi lo, xi hi, xi (xI h 45 9)] [xi (xI h 45 9)] (xsetI (xsetI h 45 2 (Int32.ofInt (2))) 45 3 (xI h 45 8)) := XT_path (l := l) (fr := 7) (lo := 218) (full := false) (M := 42) (n := 153) (u := 6051) (pc := 0) (L := [xf 7 45, xi lo, xi hi, xun]) (st := []) (h := h) (inl := [39]) (n' := 80) (sp := [48]) (o := [1, 1, 0, 1]) rfl rfl ⟨rfl, rfl, rfl⟩ rfl ⟨Nat.le_of_eq hg.2.2.2.1, Nat.le_of_eq hg.2.2.2.2⟩ ⟨⟨⟨⟨trivial, c1⟩, c2⟩, ef⟩, (show ¬ (Int32.ofInt (2)) = 0 from by decide)⟩
      have es : (sNu b n q lo.toInt hi.toInt) = 2 := by unfold sNu; rw [← kc]; first | (rw [if_neg (by omega)]) | (rw [if_pos (by omega)]; first | rw [← kv, if_pos (by omega)] | rw [← kv, if_neg (by omega)] | rw [if_pos (by omega)] | rw [if_neg (by omega)])
      have g1 : vG ([(45, 2, false), (45, 3, false), (45, 6, false), (45, 7, false), (45, 8, false), (45, 9, false)], []) h (xsetI h 45 2 (Int32.ofInt (2))) := (vG.rf hg).set (c := 45) (k := 2) (v := (Int32.ofInt (2))) (show (0 : Int) ≤ _ ∧ _ ≤ 5 from by decide) (by decide +kernel) (by decide +kernel) rfl
      have g2 : vG ([(45, 2, false), (45, 3, false), (45, 6, false), (45, 7, false), (45, 8, false), (45, 9, false)], []) h (xsetI (xsetI h 45 2 (Int32.ofInt (2))) 45 3 (xI h 45 8)) := g1.set (c := 45) (k := 3) (v := (xI h 45 8)) (show (-1 : Int) ≤ _ ∧ _ ≤ 700 from ⟨by omega, by omega⟩) (by decide +kernel) (by decide +kernel) rfl
      exact ⟨_, _, CX_ofT (h' := (xsetI (xsetI h 45 2 (Int32.ofInt (2))) 45 3 (xI h 45 8))) (by decide) rfl rfl trivial ⟨_, _, _, rfl, rfl, rfl⟩ rfl ⟨Nat.le_of_eq hg.2.2.2.1.symm, Nat.le_of_eq hg.2.2.2.2.symm⟩ t3, g2, kv, Or.inr ⟨by rw [es]; decide, by rw [yI_ne (by decide), yI_same, es]; rfl, by rw [yI_same]; exact kq, kr.fr (by rw [yI_ne (by decide), yI_ne (by decide)]) (fun k => by rw [yI_c (by decide), yI_c (by decide)])⟩⟩
    · have dc2 : (lo).toInt ≤ (xI h 45 9).toInt := Int32.le_iff_toInt_le.mp (Int32.not_lt.mp c2)
      by_cases c4 : (xI h 45 9) ≤ hi
      · have dc4 : (xI h 45 9).toInt ≤ (hi).toInt := Int32.le_iff_toInt_le.mp c4
        have t5 : XT l 7 218 false 42 153 6051 0 [xf 7 45, xi lo, xi hi, xun] [] h 44 [xf 7 45, xi lo, xi hi, xi (xI h 45 9)] [xf 7 45] h := XT_path (l := l) (fr := 7) (lo := 218) (full := false) (M := 42) (n := 153) (u := 6051) (pc := 0) (L := [xf 7 45, xi lo, xi hi, xun]) (st := []) (h := h) (inl := [39]) (n' := 80) (sp := [44]) (o := [1, 0, 1, 0]) rfl rfl ⟨rfl, rfl, rfl⟩ rfl ⟨Nat.le_of_eq hg.2.2.2.1, Nat.le_of_eq hg.2.2.2.2⟩ ⟨⟨⟨⟨trivial, c1⟩, c2⟩, c4⟩, ef⟩
        obtain ⟨h1, cA, g1, k1⟩ := ck_adv l b n q h hg kt
        have t6 : XT l 7 218 false 42 153 6051 44 [xf 7 45, xi lo, xi hi, xi (xI h 45 9)] [xf 7 45] h 47 [xf 7 45, xi lo, xi hi, xi (xI h 45 9)] [] h1 := XT_call (l := l) (fr := 7) (lo := 218) (full := false) (M := 42) (n := 153) (u := 6051) (pc := 44) (L := [xf 7 45, xi lo, xi hi, xi (xI h 45 9)]) (st := [xf 7 45]) (h := h) (i := .invokevirtual 19) (aux := 1) (nx := 47) (K := 19) (vs := [xf 7 45]) (rs := []) (rest := []) rfl rfl rfl rfl rfl rfl cA (by decide) (by decide) (Nat.le_of_ble_eq_true rfl) ⟨Nat.le_of_eq g1.1.2.2.2.1, Nat.le_of_eq g1.1.2.2.2.2⟩
        have t7 := t5.tr t6
        have t8 : XT l 7 218 false 42 153 6051 47 [xf 7 45, xi lo, xi hi, xi (xI h 45 9)] [] h1 48 [xf 7 45, xi lo, xi hi, xi (xI h 45 9)] [xi (xI h 45 9)] h1 := XT_path (l := l) (fr := 7) (lo := 218) (full := false) (M := 42) (n := 153) (u := 6051) (pc := 47) (L := [xf 7 45, xi lo, xi hi, xi (xI h 45 9)]) (st := []) (h := h1) (inl := [39]) (n' := 80) (sp := [48]) (o := []) rfl rfl ⟨rfl, rfl, rfl⟩ rfl ⟨Nat.le_of_eq g1.1.2.2.2.1, Nat.le_of_eq g1.1.2.2.2.2⟩ trivial
        have t9 := t7.tr t8
        have es : (sNu b n q lo.toInt hi.toInt) = 0 := by unfold sNu; rw [← kc]; first | (rw [if_neg (by omega)]) | (rw [if_pos (by omega)]; first | rw [← kv, if_pos (by omega)] | rw [← kv, if_neg (by omega)] | rw [if_pos (by omega)] | rw [if_neg (by omega)])
        exact ⟨_, _, CX_ofT (h' := h1) (by decide) rfl rfl trivial ⟨_, _, _, rfl, rfl, rfl⟩ rfl ⟨Nat.le_of_eq g1.1.2.2.2.1.symm, Nat.le_of_eq g1.1.2.2.2.2.symm⟩ t9, ⟨g1.1, g1.2.mono rfl rfl⟩, kv, Or.inl ⟨es, by rw [g1.2.1 45 2 rfl]; exact f0, k1⟩⟩
      · have dc4 : (hi).toInt < (xI h 45 9).toInt := Int32.lt_iff_toInt_lt.mp (Int32.not_le.mp c4)
        have t10 : XT l 7 218 false 42 153 6051 0 [xf 7 45, xi lo, xi hi, xun] [] h 48 [xf 7 45, xi lo, xi hi, xi (xI h 45 9)] [xi (xI h 45 9)] (xsetI (xsetI h 45 2 (Int32.ofInt (2))) 45 3 (xI h 45 8)) := XT_path (l := l) (fr := 7) (lo := 218) (full := false) (M := 42) (n := 153) (u := 6051) (pc := 0) (L := [xf 7 45, xi lo, xi hi, xun]) (st := []) (h := h) (inl := [39]) (n' := 80) (sp := [48]) (o := [1, 0, 0, 0, 1]) rfl rfl ⟨rfl, rfl, rfl⟩ rfl ⟨Nat.le_of_eq hg.2.2.2.1, Nat.le_of_eq hg.2.2.2.2⟩ ⟨⟨⟨⟨⟨trivial, c1⟩, c2⟩, c4⟩, ef⟩, (show ¬ (Int32.ofInt (2)) = 0 from by decide)⟩
        have es : (sNu b n q lo.toInt hi.toInt) = 2 := by unfold sNu; rw [← kc]; first | (rw [if_neg (by omega)]) | (rw [if_pos (by omega)]; first | rw [← kv, if_pos (by omega)] | rw [← kv, if_neg (by omega)] | rw [if_pos (by omega)] | rw [if_neg (by omega)])
        have g1 : vG ([(45, 2, false), (45, 3, false), (45, 6, false), (45, 7, false), (45, 8, false), (45, 9, false)], []) h (xsetI h 45 2 (Int32.ofInt (2))) := (vG.rf hg).set (c := 45) (k := 2) (v := (Int32.ofInt (2))) (show (0 : Int) ≤ _ ∧ _ ≤ 5 from by decide) (by decide +kernel) (by decide +kernel) rfl
        have g2 : vG ([(45, 2, false), (45, 3, false), (45, 6, false), (45, 7, false), (45, 8, false), (45, 9, false)], []) h (xsetI (xsetI h 45 2 (Int32.ofInt (2))) 45 3 (xI h 45 8)) := g1.set (c := 45) (k := 3) (v := (xI h 45 8)) (show (-1 : Int) ≤ _ ∧ _ ≤ 700 from ⟨by omega, by omega⟩) (by decide +kernel) (by decide +kernel) rfl
        exact ⟨_, _, CX_ofT (h' := (xsetI (xsetI h 45 2 (Int32.ofInt (2))) 45 3 (xI h 45 8))) (by decide) rfl rfl trivial ⟨_, _, _, rfl, rfl, rfl⟩ rfl ⟨Nat.le_of_eq hg.2.2.2.1.symm, Nat.le_of_eq hg.2.2.2.2.symm⟩ t10, g2, kv, Or.inr ⟨by rw [es]; decide, by rw [yI_ne (by decide), yI_same, es]; rfl, by rw [yI_same]; exact kq, kr.fr (by rw [yI_ne (by decide), yI_ne (by decide)]) (fun k => by rw [yI_c (by decide), yI_c (by decide)])⟩⟩
  · have e_2 : (Int32.ofInt (2)).toInt = 2 := rfl
    have dc1 : ¬ (xI h 45 7).toInt = (Int32.ofInt (2)).toInt := fun z_ => c1 (Int32.toInt_inj.mp z_)
    have t11 : XT l 7 218 false 42 153 6051 0 [xf 7 45, xi lo, xi hi, xun] [] h 48 [xf 7 45, xi lo, xi hi, xi (xI h 45 9)] [xi (xI h 45 9)] (xsetI (xsetI h 45 2 (Int32.ofInt (1))) 45 3 (xI h 45 8)) := XT_path (l := l) (fr := 7) (lo := 218) (full := false) (M := 42) (n := 153) (u := 6051) (pc := 0) (L := [xf 7 45, xi lo, xi hi, xun]) (st := []) (h := h) (inl := [39]) (n' := 80) (sp := [48]) (o := [0, 0, 1]) rfl rfl ⟨rfl, rfl, rfl⟩ rfl ⟨Nat.le_of_eq hg.2.2.2.1, Nat.le_of_eq hg.2.2.2.2⟩ ⟨⟨⟨trivial, c1⟩, ef⟩, (show ¬ (Int32.ofInt (1)) = 0 from by decide)⟩
    have es : (sNu b n q lo.toInt hi.toInt) = 1 := by unfold sNu; rw [← kc]; first | (rw [if_neg (by omega)]) | (rw [if_pos (by omega)]; first | rw [← kv, if_pos (by omega)] | rw [← kv, if_neg (by omega)] | rw [if_pos (by omega)] | rw [if_neg (by omega)])
    have g1 : vG ([(45, 2, false), (45, 3, false), (45, 6, false), (45, 7, false), (45, 8, false), (45, 9, false)], []) h (xsetI h 45 2 (Int32.ofInt (1))) := (vG.rf hg).set (c := 45) (k := 2) (v := (Int32.ofInt (1))) (show (0 : Int) ≤ _ ∧ _ ≤ 5 from by decide) (by decide +kernel) (by decide +kernel) rfl
    have g2 : vG ([(45, 2, false), (45, 3, false), (45, 6, false), (45, 7, false), (45, 8, false), (45, 9, false)], []) h (xsetI (xsetI h 45 2 (Int32.ofInt (1))) 45 3 (xI h 45 8)) := g1.set (c := 45) (k := 3) (v := (xI h 45 8)) (show (-1 : Int) ≤ _ ∧ _ ≤ 700 from ⟨by omega, by omega⟩) (by decide +kernel) (by decide +kernel) rfl
    exact ⟨_, _, CX_ofT (h' := (xsetI (xsetI h 45 2 (Int32.ofInt (1))) 45 3 (xI h 45 8))) (by decide) rfl rfl trivial ⟨_, _, _, rfl, rfl, rfl⟩ rfl ⟨Nat.le_of_eq hg.2.2.2.1.symm, Nat.le_of_eq hg.2.2.2.2.symm⟩ t11, g2, kv, Or.inr ⟨by rw [es]; decide, by rw [yI_ne (by decide), yI_same, es]; rfl, by rw [yI_same]; exact kq, kr.fr (by rw [yI_ne (by decide), yI_ne (by decide)]) (fun k => by rw [yI_c (by decide), yI_c (by decide)])⟩⟩
set_option maxRecDepth 100000 in
set_option maxHeartbeats 2000000 in
theorem ck_num1 (l : Launch) (lo hi : Int32) (h : XH) (hg : sgood vT vR vE 153 6051 h) (f0 : ¬ (xI h 45 2).toInt = 0) : ∃ v, CX l 7 218 false 42 [xf 7 45, xi lo, xi hi] h [xi v] h := by
  have ef : ¬ xI h 45 2 = 0 := fun z => f0 (congrArg Int32.toInt z)
  by_cases c1 : (xI h 45 7) = (Int32.ofInt (2))
  · have e_2 : (Int32.ofInt (2)).toInt = 2 := rfl
    have dc1 : (xI h 45 7).toInt = (Int32.ofInt (2)).toInt := congrArg Int32.toInt c1
    by_cases c2 : (xI h 45 9) < lo
    · have dc2 : (xI h 45 9).toInt < (lo).toInt := Int32.lt_iff_toInt_lt.mp c2
      have t3 : XT l 7 218 false 42 153 6051 0 [xf 7 45, xi lo, xi hi, xun] [] h 48 [xf 7 45, xi lo, xi hi, xi (xI h 45 9)] [xi (xI h 45 9)] h := XT_path (l := l) (fr := 7) (lo := 218) (full := false) (M := 42) (n := 153) (u := 6051) (pc := 0) (L := [xf 7 45, xi lo, xi hi, xun]) (st := []) (h := h) (inl := [39]) (n' := 80) (sp := [48]) (o := [1, 1, 1, 1]) rfl rfl ⟨rfl, rfl, rfl⟩ rfl ⟨Nat.le_of_eq hg.2.2.2.1, Nat.le_of_eq hg.2.2.2.2⟩ ⟨⟨⟨⟨trivial, c1⟩, c2⟩, ef⟩, ef⟩
      exact ⟨_, CX_ofT (h' := h) (by decide) rfl rfl trivial ⟨_, _, _, rfl, rfl, rfl⟩ rfl ⟨Nat.le_of_eq hg.2.2.2.1.symm, Nat.le_of_eq hg.2.2.2.2.symm⟩ t3⟩
    · have dc2 : (lo).toInt ≤ (xI h 45 9).toInt := Int32.le_iff_toInt_le.mp (Int32.not_lt.mp c2)
      by_cases c4 : (xI h 45 9) ≤ hi
      · have dc4 : (xI h 45 9).toInt ≤ (hi).toInt := Int32.le_iff_toInt_le.mp c4
        have t5 : XT l 7 218 false 42 153 6051 0 [xf 7 45, xi lo, xi hi, xun] [] h 48 [xf 7 45, xi lo, xi hi, xi (xI h 45 9)] [xi (xI h 45 9)] h := XT_path (l := l) (fr := 7) (lo := 218) (full := false) (M := 42) (n := 153) (u := 6051) (pc := 0) (L := [xf 7 45, xi lo, xi hi, xun]) (st := []) (h := h) (inl := [39]) (n' := 80) (sp := [48]) (o := [1, 0, 1, 1]) rfl rfl ⟨rfl, rfl, rfl⟩ rfl ⟨Nat.le_of_eq hg.2.2.2.1, Nat.le_of_eq hg.2.2.2.2⟩ ⟨⟨⟨⟨trivial, c1⟩, c2⟩, c4⟩, ef⟩
        exact ⟨_, CX_ofT (h' := h) (by decide) rfl rfl trivial ⟨_, _, _, rfl, rfl, rfl⟩ rfl ⟨Nat.le_of_eq hg.2.2.2.1.symm, Nat.le_of_eq hg.2.2.2.2.symm⟩ t5⟩
      · have dc4 : (hi).toInt < (xI h 45 9).toInt := Int32.lt_iff_toInt_lt.mp (Int32.not_le.mp c4)
        have t6 : XT l 7 218 false 42 153 6051 0 [xf 7 45, xi lo, xi hi, xun] [] h 48 [xf 7 45, xi lo, xi hi, xi (xI h 45 9)] [xi (xI h 45 9)] h := XT_path (l := l) (fr := 7) (lo := 218) (full := false) (M := 42) (n := 153) (u := 6051) (pc := 0) (L := [xf 7 45, xi lo, xi hi, xun]) (st := []) (h := h) (inl := [39]) (n' := 80) (sp := [48]) (o := [1, 0, 0, 1, 1]) rfl rfl ⟨rfl, rfl, rfl⟩ rfl ⟨Nat.le_of_eq hg.2.2.2.1, Nat.le_of_eq hg.2.2.2.2⟩ ⟨⟨⟨⟨⟨trivial, c1⟩, c2⟩, c4⟩, ef⟩, ef⟩
        exact ⟨_, CX_ofT (h' := h) (by decide) rfl rfl trivial ⟨_, _, _, rfl, rfl, rfl⟩ rfl ⟨Nat.le_of_eq hg.2.2.2.1.symm, Nat.le_of_eq hg.2.2.2.2.symm⟩ t6⟩
  · have e_2 : (Int32.ofInt (2)).toInt = 2 := rfl
    have dc1 : ¬ (xI h 45 7).toInt = (Int32.ofInt (2)).toInt := fun z_ => c1 (Int32.toInt_inj.mp z_)
    have t7 : XT l 7 218 false 42 153 6051 0 [xf 7 45, xi lo, xi hi, xun] [] h 48 [xf 7 45, xi lo, xi hi, xi (xI h 45 9)] [xi (xI h 45 9)] h := XT_path (l := l) (fr := 7) (lo := 218) (full := false) (M := 42) (n := 153) (u := 6051) (pc := 0) (L := [xf 7 45, xi lo, xi hi, xun]) (st := []) (h := h) (inl := [39]) (n' := 80) (sp := [48]) (o := [0, 1, 1]) rfl rfl ⟨rfl, rfl, rfl⟩ rfl ⟨Nat.le_of_eq hg.2.2.2.1, Nat.le_of_eq hg.2.2.2.2⟩ ⟨⟨⟨trivial, c1⟩, ef⟩, ef⟩
    exact ⟨_, CX_ofT (h' := h) (by decide) rfl rfl trivial ⟨_, _, _, rfl, rfl, rfl⟩ rfl ⟨Nat.le_of_eq hg.2.2.2.1.symm, Nat.le_of_eq hg.2.2.2.2.symm⟩ t7⟩
set_option maxRecDepth 100000 in
set_option maxHeartbeats 2000000 in
theorem ck_new0 (l : Launch) (b : Nat → Int) (n q : Nat) (w : Int32) (h : XH) (hg : sgood vT vR vE 153 6051 h) (kt : kT b n q h) (f0 : (xI h 45 2).toInt = 0) : ∃ v h', CX l 7 218 false 41 [xf 7 45, xi w] h [xi v] h' ∧ vG ([(45, 2, false), (45, 3, false), (45, 6, false), (45, 7, false), (45, 8, false), (45, 9, false)], []) h h' ∧ v.toInt = tkv b n q ∧ (((sNn b n q w.toInt) = 0 ∧ (xI h' 45 2).toInt = 0 ∧ kT b n (nxt b n q) h') ∨ (¬ (sNn b n q w.toInt) = 0 ∧ (xI h' 45 2).toInt = (sNn b n q w.toInt) ∧ (xI h' 45 3).toInt = q ∧ kR b n h')) := by
  obtain ⟨kr, hn7, hq, kq, kc, kv, ke⟩ := id kt
  have ef : xI h 45 2 = 0 := Int32.toInt_inj.mp f0
  have e_0 : (0 : Int32).toInt = 0 := rfl
  by_cases c1 : (xI h 45 7) = (Int32.ofInt (3))
  · have e_3 : (Int32.ofInt (3)).toInt = 3 := rfl
    have dc1 : (xI h 45 7).toInt = (Int32.ofInt (3)).toInt := congrArg Int32.toInt c1
    by_cases c2 : w = (Int32.ofInt (-1))
    · have e_m1 : (Int32.ofInt (-1)).toInt = -1 := rfl
      have dc2 : (w).toInt = (Int32.ofInt (-1)).toInt := congrArg Int32.toInt c2
      have t3 : XT l 7 218 false 41 153 6051 0 [xf 7 45, xi w, xun] [] h 39 [xf 7 45, xi w, xi (xI h 45 9)] [xf 7 45] h := XT_path (l := l) (fr := 7) (lo := 218) (full := false) (M := 41) (n := 153) (u := 6051) (pc := 0) (L := [xf 7 45, xi w, xun]) (st := []) (h := h) (inl := [39]) (n' := 80) (sp := [39]) (o := [1, 1, 0]) rfl rfl ⟨rfl, rfl, rfl⟩ rfl ⟨Nat.le_of_eq hg.2.2.2.1, Nat.le_of_eq hg.2.2.2.2⟩ ⟨⟨⟨trivial, c1⟩, c2⟩, ef⟩
      obtain ⟨h1, cA, g1, k1⟩ := ck_adv l b n q h hg kt
      have t4 : XT l 7 218 false 41 153 6051 39 [xf 7 45, xi w, xi (xI h 45 9)] [xf 7 45] h 42 [xf 7 45, xi w, xi (xI h 45 9)] [] h1 := XT_call (l := l) (fr := 7) (lo := 218) (full := false) (M := 41) (n := 153) (u := 6051) (pc := 39) (L := [xf 7 45, xi w, xi (xI h 45 9)]) (st := [xf 7 45]) (h := h) (i := .invokevirtual 19) (aux := 1) (nx := 42) (K := 19) (vs := [xf 7 45]) (rs := []) (rest := []) rfl rfl rfl rfl rfl rfl cA (by decide) (by decide) (Nat.le_of_ble_eq_true rfl) ⟨Nat.le_of_eq g1.1.2.2.2.1, Nat.le_of_eq g1.1.2.2.2.2⟩
      have t5 := t3.tr t4
      have t6 : XT l 7 218 false 41 153 6051 42 [xf 7 45, xi w, xi (xI h 45 9)] [] h1 43 [xf 7 45, xi w, xi (xI h 45 9)] [xi (xI h 45 9)] h1 := XT_path (l := l) (fr := 7) (lo := 218) (full := false) (M := 41) (n := 153) (u := 6051) (pc := 42) (L := [xf 7 45, xi w, xi (xI h 45 9)]) (st := []) (h := h1) (inl := [39]) (n' := 80) (sp := [43]) (o := []) rfl rfl ⟨rfl, rfl, rfl⟩ rfl ⟨Nat.le_of_eq g1.1.2.2.2.1, Nat.le_of_eq g1.1.2.2.2.2⟩ trivial
      have t7 := t5.tr t6
      have es : (sNn b n q w.toInt) = 0 := by unfold sNn; rw [← kc]; first | (rw [if_neg (by omega)]) | (rw [if_pos (by omega)]; first | rw [← kv, if_pos (by omega)] | rw [← kv, if_neg (by omega)] | rw [if_pos (by omega)] | rw [if_neg (by omega)])
      exact ⟨_, _, CX_ofT (h' := h1) (by decide) rfl rfl trivial ⟨_, _, _, rfl, rfl, rfl⟩ rfl ⟨Nat.le_of_eq g1.1.2.2.2.1.symm, Nat.le_of_eq g1.1.2.2.2.2.symm⟩ t7, ⟨g1.1, g1.2.mono rfl rfl⟩, kv, Or.inl ⟨es, by rw [g1.2.1 45 2 rfl]; exact f0, k1⟩⟩
    · have e_m1 : (Int32.ofInt (-1)).toInt = -1 := rfl
      have dc2 : ¬ (w).toInt = (Int32.ofInt (-1)).toInt := fun z_ => c2 (Int32.toInt_inj.mp z_)
      have t8 : XT l 7 218 false 41 153 6051 0 [xf 7 45, xi w, xun] [] h 43 [xf 7 45, xi w, xi (xI h 45 9)] [xi (xI h 45 9)] (xsetI (xsetI h 45 2 (Int32.ofInt (3))) 45 3 (xI h 45 8)) := XT_path (l := l) (fr := 7) (lo := 218) (full := false) (M := 41) (n := 153) (u := 6051) (pc := 0) (L := [xf 7 45, xi w, xun]) (st := []) (h := h) (inl := [39]) (n' := 80) (sp := [43]) (o := [1, 0, 0, 1]) rfl rfl ⟨rfl, rfl, rfl⟩ rfl ⟨Nat.le_of_eq hg.2.2.2.1, Nat.le_of_eq hg.2.2.2.2⟩ ⟨⟨⟨⟨trivial, c1⟩, c2⟩, ef⟩, (show ¬ (Int32.ofInt (3)) = 0 from by decide)⟩
      have es : (sNn b n q w.toInt) = 3 := by unfold sNn; rw [← kc]; first | (rw [if_neg (by omega)]) | (rw [if_pos (by omega)]; first | rw [← kv, if_pos (by omega)] | rw [← kv, if_neg (by omega)] | rw [if_pos (by omega)] | rw [if_neg (by omega)])
      have g1 : vG ([(45, 2, false), (45, 3, false), (45, 6, false), (45, 7, false), (45, 8, false), (45, 9, false)], []) h (xsetI h 45 2 (Int32.ofInt (3))) := (vG.rf hg).set (c := 45) (k := 2) (v := (Int32.ofInt (3))) (show (0 : Int) ≤ _ ∧ _ ≤ 5 from by decide) (by decide +kernel) (by decide +kernel) rfl
      have g2 : vG ([(45, 2, false), (45, 3, false), (45, 6, false), (45, 7, false), (45, 8, false), (45, 9, false)], []) h (xsetI (xsetI h 45 2 (Int32.ofInt (3))) 45 3 (xI h 45 8)) := g1.set (c := 45) (k := 3) (v := (xI h 45 8)) (show (-1 : Int) ≤ _ ∧ _ ≤ 700 from ⟨by omega, by omega⟩) (by decide +kernel) (by decide +kernel) rfl
      exact ⟨_, _, CX_ofT (h' := (xsetI (xsetI h 45 2 (Int32.ofInt (3))) 45 3 (xI h 45 8))) (by decide) rfl rfl trivial ⟨_, _, _, rfl, rfl, rfl⟩ rfl ⟨Nat.le_of_eq hg.2.2.2.1.symm, Nat.le_of_eq hg.2.2.2.2.symm⟩ t8, g2, kv, Or.inr ⟨by rw [es]; decide, by rw [yI_ne (by decide), yI_same, es]; rfl, by rw [yI_same]; exact kq, kr.fr (by rw [yI_ne (by decide), yI_ne (by decide)]) (fun k => by rw [yI_c (by decide), yI_c (by decide)])⟩⟩
  · have e_3 : (Int32.ofInt (3)).toInt = 3 := rfl
    have dc1 : ¬ (xI h 45 7).toInt = (Int32.ofInt (3)).toInt := fun z_ => c1 (Int32.toInt_inj.mp z_)
    have t9 : XT l 7 218 false 41 153 6051 0 [xf 7 45, xi w, xun] [] h 43 [xf 7 45, xi w, xi (xI h 45 9)] [xi (xI h 45 9)] (xsetI (xsetI h 45 2 (Int32.ofInt (1))) 45 3 (xI h 45 8)) := XT_path (l := l) (fr := 7) (lo := 218) (full := false) (M := 41) (n := 153) (u := 6051) (pc := 0) (L := [xf 7 45, xi w, xun]) (st := []) (h := h) (inl := [39]) (n' := 80) (sp := [43]) (o := [0, 0, 1]) rfl rfl ⟨rfl, rfl, rfl⟩ rfl ⟨Nat.le_of_eq hg.2.2.2.1, Nat.le_of_eq hg.2.2.2.2⟩ ⟨⟨⟨trivial, c1⟩, ef⟩, (show ¬ (Int32.ofInt (1)) = 0 from by decide)⟩
    have es : (sNn b n q w.toInt) = 1 := by unfold sNn; rw [← kc]; first | (rw [if_neg (by omega)]) | (rw [if_pos (by omega)]; first | rw [← kv, if_pos (by omega)] | rw [← kv, if_neg (by omega)] | rw [if_pos (by omega)] | rw [if_neg (by omega)])
    have g1 : vG ([(45, 2, false), (45, 3, false), (45, 6, false), (45, 7, false), (45, 8, false), (45, 9, false)], []) h (xsetI h 45 2 (Int32.ofInt (1))) := (vG.rf hg).set (c := 45) (k := 2) (v := (Int32.ofInt (1))) (show (0 : Int) ≤ _ ∧ _ ≤ 5 from by decide) (by decide +kernel) (by decide +kernel) rfl
    have g2 : vG ([(45, 2, false), (45, 3, false), (45, 6, false), (45, 7, false), (45, 8, false), (45, 9, false)], []) h (xsetI (xsetI h 45 2 (Int32.ofInt (1))) 45 3 (xI h 45 8)) := g1.set (c := 45) (k := 3) (v := (xI h 45 8)) (show (-1 : Int) ≤ _ ∧ _ ≤ 700 from ⟨by omega, by omega⟩) (by decide +kernel) (by decide +kernel) rfl
    exact ⟨_, _, CX_ofT (h' := (xsetI (xsetI h 45 2 (Int32.ofInt (1))) 45 3 (xI h 45 8))) (by decide) rfl rfl trivial ⟨_, _, _, rfl, rfl, rfl⟩ rfl ⟨Nat.le_of_eq hg.2.2.2.1.symm, Nat.le_of_eq hg.2.2.2.2.symm⟩ t9, g2, kv, Or.inr ⟨by rw [es]; decide, by rw [yI_ne (by decide), yI_same, es]; rfl, by rw [yI_same]; exact kq, kr.fr (by rw [yI_ne (by decide), yI_ne (by decide)]) (fun k => by rw [yI_c (by decide), yI_c (by decide)])⟩⟩
set_option maxRecDepth 100000 in
set_option maxHeartbeats 2000000 in
theorem ck_new1 (l : Launch) (w : Int32) (h : XH) (hg : sgood vT vR vE 153 6051 h) (f0 : ¬ (xI h 45 2).toInt = 0) : ∃ v, CX l 7 218 false 41 [xf 7 45, xi w] h [xi v] h := by
  have ef : ¬ xI h 45 2 = 0 := fun z => f0 (congrArg Int32.toInt z)
  by_cases c1 : (xI h 45 7) = (Int32.ofInt (3))
  · have e_3 : (Int32.ofInt (3)).toInt = 3 := rfl
    have dc1 : (xI h 45 7).toInt = (Int32.ofInt (3)).toInt := congrArg Int32.toInt c1
    by_cases c2 : w = (Int32.ofInt (-1))
    · have e_m1 : (Int32.ofInt (-1)).toInt = -1 := rfl
      have dc2 : (w).toInt = (Int32.ofInt (-1)).toInt := congrArg Int32.toInt c2
      have t3 : XT l 7 218 false 41 153 6051 0 [xf 7 45, xi w, xun] [] h 43 [xf 7 45, xi w, xi (xI h 45 9)] [xi (xI h 45 9)] h := XT_path (l := l) (fr := 7) (lo := 218) (full := false) (M := 41) (n := 153) (u := 6051) (pc := 0) (L := [xf 7 45, xi w, xun]) (st := []) (h := h) (inl := [39]) (n' := 80) (sp := [43]) (o := [1, 1, 1]) rfl rfl ⟨rfl, rfl, rfl⟩ rfl ⟨Nat.le_of_eq hg.2.2.2.1, Nat.le_of_eq hg.2.2.2.2⟩ ⟨⟨⟨trivial, c1⟩, c2⟩, ef⟩
      exact ⟨_, CX_ofT (h' := h) (by decide) rfl rfl trivial ⟨_, _, _, rfl, rfl, rfl⟩ rfl ⟨Nat.le_of_eq hg.2.2.2.1.symm, Nat.le_of_eq hg.2.2.2.2.symm⟩ t3⟩
    · have e_m1 : (Int32.ofInt (-1)).toInt = -1 := rfl
      have dc2 : ¬ (w).toInt = (Int32.ofInt (-1)).toInt := fun z_ => c2 (Int32.toInt_inj.mp z_)
      have t4 : XT l 7 218 false 41 153 6051 0 [xf 7 45, xi w, xun] [] h 43 [xf 7 45, xi w, xi (xI h 45 9)] [xi (xI h 45 9)] h := XT_path (l := l) (fr := 7) (lo := 218) (full := false) (M := 41) (n := 153) (u := 6051) (pc := 0) (L := [xf 7 45, xi w, xun]) (st := []) (h := h) (inl := [39]) (n' := 80) (sp := [43]) (o := [1, 0, 1, 1]) rfl rfl ⟨rfl, rfl, rfl⟩ rfl ⟨Nat.le_of_eq hg.2.2.2.1, Nat.le_of_eq hg.2.2.2.2⟩ ⟨⟨⟨⟨trivial, c1⟩, c2⟩, ef⟩, ef⟩
      exact ⟨_, CX_ofT (h' := h) (by decide) rfl rfl trivial ⟨_, _, _, rfl, rfl, rfl⟩ rfl ⟨Nat.le_of_eq hg.2.2.2.1.symm, Nat.le_of_eq hg.2.2.2.2.symm⟩ t4⟩
  · have e_3 : (Int32.ofInt (3)).toInt = 3 := rfl
    have dc1 : ¬ (xI h 45 7).toInt = (Int32.ofInt (3)).toInt := fun z_ => c1 (Int32.toInt_inj.mp z_)
    have t5 : XT l 7 218 false 41 153 6051 0 [xf 7 45, xi w, xun] [] h 43 [xf 7 45, xi w, xi (xI h 45 9)] [xi (xI h 45 9)] h := XT_path (l := l) (fr := 7) (lo := 218) (full := false) (M := 41) (n := 153) (u := 6051) (pc := 0) (L := [xf 7 45, xi w, xun]) (st := []) (h := h) (inl := [39]) (n' := 80) (sp := [43]) (o := [0, 1, 1]) rfl rfl ⟨rfl, rfl, rfl⟩ rfl ⟨Nat.le_of_eq hg.2.2.2.1, Nat.le_of_eq hg.2.2.2.2⟩ ⟨⟨⟨trivial, c1⟩, ef⟩, ef⟩
    exact ⟨_, CX_ofT (h' := h) (by decide) rfl rfl trivial ⟨_, _, _, rfl, rfl, rfl⟩ rfl ⟨Nat.le_of_eq hg.2.2.2.1.symm, Nat.le_of_eq hg.2.2.2.2.symm⟩ t5⟩
set_option maxRecDepth 100000 in
set_option maxHeartbeats 2000000 in
theorem ck_told0 (l : Launch) (b : Nat → Int) (n q : Nat) (w : Int32) (h : XH) (hg : sgood vT vR vE 153 6051 h) (kt : kT b n q h) (f0 : (xI h 45 2).toInt = 0) : ∃ v h', CX l 7 218 false 44 [xf 7 45, xi w] h [xi v] h' ∧ vG ([(45, 2, false), (45, 3, false), (45, 6, false), (45, 7, false), (45, 8, false), (45, 9, false)], []) h h' ∧ v = w ∧ (((sTn b n q w.toInt) = 0 ∧ (xI h' 45 2).toInt = 0 ∧ kT b n (nxt b n q) h') ∨ (¬ (sTn b n q w.toInt) = 0 ∧ (xI h' 45 2).toInt = (sTn b n q w.toInt) ∧ (xI h' 45 3).toInt = q ∧ kR b n h')) := by
  obtain ⟨kr, hn7, hq, kq, kc, kv, ke⟩ := id kt
  have ef : xI h 45 2 = 0 := Int32.toInt_inj.mp f0
  have e_0 : (0 : Int32).toInt = 0 := rfl
  by_cases c1 : (xI h 45 7) = (Int32.ofInt (3))
  · have e_3 : (Int32.ofInt (3)).toInt = 3 := rfl
    have dc1 : (xI h 45 7).toInt = (Int32.ofInt (3)).toInt := congrArg Int32.toInt c1
    by_cases c2 : w = (Int32.ofInt (-1))
    · have e_m1 : (Int32.ofInt (-1)).toInt = -1 := rfl
      have dc2 : (w).toInt = (Int32.ofInt (-1)).toInt := congrArg Int32.toInt c2
      have t3 : XT l 7 218 false 44 153 6051 0 [xf 7 45, xi w] [] h 38 [xf 7 45, xi w] [xi w] (xsetI (xsetI h 45 2 (Int32.ofInt (4))) 45 3 (xI h 45 8)) := XT_path (l := l) (fr := 7) (lo := 218) (full := false) (M := 44) (n := 153) (u := 6051) (pc := 0) (L := [xf 7 45, xi w]) (st := []) (h := h) (inl := [39]) (n' := 80) (sp := [38]) (o := [1, 0, 0, 1]) rfl rfl ⟨rfl, rfl, rfl⟩ rfl ⟨Nat.le_of_eq hg.2.2.2.1, Nat.le_of_eq hg.2.2.2.2⟩ ⟨⟨⟨⟨trivial, c1⟩, c2⟩, ef⟩, (show ¬ (Int32.ofInt (4)) = 0 from by decide)⟩
      have es : (sTn b n q w.toInt) = 4 := by unfold sTn; rw [← kc]; first | (rw [if_neg (by omega)]) | (rw [if_pos (by omega)]; first | rw [← kv, if_pos (by omega)] | rw [← kv, if_neg (by omega)] | rw [if_pos (by omega)] | rw [if_neg (by omega)])
      have g1 : vG ([(45, 2, false), (45, 3, false), (45, 6, false), (45, 7, false), (45, 8, false), (45, 9, false)], []) h (xsetI h 45 2 (Int32.ofInt (4))) := (vG.rf hg).set (c := 45) (k := 2) (v := (Int32.ofInt (4))) (show (0 : Int) ≤ _ ∧ _ ≤ 5 from by decide) (by decide +kernel) (by decide +kernel) rfl
      have g2 : vG ([(45, 2, false), (45, 3, false), (45, 6, false), (45, 7, false), (45, 8, false), (45, 9, false)], []) h (xsetI (xsetI h 45 2 (Int32.ofInt (4))) 45 3 (xI h 45 8)) := g1.set (c := 45) (k := 3) (v := (xI h 45 8)) (show (-1 : Int) ≤ _ ∧ _ ≤ 700 from ⟨by omega, by omega⟩) (by decide +kernel) (by decide +kernel) rfl
      exact ⟨_, _, CX_ofT (h' := (xsetI (xsetI h 45 2 (Int32.ofInt (4))) 45 3 (xI h 45 8))) (by decide) rfl rfl trivial ⟨_, _, _, rfl, rfl, rfl⟩ rfl ⟨Nat.le_of_eq hg.2.2.2.1.symm, Nat.le_of_eq hg.2.2.2.2.symm⟩ t3, g2, rfl, Or.inr ⟨by rw [es]; decide, by rw [yI_ne (by decide), yI_same, es]; rfl, by rw [yI_same]; exact kq, kr.fr (by rw [yI_ne (by decide), yI_ne (by decide)]) (fun k => by rw [yI_c (by decide), yI_c (by decide)])⟩⟩
    · have e_m1 : (Int32.ofInt (-1)).toInt = -1 := rfl
      have dc2 : ¬ (w).toInt = (Int32.ofInt (-1)).toInt := fun z_ => c2 (Int32.toInt_inj.mp z_)
      have t4 : XT l 7 218 false 44 153 6051 0 [xf 7 45, xi w] [] h 34 [xf 7 45, xi w] [xf 7 45] h := XT_path (l := l) (fr := 7) (lo := 218) (full := false) (M := 44) (n := 153) (u := 6051) (pc := 0) (L := [xf 7 45, xi w]) (st := []) (h := h) (inl := [39]) (n' := 80) (sp := [34]) (o := [1, 1, 0]) rfl rfl ⟨rfl, rfl, rfl⟩ rfl ⟨Nat.le_of_eq hg.2.2.2.1, Nat.le_of_eq hg.2.2.2.2⟩ ⟨⟨⟨trivial, c1⟩, c2⟩, ef⟩
      obtain ⟨h1, cA, g1, k1⟩ := ck_adv l b n q h hg kt
      have t5 : XT l 7 218 false 44 153 6051 34 [xf 7 45, xi w] [xf 7 45] h 37 [xf 7 45, xi w] [] h1 := XT_call (l := l) (fr := 7) (lo := 218) (full := false) (M := 44) (n := 153) (u := 6051) (pc := 34) (L := [xf 7 45, xi w]) (st := [xf 7 45]) (h := h) (i := .invokevirtual 19) (aux := 1) (nx := 37) (K := 19) (vs := [xf 7 45]) (rs := []) (rest := []) rfl rfl rfl rfl rfl rfl cA (by decide) (by decide) (Nat.le_of_ble_eq_true rfl) ⟨Nat.le_of_eq g1.1.2.2.2.1, Nat.le_of_eq g1.1.2.2.2.2⟩
      have t6 := t4.tr t5
      have t7 : XT l 7 218 false 44 153 6051 37 [xf 7 45, xi w] [] h1 38 [xf 7 45, xi w] [xi w] h1 := XT_path (l := l) (fr := 7) (lo := 218) (full := false) (M := 44) (n := 153) (u := 6051) (pc := 37) (L := [xf 7 45, xi w]) (st := []) (h := h1) (inl := [39]) (n' := 80) (sp := [38]) (o := []) rfl rfl ⟨rfl, rfl, rfl⟩ rfl ⟨Nat.le_of_eq g1.1.2.2.2.1, Nat.le_of_eq g1.1.2.2.2.2⟩ trivial
      have t8 := t6.tr t7
      have es : (sTn b n q w.toInt) = 0 := by unfold sTn; rw [← kc]; first | (rw [if_neg (by omega)]) | (rw [if_pos (by omega)]; first | rw [← kv, if_pos (by omega)] | rw [← kv, if_neg (by omega)] | rw [if_pos (by omega)] | rw [if_neg (by omega)])
      exact ⟨_, _, CX_ofT (h' := h1) (by decide) rfl rfl trivial ⟨_, _, _, rfl, rfl, rfl⟩ rfl ⟨Nat.le_of_eq g1.1.2.2.2.1.symm, Nat.le_of_eq g1.1.2.2.2.2.symm⟩ t8, ⟨g1.1, g1.2.mono rfl rfl⟩, rfl, Or.inl ⟨es, by rw [g1.2.1 45 2 rfl]; exact f0, k1⟩⟩
  · have e_3 : (Int32.ofInt (3)).toInt = 3 := rfl
    have dc1 : ¬ (xI h 45 7).toInt = (Int32.ofInt (3)).toInt := fun z_ => c1 (Int32.toInt_inj.mp z_)
    have t9 : XT l 7 218 false 44 153 6051 0 [xf 7 45, xi w] [] h 38 [xf 7 45, xi w] [xi w] (xsetI (xsetI h 45 2 (Int32.ofInt (1))) 45 3 (xI h 45 8)) := XT_path (l := l) (fr := 7) (lo := 218) (full := false) (M := 44) (n := 153) (u := 6051) (pc := 0) (L := [xf 7 45, xi w]) (st := []) (h := h) (inl := [39]) (n' := 80) (sp := [38]) (o := [0, 0, 1]) rfl rfl ⟨rfl, rfl, rfl⟩ rfl ⟨Nat.le_of_eq hg.2.2.2.1, Nat.le_of_eq hg.2.2.2.2⟩ ⟨⟨⟨trivial, c1⟩, ef⟩, (show ¬ (Int32.ofInt (1)) = 0 from by decide)⟩
    have es : (sTn b n q w.toInt) = 1 := by unfold sTn; rw [← kc]; first | (rw [if_neg (by omega)]) | (rw [if_pos (by omega)]; first | rw [← kv, if_pos (by omega)] | rw [← kv, if_neg (by omega)] | rw [if_pos (by omega)] | rw [if_neg (by omega)])
    have g1 : vG ([(45, 2, false), (45, 3, false), (45, 6, false), (45, 7, false), (45, 8, false), (45, 9, false)], []) h (xsetI h 45 2 (Int32.ofInt (1))) := (vG.rf hg).set (c := 45) (k := 2) (v := (Int32.ofInt (1))) (show (0 : Int) ≤ _ ∧ _ ≤ 5 from by decide) (by decide +kernel) (by decide +kernel) rfl
    have g2 : vG ([(45, 2, false), (45, 3, false), (45, 6, false), (45, 7, false), (45, 8, false), (45, 9, false)], []) h (xsetI (xsetI h 45 2 (Int32.ofInt (1))) 45 3 (xI h 45 8)) := g1.set (c := 45) (k := 3) (v := (xI h 45 8)) (show (-1 : Int) ≤ _ ∧ _ ≤ 700 from ⟨by omega, by omega⟩) (by decide +kernel) (by decide +kernel) rfl
    exact ⟨_, _, CX_ofT (h' := (xsetI (xsetI h 45 2 (Int32.ofInt (1))) 45 3 (xI h 45 8))) (by decide) rfl rfl trivial ⟨_, _, _, rfl, rfl, rfl⟩ rfl ⟨Nat.le_of_eq hg.2.2.2.1.symm, Nat.le_of_eq hg.2.2.2.2.symm⟩ t9, g2, rfl, Or.inr ⟨by rw [es]; decide, by rw [yI_ne (by decide), yI_same, es]; rfl, by rw [yI_same]; exact kq, kr.fr (by rw [yI_ne (by decide), yI_ne (by decide)]) (fun k => by rw [yI_c (by decide), yI_c (by decide)])⟩⟩
set_option maxRecDepth 100000 in
set_option maxHeartbeats 2000000 in
theorem ck_told1 (l : Launch) (w : Int32) (h : XH) (hg : sgood vT vR vE 153 6051 h) (f0 : ¬ (xI h 45 2).toInt = 0) : ∃ v, CX l 7 218 false 44 [xf 7 45, xi w] h [xi v] h := by
  have ef : ¬ xI h 45 2 = 0 := fun z => f0 (congrArg Int32.toInt z)
  by_cases c1 : (xI h 45 7) = (Int32.ofInt (3))
  · have e_3 : (Int32.ofInt (3)).toInt = 3 := rfl
    have dc1 : (xI h 45 7).toInt = (Int32.ofInt (3)).toInt := congrArg Int32.toInt c1
    by_cases c2 : w = (Int32.ofInt (-1))
    · have e_m1 : (Int32.ofInt (-1)).toInt = -1 := rfl
      have dc2 : (w).toInt = (Int32.ofInt (-1)).toInt := congrArg Int32.toInt c2
      have t3 : XT l 7 218 false 44 153 6051 0 [xf 7 45, xi w] [] h 38 [xf 7 45, xi w] [xi w] h := XT_path (l := l) (fr := 7) (lo := 218) (full := false) (M := 44) (n := 153) (u := 6051) (pc := 0) (L := [xf 7 45, xi w]) (st := []) (h := h) (inl := [39]) (n' := 80) (sp := [38]) (o := [1, 0, 1, 1]) rfl rfl ⟨rfl, rfl, rfl⟩ rfl ⟨Nat.le_of_eq hg.2.2.2.1, Nat.le_of_eq hg.2.2.2.2⟩ ⟨⟨⟨⟨trivial, c1⟩, c2⟩, ef⟩, ef⟩
      exact ⟨_, CX_ofT (h' := h) (by decide) rfl rfl trivial ⟨_, _, _, rfl, rfl, rfl⟩ rfl ⟨Nat.le_of_eq hg.2.2.2.1.symm, Nat.le_of_eq hg.2.2.2.2.symm⟩ t3⟩
    · have e_m1 : (Int32.ofInt (-1)).toInt = -1 := rfl
      have dc2 : ¬ (w).toInt = (Int32.ofInt (-1)).toInt := fun z_ => c2 (Int32.toInt_inj.mp z_)
      have t4 : XT l 7 218 false 44 153 6051 0 [xf 7 45, xi w] [] h 38 [xf 7 45, xi w] [xi w] h := XT_path (l := l) (fr := 7) (lo := 218) (full := false) (M := 44) (n := 153) (u := 6051) (pc := 0) (L := [xf 7 45, xi w]) (st := []) (h := h) (inl := [39]) (n' := 80) (sp := [38]) (o := [1, 1, 1]) rfl rfl ⟨rfl, rfl, rfl⟩ rfl ⟨Nat.le_of_eq hg.2.2.2.1, Nat.le_of_eq hg.2.2.2.2⟩ ⟨⟨⟨trivial, c1⟩, c2⟩, ef⟩
      exact ⟨_, CX_ofT (h' := h) (by decide) rfl rfl trivial ⟨_, _, _, rfl, rfl, rfl⟩ rfl ⟨Nat.le_of_eq hg.2.2.2.1.symm, Nat.le_of_eq hg.2.2.2.2.symm⟩ t4⟩
  · have e_3 : (Int32.ofInt (3)).toInt = 3 := rfl
    have dc1 : ¬ (xI h 45 7).toInt = (Int32.ofInt (3)).toInt := fun z_ => c1 (Int32.toInt_inj.mp z_)
    have t5 : XT l 7 218 false 44 153 6051 0 [xf 7 45, xi w] [] h 38 [xf 7 45, xi w] [xi w] h := XT_path (l := l) (fr := 7) (lo := 218) (full := false) (M := 44) (n := 153) (u := 6051) (pc := 0) (L := [xf 7 45, xi w]) (st := []) (h := h) (inl := [39]) (n' := 80) (sp := [38]) (o := [0, 1, 1]) rfl rfl ⟨rfl, rfl, rfl⟩ rfl ⟨Nat.le_of_eq hg.2.2.2.1, Nat.le_of_eq hg.2.2.2.2⟩ ⟨⟨⟨trivial, c1⟩, ef⟩, ef⟩
    exact ⟨_, CX_ofT (h' := h) (by decide) rfl rfl trivial ⟨_, _, _, rfl, rfl, rfl⟩ rfl ⟨Nat.le_of_eq hg.2.2.2.1.symm, Nat.le_of_eq hg.2.2.2.2.symm⟩ t5⟩
/-- the first one in a row that is x -/
def zfn (Z : Nat → Int) (x : Int) : Nat → Nat → Int
  | 0, _ => -1
  | m + 1, k => if Z k = x then k else zfn Z x m (k + 1)
set_option maxRecDepth 100000 in
set_option maxHeartbeats 2000000 in
theorem ck_regL3 (l : Launch) (Z : Nat → Int) (y : Int32) (N : Nat) (h : XH) (hg : sgood vT vR vE 153 6051 h) (hn : (xI h 3 0).toInt = N) (hN : N ≤ 6) (hz : ∀ k, k < N → (xI h 4 k).toInt = Z k) : ∀ (m : Nat) (k : Int32), 0 ≤ k.toInt → k.toInt + m = N → ∃ v pcR L', XT l 0 0 false 40 153 6051 2 [xf 8 3, xi y, xi k] [] h pcR L' [xi v] h ∧ XE 40 pcR [xi v] ∧ L'.length = 3 ∧ v.toInt = zfn Z y.toInt m k.toInt.toNat
  | 0, k, k0, km => by
    have t1 : XT l 0 0 false 40 153 6051 2 [xf 8 3, xi y, xi k] [] h 29 [xf 8 3, xi y, xi k] [xi (Int32.ofInt (-1))] h := XT_path (l := l) (fr := 0) (lo := 0) (full := false) (M := 40) (n := 153) (u := 6051) (pc := 2) (L := [xf 8 3, xi y, xi k]) (st := []) (h := h) (inl := []) (n' := 80) (sp := [29]) (o := [1]) rfl rfl ⟨rfl, rfl, rfl⟩ rfl ⟨Nat.le_of_eq hg.2.2.2.1, Nat.le_of_eq hg.2.2.2.2⟩ ⟨trivial, (Int32.le_iff_toInt_le.mpr (by omega))⟩
    exact ⟨_, _, _, t1, ⟨_, _, _, rfl, rfl, rfl⟩, rfl, rfl⟩
  | m + 1, k, k0, km => by
    have ek := y_suc1 k0 (by omega)
    have hk := hz k.toInt.toNat (by omega)
    by_cases c1 : (xI h (xR h 3 1) (k).toNatClampNeg) = y
    · have c1r := c1
      rw [vref hg.1 (rfl : vRf 3 1 = [4])] at c1r
      have dc1 : (xI h 4 (k).toNatClampNeg).toInt = (y).toInt := congrArg Int32.toInt c1r
      have t2 : XT l 0 0 false 40 153 6051 2 [xf 8 3, xi y, xi k] [] h 21 [xf 8 3, xi y, xi k] [xi k] h := XT_path (l := l) (fr := 0) (lo := 0) (full := false) (M := 40) (n := 153) (u := 6051) (pc := 2) (L := [xf 8 3, xi y, xi k]) (st := []) (h := h) (inl := []) (n' := 80) (sp := [21]) (o := [0, 0]) rfl rfl ⟨rfl, rfl, rfl⟩ rfl ⟨Nat.le_of_eq hg.2.2.2.1, Nat.le_of_eq hg.2.2.2.2⟩ ⟨⟨⟨⟨trivial, (fun z => absurd (Int32.le_iff_toInt_le.mp z) (by omega))⟩, (vnn hg.1 (rfl : vRf 3 1 = [4]) (by decide))⟩, (vp_of (i := k) (n := 6) (by omega) (by omega))⟩, c1⟩
      have d_ : (xI h 4 k.toInt.toNat).toInt = y.toInt := dc1
      rw [hk] at d_
      exact ⟨_, _, _, t2, ⟨_, _, _, rfl, rfl, rfl⟩, rfl, by unfold zfn; rw [if_pos d_]; omega⟩
    · have c1r := c1
      rw [vref hg.1 (rfl : vRf 3 1 = [4])] at c1r
      have dc1 : ¬ (xI h 4 (k).toNatClampNeg).toInt = (y).toInt := fun z_ => c1r (Int32.toInt_inj.mp z_)
      have t3 : XT l 0 0 false 40 153 6051 2 [xf 8 3, xi y, xi k] [] h 2 [xf 8 3, xi y, xi (k + Int32.ofInt (1))] [] h := XT_path (l := l) (fr := 0) (lo := 0) (full := false) (M := 40) (n := 153) (u := 6051) (pc := 2) (L := [xf 8 3, xi y, xi k]) (st := []) (h := h) (inl := []) (n' := 80) (sp := [2]) (o := [0, 1]) rfl rfl ⟨rfl, rfl, rfl⟩ rfl ⟨Nat.le_of_eq hg.2.2.2.1, Nat.le_of_eq hg.2.2.2.2⟩ ⟨⟨⟨⟨trivial, (fun z => absurd (Int32.le_iff_toInt_le.mp z) (by omega))⟩, (vnn hg.1 (rfl : vRf 3 1 = [4]) (by decide))⟩, (vp_of (i := k) (n := 6) (by omega) (by omega))⟩, c1⟩
      have d_ : (xI h 4 k.toInt.toNat).toInt ≠ y.toInt := dc1
      rw [hk] at d_
      obtain ⟨v, pcR, L', y1, y2, y3, y4⟩ := ck_regL3 l Z y N h hg hn hN hz m (k + (Int32.ofInt (1))) (by omega) (by omega)
      exact ⟨v, pcR, L', t3.tr y1, y2, y3, by rw [y4, show (k + (Int32.ofInt (1))).toInt.toNat = k.toInt.toNat + 1 by omega]; exact (if_neg d_).symm⟩
set_option maxRecDepth 100000 in
set_option maxHeartbeats 2000000 in
theorem ck_reg3 (l : Launch) (Z : Nat → Int) (y : Int32) (N : Nat) (h : XH) (hg : sgood vT vR vE 153 6051 h) (hn : (xI h 3 0).toInt = N) (hN : N ≤ 6) (hz : ∀ k, k < N → (xI h 4 k).toInt = Z k) : ∃ v, CX l 0 0 false 40 [xf 8 3, xi y] h [xi v] h ∧ v.toInt = zfn Z y.toInt N 0 := by
  have t1 : XT l 0 0 false 40 153 6051 0 [xf 8 3, xi y, xun] [] h 2 [xf 8 3, xi y, xi (Int32.ofInt (0))] [] h := XT_path (l := l) (fr := 0) (lo := 0) (full := false) (M := 40) (n := 153) (u := 6051) (pc := 0) (L := [xf 8 3, xi y, xun]) (st := []) (h := h) (inl := []) (n' := 80) (sp := [2]) (o := []) rfl rfl ⟨rfl, rfl, rfl⟩ rfl ⟨Nat.le_of_eq hg.2.2.2.1, Nat.le_of_eq hg.2.2.2.2⟩ trivial
  obtain ⟨v, pcR, L', y1, y2, y3, y4⟩ := ck_regL3 l Z y N h hg hn hN hz N (Int32.ofInt (0)) (by decide) (by rw [show (Int32.ofInt (0)).toInt = 0 from rfl]; omega)
  exact ⟨v, CX_ofT (by decide) rfl rfl trivial y2 y3 ⟨Nat.le_of_eq hg.2.2.2.1.symm, Nat.le_of_eq hg.2.2.2.2.symm⟩ (t1.tr y1), y4⟩
set_option maxRecDepth 100000 in
set_option maxHeartbeats 2000000 in
theorem ck_regL24 (l : Launch) (Z : Nat → Int) (y : Int32) (N : Nat) (h : XH) (hg : sgood vT vR vE 153 6051 h) (hn : (xI h 24 0).toInt = N) (hN : N ≤ 6) (hz : ∀ k, k < N → (xI h 25 k).toInt = Z k) : ∀ (m : Nat) (k : Int32), 0 ≤ k.toInt → k.toInt + m = N → ∃ v pcR L', XT l 0 0 false 40 153 6051 2 [xf 8 24, xi y, xi k] [] h pcR L' [xi v] h ∧ XE 40 pcR [xi v] ∧ L'.length = 3 ∧ v.toInt = zfn Z y.toInt m k.toInt.toNat
  | 0, k, k0, km => by
    have t1 : XT l 0 0 false 40 153 6051 2 [xf 8 24, xi y, xi k] [] h 29 [xf 8 24, xi y, xi k] [xi (Int32.ofInt (-1))] h := XT_path (l := l) (fr := 0) (lo := 0) (full := false) (M := 40) (n := 153) (u := 6051) (pc := 2) (L := [xf 8 24, xi y, xi k]) (st := []) (h := h) (inl := []) (n' := 80) (sp := [29]) (o := [1]) rfl rfl ⟨rfl, rfl, rfl⟩ rfl ⟨Nat.le_of_eq hg.2.2.2.1, Nat.le_of_eq hg.2.2.2.2⟩ ⟨trivial, (Int32.le_iff_toInt_le.mpr (by omega))⟩
    exact ⟨_, _, _, t1, ⟨_, _, _, rfl, rfl, rfl⟩, rfl, rfl⟩
  | m + 1, k, k0, km => by
    have ek := y_suc1 k0 (by omega)
    have hk := hz k.toInt.toNat (by omega)
    by_cases c1 : (xI h (xR h 24 1) (k).toNatClampNeg) = y
    · have c1r := c1
      rw [vref hg.1 (rfl : vRf 24 1 = [25])] at c1r
      have dc1 : (xI h 25 (k).toNatClampNeg).toInt = (y).toInt := congrArg Int32.toInt c1r
      have t2 : XT l 0 0 false 40 153 6051 2 [xf 8 24, xi y, xi k] [] h 21 [xf 8 24, xi y, xi k] [xi k] h := XT_path (l := l) (fr := 0) (lo := 0) (full := false) (M := 40) (n := 153) (u := 6051) (pc := 2) (L := [xf 8 24, xi y, xi k]) (st := []) (h := h) (inl := []) (n' := 80) (sp := [21]) (o := [0, 0]) rfl rfl ⟨rfl, rfl, rfl⟩ rfl ⟨Nat.le_of_eq hg.2.2.2.1, Nat.le_of_eq hg.2.2.2.2⟩ ⟨⟨⟨⟨trivial, (fun z => absurd (Int32.le_iff_toInt_le.mp z) (by omega))⟩, (vnn hg.1 (rfl : vRf 24 1 = [25]) (by decide))⟩, (vp_of (i := k) (n := 6) (by omega) (by omega))⟩, c1⟩
      have d_ : (xI h 25 k.toInt.toNat).toInt = y.toInt := dc1
      rw [hk] at d_
      exact ⟨_, _, _, t2, ⟨_, _, _, rfl, rfl, rfl⟩, rfl, by unfold zfn; rw [if_pos d_]; omega⟩
    · have c1r := c1
      rw [vref hg.1 (rfl : vRf 24 1 = [25])] at c1r
      have dc1 : ¬ (xI h 25 (k).toNatClampNeg).toInt = (y).toInt := fun z_ => c1r (Int32.toInt_inj.mp z_)
      have t3 : XT l 0 0 false 40 153 6051 2 [xf 8 24, xi y, xi k] [] h 2 [xf 8 24, xi y, xi (k + Int32.ofInt (1))] [] h := XT_path (l := l) (fr := 0) (lo := 0) (full := false) (M := 40) (n := 153) (u := 6051) (pc := 2) (L := [xf 8 24, xi y, xi k]) (st := []) (h := h) (inl := []) (n' := 80) (sp := [2]) (o := [0, 1]) rfl rfl ⟨rfl, rfl, rfl⟩ rfl ⟨Nat.le_of_eq hg.2.2.2.1, Nat.le_of_eq hg.2.2.2.2⟩ ⟨⟨⟨⟨trivial, (fun z => absurd (Int32.le_iff_toInt_le.mp z) (by omega))⟩, (vnn hg.1 (rfl : vRf 24 1 = [25]) (by decide))⟩, (vp_of (i := k) (n := 6) (by omega) (by omega))⟩, c1⟩
      have d_ : (xI h 25 k.toInt.toNat).toInt ≠ y.toInt := dc1
      rw [hk] at d_
      obtain ⟨v, pcR, L', y1, y2, y3, y4⟩ := ck_regL24 l Z y N h hg hn hN hz m (k + (Int32.ofInt (1))) (by omega) (by omega)
      exact ⟨v, pcR, L', t3.tr y1, y2, y3, by rw [y4, show (k + (Int32.ofInt (1))).toInt.toNat = k.toInt.toNat + 1 by omega]; exact (if_neg d_).symm⟩
set_option maxRecDepth 100000 in
set_option maxHeartbeats 2000000 in
theorem ck_reg24 (l : Launch) (Z : Nat → Int) (y : Int32) (N : Nat) (h : XH) (hg : sgood vT vR vE 153 6051 h) (hn : (xI h 24 0).toInt = N) (hN : N ≤ 6) (hz : ∀ k, k < N → (xI h 25 k).toInt = Z k) : ∃ v, CX l 0 0 false 40 [xf 8 24, xi y] h [xi v] h ∧ v.toInt = zfn Z y.toInt N 0 := by
  have t1 : XT l 0 0 false 40 153 6051 0 [xf 8 24, xi y, xun] [] h 2 [xf 8 24, xi y, xi (Int32.ofInt (0))] [] h := XT_path (l := l) (fr := 0) (lo := 0) (full := false) (M := 40) (n := 153) (u := 6051) (pc := 0) (L := [xf 8 24, xi y, xun]) (st := []) (h := h) (inl := []) (n' := 80) (sp := [2]) (o := []) rfl rfl ⟨rfl, rfl, rfl⟩ rfl ⟨Nat.le_of_eq hg.2.2.2.1, Nat.le_of_eq hg.2.2.2.2⟩ trivial
  obtain ⟨v, pcR, L', y1, y2, y3, y4⟩ := ck_regL24 l Z y N h hg hn hN hz N (Int32.ofInt (0)) (by decide) (by rw [show (Int32.ofInt (0)).toInt = 0 from rfl]; omega)
  exact ⟨v, CX_ofT (by decide) rfl rfl trivial y2 y3 ⟨Nat.le_of_eq hg.2.2.2.1.symm, Nat.le_of_eq hg.2.2.2.2.symm⟩ (t1.tr y1), y4⟩
set_option maxRecDepth 100000 in
set_option maxHeartbeats 2000000 in
theorem ck_perL3 (l : Launch) (Z : Nat → Int) (y : Int32) (N : Nat) (h : XH) (hg : sgood vT vR vE 153 6051 h) (hn : (xI h 3 9).toInt = N) (hN : N ≤ 8) (hz : ∀ k, k < N → (xI h 11 k).toInt = Z k) : ∀ (m : Nat) (k : Int32), 0 ≤ k.toInt → k.toInt + m = N → ∃ v pcR L', XT l 0 0 false 47 153 6051 2 [xf 8 3, xi y, xi k] [] h pcR L' [xi v] h ∧ XE 47 pcR [xi v] ∧ L'.length = 3 ∧ v.toInt = zfn Z y.toInt m k.toInt.toNat
  | 0, k, k0, km => by
    have t1 : XT l 0 0 false 47 153 6051 2 [xf 8 3, xi y, xi k] [] h 29 [xf 8 3, xi y, xi k] [xi (Int32.ofInt (-1))] h := XT_path (l := l) (fr := 0) (lo := 0) (full := false) (M := 47) (n := 153) (u := 6051) (pc := 2) (L := [xf 8 3, xi y, xi k]) (st := []) (h := h) (inl := []) (n' := 80) (sp := [29]) (o := [1]) rfl rfl ⟨rfl, rfl, rfl⟩ rfl ⟨Nat.le_of_eq hg.2.2.2.1, Nat.le_of_eq hg.2.2.2.2⟩ ⟨trivial, (Int32.le_iff_toInt_le.mpr (by omega))⟩
    exact ⟨_, _, _, t1, ⟨_, _, _, rfl, rfl, rfl⟩, rfl, rfl⟩
  | m + 1, k, k0, km => by
    have ek := y_suc1 k0 (by omega)
    have hk := hz k.toInt.toNat (by omega)
    by_cases c1 : (xI h (xR h 3 10) (k).toNatClampNeg) = y
    · have c1r := c1
      rw [vref hg.1 (rfl : vRf 3 10 = [11])] at c1r
      have dc1 : (xI h 11 (k).toNatClampNeg).toInt = (y).toInt := congrArg Int32.toInt c1r
      have t2 : XT l 0 0 false 47 153 6051 2 [xf 8 3, xi y, xi k] [] h 21 [xf 8 3, xi y, xi k] [xi k] h := XT_path (l := l) (fr := 0) (lo := 0) (full := false) (M := 47) (n := 153) (u := 6051) (pc := 2) (L := [xf 8 3, xi y, xi k]) (st := []) (h := h) (inl := []) (n' := 80) (sp := [21]) (o := [0, 0]) rfl rfl ⟨rfl, rfl, rfl⟩ rfl ⟨Nat.le_of_eq hg.2.2.2.1, Nat.le_of_eq hg.2.2.2.2⟩ ⟨⟨⟨⟨trivial, (fun z => absurd (Int32.le_iff_toInt_le.mp z) (by omega))⟩, (vnn hg.1 (rfl : vRf 3 10 = [11]) (by decide))⟩, (vp_of (i := k) (n := 8) (by omega) (by omega))⟩, c1⟩
      have d_ : (xI h 11 k.toInt.toNat).toInt = y.toInt := dc1
      rw [hk] at d_
      exact ⟨_, _, _, t2, ⟨_, _, _, rfl, rfl, rfl⟩, rfl, by unfold zfn; rw [if_pos d_]; omega⟩
    · have c1r := c1
      rw [vref hg.1 (rfl : vRf 3 10 = [11])] at c1r
      have dc1 : ¬ (xI h 11 (k).toNatClampNeg).toInt = (y).toInt := fun z_ => c1r (Int32.toInt_inj.mp z_)
      have t3 : XT l 0 0 false 47 153 6051 2 [xf 8 3, xi y, xi k] [] h 2 [xf 8 3, xi y, xi (k + Int32.ofInt (1))] [] h := XT_path (l := l) (fr := 0) (lo := 0) (full := false) (M := 47) (n := 153) (u := 6051) (pc := 2) (L := [xf 8 3, xi y, xi k]) (st := []) (h := h) (inl := []) (n' := 80) (sp := [2]) (o := [0, 1]) rfl rfl ⟨rfl, rfl, rfl⟩ rfl ⟨Nat.le_of_eq hg.2.2.2.1, Nat.le_of_eq hg.2.2.2.2⟩ ⟨⟨⟨⟨trivial, (fun z => absurd (Int32.le_iff_toInt_le.mp z) (by omega))⟩, (vnn hg.1 (rfl : vRf 3 10 = [11]) (by decide))⟩, (vp_of (i := k) (n := 8) (by omega) (by omega))⟩, c1⟩
      have d_ : (xI h 11 k.toInt.toNat).toInt ≠ y.toInt := dc1
      rw [hk] at d_
      obtain ⟨v, pcR, L', y1, y2, y3, y4⟩ := ck_perL3 l Z y N h hg hn hN hz m (k + (Int32.ofInt (1))) (by omega) (by omega)
      exact ⟨v, pcR, L', t3.tr y1, y2, y3, by rw [y4, show (k + (Int32.ofInt (1))).toInt.toNat = k.toInt.toNat + 1 by omega]; exact (if_neg d_).symm⟩
set_option maxRecDepth 100000 in
set_option maxHeartbeats 2000000 in
theorem ck_per3 (l : Launch) (Z : Nat → Int) (y : Int32) (N : Nat) (h : XH) (hg : sgood vT vR vE 153 6051 h) (hn : (xI h 3 9).toInt = N) (hN : N ≤ 8) (hz : ∀ k, k < N → (xI h 11 k).toInt = Z k) : ∃ v, CX l 0 0 false 47 [xf 8 3, xi y] h [xi v] h ∧ v.toInt = zfn Z y.toInt N 0 := by
  have t1 : XT l 0 0 false 47 153 6051 0 [xf 8 3, xi y, xun] [] h 2 [xf 8 3, xi y, xi (Int32.ofInt (0))] [] h := XT_path (l := l) (fr := 0) (lo := 0) (full := false) (M := 47) (n := 153) (u := 6051) (pc := 0) (L := [xf 8 3, xi y, xun]) (st := []) (h := h) (inl := []) (n' := 80) (sp := [2]) (o := []) rfl rfl ⟨rfl, rfl, rfl⟩ rfl ⟨Nat.le_of_eq hg.2.2.2.1, Nat.le_of_eq hg.2.2.2.2⟩ trivial
  obtain ⟨v, pcR, L', y1, y2, y3, y4⟩ := ck_perL3 l Z y N h hg hn hN hz N (Int32.ofInt (0)) (by decide) (by rw [show (Int32.ofInt (0)).toInt = 0 from rfl]; omega)
  exact ⟨v, CX_ofT (by decide) rfl rfl trivial y2 y3 ⟨Nat.le_of_eq hg.2.2.2.1.symm, Nat.le_of_eq hg.2.2.2.2.symm⟩ (t1.tr y1), y4⟩
set_option maxRecDepth 100000 in
set_option maxHeartbeats 2000000 in
theorem ck_perL24 (l : Launch) (Z : Nat → Int) (y : Int32) (N : Nat) (h : XH) (hg : sgood vT vR vE 153 6051 h) (hn : (xI h 24 9).toInt = N) (hN : N ≤ 8) (hz : ∀ k, k < N → (xI h 32 k).toInt = Z k) : ∀ (m : Nat) (k : Int32), 0 ≤ k.toInt → k.toInt + m = N → ∃ v pcR L', XT l 0 0 false 47 153 6051 2 [xf 8 24, xi y, xi k] [] h pcR L' [xi v] h ∧ XE 47 pcR [xi v] ∧ L'.length = 3 ∧ v.toInt = zfn Z y.toInt m k.toInt.toNat
  | 0, k, k0, km => by
    have t1 : XT l 0 0 false 47 153 6051 2 [xf 8 24, xi y, xi k] [] h 29 [xf 8 24, xi y, xi k] [xi (Int32.ofInt (-1))] h := XT_path (l := l) (fr := 0) (lo := 0) (full := false) (M := 47) (n := 153) (u := 6051) (pc := 2) (L := [xf 8 24, xi y, xi k]) (st := []) (h := h) (inl := []) (n' := 80) (sp := [29]) (o := [1]) rfl rfl ⟨rfl, rfl, rfl⟩ rfl ⟨Nat.le_of_eq hg.2.2.2.1, Nat.le_of_eq hg.2.2.2.2⟩ ⟨trivial, (Int32.le_iff_toInt_le.mpr (by omega))⟩
    exact ⟨_, _, _, t1, ⟨_, _, _, rfl, rfl, rfl⟩, rfl, rfl⟩
  | m + 1, k, k0, km => by
    have ek := y_suc1 k0 (by omega)
    have hk := hz k.toInt.toNat (by omega)
    by_cases c1 : (xI h (xR h 24 10) (k).toNatClampNeg) = y
    · have c1r := c1
      rw [vref hg.1 (rfl : vRf 24 10 = [32])] at c1r
      have dc1 : (xI h 32 (k).toNatClampNeg).toInt = (y).toInt := congrArg Int32.toInt c1r
      have t2 : XT l 0 0 false 47 153 6051 2 [xf 8 24, xi y, xi k] [] h 21 [xf 8 24, xi y, xi k] [xi k] h := XT_path (l := l) (fr := 0) (lo := 0) (full := false) (M := 47) (n := 153) (u := 6051) (pc := 2) (L := [xf 8 24, xi y, xi k]) (st := []) (h := h) (inl := []) (n' := 80) (sp := [21]) (o := [0, 0]) rfl rfl ⟨rfl, rfl, rfl⟩ rfl ⟨Nat.le_of_eq hg.2.2.2.1, Nat.le_of_eq hg.2.2.2.2⟩ ⟨⟨⟨⟨trivial, (fun z => absurd (Int32.le_iff_toInt_le.mp z) (by omega))⟩, (vnn hg.1 (rfl : vRf 24 10 = [32]) (by decide))⟩, (vp_of (i := k) (n := 8) (by omega) (by omega))⟩, c1⟩
      have d_ : (xI h 32 k.toInt.toNat).toInt = y.toInt := dc1
      rw [hk] at d_
      exact ⟨_, _, _, t2, ⟨_, _, _, rfl, rfl, rfl⟩, rfl, by unfold zfn; rw [if_pos d_]; omega⟩
    · have c1r := c1
      rw [vref hg.1 (rfl : vRf 24 10 = [32])] at c1r
      have dc1 : ¬ (xI h 32 (k).toNatClampNeg).toInt = (y).toInt := fun z_ => c1r (Int32.toInt_inj.mp z_)
      have t3 : XT l 0 0 false 47 153 6051 2 [xf 8 24, xi y, xi k] [] h 2 [xf 8 24, xi y, xi (k + Int32.ofInt (1))] [] h := XT_path (l := l) (fr := 0) (lo := 0) (full := false) (M := 47) (n := 153) (u := 6051) (pc := 2) (L := [xf 8 24, xi y, xi k]) (st := []) (h := h) (inl := []) (n' := 80) (sp := [2]) (o := [0, 1]) rfl rfl ⟨rfl, rfl, rfl⟩ rfl ⟨Nat.le_of_eq hg.2.2.2.1, Nat.le_of_eq hg.2.2.2.2⟩ ⟨⟨⟨⟨trivial, (fun z => absurd (Int32.le_iff_toInt_le.mp z) (by omega))⟩, (vnn hg.1 (rfl : vRf 24 10 = [32]) (by decide))⟩, (vp_of (i := k) (n := 8) (by omega) (by omega))⟩, c1⟩
      have d_ : (xI h 32 k.toInt.toNat).toInt ≠ y.toInt := dc1
      rw [hk] at d_
      obtain ⟨v, pcR, L', y1, y2, y3, y4⟩ := ck_perL24 l Z y N h hg hn hN hz m (k + (Int32.ofInt (1))) (by omega) (by omega)
      exact ⟨v, pcR, L', t3.tr y1, y2, y3, by rw [y4, show (k + (Int32.ofInt (1))).toInt.toNat = k.toInt.toNat + 1 by omega]; exact (if_neg d_).symm⟩
set_option maxRecDepth 100000 in
set_option maxHeartbeats 2000000 in
theorem ck_per24 (l : Launch) (Z : Nat → Int) (y : Int32) (N : Nat) (h : XH) (hg : sgood vT vR vE 153 6051 h) (hn : (xI h 24 9).toInt = N) (hN : N ≤ 8) (hz : ∀ k, k < N → (xI h 32 k).toInt = Z k) : ∃ v, CX l 0 0 false 47 [xf 8 24, xi y] h [xi v] h ∧ v.toInt = zfn Z y.toInt N 0 := by
  have t1 : XT l 0 0 false 47 153 6051 0 [xf 8 24, xi y, xun] [] h 2 [xf 8 24, xi y, xi (Int32.ofInt (0))] [] h := XT_path (l := l) (fr := 0) (lo := 0) (full := false) (M := 47) (n := 153) (u := 6051) (pc := 0) (L := [xf 8 24, xi y, xun]) (st := []) (h := h) (inl := []) (n' := 80) (sp := [2]) (o := []) rfl rfl ⟨rfl, rfl, rfl⟩ rfl ⟨Nat.le_of_eq hg.2.2.2.1, Nat.le_of_eq hg.2.2.2.2⟩ trivial
  obtain ⟨v, pcR, L', y1, y2, y3, y4⟩ := ck_perL24 l Z y N h hg hn hN hz N (Int32.ofInt (0)) (by decide) (by rw [show (Int32.ofInt (0)).toInt = 0 from rfl]; omega)
  exact ⟨v, CX_ofT (by decide) rfl rfl trivial y2 y3 ⟨Nat.le_of_eq hg.2.2.2.1.symm, Nat.le_of_eq hg.2.2.2.2.symm⟩ (t1.tr y1), y4⟩
set_option maxRecDepth 100000 in
set_option maxHeartbeats 2000000 in
theorem ck_debL3 (l : Launch) (Z : Nat → Int) (y : Int32) (N : Nat) (h : XH) (hg : sgood vT vR vE 153 6051 h) (hn : (xI h 3 14).toInt = N) (hN : N ≤ 6) (hz : ∀ k, k < N → (xI h 15 k).toInt = Z k) : ∀ (m : Nat) (k : Int32), 0 ≤ k.toInt → k.toInt + m = N → ∃ v pcR L', XT l 0 0 false 49 153 6051 2 [xf 8 3, xi y, xi k] [] h pcR L' [xi v] h ∧ XE 49 pcR [xi v] ∧ L'.length = 3 ∧ v.toInt = zfn Z y.toInt m k.toInt.toNat
  | 0, k, k0, km => by
    have t1 : XT l 0 0 false 49 153 6051 2 [xf 8 3, xi y, xi k] [] h 29 [xf 8 3, xi y, xi k] [xi (Int32.ofInt (-1))] h := XT_path (l := l) (fr := 0) (lo := 0) (full := false) (M := 49) (n := 153) (u := 6051) (pc := 2) (L := [xf 8 3, xi y, xi k]) (st := []) (h := h) (inl := []) (n' := 80) (sp := [29]) (o := [1]) rfl rfl ⟨rfl, rfl, rfl⟩ rfl ⟨Nat.le_of_eq hg.2.2.2.1, Nat.le_of_eq hg.2.2.2.2⟩ ⟨trivial, (Int32.le_iff_toInt_le.mpr (by omega))⟩
    exact ⟨_, _, _, t1, ⟨_, _, _, rfl, rfl, rfl⟩, rfl, rfl⟩
  | m + 1, k, k0, km => by
    have ek := y_suc1 k0 (by omega)
    have hk := hz k.toInt.toNat (by omega)
    by_cases c1 : (xI h (xR h 3 15) (k).toNatClampNeg) = y
    · have c1r := c1
      rw [vref hg.1 (rfl : vRf 3 15 = [15])] at c1r
      have dc1 : (xI h 15 (k).toNatClampNeg).toInt = (y).toInt := congrArg Int32.toInt c1r
      have t2 : XT l 0 0 false 49 153 6051 2 [xf 8 3, xi y, xi k] [] h 21 [xf 8 3, xi y, xi k] [xi k] h := XT_path (l := l) (fr := 0) (lo := 0) (full := false) (M := 49) (n := 153) (u := 6051) (pc := 2) (L := [xf 8 3, xi y, xi k]) (st := []) (h := h) (inl := []) (n' := 80) (sp := [21]) (o := [0, 0]) rfl rfl ⟨rfl, rfl, rfl⟩ rfl ⟨Nat.le_of_eq hg.2.2.2.1, Nat.le_of_eq hg.2.2.2.2⟩ ⟨⟨⟨⟨trivial, (fun z => absurd (Int32.le_iff_toInt_le.mp z) (by omega))⟩, (vnn hg.1 (rfl : vRf 3 15 = [15]) (by decide))⟩, (vp_of (i := k) (n := 6) (by omega) (by omega))⟩, c1⟩
      have d_ : (xI h 15 k.toInt.toNat).toInt = y.toInt := dc1
      rw [hk] at d_
      exact ⟨_, _, _, t2, ⟨_, _, _, rfl, rfl, rfl⟩, rfl, by unfold zfn; rw [if_pos d_]; omega⟩
    · have c1r := c1
      rw [vref hg.1 (rfl : vRf 3 15 = [15])] at c1r
      have dc1 : ¬ (xI h 15 (k).toNatClampNeg).toInt = (y).toInt := fun z_ => c1r (Int32.toInt_inj.mp z_)
      have t3 : XT l 0 0 false 49 153 6051 2 [xf 8 3, xi y, xi k] [] h 2 [xf 8 3, xi y, xi (k + Int32.ofInt (1))] [] h := XT_path (l := l) (fr := 0) (lo := 0) (full := false) (M := 49) (n := 153) (u := 6051) (pc := 2) (L := [xf 8 3, xi y, xi k]) (st := []) (h := h) (inl := []) (n' := 80) (sp := [2]) (o := [0, 1]) rfl rfl ⟨rfl, rfl, rfl⟩ rfl ⟨Nat.le_of_eq hg.2.2.2.1, Nat.le_of_eq hg.2.2.2.2⟩ ⟨⟨⟨⟨trivial, (fun z => absurd (Int32.le_iff_toInt_le.mp z) (by omega))⟩, (vnn hg.1 (rfl : vRf 3 15 = [15]) (by decide))⟩, (vp_of (i := k) (n := 6) (by omega) (by omega))⟩, c1⟩
      have d_ : (xI h 15 k.toInt.toNat).toInt ≠ y.toInt := dc1
      rw [hk] at d_
      obtain ⟨v, pcR, L', y1, y2, y3, y4⟩ := ck_debL3 l Z y N h hg hn hN hz m (k + (Int32.ofInt (1))) (by omega) (by omega)
      exact ⟨v, pcR, L', t3.tr y1, y2, y3, by rw [y4, show (k + (Int32.ofInt (1))).toInt.toNat = k.toInt.toNat + 1 by omega]; exact (if_neg d_).symm⟩
set_option maxRecDepth 100000 in
set_option maxHeartbeats 2000000 in
theorem ck_deb3 (l : Launch) (Z : Nat → Int) (y : Int32) (N : Nat) (h : XH) (hg : sgood vT vR vE 153 6051 h) (hn : (xI h 3 14).toInt = N) (hN : N ≤ 6) (hz : ∀ k, k < N → (xI h 15 k).toInt = Z k) : ∃ v, CX l 0 0 false 49 [xf 8 3, xi y] h [xi v] h ∧ v.toInt = zfn Z y.toInt N 0 := by
  have t1 : XT l 0 0 false 49 153 6051 0 [xf 8 3, xi y, xun] [] h 2 [xf 8 3, xi y, xi (Int32.ofInt (0))] [] h := XT_path (l := l) (fr := 0) (lo := 0) (full := false) (M := 49) (n := 153) (u := 6051) (pc := 0) (L := [xf 8 3, xi y, xun]) (st := []) (h := h) (inl := []) (n' := 80) (sp := [2]) (o := []) rfl rfl ⟨rfl, rfl, rfl⟩ rfl ⟨Nat.le_of_eq hg.2.2.2.1, Nat.le_of_eq hg.2.2.2.2⟩ trivial
  obtain ⟨v, pcR, L', y1, y2, y3, y4⟩ := ck_debL3 l Z y N h hg hn hN hz N (Int32.ofInt (0)) (by decide) (by rw [show (Int32.ofInt (0)).toInt = 0 from rfl]; omega)
  exact ⟨v, CX_ofT (by decide) rfl rfl trivial y2 y3 ⟨Nat.le_of_eq hg.2.2.2.1.symm, Nat.le_of_eq hg.2.2.2.2.symm⟩ (t1.tr y1), y4⟩
set_option maxRecDepth 100000 in
set_option maxHeartbeats 2000000 in
theorem ck_debL24 (l : Launch) (Z : Nat → Int) (y : Int32) (N : Nat) (h : XH) (hg : sgood vT vR vE 153 6051 h) (hn : (xI h 24 14).toInt = N) (hN : N ≤ 6) (hz : ∀ k, k < N → (xI h 36 k).toInt = Z k) : ∀ (m : Nat) (k : Int32), 0 ≤ k.toInt → k.toInt + m = N → ∃ v pcR L', XT l 0 0 false 49 153 6051 2 [xf 8 24, xi y, xi k] [] h pcR L' [xi v] h ∧ XE 49 pcR [xi v] ∧ L'.length = 3 ∧ v.toInt = zfn Z y.toInt m k.toInt.toNat
  | 0, k, k0, km => by
    have t1 : XT l 0 0 false 49 153 6051 2 [xf 8 24, xi y, xi k] [] h 29 [xf 8 24, xi y, xi k] [xi (Int32.ofInt (-1))] h := XT_path (l := l) (fr := 0) (lo := 0) (full := false) (M := 49) (n := 153) (u := 6051) (pc := 2) (L := [xf 8 24, xi y, xi k]) (st := []) (h := h) (inl := []) (n' := 80) (sp := [29]) (o := [1]) rfl rfl ⟨rfl, rfl, rfl⟩ rfl ⟨Nat.le_of_eq hg.2.2.2.1, Nat.le_of_eq hg.2.2.2.2⟩ ⟨trivial, (Int32.le_iff_toInt_le.mpr (by omega))⟩
    exact ⟨_, _, _, t1, ⟨_, _, _, rfl, rfl, rfl⟩, rfl, rfl⟩
  | m + 1, k, k0, km => by
    have ek := y_suc1 k0 (by omega)
    have hk := hz k.toInt.toNat (by omega)
    by_cases c1 : (xI h (xR h 24 15) (k).toNatClampNeg) = y
    · have c1r := c1
      rw [vref hg.1 (rfl : vRf 24 15 = [36])] at c1r
      have dc1 : (xI h 36 (k).toNatClampNeg).toInt = (y).toInt := congrArg Int32.toInt c1r
      have t2 : XT l 0 0 false 49 153 6051 2 [xf 8 24, xi y, xi k] [] h 21 [xf 8 24, xi y, xi k] [xi k] h := XT_path (l := l) (fr := 0) (lo := 0) (full := false) (M := 49) (n := 153) (u := 6051) (pc := 2) (L := [xf 8 24, xi y, xi k]) (st := []) (h := h) (inl := []) (n' := 80) (sp := [21]) (o := [0, 0]) rfl rfl ⟨rfl, rfl, rfl⟩ rfl ⟨Nat.le_of_eq hg.2.2.2.1, Nat.le_of_eq hg.2.2.2.2⟩ ⟨⟨⟨⟨trivial, (fun z => absurd (Int32.le_iff_toInt_le.mp z) (by omega))⟩, (vnn hg.1 (rfl : vRf 24 15 = [36]) (by decide))⟩, (vp_of (i := k) (n := 6) (by omega) (by omega))⟩, c1⟩
      have d_ : (xI h 36 k.toInt.toNat).toInt = y.toInt := dc1
      rw [hk] at d_
      exact ⟨_, _, _, t2, ⟨_, _, _, rfl, rfl, rfl⟩, rfl, by unfold zfn; rw [if_pos d_]; omega⟩
    · have c1r := c1
      rw [vref hg.1 (rfl : vRf 24 15 = [36])] at c1r
      have dc1 : ¬ (xI h 36 (k).toNatClampNeg).toInt = (y).toInt := fun z_ => c1r (Int32.toInt_inj.mp z_)
      have t3 : XT l 0 0 false 49 153 6051 2 [xf 8 24, xi y, xi k] [] h 2 [xf 8 24, xi y, xi (k + Int32.ofInt (1))] [] h := XT_path (l := l) (fr := 0) (lo := 0) (full := false) (M := 49) (n := 153) (u := 6051) (pc := 2) (L := [xf 8 24, xi y, xi k]) (st := []) (h := h) (inl := []) (n' := 80) (sp := [2]) (o := [0, 1]) rfl rfl ⟨rfl, rfl, rfl⟩ rfl ⟨Nat.le_of_eq hg.2.2.2.1, Nat.le_of_eq hg.2.2.2.2⟩ ⟨⟨⟨⟨trivial, (fun z => absurd (Int32.le_iff_toInt_le.mp z) (by omega))⟩, (vnn hg.1 (rfl : vRf 24 15 = [36]) (by decide))⟩, (vp_of (i := k) (n := 6) (by omega) (by omega))⟩, c1⟩
      have d_ : (xI h 36 k.toInt.toNat).toInt ≠ y.toInt := dc1
      rw [hk] at d_
      obtain ⟨v, pcR, L', y1, y2, y3, y4⟩ := ck_debL24 l Z y N h hg hn hN hz m (k + (Int32.ofInt (1))) (by omega) (by omega)
      exact ⟨v, pcR, L', t3.tr y1, y2, y3, by rw [y4, show (k + (Int32.ofInt (1))).toInt.toNat = k.toInt.toNat + 1 by omega]; exact (if_neg d_).symm⟩
set_option maxRecDepth 100000 in
set_option maxHeartbeats 2000000 in
theorem ck_deb24 (l : Launch) (Z : Nat → Int) (y : Int32) (N : Nat) (h : XH) (hg : sgood vT vR vE 153 6051 h) (hn : (xI h 24 14).toInt = N) (hN : N ≤ 6) (hz : ∀ k, k < N → (xI h 36 k).toInt = Z k) : ∃ v, CX l 0 0 false 49 [xf 8 24, xi y] h [xi v] h ∧ v.toInt = zfn Z y.toInt N 0 := by
  have t1 : XT l 0 0 false 49 153 6051 0 [xf 8 24, xi y, xun] [] h 2 [xf 8 24, xi y, xi (Int32.ofInt (0))] [] h := XT_path (l := l) (fr := 0) (lo := 0) (full := false) (M := 49) (n := 153) (u := 6051) (pc := 0) (L := [xf 8 24, xi y, xun]) (st := []) (h := h) (inl := []) (n' := 80) (sp := [2]) (o := []) rfl rfl ⟨rfl, rfl, rfl⟩ rfl ⟨Nat.le_of_eq hg.2.2.2.1, Nat.le_of_eq hg.2.2.2.2⟩ trivial
  obtain ⟨v, pcR, L', y1, y2, y3, y4⟩ := ck_debL24 l Z y N h hg hn hN hz N (Int32.ofInt (0)) (by decide) (by rw [show (Int32.ofInt (0)).toInt = 0 from rfl]; omega)
  exact ⟨v, CX_ofT (by decide) rfl rfl trivial y2 y3 ⟨Nat.le_of_eq hg.2.2.2.1.symm, Nat.le_of_eq hg.2.2.2.2.symm⟩ (t1.tr y1), y4⟩
