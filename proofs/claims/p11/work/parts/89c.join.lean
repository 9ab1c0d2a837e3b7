/-! THE CLASS READS A LINE: a join. -/
/-- what the second name of a join comes to, the first one's region, its own and the join of both known -/
def sJo (b : Nat → Int) (n q : Nat) (w1 w2 jn : Int) : Int := if tkc b n q = 3 then (if w2 = -1 then 4 else if ¬ jn = -1 then 3 else if w1 = w2 then 5 else 0) else 1
theorem sTn_v (b : Nat → Int) (n q : Nat) (w : Int) : (¬ tkc b n q = 3 → sTn b n q w = 1) ∧ (tkc b n q = 3 → w = -1 → sTn b n q w = 4) ∧ (tkc b n q = 3 → ¬ w = -1 → sTn b n q w = 0) := by
  unfold sTn
  exact ⟨fun h => if_neg h, fun h z => by rw [if_pos h, if_pos z], fun h z => by rw [if_pos h, if_neg z]⟩
theorem sJo_v (b : Nat → Int) (n q : Nat) (w1 w2 jn : Int) : (¬ tkc b n q = 3 → sJo b n q w1 w2 jn = 1) ∧ (tkc b n q = 3 → w2 = -1 → sJo b n q w1 w2 jn = 4) ∧ (tkc b n q = 3 → ¬ w2 = -1 → ¬ jn = -1 → sJo b n q w1 w2 jn = 3) ∧ (tkc b n q = 3 → ¬ w2 = -1 → jn = -1 → w1 = w2 → sJo b n q w1 w2 jn = 5) ∧ (tkc b n q = 3 → ¬ w2 = -1 → jn = -1 → ¬ w1 = w2 → sJo b n q w1 w2 jn = 0) := by
  unfold sJo
  exact ⟨fun h => if_neg h, fun h z => by rw [if_pos h, if_pos z], fun h z y => by rw [if_pos h, if_neg z, if_pos y], fun h z y x => by rw [if_pos h, if_neg z, if_neg (fun u => u y), if_pos x], fun h z y x => by rw [if_pos h, if_neg z, if_neg (fun u => u y), if_neg x]⟩
theorem zjn_no {O P : Nat → Int} {a o : Int} : ∀ (m k : Nat), zjn O P a o m k = -1 → ∀ j, k ≤ j → j < k + m → ¬ (O j = a ∧ P j = o) ∧ ¬ (O j = o ∧ P j = a)
  | 0, k, _, j, h1, h2 => by omega
  | m + 1, k, e, j, h1, h2 => by
    unfold zjn at e
    split at e
    · omega
    · rename_i ne
      by_cases z : j = k
      · rw [z]; omega
      · exact zjn_no m (k + 1) e j (by omega) (by omega)
theorem zfn_b {Z : Nat → Int} {x : Int} : ∀ (m k : Nat), zfn Z x m k = -1 ∨ ((k : Int) ≤ zfn Z x m k ∧ zfn Z x m k < ((k + m : Nat) : Int))
  | 0, _ => Or.inl rfl
  | m + 1, k => by
    unfold zfn
    split
    · right; omega
    · rcases zfn_b (Z := Z) (x := x) m (k + 1) with e | e
      · left; exact e
      · right; omega
/-- what a line of a join comes to: the fault (0: none), its place -/
def sJn (b : Nat → Int) (n : Nat) (Z : Nat → Int) (R : Nat) (O P : Nat → Int) (N q : Nat) : Int × Nat :=
  if 9 ≤ N then (2, q) else
  if ¬ sTn b n (nxt b n q) (zfn Z (tkv b n (nxt b n q)) R 0) = 0 then (sTn b n (nxt b n q) (zfn Z (tkv b n (nxt b n q)) R 0), nxt b n q) else
  if ¬ sJo b n (nxt b n (nxt b n q)) (zfn Z (tkv b n (nxt b n q)) R 0) (zfn Z (tkv b n (nxt b n (nxt b n q))) R 0) (zjn O P (zfn Z (tkv b n (nxt b n q)) R 0) (zfn Z (tkv b n (nxt b n (nxt b n q))) R 0) N 0) = 0 then (sJo b n (nxt b n (nxt b n q)) (zfn Z (tkv b n (nxt b n q)) R 0) (zfn Z (tkv b n (nxt b n (nxt b n q))) R 0) (zjn O P (zfn Z (tkv b n (nxt b n q)) R 0) (zfn Z (tkv b n (nxt b n (nxt b n q))) R 0) N 0), nxt b n (nxt b n q)) else
  if ¬ sNu b n (nxt b n (nxt b n (nxt b n q))) 1 9 = 0 then (sNu b n (nxt b n (nxt b n (nxt b n q))) 1 9, nxt b n (nxt b n (nxt b n q))) else (0, 0)
set_option maxRecDepth 100000 in
set_option maxHeartbeats 4000000 in
theorem ck_join3 (l : Launch) (b : Nat → Int) (n q R N : Nat) (Z O P : Nat → Int) (h : XH) (hg : sgood vT vR vE 153 6051 h) (kt : kT b n q h) (f0 : (xI h 45 2).toInt = 0) (r4 : xR h 45 4 = 3) (hr : (xI h 3 0).toInt = R) (hz : ∀ k, k < R → (xI h 4 k).toInt = Z k) (hn : (xI h 3 5).toInt = N) (ho : ∀ k, k < N → (xI h 8 k).toInt = O k) (hp : ∀ k, k < N → (xI h 9 k).toInt = P k) : ∃ h', CX l 8 260 false 43 [xf 7 45] h [] h' ∧ vG ([(3, 5, false), (8, 0, true), (9, 0, true), (10, 0, true), (45, 2, false), (45, 3, false), (45, 6, false), (45, 7, false), (45, 8, false), (45, 9, false)], []) h h' ∧ (((sJn b n Z R O P N q).1 = 0 ∧ (xI h' 45 2).toInt = 0 ∧ kT b n (nxt b n (nxt b n (nxt b n (nxt b n q)))) h' ∧ (xI h' 3 5).toInt = (N + 1 : Nat) ∧ N < 9 ∧ (xI h' 8 N).toInt = (zfn Z (tkv b n (nxt b n q)) R 0) ∧ (xI h' 9 N).toInt = (zfn Z (tkv b n (nxt b n (nxt b n q))) R 0) ∧ (xI h' 10 N).toInt = tkv b n (nxt b n (nxt b n (nxt b n q))) ∧ (∀ cc k, k ≠ N → cc = 8 ∨ cc = 9 ∨ cc = 10 → xI h' cc k = xI h cc k)) ∨ (¬ (sJn b n Z R O P N q).1 = 0 ∧ (xI h' 45 2).toInt = (sJn b n Z R O P N q).1 ∧ (xI h' 45 3).toInt = (sJn b n Z R O P N q).2 ∧ kR b n h')) := by
  have e_0 : (0 : Int32).toInt = 0 := rfl
  obtain ⟨kr, hn7, hq, kq, kc, kv, ke⟩ := id kt
  have bN : 0 ≤ (xI h 3 5).toInt ∧ (xI h 3 5).toInt ≤ 9 := vbnd hg.1 3 5
  have bR : 0 ≤ (xI h 3 0).toInt ∧ (xI h 3 0).toInt ≤ 6 := vbnd hg.1 3 0
  by_cases c1 : (xI h (xR h 45 4) 5) < (Int32.ofInt (9))
  · have e_9 : (Int32.ofInt (9)).toInt = 9 := rfl
    have c1r := c1
    rw [r4] at c1r
    have dc1 : (xI h 3 5).toInt < (Int32.ofInt (9)).toInt := Int32.lt_iff_toInt_lt.mp c1r
    have t2 : XT l 8 260 false 43 153 6051 0 [xf 7 45, xun, xun, xun, xun] [] h 21 [xf 7 45, xi (xI h (xR h 45 4) 5), xun, xun, xun] [xf 7 45] h := XT_path (l := l) (fr := 8) (lo := 260) (full := false) (M := 43) (n := 153) (u := 6051) (pc := 0) (L := [xf 7 45, xun, xun, xun, xun]) (st := []) (h := h) (inl := [39]) (n' := 160) (sp := [21]) (o := [1]) rfl rfl ⟨rfl, rfl, rfl⟩ rfl ⟨Nat.le_of_eq hg.2.2.2.1, Nat.le_of_eq hg.2.2.2.2⟩ ⟨⟨trivial, (show ¬ xR h 45 4 = 0 from by rw [r4]; decide)⟩, c1⟩
    rw [r4] at t2
    obtain ⟨h1, cc1, g1, k1⟩ := ck_adv l b n q h hg kt
    have f1 : (xI h1 45 2).toInt = 0 := by rw [g1.2.1 45 2 rfl]; exact f0
    have G1 : vG ([(45, 2, false), (45, 3, false), (45, 6, false), (45, 7, false), (45, 8, false), (45, 9, false)], []) h h1 := ((vG.rf hg) : vG ([(45, 2, false), (45, 3, false), (45, 6, false), (45, 7, false), (45, 8, false), (45, 9, false)], []) h h).tr ⟨g1.1, g1.2.mono rfl rfl⟩
    have rr1 : xR h1 45 4 = 3 := (G1.2.2 45 4 rfl).trans r4
    have t3 : XT l 8 260 false 43 153 6051 21 [xf 7 45, xi (xI h 3 5), xun, xun, xun] [xf 7 45] h 24 [xf 7 45, xi (xI h 3 5), xun, xun, xun] [] h1 := XT_call (l := l) (fr := 8) (lo := 260) (full := false) (M := 43) (n := 153) (u := 6051) (pc := 21) (L := [xf 7 45, xi (xI h 3 5), xun, xun, xun]) (st := [xf 7 45]) (h := h) (i := .invokevirtual 19) (aux := 1) (nx := 24) (K := 19) (vs := [xf 7 45]) (rs := []) (rest := []) rfl rfl rfl rfl rfl rfl cc1 (by decide) (by decide) (Nat.le_of_ble_eq_true rfl) ⟨Nat.le_of_eq g1.1.2.2.2.1, Nat.le_of_eq g1.1.2.2.2.2⟩
    have t4 := t2.tr t3
    have t5 : XT l 8 260 false 43 153 6051 24 [xf 7 45, xi (xI h 3 5), xun, xun, xun] [] h1 33 [xf 7 45, xi (xI h 3 5), xun, xun, xun] [xi (xI h1 45 9), xf 8 (xR h1 45 4), xf 7 45] h1 := XT_path (l := l) (fr := 8) (lo := 260) (full := false) (M := 43) (n := 153) (u := 6051) (pc := 24) (L := [xf 7 45, xi (xI h 3 5), xun, xun, xun]) (st := []) (h := h1) (inl := [39]) (n' := 160) (sp := [33]) (o := []) rfl rfl ⟨rfl, rfl, rfl⟩ rfl ⟨Nat.le_of_eq g1.1.2.2.2.1, Nat.le_of_eq g1.1.2.2.2.2⟩ ⟨trivial, (show ¬ xR h1 45 4 = 0 from by rw [rr1]; decide)⟩
    rw [rr1] at t5
    have t6 := t4.tr t5
    obtain ⟨v2, cc2, ev2⟩ := ck_reg3 l Z ((xI h1 45 9)) R h1 g1.1 (by rw [G1.2.1 3 0 rfl]; exact hr) (by omega) (fun k hk => by rw [G1.2.1 4 k rfl]; exact hz k hk)
    rw [k1.2.2.2.2.2.1] at ev2
    have t7 : XT l 8 260 false 43 153 6051 33 [xf 7 45, xi (xI h 3 5), xun, xun, xun] [xi (xI h1 45 9), xf 8 3, xf 7 45] h1 36 [xf 7 45, xi (xI h 3 5), xun, xun, xun] [xi v2, xf 7 45] h1 := XT_call (l := l) (fr := 8) (lo := 260) (full := false) (M := 43) (n := 153) (u := 6051) (pc := 33) (L := [xf 7 45, xi (xI h 3 5), xun, xun, xun]) (st := [xi (xI h1 45 9), xf 8 3, xf 7 45]) (h := h1) (i := .invokevirtual 40) (aux := 2) (nx := 36) (K := 40) (vs := [xf 8 3, xi (xI h1 45 9)]) (rs := [xi v2]) (rest := [xf 7 45]) rfl rfl rfl rfl rfl rfl cc2 (by decide) (by decide) (Nat.le_of_ble_eq_true rfl) ⟨Nat.le_of_eq g1.1.2.2.2.1, Nat.le_of_eq g1.1.2.2.2.2⟩
    have t8 := t6.tr t7
    obtain ⟨v3, h3, cc3, g3, ev3, o3⟩ := ck_told0 l b n (nxt b n q) (v2) h1 g1.1 k1 f1
    rw [ev2] at o3
    have ev3 := (congrArg Int32.toInt ev3).trans ev2
    have G3 : vG ([(45, 2, false), (45, 3, false), (45, 6, false), (45, 7, false), (45, 8, false), (45, 9, false)], []) h h3 := (G1 : vG ([(45, 2, false), (45, 3, false), (45, 6, false), (45, 7, false), (45, 8, false), (45, 9, false)], []) h h1).tr g3
    have rr3 : xR h3 45 4 = 3 := (G3.2.2 45 4 rfl).trans r4
    rcases o3 with ⟨s3, f3, k3⟩ | ⟨s3, f3, pl3, k3⟩
    · have t9 : XT l 8 260 false 43 153 6051 36 [xf 7 45, xi (xI h 3 5), xun, xun, xun] [xi v2, xf 7 45] h1 39 [xf 7 45, xi (xI h 3 5), xun, xun, xun] [xi v3] h3 := XT_call (l := l) (fr := 8) (lo := 260) (full := false) (M := 43) (n := 153) (u := 6051) (pc := 36) (L := [xf 7 45, xi (xI h 3 5), xun, xun, xun]) (st := [xi v2, xf 7 45]) (h := h1) (i := .invokevirtual 44) (aux := 2) (nx := 39) (K := 44) (vs := [xf 7 45, xi v2]) (rs := [xi v3]) (rest := []) rfl rfl rfl rfl rfl rfl cc3 (by decide) (by decide) (Nat.le_of_ble_eq_true rfl) ⟨Nat.le_of_eq g3.1.2.2.2.1, Nat.le_of_eq g3.1.2.2.2.2⟩
      have t10 := t8.tr t9
      have t11 : XT l 8 260 false 43 153 6051 39 [xf 7 45, xi (xI h 3 5), xun, xun, xun] [xi v3] h3 48 [xf 7 45, xi (xI h 3 5), xi v3, xun, xun] [xi (xI h3 45 9), xf 8 (xR h3 45 4)] h3 := XT_path (l := l) (fr := 8) (lo := 260) (full := false) (M := 43) (n := 153) (u := 6051) (pc := 39) (L := [xf 7 45, xi (xI h 3 5), xun, xun, xun]) (st := [xi v3]) (h := h3) (inl := [39]) (n' := 160) (sp := [48]) (o := []) rfl rfl ⟨rfl, rfl, rfl⟩ rfl ⟨Nat.le_of_eq g3.1.2.2.2.1, Nat.le_of_eq g3.1.2.2.2.2⟩ ⟨trivial, (show ¬ xR h3 45 4 = 0 from by rw [rr3]; decide)⟩
      rw [rr3] at t11
      have t12 := t10.tr t11
      obtain ⟨v4, cc4, ev4⟩ := ck_reg3 l Z ((xI h3 45 9)) R h3 g3.1 (by rw [G3.2.1 3 0 rfl]; exact hr) (by omega) (fun k hk => by rw [G3.2.1 4 k rfl]; exact hz k hk)
      rw [k3.2.2.2.2.2.1] at ev4
      have t13 : XT l 8 260 false 43 153 6051 48 [xf 7 45, xi (xI h 3 5), xi v3, xun, xun] [xi (xI h3 45 9), xf 8 3] h3 51 [xf 7 45, xi (xI h 3 5), xi v3, xun, xun] [xi v4] h3 := XT_call (l := l) (fr := 8) (lo := 260) (full := false) (M := 43) (n := 153) (u := 6051) (pc := 48) (L := [xf 7 45, xi (xI h 3 5), xi v3, xun, xun]) (st := [xi (xI h3 45 9), xf 8 3]) (h := h3) (i := .invokevirtual 40) (aux := 2) (nx := 51) (K := 40) (vs := [xf 8 3, xi (xI h3 45 9)]) (rs := [xi v4]) (rest := []) rfl rfl rfl rfl rfl rfl cc4 (by decide) (by decide) (Nat.le_of_ble_eq_true rfl) ⟨Nat.le_of_eq g3.1.2.2.2.1, Nat.le_of_eq g3.1.2.2.2.2⟩
      have t14 := t12.tr t13
      by_cases c15 : (xI h3 45 7) = (Int32.ofInt (3))
      · have e_3 : (Int32.ofInt (3)).toInt = 3 := rfl
        have dc15 : (xI h3 45 7).toInt = (Int32.ofInt (3)).toInt := congrArg Int32.toInt c15
        by_cases c16 : v4 = (Int32.ofInt (-1))
        · have e_m1 : (Int32.ofInt (-1)).toInt = -1 := rfl
          have dc16 : (v4).toInt = (Int32.ofInt (-1)).toInt := congrArg Int32.toInt c16
          have t17 : XT l 8 260 false 43 153 6051 51 [xf 7 45, xi (xI h 3 5), xi v3, xun, xun] [xi v4] h3 105 [xf 7 45, xi (xI h 3 5), xi v3, xi v4, xun] [xi v4, xf 7 45] h3 := XT_path (l := l) (fr := 8) (lo := 260) (full := false) (M := 43) (n := 153) (u := 6051) (pc := 51) (L := [xf 7 45, xi (xI h 3 5), xi v3, xun, xun]) (st := [xi v4]) (h := h3) (inl := [39]) (n' := 160) (sp := [105]) (o := [0, 0, 1]) rfl rfl ⟨rfl, rfl, rfl⟩ rfl ⟨Nat.le_of_eq g3.1.2.2.2.1, Nat.le_of_eq g3.1.2.2.2.2⟩ ⟨⟨⟨trivial, (Int32.toInt_inj.mp f3 : xI h3 45 2 = 0)⟩, c15⟩, c16⟩
          have t18 := t14.tr t17
          have jf := sJo_v b n (nxt b n (nxt b n q)) (zfn Z (tkv b n (nxt b n q)) R 0) (zfn Z (tkv b n (nxt b n (nxt b n q))) R 0) (zjn O P (zfn Z (tkv b n (nxt b n q)) R 0) (zfn Z (tkv b n (nxt b n (nxt b n q))) R 0) N 0)
          have kc2 := k3.2.2.2.2.1
          have tf := sTn_v b n (nxt b n (nxt b n q)) (zfn Z (tkv b n (nxt b n (nxt b n q))) R 0)
          have eu := ev3
          have ew2 := ev4
          obtain ⟨v5, h5, cc5, g5, ev5, o5⟩ := ck_told0 l b n (nxt b n (nxt b n q)) (v4) h3 g3.1 k3 f3
          rw [ev4] at o5
          have ev5 := (congrArg Int32.toInt ev5).trans ev4
          have G5 : vG ([(45, 2, false), (45, 3, false), (45, 6, false), (45, 7, false), (45, 8, false), (45, 9, false)], []) h h5 := (G3 : vG ([(45, 2, false), (45, 3, false), (45, 6, false), (45, 7, false), (45, 8, false), (45, 9, false)], []) h h3).tr g5
          have rr5 : xR h5 45 4 = 3 := (G5.2.2 45 4 rfl).trans r4
          rcases o5 with ⟨s5, f5, k5⟩ | ⟨s5, f5, pl5, k5⟩
          · exact absurd s5 (by omega)
          · have J5 : sJo b n (nxt b n (nxt b n q)) (zfn Z (tkv b n (nxt b n q)) R 0) (zfn Z (tkv b n (nxt b n (nxt b n q))) R 0) (zjn O P (zfn Z (tkv b n (nxt b n q)) R 0) (zfn Z (tkv b n (nxt b n (nxt b n q))) R 0) N 0) = sTn b n (nxt b n (nxt b n q)) (zfn Z (tkv b n (nxt b n (nxt b n q))) R 0) := by omega
            have nf5 : ¬ (xI h5 45 2).toInt = 0 := by rw [f5]; exact s5
            have s5 : ¬ sJo b n (nxt b n (nxt b n q)) (zfn Z (tkv b n (nxt b n q)) R 0) (zfn Z (tkv b n (nxt b n (nxt b n q))) R 0) (zjn O P (zfn Z (tkv b n (nxt b n q)) R 0) (zfn Z (tkv b n (nxt b n (nxt b n q))) R 0) N 0) = 0 := by rw [J5]; exact s5
            have f5 : (xI h5 45 2).toInt = sJo b n (nxt b n (nxt b n q)) (zfn Z (tkv b n (nxt b n q)) R 0) (zfn Z (tkv b n (nxt b n (nxt b n q))) R 0) (zjn O P (zfn Z (tkv b n (nxt b n q)) R 0) (zfn Z (tkv b n (nxt b n (nxt b n q))) R 0) N 0) := by rw [J5]; exact f5
            have t19 : XT l 8 260 false 43 153 6051 105 [xf 7 45, xi (xI h 3 5), xi v3, xi v4, xun] [xi v4, xf 7 45] h3 108 [xf 7 45, xi (xI h 3 5), xi v3, xi v4, xun] [xi v5] h5 := XT_call (l := l) (fr := 8) (lo := 260) (full := false) (M := 43) (n := 153) (u := 6051) (pc := 105) (L := [xf 7 45, xi (xI h 3 5), xi v3, xi v4, xun]) (st := [xi v4, xf 7 45]) (h := h3) (i := .invokevirtual 44) (aux := 2) (nx := 108) (K := 44) (vs := [xf 7 45, xi v4]) (rs := [xi v5]) (rest := []) rfl rfl rfl rfl rfl rfl cc5 (by decide) (by decide) (Nat.le_of_ble_eq_true rfl) ⟨Nat.le_of_eq g5.1.2.2.2.1, Nat.le_of_eq g5.1.2.2.2.2⟩
            have t20 := t18.tr t19
            have t21 : XT l 8 260 false 43 153 6051 108 [xf 7 45, xi (xI h 3 5), xi v3, xi v4, xun] [xi v5] h5 113 [xf 7 45, xi (xI h 3 5), xi v3, xi v4, xun] [xi (Int32.ofInt (9)), xi (Int32.ofInt (1)), xf 7 45] h5 := XT_path (l := l) (fr := 8) (lo := 260) (full := false) (M := 43) (n := 153) (u := 6051) (pc := 108) (L := [xf 7 45, xi (xI h 3 5), xi v3, xi v4, xun]) (st := [xi v5]) (h := h5) (inl := [39]) (n' := 160) (sp := [113]) (o := []) rfl rfl ⟨rfl, rfl, rfl⟩ rfl ⟨Nat.le_of_eq g5.1.2.2.2.1, Nat.le_of_eq g5.1.2.2.2.2⟩ trivial
            have t22 := t20.tr t21
            obtain ⟨v6, cc6⟩ := ck_num1 l ((Int32.ofInt (1))) ((Int32.ofInt (9))) h5 g5.1 nf5
            have t23 : XT l 8 260 false 43 153 6051 113 [xf 7 45, xi (xI h 3 5), xi v3, xi v4, xun] [xi (Int32.ofInt (9)), xi (Int32.ofInt (1)), xf 7 45] h5 116 [xf 7 45, xi (xI h 3 5), xi v3, xi v4, xun] [xi v6] h5 := XT_call (l := l) (fr := 8) (lo := 260) (full := false) (M := 43) (n := 153) (u := 6051) (pc := 113) (L := [xf 7 45, xi (xI h 3 5), xi v3, xi v4, xun]) (st := [xi (Int32.ofInt (9)), xi (Int32.ofInt (1)), xf 7 45]) (h := h5) (i := .invokevirtual 42) (aux := 3) (nx := 116) (K := 42) (vs := [xf 7 45, xi (Int32.ofInt (1)), xi (Int32.ofInt (9))]) (rs := [xi v6]) (rest := []) rfl rfl rfl rfl rfl rfl cc6 (by decide) (by decide) (Nat.le_of_ble_eq_true rfl) ⟨Nat.le_of_eq g5.1.2.2.2.1, Nat.le_of_eq g5.1.2.2.2.2⟩
            have t24 := t22.tr t23
            have t25 : XT l 8 260 false 43 153 6051 116 [xf 7 45, xi (xI h 3 5), xi v3, xi v4, xun] [xi v6] h5 169 [xf 7 45, xi (xI h 3 5), xi v3, xi v4, xi v6] [] h5 := XT_path (l := l) (fr := 8) (lo := 260) (full := false) (M := 43) (n := 153) (u := 6051) (pc := 116) (L := [xf 7 45, xi (xI h 3 5), xi v3, xi v4, xun]) (st := [xi v6]) (h := h5) (inl := [39]) (n' := 160) (sp := [169]) (o := [1]) rfl rfl ⟨rfl, rfl, rfl⟩ rfl ⟨Nat.le_of_eq g5.1.2.2.2.1, Nat.le_of_eq g5.1.2.2.2.2⟩ ⟨trivial, (fun z_ => nf5 (congrArg Int32.toInt z_))⟩
            have t26 := t24.tr t25
            have es := (show sJn b n Z R O P N q = _ from (if_neg (by omega)).trans ((if_neg (fun z => z s3)).trans (if_pos s5)))
            exact ⟨_, CX_ofT (h' := h5) (by decide) rfl rfl trivial ⟨_, _, _, rfl, rfl, rfl⟩ rfl ⟨Nat.le_of_eq g5.1.2.2.2.1.symm, Nat.le_of_eq g5.1.2.2.2.2.symm⟩ t26, ⟨g5.1, (G5).2.mono rfl rfl⟩, Or.inr ⟨by rw [es]; exact s5, by rw [es]; exact f5, by rw [es]; exact pl5, k5⟩⟩
        · have e_m1 : (Int32.ofInt (-1)).toInt = -1 := rfl
          have dc16 : ¬ (v4).toInt = (Int32.ofInt (-1)).toInt := fun z_ => c16 (Int32.toInt_inj.mp z_)
          have t27 : XT l 8 260 false 43 153 6051 51 [xf 7 45, xi (xI h 3 5), xi v3, xun, xun] [xi v4] h3 78 [xf 7 45, xi (xI h 3 5), xi v3, xi v4, xun] [xi v4, xi v3, xf 8 (xR h3 45 4)] h3 := XT_path (l := l) (fr := 8) (lo := 260) (full := false) (M := 43) (n := 153) (u := 6051) (pc := 51) (L := [xf 7 45, xi (xI h 3 5), xi v3, xun, xun]) (st := [xi v4]) (h := h3) (inl := [39]) (n' := 160) (sp := [78]) (o := [0, 0, 0]) rfl rfl ⟨rfl, rfl, rfl⟩ rfl ⟨Nat.le_of_eq g3.1.2.2.2.1, Nat.le_of_eq g3.1.2.2.2.2⟩ ⟨⟨⟨⟨trivial, (Int32.toInt_inj.mp f3 : xI h3 45 2 = 0)⟩, c15⟩, c16⟩, (show ¬ xR h3 45 4 = 0 from by rw [rr3]; decide)⟩
          rw [rr3] at t27
          have t28 := t14.tr t27
          obtain ⟨v7, cc7, ev7⟩ := ck_joi3 l O P (v3) (v4) N h3 g3.1 (by rw [G3.2.1 3 5 rfl]; exact hn) (by omega) (fun k hk => by rw [G3.2.1 8 k rfl]; exact ho k hk) (fun k hk => by rw [G3.2.1 9 k rfl]; exact hp k hk)
          rw [ev3, ev4] at ev7
          have t29 : XT l 8 260 false 43 153 6051 78 [xf 7 45, xi (xI h 3 5), xi v3, xi v4, xun] [xi v4, xi v3, xf 8 3] h3 81 [xf 7 45, xi (xI h 3 5), xi v3, xi v4, xun] [xi v7] h3 := XT_call (l := l) (fr := 8) (lo := 260) (full := false) (M := 43) (n := 153) (u := 6051) (pc := 78) (L := [xf 7 45, xi (xI h 3 5), xi v3, xi v4, xun]) (st := [xi v4, xi v3, xf 8 3]) (h := h3) (i := .invokevirtual 45) (aux := 3) (nx := 81) (K := 45) (vs := [xf 8 3, xi v3, xi v4]) (rs := [xi v7]) (rest := []) rfl rfl rfl rfl rfl rfl cc7 (by decide) (by decide) (Nat.le_of_ble_eq_true rfl) ⟨Nat.le_of_eq g3.1.2.2.2.1, Nat.le_of_eq g3.1.2.2.2.2⟩
          have t30 := t28.tr t29
          by_cases c31 : v7 = (Int32.ofInt (-1))
          · have e_m1 : (Int32.ofInt (-1)).toInt = -1 := rfl
            have dc31 : (v7).toInt = (Int32.ofInt (-1)).toInt := congrArg Int32.toInt c31
            by_cases c32 : v3 = v4
            · have dc32 : (v3).toInt = (v4).toInt := congrArg Int32.toInt c32
              have t33 : XT l 8 260 false 43 153 6051 81 [xf 7 45, xi (xI h 3 5), xi v3, xi v4, xun] [xi v7] h3 105 [xf 7 45, xi (xI h 3 5), xi v3, xi v4, xun] [xi v4, xf 7 45] (xsetI (xsetI h3 45 2 (Int32.ofInt (5))) 45 3 (xI h3 45 8)) := XT_path (l := l) (fr := 8) (lo := 260) (full := false) (M := 43) (n := 153) (u := 6051) (pc := 81) (L := [xf 7 45, xi (xI h 3 5), xi v3, xi v4, xun]) (st := [xi v7]) (h := h3) (inl := [39]) (n' := 160) (sp := [105]) (o := [1, 0, 0]) rfl rfl ⟨rfl, rfl, rfl⟩ rfl ⟨Nat.le_of_eq g3.1.2.2.2.1, Nat.le_of_eq g3.1.2.2.2.2⟩ ⟨⟨⟨trivial, c31⟩, c32⟩, (Int32.toInt_inj.mp f3 : xI h3 45 2 = 0)⟩
              have t34 := t30.tr t33
              have jf := sJo_v b n (nxt b n (nxt b n q)) (zfn Z (tkv b n (nxt b n q)) R 0) (zfn Z (tkv b n (nxt b n (nxt b n q))) R 0) (zjn O P (zfn Z (tkv b n (nxt b n q)) R 0) (zfn Z (tkv b n (nxt b n (nxt b n q))) R 0) N 0)
              have kc2 := k3.2.2.2.2.1
              have tf := sTn_v b n (nxt b n (nxt b n q)) (zfn Z (tkv b n (nxt b n (nxt b n q))) R 0)
              have eu := ev3
              have ew2 := ev4
              have ejn := ev7
              have sj : sJo b n (nxt b n (nxt b n q)) (zfn Z (tkv b n (nxt b n q)) R 0) (zfn Z (tkv b n (nxt b n (nxt b n q))) R 0) (zjn O P (zfn Z (tkv b n (nxt b n q)) R 0) (zfn Z (tkv b n (nxt b n (nxt b n q))) R 0) N 0) = 5 := by omega
              have G8 : vG ([(45, 2, false), (45, 3, false), (45, 6, false), (45, 7, false), (45, 8, false), (45, 9, false)], []) h (xsetI (xsetI h3 45 2 (Int32.ofInt (5))) 45 3 (xI h3 45 8)) := vGf (G3 : vG ([(45, 2, false), (45, 3, false), (45, 6, false), (45, 7, false), (45, 8, false), (45, 9, false)], []) h h3) (by decide) rfl rfl rfl
              have rr8 : xR (xsetI (xsetI h3 45 2 (Int32.ofInt (5))) 45 3 (xI h3 45 8)) 45 4 = 3 := (G8.2.2 45 4 rfl).trans r4
              have nf8 : ¬ (xI (xsetI (xsetI h3 45 2 (Int32.ofInt (5))) 45 3 (xI h3 45 8)) 45 2).toInt = 0 := by rw [yI_ne (by decide), yI_same]; exact (by decide : ¬ ((Int32.ofInt (5))).toInt = 0)
              have sn8 : ¬ sJo b n (nxt b n (nxt b n q)) (zfn Z (tkv b n (nxt b n q)) R 0) (zfn Z (tkv b n (nxt b n (nxt b n q))) R 0) (zjn O P (zfn Z (tkv b n (nxt b n q)) R 0) (zfn Z (tkv b n (nxt b n (nxt b n q))) R 0) N 0) = 0 := by omega
              have fn8 : (xI (xsetI (xsetI h3 45 2 (Int32.ofInt (5))) 45 3 (xI h3 45 8)) 45 2).toInt = sJo b n (nxt b n (nxt b n q)) (zfn Z (tkv b n (nxt b n q)) R 0) (zfn Z (tkv b n (nxt b n (nxt b n q))) R 0) (zjn O P (zfn Z (tkv b n (nxt b n q)) R 0) (zfn Z (tkv b n (nxt b n (nxt b n q))) R 0) N 0) := by rw [yI_ne (by decide), yI_same, sj]; rfl
              have pn8 : (xI (xsetI (xsetI h3 45 2 (Int32.ofInt (5))) 45 3 (xI h3 45 8)) 45 3).toInt = ((nxt b n (nxt b n q)) : Nat) := by rw [yI_same]; exact k3.2.2.2.1
              have kn8 : kR b n (xsetI (xsetI h3 45 2 (Int32.ofInt (5))) 45 3 (xI h3 45 8)) := k3.1.fr (by rw [yI_ne (by decide), yI_ne (by decide)]) (fun k => by rw [yI_c (by decide), yI_c (by decide)])
              obtain ⟨v8, cc8⟩ := ck_told1 l (v4) (xsetI (xsetI h3 45 2 (Int32.ofInt (5))) 45 3 (xI h3 45 8)) G8.1 nf8
              have t35 : XT l 8 260 false 43 153 6051 105 [xf 7 45, xi (xI h 3 5), xi v3, xi v4, xun] [xi v4, xf 7 45] (xsetI (xsetI h3 45 2 (Int32.ofInt (5))) 45 3 (xI h3 45 8)) 108 [xf 7 45, xi (xI h 3 5), xi v3, xi v4, xun] [xi v8] (xsetI (xsetI h3 45 2 (Int32.ofInt (5))) 45 3 (xI h3 45 8)) := XT_call (l := l) (fr := 8) (lo := 260) (full := false) (M := 43) (n := 153) (u := 6051) (pc := 105) (L := [xf 7 45, xi (xI h 3 5), xi v3, xi v4, xun]) (st := [xi v4, xf 7 45]) (h := (xsetI (xsetI h3 45 2 (Int32.ofInt (5))) 45 3 (xI h3 45 8))) (i := .invokevirtual 44) (aux := 2) (nx := 108) (K := 44) (vs := [xf 7 45, xi v4]) (rs := [xi v8]) (rest := []) rfl rfl rfl rfl rfl rfl cc8 (by decide) (by decide) (Nat.le_of_ble_eq_true rfl) ⟨Nat.le_of_eq G8.1.2.2.2.1, Nat.le_of_eq G8.1.2.2.2.2⟩
              have t36 := t34.tr t35
              have t37 : XT l 8 260 false 43 153 6051 108 [xf 7 45, xi (xI h 3 5), xi v3, xi v4, xun] [xi v8] (xsetI (xsetI h3 45 2 (Int32.ofInt (5))) 45 3 (xI h3 45 8)) 113 [xf 7 45, xi (xI h 3 5), xi v3, xi v4, xun] [xi (Int32.ofInt (9)), xi (Int32.ofInt (1)), xf 7 45] (xsetI (xsetI h3 45 2 (Int32.ofInt (5))) 45 3 (xI h3 45 8)) := XT_path (l := l) (fr := 8) (lo := 260) (full := false) (M := 43) (n := 153) (u := 6051) (pc := 108) (L := [xf 7 45, xi (xI h 3 5), xi v3, xi v4, xun]) (st := [xi v8]) (h := (xsetI (xsetI h3 45 2 (Int32.ofInt (5))) 45 3 (xI h3 45 8))) (inl := [39]) (n' := 160) (sp := [113]) (o := []) rfl rfl ⟨rfl, rfl, rfl⟩ rfl ⟨Nat.le_of_eq G8.1.2.2.2.1, Nat.le_of_eq G8.1.2.2.2.2⟩ trivial
              have t38 := t36.tr t37
              obtain ⟨v9, cc9⟩ := ck_num1 l ((Int32.ofInt (1))) ((Int32.ofInt (9))) (xsetI (xsetI h3 45 2 (Int32.ofInt (5))) 45 3 (xI h3 45 8)) G8.1 nf8
              have t39 : XT l 8 260 false 43 153 6051 113 [xf 7 45, xi (xI h 3 5), xi v3, xi v4, xun] [xi (Int32.ofInt (9)), xi (Int32.ofInt (1)), xf 7 45] (xsetI (xsetI h3 45 2 (Int32.ofInt (5))) 45 3 (xI h3 45 8)) 116 [xf 7 45, xi (xI h 3 5), xi v3, xi v4, xun] [xi v9] (xsetI (xsetI h3 45 2 (Int32.ofInt (5))) 45 3 (xI h3 45 8)) := XT_call (l := l) (fr := 8) (lo := 260) (full := false) (M := 43) (n := 153) (u := 6051) (pc := 113) (L := [xf 7 45, xi (xI h 3 5), xi v3, xi v4, xun]) (st := [xi (Int32.ofInt (9)), xi (Int32.ofInt (1)), xf 7 45]) (h := (xsetI (xsetI h3 45 2 (Int32.ofInt (5))) 45 3 (xI h3 45 8))) (i := .invokevirtual 42) (aux := 3) (nx := 116) (K := 42) (vs := [xf 7 45, xi (Int32.ofInt (1)), xi (Int32.ofInt (9))]) (rs := [xi v9]) (rest := []) rfl rfl rfl rfl rfl rfl cc9 (by decide) (by decide) (Nat.le_of_ble_eq_true rfl) ⟨Nat.le_of_eq G8.1.2.2.2.1, Nat.le_of_eq G8.1.2.2.2.2⟩
              have t40 := t38.tr t39
              have t41 : XT l 8 260 false 43 153 6051 116 [xf 7 45, xi (xI h 3 5), xi v3, xi v4, xun] [xi v9] (xsetI (xsetI h3 45 2 (Int32.ofInt (5))) 45 3 (xI h3 45 8)) 169 [xf 7 45, xi (xI h 3 5), xi v3, xi v4, xi v9] [] (xsetI (xsetI h3 45 2 (Int32.ofInt (5))) 45 3 (xI h3 45 8)) := XT_path (l := l) (fr := 8) (lo := 260) (full := false) (M := 43) (n := 153) (u := 6051) (pc := 116) (L := [xf 7 45, xi (xI h 3 5), xi v3, xi v4, xun]) (st := [xi v9]) (h := (xsetI (xsetI h3 45 2 (Int32.ofInt (5))) 45 3 (xI h3 45 8))) (inl := [39]) (n' := 160) (sp := [169]) (o := [1]) rfl rfl ⟨rfl, rfl, rfl⟩ rfl ⟨Nat.le_of_eq G8.1.2.2.2.1, Nat.le_of_eq G8.1.2.2.2.2⟩ ⟨trivial, (fun z_ => nf8 (congrArg Int32.toInt z_))⟩
              have t42 := t40.tr t41
              have es := (show sJn b n Z R O P N q = _ from (if_neg (by omega)).trans ((if_neg (fun z => z s3)).trans (if_pos sn8)))
              exact ⟨_, CX_ofT (h' := (xsetI (xsetI h3 45 2 (Int32.ofInt (5))) 45 3 (xI h3 45 8))) (by decide) rfl rfl trivial ⟨_, _, _, rfl, rfl, rfl⟩ rfl ⟨Nat.le_of_eq G8.1.2.2.2.1.symm, Nat.le_of_eq G8.1.2.2.2.2.symm⟩ t42, ⟨G8.1, (G8).2.mono rfl rfl⟩, Or.inr ⟨by rw [es]; exact sn8, by rw [es]; exact fn8, by rw [es]; exact pn8, kn8⟩⟩
            · have dc32 : ¬ (v3).toInt = (v4).toInt := fun z_ => c32 (Int32.toInt_inj.mp z_)
              have t43 : XT l 8 260 false 43 153 6051 81 [xf 7 45, xi (xI h 3 5), xi v3, xi v4, xun] [xi v7] h3 105 [xf 7 45, xi (xI h 3 5), xi v3, xi v4, xun] [xi v4, xf 7 45] h3 := XT_path (l := l) (fr := 8) (lo := 260) (full := false) (M := 43) (n := 153) (u := 6051) (pc := 81) (L := [xf 7 45, xi (xI h 3 5), xi v3, xi v4, xun]) (st := [xi v7]) (h := h3) (inl := [39]) (n' := 160) (sp := [105]) (o := [1, 1]) rfl rfl ⟨rfl, rfl, rfl⟩ rfl ⟨Nat.le_of_eq g3.1.2.2.2.1, Nat.le_of_eq g3.1.2.2.2.2⟩ ⟨⟨trivial, c31⟩, c32⟩
              have t44 := t30.tr t43
              have jf := sJo_v b n (nxt b n (nxt b n q)) (zfn Z (tkv b n (nxt b n q)) R 0) (zfn Z (tkv b n (nxt b n (nxt b n q))) R 0) (zjn O P (zfn Z (tkv b n (nxt b n q)) R 0) (zfn Z (tkv b n (nxt b n (nxt b n q))) R 0) N 0)
              have kc2 := k3.2.2.2.2.1
              have tf := sTn_v b n (nxt b n (nxt b n q)) (zfn Z (tkv b n (nxt b n (nxt b n q))) R 0)
              have eu := ev3
              have ew2 := ev4
              have ejn := ev7
              obtain ⟨v10, h10, cc10, g10, ev10, o10⟩ := ck_told0 l b n (nxt b n (nxt b n q)) (v4) h3 g3.1 k3 f3
              rw [ev4] at o10
              have ev10 := (congrArg Int32.toInt ev10).trans ev4
              have G10 : vG ([(45, 2, false), (45, 3, false), (45, 6, false), (45, 7, false), (45, 8, false), (45, 9, false)], []) h h10 := (G3 : vG ([(45, 2, false), (45, 3, false), (45, 6, false), (45, 7, false), (45, 8, false), (45, 9, false)], []) h h3).tr g10
              have rr10 : xR h10 45 4 = 3 := (G10.2.2 45 4 rfl).trans r4
              rcases o10 with ⟨s10, f10, k10⟩ | ⟨s10, f10, pl10, k10⟩
              · have J10 : sJo b n (nxt b n (nxt b n q)) (zfn Z (tkv b n (nxt b n q)) R 0) (zfn Z (tkv b n (nxt b n (nxt b n q))) R 0) (zjn O P (zfn Z (tkv b n (nxt b n q)) R 0) (zfn Z (tkv b n (nxt b n (nxt b n q))) R 0) N 0) = 0 := by omega
                have t45 : XT l 8 260 false 43 153 6051 105 [xf 7 45, xi (xI h 3 5), xi v3, xi v4, xun] [xi v4, xf 7 45] h3 108 [xf 7 45, xi (xI h 3 5), xi v3, xi v4, xun] [xi v10] h10 := XT_call (l := l) (fr := 8) (lo := 260) (full := false) (M := 43) (n := 153) (u := 6051) (pc := 105) (L := [xf 7 45, xi (xI h 3 5), xi v3, xi v4, xun]) (st := [xi v4, xf 7 45]) (h := h3) (i := .invokevirtual 44) (aux := 2) (nx := 108) (K := 44) (vs := [xf 7 45, xi v4]) (rs := [xi v10]) (rest := []) rfl rfl rfl rfl rfl rfl cc10 (by decide) (by decide) (Nat.le_of_ble_eq_true rfl) ⟨Nat.le_of_eq g10.1.2.2.2.1, Nat.le_of_eq g10.1.2.2.2.2⟩
                have t46 := t44.tr t45
                have t47 : XT l 8 260 false 43 153 6051 108 [xf 7 45, xi (xI h 3 5), xi v3, xi v4, xun] [xi v10] h10 113 [xf 7 45, xi (xI h 3 5), xi v3, xi v4, xun] [xi (Int32.ofInt (9)), xi (Int32.ofInt (1)), xf 7 45] h10 := XT_path (l := l) (fr := 8) (lo := 260) (full := false) (M := 43) (n := 153) (u := 6051) (pc := 108) (L := [xf 7 45, xi (xI h 3 5), xi v3, xi v4, xun]) (st := [xi v10]) (h := h10) (inl := [39]) (n' := 160) (sp := [113]) (o := []) rfl rfl ⟨rfl, rfl, rfl⟩ rfl ⟨Nat.le_of_eq g10.1.2.2.2.1, Nat.le_of_eq g10.1.2.2.2.2⟩ trivial
                have t48 := t46.tr t47
                obtain ⟨v11, h11, cc11, g11, ev11, o11⟩ := ck_num0 l b n (nxt b n (nxt b n (nxt b n q))) ((Int32.ofInt (1))) ((Int32.ofInt (9))) h10 g10.1 k10 f10
                rw [show (Int32.ofInt (1)).toInt = 1 from rfl, show (Int32.ofInt (9)).toInt = 9 from rfl] at o11
                have G11 : vG ([(45, 2, false), (45, 3, false), (45, 6, false), (45, 7, false), (45, 8, false), (45, 9, false)], []) h h11 := (G10 : vG ([(45, 2, false), (45, 3, false), (45, 6, false), (45, 7, false), (45, 8, false), (45, 9, false)], []) h h10).tr g11
                have rr11 : xR h11 45 4 = 3 := (G11.2.2 45 4 rfl).trans r4
                rcases o11 with ⟨s11, f11, k11⟩ | ⟨s11, f11, pl11, k11⟩
                · have t49 : XT l 8 260 false 43 153 6051 113 [xf 7 45, xi (xI h 3 5), xi v3, xi v4, xun] [xi (Int32.ofInt (9)), xi (Int32.ofInt (1)), xf 7 45] h10 116 [xf 7 45, xi (xI h 3 5), xi v3, xi v4, xun] [xi v11] h11 := XT_call (l := l) (fr := 8) (lo := 260) (full := false) (M := 43) (n := 153) (u := 6051) (pc := 113) (L := [xf 7 45, xi (xI h 3 5), xi v3, xi v4, xun]) (st := [xi (Int32.ofInt (9)), xi (Int32.ofInt (1)), xf 7 45]) (h := h10) (i := .invokevirtual 42) (aux := 3) (nx := 116) (K := 42) (vs := [xf 7 45, xi (Int32.ofInt (1)), xi (Int32.ofInt (9))]) (rs := [xi v11]) (rest := []) rfl rfl rfl rfl rfl rfl cc11 (by decide) (by decide) (Nat.le_of_ble_eq_true rfl) ⟨Nat.le_of_eq g11.1.2.2.2.1, Nat.le_of_eq g11.1.2.2.2.2⟩
                  have t50 := t48.tr t49
                  have t51 : XT l 8 260 false 43 153 6051 116 [xf 7 45, xi (xI h 3 5), xi v3, xi v4, xun] [xi v11] h11 169 [xf 7 45, xi (xI h 3 5), xi v3, xi v4, xi v11] [] (xsetI (xsetI (xsetI (xsetI h11 (xR h11 (xR h11 45 4) 6) ((xI h 3 5)).toNatClampNeg v3) (xR h11 (xR h11 45 4) 7) ((xI h 3 5)).toNatClampNeg v4) (xR h11 (xR h11 45 4) 8) ((xI h 3 5)).toNatClampNeg v11) (xR h11 45 4) 5 ((xI (xsetI (xsetI (xsetI h11 (xR h11 (xR h11 45 4) 6) ((xI h 3 5)).toNatClampNeg v3) (xR h11 (xR h11 45 4) 7) ((xI h 3 5)).toNatClampNeg v4) (xR h11 (xR h11 45 4) 8) ((xI h 3 5)).toNatClampNeg v11) (xR h11 45 4) 5) + (Int32.ofInt (1)))) := XT_path (l := l) (fr := 8) (lo := 260) (full := false) (M := 43) (n := 153) (u := 6051) (pc := 116) (L := [xf 7 45, xi (xI h 3 5), xi v3, xi v4, xun]) (st := [xi v11]) (h := h11) (inl := [39]) (n' := 160) (sp := [169]) (o := [0]) rfl rfl ⟨rfl, rfl, rfl⟩ rfl ⟨Nat.le_of_eq g11.1.2.2.2.1, Nat.le_of_eq g11.1.2.2.2.2⟩ ⟨⟨⟨⟨⟨⟨⟨⟨⟨⟨⟨trivial, (Int32.toInt_inj.mp f11 : xI h11 45 2 = 0)⟩, (show ¬ xR h11 45 4 = 0 from by rw [rr11]; decide)⟩, (show ¬ xR h11 (xR h11 45 4) 6 = 0 from by rw [rr11]; exact vnn g11.1.1 (rfl : vRf 3 6 = [8]) (by decide))⟩, (vp_of (i := (xI h 3 5)) (n := 9) (by omega) (by omega))⟩, (show ¬ xR h11 45 4 = 0 from by rw [rr11]; decide)⟩, (show ¬ xR h11 (xR h11 45 4) 7 = 0 from by rw [rr11]; exact vnn g11.1.1 (rfl : vRf 3 7 = [9]) (by decide))⟩, (vp_of (i := (xI h 3 5)) (n := 9) (by omega) (by omega))⟩, (show ¬ xR h11 45 4 = 0 from by rw [rr11]; decide)⟩, (show ¬ xR h11 (xR h11 45 4) 8 = 0 from by rw [rr11]; exact vnn g11.1.1 (rfl : vRf 3 8 = [10]) (by decide))⟩, (vp_of (i := (xI h 3 5)) (n := 9) (by omega) (by omega))⟩, (show ¬ xR h11 45 4 = 0 from by rw [rr11]; decide)⟩
                  rw [rr11, vref g11.1.1 (rfl : vRf 3 6 = [8]), vref g11.1.1 (rfl : vRf 3 7 = [9]), vref g11.1.1 (rfl : vRf 3 8 = [10])] at t51
                  have t52 : XT l 8 260 false 43 153 6051 116 [xf 7 45, xi (xI h 3 5), xi v3, xi v4, xun] [xi v11] h11 169 [xf 7 45, xi (xI h 3 5), xi v3, xi v4, xi v11] [] (xsetI (xsetI (xsetI (xsetI h11 8 ((xI h 3 5)).toNatClampNeg v3) 9 ((xI h 3 5)).toNatClampNeg v4) 10 ((xI h 3 5)).toNatClampNeg v11) 3 5 ((xI h11 3 5) + (Int32.ofInt (1)))) := t51
                  have t53 := t50.tr t52
                  have es : sJn b n Z R O P N q = (0, 0) := (if_neg (by omega)).trans ((if_neg (fun z => z s3)).trans ((if_neg (fun z => z J10)).trans ((if_neg (fun z => z s11)).trans rfl)))
                  have n3 := sNu_in s11
                  have nk : (xI h 3 5).toNatClampNeg = N := by
                    show (xI h 3 5).toInt.toNat = N
                    omega
                  have z1 := zfn_b (Z := Z) (x := tkv b n (nxt b n q)) R 0
                  have z2 := zfn_b (Z := Z) (x := tkv b n (nxt b n (nxt b n q))) R 0
                  have tf1 := sTn_v b n (nxt b n q) (zfn Z (tkv b n (nxt b n q)) R 0)
                  have ts1 := s3
                  have ee := ev11
                  have jm : (zjn O P (zfn Z (tkv b n (nxt b n q)) R 0) (zfn Z (tkv b n (nxt b n (nxt b n q))) R 0) N 0) = -1 := by omega
                  have ec : (((xI h11 3 5) + (Int32.ofInt (1)))).toInt = (xI h 3 5).toInt + 1 := by rw [G11.2.1 3 5 rfl]; exact y_suc1 (by omega) (by omega)
                  have ad := vjadd3 g11.1 (k := (xI h 3 5).toNatClampNeg) (u := v3) (v := v4) (w := v11) (n := ((xI h11 3 5) + (Int32.ofInt (1)))) (by rw [G11.2.1 3 5 rfl]; omega) (by omega) (by omega) (by omega) (by omega) (by omega) (fun z_ => absurd (congrArg Int32.toInt z_) (by omega)) (fun j hj => by
                      rw [G11.2.1 3 5 rfl] at hj
                      have zz := zjn_no N 0 jm j (by omega) (by omega)
                      have a1 : (xI h11 8 j).toInt = O j := by rw [G11.2.1 8 j rfl]; exact ho j (by omega)
                      have a2 : (xI h11 9 j).toInt = P j := by rw [G11.2.1 9 j rfl]; exact hp j (by omega)
                      exact ⟨fun z => zz.1 ⟨by rw [← a1, z.1]; exact ev3, by rw [← a2, z.2]; exact ev4⟩, fun z => zz.2 ⟨by rw [← a1, z.1]; exact ev4, by rw [← a2, z.2]; exact ev3⟩⟩)
                  have fr : vG ([(3, 5, false), (8, 0, true), (9, 0, true), (10, 0, true), (45, 2, false), (45, 3, false), (45, 6, false), (45, 7, false), (45, 8, false), (45, 9, false)], []) h (xsetI (xsetI (xsetI (xsetI h11 8 ((xI h 3 5)).toNatClampNeg v3) 9 ((xI h 3 5)).toNatClampNeg v4) 10 ((xI h 3 5)).toNatClampNeg v11) 3 5 ((xI h11 3 5) + (Int32.ofInt (1)))) := ⟨ad.1, (((((G11 : vG ([(45, 2, false), (45, 3, false), (45, 6, false), (45, 7, false), (45, 8, false), (45, 9, false)], []) h h11).2.mono rfl rfl : sframe ([(3, 5, false), (8, 0, true), (9, 0, true), (10, 0, true), (45, 2, false), (45, 3, false), (45, 6, false), (45, 7, false), (45, 8, false), (45, 9, false)], []) h h11).tr (sframe_set rfl)).tr (sframe_set rfl)).tr (sframe_set rfl)).tr (sframe_set rfl)⟩
                  refine ⟨_, CX_ofT (h' := (xsetI (xsetI (xsetI (xsetI h11 8 ((xI h 3 5)).toNatClampNeg v3) 9 ((xI h 3 5)).toNatClampNeg v4) 10 ((xI h 3 5)).toNatClampNeg v11) 3 5 ((xI h11 3 5) + (Int32.ofInt (1))))) (by decide) rfl rfl trivial ⟨_, _, _, rfl, rfl, rfl⟩ rfl ⟨Nat.le_of_eq g11.1.2.2.2.1.symm, Nat.le_of_eq g11.1.2.2.2.2.symm⟩ t53, fr, Or.inl ⟨by rw [es], by rw [yI_c (by decide), yI_c (by decide), yI_c (by decide), yI_c (by decide)]; exact f11, k11.fr (fun k _ => by rw [yI_c (by decide), yI_c (by decide), yI_c (by decide), yI_c (by decide)]) (fun k => by rw [yI_c (by decide), yI_c (by decide), yI_c (by decide), yI_c (by decide)]), by rw [yI_same]; omega, by omega, by rw [yI_c (by decide), yI_c (by decide), yI_c (by decide), ← nk, yI_same]; exact ev3, by rw [yI_c (by decide), yI_c (by decide), ← nk, yI_same]; exact ev4, by rw [yI_c (by decide), ← nk, yI_same]; exact ev11, fun cc k hk hcc => ?_⟩⟩
                  rw [← nk] at hk
                  rcases hcc with rfl | rfl | rfl
                  · rw [yI_c (by decide), yI_c (by decide), yI_c (by decide), yI_ne (eq_false (fun z => hk z.2))]; exact G11.2.1 8 k rfl
                  · rw [yI_c (by decide), yI_c (by decide), yI_ne (eq_false (fun z => hk z.2)), yI_c (by decide)]; exact G11.2.1 9 k rfl
                  · rw [yI_c (by decide), yI_ne (eq_false (fun z => hk z.2)), yI_c (by decide), yI_c (by decide)]; exact G11.2.1 10 k rfl
                · have nf11 : ¬ (xI h11 45 2).toInt = 0 := by rw [f11]; exact s11
                  have t54 : XT l 8 260 false 43 153 6051 113 [xf 7 45, xi (xI h 3 5), xi v3, xi v4, xun] [xi (Int32.ofInt (9)), xi (Int32.ofInt (1)), xf 7 45] h10 116 [xf 7 45, xi (xI h 3 5), xi v3, xi v4, xun] [xi v11] h11 := XT_call (l := l) (fr := 8) (lo := 260) (full := false) (M := 43) (n := 153) (u := 6051) (pc := 113) (L := [xf 7 45, xi (xI h 3 5), xi v3, xi v4, xun]) (st := [xi (Int32.ofInt (9)), xi (Int32.ofInt (1)), xf 7 45]) (h := h10) (i := .invokevirtual 42) (aux := 3) (nx := 116) (K := 42) (vs := [xf 7 45, xi (Int32.ofInt (1)), xi (Int32.ofInt (9))]) (rs := [xi v11]) (rest := []) rfl rfl rfl rfl rfl rfl cc11 (by decide) (by decide) (Nat.le_of_ble_eq_true rfl) ⟨Nat.le_of_eq g11.1.2.2.2.1, Nat.le_of_eq g11.1.2.2.2.2⟩
                  have t55 := t48.tr t54
                  have t56 : XT l 8 260 false 43 153 6051 116 [xf 7 45, xi (xI h 3 5), xi v3, xi v4, xun] [xi v11] h11 169 [xf 7 45, xi (xI h 3 5), xi v3, xi v4, xi v11] [] h11 := XT_path (l := l) (fr := 8) (lo := 260) (full := false) (M := 43) (n := 153) (u := 6051) (pc := 116) (L := [xf 7 45, xi (xI h 3 5), xi v3, xi v4, xun]) (st := [xi v11]) (h := h11) (inl := [39]) (n' := 160) (sp := [169]) (o := [1]) rfl rfl ⟨rfl, rfl, rfl⟩ rfl ⟨Nat.le_of_eq g11.1.2.2.2.1, Nat.le_of_eq g11.1.2.2.2.2⟩ ⟨trivial, (fun z_ => nf11 (congrArg Int32.toInt z_))⟩
                  have t57 := t55.tr t56
                  have es := (show sJn b n Z R O P N q = _ from (if_neg (by omega)).trans ((if_neg (fun z => z s3)).trans ((if_neg (fun z => z J10)).trans (if_pos s11))))
                  exact ⟨_, CX_ofT (h' := h11) (by decide) rfl rfl trivial ⟨_, _, _, rfl, rfl, rfl⟩ rfl ⟨Nat.le_of_eq g11.1.2.2.2.1.symm, Nat.le_of_eq g11.1.2.2.2.2.symm⟩ t57, ⟨g11.1, (G11).2.mono rfl rfl⟩, Or.inr ⟨by rw [es]; exact s11, by rw [es]; exact f11, by rw [es]; exact pl11, k11⟩⟩
              · exact absurd s10 (by omega)
          · have e_m1 : (Int32.ofInt (-1)).toInt = -1 := rfl
            have dc31 : ¬ (v7).toInt = (Int32.ofInt (-1)).toInt := fun z_ => c31 (Int32.toInt_inj.mp z_)
            have t58 : XT l 8 260 false 43 153 6051 81 [xf 7 45, xi (xI h 3 5), xi v3, xi v4, xun] [xi v7] h3 105 [xf 7 45, xi (xI h 3 5), xi v3, xi v4, xun] [xi v4, xf 7 45] (xsetI (xsetI h3 45 2 (Int32.ofInt (3))) 45 3 (xI h3 45 8)) := XT_path (l := l) (fr := 8) (lo := 260) (full := false) (M := 43) (n := 153) (u := 6051) (pc := 81) (L := [xf 7 45, xi (xI h 3 5), xi v3, xi v4, xun]) (st := [xi v7]) (h := h3) (inl := [39]) (n' := 160) (sp := [105]) (o := [0, 0]) rfl rfl ⟨rfl, rfl, rfl⟩ rfl ⟨Nat.le_of_eq g3.1.2.2.2.1, Nat.le_of_eq g3.1.2.2.2.2⟩ ⟨⟨trivial, c31⟩, (Int32.toInt_inj.mp f3 : xI h3 45 2 = 0)⟩
            have t59 := t30.tr t58
            have jf := sJo_v b n (nxt b n (nxt b n q)) (zfn Z (tkv b n (nxt b n q)) R 0) (zfn Z (tkv b n (nxt b n (nxt b n q))) R 0) (zjn O P (zfn Z (tkv b n (nxt b n q)) R 0) (zfn Z (tkv b n (nxt b n (nxt b n q))) R 0) N 0)
            have kc2 := k3.2.2.2.2.1
            have tf := sTn_v b n (nxt b n (nxt b n q)) (zfn Z (tkv b n (nxt b n (nxt b n q))) R 0)
            have eu := ev3
            have ew2 := ev4
            have ejn := ev7
            have sj : sJo b n (nxt b n (nxt b n q)) (zfn Z (tkv b n (nxt b n q)) R 0) (zfn Z (tkv b n (nxt b n (nxt b n q))) R 0) (zjn O P (zfn Z (tkv b n (nxt b n q)) R 0) (zfn Z (tkv b n (nxt b n (nxt b n q))) R 0) N 0) = 3 := by omega
            have G12 : vG ([(45, 2, false), (45, 3, false), (45, 6, false), (45, 7, false), (45, 8, false), (45, 9, false)], []) h (xsetI (xsetI h3 45 2 (Int32.ofInt (3))) 45 3 (xI h3 45 8)) := vGf (G3 : vG ([(45, 2, false), (45, 3, false), (45, 6, false), (45, 7, false), (45, 8, false), (45, 9, false)], []) h h3) (by decide) rfl rfl rfl
            have rr12 : xR (xsetI (xsetI h3 45 2 (Int32.ofInt (3))) 45 3 (xI h3 45 8)) 45 4 = 3 := (G12.2.2 45 4 rfl).trans r4
            have nf12 : ¬ (xI (xsetI (xsetI h3 45 2 (Int32.ofInt (3))) 45 3 (xI h3 45 8)) 45 2).toInt = 0 := by rw [yI_ne (by decide), yI_same]; exact (by decide : ¬ ((Int32.ofInt (3))).toInt = 0)
            have sn12 : ¬ sJo b n (nxt b n (nxt b n q)) (zfn Z (tkv b n (nxt b n q)) R 0) (zfn Z (tkv b n (nxt b n (nxt b n q))) R 0) (zjn O P (zfn Z (tkv b n (nxt b n q)) R 0) (zfn Z (tkv b n (nxt b n (nxt b n q))) R 0) N 0) = 0 := by omega
            have fn12 : (xI (xsetI (xsetI h3 45 2 (Int32.ofInt (3))) 45 3 (xI h3 45 8)) 45 2).toInt = sJo b n (nxt b n (nxt b n q)) (zfn Z (tkv b n (nxt b n q)) R 0) (zfn Z (tkv b n (nxt b n (nxt b n q))) R 0) (zjn O P (zfn Z (tkv b n (nxt b n q)) R 0) (zfn Z (tkv b n (nxt b n (nxt b n q))) R 0) N 0) := by rw [yI_ne (by decide), yI_same, sj]; rfl
            have pn12 : (xI (xsetI (xsetI h3 45 2 (Int32.ofInt (3))) 45 3 (xI h3 45 8)) 45 3).toInt = ((nxt b n (nxt b n q)) : Nat) := by rw [yI_same]; exact k3.2.2.2.1
            have kn12 : kR b n (xsetI (xsetI h3 45 2 (Int32.ofInt (3))) 45 3 (xI h3 45 8)) := k3.1.fr (by rw [yI_ne (by decide), yI_ne (by decide)]) (fun k => by rw [yI_c (by decide), yI_c (by decide)])
            obtain ⟨v12, cc12⟩ := ck_told1 l (v4) (xsetI (xsetI h3 45 2 (Int32.ofInt (3))) 45 3 (xI h3 45 8)) G12.1 nf12
            have t60 : XT l 8 260 false 43 153 6051 105 [xf 7 45, xi (xI h 3 5), xi v3, xi v4, xun] [xi v4, xf 7 45] (xsetI (xsetI h3 45 2 (Int32.ofInt (3))) 45 3 (xI h3 45 8)) 108 [xf 7 45, xi (xI h 3 5), xi v3, xi v4, xun] [xi v12] (xsetI (xsetI h3 45 2 (Int32.ofInt (3))) 45 3 (xI h3 45 8)) := XT_call (l := l) (fr := 8) (lo := 260) (full := false) (M := 43) (n := 153) (u := 6051) (pc := 105) (L := [xf 7 45, xi (xI h 3 5), xi v3, xi v4, xun]) (st := [xi v4, xf 7 45]) (h := (xsetI (xsetI h3 45 2 (Int32.ofInt (3))) 45 3 (xI h3 45 8))) (i := .invokevirtual 44) (aux := 2) (nx := 108) (K := 44) (vs := [xf 7 45, xi v4]) (rs := [xi v12]) (rest := []) rfl rfl rfl rfl rfl rfl cc12 (by decide) (by decide) (Nat.le_of_ble_eq_true rfl) ⟨Nat.le_of_eq G12.1.2.2.2.1, Nat.le_of_eq G12.1.2.2.2.2⟩
            have t61 := t59.tr t60
            have t62 : XT l 8 260 false 43 153 6051 108 [xf 7 45, xi (xI h 3 5), xi v3, xi v4, xun] [xi v12] (xsetI (xsetI h3 45 2 (Int32.ofInt (3))) 45 3 (xI h3 45 8)) 113 [xf 7 45, xi (xI h 3 5), xi v3, xi v4, xun] [xi (Int32.ofInt (9)), xi (Int32.ofInt (1)), xf 7 45] (xsetI (xsetI h3 45 2 (Int32.ofInt (3))) 45 3 (xI h3 45 8)) := XT_path (l := l) (fr := 8) (lo := 260) (full := false) (M := 43) (n := 153) (u := 6051) (pc := 108) (L := [xf 7 45, xi (xI h 3 5), xi v3, xi v4, xun]) (st := [xi v12]) (h := (xsetI (xsetI h3 45 2 (Int32.ofInt (3))) 45 3 (xI h3 45 8))) (inl := [39]) (n' := 160) (sp := [113]) (o := []) rfl rfl ⟨rfl, rfl, rfl⟩ rfl ⟨Nat.le_of_eq G12.1.2.2.2.1, Nat.le_of_eq G12.1.2.2.2.2⟩ trivial
            have t63 := t61.tr t62
            obtain ⟨v13, cc13⟩ := ck_num1 l ((Int32.ofInt (1))) ((Int32.ofInt (9))) (xsetI (xsetI h3 45 2 (Int32.ofInt (3))) 45 3 (xI h3 45 8)) G12.1 nf12
            have t64 : XT l 8 260 false 43 153 6051 113 [xf 7 45, xi (xI h 3 5), xi v3, xi v4, xun] [xi (Int32.ofInt (9)), xi (Int32.ofInt (1)), xf 7 45] (xsetI (xsetI h3 45 2 (Int32.ofInt (3))) 45 3 (xI h3 45 8)) 116 [xf 7 45, xi (xI h 3 5), xi v3, xi v4, xun] [xi v13] (xsetI (xsetI h3 45 2 (Int32.ofInt (3))) 45 3 (xI h3 45 8)) := XT_call (l := l) (fr := 8) (lo := 260) (full := false) (M := 43) (n := 153) (u := 6051) (pc := 113) (L := [xf 7 45, xi (xI h 3 5), xi v3, xi v4, xun]) (st := [xi (Int32.ofInt (9)), xi (Int32.ofInt (1)), xf 7 45]) (h := (xsetI (xsetI h3 45 2 (Int32.ofInt (3))) 45 3 (xI h3 45 8))) (i := .invokevirtual 42) (aux := 3) (nx := 116) (K := 42) (vs := [xf 7 45, xi (Int32.ofInt (1)), xi (Int32.ofInt (9))]) (rs := [xi v13]) (rest := []) rfl rfl rfl rfl rfl rfl cc13 (by decide) (by decide) (Nat.le_of_ble_eq_true rfl) ⟨Nat.le_of_eq G12.1.2.2.2.1, Nat.le_of_eq G12.1.2.2.2.2⟩
            have t65 := t63.tr t64
            have t66 : XT l 8 260 false 43 153 6051 116 [xf 7 45, xi (xI h 3 5), xi v3, xi v4, xun] [xi v13] (xsetI (xsetI h3 45 2 (Int32.ofInt (3))) 45 3 (xI h3 45 8)) 169 [xf 7 45, xi (xI h 3 5), xi v3, xi v4, xi v13] [] (xsetI (xsetI h3 45 2 (Int32.ofInt (3))) 45 3 (xI h3 45 8)) := XT_path (l := l) (fr := 8) (lo := 260) (full := false) (M := 43) (n := 153) (u := 6051) (pc := 116) (L := [xf 7 45, xi (xI h 3 5), xi v3, xi v4, xun]) (st := [xi v13]) (h := (xsetI (xsetI h3 45 2 (Int32.ofInt (3))) 45 3 (xI h3 45 8))) (inl := [39]) (n' := 160) (sp := [169]) (o := [1]) rfl rfl ⟨rfl, rfl, rfl⟩ rfl ⟨Nat.le_of_eq G12.1.2.2.2.1, Nat.le_of_eq G12.1.2.2.2.2⟩ ⟨trivial, (fun z_ => nf12 (congrArg Int32.toInt z_))⟩
            have t67 := t65.tr t66
            have es := (show sJn b n Z R O P N q = _ from (if_neg (by omega)).trans ((if_neg (fun z => z s3)).trans (if_pos sn12)))
            exact ⟨_, CX_ofT (h' := (xsetI (xsetI h3 45 2 (Int32.ofInt (3))) 45 3 (xI h3 45 8))) (by decide) rfl rfl trivial ⟨_, _, _, rfl, rfl, rfl⟩ rfl ⟨Nat.le_of_eq G12.1.2.2.2.1.symm, Nat.le_of_eq G12.1.2.2.2.2.symm⟩ t67, ⟨G12.1, (G12).2.mono rfl rfl⟩, Or.inr ⟨by rw [es]; exact sn12, by rw [es]; exact fn12, by rw [es]; exact pn12, kn12⟩⟩
      · have e_3 : (Int32.ofInt (3)).toInt = 3 := rfl
        have dc15 : ¬ (xI h3 45 7).toInt = (Int32.ofInt (3)).toInt := fun z_ => c15 (Int32.toInt_inj.mp z_)
        have t68 : XT l 8 260 false 43 153 6051 51 [xf 7 45, xi (xI h 3 5), xi v3, xun, xun] [xi v4] h3 105 [xf 7 45, xi (xI h 3 5), xi v3, xi v4, xun] [xi v4, xf 7 45] h3 := XT_path (l := l) (fr := 8) (lo := 260) (full := false) (M := 43) (n := 153) (u := 6051) (pc := 51) (L := [xf 7 45, xi (xI h 3 5), xi v3, xun, xun]) (st := [xi v4]) (h := h3) (inl := [39]) (n' := 160) (sp := [105]) (o := [0, 1]) rfl rfl ⟨rfl, rfl, rfl⟩ rfl ⟨Nat.le_of_eq g3.1.2.2.2.1, Nat.le_of_eq g3.1.2.2.2.2⟩ ⟨⟨trivial, (Int32.toInt_inj.mp f3 : xI h3 45 2 = 0)⟩, c15⟩
        have t69 := t14.tr t68
        have jf := sJo_v b n (nxt b n (nxt b n q)) (zfn Z (tkv b n (nxt b n q)) R 0) (zfn Z (tkv b n (nxt b n (nxt b n q))) R 0) (zjn O P (zfn Z (tkv b n (nxt b n q)) R 0) (zfn Z (tkv b n (nxt b n (nxt b n q))) R 0) N 0)
        have kc2 := k3.2.2.2.2.1
        have tf := sTn_v b n (nxt b n (nxt b n q)) (zfn Z (tkv b n (nxt b n (nxt b n q))) R 0)
        have eu := ev3
        have ew2 := ev4
        obtain ⟨v14, h14, cc14, g14, ev14, o14⟩ := ck_told0 l b n (nxt b n (nxt b n q)) (v4) h3 g3.1 k3 f3
        rw [ev4] at o14
        have ev14 := (congrArg Int32.toInt ev14).trans ev4
        have G14 : vG ([(45, 2, false), (45, 3, false), (45, 6, false), (45, 7, false), (45, 8, false), (45, 9, false)], []) h h14 := (G3 : vG ([(45, 2, false), (45, 3, false), (45, 6, false), (45, 7, false), (45, 8, false), (45, 9, false)], []) h h3).tr g14
        have rr14 : xR h14 45 4 = 3 := (G14.2.2 45 4 rfl).trans r4
        rcases o14 with ⟨s14, f14, k14⟩ | ⟨s14, f14, pl14, k14⟩
        · exact absurd s14 (by omega)
        · have J14 : sJo b n (nxt b n (nxt b n q)) (zfn Z (tkv b n (nxt b n q)) R 0) (zfn Z (tkv b n (nxt b n (nxt b n q))) R 0) (zjn O P (zfn Z (tkv b n (nxt b n q)) R 0) (zfn Z (tkv b n (nxt b n (nxt b n q))) R 0) N 0) = sTn b n (nxt b n (nxt b n q)) (zfn Z (tkv b n (nxt b n (nxt b n q))) R 0) := by omega
          have nf14 : ¬ (xI h14 45 2).toInt = 0 := by rw [f14]; exact s14
          have s14 : ¬ sJo b n (nxt b n (nxt b n q)) (zfn Z (tkv b n (nxt b n q)) R 0) (zfn Z (tkv b n (nxt b n (nxt b n q))) R 0) (zjn O P (zfn Z (tkv b n (nxt b n q)) R 0) (zfn Z (tkv b n (nxt b n (nxt b n q))) R 0) N 0) = 0 := by rw [J14]; exact s14
          have f14 : (xI h14 45 2).toInt = sJo b n (nxt b n (nxt b n q)) (zfn Z (tkv b n (nxt b n q)) R 0) (zfn Z (tkv b n (nxt b n (nxt b n q))) R 0) (zjn O P (zfn Z (tkv b n (nxt b n q)) R 0) (zfn Z (tkv b n (nxt b n (nxt b n q))) R 0) N 0) := by rw [J14]; exact f14
          have t70 : XT l 8 260 false 43 153 6051 105 [xf 7 45, xi (xI h 3 5), xi v3, xi v4, xun] [xi v4, xf 7 45] h3 108 [xf 7 45, xi (xI h 3 5), xi v3, xi v4, xun] [xi v14] h14 := XT_call (l := l) (fr := 8) (lo := 260) (full := false) (M := 43) (n := 153) (u := 6051) (pc := 105) (L := [xf 7 45, xi (xI h 3 5), xi v3, xi v4, xun]) (st := [xi v4, xf 7 45]) (h := h3) (i := .invokevirtual 44) (aux := 2) (nx := 108) (K := 44) (vs := [xf 7 45, xi v4]) (rs := [xi v14]) (rest := []) rfl rfl rfl rfl rfl rfl cc14 (by decide) (by decide) (Nat.le_of_ble_eq_true rfl) ⟨Nat.le_of_eq g14.1.2.2.2.1, Nat.le_of_eq g14.1.2.2.2.2⟩
          have t71 := t69.tr t70
          have t72 : XT l 8 260 false 43 153 6051 108 [xf 7 45, xi (xI h 3 5), xi v3, xi v4, xun] [xi v14] h14 113 [xf 7 45, xi (xI h 3 5), xi v3, xi v4, xun] [xi (Int32.ofInt (9)), xi (Int32.ofInt (1)), xf 7 45] h14 := XT_path (l := l) (fr := 8) (lo := 260) (full := false) (M := 43) (n := 153) (u := 6051) (pc := 108) (L := [xf 7 45, xi (xI h 3 5), xi v3, xi v4, xun]) (st := [xi v14]) (h := h14) (inl := [39]) (n' := 160) (sp := [113]) (o := []) rfl rfl ⟨rfl, rfl, rfl⟩ rfl ⟨Nat.le_of_eq g14.1.2.2.2.1, Nat.le_of_eq g14.1.2.2.2.2⟩ trivial
          have t73 := t71.tr t72
          obtain ⟨v15, cc15⟩ := ck_num1 l ((Int32.ofInt (1))) ((Int32.ofInt (9))) h14 g14.1 nf14
          have t74 : XT l 8 260 false 43 153 6051 113 [xf 7 45, xi (xI h 3 5), xi v3, xi v4, xun] [xi (Int32.ofInt (9)), xi (Int32.ofInt (1)), xf 7 45] h14 116 [xf 7 45, xi (xI h 3 5), xi v3, xi v4, xun] [xi v15] h14 := XT_call (l := l) (fr := 8) (lo := 260) (full := false) (M := 43) (n := 153) (u := 6051) (pc := 113) (L := [xf 7 45, xi (xI h 3 5), xi v3, xi v4, xun]) (st := [xi (Int32.ofInt (9)), xi (Int32.ofInt (1)), xf 7 45]) (h := h14) (i := .invokevirtual 42) (aux := 3) (nx := 116) (K := 42) (vs := [xf 7 45, xi (Int32.ofInt (1)), xi (Int32.ofInt (9))]) (rs := [xi v15]) (rest := []) rfl rfl rfl rfl rfl rfl cc15 (by decide) (by decide) (Nat.le_of_ble_eq_true rfl) ⟨Nat.le_of_eq g14.1.2.2.2.1, Nat.le_of_eq g14.1.2.2.2.2⟩
          have t75 := t73.tr t74
          have t76 : XT l 8 260 false 43 153 6051 116 [xf 7 45, xi (xI h 3 5), xi v3, xi v4, xun] [xi v15] h14 169 [xf 7 45, xi (xI h 3 5), xi v3, xi v4, xi v15] [] h14 := XT_path (l := l) (fr := 8) (lo := 260) (full := false) (M := 43) (n := 153) (u := 6051) (pc := 116) (L := [xf 7 45, xi (xI h 3 5), xi v3, xi v4, xun]) (st := [xi v15]) (h := h14) (inl := [39]) (n' := 160) (sp := [169]) (o := [1]) rfl rfl ⟨rfl, rfl, rfl⟩ rfl ⟨Nat.le_of_eq g14.1.2.2.2.1, Nat.le_of_eq g14.1.2.2.2.2⟩ ⟨trivial, (fun z_ => nf14 (congrArg Int32.toInt z_))⟩
          have t77 := t75.tr t76
          have es := (show sJn b n Z R O P N q = _ from (if_neg (by omega)).trans ((if_neg (fun z => z s3)).trans (if_pos s14)))
          exact ⟨_, CX_ofT (h' := h14) (by decide) rfl rfl trivial ⟨_, _, _, rfl, rfl, rfl⟩ rfl ⟨Nat.le_of_eq g14.1.2.2.2.1.symm, Nat.le_of_eq g14.1.2.2.2.2.symm⟩ t77, ⟨g14.1, (G14).2.mono rfl rfl⟩, Or.inr ⟨by rw [es]; exact s14, by rw [es]; exact f14, by rw [es]; exact pl14, k14⟩⟩
    · have nf3 : ¬ (xI h3 45 2).toInt = 0 := by rw [f3]; exact s3
      have t78 : XT l 8 260 false 43 153 6051 36 [xf 7 45, xi (xI h 3 5), xun, xun, xun] [xi v2, xf 7 45] h1 39 [xf 7 45, xi (xI h 3 5), xun, xun, xun] [xi v3] h3 := XT_call (l := l) (fr := 8) (lo := 260) (full := false) (M := 43) (n := 153) (u := 6051) (pc := 36) (L := [xf 7 45, xi (xI h 3 5), xun, xun, xun]) (st := [xi v2, xf 7 45]) (h := h1) (i := .invokevirtual 44) (aux := 2) (nx := 39) (K := 44) (vs := [xf 7 45, xi v2]) (rs := [xi v3]) (rest := []) rfl rfl rfl rfl rfl rfl cc3 (by decide) (by decide) (Nat.le_of_ble_eq_true rfl) ⟨Nat.le_of_eq g3.1.2.2.2.1, Nat.le_of_eq g3.1.2.2.2.2⟩
      have t79 := t8.tr t78
      have t80 : XT l 8 260 false 43 153 6051 39 [xf 7 45, xi (xI h 3 5), xun, xun, xun] [xi v3] h3 48 [xf 7 45, xi (xI h 3 5), xi v3, xun, xun] [xi (xI h3 45 9), xf 8 (xR h3 45 4)] h3 := XT_path (l := l) (fr := 8) (lo := 260) (full := false) (M := 43) (n := 153) (u := 6051) (pc := 39) (L := [xf 7 45, xi (xI h 3 5), xun, xun, xun]) (st := [xi v3]) (h := h3) (inl := [39]) (n' := 160) (sp := [48]) (o := []) rfl rfl ⟨rfl, rfl, rfl⟩ rfl ⟨Nat.le_of_eq g3.1.2.2.2.1, Nat.le_of_eq g3.1.2.2.2.2⟩ ⟨trivial, (show ¬ xR h3 45 4 = 0 from by rw [rr3]; decide)⟩
      rw [rr3] at t80
      have t81 := t79.tr t80
      obtain ⟨v16, cc16, ev16⟩ := ck_reg3 l Z ((xI h3 45 9)) R h3 g3.1 (by rw [G3.2.1 3 0 rfl]; exact hr) (by omega) (fun k hk => by rw [G3.2.1 4 k rfl]; exact hz k hk)
      have t82 : XT l 8 260 false 43 153 6051 48 [xf 7 45, xi (xI h 3 5), xi v3, xun, xun] [xi (xI h3 45 9), xf 8 3] h3 51 [xf 7 45, xi (xI h 3 5), xi v3, xun, xun] [xi v16] h3 := XT_call (l := l) (fr := 8) (lo := 260) (full := false) (M := 43) (n := 153) (u := 6051) (pc := 48) (L := [xf 7 45, xi (xI h 3 5), xi v3, xun, xun]) (st := [xi (xI h3 45 9), xf 8 3]) (h := h3) (i := .invokevirtual 40) (aux := 2) (nx := 51) (K := 40) (vs := [xf 8 3, xi (xI h3 45 9)]) (rs := [xi v16]) (rest := []) rfl rfl rfl rfl rfl rfl cc16 (by decide) (by decide) (Nat.le_of_ble_eq_true rfl) ⟨Nat.le_of_eq g3.1.2.2.2.1, Nat.le_of_eq g3.1.2.2.2.2⟩
      have t83 := t81.tr t82
      have t84 : XT l 8 260 false 43 153 6051 51 [xf 7 45, xi (xI h 3 5), xi v3, xun, xun] [xi v16] h3 105 [xf 7 45, xi (xI h 3 5), xi v3, xi v16, xun] [xi v16, xf 7 45] h3 := XT_path (l := l) (fr := 8) (lo := 260) (full := false) (M := 43) (n := 153) (u := 6051) (pc := 51) (L := [xf 7 45, xi (xI h 3 5), xi v3, xun, xun]) (st := [xi v16]) (h := h3) (inl := [39]) (n' := 160) (sp := [105]) (o := [1]) rfl rfl ⟨rfl, rfl, rfl⟩ rfl ⟨Nat.le_of_eq g3.1.2.2.2.1, Nat.le_of_eq g3.1.2.2.2.2⟩ ⟨trivial, (fun z_ => nf3 (congrArg Int32.toInt z_))⟩
      have t85 := t83.tr t84
      obtain ⟨v17, cc17⟩ := ck_told1 l (v16) h3 g3.1 nf3
      have t86 : XT l 8 260 false 43 153 6051 105 [xf 7 45, xi (xI h 3 5), xi v3, xi v16, xun] [xi v16, xf 7 45] h3 108 [xf 7 45, xi (xI h 3 5), xi v3, xi v16, xun] [xi v17] h3 := XT_call (l := l) (fr := 8) (lo := 260) (full := false) (M := 43) (n := 153) (u := 6051) (pc := 105) (L := [xf 7 45, xi (xI h 3 5), xi v3, xi v16, xun]) (st := [xi v16, xf 7 45]) (h := h3) (i := .invokevirtual 44) (aux := 2) (nx := 108) (K := 44) (vs := [xf 7 45, xi v16]) (rs := [xi v17]) (rest := []) rfl rfl rfl rfl rfl rfl cc17 (by decide) (by decide) (Nat.le_of_ble_eq_true rfl) ⟨Nat.le_of_eq g3.1.2.2.2.1, Nat.le_of_eq g3.1.2.2.2.2⟩
      have t87 := t85.tr t86
      have t88 : XT l 8 260 false 43 153 6051 108 [xf 7 45, xi (xI h 3 5), xi v3, xi v16, xun] [xi v17] h3 113 [xf 7 45, xi (xI h 3 5), xi v3, xi v16, xun] [xi (Int32.ofInt (9)), xi (Int32.ofInt (1)), xf 7 45] h3 := XT_path (l := l) (fr := 8) (lo := 260) (full := false) (M := 43) (n := 153) (u := 6051) (pc := 108) (L := [xf 7 45, xi (xI h 3 5), xi v3, xi v16, xun]) (st := [xi v17]) (h := h3) (inl := [39]) (n' := 160) (sp := [113]) (o := []) rfl rfl ⟨rfl, rfl, rfl⟩ rfl ⟨Nat.le_of_eq g3.1.2.2.2.1, Nat.le_of_eq g3.1.2.2.2.2⟩ trivial
      have t89 := t87.tr t88
      obtain ⟨v18, cc18⟩ := ck_num1 l ((Int32.ofInt (1))) ((Int32.ofInt (9))) h3 g3.1 nf3
      have t90 : XT l 8 260 false 43 153 6051 113 [xf 7 45, xi (xI h 3 5), xi v3, xi v16, xun] [xi (Int32.ofInt (9)), xi (Int32.ofInt (1)), xf 7 45] h3 116 [xf 7 45, xi (xI h 3 5), xi v3, xi v16, xun] [xi v18] h3 := XT_call (l := l) (fr := 8) (lo := 260) (full := false) (M := 43) (n := 153) (u := 6051) (pc := 113) (L := [xf 7 45, xi (xI h 3 5), xi v3, xi v16, xun]) (st := [xi (Int32.ofInt (9)), xi (Int32.ofInt (1)), xf 7 45]) (h := h3) (i := .invokevirtual 42) (aux := 3) (nx := 116) (K := 42) (vs := [xf 7 45, xi (Int32.ofInt (1)), xi (Int32.ofInt (9))]) (rs := [xi v18]) (rest := []) rfl rfl rfl rfl rfl rfl cc18 (by decide) (by decide) (Nat.le_of_ble_eq_true rfl) ⟨Nat.le_of_eq g3.1.2.2.2.1, Nat.le_of_eq g3.1.2.2.2.2⟩
      have t91 := t89.tr t90
      have t92 : XT l 8 260 false 43 153 6051 116 [xf 7 45, xi (xI h 3 5), xi v3, xi v16, xun] [xi v18] h3 169 [xf 7 45, xi (xI h 3 5), xi v3, xi v16, xi v18] [] h3 := XT_path (l := l) (fr := 8) (lo := 260) (full := false) (M := 43) (n := 153) (u := 6051) (pc := 116) (L := [xf 7 45, xi (xI h 3 5), xi v3, xi v16, xun]) (st := [xi v18]) (h := h3) (inl := [39]) (n' := 160) (sp := [169]) (o := [1]) rfl rfl ⟨rfl, rfl, rfl⟩ rfl ⟨Nat.le_of_eq g3.1.2.2.2.1, Nat.le_of_eq g3.1.2.2.2.2⟩ ⟨trivial, (fun z_ => nf3 (congrArg Int32.toInt z_))⟩
      have t93 := t91.tr t92
      have es := (show sJn b n Z R O P N q = _ from (if_neg (by omega)).trans (if_pos s3))
      exact ⟨_, CX_ofT (h' := h3) (by decide) rfl rfl trivial ⟨_, _, _, rfl, rfl, rfl⟩ rfl ⟨Nat.le_of_eq g3.1.2.2.2.1.symm, Nat.le_of_eq g3.1.2.2.2.2.symm⟩ t93, ⟨g3.1, (G3).2.mono rfl rfl⟩, Or.inr ⟨by rw [es]; exact s3, by rw [es]; exact f3, by rw [es]; exact pl3, k3⟩⟩
  · have e_9 : (Int32.ofInt (9)).toInt = 9 := rfl
    have c1r := c1
    rw [r4] at c1r
    have dc1 : (Int32.ofInt (9)).toInt ≤ (xI h 3 5).toInt := Int32.le_iff_toInt_le.mp (Int32.not_lt.mp c1r)
    have t94 : XT l 8 260 false 43 153 6051 0 [xf 7 45, xun, xun, xun, xun] [] h 19 [xf 7 45, xi (xI h (xR h 45 4) 5), xun, xun, xun] [] (xsetI (xsetI h 45 2 (Int32.ofInt (2))) 45 3 (xI h 45 8)) := XT_path (l := l) (fr := 8) (lo := 260) (full := false) (M := 43) (n := 153) (u := 6051) (pc := 0) (L := [xf 7 45, xun, xun, xun, xun]) (st := []) (h := h) (inl := [39]) (n' := 160) (sp := [19]) (o := [0, 0]) rfl rfl ⟨rfl, rfl, rfl⟩ rfl ⟨Nat.le_of_eq hg.2.2.2.1, Nat.le_of_eq hg.2.2.2.2⟩ ⟨⟨⟨trivial, (show ¬ xR h 45 4 = 0 from by rw [r4]; decide)⟩, c1⟩, (Int32.toInt_inj.mp f0 : xI h 45 2 = 0)⟩
    rw [r4] at t94
    have es : sJn b n Z R O P N q = (2, q) := if_pos (by omega)
    have g2 : vG ([(3, 5, false), (8, 0, true), (9, 0, true), (10, 0, true), (45, 2, false), (45, 3, false), (45, 6, false), (45, 7, false), (45, 8, false), (45, 9, false)], []) h (xsetI (xsetI h 45 2 (Int32.ofInt (2))) 45 3 (xI h 45 8)) := vGf (vG.rf hg) (by decide) rfl rfl rfl
    exact ⟨_, CX_ofT (h' := (xsetI (xsetI h 45 2 (Int32.ofInt (2))) 45 3 (xI h 45 8))) (by decide) rfl rfl trivial ⟨_, _, _, rfl, rfl, rfl⟩ rfl ⟨Nat.le_of_eq hg.2.2.2.1.symm, Nat.le_of_eq hg.2.2.2.2.symm⟩ t94, g2, Or.inr ⟨by rw [es]; exact (by decide : ¬ (2 : Int) = 0), by rw [yI_ne (by decide), yI_same, es]; rfl, by rw [yI_same, es]; exact kq, kr.fr (by rw [yI_ne (by decide), yI_ne (by decide)]) (fun k => by rw [yI_c (by decide), yI_c (by decide)])⟩⟩
set_option maxRecDepth 100000 in
set_option maxHeartbeats 4000000 in
theorem ck_join24 (l : Launch) (b : Nat → Int) (n q R N : Nat) (Z O P : Nat → Int) (h : XH) (hg : sgood vT vR vE 153 6051 h) (kt : kT b n q h) (f0 : (xI h 45 2).toInt = 0) (r4 : xR h 45 4 = 24) (hr : (xI h 24 0).toInt = R) (hz : ∀ k, k < R → (xI h 25 k).toInt = Z k) (hn : (xI h 24 5).toInt = N) (ho : ∀ k, k < N → (xI h 29 k).toInt = O k) (hp : ∀ k, k < N → (xI h 30 k).toInt = P k) : ∃ h', CX l 8 260 false 43 [xf 7 45] h [] h' ∧ vG ([(24, 5, false), (29, 0, true), (30, 0, true), (31, 0, true), (45, 2, false), (45, 3, false), (45, 6, false), (45, 7, false), (45, 8, false), (45, 9, false)], []) h h' ∧ (((sJn b n Z R O P N q).1 = 0 ∧ (xI h' 45 2).toInt = 0 ∧ kT b n (nxt b n (nxt b n (nxt b n (nxt b n q)))) h' ∧ (xI h' 24 5).toInt = (N + 1 : Nat) ∧ N < 9 ∧ (xI h' 29 N).toInt = (zfn Z (tkv b n (nxt b n q)) R 0) ∧ (xI h' 30 N).toInt = (zfn Z (tkv b n (nxt b n (nxt b n q))) R 0) ∧ (xI h' 31 N).toInt = tkv b n (nxt b n (nxt b n (nxt b n q))) ∧ (∀ cc k, k ≠ N → cc = 29 ∨ cc = 30 ∨ cc = 31 → xI h' cc k = xI h cc k)) ∨ (¬ (sJn b n Z R O P N q).1 = 0 ∧ (xI h' 45 2).toInt = (sJn b n Z R O P N q).1 ∧ (xI h' 45 3).toInt = (sJn b n Z R O P N q).2 ∧ kR b n h')) := by
  have e_0 : (0 : Int32).toInt = 0 := rfl
  obtain ⟨kr, hn7, hq, kq, kc, kv, ke⟩ := id kt
  have bN : 0 ≤ (xI h 24 5).toInt ∧ (xI h 24 5).toInt ≤ 9 := vbnd hg.1 24 5
  have bR : 0 ≤ (xI h 24 0).toInt ∧ (xI h 24 0).toInt ≤ 6 := vbnd hg.1 24 0
  by_cases c1 : (xI h (xR h 45 4) 5) < (Int32.ofInt (9))
  · have e_9 : (Int32.ofInt (9)).toInt = 9 := rfl
    have c1r := c1
    rw [r4] at c1r
    have dc1 : (xI h 24 5).toInt < (Int32.ofInt (9)).toInt := Int32.lt_iff_toInt_lt.mp c1r
    have t2 : XT l 8 260 false 43 153 6051 0 [xf 7 45, xun, xun, xun, xun] [] h 21 [xf 7 45, xi (xI h (xR h 45 4) 5), xun, xun, xun] [xf 7 45] h := XT_path (l := l) (fr := 8) (lo := 260) (full := false) (M := 43) (n := 153) (u := 6051) (pc := 0) (L := [xf 7 45, xun, xun, xun, xun]) (st := []) (h := h) (inl := [39]) (n' := 160) (sp := [21]) (o := [1]) rfl rfl ⟨rfl, rfl, rfl⟩ rfl ⟨Nat.le_of_eq hg.2.2.2.1, Nat.le_of_eq hg.2.2.2.2⟩ ⟨⟨trivial, (show ¬ xR h 45 4 = 0 from by rw [r4]; decide)⟩, c1⟩
    rw [r4] at t2
    obtain ⟨h1, cc1, g1, k1⟩ := ck_adv l b n q h hg kt
    have f1 : (xI h1 45 2).toInt = 0 := by rw [g1.2.1 45 2 rfl]; exact f0
    have G1 : vG ([(45, 2, false), (45, 3, false), (45, 6, false), (45, 7, false), (45, 8, false), (45, 9, false)], []) h h1 := ((vG.rf hg) : vG ([(45, 2, false), (45, 3, false), (45, 6, false), (45, 7, false), (45, 8, false), (45, 9, false)], []) h h).tr ⟨g1.1, g1.2.mono rfl rfl⟩
    have rr1 : xR h1 45 4 = 24 := (G1.2.2 45 4 rfl).trans r4
    have t3 : XT l 8 260 false 43 153 6051 21 [xf 7 45, xi (xI h 24 5), xun, xun, xun] [xf 7 45] h 24 [xf 7 45, xi (xI h 24 5), xun, xun, xun] [] h1 := XT_call (l := l) (fr := 8) (lo := 260) (full := false) (M := 43) (n := 153) (u := 6051) (pc := 21) (L := [xf 7 45, xi (xI h 24 5), xun, xun, xun]) (st := [xf 7 45]) (h := h) (i := .invokevirtual 19) (aux := 1) (nx := 24) (K := 19) (vs := [xf 7 45]) (rs := []) (rest := []) rfl rfl rfl rfl rfl rfl cc1 (by decide) (by decide) (Nat.le_of_ble_eq_true rfl) ⟨Nat.le_of_eq g1.1.2.2.2.1, Nat.le_of_eq g1.1.2.2.2.2⟩
    have t4 := t2.tr t3
    have t5 : XT l 8 260 false 43 153 6051 24 [xf 7 45, xi (xI h 24 5), xun, xun, xun] [] h1 33 [xf 7 45, xi (xI h 24 5), xun, xun, xun] [xi (xI h1 45 9), xf 8 (xR h1 45 4), xf 7 45] h1 := XT_path (l := l) (fr := 8) (lo := 260) (full := false) (M := 43) (n := 153) (u := 6051) (pc := 24) (L := [xf 7 45, xi (xI h 24 5), xun, xun, xun]) (st := []) (h := h1) (inl := [39]) (n' := 160) (sp := [33]) (o := []) rfl rfl ⟨rfl, rfl, rfl⟩ rfl ⟨Nat.le_of_eq g1.1.2.2.2.1, Nat.le_of_eq g1.1.2.2.2.2⟩ ⟨trivial, (show ¬ xR h1 45 4 = 0 from by rw [rr1]; decide)⟩
    rw [rr1] at t5
    have t6 := t4.tr t5
    obtain ⟨v2, cc2, ev2⟩ := ck_reg24 l Z ((xI h1 45 9)) R h1 g1.1 (by rw [G1.2.1 24 0 rfl]; exact hr) (by omega) (fun k hk => by rw [G1.2.1 25 k rfl]; exact hz k hk)
    rw [k1.2.2.2.2.2.1] at ev2
    have t7 : XT l 8 260 false 43 153 6051 33 [xf 7 45, xi (xI h 24 5), xun, xun, xun] [xi (xI h1 45 9), xf 8 24, xf 7 45] h1 36 [xf 7 45, xi (xI h 24 5), xun, xun, xun] [xi v2, xf 7 45] h1 := XT_call (l := l) (fr := 8) (lo := 260) (full := false) (M := 43) (n := 153) (u := 6051) (pc := 33) (L := [xf 7 45, xi (xI h 24 5), xun, xun, xun]) (st := [xi (xI h1 45 9), xf 8 24, xf 7 45]) (h := h1) (i := .invokevirtual 40) (aux := 2) (nx := 36) (K := 40) (vs := [xf 8 24, xi (xI h1 45 9)]) (rs := [xi v2]) (rest := [xf 7 45]) rfl rfl rfl rfl rfl rfl cc2 (by decide) (by decide) (Nat.le_of_ble_eq_true rfl) ⟨Nat.le_of_eq g1.1.2.2.2.1, Nat.le_of_eq g1.1.2.2.2.2⟩
    have t8 := t6.tr t7
    obtain ⟨v3, h3, cc3, g3, ev3, o3⟩ := ck_told0 l b n (nxt b n q) (v2) h1 g1.1 k1 f1
    rw [ev2] at o3
    have ev3 := (congrArg Int32.toInt ev3).trans ev2
    have G3 : vG ([(45, 2, false), (45, 3, false), (45, 6, false), (45, 7, false), (45, 8, false), (45, 9, false)], []) h h3 := (G1 : vG ([(45, 2, false), (45, 3, false), (45, 6, false), (45, 7, false), (45, 8, false), (45, 9, false)], []) h h1).tr g3
    have rr3 : xR h3 45 4 = 24 := (G3.2.2 45 4 rfl).trans r4
    rcases o3 with ⟨s3, f3, k3⟩ | ⟨s3, f3, pl3, k3⟩
    · have t9 : XT l 8 260 false 43 153 6051 36 [xf 7 45, xi (xI h 24 5), xun, xun, xun] [xi v2, xf 7 45] h1 39 [xf 7 45, xi (xI h 24 5), xun, xun, xun] [xi v3] h3 := XT_call (l := l) (fr := 8) (lo := 260) (full := false) (M := 43) (n := 153) (u := 6051) (pc := 36) (L := [xf 7 45, xi (xI h 24 5), xun, xun, xun]) (st := [xi v2, xf 7 45]) (h := h1) (i := .invokevirtual 44) (aux := 2) (nx := 39) (K := 44) (vs := [xf 7 45, xi v2]) (rs := [xi v3]) (rest := []) rfl rfl rfl rfl rfl rfl cc3 (by decide) (by decide) (Nat.le_of_ble_eq_true rfl) ⟨Nat.le_of_eq g3.1.2.2.2.1, Nat.le_of_eq g3.1.2.2.2.2⟩
      have t10 := t8.tr t9
      have t11 : XT l 8 260 false 43 153 6051 39 [xf 7 45, xi (xI h 24 5), xun, xun, xun] [xi v3] h3 48 [xf 7 45, xi (xI h 24 5), xi v3, xun, xun] [xi (xI h3 45 9), xf 8 (xR h3 45 4)] h3 := XT_path (l := l) (fr := 8) (lo := 260) (full := false) (M := 43) (n := 153) (u := 6051) (pc := 39) (L := [xf 7 45, xi (xI h 24 5), xun, xun, xun]) (st := [xi v3]) (h := h3) (inl := [39]) (n' := 160) (sp := [48]) (o := []) rfl rfl ⟨rfl, rfl, rfl⟩ rfl ⟨Nat.le_of_eq g3.1.2.2.2.1, Nat.le_of_eq g3.1.2.2.2.2⟩ ⟨trivial, (show ¬ xR h3 45 4 = 0 from by rw [rr3]; decide)⟩
      rw [rr3] at t11
      have t12 := t10.tr t11
      obtain ⟨v4, cc4, ev4⟩ := ck_reg24 l Z ((xI h3 45 9)) R h3 g3.1 (by rw [G3.2.1 24 0 rfl]; exact hr) (by omega) (fun k hk => by rw [G3.2.1 25 k rfl]; exact hz k hk)
      rw [k3.2.2.2.2.2.1] at ev4
      have t13 : XT l 8 260 false 43 153 6051 48 [xf 7 45, xi (xI h 24 5), xi v3, xun, xun] [xi (xI h3 45 9), xf 8 24] h3 51 [xf 7 45, xi (xI h 24 5), xi v3, xun, xun] [xi v4] h3 := XT_call (l := l) (fr := 8) (lo := 260) (full := false) (M := 43) (n := 153) (u := 6051) (pc := 48) (L := [xf 7 45, xi (xI h 24 5), xi v3, xun, xun]) (st := [xi (xI h3 45 9), xf 8 24]) (h := h3) (i := .invokevirtual 40) (aux := 2) (nx := 51) (K := 40) (vs := [xf 8 24, xi (xI h3 45 9)]) (rs := [xi v4]) (rest := []) rfl rfl rfl rfl rfl rfl cc4 (by decide) (by decide) (Nat.le_of_ble_eq_true rfl) ⟨Nat.le_of_eq g3.1.2.2.2.1, Nat.le_of_eq g3.1.2.2.2.2⟩
      have t14 := t12.tr t13
      by_cases c15 : (xI h3 45 7) = (Int32.ofInt (3))
      · have e_3 : (Int32.ofInt (3)).toInt = 3 := rfl
        have dc15 : (xI h3 45 7).toInt = (Int32.ofInt (3)).toInt := congrArg Int32.toInt c15
        by_cases c16 : v4 = (Int32.ofInt (-1))
        · have e_m1 : (Int32.ofInt (-1)).toInt = -1 := rfl
          have dc16 : (v4).toInt = (Int32.ofInt (-1)).toInt := congrArg Int32.toInt c16
          have t17 : XT l 8 260 false 43 153 6051 51 [xf 7 45, xi (xI h 24 5), xi v3, xun, xun] [xi v4] h3 105 [xf 7 45, xi (xI h 24 5), xi v3, xi v4, xun] [xi v4, xf 7 45] h3 := XT_path (l := l) (fr := 8) (lo := 260) (full := false) (M := 43) (n := 153) (u := 6051) (pc := 51) (L := [xf 7 45, xi (xI h 24 5), xi v3, xun, xun]) (st := [xi v4]) (h := h3) (inl := [39]) (n' := 160) (sp := [105]) (o := [0, 0, 1]) rfl rfl ⟨rfl, rfl, rfl⟩ rfl ⟨Nat.le_of_eq g3.1.2.2.2.1, Nat.le_of_eq g3.1.2.2.2.2⟩ ⟨⟨⟨trivial, (Int32.toInt_inj.mp f3 : xI h3 45 2 = 0)⟩, c15⟩, c16⟩
          have t18 := t14.tr t17
          have jf := sJo_v b n (nxt b n (nxt b n q)) (zfn Z (tkv b n (nxt b n q)) R 0) (zfn Z (tkv b n (nxt b n (nxt b n q))) R 0) (zjn O P (zfn Z (tkv b n (nxt b n q)) R 0) (zfn Z (tkv b n (nxt b n (nxt b n q))) R 0) N 0)
          have kc2 := k3.2.2.2.2.1
          have tf := sTn_v b n (nxt b n (nxt b n q)) (zfn Z (tkv b n (nxt b n (nxt b n q))) R 0)
          have eu := ev3
          have ew2 := ev4
          obtain ⟨v5, h5, cc5, g5, ev5, o5⟩ := ck_told0 l b n (nxt b n (nxt b n q)) (v4) h3 g3.1 k3 f3
          rw [ev4] at o5
          have ev5 := (congrArg Int32.toInt ev5).trans ev4
          have G5 : vG ([(45, 2, false), (45, 3, false), (45, 6, false), (45, 7, false), (45, 8, false), (45, 9, false)], []) h h5 := (G3 : vG ([(45, 2, false), (45, 3, false), (45, 6, false), (45, 7, false), (45, 8, false), (45, 9, false)], []) h h3).tr g5
          have rr5 : xR h5 45 4 = 24 := (G5.2.2 45 4 rfl).trans r4
          rcases o5 with ⟨s5, f5, k5⟩ | ⟨s5, f5, pl5, k5⟩
          · exact absurd s5 (by omega)
          · have J5 : sJo b n (nxt b n (nxt b n q)) (zfn Z (tkv b n (nxt b n q)) R 0) (zfn Z (tkv b n (nxt b n (nxt b n q))) R 0) (zjn O P (zfn Z (tkv b n (nxt b n q)) R 0) (zfn Z (tkv b n (nxt b n (nxt b n q))) R 0) N 0) = sTn b n (nxt b n (nxt b n q)) (zfn Z (tkv b n (nxt b n (nxt b n q))) R 0) := by omega
            have nf5 : ¬ (xI h5 45 2).toInt = 0 := by rw [f5]; exact s5
            have s5 : ¬ sJo b n (nxt b n (nxt b n q)) (zfn Z (tkv b n (nxt b n q)) R 0) (zfn Z (tkv b n (nxt b n (nxt b n q))) R 0) (zjn O P (zfn Z (tkv b n (nxt b n q)) R 0) (zfn Z (tkv b n (nxt b n (nxt b n q))) R 0) N 0) = 0 := by rw [J5]; exact s5
            have f5 : (xI h5 45 2).toInt = sJo b n (nxt b n (nxt b n q)) (zfn Z (tkv b n (nxt b n q)) R 0) (zfn Z (tkv b n (nxt b n (nxt b n q))) R 0) (zjn O P (zfn Z (tkv b n (nxt b n q)) R 0) (zfn Z (tkv b n (nxt b n (nxt b n q))) R 0) N 0) := by rw [J5]; exact f5
            have t19 : XT l 8 260 false 43 153 6051 105 [xf 7 45, xi (xI h 24 5), xi v3, xi v4, xun] [xi v4, xf 7 45] h3 108 [xf 7 45, xi (xI h 24 5), xi v3, xi v4, xun] [xi v5] h5 := XT_call (l := l) (fr := 8) (lo := 260) (full := false) (M := 43) (n := 153) (u := 6051) (pc := 105) (L := [xf 7 45, xi (xI h 24 5), xi v3, xi v4, xun]) (st := [xi v4, xf 7 45]) (h := h3) (i := .invokevirtual 44) (aux := 2) (nx := 108) (K := 44) (vs := [xf 7 45, xi v4]) (rs := [xi v5]) (rest := []) rfl rfl rfl rfl rfl rfl cc5 (by decide) (by decide) (Nat.le_of_ble_eq_true rfl) ⟨Nat.le_of_eq g5.1.2.2.2.1, Nat.le_of_eq g5.1.2.2.2.2⟩
            have t20 := t18.tr t19
            have t21 : XT l 8 260 false 43 153 6051 108 [xf 7 45, xi (xI h 24 5), xi v3, xi v4, xun] [xi v5] h5 113 [xf 7 45, xi (xI h 24 5), xi v3, xi v4, xun] [xi (Int32.ofInt (9)), xi (Int32.ofInt (1)), xf 7 45] h5 := XT_path (l := l) (fr := 8) (lo := 260) (full := false) (M := 43) (n := 153) (u := 6051) (pc := 108) (L := [xf 7 45, xi (xI h 24 5), xi v3, xi v4, xun]) (st := [xi v5]) (h := h5) (inl := [39]) (n' := 160) (sp := [113]) (o := []) rfl rfl ⟨rfl, rfl, rfl⟩ rfl ⟨Nat.le_of_eq g5.1.2.2.2.1, Nat.le_of_eq g5.1.2.2.2.2⟩ trivial
            have t22 := t20.tr t21
            obtain ⟨v6, cc6⟩ := ck_num1 l ((Int32.ofInt (1))) ((Int32.ofInt (9))) h5 g5.1 nf5
            have t23 : XT l 8 260 false 43 153 6051 113 [xf 7 45, xi (xI h 24 5), xi v3, xi v4, xun] [xi (Int32.ofInt (9)), xi (Int32.ofInt (1)), xf 7 45] h5 116 [xf 7 45, xi (xI h 24 5), xi v3, xi v4, xun] [xi v6] h5 := XT_call (l := l) (fr := 8) (lo := 260) (full := false) (M := 43) (n := 153) (u := 6051) (pc := 113) (L := [xf 7 45, xi (xI h 24 5), xi v3, xi v4, xun]) (st := [xi (Int32.ofInt (9)), xi (Int32.ofInt (1)), xf 7 45]) (h := h5) (i := .invokevirtual 42) (aux := 3) (nx := 116) (K := 42) (vs := [xf 7 45, xi (Int32.ofInt (1)), xi (Int32.ofInt (9))]) (rs := [xi v6]) (rest := []) rfl rfl rfl rfl rfl rfl cc6 (by decide) (by decide) (Nat.le_of_ble_eq_true rfl) ⟨Nat.le_of_eq g5.1.2.2.2.1, Nat.le_of_eq g5.1.2.2.2.2⟩
            have t24 := t22.tr t23
            have t25 : XT l 8 260 false 43 153 6051 116 [xf 7 45, xi (xI h 24 5), xi v3, xi v4, xun] [xi v6] h5 169 [xf 7 45, xi (xI h 24 5), xi v3, xi v4, xi v6] [] h5 := XT_path (l := l) (fr := 8) (lo := 260) (full := false) (M := 43) (n := 153) (u := 6051) (pc := 116) (L := [xf 7 45, xi (xI h 24 5), xi v3, xi v4, xun]) (st := [xi v6]) (h := h5) (inl := [39]) (n' := 160) (sp := [169]) (o := [1]) rfl rfl ⟨rfl, rfl, rfl⟩ rfl ⟨Nat.le_of_eq g5.1.2.2.2.1, Nat.le_of_eq g5.1.2.2.2.2⟩ ⟨trivial, (fun z_ => nf5 (congrArg Int32.toInt z_))⟩
            have t26 := t24.tr t25
            have es := (show sJn b n Z R O P N q = _ from (if_neg (by omega)).trans ((if_neg (fun z => z s3)).trans (if_pos s5)))
            exact ⟨_, CX_ofT (h' := h5) (by decide) rfl rfl trivial ⟨_, _, _, rfl, rfl, rfl⟩ rfl ⟨Nat.le_of_eq g5.1.2.2.2.1.symm, Nat.le_of_eq g5.1.2.2.2.2.symm⟩ t26, ⟨g5.1, (G5).2.mono rfl rfl⟩, Or.inr ⟨by rw [es]; exact s5, by rw [es]; exact f5, by rw [es]; exact pl5, k5⟩⟩
        · have e_m1 : (Int32.ofInt (-1)).toInt = -1 := rfl
          have dc16 : ¬ (v4).toInt = (Int32.ofInt (-1)).toInt := fun z_ => c16 (Int32.toInt_inj.mp z_)
          have t27 : XT l 8 260 false 43 153 6051 51 [xf 7 45, xi (xI h 24 5), xi v3, xun, xun] [xi v4] h3 78 [xf 7 45, xi (xI h 24 5), xi v3, xi v4, xun] [xi v4, xi v3, xf 8 (xR h3 45 4)] h3 := XT_path (l := l) (fr := 8) (lo := 260) (full := false) (M := 43) (n := 153) (u := 6051) (pc := 51) (L := [xf 7 45, xi (xI h 24 5), xi v3, xun, xun]) (st := [xi v4]) (h := h3) (inl := [39]) (n' := 160) (sp := [78]) (o := [0, 0, 0]) rfl rfl ⟨rfl, rfl, rfl⟩ rfl ⟨Nat.le_of_eq g3.1.2.2.2.1, Nat.le_of_eq g3.1.2.2.2.2⟩ ⟨⟨⟨⟨trivial, (Int32.toInt_inj.mp f3 : xI h3 45 2 = 0)⟩, c15⟩, c16⟩, (show ¬ xR h3 45 4 = 0 from by rw [rr3]; decide)⟩
          rw [rr3] at t27
          have t28 := t14.tr t27
          obtain ⟨v7, cc7, ev7⟩ := ck_joi24 l O P (v3) (v4) N h3 g3.1 (by rw [G3.2.1 24 5 rfl]; exact hn) (by omega) (fun k hk => by rw [G3.2.1 29 k rfl]; exact ho k hk) (fun k hk => by rw [G3.2.1 30 k rfl]; exact hp k hk)
          rw [ev3, ev4] at ev7
          have t29 : XT l 8 260 false 43 153 6051 78 [xf 7 45, xi (xI h 24 5), xi v3, xi v4, xun] [xi v4, xi v3, xf 8 24] h3 81 [xf 7 45, xi (xI h 24 5), xi v3, xi v4, xun] [xi v7] h3 := XT_call (l := l) (fr := 8) (lo := 260) (full := false) (M := 43) (n := 153) (u := 6051) (pc := 78) (L := [xf 7 45, xi (xI h 24 5), xi v3, xi v4, xun]) (st := [xi v4, xi v3, xf 8 24]) (h := h3) (i := .invokevirtual 45) (aux := 3) (nx := 81) (K := 45) (vs := [xf 8 24, xi v3, xi v4]) (rs := [xi v7]) (rest := []) rfl rfl rfl rfl rfl rfl cc7 (by decide) (by decide) (Nat.le_of_ble_eq_true rfl) ⟨Nat.le_of_eq g3.1.2.2.2.1, Nat.le_of_eq g3.1.2.2.2.2⟩
          have t30 := t28.tr t29
          by_cases c31 : v7 = (Int32.ofInt (-1))
          · have e_m1 : (Int32.ofInt (-1)).toInt = -1 := rfl
            have dc31 : (v7).toInt = (Int32.ofInt (-1)).toInt := congrArg Int32.toInt c31
            by_cases c32 : v3 = v4
            · have dc32 : (v3).toInt = (v4).toInt := congrArg Int32.toInt c32
              have t33 : XT l 8 260 false 43 153 6051 81 [xf 7 45, xi (xI h 24 5), xi v3, xi v4, xun] [xi v7] h3 105 [xf 7 45, xi (xI h 24 5), xi v3, xi v4, xun] [xi v4, xf 7 45] (xsetI (xsetI h3 45 2 (Int32.ofInt (5))) 45 3 (xI h3 45 8)) := XT_path (l := l) (fr := 8) (lo := 260) (full := false) (M := 43) (n := 153) (u := 6051) (pc := 81) (L := [xf 7 45, xi (xI h 24 5), xi v3, xi v4, xun]) (st := [xi v7]) (h := h3) (inl := [39]) (n' := 160) (sp := [105]) (o := [1, 0, 0]) rfl rfl ⟨rfl, rfl, rfl⟩ rfl ⟨Nat.le_of_eq g3.1.2.2.2.1, Nat.le_of_eq g3.1.2.2.2.2⟩ ⟨⟨⟨trivial, c31⟩, c32⟩, (Int32.toInt_inj.mp f3 : xI h3 45 2 = 0)⟩
              have t34 := t30.tr t33
              have jf := sJo_v b n (nxt b n (nxt b n q)) (zfn Z (tkv b n (nxt b n q)) R 0) (zfn Z (tkv b n (nxt b n (nxt b n q))) R 0) (zjn O P (zfn Z (tkv b n (nxt b n q)) R 0) (zfn Z (tkv b n (nxt b n (nxt b n q))) R 0) N 0)
              have kc2 := k3.2.2.2.2.1
              have tf := sTn_v b n (nxt b n (nxt b n q)) (zfn Z (tkv b n (nxt b n (nxt b n q))) R 0)
              have eu := ev3
              have ew2 := ev4
              have ejn := ev7
              have sj : sJo b n (nxt b n (nxt b n q)) (zfn Z (tkv b n (nxt b n q)) R 0) (zfn Z (tkv b n (nxt b n (nxt b n q))) R 0) (zjn O P (zfn Z (tkv b n (nxt b n q)) R 0) (zfn Z (tkv b n (nxt b n (nxt b n q))) R 0) N 0) = 5 := by omega
              have G8 : vG ([(45, 2, false), (45, 3, false), (45, 6, false), (45, 7, false), (45, 8, false), (45, 9, false)], []) h (xsetI (xsetI h3 45 2 (Int32.ofInt (5))) 45 3 (xI h3 45 8)) := vGf (G3 : vG ([(45, 2, false), (45, 3, false), (45, 6, false), (45, 7, false), (45, 8, false), (45, 9, false)], []) h h3) (by decide) rfl rfl rfl
              have rr8 : xR (xsetI (xsetI h3 45 2 (Int32.ofInt (5))) 45 3 (xI h3 45 8)) 45 4 = 24 := (G8.2.2 45 4 rfl).trans r4
              have nf8 : ¬ (xI (xsetI (xsetI h3 45 2 (Int32.ofInt (5))) 45 3 (xI h3 45 8)) 45 2).toInt = 0 := by rw [yI_ne (by decide), yI_same]; exact (by decide : ¬ ((Int32.ofInt (5))).toInt = 0)
              have sn8 : ¬ sJo b n (nxt b n (nxt b n q)) (zfn Z (tkv b n (nxt b n q)) R 0) (zfn Z (tkv b n (nxt b n (nxt b n q))) R 0) (zjn O P (zfn Z (tkv b n (nxt b n q)) R 0) (zfn Z (tkv b n (nxt b n (nxt b n q))) R 0) N 0) = 0 := by omega
              have fn8 : (xI (xsetI (xsetI h3 45 2 (Int32.ofInt (5))) 45 3 (xI h3 45 8)) 45 2).toInt = sJo b n (nxt b n (nxt b n q)) (zfn Z (tkv b n (nxt b n q)) R 0) (zfn Z (tkv b n (nxt b n (nxt b n q))) R 0) (zjn O P (zfn Z (tkv b n (nxt b n q)) R 0) (zfn Z (tkv b n (nxt b n (nxt b n q))) R 0) N 0) := by rw [yI_ne (by decide), yI_same, sj]; rfl
              have pn8 : (xI (xsetI (xsetI h3 45 2 (Int32.ofInt (5))) 45 3 (xI h3 45 8)) 45 3).toInt = ((nxt b n (nxt b n q)) : Nat) := by rw [yI_same]; exact k3.2.2.2.1
              have kn8 : kR b n (xsetI (xsetI h3 45 2 (Int32.ofInt (5))) 45 3 (xI h3 45 8)) := k3.1.fr (by rw [yI_ne (by decide), yI_ne (by decide)]) (fun k => by rw [yI_c (by decide), yI_c (by decide)])
              obtain ⟨v8, cc8⟩ := ck_told1 l (v4) (xsetI (xsetI h3 45 2 (Int32.ofInt (5))) 45 3 (xI h3 45 8)) G8.1 nf8
              have t35 : XT l 8 260 false 43 153 6051 105 [xf 7 45, xi (xI h 24 5), xi v3, xi v4, xun] [xi v4, xf 7 45] (xsetI (xsetI h3 45 2 (Int32.ofInt (5))) 45 3 (xI h3 45 8)) 108 [xf 7 45, xi (xI h 24 5), xi v3, xi v4, xun] [xi v8] (xsetI (xsetI h3 45 2 (Int32.ofInt (5))) 45 3 (xI h3 45 8)) := XT_call (l := l) (fr := 8) (lo := 260) (full := false) (M := 43) (n := 153) (u := 6051) (pc := 105) (L := [xf 7 45, xi (xI h 24 5), xi v3, xi v4, xun]) (st := [xi v4, xf 7 45]) (h := (xsetI (xsetI h3 45 2 (Int32.ofInt (5))) 45 3 (xI h3 45 8))) (i := .invokevirtual 44) (aux := 2) (nx := 108) (K := 44) (vs := [xf 7 45, xi v4]) (rs := [xi v8]) (rest := []) rfl rfl rfl rfl rfl rfl cc8 (by decide) (by decide) (Nat.le_of_ble_eq_true rfl) ⟨Nat.le_of_eq G8.1.2.2.2.1, Nat.le_of_eq G8.1.2.2.2.2⟩
              have t36 := t34.tr t35
              have t37 : XT l 8 260 false 43 153 6051 108 [xf 7 45, xi (xI h 24 5), xi v3, xi v4, xun] [xi v8] (xsetI (xsetI h3 45 2 (Int32.ofInt (5))) 45 3 (xI h3 45 8)) 113 [xf 7 45, xi (xI h 24 5), xi v3, xi v4, xun] [xi (Int32.ofInt (9)), xi (Int32.ofInt (1)), xf 7 45] (xsetI (xsetI h3 45 2 (Int32.ofInt (5))) 45 3 (xI h3 45 8)) := XT_path (l := l) (fr := 8) (lo := 260) (full := false) (M := 43) (n := 153) (u := 6051) (pc := 108) (L := [xf 7 45, xi (xI h 24 5), xi v3, xi v4, xun]) (st := [xi v8]) (h := (xsetI (xsetI h3 45 2 (Int32.ofInt (5))) 45 3 (xI h3 45 8))) (inl := [39]) (n' := 160) (sp := [113]) (o := []) rfl rfl ⟨rfl, rfl, rfl⟩ rfl ⟨Nat.le_of_eq G8.1.2.2.2.1, Nat.le_of_eq G8.1.2.2.2.2⟩ trivial
              have t38 := t36.tr t37
              obtain ⟨v9, cc9⟩ := ck_num1 l ((Int32.ofInt (1))) ((Int32.ofInt (9))) (xsetI (xsetI h3 45 2 (Int32.ofInt (5))) 45 3 (xI h3 45 8)) G8.1 nf8
              have t39 : XT l 8 260 false 43 153 6051 113 [xf 7 45, xi (xI h 24 5), xi v3, xi v4, xun] [xi (Int32.ofInt (9)), xi (Int32.ofInt (1)), xf 7 45] (xsetI (xsetI h3 45 2 (Int32.ofInt (5))) 45 3 (xI h3 45 8)) 116 [xf 7 45, xi (xI h 24 5), xi v3, xi v4, xun] [xi v9] (xsetI (xsetI h3 45 2 (Int32.ofInt (5))) 45 3 (xI h3 45 8)) := XT_call (l := l) (fr := 8) (lo := 260) (full := false) (M := 43) (n := 153) (u := 6051) (pc := 113) (L := [xf 7 45, xi (xI h 24 5), xi v3, xi v4, xun]) (st := [xi (Int32.ofInt (9)), xi (Int32.ofInt (1)), xf 7 45]) (h := (xsetI (xsetI h3 45 2 (Int32.ofInt (5))) 45 3 (xI h3 45 8))) (i := .invokevirtual 42) (aux := 3) (nx := 116) (K := 42) (vs := [xf 7 45, xi (Int32.ofInt (1)), xi (Int32.ofInt (9))]) (rs := [xi v9]) (rest := []) rfl rfl rfl rfl rfl rfl cc9 (by decide) (by decide) (Nat.le_of_ble_eq_true rfl) ⟨Nat.le_of_eq G8.1.2.2.2.1, Nat.le_of_eq G8.1.2.2.2.2⟩
              have t40 := t38.tr t39
              have t41 : XT l 8 260 false 43 153 6051 116 [xf 7 45, xi (xI h 24 5), xi v3, xi v4, xun] [xi v9] (xsetI (xsetI h3 45 2 (Int32.ofInt (5))) 45 3 (xI h3 45 8)) 169 [xf 7 45, xi (xI h 24 5), xi v3, xi v4, xi v9] [] (xsetI (xsetI h3 45 2 (Int32.ofInt (5))) 45 3 (xI h3 45 8)) := XT_path (l := l) (fr := 8) (lo := 260) (full := false) (M := 43) (n := 153) (u := 6051) (pc := 116) (L := [xf 7 45, xi (xI h 24 5), xi v3, xi v4, xun]) (st := [xi v9]) (h := (xsetI (xsetI h3 45 2 (Int32.ofInt (5))) 45 3 (xI h3 45 8))) (inl := [39]) (n' := 160) (sp := [169]) (o := [1]) rfl rfl ⟨rfl, rfl, rfl⟩ rfl ⟨Nat.le_of_eq G8.1.2.2.2.1, Nat.le_of_eq G8.1.2.2.2.2⟩ ⟨trivial, (fun z_ => nf8 (congrArg Int32.toInt z_))⟩
              have t42 := t40.tr t41
              have es := (show sJn b n Z R O P N q = _ from (if_neg (by omega)).trans ((if_neg (fun z => z s3)).trans (if_pos sn8)))
              exact ⟨_, CX_ofT (h' := (xsetI (xsetI h3 45 2 (Int32.ofInt (5))) 45 3 (xI h3 45 8))) (by decide) rfl rfl trivial ⟨_, _, _, rfl, rfl, rfl⟩ rfl ⟨Nat.le_of_eq G8.1.2.2.2.1.symm, Nat.le_of_eq G8.1.2.2.2.2.symm⟩ t42, ⟨G8.1, (G8).2.mono rfl rfl⟩, Or.inr ⟨by rw [es]; exact sn8, by rw [es]; exact fn8, by rw [es]; exact pn8, kn8⟩⟩
            · have dc32 : ¬ (v3).toInt = (v4).toInt := fun z_ => c32 (Int32.toInt_inj.mp z_)
              have t43 : XT l 8 260 false 43 153 6051 81 [xf 7 45, xi (xI h 24 5), xi v3, xi v4, xun] [xi v7] h3 105 [xf 7 45, xi (xI h 24 5), xi v3, xi v4, xun] [xi v4, xf 7 45] h3 := XT_path (l := l) (fr := 8) (lo := 260) (full := false) (M := 43) (n := 153) (u := 6051) (pc := 81) (L := [xf 7 45, xi (xI h 24 5), xi v3, xi v4, xun]) (st := [xi v7]) (h := h3) (inl := [39]) (n' := 160) (sp := [105]) (o := [1, 1]) rfl rfl ⟨rfl, rfl, rfl⟩ rfl ⟨Nat.le_of_eq g3.1.2.2.2.1, Nat.le_of_eq g3.1.2.2.2.2⟩ ⟨⟨trivial, c31⟩, c32⟩
              have t44 := t30.tr t43
              have jf := sJo_v b n (nxt b n (nxt b n q)) (zfn Z (tkv b n (nxt b n q)) R 0) (zfn Z (tkv b n (nxt b n (nxt b n q))) R 0) (zjn O P (zfn Z (tkv b n (nxt b n q)) R 0) (zfn Z (tkv b n (nxt b n (nxt b n q))) R 0) N 0)
              have kc2 := k3.2.2.2.2.1
              have tf := sTn_v b n (nxt b n (nxt b n q)) (zfn Z (tkv b n (nxt b n (nxt b n q))) R 0)
              have eu := ev3
              have ew2 := ev4
              have ejn := ev7
              obtain ⟨v10, h10, cc10, g10, ev10, o10⟩ := ck_told0 l b n (nxt b n (nxt b n q)) (v4) h3 g3.1 k3 f3
              rw [ev4] at o10
              have ev10 := (congrArg Int32.toInt ev10).trans ev4
              have G10 : vG ([(45, 2, false), (45, 3, false), (45, 6, false), (45, 7, false), (45, 8, false), (45, 9, false)], []) h h10 := (G3 : vG ([(45, 2, false), (45, 3, false), (45, 6, false), (45, 7, false), (45, 8, false), (45, 9, false)], []) h h3).tr g10
              have rr10 : xR h10 45 4 = 24 := (G10.2.2 45 4 rfl).trans r4
              rcases o10 with ⟨s10, f10, k10⟩ | ⟨s10, f10, pl10, k10⟩
              · have J10 : sJo b n (nxt b n (nxt b n q)) (zfn Z (tkv b n (nxt b n q)) R 0) (zfn Z (tkv b n (nxt b n (nxt b n q))) R 0) (zjn O P (zfn Z (tkv b n (nxt b n q)) R 0) (zfn Z (tkv b n (nxt b n (nxt b n q))) R 0) N 0) = 0 := by omega
                have t45 : XT l 8 260 false 43 153 6051 105 [xf 7 45, xi (xI h 24 5), xi v3, xi v4, xun] [xi v4, xf 7 45] h3 108 [xf 7 45, xi (xI h 24 5), xi v3, xi v4, xun] [xi v10] h10 := XT_call (l := l) (fr := 8) (lo := 260) (full := false) (M := 43) (n := 153) (u := 6051) (pc := 105) (L := [xf 7 45, xi (xI h 24 5), xi v3, xi v4, xun]) (st := [xi v4, xf 7 45]) (h := h3) (i := .invokevirtual 44) (aux := 2) (nx := 108) (K := 44) (vs := [xf 7 45, xi v4]) (rs := [xi v10]) (rest := []) rfl rfl rfl rfl rfl rfl cc10 (by decide) (by decide) (Nat.le_of_ble_eq_true rfl) ⟨Nat.le_of_eq g10.1.2.2.2.1, Nat.le_of_eq g10.1.2.2.2.2⟩
                have t46 := t44.tr t45
                have t47 : XT l 8 260 false 43 153 6051 108 [xf 7 45, xi (xI h 24 5), xi v3, xi v4, xun] [xi v10] h10 113 [xf 7 45, xi (xI h 24 5), xi v3, xi v4, xun] [xi (Int32.ofInt (9)), xi (Int32.ofInt (1)), xf 7 45] h10 := XT_path (l := l) (fr := 8) (lo := 260) (full := false) (M := 43) (n := 153) (u := 6051) (pc := 108) (L := [xf 7 45, xi (xI h 24 5), xi v3, xi v4, xun]) (st := [xi v10]) (h := h10) (inl := [39]) (n' := 160) (sp := [113]) (o := []) rfl rfl ⟨rfl, rfl, rfl⟩ rfl ⟨Nat.le_of_eq g10.1.2.2.2.1, Nat.le_of_eq g10.1.2.2.2.2⟩ trivial
                have t48 := t46.tr t47
                obtain ⟨v11, h11, cc11, g11, ev11, o11⟩ := ck_num0 l b n (nxt b n (nxt b n (nxt b n q))) ((Int32.ofInt (1))) ((Int32.ofInt (9))) h10 g10.1 k10 f10
                rw [show (Int32.ofInt (1)).toInt = 1 from rfl, show (Int32.ofInt (9)).toInt = 9 from rfl] at o11
                have G11 : vG ([(45, 2, false), (45, 3, false), (45, 6, false), (45, 7, false), (45, 8, false), (45, 9, false)], []) h h11 := (G10 : vG ([(45, 2, false), (45, 3, false), (45, 6, false), (45, 7, false), (45, 8, false), (45, 9, false)], []) h h10).tr g11
                have rr11 : xR h11 45 4 = 24 := (G11.2.2 45 4 rfl).trans r4
                rcases o11 with ⟨s11, f11, k11⟩ | ⟨s11, f11, pl11, k11⟩
                · have t49 : XT l 8 260 false 43 153 6051 113 [xf 7 45, xi (xI h 24 5), xi v3, xi v4, xun] [xi (Int32.ofInt (9)), xi (Int32.ofInt (1)), xf 7 45] h10 116 [xf 7 45, xi (xI h 24 5), xi v3, xi v4, xun] [xi v11] h11 := XT_call (l := l) (fr := 8) (lo := 260) (full := false) (M := 43) (n := 153) (u := 6051) (pc := 113) (L := [xf 7 45, xi (xI h 24 5), xi v3, xi v4, xun]) (st := [xi (Int32.ofInt (9)), xi (Int32.ofInt (1)), xf 7 45]) (h := h10) (i := .invokevirtual 42) (aux := 3) (nx := 116) (K := 42) (vs := [xf 7 45, xi (Int32.ofInt (1)), xi (Int32.ofInt (9))]) (rs := [xi v11]) (rest := []) rfl rfl rfl rfl rfl rfl cc11 (by decide) (by decide) (Nat.le_of_ble_eq_true rfl) ⟨Nat.le_of_eq g11.1.2.2.2.1, Nat.le_of_eq g11.1.2.2.2.2⟩
                  have t50 := t48.tr t49
                  have t51 : XT l 8 260 false 43 153 6051 116 [xf 7 45, xi (xI h 24 5), xi v3, xi v4, xun] [xi v11] h11 169 [xf 7 45, xi (xI h 24 5), xi v3, xi v4, xi v11] [] (xsetI (xsetI (xsetI (xsetI h11 (xR h11 (xR h11 45 4) 6) ((xI h 24 5)).toNatClampNeg v3) (xR h11 (xR h11 45 4) 7) ((xI h 24 5)).toNatClampNeg v4) (xR h11 (xR h11 45 4) 8) ((xI h 24 5)).toNatClampNeg v11) (xR h11 45 4) 5 ((xI (xsetI (xsetI (xsetI h11 (xR h11 (xR h11 45 4) 6) ((xI h 24 5)).toNatClampNeg v3) (xR h11 (xR h11 45 4) 7) ((xI h 24 5)).toNatClampNeg v4) (xR h11 (xR h11 45 4) 8) ((xI h 24 5)).toNatClampNeg v11) (xR h11 45 4) 5) + (Int32.ofInt (1)))) := XT_path (l := l) (fr := 8) (lo := 260) (full := false) (M := 43) (n := 153) (u := 6051) (pc := 116) (L := [xf 7 45, xi (xI h 24 5), xi v3, xi v4, xun]) (st := [xi v11]) (h := h11) (inl := [39]) (n' := 160) (sp := [169]) (o := [0]) rfl rfl ⟨rfl, rfl, rfl⟩ rfl ⟨Nat.le_of_eq g11.1.2.2.2.1, Nat.le_of_eq g11.1.2.2.2.2⟩ ⟨⟨⟨⟨⟨⟨⟨⟨⟨⟨⟨trivial, (Int32.toInt_inj.mp f11 : xI h11 45 2 = 0)⟩, (show ¬ xR h11 45 4 = 0 from by rw [rr11]; decide)⟩, (show ¬ xR h11 (xR h11 45 4) 6 = 0 from by rw [rr11]; exact vnn g11.1.1 (rfl : vRf 24 6 = [29]) (by decide))⟩, (vp_of (i := (xI h 24 5)) (n := 9) (by omega) (by omega))⟩, (show ¬ xR h11 45 4 = 0 from by rw [rr11]; decide)⟩, (show ¬ xR h11 (xR h11 45 4) 7 = 0 from by rw [rr11]; exact vnn g11.1.1 (rfl : vRf 24 7 = [30]) (by decide))⟩, (vp_of (i := (xI h 24 5)) (n := 9) (by omega) (by omega))⟩, (show ¬ xR h11 45 4 = 0 from by rw [rr11]; decide)⟩, (show ¬ xR h11 (xR h11 45 4) 8 = 0 from by rw [rr11]; exact vnn g11.1.1 (rfl : vRf 24 8 = [31]) (by decide))⟩, (vp_of (i := (xI h 24 5)) (n := 9) (by omega) (by omega))⟩, (show ¬ xR h11 45 4 = 0 from by rw [rr11]; decide)⟩
                  rw [rr11, vref g11.1.1 (rfl : vRf 24 6 = [29]), vref g11.1.1 (rfl : vRf 24 7 = [30]), vref g11.1.1 (rfl : vRf 24 8 = [31])] at t51
                  have t52 : XT l 8 260 false 43 153 6051 116 [xf 7 45, xi (xI h 24 5), xi v3, xi v4, xun] [xi v11] h11 169 [xf 7 45, xi (xI h 24 5), xi v3, xi v4, xi v11] [] (xsetI (xsetI (xsetI (xsetI h11 29 ((xI h 24 5)).toNatClampNeg v3) 30 ((xI h 24 5)).toNatClampNeg v4) 31 ((xI h 24 5)).toNatClampNeg v11) 24 5 ((xI h11 24 5) + (Int32.ofInt (1)))) := t51
                  have t53 := t50.tr t52
                  have es : sJn b n Z R O P N q = (0, 0) := (if_neg (by omega)).trans ((if_neg (fun z => z s3)).trans ((if_neg (fun z => z J10)).trans ((if_neg (fun z => z s11)).trans rfl)))
                  have n3 := sNu_in s11
                  have nk : (xI h 24 5).toNatClampNeg = N := by
                    show (xI h 24 5).toInt.toNat = N
                    omega
                  have z1 := zfn_b (Z := Z) (x := tkv b n (nxt b n q)) R 0
                  have z2 := zfn_b (Z := Z) (x := tkv b n (nxt b n (nxt b n q))) R 0
                  have tf1 := sTn_v b n (nxt b n q) (zfn Z (tkv b n (nxt b n q)) R 0)
                  have ts1 := s3
                  have ee := ev11
                  have jm : (zjn O P (zfn Z (tkv b n (nxt b n q)) R 0) (zfn Z (tkv b n (nxt b n (nxt b n q))) R 0) N 0) = -1 := by omega
                  have ec : (((xI h11 24 5) + (Int32.ofInt (1)))).toInt = (xI h 24 5).toInt + 1 := by rw [G11.2.1 24 5 rfl]; exact y_suc1 (by omega) (by omega)
                  have ad := vjadd24 g11.1 (k := (xI h 24 5).toNatClampNeg) (u := v3) (v := v4) (w := v11) (n := ((xI h11 24 5) + (Int32.ofInt (1)))) (by rw [G11.2.1 24 5 rfl]; omega) (by omega) (by omega) (by omega) (by omega) (by omega) (fun z_ => absurd (congrArg Int32.toInt z_) (by omega)) (fun j hj => by
                      rw [G11.2.1 24 5 rfl] at hj
                      have zz := zjn_no N 0 jm j (by omega) (by omega)
                      have a1 : (xI h11 29 j).toInt = O j := by rw [G11.2.1 29 j rfl]; exact ho j (by omega)
                      have a2 : (xI h11 30 j).toInt = P j := by rw [G11.2.1 30 j rfl]; exact hp j (by omega)
                      exact ⟨fun z => zz.1 ⟨by rw [← a1, z.1]; exact ev3, by rw [← a2, z.2]; exact ev4⟩, fun z => zz.2 ⟨by rw [← a1, z.1]; exact ev4, by rw [← a2, z.2]; exact ev3⟩⟩)
                  have fr : vG ([(24, 5, false), (29, 0, true), (30, 0, true), (31, 0, true), (45, 2, false), (45, 3, false), (45, 6, false), (45, 7, false), (45, 8, false), (45, 9, false)], []) h (xsetI (xsetI (xsetI (xsetI h11 29 ((xI h 24 5)).toNatClampNeg v3) 30 ((xI h 24 5)).toNatClampNeg v4) 31 ((xI h 24 5)).toNatClampNeg v11) 24 5 ((xI h11 24 5) + (Int32.ofInt (1)))) := ⟨ad.1, (((((G11 : vG ([(45, 2, false), (45, 3, false), (45, 6, false), (45, 7, false), (45, 8, false), (45, 9, false)], []) h h11).2.mono rfl rfl : sframe ([(24, 5, false), (29, 0, true), (30, 0, true), (31, 0, true), (45, 2, false), (45, 3, false), (45, 6, false), (45, 7, false), (45, 8, false), (45, 9, false)], []) h h11).tr (sframe_set rfl)).tr (sframe_set rfl)).tr (sframe_set rfl)).tr (sframe_set rfl)⟩
                  refine ⟨_, CX_ofT (h' := (xsetI (xsetI (xsetI (xsetI h11 29 ((xI h 24 5)).toNatClampNeg v3) 30 ((xI h 24 5)).toNatClampNeg v4) 31 ((xI h 24 5)).toNatClampNeg v11) 24 5 ((xI h11 24 5) + (Int32.ofInt (1))))) (by decide) rfl rfl trivial ⟨_, _, _, rfl, rfl, rfl⟩ rfl ⟨Nat.le_of_eq g11.1.2.2.2.1.symm, Nat.le_of_eq g11.1.2.2.2.2.symm⟩ t53, fr, Or.inl ⟨by rw [es], by rw [yI_c (by decide), yI_c (by decide), yI_c (by decide), yI_c (by decide)]; exact f11, k11.fr (fun k _ => by rw [yI_c (by decide), yI_c (by decide), yI_c (by decide), yI_c (by decide)]) (fun k => by rw [yI_c (by decide), yI_c (by decide), yI_c (by decide), yI_c (by decide)]), by rw [yI_same]; omega, by omega, by rw [yI_c (by decide), yI_c (by decide), yI_c (by decide), ← nk, yI_same]; exact ev3, by rw [yI_c (by decide), yI_c (by decide), ← nk, yI_same]; exact ev4, by rw [yI_c (by decide), ← nk, yI_same]; exact ev11, fun cc k hk hcc => ?_⟩⟩
                  rw [← nk] at hk
                  rcases hcc with rfl | rfl | rfl
                  · rw [yI_c (by decide), yI_c (by decide), yI_c (by decide), yI_ne (eq_false (fun z => hk z.2))]; exact G11.2.1 29 k rfl
                  · rw [yI_c (by decide), yI_c (by decide), yI_ne (eq_false (fun z => hk z.2)), yI_c (by decide)]; exact G11.2.1 30 k rfl
                  · rw [yI_c (by decide), yI_ne (eq_false (fun z => hk z.2)), yI_c (by decide), yI_c (by decide)]; exact G11.2.1 31 k rfl
                · have nf11 : ¬ (xI h11 45 2).toInt = 0 := by rw [f11]; exact s11
                  have t54 : XT l 8 260 false 43 153 6051 113 [xf 7 45, xi (xI h 24 5), xi v3, xi v4, xun] [xi (Int32.ofInt (9)), xi (Int32.ofInt (1)), xf 7 45] h10 116 [xf 7 45, xi (xI h 24 5), xi v3, xi v4, xun] [xi v11] h11 := XT_call (l := l) (fr := 8) (lo := 260) (full := false) (M := 43) (n := 153) (u := 6051) (pc := 113) (L := [xf 7 45, xi (xI h 24 5), xi v3, xi v4, xun]) (st := [xi (Int32.ofInt (9)), xi (Int32.ofInt (1)), xf 7 45]) (h := h10) (i := .invokevirtual 42) (aux := 3) (nx := 116) (K := 42) (vs := [xf 7 45, xi (Int32.ofInt (1)), xi (Int32.ofInt (9))]) (rs := [xi v11]) (rest := []) rfl rfl rfl rfl rfl rfl cc11 (by decide) (by decide) (Nat.le_of_ble_eq_true rfl) ⟨Nat.le_of_eq g11.1.2.2.2.1, Nat.le_of_eq g11.1.2.2.2.2⟩
                  have t55 := t48.tr t54
                  have t56 : XT l 8 260 false 43 153 6051 116 [xf 7 45, xi (xI h 24 5), xi v3, xi v4, xun] [xi v11] h11 169 [xf 7 45, xi (xI h 24 5), xi v3, xi v4, xi v11] [] h11 := XT_path (l := l) (fr := 8) (lo := 260) (full := false) (M := 43) (n := 153) (u := 6051) (pc := 116) (L := [xf 7 45, xi (xI h 24 5), xi v3, xi v4, xun]) (st := [xi v11]) (h := h11) (inl := [39]) (n' := 160) (sp := [169]) (o := [1]) rfl rfl ⟨rfl, rfl, rfl⟩ rfl ⟨Nat.le_of_eq g11.1.2.2.2.1, Nat.le_of_eq g11.1.2.2.2.2⟩ ⟨trivial, (fun z_ => nf11 (congrArg Int32.toInt z_))⟩
                  have t57 := t55.tr t56
                  have es := (show sJn b n Z R O P N q = _ from (if_neg (by omega)).trans ((if_neg (fun z => z s3)).trans ((if_neg (fun z => z J10)).trans (if_pos s11))))
                  exact ⟨_, CX_ofT (h' := h11) (by decide) rfl rfl trivial ⟨_, _, _, rfl, rfl, rfl⟩ rfl ⟨Nat.le_of_eq g11.1.2.2.2.1.symm, Nat.le_of_eq g11.1.2.2.2.2.symm⟩ t57, ⟨g11.1, (G11).2.mono rfl rfl⟩, Or.inr ⟨by rw [es]; exact s11, by rw [es]; exact f11, by rw [es]; exact pl11, k11⟩⟩
              · exact absurd s10 (by omega)
          · have e_m1 : (Int32.ofInt (-1)).toInt = -1 := rfl
            have dc31 : ¬ (v7).toInt = (Int32.ofInt (-1)).toInt := fun z_ => c31 (Int32.toInt_inj.mp z_)
            have t58 : XT l 8 260 false 43 153 6051 81 [xf 7 45, xi (xI h 24 5), xi v3, xi v4, xun] [xi v7] h3 105 [xf 7 45, xi (xI h 24 5), xi v3, xi v4, xun] [xi v4, xf 7 45] (xsetI (xsetI h3 45 2 (Int32.ofInt (3))) 45 3 (xI h3 45 8)) := XT_path (l := l) (fr := 8) (lo := 260) (full := false) (M := 43) (n := 153) (u := 6051) (pc := 81) (L := [xf 7 45, xi (xI h 24 5), xi v3, xi v4, xun]) (st := [xi v7]) (h := h3) (inl := [39]) (n' := 160) (sp := [105]) (o := [0, 0]) rfl rfl ⟨rfl, rfl, rfl⟩ rfl ⟨Nat.le_of_eq g3.1.2.2.2.1, Nat.le_of_eq g3.1.2.2.2.2⟩ ⟨⟨trivial, c31⟩, (Int32.toInt_inj.mp f3 : xI h3 45 2 = 0)⟩
            have t59 := t30.tr t58
            have jf := sJo_v b n (nxt b n (nxt b n q)) (zfn Z (tkv b n (nxt b n q)) R 0) (zfn Z (tkv b n (nxt b n (nxt b n q))) R 0) (zjn O P (zfn Z (tkv b n (nxt b n q)) R 0) (zfn Z (tkv b n (nxt b n (nxt b n q))) R 0) N 0)
            have kc2 := k3.2.2.2.2.1
            have tf := sTn_v b n (nxt b n (nxt b n q)) (zfn Z (tkv b n (nxt b n (nxt b n q))) R 0)
            have eu := ev3
            have ew2 := ev4
            have ejn := ev7
            have sj : sJo b n (nxt b n (nxt b n q)) (zfn Z (tkv b n (nxt b n q)) R 0) (zfn Z (tkv b n (nxt b n (nxt b n q))) R 0) (zjn O P (zfn Z (tkv b n (nxt b n q)) R 0) (zfn Z (tkv b n (nxt b n (nxt b n q))) R 0) N 0) = 3 := by omega
            have G12 : vG ([(45, 2, false), (45, 3, false), (45, 6, false), (45, 7, false), (45, 8, false), (45, 9, false)], []) h (xsetI (xsetI h3 45 2 (Int32.ofInt (3))) 45 3 (xI h3 45 8)) := vGf (G3 : vG ([(45, 2, false), (45, 3, false), (45, 6, false), (45, 7, false), (45, 8, false), (45, 9, false)], []) h h3) (by decide) rfl rfl rfl
            have rr12 : xR (xsetI (xsetI h3 45 2 (Int32.ofInt (3))) 45 3 (xI h3 45 8)) 45 4 = 24 := (G12.2.2 45 4 rfl).trans r4
            have nf12 : ¬ (xI (xsetI (xsetI h3 45 2 (Int32.ofInt (3))) 45 3 (xI h3 45 8)) 45 2).toInt = 0 := by rw [yI_ne (by decide), yI_same]; exact (by decide : ¬ ((Int32.ofInt (3))).toInt = 0)
            have sn12 : ¬ sJo b n (nxt b n (nxt b n q)) (zfn Z (tkv b n (nxt b n q)) R 0) (zfn Z (tkv b n (nxt b n (nxt b n q))) R 0) (zjn O P (zfn Z (tkv b n (nxt b n q)) R 0) (zfn Z (tkv b n (nxt b n (nxt b n q))) R 0) N 0) = 0 := by omega
            have fn12 : (xI (xsetI (xsetI h3 45 2 (Int32.ofInt (3))) 45 3 (xI h3 45 8)) 45 2).toInt = sJo b n (nxt b n (nxt b n q)) (zfn Z (tkv b n (nxt b n q)) R 0) (zfn Z (tkv b n (nxt b n (nxt b n q))) R 0) (zjn O P (zfn Z (tkv b n (nxt b n q)) R 0) (zfn Z (tkv b n (nxt b n (nxt b n q))) R 0) N 0) := by rw [yI_ne (by decide), yI_same, sj]; rfl
            have pn12 : (xI (xsetI (xsetI h3 45 2 (Int32.ofInt (3))) 45 3 (xI h3 45 8)) 45 3).toInt = ((nxt b n (nxt b n q)) : Nat) := by rw [yI_same]; exact k3.2.2.2.1
            have kn12 : kR b n (xsetI (xsetI h3 45 2 (Int32.ofInt (3))) 45 3 (xI h3 45 8)) := k3.1.fr (by rw [yI_ne (by decide), yI_ne (by decide)]) (fun k => by rw [yI_c (by decide), yI_c (by decide)])
            obtain ⟨v12, cc12⟩ := ck_told1 l (v4) (xsetI (xsetI h3 45 2 (Int32.ofInt (3))) 45 3 (xI h3 45 8)) G12.1 nf12
            have t60 : XT l 8 260 false 43 153 6051 105 [xf 7 45, xi (xI h 24 5), xi v3, xi v4, xun] [xi v4, xf 7 45] (xsetI (xsetI h3 45 2 (Int32.ofInt (3))) 45 3 (xI h3 45 8)) 108 [xf 7 45, xi (xI h 24 5), xi v3, xi v4, xun] [xi v12] (xsetI (xsetI h3 45 2 (Int32.ofInt (3))) 45 3 (xI h3 45 8)) := XT_call (l := l) (fr := 8) (lo := 260) (full := false) (M := 43) (n := 153) (u := 6051) (pc := 105) (L := [xf 7 45, xi (xI h 24 5), xi v3, xi v4, xun]) (st := [xi v4, xf 7 45]) (h := (xsetI (xsetI h3 45 2 (Int32.ofInt (3))) 45 3 (xI h3 45 8))) (i := .invokevirtual 44) (aux := 2) (nx := 108) (K := 44) (vs := [xf 7 45, xi v4]) (rs := [xi v12]) (rest := []) rfl rfl rfl rfl rfl rfl cc12 (by decide) (by decide) (Nat.le_of_ble_eq_true rfl) ⟨Nat.le_of_eq G12.1.2.2.2.1, Nat.le_of_eq G12.1.2.2.2.2⟩
            have t61 := t59.tr t60
            have t62 : XT l 8 260 false 43 153 6051 108 [xf 7 45, xi (xI h 24 5), xi v3, xi v4, xun] [xi v12] (xsetI (xsetI h3 45 2 (Int32.ofInt (3))) 45 3 (xI h3 45 8)) 113 [xf 7 45, xi (xI h 24 5), xi v3, xi v4, xun] [xi (Int32.ofInt (9)), xi (Int32.ofInt (1)), xf 7 45] (xsetI (xsetI h3 45 2 (Int32.ofInt (3))) 45 3 (xI h3 45 8)) := XT_path (l := l) (fr := 8) (lo := 260) (full := false) (M := 43) (n := 153) (u := 6051) (pc := 108) (L := [xf 7 45, xi (xI h 24 5), xi v3, xi v4, xun]) (st := [xi v12]) (h := (xsetI (xsetI h3 45 2 (Int32.ofInt (3))) 45 3 (xI h3 45 8))) (inl := [39]) (n' := 160) (sp := [113]) (o := []) rfl rfl ⟨rfl, rfl, rfl⟩ rfl ⟨Nat.le_of_eq G12.1.2.2.2.1, Nat.le_of_eq G12.1.2.2.2.2⟩ trivial
            have t63 := t61.tr t62
            obtain ⟨v13, cc13⟩ := ck_num1 l ((Int32.ofInt (1))) ((Int32.ofInt (9))) (xsetI (xsetI h3 45 2 (Int32.ofInt (3))) 45 3 (xI h3 45 8)) G12.1 nf12
            have t64 : XT l 8 260 false 43 153 6051 113 [xf 7 45, xi (xI h 24 5), xi v3, xi v4, xun] [xi (Int32.ofInt (9)), xi (Int32.ofInt (1)), xf 7 45] (xsetI (xsetI h3 45 2 (Int32.ofInt (3))) 45 3 (xI h3 45 8)) 116 [xf 7 45, xi (xI h 24 5), xi v3, xi v4, xun] [xi v13] (xsetI (xsetI h3 45 2 (Int32.ofInt (3))) 45 3 (xI h3 45 8)) := XT_call (l := l) (fr := 8) (lo := 260) (full := false) (M := 43) (n := 153) (u := 6051) (pc := 113) (L := [xf 7 45, xi (xI h 24 5), xi v3, xi v4, xun]) (st := [xi (Int32.ofInt (9)), xi (Int32.ofInt (1)), xf 7 45]) (h := (xsetI (xsetI h3 45 2 (Int32.ofInt (3))) 45 3 (xI h3 45 8))) (i := .invokevirtual 42) (aux := 3) (nx := 116) (K := 42) (vs := [xf 7 45, xi (Int32.ofInt (1)), xi (Int32.ofInt (9))]) (rs := [xi v13]) (rest := []) rfl rfl rfl rfl rfl rfl cc13 (by decide) (by decide) (Nat.le_of_ble_eq_true rfl) ⟨Nat.le_of_eq G12.1.2.2.2.1, Nat.le_of_eq G12.1.2.2.2.2⟩
            have t65 := t63.tr t64
            have t66 : XT l 8 260 false 43 153 6051 116 [xf 7 45, xi (xI h 24 5), xi v3, xi v4, xun] [xi v13] (xsetI (xsetI h3 45 2 (Int32.ofInt (3))) 45 3 (xI h3 45 8)) 169 [xf 7 45, xi (xI h 24 5), xi v3, xi v4, xi v13] [] (xsetI (xsetI h3 45 2 (Int32.ofInt (3))) 45 3 (xI h3 45 8)) := XT_path (l := l) (fr := 8) (lo := 260) (full := false) (M := 43) (n := 153) (u := 6051) (pc := 116) (L := [xf 7 45, xi (xI h 24 5), xi v3, xi v4, xun]) (st := [xi v13]) (h := (xsetI (xsetI h3 45 2 (Int32.ofInt (3))) 45 3 (xI h3 45 8))) (inl := [39]) (n' := 160) (sp := [169]) (o := [1]) rfl rfl ⟨rfl, rfl, rfl⟩ rfl ⟨Nat.le_of_eq G12.1.2.2.2.1, Nat.le_of_eq G12.1.2.2.2.2⟩ ⟨trivial, (fun z_ => nf12 (congrArg Int32.toInt z_))⟩
            have t67 := t65.tr t66
            have es := (show sJn b n Z R O P N q = _ from (if_neg (by omega)).trans ((if_neg (fun z => z s3)).trans (if_pos sn12)))
            exact ⟨_, CX_ofT (h' := (xsetI (xsetI h3 45 2 (Int32.ofInt (3))) 45 3 (xI h3 45 8))) (by decide) rfl rfl trivial ⟨_, _, _, rfl, rfl, rfl⟩ rfl ⟨Nat.le_of_eq G12.1.2.2.2.1.symm, Nat.le_of_eq G12.1.2.2.2.2.symm⟩ t67, ⟨G12.1, (G12).2.mono rfl rfl⟩, Or.inr ⟨by rw [es]; exact sn12, by rw [es]; exact fn12, by rw [es]; exact pn12, kn12⟩⟩
      · have e_3 : (Int32.ofInt (3)).toInt = 3 := rfl
        have dc15 : ¬ (xI h3 45 7).toInt = (Int32.ofInt (3)).toInt := fun z_ => c15 (Int32.toInt_inj.mp z_)
        have t68 : XT l 8 260 false 43 153 6051 51 [xf 7 45, xi (xI h 24 5), xi v3, xun, xun] [xi v4] h3 105 [xf 7 45, xi (xI h 24 5), xi v3, xi v4, xun] [xi v4, xf 7 45] h3 := XT_path (l := l) (fr := 8) (lo := 260) (full := false) (M := 43) (n := 153) (u := 6051) (pc := 51) (L := [xf 7 45, xi (xI h 24 5), xi v3, xun, xun]) (st := [xi v4]) (h := h3) (inl := [39]) (n' := 160) (sp := [105]) (o := [0, 1]) rfl rfl ⟨rfl, rfl, rfl⟩ rfl ⟨Nat.le_of_eq g3.1.2.2.2.1, Nat.le_of_eq g3.1.2.2.2.2⟩ ⟨⟨trivial, (Int32.toInt_inj.mp f3 : xI h3 45 2 = 0)⟩, c15⟩
        have t69 := t14.tr t68
        have jf := sJo_v b n (nxt b n (nxt b n q)) (zfn Z (tkv b n (nxt b n q)) R 0) (zfn Z (tkv b n (nxt b n (nxt b n q))) R 0) (zjn O P (zfn Z (tkv b n (nxt b n q)) R 0) (zfn Z (tkv b n (nxt b n (nxt b n q))) R 0) N 0)
        have kc2 := k3.2.2.2.2.1
        have tf := sTn_v b n (nxt b n (nxt b n q)) (zfn Z (tkv b n (nxt b n (nxt b n q))) R 0)
        have eu := ev3
        have ew2 := ev4
        obtain ⟨v14, h14, cc14, g14, ev14, o14⟩ := ck_told0 l b n (nxt b n (nxt b n q)) (v4) h3 g3.1 k3 f3
        rw [ev4] at o14
        have ev14 := (congrArg Int32.toInt ev14).trans ev4
        have G14 : vG ([(45, 2, false), (45, 3, false), (45, 6, false), (45, 7, false), (45, 8, false), (45, 9, false)], []) h h14 := (G3 : vG ([(45, 2, false), (45, 3, false), (45, 6, false), (45, 7, false), (45, 8, false), (45, 9, false)], []) h h3).tr g14
        have rr14 : xR h14 45 4 = 24 := (G14.2.2 45 4 rfl).trans r4
        rcases o14 with ⟨s14, f14, k14⟩ | ⟨s14, f14, pl14, k14⟩
        · exact absurd s14 (by omega)
        · have J14 : sJo b n (nxt b n (nxt b n q)) (zfn Z (tkv b n (nxt b n q)) R 0) (zfn Z (tkv b n (nxt b n (nxt b n q))) R 0) (zjn O P (zfn Z (tkv b n (nxt b n q)) R 0) (zfn Z (tkv b n (nxt b n (nxt b n q))) R 0) N 0) = sTn b n (nxt b n (nxt b n q)) (zfn Z (tkv b n (nxt b n (nxt b n q))) R 0) := by omega
          have nf14 : ¬ (xI h14 45 2).toInt = 0 := by rw [f14]; exact s14
          have s14 : ¬ sJo b n (nxt b n (nxt b n q)) (zfn Z (tkv b n (nxt b n q)) R 0) (zfn Z (tkv b n (nxt b n (nxt b n q))) R 0) (zjn O P (zfn Z (tkv b n (nxt b n q)) R 0) (zfn Z (tkv b n (nxt b n (nxt b n q))) R 0) N 0) = 0 := by rw [J14]; exact s14
          have f14 : (xI h14 45 2).toInt = sJo b n (nxt b n (nxt b n q)) (zfn Z (tkv b n (nxt b n q)) R 0) (zfn Z (tkv b n (nxt b n (nxt b n q))) R 0) (zjn O P (zfn Z (tkv b n (nxt b n q)) R 0) (zfn Z (tkv b n (nxt b n (nxt b n q))) R 0) N 0) := by rw [J14]; exact f14
          have t70 : XT l 8 260 false 43 153 6051 105 [xf 7 45, xi (xI h 24 5), xi v3, xi v4, xun] [xi v4, xf 7 45] h3 108 [xf 7 45, xi (xI h 24 5), xi v3, xi v4, xun] [xi v14] h14 := XT_call (l := l) (fr := 8) (lo := 260) (full := false) (M := 43) (n := 153) (u := 6051) (pc := 105) (L := [xf 7 45, xi (xI h 24 5), xi v3, xi v4, xun]) (st := [xi v4, xf 7 45]) (h := h3) (i := .invokevirtual 44) (aux := 2) (nx := 108) (K := 44) (vs := [xf 7 45, xi v4]) (rs := [xi v14]) (rest := []) rfl rfl rfl rfl rfl rfl cc14 (by decide) (by decide) (Nat.le_of_ble_eq_true rfl) ⟨Nat.le_of_eq g14.1.2.2.2.1, Nat.le_of_eq g14.1.2.2.2.2⟩
          have t71 := t69.tr t70
          have t72 : XT l 8 260 false 43 153 6051 108 [xf 7 45, xi (xI h 24 5), xi v3, xi v4, xun] [xi v14] h14 113 [xf 7 45, xi (xI h 24 5), xi v3, xi v4, xun] [xi (Int32.ofInt (9)), xi (Int32.ofInt (1)), xf 7 45] h14 := XT_path (l := l) (fr := 8) (lo := 260) (full := false) (M := 43) (n := 153) (u := 6051) (pc := 108) (L := [xf 7 45, xi (xI h 24 5), xi v3, xi v4, xun]) (st := [xi v14]) (h := h14) (inl := [39]) (n' := 160) (sp := [113]) (o := []) rfl rfl ⟨rfl, rfl, rfl⟩ rfl ⟨Nat.le_of_eq g14.1.2.2.2.1, Nat.le_of_eq g14.1.2.2.2.2⟩ trivial
          have t73 := t71.tr t72
          obtain ⟨v15, cc15⟩ := ck_num1 l ((Int32.ofInt (1))) ((Int32.ofInt (9))) h14 g14.1 nf14
          have t74 : XT l 8 260 false 43 153 6051 113 [xf 7 45, xi (xI h 24 5), xi v3, xi v4, xun] [xi (Int32.ofInt (9)), xi (Int32.ofInt (1)), xf 7 45] h14 116 [xf 7 45, xi (xI h 24 5), xi v3, xi v4, xun] [xi v15] h14 := XT_call (l := l) (fr := 8) (lo := 260) (full := false) (M := 43) (n := 153) (u := 6051) (pc := 113) (L := [xf 7 45, xi (xI h 24 5), xi v3, xi v4, xun]) (st := [xi (Int32.ofInt (9)), xi (Int32.ofInt (1)), xf 7 45]) (h := h14) (i := .invokevirtual 42) (aux := 3) (nx := 116) (K := 42) (vs := [xf 7 45, xi (Int32.ofInt (1)), xi (Int32.ofInt (9))]) (rs := [xi v15]) (rest := []) rfl rfl rfl rfl rfl rfl cc15 (by decide) (by decide) (Nat.le_of_ble_eq_true rfl) ⟨Nat.le_of_eq g14.1.2.2.2.1, Nat.le_of_eq g14.1.2.2.2.2⟩
          have t75 := t73.tr t74
          have t76 : XT l 8 260 false 43 153 6051 116 [xf 7 45, xi (xI h 24 5), xi v3, xi v4, xun] [xi v15] h14 169 [xf 7 45, xi (xI h 24 5), xi v3, xi v4, xi v15] [] h14 := XT_path (l := l) (fr := 8) (lo := 260) (full := false) (M := 43) (n := 153) (u := 6051) (pc := 116) (L := [xf 7 45, xi (xI h 24 5), xi v3, xi v4, xun]) (st := [xi v15]) (h := h14) (inl := [39]) (n' := 160) (sp := [169]) (o := [1]) rfl rfl ⟨rfl, rfl, rfl⟩ rfl ⟨Nat.le_of_eq g14.1.2.2.2.1, Nat.le_of_eq g14.1.2.2.2.2⟩ ⟨trivial, (fun z_ => nf14 (congrArg Int32.toInt z_))⟩
          have t77 := t75.tr t76
          have es := (show sJn b n Z R O P N q = _ from (if_neg (by omega)).trans ((if_neg (fun z => z s3)).trans (if_pos s14)))
          exact ⟨_, CX_ofT (h' := h14) (by decide) rfl rfl trivial ⟨_, _, _, rfl, rfl, rfl⟩ rfl ⟨Nat.le_of_eq g14.1.2.2.2.1.symm, Nat.le_of_eq g14.1.2.2.2.2.symm⟩ t77, ⟨g14.1, (G14).2.mono rfl rfl⟩, Or.inr ⟨by rw [es]; exact s14, by rw [es]; exact f14, by rw [es]; exact pl14, k14⟩⟩
    · have nf3 : ¬ (xI h3 45 2).toInt = 0 := by rw [f3]; exact s3
      have t78 : XT l 8 260 false 43 153 6051 36 [xf 7 45, xi (xI h 24 5), xun, xun, xun] [xi v2, xf 7 45] h1 39 [xf 7 45, xi (xI h 24 5), xun, xun, xun] [xi v3] h3 := XT_call (l := l) (fr := 8) (lo := 260) (full := false) (M := 43) (n := 153) (u := 6051) (pc := 36) (L := [xf 7 45, xi (xI h 24 5), xun, xun, xun]) (st := [xi v2, xf 7 45]) (h := h1) (i := .invokevirtual 44) (aux := 2) (nx := 39) (K := 44) (vs := [xf 7 45, xi v2]) (rs := [xi v3]) (rest := []) rfl rfl rfl rfl rfl rfl cc3 (by decide) (by decide) (Nat.le_of_ble_eq_true rfl) ⟨Nat.le_of_eq g3.1.2.2.2.1, Nat.le_of_eq g3.1.2.2.2.2⟩
      have t79 := t8.tr t78
      have t80 : XT l 8 260 false 43 153 6051 39 [xf 7 45, xi (xI h 24 5), xun, xun, xun] [xi v3] h3 48 [xf 7 45, xi (xI h 24 5), xi v3, xun, xun] [xi (xI h3 45 9), xf 8 (xR h3 45 4)] h3 := XT_path (l := l) (fr := 8) (lo := 260) (full := false) (M := 43) (n := 153) (u := 6051) (pc := 39) (L := [xf 7 45, xi (xI h 24 5), xun, xun, xun]) (st := [xi v3]) (h := h3) (inl := [39]) (n' := 160) (sp := [48]) (o := []) rfl rfl ⟨rfl, rfl, rfl⟩ rfl ⟨Nat.le_of_eq g3.1.2.2.2.1, Nat.le_of_eq g3.1.2.2.2.2⟩ ⟨trivial, (show ¬ xR h3 45 4 = 0 from by rw [rr3]; decide)⟩
      rw [rr3] at t80
      have t81 := t79.tr t80
      obtain ⟨v16, cc16, ev16⟩ := ck_reg24 l Z ((xI h3 45 9)) R h3 g3.1 (by rw [G3.2.1 24 0 rfl]; exact hr) (by omega) (fun k hk => by rw [G3.2.1 25 k rfl]; exact hz k hk)
      have t82 : XT l 8 260 false 43 153 6051 48 [xf 7 45, xi (xI h 24 5), xi v3, xun, xun] [xi (xI h3 45 9), xf 8 24] h3 51 [xf 7 45, xi (xI h 24 5), xi v3, xun, xun] [xi v16] h3 := XT_call (l := l) (fr := 8) (lo := 260) (full := false) (M := 43) (n := 153) (u := 6051) (pc := 48) (L := [xf 7 45, xi (xI h 24 5), xi v3, xun, xun]) (st := [xi (xI h3 45 9), xf 8 24]) (h := h3) (i := .invokevirtual 40) (aux := 2) (nx := 51) (K := 40) (vs := [xf 8 24, xi (xI h3 45 9)]) (rs := [xi v16]) (rest := []) rfl rfl rfl rfl rfl rfl cc16 (by decide) (by decide) (Nat.le_of_ble_eq_true rfl) ⟨Nat.le_of_eq g3.1.2.2.2.1, Nat.le_of_eq g3.1.2.2.2.2⟩
      have t83 := t81.tr t82
      have t84 : XT l 8 260 false 43 153 6051 51 [xf 7 45, xi (xI h 24 5), xi v3, xun, xun] [xi v16] h3 105 [xf 7 45, xi (xI h 24 5), xi v3, xi v16, xun] [xi v16, xf 7 45] h3 := XT_path (l := l) (fr := 8) (lo := 260) (full := false) (M := 43) (n := 153) (u := 6051) (pc := 51) (L := [xf 7 45, xi (xI h 24 5), xi v3, xun, xun]) (st := [xi v16]) (h := h3) (inl := [39]) (n' := 160) (sp := [105]) (o := [1]) rfl rfl ⟨rfl, rfl, rfl⟩ rfl ⟨Nat.le_of_eq g3.1.2.2.2.1, Nat.le_of_eq g3.1.2.2.2.2⟩ ⟨trivial, (fun z_ => nf3 (congrArg Int32.toInt z_))⟩
      have t85 := t83.tr t84
      obtain ⟨v17, cc17⟩ := ck_told1 l (v16) h3 g3.1 nf3
      have t86 : XT l 8 260 false 43 153 6051 105 [xf 7 45, xi (xI h 24 5), xi v3, xi v16, xun] [xi v16, xf 7 45] h3 108 [xf 7 45, xi (xI h 24 5), xi v3, xi v16, xun] [xi v17] h3 := XT_call (l := l) (fr := 8) (lo := 260) (full := false) (M := 43) (n := 153) (u := 6051) (pc := 105) (L := [xf 7 45, xi (xI h 24 5), xi v3, xi v16, xun]) (st := [xi v16, xf 7 45]) (h := h3) (i := .invokevirtual 44) (aux := 2) (nx := 108) (K := 44) (vs := [xf 7 45, xi v16]) (rs := [xi v17]) (rest := []) rfl rfl rfl rfl rfl rfl cc17 (by decide) (by decide) (Nat.le_of_ble_eq_true rfl) ⟨Nat.le_of_eq g3.1.2.2.2.1, Nat.le_of_eq g3.1.2.2.2.2⟩
      have t87 := t85.tr t86
      have t88 : XT l 8 260 false 43 153 6051 108 [xf 7 45, xi (xI h 24 5), xi v3, xi v16, xun] [xi v17] h3 113 [xf 7 45, xi (xI h 24 5), xi v3, xi v16, xun] [xi (Int32.ofInt (9)), xi (Int32.ofInt (1)), xf 7 45] h3 := XT_path (l := l) (fr := 8) (lo := 260) (full := false) (M := 43) (n := 153) (u := 6051) (pc := 108) (L := [xf 7 45, xi (xI h 24 5), xi v3, xi v16, xun]) (st := [xi v17]) (h := h3) (inl := [39]) (n' := 160) (sp := [113]) (o := []) rfl rfl ⟨rfl, rfl, rfl⟩ rfl ⟨Nat.le_of_eq g3.1.2.2.2.1, Nat.le_of_eq g3.1.2.2.2.2⟩ trivial
      have t89 := t87.tr t88
      obtain ⟨v18, cc18⟩ := ck_num1 l ((Int32.ofInt (1))) ((Int32.ofInt (9))) h3 g3.1 nf3
      have t90 : XT l 8 260 false 43 153 6051 113 [xf 7 45, xi (xI h 24 5), xi v3, xi v16, xun] [xi (Int32.ofInt (9)), xi (Int32.ofInt (1)), xf 7 45] h3 116 [xf 7 45, xi (xI h 24 5), xi v3, xi v16, xun] [xi v18] h3 := XT_call (l := l) (fr := 8) (lo := 260) (full := false) (M := 43) (n := 153) (u := 6051) (pc := 113) (L := [xf 7 45, xi (xI h 24 5), xi v3, xi v16, xun]) (st := [xi (Int32.ofInt (9)), xi (Int32.ofInt (1)), xf 7 45]) (h := h3) (i := .invokevirtual 42) (aux := 3) (nx := 116) (K := 42) (vs := [xf 7 45, xi (Int32.ofInt (1)), xi (Int32.ofInt (9))]) (rs := [xi v18]) (rest := []) rfl rfl rfl rfl rfl rfl cc18 (by decide) (by decide) (Nat.le_of_ble_eq_true rfl) ⟨Nat.le_of_eq g3.1.2.2.2.1, Nat.le_of_eq g3.1.2.2.2.2⟩
      have t91 := t89.tr t90
      have t92 : XT l 8 260 false 43 153 6051 116 [xf 7 45, xi (xI h 24 5), xi v3, xi v16, xun] [xi v18] h3 169 [xf 7 45, xi (xI h 24 5), xi v3, xi v16, xi v18] [] h3 := XT_path (l := l) (fr := 8) (lo := 260) (full := false) (M := 43) (n := 153) (u := 6051) (pc := 116) (L := [xf 7 45, xi (xI h 24 5), xi v3, xi v16, xun]) (st := [xi v18]) (h := h3) (inl := [39]) (n' := 160) (sp := [169]) (o := [1]) rfl rfl ⟨rfl, rfl, rfl⟩ rfl ⟨Nat.le_of_eq g3.1.2.2.2.1, Nat.le_of_eq g3.1.2.2.2.2⟩ ⟨trivial, (fun z_ => nf3 (congrArg Int32.toInt z_))⟩
      have t93 := t91.tr t92
      have es := (show sJn b n Z R O P N q = _ from (if_neg (by omega)).trans (if_pos s3))
      exact ⟨_, CX_ofT (h' := h3) (by decide) rfl rfl trivial ⟨_, _, _, rfl, rfl, rfl⟩ rfl ⟨Nat.le_of_eq g3.1.2.2.2.1.symm, Nat.le_of_eq g3.1.2.2.2.2.symm⟩ t93, ⟨g3.1, (G3).2.mono rfl rfl⟩, Or.inr ⟨by rw [es]; exact s3, by rw [es]; exact f3, by rw [es]; exact pl3, k3⟩⟩
  · have e_9 : (Int32.ofInt (9)).toInt = 9 := rfl
    have c1r := c1
    rw [r4] at c1r
    have dc1 : (Int32.ofInt (9)).toInt ≤ (xI h 24 5).toInt := Int32.le_iff_toInt_le.mp (Int32.not_lt.mp c1r)
    have t94 : XT l 8 260 false 43 153 6051 0 [xf 7 45, xun, xun, xun, xun] [] h 19 [xf 7 45, xi (xI h (xR h 45 4) 5), xun, xun, xun] [] (xsetI (xsetI h 45 2 (Int32.ofInt (2))) 45 3 (xI h 45 8)) := XT_path (l := l) (fr := 8) (lo := 260) (full := false) (M := 43) (n := 153) (u := 6051) (pc := 0) (L := [xf 7 45, xun, xun, xun, xun]) (st := []) (h := h) (inl := [39]) (n' := 160) (sp := [19]) (o := [0, 0]) rfl rfl ⟨rfl, rfl, rfl⟩ rfl ⟨Nat.le_of_eq hg.2.2.2.1, Nat.le_of_eq hg.2.2.2.2⟩ ⟨⟨⟨trivial, (show ¬ xR h 45 4 = 0 from by rw [r4]; decide)⟩, c1⟩, (Int32.toInt_inj.mp f0 : xI h 45 2 = 0)⟩
    rw [r4] at t94
    have es : sJn b n Z R O P N q = (2, q) := if_pos (by omega)
    have g2 : vG ([(24, 5, false), (29, 0, true), (30, 0, true), (31, 0, true), (45, 2, false), (45, 3, false), (45, 6, false), (45, 7, false), (45, 8, false), (45, 9, false)], []) h (xsetI (xsetI h 45 2 (Int32.ofInt (2))) 45 3 (xI h 45 8)) := vGf (vG.rf hg) (by decide) rfl rfl rfl
    exact ⟨_, CX_ofT (h' := (xsetI (xsetI h 45 2 (Int32.ofInt (2))) 45 3 (xI h 45 8))) (by decide) rfl rfl trivial ⟨_, _, _, rfl, rfl, rfl⟩ rfl ⟨Nat.le_of_eq hg.2.2.2.1.symm, Nat.le_of_eq hg.2.2.2.2.symm⟩ t94, g2, Or.inr ⟨by rw [es]; exact (by decide : ¬ (2 : Int) = 0), by rw [yI_ne (by decide), yI_same, es]; rfl, by rw [yI_same, es]; exact kq, kr.fr (by rw [yI_ne (by decide), yI_ne (by decide)]) (fun k => by rw [yI_c (by decide), yI_c (by decide)])⟩⟩
