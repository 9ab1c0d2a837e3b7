/-! THE MODEL READS AN EXPRESSION. -/
set_option maxRecDepth 100000 in
set_option maxHeartbeats 4000000 in
theorem jk_sumL (l : Launch) (b : Nat → Int) (n : Nat) (f : Int) : ∀ (m q : Nat) (Z : Nat → Int) (h : XH), mI h → jX b n q f Z h → n + 1 ≤ q + m → ∃ v pcR L' h', XT l 4 150 false 200 153 6051 25 [xf 13 104] [] h pcR L' [xi v] h' ∧ XE 200 pcR [xi v] ∧ L'.length = 1 ∧ mT ([(104, 4, false), (104, 5, false), (104, 7, false), (104, 8, false), (104, 9, false), (104, 10, false), (104, 21, false), (104, 46, false), (104, 47, false), (104, 48, false), (104, 49, false), (104, 50, false), (104, 51, false), (126, 0, true), (127, 0, true), (128, 0, true), (129, 0, true), (130, 0, true)], []) h h' ∧ ((vHid ((zE b n m Z q).1 = 0) ∧ v = (Int32.ofInt (1)) ∧ jT b n (zE b n m Z q).2.2.2 h' ∧ jO (zE b n m Z q).2.2.1 h') ∨ (vHid (¬ (zE b n m Z q).1 = 0) ∧ v = (Int32.ofInt (0)) ∧ jB b n (zE b n m Z q).1 (zE b n m Z q).2.1 h'))
  | 0, q, Z, h, hg, X, hm => absurd X.1.2.2.1 (by omega)
  | m + 1, q, Z, h, hg, X, hm => by
    obtain ⟨jt, ao, aw, I, x8, x0, x1⟩ := id X
    have hq := jt.2.2.1
    have i13 := I.1.2.2.2.2.2.1
    have Bq := I.b
    obtain ⟨c, ec⟩ : ∃ c, c = tkc b n q := ⟨_, rfl⟩
    have k59 := sKw_59 jt.2.2.2.2.2.1
    rw [← ec] at k59
    by_cases cb1 : (xI h 104 8) = (Int32.ofInt (4))
    · have e_4 : (Int32.ofInt (4)).toInt = 4 := rfl
      have dcb1 : (xI h 104 8).toInt = (Int32.ofInt (4)).toInt := congrArg Int32.toInt cb1
      by_cases cb2 : (xI h 104 9) = (Int32.ofInt (59))
      · have e_59 : (Int32.ofInt (59)).toInt = 59 := rfl
        have dcb2 : (xI h 104 9).toInt = (Int32.ofInt (59)).toInt := congrArg Int32.toInt cb2
        by_cases cb3 : (xI h 104 50) = 0
        · have e_0 : (0 : Int32).toInt = 0 := rfl
          have dcb3 : (xI h 104 50).toInt = (0 : Int32).toInt := congrArg Int32.toInt cb3
          by_cases cb4 : (xI h 104 48) ≤ 0
          · have e_0 : (0 : Int32).toInt = 0 := rfl
            have dcb4 : (xI h 104 48).toInt ≤ (0 : Int32).toInt := Int32.le_iff_toInt_le.mp cb4
            have t5 : XT l 4 150 false 200 153 6051 25 [xf 13 104] [] h 76 [xf 13 104] [xi (Int32.ofInt (1)), xf 13 104] h := XT_path (l := l) (fr := 4) (lo := 150) (full := false) (M := 200) (n := 153) (u := 6051) (pc := 25) (L := [xf 13 104]) (st := []) (h := h) (inl := [201]) (n' := 120) (sp := [76]) (o := [0, 0, 0, 0, 1]) rfl rfl ⟨rfl, rfl, rfl⟩ rfl ⟨Nat.le_of_eq hg.2.2.2.1, Nat.le_of_eq hg.2.2.2.2⟩ ⟨⟨⟨⟨⟨⟨trivial, cb1⟩, cb2⟩, (Or.inr rfl)⟩, (show ¬ (Int32.ofInt (1)) = 0 from by decide)⟩, cb3⟩, cb4⟩
            have br : Z 13 = 0 ∧ tkc b n q = 4 ∧ Z 12 = 0 := ⟨by omega, by rw [← ec]; exact k59.mp ⟨by omega, by omega⟩, by omega⟩
            rw [zE_brk (m := m) br]
            obtain ⟨h1, c1, g1, ao1, aw1⟩ := jk_bind l f 0 (Int32.ofInt (1)) (Int.le_refl 0) rfl Z h hg ao aw I br.1
            have t6 : XT l 4 150 false 200 153 6051 76 [xf 13 104] [xi (Int32.ofInt (1)), xf 13 104] h 79 [xf 13 104] [] h1 := XT_call (l := l) (fr := 4) (lo := 150) (full := false) (M := 200) (n := 153) (u := 6051) (pc := 76) (L := [xf 13 104]) (st := [xi (Int32.ofInt (1)), xf 13 104]) (h := h) (i := .invokevirtual 208) (aux := 2) (nx := 79) (K := 208) (vs := [xf 13 104, xi (Int32.ofInt (1))]) (rs := []) (rest := []) rfl rfl rfl rfl rfl rfl c1 (by decide) (by decide) (Nat.le_of_ble_eq_true rfl) ⟨Nat.le_of_eq g1.1.2.2.2.1, Nat.le_of_eq g1.1.2.2.2.2⟩
            have t7 := t5.tr t6
            have t8 : XT l 4 150 false 200 153 6051 79 [xf 13 104] [] h1 80 [xf 13 104] [xi (Int32.ofInt (1))] h1 := XT_path (l := l) (fr := 4) (lo := 150) (full := false) (M := 200) (n := 153) (u := 6051) (pc := 79) (L := [xf 13 104]) (st := []) (h := h1) (inl := [201]) (n' := 120) (sp := [80]) (o := []) rfl rfl ⟨rfl, rfl, rfl⟩ rfl ⟨Nat.le_of_eq g1.1.2.2.2.1, Nat.le_of_eq g1.1.2.2.2.2⟩ trivial
            have t9 := t7.tr t8
            exact ⟨_, _, _, _, t9, ⟨_, _, _, rfl, rfl, rfl⟩, rfl, ⟨g1.1, g1.2.mono rfl rfl⟩, Or.inl ⟨rfl, rfl, jt.fr (fun k hk => g1.2.1 104 k (swbd (by omega))) (fun k => g1.2.1 105 k rfl), ao1⟩⟩
          · have e_0 : (0 : Int32).toInt = 0 := rfl
            have dcb4 : (0 : Int32).toInt < (xI h 104 48).toInt := Int32.lt_iff_toInt_lt.mp (Int32.not_le.mp cb4)
            have t10 : XT l 4 150 false 200 153 6051 25 [xf 13 104] [] h 66 [xf 13 104] [xf 13 104] h := XT_path (l := l) (fr := 4) (lo := 150) (full := false) (M := 200) (n := 153) (u := 6051) (pc := 25) (L := [xf 13 104]) (st := []) (h := h) (inl := [201]) (n' := 120) (sp := [66]) (o := [0, 0, 0, 0, 0, 1]) rfl rfl ⟨rfl, rfl, rfl⟩ rfl ⟨Nat.le_of_eq hg.2.2.2.1, Nat.le_of_eq hg.2.2.2.2⟩ ⟨⟨⟨⟨⟨⟨⟨trivial, cb1⟩, cb2⟩, (Or.inr rfl)⟩, (show ¬ (Int32.ofInt (1)) = 0 from by decide)⟩, cb3⟩, cb4⟩, cb3⟩
            have nb : ¬ (Z 13 = 0 ∧ tkc b n q = 4 ∧ Z 12 = 0) := fun z => by have e := k59.mpr (ec.trans z.2.1); omega
            obtain ⟨v1, h1, c1, g1, o1⟩ := jk_sign l b n q f Z h hg X (by omega)
            rcases o1 with ⟨s1, rfl, j1⟩ | ⟨s1, rfl, j1⟩
            · have t11 : XT l 4 150 false 200 153 6051 66 [xf 13 104] [xf 13 104] h 69 [xf 13 104] [xi (Int32.ofInt (1))] h1 := XT_call (l := l) (fr := 4) (lo := 150) (full := false) (M := 200) (n := 153) (u := 6051) (pc := 66) (L := [xf 13 104]) (st := [xf 13 104]) (h := h) (i := .invokevirtual 207) (aux := 1) (nx := 69) (K := 207) (vs := [xf 13 104]) (rs := [xi (Int32.ofInt (1))]) (rest := []) rfl rfl rfl rfl rfl rfl c1 (by decide) (by decide) (Nat.le_of_ble_eq_true rfl) ⟨Nat.le_of_eq g1.1.2.2.2.1, Nat.le_of_eq g1.1.2.2.2.2⟩
              have t12 := t10.tr t11
              have t13 : XT l 4 150 false 200 153 6051 69 [xf 13 104] [xi (Int32.ofInt (1))] h1 25 [xf 13 104] [] h1 := XT_path (l := l) (fr := 4) (lo := 150) (full := false) (M := 200) (n := 153) (u := 6051) (pc := 69) (L := [xf 13 104]) (st := [xi (Int32.ofInt (1))]) (h := h1) (inl := [201]) (n' := 120) (sp := [25]) (o := [1]) rfl rfl ⟨rfl, rfl, rfl⟩ rfl ⟨Nat.le_of_eq g1.1.2.2.2.1, Nat.le_of_eq g1.1.2.2.2.2⟩ ⟨trivial, (show ¬ (Int32.ofInt (1)) = 0 from by decide)⟩
              have t14 := t12.tr t13
              rw [zE_go (m := m) nb s1]
              have lt := tkc_lt (zstep_end s1)
              have nq := nxt_b (b := b) hq
              obtain ⟨v, pcR, L', h2, y1, y2, y3, y4, y5⟩ := jk_sumL l b n f m (nxt b n q) (zstep (tkc b n q) (tkv b n q) Z).2 h1 g1.1 j1 (by omega)
              exact ⟨v, pcR, L', h2, t14.tr y1, y2, y3, g1.tr y4, y5⟩
            · have t15 : XT l 4 150 false 200 153 6051 66 [xf 13 104] [xf 13 104] h 69 [xf 13 104] [xi (Int32.ofInt (0))] h1 := XT_call (l := l) (fr := 4) (lo := 150) (full := false) (M := 200) (n := 153) (u := 6051) (pc := 66) (L := [xf 13 104]) (st := [xf 13 104]) (h := h) (i := .invokevirtual 207) (aux := 1) (nx := 69) (K := 207) (vs := [xf 13 104]) (rs := [xi (Int32.ofInt (0))]) (rest := []) rfl rfl rfl rfl rfl rfl c1 (by decide) (by decide) (Nat.le_of_ble_eq_true rfl) ⟨Nat.le_of_eq g1.1.2.2.2.1, Nat.le_of_eq g1.1.2.2.2.2⟩
              have t16 := t10.tr t15
              have t17 : XT l 4 150 false 200 153 6051 69 [xf 13 104] [xi (Int32.ofInt (0))] h1 73 [xf 13 104] [xi (Int32.ofInt (0))] h1 := XT_path (l := l) (fr := 4) (lo := 150) (full := false) (M := 200) (n := 153) (u := 6051) (pc := 69) (L := [xf 13 104]) (st := [xi (Int32.ofInt (0))]) (h := h1) (inl := [201]) (n' := 120) (sp := [73]) (o := [0]) rfl rfl ⟨rfl, rfl, rfl⟩ rfl ⟨Nat.le_of_eq g1.1.2.2.2.1, Nat.le_of_eq g1.1.2.2.2.2⟩ ⟨trivial, rfl⟩
              have t18 := t16.tr t17
              rw [zE_bad (m := m) nb s1]
              exact ⟨_, _, _, _, t18, ⟨_, _, _, rfl, rfl, rfl⟩, rfl, g1, Or.inr ⟨s1, rfl, j1⟩⟩
        · have e_0 : (0 : Int32).toInt = 0 := rfl
          have dcb3 : ¬ (xI h 104 50).toInt = (0 : Int32).toInt := fun z_ => cb3 (Int32.toInt_inj.mp z_)
          have t19 : XT l 4 150 false 200 153 6051 25 [xf 13 104] [] h 56 [xf 13 104] [xf 13 104] h := XT_path (l := l) (fr := 4) (lo := 150) (full := false) (M := 200) (n := 153) (u := 6051) (pc := 25) (L := [xf 13 104]) (st := []) (h := h) (inl := [201]) (n' := 120) (sp := [56]) (o := [0, 0, 0, 1, 0]) rfl rfl ⟨rfl, rfl, rfl⟩ rfl ⟨Nat.le_of_eq hg.2.2.2.1, Nat.le_of_eq hg.2.2.2.2⟩ ⟨⟨⟨⟨⟨⟨trivial, cb1⟩, cb2⟩, (Or.inr rfl)⟩, (show ¬ (Int32.ofInt (1)) = 0 from by decide)⟩, cb3⟩, cb3⟩
          have nb : ¬ (Z 13 = 0 ∧ tkc b n q = 4 ∧ Z 12 = 0) := fun z => by have e := k59.mpr (ec.trans z.2.1); omega
          obtain ⟨v1, h1, c1, g1, o1⟩ := jk_leaf l b n q f Z h hg X (by omega)
          rcases o1 with ⟨s1, rfl, j1⟩ | ⟨s1, rfl, j1⟩
          · have t20 : XT l 4 150 false 200 153 6051 56 [xf 13 104] [xf 13 104] h 59 [xf 13 104] [xi (Int32.ofInt (1))] h1 := XT_call (l := l) (fr := 4) (lo := 150) (full := false) (M := 200) (n := 153) (u := 6051) (pc := 56) (L := [xf 13 104]) (st := [xf 13 104]) (h := h) (i := .invokevirtual 202) (aux := 1) (nx := 59) (K := 202) (vs := [xf 13 104]) (rs := [xi (Int32.ofInt (1))]) (rest := []) rfl rfl rfl rfl rfl rfl c1 (by decide) (by decide) (Nat.le_of_ble_eq_true rfl) ⟨Nat.le_of_eq g1.1.2.2.2.1, Nat.le_of_eq g1.1.2.2.2.2⟩
            have t21 := t19.tr t20
            have t22 : XT l 4 150 false 200 153 6051 59 [xf 13 104] [xi (Int32.ofInt (1))] h1 25 [xf 13 104] [] h1 := XT_path (l := l) (fr := 4) (lo := 150) (full := false) (M := 200) (n := 153) (u := 6051) (pc := 59) (L := [xf 13 104]) (st := [xi (Int32.ofInt (1))]) (h := h1) (inl := [201]) (n' := 120) (sp := [25]) (o := [0]) rfl rfl ⟨rfl, rfl, rfl⟩ rfl ⟨Nat.le_of_eq g1.1.2.2.2.1, Nat.le_of_eq g1.1.2.2.2.2⟩ ⟨trivial, (show ¬ (Int32.ofInt (1)) = 0 from by decide)⟩
            have t23 := t21.tr t22
            rw [zE_go (m := m) nb s1]
            have lt := tkc_lt (zstep_end s1)
            have nq := nxt_b (b := b) hq
            obtain ⟨v, pcR, L', h2, y1, y2, y3, y4, y5⟩ := jk_sumL l b n f m (nxt b n q) (zstep (tkc b n q) (tkv b n q) Z).2 h1 g1.1 j1 (by omega)
            exact ⟨v, pcR, L', h2, t23.tr y1, y2, y3, g1.tr y4, y5⟩
          · have t24 : XT l 4 150 false 200 153 6051 56 [xf 13 104] [xf 13 104] h 59 [xf 13 104] [xi (Int32.ofInt (0))] h1 := XT_call (l := l) (fr := 4) (lo := 150) (full := false) (M := 200) (n := 153) (u := 6051) (pc := 56) (L := [xf 13 104]) (st := [xf 13 104]) (h := h) (i := .invokevirtual 202) (aux := 1) (nx := 59) (K := 202) (vs := [xf 13 104]) (rs := [xi (Int32.ofInt (0))]) (rest := []) rfl rfl rfl rfl rfl rfl c1 (by decide) (by decide) (Nat.le_of_ble_eq_true rfl) ⟨Nat.le_of_eq g1.1.2.2.2.1, Nat.le_of_eq g1.1.2.2.2.2⟩
            have t25 := t19.tr t24
            have t26 : XT l 4 150 false 200 153 6051 59 [xf 13 104] [xi (Int32.ofInt (0))] h1 73 [xf 13 104] [xi (Int32.ofInt (0))] h1 := XT_path (l := l) (fr := 4) (lo := 150) (full := false) (M := 200) (n := 153) (u := 6051) (pc := 59) (L := [xf 13 104]) (st := [xi (Int32.ofInt (0))]) (h := h1) (inl := [201]) (n' := 120) (sp := [73]) (o := [1]) rfl rfl ⟨rfl, rfl, rfl⟩ rfl ⟨Nat.le_of_eq g1.1.2.2.2.1, Nat.le_of_eq g1.1.2.2.2.2⟩ ⟨trivial, rfl⟩
            have t27 := t25.tr t26
            rw [zE_bad (m := m) nb s1]
            exact ⟨_, _, _, _, t27, ⟨_, _, _, rfl, rfl, rfl⟩, rfl, g1, Or.inr ⟨s1, rfl, j1⟩⟩
      · have e_59 : (Int32.ofInt (59)).toInt = 59 := rfl
        have dcb2 : ¬ (xI h 104 9).toInt = (Int32.ofInt (59)).toInt := fun z_ => cb2 (Int32.toInt_inj.mp z_)
        by_cases cb28 : (xI h 104 50) = 0
        · have e_0 : (0 : Int32).toInt = 0 := rfl
          have dcb28 : (xI h 104 50).toInt = (0 : Int32).toInt := congrArg Int32.toInt cb28
          have t29 : XT l 4 150 false 200 153 6051 25 [xf 13 104] [] h 66 [xf 13 104] [xf 13 104] h := XT_path (l := l) (fr := 4) (lo := 150) (full := false) (M := 200) (n := 153) (u := 6051) (pc := 25) (L := [xf 13 104]) (st := []) (h := h) (inl := [201]) (n' := 120) (sp := [66]) (o := [0, 1, 1, 1]) rfl rfl ⟨rfl, rfl, rfl⟩ rfl ⟨Nat.le_of_eq hg.2.2.2.1, Nat.le_of_eq hg.2.2.2.2⟩ ⟨⟨⟨⟨⟨trivial, cb1⟩, cb2⟩, (Or.inl rfl)⟩, rfl⟩, cb28⟩
          have nb : ¬ (Z 13 = 0 ∧ tkc b n q = 4 ∧ Z 12 = 0) := fun z => by have e := k59.mpr (ec.trans z.2.1); omega
          obtain ⟨v1, h1, c1, g1, o1⟩ := jk_sign l b n q f Z h hg X (by omega)
          rcases o1 with ⟨s1, rfl, j1⟩ | ⟨s1, rfl, j1⟩
          · have t30 : XT l 4 150 false 200 153 6051 66 [xf 13 104] [xf 13 104] h 69 [xf 13 104] [xi (Int32.ofInt (1))] h1 := XT_call (l := l) (fr := 4) (lo := 150) (full := false) (M := 200) (n := 153) (u := 6051) (pc := 66) (L := [xf 13 104]) (st := [xf 13 104]) (h := h) (i := .invokevirtual 207) (aux := 1) (nx := 69) (K := 207) (vs := [xf 13 104]) (rs := [xi (Int32.ofInt (1))]) (rest := []) rfl rfl rfl rfl rfl rfl c1 (by decide) (by decide) (Nat.le_of_ble_eq_true rfl) ⟨Nat.le_of_eq g1.1.2.2.2.1, Nat.le_of_eq g1.1.2.2.2.2⟩
            have t31 := t29.tr t30
            have t32 : XT l 4 150 false 200 153 6051 69 [xf 13 104] [xi (Int32.ofInt (1))] h1 25 [xf 13 104] [] h1 := XT_path (l := l) (fr := 4) (lo := 150) (full := false) (M := 200) (n := 153) (u := 6051) (pc := 69) (L := [xf 13 104]) (st := [xi (Int32.ofInt (1))]) (h := h1) (inl := [201]) (n' := 120) (sp := [25]) (o := [1]) rfl rfl ⟨rfl, rfl, rfl⟩ rfl ⟨Nat.le_of_eq g1.1.2.2.2.1, Nat.le_of_eq g1.1.2.2.2.2⟩ ⟨trivial, (show ¬ (Int32.ofInt (1)) = 0 from by decide)⟩
            have t33 := t31.tr t32
            rw [zE_go (m := m) nb s1]
            have lt := tkc_lt (zstep_end s1)
            have nq := nxt_b (b := b) hq
            obtain ⟨v, pcR, L', h2, y1, y2, y3, y4, y5⟩ := jk_sumL l b n f m (nxt b n q) (zstep (tkc b n q) (tkv b n q) Z).2 h1 g1.1 j1 (by omega)
            exact ⟨v, pcR, L', h2, t33.tr y1, y2, y3, g1.tr y4, y5⟩
          · have t34 : XT l 4 150 false 200 153 6051 66 [xf 13 104] [xf 13 104] h 69 [xf 13 104] [xi (Int32.ofInt (0))] h1 := XT_call (l := l) (fr := 4) (lo := 150) (full := false) (M := 200) (n := 153) (u := 6051) (pc := 66) (L := [xf 13 104]) (st := [xf 13 104]) (h := h) (i := .invokevirtual 207) (aux := 1) (nx := 69) (K := 207) (vs := [xf 13 104]) (rs := [xi (Int32.ofInt (0))]) (rest := []) rfl rfl rfl rfl rfl rfl c1 (by decide) (by decide) (Nat.le_of_ble_eq_true rfl) ⟨Nat.le_of_eq g1.1.2.2.2.1, Nat.le_of_eq g1.1.2.2.2.2⟩
            have t35 := t29.tr t34
            have t36 : XT l 4 150 false 200 153 6051 69 [xf 13 104] [xi (Int32.ofInt (0))] h1 73 [xf 13 104] [xi (Int32.ofInt (0))] h1 := XT_path (l := l) (fr := 4) (lo := 150) (full := false) (M := 200) (n := 153) (u := 6051) (pc := 69) (L := [xf 13 104]) (st := [xi (Int32.ofInt (0))]) (h := h1) (inl := [201]) (n' := 120) (sp := [73]) (o := [0]) rfl rfl ⟨rfl, rfl, rfl⟩ rfl ⟨Nat.le_of_eq g1.1.2.2.2.1, Nat.le_of_eq g1.1.2.2.2.2⟩ ⟨trivial, rfl⟩
            have t37 := t35.tr t36
            rw [zE_bad (m := m) nb s1]
            exact ⟨_, _, _, _, t37, ⟨_, _, _, rfl, rfl, rfl⟩, rfl, g1, Or.inr ⟨s1, rfl, j1⟩⟩
        · have e_0 : (0 : Int32).toInt = 0 := rfl
          have dcb28 : ¬ (xI h 104 50).toInt = (0 : Int32).toInt := fun z_ => cb28 (Int32.toInt_inj.mp z_)
          have t38 : XT l 4 150 false 200 153 6051 25 [xf 13 104] [] h 56 [xf 13 104] [xf 13 104] h := XT_path (l := l) (fr := 4) (lo := 150) (full := false) (M := 200) (n := 153) (u := 6051) (pc := 25) (L := [xf 13 104]) (st := []) (h := h) (inl := [201]) (n' := 120) (sp := [56]) (o := [0, 1, 1, 0]) rfl rfl ⟨rfl, rfl, rfl⟩ rfl ⟨Nat.le_of_eq hg.2.2.2.1, Nat.le_of_eq hg.2.2.2.2⟩ ⟨⟨⟨⟨⟨trivial, cb1⟩, cb2⟩, (Or.inl rfl)⟩, rfl⟩, cb28⟩
          have nb : ¬ (Z 13 = 0 ∧ tkc b n q = 4 ∧ Z 12 = 0) := fun z => by have e := k59.mpr (ec.trans z.2.1); omega
          obtain ⟨v1, h1, c1, g1, o1⟩ := jk_leaf l b n q f Z h hg X (by omega)
          rcases o1 with ⟨s1, rfl, j1⟩ | ⟨s1, rfl, j1⟩
          · have t39 : XT l 4 150 false 200 153 6051 56 [xf 13 104] [xf 13 104] h 59 [xf 13 104] [xi (Int32.ofInt (1))] h1 := XT_call (l := l) (fr := 4) (lo := 150) (full := false) (M := 200) (n := 153) (u := 6051) (pc := 56) (L := [xf 13 104]) (st := [xf 13 104]) (h := h) (i := .invokevirtual 202) (aux := 1) (nx := 59) (K := 202) (vs := [xf 13 104]) (rs := [xi (Int32.ofInt (1))]) (rest := []) rfl rfl rfl rfl rfl rfl c1 (by decide) (by decide) (Nat.le_of_ble_eq_true rfl) ⟨Nat.le_of_eq g1.1.2.2.2.1, Nat.le_of_eq g1.1.2.2.2.2⟩
            have t40 := t38.tr t39
            have t41 : XT l 4 150 false 200 153 6051 59 [xf 13 104] [xi (Int32.ofInt (1))] h1 25 [xf 13 104] [] h1 := XT_path (l := l) (fr := 4) (lo := 150) (full := false) (M := 200) (n := 153) (u := 6051) (pc := 59) (L := [xf 13 104]) (st := [xi (Int32.ofInt (1))]) (h := h1) (inl := [201]) (n' := 120) (sp := [25]) (o := [0]) rfl rfl ⟨rfl, rfl, rfl⟩ rfl ⟨Nat.le_of_eq g1.1.2.2.2.1, Nat.le_of_eq g1.1.2.2.2.2⟩ ⟨trivial, (show ¬ (Int32.ofInt (1)) = 0 from by decide)⟩
            have t42 := t40.tr t41
            rw [zE_go (m := m) nb s1]
            have lt := tkc_lt (zstep_end s1)
            have nq := nxt_b (b := b) hq
            obtain ⟨v, pcR, L', h2, y1, y2, y3, y4, y5⟩ := jk_sumL l b n f m (nxt b n q) (zstep (tkc b n q) (tkv b n q) Z).2 h1 g1.1 j1 (by omega)
            exact ⟨v, pcR, L', h2, t42.tr y1, y2, y3, g1.tr y4, y5⟩
          · have t43 : XT l 4 150 false 200 153 6051 56 [xf 13 104] [xf 13 104] h 59 [xf 13 104] [xi (Int32.ofInt (0))] h1 := XT_call (l := l) (fr := 4) (lo := 150) (full := false) (M := 200) (n := 153) (u := 6051) (pc := 56) (L := [xf 13 104]) (st := [xf 13 104]) (h := h) (i := .invokevirtual 202) (aux := 1) (nx := 59) (K := 202) (vs := [xf 13 104]) (rs := [xi (Int32.ofInt (0))]) (rest := []) rfl rfl rfl rfl rfl rfl c1 (by decide) (by decide) (Nat.le_of_ble_eq_true rfl) ⟨Nat.le_of_eq g1.1.2.2.2.1, Nat.le_of_eq g1.1.2.2.2.2⟩
            have t44 := t38.tr t43
            have t45 : XT l 4 150 false 200 153 6051 59 [xf 13 104] [xi (Int32.ofInt (0))] h1 73 [xf 13 104] [xi (Int32.ofInt (0))] h1 := XT_path (l := l) (fr := 4) (lo := 150) (full := false) (M := 200) (n := 153) (u := 6051) (pc := 59) (L := [xf 13 104]) (st := [xi (Int32.ofInt (0))]) (h := h1) (inl := [201]) (n' := 120) (sp := [73]) (o := [1]) rfl rfl ⟨rfl, rfl, rfl⟩ rfl ⟨Nat.le_of_eq g1.1.2.2.2.1, Nat.le_of_eq g1.1.2.2.2.2⟩ ⟨trivial, rfl⟩
            have t46 := t44.tr t45
            rw [zE_bad (m := m) nb s1]
            exact ⟨_, _, _, _, t46, ⟨_, _, _, rfl, rfl, rfl⟩, rfl, g1, Or.inr ⟨s1, rfl, j1⟩⟩
    · have e_4 : (Int32.ofInt (4)).toInt = 4 := rfl
      have dcb1 : ¬ (xI h 104 8).toInt = (Int32.ofInt (4)).toInt := fun z_ => cb1 (Int32.toInt_inj.mp z_)
      by_cases cb47 : (xI h 104 50) = 0
      · have e_0 : (0 : Int32).toInt = 0 := rfl
        have dcb47 : (xI h 104 50).toInt = (0 : Int32).toInt := congrArg Int32.toInt cb47
        have t48 : XT l 4 150 false 200 153 6051 25 [xf 13 104] [] h 66 [xf 13 104] [xf 13 104] h := XT_path (l := l) (fr := 4) (lo := 150) (full := false) (M := 200) (n := 153) (u := 6051) (pc := 25) (L := [xf 13 104]) (st := []) (h := h) (inl := [201]) (n' := 120) (sp := [66]) (o := [1, 1, 1]) rfl rfl ⟨rfl, rfl, rfl⟩ rfl ⟨Nat.le_of_eq hg.2.2.2.1, Nat.le_of_eq hg.2.2.2.2⟩ ⟨⟨⟨⟨trivial, cb1⟩, (Or.inl rfl)⟩, rfl⟩, cb47⟩
        have nb : ¬ (Z 13 = 0 ∧ tkc b n q = 4 ∧ Z 12 = 0) := fun z => by have e := k59.mpr (ec.trans z.2.1); omega
        obtain ⟨v1, h1, c1, g1, o1⟩ := jk_sign l b n q f Z h hg X (by omega)
        rcases o1 with ⟨s1, rfl, j1⟩ | ⟨s1, rfl, j1⟩
        · have t49 : XT l 4 150 false 200 153 6051 66 [xf 13 104] [xf 13 104] h 69 [xf 13 104] [xi (Int32.ofInt (1))] h1 := XT_call (l := l) (fr := 4) (lo := 150) (full := false) (M := 200) (n := 153) (u := 6051) (pc := 66) (L := [xf 13 104]) (st := [xf 13 104]) (h := h) (i := .invokevirtual 207) (aux := 1) (nx := 69) (K := 207) (vs := [xf 13 104]) (rs := [xi (Int32.ofInt (1))]) (rest := []) rfl rfl rfl rfl rfl rfl c1 (by decide) (by decide) (Nat.le_of_ble_eq_true rfl) ⟨Nat.le_of_eq g1.1.2.2.2.1, Nat.le_of_eq g1.1.2.2.2.2⟩
          have t50 := t48.tr t49
          have t51 : XT l 4 150 false 200 153 6051 69 [xf 13 104] [xi (Int32.ofInt (1))] h1 25 [xf 13 104] [] h1 := XT_path (l := l) (fr := 4) (lo := 150) (full := false) (M := 200) (n := 153) (u := 6051) (pc := 69) (L := [xf 13 104]) (st := [xi (Int32.ofInt (1))]) (h := h1) (inl := [201]) (n' := 120) (sp := [25]) (o := [1]) rfl rfl ⟨rfl, rfl, rfl⟩ rfl ⟨Nat.le_of_eq g1.1.2.2.2.1, Nat.le_of_eq g1.1.2.2.2.2⟩ ⟨trivial, (show ¬ (Int32.ofInt (1)) = 0 from by decide)⟩
          have t52 := t50.tr t51
          rw [zE_go (m := m) nb s1]
          have lt := tkc_lt (zstep_end s1)
          have nq := nxt_b (b := b) hq
          obtain ⟨v, pcR, L', h2, y1, y2, y3, y4, y5⟩ := jk_sumL l b n f m (nxt b n q) (zstep (tkc b n q) (tkv b n q) Z).2 h1 g1.1 j1 (by omega)
          exact ⟨v, pcR, L', h2, t52.tr y1, y2, y3, g1.tr y4, y5⟩
        · have t53 : XT l 4 150 false 200 153 6051 66 [xf 13 104] [xf 13 104] h 69 [xf 13 104] [xi (Int32.ofInt (0))] h1 := XT_call (l := l) (fr := 4) (lo := 150) (full := false) (M := 200) (n := 153) (u := 6051) (pc := 66) (L := [xf 13 104]) (st := [xf 13 104]) (h := h) (i := .invokevirtual 207) (aux := 1) (nx := 69) (K := 207) (vs := [xf 13 104]) (rs := [xi (Int32.ofInt (0))]) (rest := []) rfl rfl rfl rfl rfl rfl c1 (by decide) (by decide) (Nat.le_of_ble_eq_true rfl) ⟨Nat.le_of_eq g1.1.2.2.2.1, Nat.le_of_eq g1.1.2.2.2.2⟩
          have t54 := t48.tr t53
          have t55 : XT l 4 150 false 200 153 6051 69 [xf 13 104] [xi (Int32.ofInt (0))] h1 73 [xf 13 104] [xi (Int32.ofInt (0))] h1 := XT_path (l := l) (fr := 4) (lo := 150) (full := false) (M := 200) (n := 153) (u := 6051) (pc := 69) (L := [xf 13 104]) (st := [xi (Int32.ofInt (0))]) (h := h1) (inl := [201]) (n' := 120) (sp := [73]) (o := [0]) rfl rfl ⟨rfl, rfl, rfl⟩ rfl ⟨Nat.le_of_eq g1.1.2.2.2.1, Nat.le_of_eq g1.1.2.2.2.2⟩ ⟨trivial, rfl⟩
          have t56 := t54.tr t55
          rw [zE_bad (m := m) nb s1]
          exact ⟨_, _, _, _, t56, ⟨_, _, _, rfl, rfl, rfl⟩, rfl, g1, Or.inr ⟨s1, rfl, j1⟩⟩
      · have e_0 : (0 : Int32).toInt = 0 := rfl
        have dcb47 : ¬ (xI h 104 50).toInt = (0 : Int32).toInt := fun z_ => cb47 (Int32.toInt_inj.mp z_)
        have t57 : XT l 4 150 false 200 153 6051 25 [xf 13 104] [] h 56 [xf 13 104] [xf 13 104] h := XT_path (l := l) (fr := 4) (lo := 150) (full := false) (M := 200) (n := 153) (u := 6051) (pc := 25) (L := [xf 13 104]) (st := []) (h := h) (inl := [201]) (n' := 120) (sp := [56]) (o := [1, 1, 0]) rfl rfl ⟨rfl, rfl, rfl⟩ rfl ⟨Nat.le_of_eq hg.2.2.2.1, Nat.le_of_eq hg.2.2.2.2⟩ ⟨⟨⟨⟨trivial, cb1⟩, (Or.inl rfl)⟩, rfl⟩, cb47⟩
        have nb : ¬ (Z 13 = 0 ∧ tkc b n q = 4 ∧ Z 12 = 0) := fun z => by have e := k59.mpr (ec.trans z.2.1); omega
        obtain ⟨v1, h1, c1, g1, o1⟩ := jk_leaf l b n q f Z h hg X (by omega)
        rcases o1 with ⟨s1, rfl, j1⟩ | ⟨s1, rfl, j1⟩
        · have t58 : XT l 4 150 false 200 153 6051 56 [xf 13 104] [xf 13 104] h 59 [xf 13 104] [xi (Int32.ofInt (1))] h1 := XT_call (l := l) (fr := 4) (lo := 150) (full := false) (M := 200) (n := 153) (u := 6051) (pc := 56) (L := [xf 13 104]) (st := [xf 13 104]) (h := h) (i := .invokevirtual 202) (aux := 1) (nx := 59) (K := 202) (vs := [xf 13 104]) (rs := [xi (Int32.ofInt (1))]) (rest := []) rfl rfl rfl rfl rfl rfl c1 (by decide) (by decide) (Nat.le_of_ble_eq_true rfl) ⟨Nat.le_of_eq g1.1.2.2.2.1, Nat.le_of_eq g1.1.2.2.2.2⟩
          have t59 := t57.tr t58
          have t60 : XT l 4 150 false 200 153 6051 59 [xf 13 104] [xi (Int32.ofInt (1))] h1 25 [xf 13 104] [] h1 := XT_path (l := l) (fr := 4) (lo := 150) (full := false) (M := 200) (n := 153) (u := 6051) (pc := 59) (L := [xf 13 104]) (st := [xi (Int32.ofInt (1))]) (h := h1) (inl := [201]) (n' := 120) (sp := [25]) (o := [0]) rfl rfl ⟨rfl, rfl, rfl⟩ rfl ⟨Nat.le_of_eq g1.1.2.2.2.1, Nat.le_of_eq g1.1.2.2.2.2⟩ ⟨trivial, (show ¬ (Int32.ofInt (1)) = 0 from by decide)⟩
          have t61 := t59.tr t60
          rw [zE_go (m := m) nb s1]
          have lt := tkc_lt (zstep_end s1)
          have nq := nxt_b (b := b) hq
          obtain ⟨v, pcR, L', h2, y1, y2, y3, y4, y5⟩ := jk_sumL l b n f m (nxt b n q) (zstep (tkc b n q) (tkv b n q) Z).2 h1 g1.1 j1 (by omega)
          exact ⟨v, pcR, L', h2, t61.tr y1, y2, y3, g1.tr y4, y5⟩
        · have t62 : XT l 4 150 false 200 153 6051 56 [xf 13 104] [xf 13 104] h 59 [xf 13 104] [xi (Int32.ofInt (0))] h1 := XT_call (l := l) (fr := 4) (lo := 150) (full := false) (M := 200) (n := 153) (u := 6051) (pc := 56) (L := [xf 13 104]) (st := [xf 13 104]) (h := h) (i := .invokevirtual 202) (aux := 1) (nx := 59) (K := 202) (vs := [xf 13 104]) (rs := [xi (Int32.ofInt (0))]) (rest := []) rfl rfl rfl rfl rfl rfl c1 (by decide) (by decide) (Nat.le_of_ble_eq_true rfl) ⟨Nat.le_of_eq g1.1.2.2.2.1, Nat.le_of_eq g1.1.2.2.2.2⟩
          have t63 := t57.tr t62
          have t64 : XT l 4 150 false 200 153 6051 59 [xf 13 104] [xi (Int32.ofInt (0))] h1 73 [xf 13 104] [xi (Int32.ofInt (0))] h1 := XT_path (l := l) (fr := 4) (lo := 150) (full := false) (M := 200) (n := 153) (u := 6051) (pc := 59) (L := [xf 13 104]) (st := [xi (Int32.ofInt (0))]) (h := h1) (inl := [201]) (n' := 120) (sp := [73]) (o := [1]) rfl rfl ⟨rfl, rfl, rfl⟩ rfl ⟨Nat.le_of_eq g1.1.2.2.2.1, Nat.le_of_eq g1.1.2.2.2.2⟩ ⟨trivial, rfl⟩
          have t65 := t63.tr t64
          rw [zE_bad (m := m) nb s1]
          exact ⟨_, _, _, _, t65, ⟨_, _, _, rfl, rfl, rfl⟩, rfl, g1, Or.inr ⟨s1, rfl, j1⟩⟩
/-- an expression begins -/
theorem je_sum0 {b : Nat → Int} {n q : Nat} {Z : Nat → Int} {h H : XH} {w : Nat} (hw : w < 3) (g6 : zG Z) (ao : jO Z h) (jt : jT b n q H) (e46 : (xI H 104 46).toInt = 0) (e47 : (xI H 104 47).toInt = 0) (e48 : (xI H 104 48).toInt = 0) (e50 : (xI H 104 50).toInt = 1) (e51 : (xI H 104 51).toInt = 1) (e21 : xI H 104 21 = xI h 104 21) (e49 : xI H 104 49 = xI h 104 49) (e8 : ∀ c, c = 126 ∨ c = 127 ∨ c = 128 → ∀ k, xI H c k = xI h c k) : jX b n q (Z 10) (zl0 Z w) H := by
  obtain ⟨v1, v2, v3, v4, v5, v6, v7⟩ := zl0_v Z w hw
  refine ⟨jt, ?_, ⟨by rw [e46, v1], by rw [e47, v4], fun k hk => ?_, fun k hk => ?_⟩, zl0_inv g6 hw, by rw [e48, v2], by rw [e50, v3], fun _ => ?_⟩
  · exact ao.fr e21 (by rw [e49, v7 6 (by omega) (by omega) (by omega) (by omega) (by omega) (by omega)]; exact ao.2.1) (e8 126 (by decide)) (e8 127 (by decide)) (e8 128 (by decide)) (v7 10 (by omega) (by omega) (by omega) (by omega) (by omega) (by omega)) (fun k hk => ⟨v7 _ (by omega) (by omega) (by omega) (by omega) (by omega) (by omega), v7 _ (by omega) (by omega) (by omega) (by omega) (by omega) (by omega), v7 _ (by omega) (by omega) (by omega) (by omega) (by omega) (by omega)⟩)
  · rw [v1] at hk; omega
  · rw [v4] at hk; omega
  · have e : ztl (zl0 Z w) = 0 := if_neg (by rw [v1]; decide)
    rw [e51, e]
    rfl
set_option maxRecDepth 100000 in
set_option maxHeartbeats 4000000 in
theorem jk_sum (l : Launch) (b : Nat → Int) (n q w : Nat) (Z : Nat → Int) (h : XH) (hg : mI h) (jt : jT b n q h) (ao : jO Z h) (g6 : zG Z) (hw : w < 3) : ∃ v h', CX l 4 150 false 200 [xf 13 104] h [xi v] h' ∧ mT ([(104, 4, false), (104, 5, false), (104, 7, false), (104, 8, false), (104, 9, false), (104, 10, false), (104, 21, false), (104, 46, false), (104, 47, false), (104, 48, false), (104, 49, false), (104, 50, false), (104, 51, false), (126, 0, true), (127, 0, true), (128, 0, true), (129, 0, true), (130, 0, true)], []) h h' ∧ ((vHid ((zE b n (n + 1) (zl0 Z w) q).1 = 0) ∧ v = (Int32.ofInt (1)) ∧ jT b n (zE b n (n + 1) (zl0 Z w) q).2.2.2 h' ∧ jO (zE b n (n + 1) (zl0 Z w) q).2.2.1 h') ∨ (vHid (¬ (zE b n (n + 1) (zl0 Z w) q).1 = 0) ∧ v = (Int32.ofInt (0)) ∧ jB b n (zE b n (n + 1) (zl0 Z w) q).1 (zE b n (n + 1) (zl0 Z w) q).2.1 h')) := by
  have t1 : XT l 4 150 false 200 153 6051 0 [xf 13 104] [] h 25 [xf 13 104] [] (xsetI (xsetI (xsetI (xsetI (xsetI h 104 46 (Int32.ofInt (0))) 104 47 (Int32.ofInt (0))) 104 48 (Int32.ofInt (0))) 104 50 (Int32.ofInt (1))) 104 51 (Int32.ofInt (1))) := XT_path (l := l) (fr := 4) (lo := 150) (full := false) (M := 200) (n := 153) (u := 6051) (pc := 0) (L := [xf 13 104]) (st := []) (h := h) (inl := []) (n' := 80) (sp := [25]) (o := []) rfl rfl ⟨rfl, rfl, rfl⟩ rfl ⟨Nat.le_of_eq hg.2.2.2.1, Nat.le_of_eq hg.2.2.2.2⟩ ⟨⟨trivial, (Or.inr rfl)⟩, (Or.inr rfl)⟩
  have w2 : mT ([(104, 4, false), (104, 5, false), (104, 7, false), (104, 8, false), (104, 9, false), (104, 10, false), (104, 21, false), (104, 46, false), (104, 47, false), (104, 48, false), (104, 49, false), (104, 50, false), (104, 51, false), (126, 0, true), (127, 0, true), (128, 0, true), (129, 0, true), (130, 0, true)], []) h (xsetI h 104 46 (Int32.ofInt (0))) := ((mT.rf hg) : mT ([(104, 4, false), (104, 5, false), (104, 7, false), (104, 8, false), (104, 9, false), (104, 10, false), (104, 21, false), (104, 46, false), (104, 47, false), (104, 48, false), (104, 49, false), (104, 50, false), (104, 51, false), (126, 0, true), (127, 0, true), (128, 0, true), (129, 0, true), (130, 0, true)], []) h h).set (c := 104) (k := 46) (v := (Int32.ofInt (0))) (show (0 : Int) ≤ _ ∧ _ ≤ 72 from (by decide)) rfl
  have w3 : mT ([(104, 4, false), (104, 5, false), (104, 7, false), (104, 8, false), (104, 9, false), (104, 10, false), (104, 21, false), (104, 46, false), (104, 47, false), (104, 48, false), (104, 49, false), (104, 50, false), (104, 51, false), (126, 0, true), (127, 0, true), (128, 0, true), (129, 0, true), (130, 0, true)], []) h (xsetI (xsetI h 104 46 (Int32.ofInt (0))) 104 47 (Int32.ofInt (0))) := (w2 : mT ([(104, 4, false), (104, 5, false), (104, 7, false), (104, 8, false), (104, 9, false), (104, 10, false), (104, 21, false), (104, 46, false), (104, 47, false), (104, 48, false), (104, 49, false), (104, 50, false), (104, 51, false), (126, 0, true), (127, 0, true), (128, 0, true), (129, 0, true), (130, 0, true)], []) h (xsetI h 104 46 (Int32.ofInt (0)))).set (c := 104) (k := 47) (v := (Int32.ofInt (0))) (show (0 : Int) ≤ _ ∧ _ ≤ 64 from (by decide)) rfl
  have w4 : mT ([(104, 4, false), (104, 5, false), (104, 7, false), (104, 8, false), (104, 9, false), (104, 10, false), (104, 21, false), (104, 46, false), (104, 47, false), (104, 48, false), (104, 49, false), (104, 50, false), (104, 51, false), (126, 0, true), (127, 0, true), (128, 0, true), (129, 0, true), (130, 0, true)], []) h (xsetI (xsetI (xsetI h 104 46 (Int32.ofInt (0))) 104 47 (Int32.ofInt (0))) 104 48 (Int32.ofInt (0))) := (w3 : mT ([(104, 4, false), (104, 5, false), (104, 7, false), (104, 8, false), (104, 9, false), (104, 10, false), (104, 21, false), (104, 46, false), (104, 47, false), (104, 48, false), (104, 49, false), (104, 50, false), (104, 51, false), (126, 0, true), (127, 0, true), (128, 0, true), (129, 0, true), (130, 0, true)], []) h (xsetI (xsetI h 104 46 (Int32.ofInt (0))) 104 47 (Int32.ofInt (0)))).set (c := 104) (k := 48) (v := (Int32.ofInt (0))) (show (0 : Int) ≤ _ ∧ _ ≤ 8 from (by decide)) rfl
  have w5 : mT ([(104, 4, false), (104, 5, false), (104, 7, false), (104, 8, false), (104, 9, false), (104, 10, false), (104, 21, false), (104, 46, false), (104, 47, false), (104, 48, false), (104, 49, false), (104, 50, false), (104, 51, false), (126, 0, true), (127, 0, true), (128, 0, true), (129, 0, true), (130, 0, true)], []) h (xsetI (xsetI (xsetI (xsetI h 104 46 (Int32.ofInt (0))) 104 47 (Int32.ofInt (0))) 104 48 (Int32.ofInt (0))) 104 50 (Int32.ofInt (1))) := (w4 : mT ([(104, 4, false), (104, 5, false), (104, 7, false), (104, 8, false), (104, 9, false), (104, 10, false), (104, 21, false), (104, 46, false), (104, 47, false), (104, 48, false), (104, 49, false), (104, 50, false), (104, 51, false), (126, 0, true), (127, 0, true), (128, 0, true), (129, 0, true), (130, 0, true)], []) h (xsetI (xsetI (xsetI h 104 46 (Int32.ofInt (0))) 104 47 (Int32.ofInt (0))) 104 48 (Int32.ofInt (0)))).set (c := 104) (k := 50) (v := (Int32.ofInt (1))) (show (0 : Int) ≤ _ ∧ _ ≤ 1 from (by decide)) rfl
  have G0 : mT ([(104, 4, false), (104, 5, false), (104, 7, false), (104, 8, false), (104, 9, false), (104, 10, false), (104, 21, false), (104, 46, false), (104, 47, false), (104, 48, false), (104, 49, false), (104, 50, false), (104, 51, false), (126, 0, true), (127, 0, true), (128, 0, true), (129, 0, true), (130, 0, true)], []) h (xsetI (xsetI (xsetI (xsetI (xsetI h 104 46 (Int32.ofInt (0))) 104 47 (Int32.ofInt (0))) 104 48 (Int32.ofInt (0))) 104 50 (Int32.ofInt (1))) 104 51 (Int32.ofInt (1))) := (w5 : mT ([(104, 4, false), (104, 5, false), (104, 7, false), (104, 8, false), (104, 9, false), (104, 10, false), (104, 21, false), (104, 46, false), (104, 47, false), (104, 48, false), (104, 49, false), (104, 50, false), (104, 51, false), (126, 0, true), (127, 0, true), (128, 0, true), (129, 0, true), (130, 0, true)], []) h (xsetI (xsetI (xsetI (xsetI h 104 46 (Int32.ofInt (0))) 104 47 (Int32.ofInt (0))) 104 48 (Int32.ofInt (0))) 104 50 (Int32.ofInt (1)))).set (c := 104) (k := 51) (v := (Int32.ofInt (1))) (show (0 : Int) ≤ _ ∧ _ ≤ 1 from (by decide)) rfl
  have jt0 : jT b n q (xsetI (xsetI (xsetI (xsetI (xsetI h 104 46 (Int32.ofInt (0))) 104 47 (Int32.ofInt (0))) 104 48 (Int32.ofInt (0))) 104 50 (Int32.ofInt (1))) 104 51 (Int32.ofInt (1))) := jt.fr (fun k hk => (yI_ne (eq_false (by omega))).trans ((yI_ne (eq_false (by omega))).trans ((yI_ne (eq_false (by omega))).trans ((yI_ne (eq_false (by omega))).trans (yI_ne (eq_false (by omega))))))) (fun k => (yI_c (by decide)).trans ((yI_c (by decide)).trans ((yI_c (by decide)).trans ((yI_c (by decide)).trans (yI_c (by decide))))))
  have X := je_sum0 (w := w) (H := (xsetI (xsetI (xsetI (xsetI (xsetI h 104 46 (Int32.ofInt (0))) 104 47 (Int32.ofInt (0))) 104 48 (Int32.ofInt (0))) 104 50 (Int32.ofInt (1))) 104 51 (Int32.ofInt (1)))) hw g6 ao jt0 (congrArg Int32.toInt ((yI_ne (by decide)).trans ((yI_ne (by decide)).trans ((yI_ne (by decide)).trans ((yI_ne (by decide)).trans (yI_same)))))) (congrArg Int32.toInt ((yI_ne (by decide)).trans ((yI_ne (by decide)).trans ((yI_ne (by decide)).trans (yI_same))))) (congrArg Int32.toInt ((yI_ne (by decide)).trans ((yI_ne (by decide)).trans (yI_same)))) (congrArg Int32.toInt ((yI_ne (by decide)).trans (yI_same))) (congrArg Int32.toInt (yI_same)) ((yI_ne (by decide)).trans ((yI_ne (by decide)).trans ((yI_ne (by decide)).trans ((yI_ne (by decide)).trans (yI_ne (by decide)))))) ((yI_ne (by decide)).trans ((yI_ne (by decide)).trans ((yI_ne (by decide)).trans ((yI_ne (by decide)).trans (yI_ne (by decide)))))) (fun c hc k => by rcases hc with rfl | rfl | rfl <;> exact (yI_c (by decide)).trans ((yI_c (by decide)).trans ((yI_c (by decide)).trans ((yI_c (by decide)).trans (yI_c (by decide))))))
  obtain ⟨v, pcR, L', h2, y1, y2, y3, y4, y5⟩ := jk_sumL l b n (Z 10) (n + 1) q (zl0 Z w) (xsetI (xsetI (xsetI (xsetI (xsetI h 104 46 (Int32.ofInt (0))) 104 47 (Int32.ofInt (0))) 104 48 (Int32.ofInt (0))) 104 50 (Int32.ofInt (1))) 104 51 (Int32.ofInt (1))) G0.1 X (by omega)
  have yv : v = 0 ∨ v = 1 := y5.elim (fun z => Or.inr z.2.1) (fun z => Or.inl z.2.1)
  exact ⟨v, h2, CX_ofT (h' := h2) (by decide) rfl rfl ⟨trivial, yv⟩ y2 y3 ⟨Nat.le_of_eq y4.1.2.2.2.1.symm, Nat.le_of_eq y4.1.2.2.2.2.symm⟩ (t1.tr y1), mT.tr (W := ([(104, 4, false), (104, 5, false), (104, 7, false), (104, 8, false), (104, 9, false), (104, 10, false), (104, 21, false), (104, 46, false), (104, 47, false), (104, 48, false), (104, 49, false), (104, 50, false), (104, 51, false), (126, 0, true), (127, 0, true), (128, 0, true), (129, 0, true), (130, 0, true)], [])) (b := (xsetI (xsetI (xsetI (xsetI (xsetI h 104 46 (Int32.ofInt (0))) 104 47 (Int32.ofInt (0))) 104 48 (Int32.ofInt (0))) 104 50 (Int32.ofInt (1))) 104 51 (Int32.ofInt (1)))) G0 y4, y5⟩
