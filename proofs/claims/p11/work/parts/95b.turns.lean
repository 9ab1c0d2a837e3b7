/-! further turns, the course. -/
set_option maxRecDepth 100000 in
set_option maxHeartbeats 4000000 in
theorem lw_c18 (l : Launch) (Ls : Nat) (xs : Nat → Int32) (N U : Nat) (F : List XV → XH → Prop) (i : Int32) (x5 x6 : XV) (h : XH) (H : vLw h) (i0 : 0 ≤ i.toInt) (i1 : i.toInt + 6 ≤ Ls) (hL : Ls ≤ 3072) (eL : (Int32.ofNat Ls - (Int32.ofInt (6))).toInt = Ls - 6) (hN : 153 ≤ N) (hU : 6051 ≤ U) (hc : (xs (i).toNatClampNeg &&& (Int32.ofInt (63))).toInt = 18) (k : ∀ h' x5' x6', vLw h' → XB l Ls xs 14 538 false 288 N U F 23 [xf 50 1, xf 12 2, xf 13 104, xf 40001 152, xi (i + (Int32.ofInt (6))), x5', x6'] [] h') : XB l Ls xs 14 538 false 288 N U F 23 [xf 50 1, xf 12 2, xf 13 104, xf 40001 152, xi i, x5, x6] [] h := by
  have e1 : (i + (Int32.ofInt (1))).toInt = i.toInt + 1 := by rw [Int32.toInt_add, show (Int32.ofInt (1)).toInt = 1 from rfl]; exact Int.bmod_eq_of_le (by omega) (by omega)
  have e2 : (i + (Int32.ofInt (2))).toInt = i.toInt + 2 := by rw [Int32.toInt_add, show (Int32.ofInt (2)).toInt = 2 from rfl]; exact Int.bmod_eq_of_le (by omega) (by omega)
  have e3 : (i + (Int32.ofInt (3))).toInt = i.toInt + 3 := by rw [Int32.toInt_add, show (Int32.ofInt (3)).toInt = 3 from rfl]; exact Int.bmod_eq_of_le (by omega) (by omega)
  have e4 : (i + (Int32.ofInt (4))).toInt = i.toInt + 4 := by rw [Int32.toInt_add, show (Int32.ofInt (4)).toInt = 4 from rfl]; exact Int.bmod_eq_of_le (by omega) (by omega)
  have e5 : (i + (Int32.ofInt (5))).toInt = i.toInt + 5 := by rw [Int32.toInt_add, show (Int32.ofInt (5)).toInt = 5 from rfl]; exact Int.bmod_eq_of_le (by omega) (by omega)
  have hg := H.1
  have R0 := H.2
  refine XB_path (sc := some (Ls, xs)) (inl := []) (n := 80) (sp := [874]) (o := [0, 19]) (xin_ok rfl) (Or.inr rfl) rfl rfl (Nat.le_trans (Nat.le_of_eq hg.2.2.2.1) hN) (Nat.le_trans (Nat.le_of_eq hg.2.2.2.2) hU) ⟨⟨⟨trivial, (fun z => absurd (Int32.lt_iff_toInt_lt.mp z) (by omega))⟩, (vp_of (i := i) (n := Ls) (by omega) (by omega))⟩, ⟨hc, by decide⟩⟩ ?_
  show XB l Ls xs 14 538 false 288 N U F 874 [xf 50 1, xf 12 2, xf 13 104, xf 40001 152, xi i, x5, x6] [xf 12 2] h
  obtain ⟨v1, h1, cc1, g1, f1, -⟩ := vl_121 l  h hg 
  refine XB_call (i := .invokevirtual 121) (aux := 1) (nx := 877) (K := 121) (vs := [xf 12 2]) (rs := [xi v1]) (rest := []) rfl rfl rfl rfl rfl rfl cc1 (by decide) (by decide) (Nat.le_of_ble_eq_true rfl) ⟨Nat.le_trans (Nat.le_of_eq g1.2.2.2.1) hN, Nat.le_trans (Nat.le_of_eq g1.2.2.2.2) hU⟩ ?_
  show XB l Ls xs 14 538 false 288 N U F 877 [xf 50 1, xf 12 2, xf 13 104, xf 40001 152, xi i, x5, x6] [xi v1] h1
  have R1 := R0.fr hg.1 f1 (by decide +kernel) (by decide +kernel) rfl rfl rfl rfl
  refine XB_path (sc := some (Ls, xs)) (inl := []) (n := 80) (sp := [879]) (o := []) (xin_ok rfl) (Or.inr rfl) rfl rfl (Nat.le_trans (Nat.le_of_eq g1.2.2.2.1) hN) (Nat.le_trans (Nat.le_of_eq g1.2.2.2.2) hU) trivial ?_
  show XB l Ls xs 14 538 false 288 N U F 879 [xf 50 1, xf 12 2, xf 13 104, xf 40001 152, xi i, x5, x6] [xf 13 104] h1
  obtain ⟨v2, h2, cc2, g2, f2, -⟩ := vl_257 l  h1 g1 
  refine XB_call (i := .invokevirtual 257) (aux := 1) (nx := 882) (K := 257) (vs := [xf 13 104]) (rs := [xi v2]) (rest := []) rfl rfl rfl rfl rfl rfl cc2 (by decide) (by decide) (Nat.le_of_ble_eq_true rfl) ⟨Nat.le_trans (Nat.le_of_eq g2.2.2.2.1) hN, Nat.le_trans (Nat.le_of_eq g2.2.2.2.2) hU⟩ ?_
  show XB l Ls xs 14 538 false 288 N U F 882 [xf 50 1, xf 12 2, xf 13 104, xf 40001 152, xi i, x5, x6] [xi v2] h2
  have R2 := R1.fr g1.1 f2 (by decide +kernel) (by decide +kernel) rfl rfl rfl rfl
  refine XB_path (sc := some (Ls, xs)) (inl := []) (n := 80) (sp := [23]) (o := []) (xin_ok rfl) (Or.inr rfl) rfl rfl (Nat.le_trans (Nat.le_of_eq g2.2.2.2.1) hN) (Nat.le_trans (Nat.le_of_eq g2.2.2.2.2) hU) trivial ?_
  show XB l Ls xs 14 538 false 288 N U F 23 [xf 50 1, xf 12 2, xf 13 104, xf 40001 152, xi (i + Int32.ofInt (6)), x5, x6] [] h2
  exact k h2 (x5) (x6) ⟨g2, R2⟩
set_option maxRecDepth 100000 in
set_option maxHeartbeats 4000000 in
theorem lw_c19 (l : Launch) (Ls : Nat) (xs : Nat → Int32) (N U : Nat) (F : List XV → XH → Prop) (i : Int32) (x5 x6 : XV) (h : XH) (H : vLw h) (i0 : 0 ≤ i.toInt) (i1 : i.toInt + 6 ≤ Ls) (hL : Ls ≤ 3072) (eL : (Int32.ofNat Ls - (Int32.ofInt (6))).toInt = Ls - 6) (hN : 153 ≤ N) (hU : 6051 ≤ U) (hc : (xs (i).toNatClampNeg &&& (Int32.ofInt (63))).toInt = 19) (k : ∀ h' x5' x6', vLw h' → XB l Ls xs 14 538 false 288 N U F 23 [xf 50 1, xf 12 2, xf 13 104, xf 40001 152, xi (i + (Int32.ofInt (6))), x5', x6'] [] h') : XB l Ls xs 14 538 false 288 N U F 23 [xf 50 1, xf 12 2, xf 13 104, xf 40001 152, xi i, x5, x6] [] h := by
  have e1 : (i + (Int32.ofInt (1))).toInt = i.toInt + 1 := by rw [Int32.toInt_add, show (Int32.ofInt (1)).toInt = 1 from rfl]; exact Int.bmod_eq_of_le (by omega) (by omega)
  have e2 : (i + (Int32.ofInt (2))).toInt = i.toInt + 2 := by rw [Int32.toInt_add, show (Int32.ofInt (2)).toInt = 2 from rfl]; exact Int.bmod_eq_of_le (by omega) (by omega)
  have e3 : (i + (Int32.ofInt (3))).toInt = i.toInt + 3 := by rw [Int32.toInt_add, show (Int32.ofInt (3)).toInt = 3 from rfl]; exact Int.bmod_eq_of_le (by omega) (by omega)
  have e4 : (i + (Int32.ofInt (4))).toInt = i.toInt + 4 := by rw [Int32.toInt_add, show (Int32.ofInt (4)).toInt = 4 from rfl]; exact Int.bmod_eq_of_le (by omega) (by omega)
  have e5 : (i + (Int32.ofInt (5))).toInt = i.toInt + 5 := by rw [Int32.toInt_add, show (Int32.ofInt (5)).toInt = 5 from rfl]; exact Int.bmod_eq_of_le (by omega) (by omega)
  have hg := H.1
  have R0 := H.2
  refine XB_path (sc := some (Ls, xs)) (inl := []) (n := 80) (sp := [893]) (o := [0, 20]) (xin_ok rfl) (Or.inr rfl) rfl rfl (Nat.le_trans (Nat.le_of_eq hg.2.2.2.1) hN) (Nat.le_trans (Nat.le_of_eq hg.2.2.2.2) hU) ⟨⟨⟨⟨trivial, (fun z => absurd (Int32.lt_iff_toInt_lt.mp z) (by omega))⟩, (vp_of (i := i) (n := Ls) (by omega) (by omega))⟩, ⟨hc, by decide⟩⟩, (vp_of (i := (i + (Int32.ofInt (1)))) (n := Ls) (by omega) (by omega))⟩ ?_
  show XB l Ls xs 14 538 false 288 N U F 893 [xf 50 1, xf 12 2, xf 13 104, xf 40001 152, xi i, x5, x6] [xi (xs ((i + (Int32.ofInt (1)))).toNatClampNeg), xf 12 2] h
  obtain ⟨v1, h1, cc1, g1, f1, -⟩ := vl_123 l ((xs ((i + (Int32.ofInt (1)))).toNatClampNeg)) h hg (i32r_of _)
  refine XB_call (i := .invokevirtual 123) (aux := 2) (nx := 896) (K := 123) (vs := [xf 12 2, xi (xs ((i + (Int32.ofInt (1)))).toNatClampNeg)]) (rs := [xi v1]) (rest := []) rfl rfl rfl rfl rfl rfl cc1 (by decide) (by decide) (Nat.le_of_ble_eq_true rfl) ⟨Nat.le_trans (Nat.le_of_eq g1.2.2.2.1) hN, Nat.le_trans (Nat.le_of_eq g1.2.2.2.2) hU⟩ ?_
  show XB l Ls xs 14 538 false 288 N U F 896 [xf 50 1, xf 12 2, xf 13 104, xf 40001 152, xi i, x5, x6] [xi v1] h1
  have R1 := R0.fr hg.1 f1 (by decide +kernel) (by decide +kernel) rfl rfl rfl rfl
  refine XB_path (sc := some (Ls, xs)) (inl := []) (n := 80) (sp := [904]) (o := []) (xin_ok rfl) (Or.inr rfl) rfl rfl (Nat.le_trans (Nat.le_of_eq g1.2.2.2.1) hN) (Nat.le_trans (Nat.le_of_eq g1.2.2.2.2) hU) ⟨trivial, (vp_of (i := (i + (Int32.ofInt (1)))) (n := Ls) (by omega) (by omega))⟩ ?_
  show XB l Ls xs 14 538 false 288 N U F 904 [xf 50 1, xf 12 2, xf 13 104, xf 40001 152, xi i, x5, x6] [xi (xs ((i + (Int32.ofInt (1)))).toNatClampNeg), xf 13 104] h1
  obtain ⟨v2, h2, cc2, g2, f2, -⟩ := vl_259 l ((xs ((i + (Int32.ofInt (1)))).toNatClampNeg)) h1 g1 (i32r_of _)
  refine XB_call (i := .invokevirtual 259) (aux := 2) (nx := 907) (K := 259) (vs := [xf 13 104, xi (xs ((i + (Int32.ofInt (1)))).toNatClampNeg)]) (rs := [xi v2]) (rest := []) rfl rfl rfl rfl rfl rfl cc2 (by decide) (by decide) (Nat.le_of_ble_eq_true rfl) ⟨Nat.le_trans (Nat.le_of_eq g2.2.2.2.1) hN, Nat.le_trans (Nat.le_of_eq g2.2.2.2.2) hU⟩ ?_
  show XB l Ls xs 14 538 false 288 N U F 907 [xf 50 1, xf 12 2, xf 13 104, xf 40001 152, xi i, x5, x6] [xi v2] h2
  have R2 := R1.fr g1.1 f2 (by decide +kernel) (by decide +kernel) rfl rfl rfl rfl
  refine XB_path (sc := some (Ls, xs)) (inl := []) (n := 80) (sp := [23]) (o := []) (xin_ok rfl) (Or.inr rfl) rfl rfl (Nat.le_trans (Nat.le_of_eq g2.2.2.2.1) hN) (Nat.le_trans (Nat.le_of_eq g2.2.2.2.2) hU) trivial ?_
  show XB l Ls xs 14 538 false 288 N U F 23 [xf 50 1, xf 12 2, xf 13 104, xf 40001 152, xi (i + Int32.ofInt (6)), x5, x6] [] h2
  exact k h2 (x5) (x6) ⟨g2, R2⟩
set_option maxRecDepth 100000 in
set_option maxHeartbeats 4000000 in
theorem lw_c20 (l : Launch) (Ls : Nat) (xs : Nat → Int32) (N U : Nat) (F : List XV → XH → Prop) (i : Int32) (x5 x6 : XV) (h : XH) (H : vLw h) (i0 : 0 ≤ i.toInt) (i1 : i.toInt + 6 ≤ Ls) (hL : Ls ≤ 3072) (eL : (Int32.ofNat Ls - (Int32.ofInt (6))).toInt = Ls - 6) (hN : 153 ≤ N) (hU : 6051 ≤ U) (hc : (xs (i).toNatClampNeg &&& (Int32.ofInt (63))).toInt = 20) (k : ∀ h' x5' x6', vLw h' → XB l Ls xs 14 538 false 288 N U F 23 [xf 50 1, xf 12 2, xf 13 104, xf 40001 152, xi (i + (Int32.ofInt (6))), x5', x6'] [] h') : XB l Ls xs 14 538 false 288 N U F 23 [xf 50 1, xf 12 2, xf 13 104, xf 40001 152, xi i, x5, x6] [] h := by
  have e1 : (i + (Int32.ofInt (1))).toInt = i.toInt + 1 := by rw [Int32.toInt_add, show (Int32.ofInt (1)).toInt = 1 from rfl]; exact Int.bmod_eq_of_le (by omega) (by omega)
  have e2 : (i + (Int32.ofInt (2))).toInt = i.toInt + 2 := by rw [Int32.toInt_add, show (Int32.ofInt (2)).toInt = 2 from rfl]; exact Int.bmod_eq_of_le (by omega) (by omega)
  have e3 : (i + (Int32.ofInt (3))).toInt = i.toInt + 3 := by rw [Int32.toInt_add, show (Int32.ofInt (3)).toInt = 3 from rfl]; exact Int.bmod_eq_of_le (by omega) (by omega)
  have e4 : (i + (Int32.ofInt (4))).toInt = i.toInt + 4 := by rw [Int32.toInt_add, show (Int32.ofInt (4)).toInt = 4 from rfl]; exact Int.bmod_eq_of_le (by omega) (by omega)
  have e5 : (i + (Int32.ofInt (5))).toInt = i.toInt + 5 := by rw [Int32.toInt_add, show (Int32.ofInt (5)).toInt = 5 from rfl]; exact Int.bmod_eq_of_le (by omega) (by omega)
  have hg := H.1
  have R0 := H.2
  refine XB_path (sc := some (Ls, xs)) (inl := []) (n := 80) (sp := [930]) (o := [0, 21]) (xin_ok rfl) (Or.inr rfl) rfl rfl (Nat.le_trans (Nat.le_of_eq hg.2.2.2.1) hN) (Nat.le_trans (Nat.le_of_eq hg.2.2.2.2) hU) ⟨⟨⟨⟨⟨⟨trivial, (fun z => absurd (Int32.lt_iff_toInt_lt.mp z) (by omega))⟩, (vp_of (i := i) (n := Ls) (by omega) (by omega))⟩, ⟨hc, by decide⟩⟩, (vp_of (i := (i + (Int32.ofInt (1)))) (n := Ls) (by omega) (by omega))⟩, (vp_of (i := (i + (Int32.ofInt (2)))) (n := Ls) (by omega) (by omega))⟩, (vp_of (i := (i + (Int32.ofInt (3)))) (n := Ls) (by omega) (by omega))⟩ ?_
  show XB l Ls xs 14 538 false 288 N U F 930 [xf 50 1, xf 12 2, xf 13 104, xf 40001 152, xi i, x5, x6] [xi (xs ((i + (Int32.ofInt (3)))).toNatClampNeg), xi (xs ((i + (Int32.ofInt (2)))).toNatClampNeg), xi (xs ((i + (Int32.ofInt (1)))).toNatClampNeg), xf 12 2] h
  obtain ⟨v1, h1, cc1, g1, f1, -⟩ := vl_124 l ((xs ((i + (Int32.ofInt (1)))).toNatClampNeg)) ((xs ((i + (Int32.ofInt (2)))).toNatClampNeg)) ((xs ((i + (Int32.ofInt (3)))).toNatClampNeg)) h hg (i32r_of _) (i32r_of _) (i32r_of _)
  refine XB_call (i := .invokevirtual 124) (aux := 4) (nx := 933) (K := 124) (vs := [xf 12 2, xi (xs ((i + (Int32.ofInt (1)))).toNatClampNeg), xi (xs ((i + (Int32.ofInt (2)))).toNatClampNeg), xi (xs ((i + (Int32.ofInt (3)))).toNatClampNeg)]) (rs := [xi v1]) (rest := []) rfl rfl rfl rfl rfl rfl cc1 (by decide) (by decide) (Nat.le_of_ble_eq_true rfl) ⟨Nat.le_trans (Nat.le_of_eq g1.2.2.2.1) hN, Nat.le_trans (Nat.le_of_eq g1.2.2.2.2) hU⟩ ?_
  show XB l Ls xs 14 538 false 288 N U F 933 [xf 50 1, xf 12 2, xf 13 104, xf 40001 152, xi i, x5, x6] [xi v1] h1
  have R1 := R0.fr hg.1 f1 (by decide +kernel) (by decide +kernel) rfl rfl rfl rfl
  refine XB_path (sc := some (Ls, xs)) (inl := []) (n := 80) (sp := [953]) (o := []) (xin_ok rfl) (Or.inr rfl) rfl rfl (Nat.le_trans (Nat.le_of_eq g1.2.2.2.1) hN) (Nat.le_trans (Nat.le_of_eq g1.2.2.2.2) hU) ⟨⟨⟨trivial, (vp_of (i := (i + (Int32.ofInt (1)))) (n := Ls) (by omega) (by omega))⟩, (vp_of (i := (i + (Int32.ofInt (2)))) (n := Ls) (by omega) (by omega))⟩, (vp_of (i := (i + (Int32.ofInt (3)))) (n := Ls) (by omega) (by omega))⟩ ?_
  show XB l Ls xs 14 538 false 288 N U F 953 [xf 50 1, xf 12 2, xf 13 104, xf 40001 152, xi i, x5, x6] [xi (xs ((i + (Int32.ofInt (3)))).toNatClampNeg), xi (xs ((i + (Int32.ofInt (2)))).toNatClampNeg), xi (xs ((i + (Int32.ofInt (1)))).toNatClampNeg), xf 13 104] h1
  obtain ⟨v2, h2, cc2, g2, f2, -⟩ := vl_260 l ((xs ((i + (Int32.ofInt (1)))).toNatClampNeg)) ((xs ((i + (Int32.ofInt (2)))).toNatClampNeg)) ((xs ((i + (Int32.ofInt (3)))).toNatClampNeg)) h1 g1 (i32r_of _) (i32r_of _) (i32r_of _)
  refine XB_call (i := .invokevirtual 260) (aux := 4) (nx := 956) (K := 260) (vs := [xf 13 104, xi (xs ((i + (Int32.ofInt (1)))).toNatClampNeg), xi (xs ((i + (Int32.ofInt (2)))).toNatClampNeg), xi (xs ((i + (Int32.ofInt (3)))).toNatClampNeg)]) (rs := [xi v2]) (rest := []) rfl rfl rfl rfl rfl rfl cc2 (by decide) (by decide) (Nat.le_of_ble_eq_true rfl) ⟨Nat.le_trans (Nat.le_of_eq g2.2.2.2.1) hN, Nat.le_trans (Nat.le_of_eq g2.2.2.2.2) hU⟩ ?_
  show XB l Ls xs 14 538 false 288 N U F 956 [xf 50 1, xf 12 2, xf 13 104, xf 40001 152, xi i, x5, x6] [xi v2] h2
  have R2 := R1.fr g1.1 f2 (by decide +kernel) (by decide +kernel) rfl rfl rfl rfl
  refine XB_path (sc := some (Ls, xs)) (inl := []) (n := 80) (sp := [23]) (o := []) (xin_ok rfl) (Or.inr rfl) rfl rfl (Nat.le_trans (Nat.le_of_eq g2.2.2.2.1) hN) (Nat.le_trans (Nat.le_of_eq g2.2.2.2.2) hU) trivial ?_
  show XB l Ls xs 14 538 false 288 N U F 23 [xf 50 1, xf 12 2, xf 13 104, xf 40001 152, xi (i + Int32.ofInt (6)), x5, x6] [] h2
  exact k h2 (x5) (x6) ⟨g2, R2⟩
set_option maxRecDepth 100000 in
set_option maxHeartbeats 4000000 in
theorem lw_c21 (l : Launch) (Ls : Nat) (xs : Nat → Int32) (N U : Nat) (F : List XV → XH → Prop) (i : Int32) (x5 x6 : XV) (h : XH) (H : vLw h) (i0 : 0 ≤ i.toInt) (i1 : i.toInt + 6 ≤ Ls) (hL : Ls ≤ 3072) (eL : (Int32.ofNat Ls - (Int32.ofInt (6))).toInt = Ls - 6) (hN : 153 ≤ N) (hU : 6051 ≤ U) (hc : (xs (i).toNatClampNeg &&& (Int32.ofInt (63))).toInt = 21) (k : ∀ h' x5' x6', vLw h' → XB l Ls xs 14 538 false 288 N U F 23 [xf 50 1, xf 12 2, xf 13 104, xf 40001 152, xi (i + (Int32.ofInt (6))), x5', x6'] [] h') : XB l Ls xs 14 538 false 288 N U F 23 [xf 50 1, xf 12 2, xf 13 104, xf 40001 152, xi i, x5, x6] [] h := by
  have e1 : (i + (Int32.ofInt (1))).toInt = i.toInt + 1 := by rw [Int32.toInt_add, show (Int32.ofInt (1)).toInt = 1 from rfl]; exact Int.bmod_eq_of_le (by omega) (by omega)
  have e2 : (i + (Int32.ofInt (2))).toInt = i.toInt + 2 := by rw [Int32.toInt_add, show (Int32.ofInt (2)).toInt = 2 from rfl]; exact Int.bmod_eq_of_le (by omega) (by omega)
  have e3 : (i + (Int32.ofInt (3))).toInt = i.toInt + 3 := by rw [Int32.toInt_add, show (Int32.ofInt (3)).toInt = 3 from rfl]; exact Int.bmod_eq_of_le (by omega) (by omega)
  have e4 : (i + (Int32.ofInt (4))).toInt = i.toInt + 4 := by rw [Int32.toInt_add, show (Int32.ofInt (4)).toInt = 4 from rfl]; exact Int.bmod_eq_of_le (by omega) (by omega)
  have e5 : (i + (Int32.ofInt (5))).toInt = i.toInt + 5 := by rw [Int32.toInt_add, show (Int32.ofInt (5)).toInt = 5 from rfl]; exact Int.bmod_eq_of_le (by omega) (by omega)
  have hg := H.1
  have R0 := H.2
  refine XB_path (sc := some (Ls, xs)) (inl := []) (n := 80) (sp := [973]) (o := [0, 22]) (xin_ok rfl) (Or.inr rfl) rfl rfl (Nat.le_trans (Nat.le_of_eq hg.2.2.2.1) hN) (Nat.le_trans (Nat.le_of_eq hg.2.2.2.2) hU) ⟨⟨⟨⟨⟨trivial, (fun z => absurd (Int32.lt_iff_toInt_lt.mp z) (by omega))⟩, (vp_of (i := i) (n := Ls) (by omega) (by omega))⟩, ⟨hc, by decide⟩⟩, (vp_of (i := (i + (Int32.ofInt (1)))) (n := Ls) (by omega) (by omega))⟩, (vp_of (i := (i + (Int32.ofInt (2)))) (n := Ls) (by omega) (by omega))⟩ ?_
  show XB l Ls xs 14 538 false 288 N U F 973 [xf 50 1, xf 12 2, xf 13 104, xf 40001 152, xi i, x5, x6] [xi (xs ((i + (Int32.ofInt (2)))).toNatClampNeg), xi (xs ((i + (Int32.ofInt (1)))).toNatClampNeg), xf 12 2] h
  obtain ⟨v1, h1, cc1, g1, f1, -⟩ := vl_130 l ((xs ((i + (Int32.ofInt (1)))).toNatClampNeg)) ((xs ((i + (Int32.ofInt (2)))).toNatClampNeg)) h hg (i32r_of _) (i32r_of _)
  refine XB_call (i := .invokevirtual 130) (aux := 3) (nx := 976) (K := 130) (vs := [xf 12 2, xi (xs ((i + (Int32.ofInt (1)))).toNatClampNeg), xi (xs ((i + (Int32.ofInt (2)))).toNatClampNeg)]) (rs := [xi v1]) (rest := []) rfl rfl rfl rfl rfl rfl cc1 (by decide) (by decide) (Nat.le_of_ble_eq_true rfl) ⟨Nat.le_trans (Nat.le_of_eq g1.2.2.2.1) hN, Nat.le_trans (Nat.le_of_eq g1.2.2.2.2) hU⟩ ?_
  show XB l Ls xs 14 538 false 288 N U F 976 [xf 50 1, xf 12 2, xf 13 104, xf 40001 152, xi i, x5, x6] [xi v1] h1
  have R1 := R0.fr hg.1 f1 (by decide +kernel) (by decide +kernel) rfl rfl rfl rfl
  refine XB_path (sc := some (Ls, xs)) (inl := []) (n := 80) (sp := [990]) (o := []) (xin_ok rfl) (Or.inr rfl) rfl rfl (Nat.le_trans (Nat.le_of_eq g1.2.2.2.1) hN) (Nat.le_trans (Nat.le_of_eq g1.2.2.2.2) hU) ⟨⟨trivial, (vp_of (i := (i + (Int32.ofInt (1)))) (n := Ls) (by omega) (by omega))⟩, (vp_of (i := (i + (Int32.ofInt (2)))) (n := Ls) (by omega) (by omega))⟩ ?_
  show XB l Ls xs 14 538 false 288 N U F 990 [xf 50 1, xf 12 2, xf 13 104, xf 40001 152, xi i, x5, x6] [xi (xs ((i + (Int32.ofInt (2)))).toNatClampNeg), xi (xs ((i + (Int32.ofInt (1)))).toNatClampNeg), xf 13 104] h1
  obtain ⟨v2, h2, cc2, g2, z2⟩ := vh_setOut2 l ((xs ((i + (Int32.ofInt (1)))).toNatClampNeg)) ((xs ((i + (Int32.ofInt (2)))).toNatClampNeg)) h1 g1
  refine XB_call (i := .invokevirtual 263) (aux := 3) (nx := 993) (K := 263) (vs := [xf 13 104, xi (xs ((i + (Int32.ofInt (1)))).toNatClampNeg), xi (xs ((i + (Int32.ofInt (2)))).toNatClampNeg)]) (rs := [xi v2]) (rest := []) rfl rfl rfl rfl rfl rfl cc2 (by decide) (by decide) (Nat.le_of_ble_eq_true rfl) ⟨Nat.le_trans (Nat.le_of_eq g2.1.2.2.2.1) hN, Nat.le_trans (Nat.le_of_eq g2.1.2.2.2.2) hU⟩ ?_
  show XB l Ls xs 14 538 false 288 N U F 993 [xf 50 1, xf 12 2, xf 13 104, xf 40001 152, xi i, x5, x6] [xi v2] h2
  have R2 : vRl h2 := ⟨R1.1.fr (vKeep.of g2.2 (by decide +kernel)), R1.2.k g1.1 (vKeep.hs g2.2 z2 (by decide +kernel) (by decide +kernel)) (g2.2.2 2 1 rfl) (g2.2.2 2 2 rfl) (g2.2.2 48 0 rfl) (g2.2.2 70 0 rfl)⟩
  refine XB_path (sc := some (Ls, xs)) (inl := []) (n := 80) (sp := [23]) (o := []) (xin_ok rfl) (Or.inr rfl) rfl rfl (Nat.le_trans (Nat.le_of_eq g2.1.2.2.2.1) hN) (Nat.le_trans (Nat.le_of_eq g2.1.2.2.2.2) hU) trivial ?_
  show XB l Ls xs 14 538 false 288 N U F 23 [xf 50 1, xf 12 2, xf 13 104, xf 40001 152, xi (i + Int32.ofInt (6)), x5, x6] [] h2
  exact k h2 (x5) (x6) ⟨g2.1, R2⟩
set_option maxRecDepth 100000 in
set_option maxHeartbeats 4000000 in
theorem lw_c22 (l : Launch) (Ls : Nat) (xs : Nat → Int32) (N U : Nat) (F : List XV → XH → Prop) (i : Int32) (x5 x6 : XV) (h : XH) (H : vLw h) (i0 : 0 ≤ i.toInt) (i1 : i.toInt + 6 ≤ Ls) (hL : Ls ≤ 3072) (eL : (Int32.ofNat Ls - (Int32.ofInt (6))).toInt = Ls - 6) (hN : 153 ≤ N) (hU : 6051 ≤ U) (hc : (xs (i).toNatClampNeg &&& (Int32.ofInt (63))).toInt = 22) (k : ∀ h' x5' x6', vLw h' → XB l Ls xs 14 538 false 288 N U F 23 [xf 50 1, xf 12 2, xf 13 104, xf 40001 152, xi (i + (Int32.ofInt (6))), x5', x6'] [] h') : XB l Ls xs 14 538 false 288 N U F 23 [xf 50 1, xf 12 2, xf 13 104, xf 40001 152, xi i, x5, x6] [] h := by
  have e1 : (i + (Int32.ofInt (1))).toInt = i.toInt + 1 := by rw [Int32.toInt_add, show (Int32.ofInt (1)).toInt = 1 from rfl]; exact Int.bmod_eq_of_le (by omega) (by omega)
  have e2 : (i + (Int32.ofInt (2))).toInt = i.toInt + 2 := by rw [Int32.toInt_add, show (Int32.ofInt (2)).toInt = 2 from rfl]; exact Int.bmod_eq_of_le (by omega) (by omega)
  have e3 : (i + (Int32.ofInt (3))).toInt = i.toInt + 3 := by rw [Int32.toInt_add, show (Int32.ofInt (3)).toInt = 3 from rfl]; exact Int.bmod_eq_of_le (by omega) (by omega)
  have e4 : (i + (Int32.ofInt (4))).toInt = i.toInt + 4 := by rw [Int32.toInt_add, show (Int32.ofInt (4)).toInt = 4 from rfl]; exact Int.bmod_eq_of_le (by omega) (by omega)
  have e5 : (i + (Int32.ofInt (5))).toInt = i.toInt + 5 := by rw [Int32.toInt_add, show (Int32.ofInt (5)).toInt = 5 from rfl]; exact Int.bmod_eq_of_le (by omega) (by omega)
  have hg := H.1
  have R0 := H.2
  refine XB_path (sc := some (Ls, xs)) (inl := []) (n := 80) (sp := [1004]) (o := [0, 23]) (xin_ok rfl) (Or.inr rfl) rfl rfl (Nat.le_trans (Nat.le_of_eq hg.2.2.2.1) hN) (Nat.le_trans (Nat.le_of_eq hg.2.2.2.2) hU) ⟨⟨⟨⟨trivial, (fun z => absurd (Int32.lt_iff_toInt_lt.mp z) (by omega))⟩, (vp_of (i := i) (n := Ls) (by omega) (by omega))⟩, ⟨hc, by decide⟩⟩, (vp_of (i := (i + (Int32.ofInt (1)))) (n := Ls) (by omega) (by omega))⟩ ?_
  show XB l Ls xs 14 538 false 288 N U F 1004 [xf 50 1, xf 12 2, xf 13 104, xf 40001 152, xi i, x5, x6] [xi (xs ((i + (Int32.ofInt (1)))).toNatClampNeg), xf 12 2] h
  obtain ⟨v1, h1, cc1, g1, f1, -⟩ := vl_131 l ((xs ((i + (Int32.ofInt (1)))).toNatClampNeg)) h hg (i32r_of _)
  refine XB_call (i := .invokevirtual 131) (aux := 2) (nx := 1007) (K := 131) (vs := [xf 12 2, xi (xs ((i + (Int32.ofInt (1)))).toNatClampNeg)]) (rs := [xi v1]) (rest := []) rfl rfl rfl rfl rfl rfl cc1 (by decide) (by decide) (Nat.le_of_ble_eq_true rfl) ⟨Nat.le_trans (Nat.le_of_eq g1.2.2.2.1) hN, Nat.le_trans (Nat.le_of_eq g1.2.2.2.2) hU⟩ ?_
  show XB l Ls xs 14 538 false 288 N U F 1007 [xf 50 1, xf 12 2, xf 13 104, xf 40001 152, xi i, x5, x6] [xi v1] h1
  have R1 := R0.fr hg.1 f1 (by decide +kernel) (by decide +kernel) rfl rfl rfl rfl
  refine XB_path (sc := some (Ls, xs)) (inl := []) (n := 80) (sp := [1015]) (o := []) (xin_ok rfl) (Or.inr rfl) rfl rfl (Nat.le_trans (Nat.le_of_eq g1.2.2.2.1) hN) (Nat.le_trans (Nat.le_of_eq g1.2.2.2.2) hU) ⟨trivial, (vp_of (i := (i + (Int32.ofInt (1)))) (n := Ls) (by omega) (by omega))⟩ ?_
  show XB l Ls xs 14 538 false 288 N U F 1015 [xf 50 1, xf 12 2, xf 13 104, xf 40001 152, xi i, x5, x6] [xi (xs ((i + (Int32.ofInt (1)))).toNatClampNeg), xf 13 104] h1
  obtain ⟨v2, h2, cc2, g2, f2, -⟩ := vl_264 l ((xs ((i + (Int32.ofInt (1)))).toNatClampNeg)) h1 g1 (i32r_of _)
  refine XB_call (i := .invokevirtual 264) (aux := 2) (nx := 1018) (K := 264) (vs := [xf 13 104, xi (xs ((i + (Int32.ofInt (1)))).toNatClampNeg)]) (rs := [xi v2]) (rest := []) rfl rfl rfl rfl rfl rfl cc2 (by decide) (by decide) (Nat.le_of_ble_eq_true rfl) ⟨Nat.le_trans (Nat.le_of_eq g2.2.2.2.1) hN, Nat.le_trans (Nat.le_of_eq g2.2.2.2.2) hU⟩ ?_
  show XB l Ls xs 14 538 false 288 N U F 1018 [xf 50 1, xf 12 2, xf 13 104, xf 40001 152, xi i, x5, x6] [xi v2] h2
  have R2 := R1.fr g1.1 f2 (by decide +kernel) (by decide +kernel) rfl rfl rfl rfl
  refine XB_path (sc := some (Ls, xs)) (inl := []) (n := 80) (sp := [23]) (o := []) (xin_ok rfl) (Or.inr rfl) rfl rfl (Nat.le_trans (Nat.le_of_eq g2.2.2.2.1) hN) (Nat.le_trans (Nat.le_of_eq g2.2.2.2.2) hU) trivial ?_
  show XB l Ls xs 14 538 false 288 N U F 23 [xf 50 1, xf 12 2, xf 13 104, xf 40001 152, xi (i + Int32.ofInt (6)), x5, x6] [] h2
  exact k h2 (x5) (x6) ⟨g2, R2⟩
set_option maxRecDepth 100000 in
set_option maxHeartbeats 4000000 in
theorem lw_c23 (l : Launch) (Ls : Nat) (xs : Nat → Int32) (N U : Nat) (F : List XV → XH → Prop) (i : Int32) (x5 x6 : XV) (h : XH) (H : vLw h) (i0 : 0 ≤ i.toInt) (i1 : i.toInt + 6 ≤ Ls) (hL : Ls ≤ 3072) (eL : (Int32.ofNat Ls - (Int32.ofInt (6))).toInt = Ls - 6) (hN : 153 ≤ N) (hU : 6051 ≤ U) (hc : (xs (i).toNatClampNeg &&& (Int32.ofInt (63))).toInt = 23) (k : ∀ h' x5' x6', vLw h' → XB l Ls xs 14 538 false 288 N U F 23 [xf 50 1, xf 12 2, xf 13 104, xf 40001 152, xi (i + (Int32.ofInt (6))), x5', x6'] [] h') : XB l Ls xs 14 538 false 288 N U F 23 [xf 50 1, xf 12 2, xf 13 104, xf 40001 152, xi i, x5, x6] [] h := by
  have e1 : (i + (Int32.ofInt (1))).toInt = i.toInt + 1 := by rw [Int32.toInt_add, show (Int32.ofInt (1)).toInt = 1 from rfl]; exact Int.bmod_eq_of_le (by omega) (by omega)
  have e2 : (i + (Int32.ofInt (2))).toInt = i.toInt + 2 := by rw [Int32.toInt_add, show (Int32.ofInt (2)).toInt = 2 from rfl]; exact Int.bmod_eq_of_le (by omega) (by omega)
  have e3 : (i + (Int32.ofInt (3))).toInt = i.toInt + 3 := by rw [Int32.toInt_add, show (Int32.ofInt (3)).toInt = 3 from rfl]; exact Int.bmod_eq_of_le (by omega) (by omega)
  have e4 : (i + (Int32.ofInt (4))).toInt = i.toInt + 4 := by rw [Int32.toInt_add, show (Int32.ofInt (4)).toInt = 4 from rfl]; exact Int.bmod_eq_of_le (by omega) (by omega)
  have e5 : (i + (Int32.ofInt (5))).toInt = i.toInt + 5 := by rw [Int32.toInt_add, show (Int32.ofInt (5)).toInt = 5 from rfl]; exact Int.bmod_eq_of_le (by omega) (by omega)
  have hg := H.1
  have R0 := H.2
  refine XB_path (sc := some (Ls, xs)) (inl := []) (n := 80) (sp := [1035]) (o := [0, 24]) (xin_ok rfl) (Or.inr rfl) rfl rfl (Nat.le_trans (Nat.le_of_eq hg.2.2.2.1) hN) (Nat.le_trans (Nat.le_of_eq hg.2.2.2.2) hU) ⟨⟨⟨⟨⟨trivial, (fun z => absurd (Int32.lt_iff_toInt_lt.mp z) (by omega))⟩, (vp_of (i := i) (n := Ls) (by omega) (by omega))⟩, ⟨hc, by decide⟩⟩, (vp_of (i := (i + (Int32.ofInt (1)))) (n := Ls) (by omega) (by omega))⟩, (vp_of (i := (i + (Int32.ofInt (2)))) (n := Ls) (by omega) (by omega))⟩ ?_
  show XB l Ls xs 14 538 false 288 N U F 1035 [xf 50 1, xf 12 2, xf 13 104, xf 40001 152, xi i, x5, x6] [xi (xs ((i + (Int32.ofInt (2)))).toNatClampNeg), xi (xs ((i + (Int32.ofInt (1)))).toNatClampNeg), xf 12 2] h
  obtain ⟨v1, h1, cc1, g1, f1, -⟩ := vl_138 l ((xs ((i + (Int32.ofInt (1)))).toNatClampNeg)) ((xs ((i + (Int32.ofInt (2)))).toNatClampNeg)) h hg (i32r_of _) (i32r_of _)
  refine XB_call (i := .invokevirtual 138) (aux := 3) (nx := 1038) (K := 138) (vs := [xf 12 2, xi (xs ((i + (Int32.ofInt (1)))).toNatClampNeg), xi (xs ((i + (Int32.ofInt (2)))).toNatClampNeg)]) (rs := [xi v1]) (rest := []) rfl rfl rfl rfl rfl rfl cc1 (by decide) (by decide) (Nat.le_of_ble_eq_true rfl) ⟨Nat.le_trans (Nat.le_of_eq g1.2.2.2.1) hN, Nat.le_trans (Nat.le_of_eq g1.2.2.2.2) hU⟩ ?_
  show XB l Ls xs 14 538 false 288 N U F 1038 [xf 50 1, xf 12 2, xf 13 104, xf 40001 152, xi i, x5, x6] [xi v1] h1
  have R1 := R0.fr hg.1 f1 (by decide +kernel) (by decide +kernel) rfl rfl rfl rfl
  refine XB_path (sc := some (Ls, xs)) (inl := []) (n := 80) (sp := [1052]) (o := []) (xin_ok rfl) (Or.inr rfl) rfl rfl (Nat.le_trans (Nat.le_of_eq g1.2.2.2.1) hN) (Nat.le_trans (Nat.le_of_eq g1.2.2.2.2) hU) ⟨⟨trivial, (vp_of (i := (i + (Int32.ofInt (1)))) (n := Ls) (by omega) (by omega))⟩, (vp_of (i := (i + (Int32.ofInt (2)))) (n := Ls) (by omega) (by omega))⟩ ?_
  show XB l Ls xs 14 538 false 288 N U F 1052 [xf 50 1, xf 12 2, xf 13 104, xf 40001 152, xi i, x5, x6] [xi (xs ((i + (Int32.ofInt (2)))).toNatClampNeg), xi (xs ((i + (Int32.ofInt (1)))).toNatClampNeg), xf 13 104] h1
  obtain ⟨v2, h2, cc2, g2, f2, -⟩ := vl_266 l ((xs ((i + (Int32.ofInt (1)))).toNatClampNeg)) ((xs ((i + (Int32.ofInt (2)))).toNatClampNeg)) h1 g1 (i32r_of _) (i32r_of _)
  refine XB_call (i := .invokevirtual 266) (aux := 3) (nx := 1055) (K := 266) (vs := [xf 13 104, xi (xs ((i + (Int32.ofInt (1)))).toNatClampNeg), xi (xs ((i + (Int32.ofInt (2)))).toNatClampNeg)]) (rs := [xi v2]) (rest := []) rfl rfl rfl rfl rfl rfl cc2 (by decide) (by decide) (Nat.le_of_ble_eq_true rfl) ⟨Nat.le_trans (Nat.le_of_eq g2.2.2.2.1) hN, Nat.le_trans (Nat.le_of_eq g2.2.2.2.2) hU⟩ ?_
  show XB l Ls xs 14 538 false 288 N U F 1055 [xf 50 1, xf 12 2, xf 13 104, xf 40001 152, xi i, x5, x6] [xi v2] h2
  have R2 := R1.fr g1.1 f2 (by decide +kernel) (by decide +kernel) rfl rfl rfl rfl
  refine XB_path (sc := some (Ls, xs)) (inl := []) (n := 80) (sp := [23]) (o := []) (xin_ok rfl) (Or.inr rfl) rfl rfl (Nat.le_trans (Nat.le_of_eq g2.2.2.2.1) hN) (Nat.le_trans (Nat.le_of_eq g2.2.2.2.2) hU) trivial ?_
  show XB l Ls xs 14 538 false 288 N U F 23 [xf 50 1, xf 12 2, xf 13 104, xf 40001 152, xi (i + Int32.ofInt (6)), x5, x6] [] h2
  exact k h2 (x5) (x6) ⟨g2, R2⟩
set_option maxRecDepth 100000 in
set_option maxHeartbeats 4000000 in
theorem lw_c24 (l : Launch) (Ls : Nat) (xs : Nat → Int32) (N U : Nat) (F : List XV → XH → Prop) (i : Int32) (x5 x6 : XV) (h : XH) (H : vLw h) (i0 : 0 ≤ i.toInt) (i1 : i.toInt + 6 ≤ Ls) (hL : Ls ≤ 3072) (eL : (Int32.ofNat Ls - (Int32.ofInt (6))).toInt = Ls - 6) (hN : 153 ≤ N) (hU : 6051 ≤ U) (hc : (xs (i).toNatClampNeg &&& (Int32.ofInt (63))).toInt = 24) (k : ∀ h' x5' x6', vLw h' → XB l Ls xs 14 538 false 288 N U F 23 [xf 50 1, xf 12 2, xf 13 104, xf 40001 152, xi (i + (Int32.ofInt (6))), x5', x6'] [] h') : XB l Ls xs 14 538 false 288 N U F 23 [xf 50 1, xf 12 2, xf 13 104, xf 40001 152, xi i, x5, x6] [] h := by
  have e1 : (i + (Int32.ofInt (1))).toInt = i.toInt + 1 := by rw [Int32.toInt_add, show (Int32.ofInt (1)).toInt = 1 from rfl]; exact Int.bmod_eq_of_le (by omega) (by omega)
  have e2 : (i + (Int32.ofInt (2))).toInt = i.toInt + 2 := by rw [Int32.toInt_add, show (Int32.ofInt (2)).toInt = 2 from rfl]; exact Int.bmod_eq_of_le (by omega) (by omega)
  have e3 : (i + (Int32.ofInt (3))).toInt = i.toInt + 3 := by rw [Int32.toInt_add, show (Int32.ofInt (3)).toInt = 3 from rfl]; exact Int.bmod_eq_of_le (by omega) (by omega)
  have e4 : (i + (Int32.ofInt (4))).toInt = i.toInt + 4 := by rw [Int32.toInt_add, show (Int32.ofInt (4)).toInt = 4 from rfl]; exact Int.bmod_eq_of_le (by omega) (by omega)
  have e5 : (i + (Int32.ofInt (5))).toInt = i.toInt + 5 := by rw [Int32.toInt_add, show (Int32.ofInt (5)).toInt = 5 from rfl]; exact Int.bmod_eq_of_le (by omega) (by omega)
  have hg := H.1
  have R0 := H.2
  refine XB_path (sc := some (Ls, xs)) (inl := []) (n := 80) (sp := [1072]) (o := [0, 25]) (xin_ok rfl) (Or.inr rfl) rfl rfl (Nat.le_trans (Nat.le_of_eq hg.2.2.2.1) hN) (Nat.le_trans (Nat.le_of_eq hg.2.2.2.2) hU) ⟨⟨⟨⟨⟨trivial, (fun z => absurd (Int32.lt_iff_toInt_lt.mp z) (by omega))⟩, (vp_of (i := i) (n := Ls) (by omega) (by omega))⟩, ⟨hc, by decide⟩⟩, (vp_of (i := (i + (Int32.ofInt (1)))) (n := Ls) (by omega) (by omega))⟩, (vp_of (i := (i + (Int32.ofInt (2)))) (n := Ls) (by omega) (by omega))⟩ ?_
  show XB l Ls xs 14 538 false 288 N U F 1072 [xf 50 1, xf 12 2, xf 13 104, xf 40001 152, xi i, x5, x6] [xi (xs ((i + (Int32.ofInt (2)))).toNatClampNeg), xi (xs ((i + (Int32.ofInt (1)))).toNatClampNeg), xf 12 2] h
  obtain ⟨v1, h1, cc1, g1, f1, -⟩ := vl_140 l ((xs ((i + (Int32.ofInt (1)))).toNatClampNeg)) ((xs ((i + (Int32.ofInt (2)))).toNatClampNeg)) h hg (i32r_of _) (i32r_of _)
  refine XB_call (i := .invokevirtual 140) (aux := 3) (nx := 1075) (K := 140) (vs := [xf 12 2, xi (xs ((i + (Int32.ofInt (1)))).toNatClampNeg), xi (xs ((i + (Int32.ofInt (2)))).toNatClampNeg)]) (rs := [xi v1]) (rest := []) rfl rfl rfl rfl rfl rfl cc1 (by decide) (by decide) (Nat.le_of_ble_eq_true rfl) ⟨Nat.le_trans (Nat.le_of_eq g1.2.2.2.1) hN, Nat.le_trans (Nat.le_of_eq g1.2.2.2.2) hU⟩ ?_
  show XB l Ls xs 14 538 false 288 N U F 1075 [xf 50 1, xf 12 2, xf 13 104, xf 40001 152, xi i, x5, x6] [xi v1] h1
  have R1 := R0.fr hg.1 f1 (by decide +kernel) (by decide +kernel) rfl rfl rfl rfl
  refine XB_path (sc := some (Ls, xs)) (inl := []) (n := 80) (sp := [1089]) (o := []) (xin_ok rfl) (Or.inr rfl) rfl rfl (Nat.le_trans (Nat.le_of_eq g1.2.2.2.1) hN) (Nat.le_trans (Nat.le_of_eq g1.2.2.2.2) hU) ⟨⟨trivial, (vp_of (i := (i + (Int32.ofInt (1)))) (n := Ls) (by omega) (by omega))⟩, (vp_of (i := (i + (Int32.ofInt (2)))) (n := Ls) (by omega) (by omega))⟩ ?_
  show XB l Ls xs 14 538 false 288 N U F 1089 [xf 50 1, xf 12 2, xf 13 104, xf 40001 152, xi i, x5, x6] [xi (xs ((i + (Int32.ofInt (2)))).toNatClampNeg), xi (xs ((i + (Int32.ofInt (1)))).toNatClampNeg), xf 13 104] h1
  obtain ⟨v2, h2, cc2, g2, f2, -⟩ := vl_267 l ((xs ((i + (Int32.ofInt (1)))).toNatClampNeg)) ((xs ((i + (Int32.ofInt (2)))).toNatClampNeg)) h1 g1 (i32r_of _) (i32r_of _)
  refine XB_call (i := .invokevirtual 267) (aux := 3) (nx := 1092) (K := 267) (vs := [xf 13 104, xi (xs ((i + (Int32.ofInt (1)))).toNatClampNeg), xi (xs ((i + (Int32.ofInt (2)))).toNatClampNeg)]) (rs := [xi v2]) (rest := []) rfl rfl rfl rfl rfl rfl cc2 (by decide) (by decide) (Nat.le_of_ble_eq_true rfl) ⟨Nat.le_trans (Nat.le_of_eq g2.2.2.2.1) hN, Nat.le_trans (Nat.le_of_eq g2.2.2.2.2) hU⟩ ?_
  show XB l Ls xs 14 538 false 288 N U F 1092 [xf 50 1, xf 12 2, xf 13 104, xf 40001 152, xi i, x5, x6] [xi v2] h2
  have R2 := R1.fr g1.1 f2 (by decide +kernel) (by decide +kernel) rfl rfl rfl rfl
  refine XB_path (sc := some (Ls, xs)) (inl := []) (n := 80) (sp := [23]) (o := []) (xin_ok rfl) (Or.inr rfl) rfl rfl (Nat.le_trans (Nat.le_of_eq g2.2.2.2.1) hN) (Nat.le_trans (Nat.le_of_eq g2.2.2.2.2) hU) trivial ?_
  show XB l Ls xs 14 538 false 288 N U F 23 [xf 50 1, xf 12 2, xf 13 104, xf 40001 152, xi (i + Int32.ofInt (6)), x5, x6] [] h2
  exact k h2 (x5) (x6) ⟨g2, R2⟩
set_option maxRecDepth 100000 in
set_option maxHeartbeats 4000000 in
theorem lw_c25 (l : Launch) (Ls : Nat) (xs : Nat → Int32) (N U : Nat) (F : List XV → XH → Prop) (i : Int32) (x5 x6 : XV) (h : XH) (H : vLw h) (i0 : 0 ≤ i.toInt) (i1 : i.toInt + 6 ≤ Ls) (hL : Ls ≤ 3072) (eL : (Int32.ofNat Ls - (Int32.ofInt (6))).toInt = Ls - 6) (hN : 153 ≤ N) (hU : 6051 ≤ U) (hc : (xs (i).toNatClampNeg &&& (Int32.ofInt (63))).toInt = 25) (k : ∀ h' x5' x6', vLw h' → XB l Ls xs 14 538 false 288 N U F 23 [xf 50 1, xf 12 2, xf 13 104, xf 40001 152, xi (i + (Int32.ofInt (6))), x5', x6'] [] h') : XB l Ls xs 14 538 false 288 N U F 23 [xf 50 1, xf 12 2, xf 13 104, xf 40001 152, xi i, x5, x6] [] h := by
  have e1 : (i + (Int32.ofInt (1))).toInt = i.toInt + 1 := by rw [Int32.toInt_add, show (Int32.ofInt (1)).toInt = 1 from rfl]; exact Int.bmod_eq_of_le (by omega) (by omega)
  have e2 : (i + (Int32.ofInt (2))).toInt = i.toInt + 2 := by rw [Int32.toInt_add, show (Int32.ofInt (2)).toInt = 2 from rfl]; exact Int.bmod_eq_of_le (by omega) (by omega)
  have e3 : (i + (Int32.ofInt (3))).toInt = i.toInt + 3 := by rw [Int32.toInt_add, show (Int32.ofInt (3)).toInt = 3 from rfl]; exact Int.bmod_eq_of_le (by omega) (by omega)
  have e4 : (i + (Int32.ofInt (4))).toInt = i.toInt + 4 := by rw [Int32.toInt_add, show (Int32.ofInt (4)).toInt = 4 from rfl]; exact Int.bmod_eq_of_le (by omega) (by omega)
  have e5 : (i + (Int32.ofInt (5))).toInt = i.toInt + 5 := by rw [Int32.toInt_add, show (Int32.ofInt (5)).toInt = 5 from rfl]; exact Int.bmod_eq_of_le (by omega) (by omega)
  have hg := H.1
  have R0 := H.2
  refine XB_path (sc := some (Ls, xs)) (inl := []) (n := 80) (sp := [1115]) (o := [0, 26]) (xin_ok rfl) (Or.inr rfl) rfl rfl (Nat.le_trans (Nat.le_of_eq hg.2.2.2.1) hN) (Nat.le_trans (Nat.le_of_eq hg.2.2.2.2) hU) ⟨⟨⟨⟨⟨⟨trivial, (fun z => absurd (Int32.lt_iff_toInt_lt.mp z) (by omega))⟩, (vp_of (i := i) (n := Ls) (by omega) (by omega))⟩, ⟨hc, by decide⟩⟩, (vp_of (i := (i + (Int32.ofInt (1)))) (n := Ls) (by omega) (by omega))⟩, (vp_of (i := (i + (Int32.ofInt (2)))) (n := Ls) (by omega) (by omega))⟩, (vp_of (i := (i + (Int32.ofInt (3)))) (n := Ls) (by omega) (by omega))⟩ ?_
  show XB l Ls xs 14 538 false 288 N U F 1115 [xf 50 1, xf 12 2, xf 13 104, xf 40001 152, xi i, x5, x6] [xi (xs ((i + (Int32.ofInt (3)))).toNatClampNeg), xi (xs ((i + (Int32.ofInt (2)))).toNatClampNeg), xi (xs ((i + (Int32.ofInt (1)))).toNatClampNeg), xf 12 2] h
  obtain ⟨v1, h1, cc1, g1, f1, -⟩ := vl_144 l ((xs ((i + (Int32.ofInt (1)))).toNatClampNeg)) ((xs ((i + (Int32.ofInt (2)))).toNatClampNeg)) ((xs ((i + (Int32.ofInt (3)))).toNatClampNeg)) h hg (i32r_of _) (i32r_of _) (i32r_of _)
  refine XB_call (i := .invokevirtual 144) (aux := 4) (nx := 1118) (K := 144) (vs := [xf 12 2, xi (xs ((i + (Int32.ofInt (1)))).toNatClampNeg), xi (xs ((i + (Int32.ofInt (2)))).toNatClampNeg), xi (xs ((i + (Int32.ofInt (3)))).toNatClampNeg)]) (rs := [xi v1]) (rest := []) rfl rfl rfl rfl rfl rfl cc1 (by decide) (by decide) (Nat.le_of_ble_eq_true rfl) ⟨Nat.le_trans (Nat.le_of_eq g1.2.2.2.1) hN, Nat.le_trans (Nat.le_of_eq g1.2.2.2.2) hU⟩ ?_
  show XB l Ls xs 14 538 false 288 N U F 1118 [xf 50 1, xf 12 2, xf 13 104, xf 40001 152, xi i, x5, x6] [xi v1] h1
  have R1 := R0.fr hg.1 f1 (by decide +kernel) (by decide +kernel) rfl rfl rfl rfl
  refine XB_path (sc := some (Ls, xs)) (inl := []) (n := 80) (sp := [1138]) (o := []) (xin_ok rfl) (Or.inr rfl) rfl rfl (Nat.le_trans (Nat.le_of_eq g1.2.2.2.1) hN) (Nat.le_trans (Nat.le_of_eq g1.2.2.2.2) hU) ⟨⟨⟨trivial, (vp_of (i := (i + (Int32.ofInt (1)))) (n := Ls) (by omega) (by omega))⟩, (vp_of (i := (i + (Int32.ofInt (2)))) (n := Ls) (by omega) (by omega))⟩, (vp_of (i := (i + (Int32.ofInt (3)))) (n := Ls) (by omega) (by omega))⟩ ?_
  show XB l Ls xs 14 538 false 288 N U F 1138 [xf 50 1, xf 12 2, xf 13 104, xf 40001 152, xi i, x5, x6] [xi (xs ((i + (Int32.ofInt (3)))).toNatClampNeg), xi (xs ((i + (Int32.ofInt (2)))).toNatClampNeg), xi (xs ((i + (Int32.ofInt (1)))).toNatClampNeg), xf 13 104] h1
  obtain ⟨v2, h2, cc2, g2, f2, -⟩ := vl_270 l ((xs ((i + (Int32.ofInt (1)))).toNatClampNeg)) ((xs ((i + (Int32.ofInt (2)))).toNatClampNeg)) ((xs ((i + (Int32.ofInt (3)))).toNatClampNeg)) h1 g1 (i32r_of _) (i32r_of _) (i32r_of _)
  refine XB_call (i := .invokevirtual 270) (aux := 4) (nx := 1141) (K := 270) (vs := [xf 13 104, xi (xs ((i + (Int32.ofInt (1)))).toNatClampNeg), xi (xs ((i + (Int32.ofInt (2)))).toNatClampNeg), xi (xs ((i + (Int32.ofInt (3)))).toNatClampNeg)]) (rs := [xi v2]) (rest := []) rfl rfl rfl rfl rfl rfl cc2 (by decide) (by decide) (Nat.le_of_ble_eq_true rfl) ⟨Nat.le_trans (Nat.le_of_eq g2.2.2.2.1) hN, Nat.le_trans (Nat.le_of_eq g2.2.2.2.2) hU⟩ ?_
  show XB l Ls xs 14 538 false 288 N U F 1141 [xf 50 1, xf 12 2, xf 13 104, xf 40001 152, xi i, x5, x6] [xi v2] h2
  have R2 := R1.fr g1.1 f2 (by decide +kernel) (by decide +kernel) rfl rfl rfl rfl
  refine XB_path (sc := some (Ls, xs)) (inl := []) (n := 80) (sp := [23]) (o := []) (xin_ok rfl) (Or.inr rfl) rfl rfl (Nat.le_trans (Nat.le_of_eq g2.2.2.2.1) hN) (Nat.le_trans (Nat.le_of_eq g2.2.2.2.2) hU) trivial ?_
  show XB l Ls xs 14 538 false 288 N U F 23 [xf 50 1, xf 12 2, xf 13 104, xf 40001 152, xi (i + Int32.ofInt (6)), x5, x6] [] h2
  exact k h2 (x5) (x6) ⟨g2, R2⟩
set_option maxRecDepth 100000 in
set_option maxHeartbeats 4000000 in
theorem lw_c26 (l : Launch) (Ls : Nat) (xs : Nat → Int32) (N U : Nat) (F : List XV → XH → Prop) (i : Int32) (x5 x6 : XV) (h : XH) (H : vLw h) (i0 : 0 ≤ i.toInt) (i1 : i.toInt + 6 ≤ Ls) (hL : Ls ≤ 3072) (eL : (Int32.ofNat Ls - (Int32.ofInt (6))).toInt = Ls - 6) (hN : 153 ≤ N) (hU : 6051 ≤ U) (hc : (xs (i).toNatClampNeg &&& (Int32.ofInt (63))).toInt = 26) (k : ∀ h' x5' x6', vLw h' → XB l Ls xs 14 538 false 288 N U F 23 [xf 50 1, xf 12 2, xf 13 104, xf 40001 152, xi (i + (Int32.ofInt (6))), x5', x6'] [] h') : XB l Ls xs 14 538 false 288 N U F 23 [xf 50 1, xf 12 2, xf 13 104, xf 40001 152, xi i, x5, x6] [] h := by
  have e1 : (i + (Int32.ofInt (1))).toInt = i.toInt + 1 := by rw [Int32.toInt_add, show (Int32.ofInt (1)).toInt = 1 from rfl]; exact Int.bmod_eq_of_le (by omega) (by omega)
  have e2 : (i + (Int32.ofInt (2))).toInt = i.toInt + 2 := by rw [Int32.toInt_add, show (Int32.ofInt (2)).toInt = 2 from rfl]; exact Int.bmod_eq_of_le (by omega) (by omega)
  have e3 : (i + (Int32.ofInt (3))).toInt = i.toInt + 3 := by rw [Int32.toInt_add, show (Int32.ofInt (3)).toInt = 3 from rfl]; exact Int.bmod_eq_of_le (by omega) (by omega)
  have e4 : (i + (Int32.ofInt (4))).toInt = i.toInt + 4 := by rw [Int32.toInt_add, show (Int32.ofInt (4)).toInt = 4 from rfl]; exact Int.bmod_eq_of_le (by omega) (by omega)
  have e5 : (i + (Int32.ofInt (5))).toInt = i.toInt + 5 := by rw [Int32.toInt_add, show (Int32.ofInt (5)).toInt = 5 from rfl]; exact Int.bmod_eq_of_le (by omega) (by omega)
  have hg := H.1
  have R0 := H.2
  by_cases c1 : (xs ((i + (Int32.ofInt (4)))).toNatClampNeg) = 0
  · refine XB_path (sc := some (Ls, xs)) (inl := []) (n := 80) (sp := [1178]) (o := [0, 27, 1]) (xin_ok rfl) (Or.inr rfl) rfl rfl (Nat.le_trans (Nat.le_of_eq hg.2.2.2.1) hN) (Nat.le_trans (Nat.le_of_eq hg.2.2.2.2) hU) ⟨⟨⟨⟨⟨⟨⟨⟨trivial, (fun z => absurd (Int32.lt_iff_toInt_lt.mp z) (by omega))⟩, (vp_of (i := i) (n := Ls) (by omega) (by omega))⟩, ⟨hc, by decide⟩⟩, (vp_of (i := (i + (Int32.ofInt (1)))) (n := Ls) (by omega) (by omega))⟩, (vp_of (i := (i + (Int32.ofInt (2)))) (n := Ls) (by omega) (by omega))⟩, (vp_of (i := (i + (Int32.ofInt (3)))) (n := Ls) (by omega) (by omega))⟩, (vp_of (i := (i + (Int32.ofInt (4)))) (n := Ls) (by omega) (by omega))⟩, c1⟩ ?_
    show XB l Ls xs 14 538 false 288 N U F 1178 [xf 50 1, xf 12 2, xf 13 104, xf 40001 152, xi i, x5, x6] [xi (Int32.ofInt (0)), xi (xs ((i + (Int32.ofInt (3)))).toNatClampNeg), xi (xs ((i + (Int32.ofInt (2)))).toNatClampNeg), xi (xs ((i + (Int32.ofInt (1)))).toNatClampNeg), xf 12 2] h
    obtain ⟨v1, h1, cc1, g1, f1, -⟩ := vl_145 l ((xs ((i + (Int32.ofInt (1)))).toNatClampNeg)) ((xs ((i + (Int32.ofInt (2)))).toNatClampNeg)) ((xs ((i + (Int32.ofInt (3)))).toNatClampNeg)) ((Int32.ofInt (0))) h hg (i32r_of _) (i32r_of _) (i32r_of _) ⟨by decide, by decide⟩
    refine XB_call (i := .invokevirtual 145) (aux := 5) (nx := 1181) (K := 145) (vs := [xf 12 2, xi (xs ((i + (Int32.ofInt (1)))).toNatClampNeg), xi (xs ((i + (Int32.ofInt (2)))).toNatClampNeg), xi (xs ((i + (Int32.ofInt (3)))).toNatClampNeg), xi (Int32.ofInt (0))]) (rs := [xi v1]) (rest := []) rfl rfl rfl rfl rfl rfl cc1 (by decide) (by decide) (Nat.le_of_ble_eq_true rfl) ⟨Nat.le_trans (Nat.le_of_eq g1.2.2.2.1) hN, Nat.le_trans (Nat.le_of_eq g1.2.2.2.2) hU⟩ ?_
    show XB l Ls xs 14 538 false 288 N U F 1181 [xf 50 1, xf 12 2, xf 13 104, xf 40001 152, xi i, x5, x6] [xi v1] h1
    have R1 := R0.fr hg.1 f1 (by decide +kernel) (by decide +kernel) rfl rfl rfl rfl
    refine XB_path (sc := some (Ls, xs)) (inl := []) (n := 80) (sp := [1215]) (o := [1]) (xin_ok rfl) (Or.inr rfl) rfl rfl (Nat.le_trans (Nat.le_of_eq g1.2.2.2.1) hN) (Nat.le_trans (Nat.le_of_eq g1.2.2.2.2) hU) ⟨⟨⟨⟨⟨trivial, (vp_of (i := (i + (Int32.ofInt (1)))) (n := Ls) (by omega) (by omega))⟩, (vp_of (i := (i + (Int32.ofInt (2)))) (n := Ls) (by omega) (by omega))⟩, (vp_of (i := (i + (Int32.ofInt (3)))) (n := Ls) (by omega) (by omega))⟩, (vp_of (i := (i + (Int32.ofInt (4)))) (n := Ls) (by omega) (by omega))⟩, c1⟩ ?_
    show XB l Ls xs 14 538 false 288 N U F 1215 [xf 50 1, xf 12 2, xf 13 104, xf 40001 152, xi i, x5, x6] [xi (Int32.ofInt (0)), xi (xs ((i + (Int32.ofInt (3)))).toNatClampNeg), xi (xs ((i + (Int32.ofInt (2)))).toNatClampNeg), xi (xs ((i + (Int32.ofInt (1)))).toNatClampNeg), xf 13 104] h1
    obtain ⟨v2, h2, cc2, g2, f2, -⟩ := vl_271 l ((xs ((i + (Int32.ofInt (1)))).toNatClampNeg)) ((xs ((i + (Int32.ofInt (2)))).toNatClampNeg)) ((xs ((i + (Int32.ofInt (3)))).toNatClampNeg)) ((Int32.ofInt (0))) h1 g1 (i32r_of _) (i32r_of _) (i32r_of _) ⟨by decide, by decide⟩
    refine XB_call (i := .invokevirtual 271) (aux := 5) (nx := 1218) (K := 271) (vs := [xf 13 104, xi (xs ((i + (Int32.ofInt (1)))).toNatClampNeg), xi (xs ((i + (Int32.ofInt (2)))).toNatClampNeg), xi (xs ((i + (Int32.ofInt (3)))).toNatClampNeg), xi (Int32.ofInt (0))]) (rs := [xi v2]) (rest := []) rfl rfl rfl rfl rfl rfl cc2 (by decide) (by decide) (Nat.le_of_ble_eq_true rfl) ⟨Nat.le_trans (Nat.le_of_eq g2.2.2.2.1) hN, Nat.le_trans (Nat.le_of_eq g2.2.2.2.2) hU⟩ ?_
    show XB l Ls xs 14 538 false 288 N U F 1218 [xf 50 1, xf 12 2, xf 13 104, xf 40001 152, xi i, x5, x6] [xi v2] h2
    have R2 := R1.fr g1.1 f2 (by decide +kernel) (by decide +kernel) rfl rfl rfl rfl
    refine XB_path (sc := some (Ls, xs)) (inl := []) (n := 80) (sp := [23]) (o := []) (xin_ok rfl) (Or.inr rfl) rfl rfl (Nat.le_trans (Nat.le_of_eq g2.2.2.2.1) hN) (Nat.le_trans (Nat.le_of_eq g2.2.2.2.2) hU) trivial ?_
    show XB l Ls xs 14 538 false 288 N U F 23 [xf 50 1, xf 12 2, xf 13 104, xf 40001 152, xi (i + Int32.ofInt (6)), x5, x6] [] h2
    exact k h2 (x5) (x6) ⟨g2, R2⟩
  · refine XB_path (sc := some (Ls, xs)) (inl := []) (n := 80) (sp := [1178]) (o := [0, 27, 0]) (xin_ok rfl) (Or.inr rfl) rfl rfl (Nat.le_trans (Nat.le_of_eq hg.2.2.2.1) hN) (Nat.le_trans (Nat.le_of_eq hg.2.2.2.2) hU) ⟨⟨⟨⟨⟨⟨⟨⟨trivial, (fun z => absurd (Int32.lt_iff_toInt_lt.mp z) (by omega))⟩, (vp_of (i := i) (n := Ls) (by omega) (by omega))⟩, ⟨hc, by decide⟩⟩, (vp_of (i := (i + (Int32.ofInt (1)))) (n := Ls) (by omega) (by omega))⟩, (vp_of (i := (i + (Int32.ofInt (2)))) (n := Ls) (by omega) (by omega))⟩, (vp_of (i := (i + (Int32.ofInt (3)))) (n := Ls) (by omega) (by omega))⟩, (vp_of (i := (i + (Int32.ofInt (4)))) (n := Ls) (by omega) (by omega))⟩, c1⟩ ?_
    show XB l Ls xs 14 538 false 288 N U F 1178 [xf 50 1, xf 12 2, xf 13 104, xf 40001 152, xi i, x5, x6] [xi (Int32.ofInt (1)), xi (xs ((i + (Int32.ofInt (3)))).toNatClampNeg), xi (xs ((i + (Int32.ofInt (2)))).toNatClampNeg), xi (xs ((i + (Int32.ofInt (1)))).toNatClampNeg), xf 12 2] h
    obtain ⟨v3, h3, cc3, g3, f3, -⟩ := vl_145 l ((xs ((i + (Int32.ofInt (1)))).toNatClampNeg)) ((xs ((i + (Int32.ofInt (2)))).toNatClampNeg)) ((xs ((i + (Int32.ofInt (3)))).toNatClampNeg)) ((Int32.ofInt (1))) h hg (i32r_of _) (i32r_of _) (i32r_of _) ⟨by decide, by decide⟩
    refine XB_call (i := .invokevirtual 145) (aux := 5) (nx := 1181) (K := 145) (vs := [xf 12 2, xi (xs ((i + (Int32.ofInt (1)))).toNatClampNeg), xi (xs ((i + (Int32.ofInt (2)))).toNatClampNeg), xi (xs ((i + (Int32.ofInt (3)))).toNatClampNeg), xi (Int32.ofInt (1))]) (rs := [xi v3]) (rest := []) rfl rfl rfl rfl rfl rfl cc3 (by decide) (by decide) (Nat.le_of_ble_eq_true rfl) ⟨Nat.le_trans (Nat.le_of_eq g3.2.2.2.1) hN, Nat.le_trans (Nat.le_of_eq g3.2.2.2.2) hU⟩ ?_
    show XB l Ls xs 14 538 false 288 N U F 1181 [xf 50 1, xf 12 2, xf 13 104, xf 40001 152, xi i, x5, x6] [xi v3] h3
    have R3 := R0.fr hg.1 f3 (by decide +kernel) (by decide +kernel) rfl rfl rfl rfl
    refine XB_path (sc := some (Ls, xs)) (inl := []) (n := 80) (sp := [1215]) (o := [0]) (xin_ok rfl) (Or.inr rfl) rfl rfl (Nat.le_trans (Nat.le_of_eq g3.2.2.2.1) hN) (Nat.le_trans (Nat.le_of_eq g3.2.2.2.2) hU) ⟨⟨⟨⟨⟨trivial, (vp_of (i := (i + (Int32.ofInt (1)))) (n := Ls) (by omega) (by omega))⟩, (vp_of (i := (i + (Int32.ofInt (2)))) (n := Ls) (by omega) (by omega))⟩, (vp_of (i := (i + (Int32.ofInt (3)))) (n := Ls) (by omega) (by omega))⟩, (vp_of (i := (i + (Int32.ofInt (4)))) (n := Ls) (by omega) (by omega))⟩, c1⟩ ?_
    show XB l Ls xs 14 538 false 288 N U F 1215 [xf 50 1, xf 12 2, xf 13 104, xf 40001 152, xi i, x5, x6] [xi (Int32.ofInt (1)), xi (xs ((i + (Int32.ofInt (3)))).toNatClampNeg), xi (xs ((i + (Int32.ofInt (2)))).toNatClampNeg), xi (xs ((i + (Int32.ofInt (1)))).toNatClampNeg), xf 13 104] h3
    obtain ⟨v4, h4, cc4, g4, f4, -⟩ := vl_271 l ((xs ((i + (Int32.ofInt (1)))).toNatClampNeg)) ((xs ((i + (Int32.ofInt (2)))).toNatClampNeg)) ((xs ((i + (Int32.ofInt (3)))).toNatClampNeg)) ((Int32.ofInt (1))) h3 g3 (i32r_of _) (i32r_of _) (i32r_of _) ⟨by decide, by decide⟩
    refine XB_call (i := .invokevirtual 271) (aux := 5) (nx := 1218) (K := 271) (vs := [xf 13 104, xi (xs ((i + (Int32.ofInt (1)))).toNatClampNeg), xi (xs ((i + (Int32.ofInt (2)))).toNatClampNeg), xi (xs ((i + (Int32.ofInt (3)))).toNatClampNeg), xi (Int32.ofInt (1))]) (rs := [xi v4]) (rest := []) rfl rfl rfl rfl rfl rfl cc4 (by decide) (by decide) (Nat.le_of_ble_eq_true rfl) ⟨Nat.le_trans (Nat.le_of_eq g4.2.2.2.1) hN, Nat.le_trans (Nat.le_of_eq g4.2.2.2.2) hU⟩ ?_
    show XB l Ls xs 14 538 false 288 N U F 1218 [xf 50 1, xf 12 2, xf 13 104, xf 40001 152, xi i, x5, x6] [xi v4] h4
    have R4 := R3.fr g3.1 f4 (by decide +kernel) (by decide +kernel) rfl rfl rfl rfl
    refine XB_path (sc := some (Ls, xs)) (inl := []) (n := 80) (sp := [23]) (o := []) (xin_ok rfl) (Or.inr rfl) rfl rfl (Nat.le_trans (Nat.le_of_eq g4.2.2.2.1) hN) (Nat.le_trans (Nat.le_of_eq g4.2.2.2.2) hU) trivial ?_
    show XB l Ls xs 14 538 false 288 N U F 23 [xf 50 1, xf 12 2, xf 13 104, xf 40001 152, xi (i + Int32.ofInt (6)), x5, x6] [] h4
    exact k h4 (x5) (x6) ⟨g4, R4⟩
set_option maxRecDepth 100000 in
set_option maxHeartbeats 4000000 in
theorem lw_c27 (l : Launch) (Ls : Nat) (xs : Nat → Int32) (N U : Nat) (F : List XV → XH → Prop) (i : Int32) (x5 x6 : XV) (h : XH) (H : vLw h) (i0 : 0 ≤ i.toInt) (i1 : i.toInt + 6 ≤ Ls) (hL : Ls ≤ 3072) (eL : (Int32.ofNat Ls - (Int32.ofInt (6))).toInt = Ls - 6) (hN : 153 ≤ N) (hU : 6051 ≤ U) (hc : (xs (i).toNatClampNeg &&& (Int32.ofInt (63))).toInt = 27) (k : ∀ h' x5' x6', vLw h' → XB l Ls xs 14 538 false 288 N U F 23 [xf 50 1, xf 12 2, xf 13 104, xf 40001 152, xi (i + (Int32.ofInt (6))), x5', x6'] [] h') : XB l Ls xs 14 538 false 288 N U F 23 [xf 50 1, xf 12 2, xf 13 104, xf 40001 152, xi i, x5, x6] [] h := by
  have e1 : (i + (Int32.ofInt (1))).toInt = i.toInt + 1 := by rw [Int32.toInt_add, show (Int32.ofInt (1)).toInt = 1 from rfl]; exact Int.bmod_eq_of_le (by omega) (by omega)
  have e2 : (i + (Int32.ofInt (2))).toInt = i.toInt + 2 := by rw [Int32.toInt_add, show (Int32.ofInt (2)).toInt = 2 from rfl]; exact Int.bmod_eq_of_le (by omega) (by omega)
  have e3 : (i + (Int32.ofInt (3))).toInt = i.toInt + 3 := by rw [Int32.toInt_add, show (Int32.ofInt (3)).toInt = 3 from rfl]; exact Int.bmod_eq_of_le (by omega) (by omega)
  have e4 : (i + (Int32.ofInt (4))).toInt = i.toInt + 4 := by rw [Int32.toInt_add, show (Int32.ofInt (4)).toInt = 4 from rfl]; exact Int.bmod_eq_of_le (by omega) (by omega)
  have e5 : (i + (Int32.ofInt (5))).toInt = i.toInt + 5 := by rw [Int32.toInt_add, show (Int32.ofInt (5)).toInt = 5 from rfl]; exact Int.bmod_eq_of_le (by omega) (by omega)
  have hg := H.1
  have R0 := H.2
  refine XB_path (sc := some (Ls, xs)) (inl := []) (n := 80) (sp := [1229]) (o := [0, 28]) (xin_ok rfl) (Or.inr rfl) rfl rfl (Nat.le_trans (Nat.le_of_eq hg.2.2.2.1) hN) (Nat.le_trans (Nat.le_of_eq hg.2.2.2.2) hU) ⟨⟨⟨⟨trivial, (fun z => absurd (Int32.lt_iff_toInt_lt.mp z) (by omega))⟩, (vp_of (i := i) (n := Ls) (by omega) (by omega))⟩, ⟨hc, by decide⟩⟩, (vp_of (i := (i + (Int32.ofInt (1)))) (n := Ls) (by omega) (by omega))⟩ ?_
  show XB l Ls xs 14 538 false 288 N U F 1229 [xf 50 1, xf 12 2, xf 13 104, xf 40001 152, xi i, x5, x6] [xi (xs ((i + (Int32.ofInt (1)))).toNatClampNeg), xf 12 2] h
  obtain ⟨v1, h1, cc1, g1, f1, -⟩ := vl_147 l ((xs ((i + (Int32.ofInt (1)))).toNatClampNeg)) h hg (i32r_of _)
  refine XB_call (i := .invokevirtual 147) (aux := 2) (nx := 1232) (K := 147) (vs := [xf 12 2, xi (xs ((i + (Int32.ofInt (1)))).toNatClampNeg)]) (rs := [xi v1]) (rest := []) rfl rfl rfl rfl rfl rfl cc1 (by decide) (by decide) (Nat.le_of_ble_eq_true rfl) ⟨Nat.le_trans (Nat.le_of_eq g1.2.2.2.1) hN, Nat.le_trans (Nat.le_of_eq g1.2.2.2.2) hU⟩ ?_
  show XB l Ls xs 14 538 false 288 N U F 1232 [xf 50 1, xf 12 2, xf 13 104, xf 40001 152, xi i, x5, x6] [xi v1] h1
  have R1 := R0.fr hg.1 f1 (by decide +kernel) (by decide +kernel) rfl rfl rfl rfl
  refine XB_path (sc := some (Ls, xs)) (inl := []) (n := 80) (sp := [1240]) (o := []) (xin_ok rfl) (Or.inr rfl) rfl rfl (Nat.le_trans (Nat.le_of_eq g1.2.2.2.1) hN) (Nat.le_trans (Nat.le_of_eq g1.2.2.2.2) hU) ⟨trivial, (vp_of (i := (i + (Int32.ofInt (1)))) (n := Ls) (by omega) (by omega))⟩ ?_
  show XB l Ls xs 14 538 false 288 N U F 1240 [xf 50 1, xf 12 2, xf 13 104, xf 40001 152, xi i, x5, x6] [xi (xs ((i + (Int32.ofInt (1)))).toNatClampNeg), xf 13 104] h1
  obtain ⟨v2, h2, cc2, g2, f2, -⟩ := vl_273 l ((xs ((i + (Int32.ofInt (1)))).toNatClampNeg)) h1 g1 (i32r_of _)
  refine XB_call (i := .invokevirtual 273) (aux := 2) (nx := 1243) (K := 273) (vs := [xf 13 104, xi (xs ((i + (Int32.ofInt (1)))).toNatClampNeg)]) (rs := [xi v2]) (rest := []) rfl rfl rfl rfl rfl rfl cc2 (by decide) (by decide) (Nat.le_of_ble_eq_true rfl) ⟨Nat.le_trans (Nat.le_of_eq g2.2.2.2.1) hN, Nat.le_trans (Nat.le_of_eq g2.2.2.2.2) hU⟩ ?_
  show XB l Ls xs 14 538 false 288 N U F 1243 [xf 50 1, xf 12 2, xf 13 104, xf 40001 152, xi i, x5, x6] [xi v2] h2
  have R2 := R1.fr g1.1 f2 (by decide +kernel) (by decide +kernel) rfl rfl rfl rfl
  refine XB_path (sc := some (Ls, xs)) (inl := []) (n := 80) (sp := [23]) (o := []) (xin_ok rfl) (Or.inr rfl) rfl rfl (Nat.le_trans (Nat.le_of_eq g2.2.2.2.1) hN) (Nat.le_trans (Nat.le_of_eq g2.2.2.2.2) hU) trivial ?_
  show XB l Ls xs 14 538 false 288 N U F 23 [xf 50 1, xf 12 2, xf 13 104, xf 40001 152, xi (i + Int32.ofInt (6)), x5, x6] [] h2
  exact k h2 (x5) (x6) ⟨g2, R2⟩
set_option maxRecDepth 100000 in
set_option maxHeartbeats 4000000 in
theorem lw_c28 (l : Launch) (Ls : Nat) (xs : Nat → Int32) (N U : Nat) (F : List XV → XH → Prop) (i : Int32) (x5 x6 : XV) (h : XH) (H : vLw h) (i0 : 0 ≤ i.toInt) (i1 : i.toInt + 6 ≤ Ls) (hL : Ls ≤ 3072) (eL : (Int32.ofNat Ls - (Int32.ofInt (6))).toInt = Ls - 6) (hN : 153 ≤ N) (hU : 6051 ≤ U) (hc : (xs (i).toNatClampNeg &&& (Int32.ofInt (63))).toInt = 28) (k : ∀ h' x5' x6', vLw h' → XB l Ls xs 14 538 false 288 N U F 23 [xf 50 1, xf 12 2, xf 13 104, xf 40001 152, xi (i + (Int32.ofInt (6))), x5', x6'] [] h') : XB l Ls xs 14 538 false 288 N U F 23 [xf 50 1, xf 12 2, xf 13 104, xf 40001 152, xi i, x5, x6] [] h := by
  have e1 : (i + (Int32.ofInt (1))).toInt = i.toInt + 1 := by rw [Int32.toInt_add, show (Int32.ofInt (1)).toInt = 1 from rfl]; exact Int.bmod_eq_of_le (by omega) (by omega)
  have e2 : (i + (Int32.ofInt (2))).toInt = i.toInt + 2 := by rw [Int32.toInt_add, show (Int32.ofInt (2)).toInt = 2 from rfl]; exact Int.bmod_eq_of_le (by omega) (by omega)
  have e3 : (i + (Int32.ofInt (3))).toInt = i.toInt + 3 := by rw [Int32.toInt_add, show (Int32.ofInt (3)).toInt = 3 from rfl]; exact Int.bmod_eq_of_le (by omega) (by omega)
  have e4 : (i + (Int32.ofInt (4))).toInt = i.toInt + 4 := by rw [Int32.toInt_add, show (Int32.ofInt (4)).toInt = 4 from rfl]; exact Int.bmod_eq_of_le (by omega) (by omega)
  have e5 : (i + (Int32.ofInt (5))).toInt = i.toInt + 5 := by rw [Int32.toInt_add, show (Int32.ofInt (5)).toInt = 5 from rfl]; exact Int.bmod_eq_of_le (by omega) (by omega)
  have hg := H.1
  have R0 := H.2
  refine XB_path (sc := some (Ls, xs)) (inl := []) (n := 80) (sp := [1254]) (o := [0, 29]) (xin_ok rfl) (Or.inr rfl) rfl rfl (Nat.le_trans (Nat.le_of_eq hg.2.2.2.1) hN) (Nat.le_trans (Nat.le_of_eq hg.2.2.2.2) hU) ⟨⟨⟨⟨trivial, (fun z => absurd (Int32.lt_iff_toInt_lt.mp z) (by omega))⟩, (vp_of (i := i) (n := Ls) (by omega) (by omega))⟩, ⟨hc, by decide⟩⟩, (vp_of (i := (i + (Int32.ofInt (1)))) (n := Ls) (by omega) (by omega))⟩ ?_
  show XB l Ls xs 14 538 false 288 N U F 1254 [xf 50 1, xf 12 2, xf 13 104, xf 40001 152, xi i, x5, x6] [xi (xs ((i + (Int32.ofInt (1)))).toNatClampNeg), xf 12 2] h
  obtain ⟨v1, h1, cc1, g1, f1, -⟩ := vl_148 l ((xs ((i + (Int32.ofInt (1)))).toNatClampNeg)) h hg (i32r_of _)
  refine XB_call (i := .invokevirtual 148) (aux := 2) (nx := 1257) (K := 148) (vs := [xf 12 2, xi (xs ((i + (Int32.ofInt (1)))).toNatClampNeg)]) (rs := [xi v1]) (rest := []) rfl rfl rfl rfl rfl rfl cc1 (by decide) (by decide) (Nat.le_of_ble_eq_true rfl) ⟨Nat.le_trans (Nat.le_of_eq g1.2.2.2.1) hN, Nat.le_trans (Nat.le_of_eq g1.2.2.2.2) hU⟩ ?_
  show XB l Ls xs 14 538 false 288 N U F 1257 [xf 50 1, xf 12 2, xf 13 104, xf 40001 152, xi i, x5, x6] [xi v1] h1
  have R1 := R0.fr hg.1 f1 (by decide +kernel) (by decide +kernel) rfl rfl rfl rfl
  refine XB_path (sc := some (Ls, xs)) (inl := []) (n := 80) (sp := [1265]) (o := []) (xin_ok rfl) (Or.inr rfl) rfl rfl (Nat.le_trans (Nat.le_of_eq g1.2.2.2.1) hN) (Nat.le_trans (Nat.le_of_eq g1.2.2.2.2) hU) ⟨trivial, (vp_of (i := (i + (Int32.ofInt (1)))) (n := Ls) (by omega) (by omega))⟩ ?_
  show XB l Ls xs 14 538 false 288 N U F 1265 [xf 50 1, xf 12 2, xf 13 104, xf 40001 152, xi i, x5, x6] [xi (xs ((i + (Int32.ofInt (1)))).toNatClampNeg), xf 13 104] h1
  obtain ⟨v2, h2, cc2, g2, f2, -⟩ := vl_274 l ((xs ((i + (Int32.ofInt (1)))).toNatClampNeg)) h1 g1 (i32r_of _)
  refine XB_call (i := .invokevirtual 274) (aux := 2) (nx := 1268) (K := 274) (vs := [xf 13 104, xi (xs ((i + (Int32.ofInt (1)))).toNatClampNeg)]) (rs := [xi v2]) (rest := []) rfl rfl rfl rfl rfl rfl cc2 (by decide) (by decide) (Nat.le_of_ble_eq_true rfl) ⟨Nat.le_trans (Nat.le_of_eq g2.2.2.2.1) hN, Nat.le_trans (Nat.le_of_eq g2.2.2.2.2) hU⟩ ?_
  show XB l Ls xs 14 538 false 288 N U F 1268 [xf 50 1, xf 12 2, xf 13 104, xf 40001 152, xi i, x5, x6] [xi v2] h2
  have R2 := R1.fr g1.1 f2 (by decide +kernel) (by decide +kernel) rfl rfl rfl rfl
  refine XB_path (sc := some (Ls, xs)) (inl := []) (n := 80) (sp := [23]) (o := []) (xin_ok rfl) (Or.inr rfl) rfl rfl (Nat.le_trans (Nat.le_of_eq g2.2.2.2.1) hN) (Nat.le_trans (Nat.le_of_eq g2.2.2.2.2) hU) trivial ?_
  show XB l Ls xs 14 538 false 288 N U F 23 [xf 50 1, xf 12 2, xf 13 104, xf 40001 152, xi (i + Int32.ofInt (6)), x5, x6] [] h2
  exact k h2 (x5) (x6) ⟨g2, R2⟩
set_option maxRecDepth 100000 in
set_option maxHeartbeats 4000000 in
theorem lw_c29 (l : Launch) (Ls : Nat) (xs : Nat → Int32) (N U : Nat) (F : List XV → XH → Prop) (i : Int32) (x5 x6 : XV) (h : XH) (H : vLw h) (i0 : 0 ≤ i.toInt) (i1 : i.toInt + 6 ≤ Ls) (hL : Ls ≤ 3072) (eL : (Int32.ofNat Ls - (Int32.ofInt (6))).toInt = Ls - 6) (hN : 153 ≤ N) (hU : 6051 ≤ U) (hc : (xs (i).toNatClampNeg &&& (Int32.ofInt (63))).toInt = 29) (k : ∀ h' x5' x6', vLw h' → XB l Ls xs 14 538 false 288 N U F 23 [xf 50 1, xf 12 2, xf 13 104, xf 40001 152, xi (i + (Int32.ofInt (6))), x5', x6'] [] h') : XB l Ls xs 14 538 false 288 N U F 23 [xf 50 1, xf 12 2, xf 13 104, xf 40001 152, xi i, x5, x6] [] h := by
  have e1 : (i + (Int32.ofInt (1))).toInt = i.toInt + 1 := by rw [Int32.toInt_add, show (Int32.ofInt (1)).toInt = 1 from rfl]; exact Int.bmod_eq_of_le (by omega) (by omega)
  have e2 : (i + (Int32.ofInt (2))).toInt = i.toInt + 2 := by rw [Int32.toInt_add, show (Int32.ofInt (2)).toInt = 2 from rfl]; exact Int.bmod_eq_of_le (by omega) (by omega)
  have e3 : (i + (Int32.ofInt (3))).toInt = i.toInt + 3 := by rw [Int32.toInt_add, show (Int32.ofInt (3)).toInt = 3 from rfl]; exact Int.bmod_eq_of_le (by omega) (by omega)
  have e4 : (i + (Int32.ofInt (4))).toInt = i.toInt + 4 := by rw [Int32.toInt_add, show (Int32.ofInt (4)).toInt = 4 from rfl]; exact Int.bmod_eq_of_le (by omega) (by omega)
  have e5 : (i + (Int32.ofInt (5))).toInt = i.toInt + 5 := by rw [Int32.toInt_add, show (Int32.ofInt (5)).toInt = 5 from rfl]; exact Int.bmod_eq_of_le (by omega) (by omega)
  have hg := H.1
  have R0 := H.2
  refine XB_path (sc := some (Ls, xs)) (inl := []) (n := 80) (sp := [1279]) (o := [0, 30]) (xin_ok rfl) (Or.inr rfl) rfl rfl (Nat.le_trans (Nat.le_of_eq hg.2.2.2.1) hN) (Nat.le_trans (Nat.le_of_eq hg.2.2.2.2) hU) ⟨⟨⟨⟨trivial, (fun z => absurd (Int32.lt_iff_toInt_lt.mp z) (by omega))⟩, (vp_of (i := i) (n := Ls) (by omega) (by omega))⟩, ⟨hc, by decide⟩⟩, (vp_of (i := (i + (Int32.ofInt (1)))) (n := Ls) (by omega) (by omega))⟩ ?_
  show XB l Ls xs 14 538 false 288 N U F 1279 [xf 50 1, xf 12 2, xf 13 104, xf 40001 152, xi i, x5, x6] [xi (xs ((i + (Int32.ofInt (1)))).toNatClampNeg), xf 12 2] h
  obtain ⟨v1, h1, cc1, g1, f1, -⟩ := vl_149 l ((xs ((i + (Int32.ofInt (1)))).toNatClampNeg)) h hg (i32r_of _)
  refine XB_call (i := .invokevirtual 149) (aux := 2) (nx := 1282) (K := 149) (vs := [xf 12 2, xi (xs ((i + (Int32.ofInt (1)))).toNatClampNeg)]) (rs := [xi v1]) (rest := []) rfl rfl rfl rfl rfl rfl cc1 (by decide) (by decide) (Nat.le_of_ble_eq_true rfl) ⟨Nat.le_trans (Nat.le_of_eq g1.2.2.2.1) hN, Nat.le_trans (Nat.le_of_eq g1.2.2.2.2) hU⟩ ?_
  show XB l Ls xs 14 538 false 288 N U F 1282 [xf 50 1, xf 12 2, xf 13 104, xf 40001 152, xi i, x5, x6] [xi v1] h1
  have R1 := R0.fr hg.1 f1 (by decide +kernel) (by decide +kernel) rfl rfl rfl rfl
  refine XB_path (sc := some (Ls, xs)) (inl := []) (n := 80) (sp := [1290]) (o := []) (xin_ok rfl) (Or.inr rfl) rfl rfl (Nat.le_trans (Nat.le_of_eq g1.2.2.2.1) hN) (Nat.le_trans (Nat.le_of_eq g1.2.2.2.2) hU) ⟨trivial, (vp_of (i := (i + (Int32.ofInt (1)))) (n := Ls) (by omega) (by omega))⟩ ?_
  show XB l Ls xs 14 538 false 288 N U F 1290 [xf 50 1, xf 12 2, xf 13 104, xf 40001 152, xi i, x5, x6] [xi (xs ((i + (Int32.ofInt (1)))).toNatClampNeg), xf 13 104] h1
  obtain ⟨v2, h2, cc2, g2, f2, -⟩ := vl_275 l ((xs ((i + (Int32.ofInt (1)))).toNatClampNeg)) h1 g1 (i32r_of _)
  refine XB_call (i := .invokevirtual 275) (aux := 2) (nx := 1293) (K := 275) (vs := [xf 13 104, xi (xs ((i + (Int32.ofInt (1)))).toNatClampNeg)]) (rs := [xi v2]) (rest := []) rfl rfl rfl rfl rfl rfl cc2 (by decide) (by decide) (Nat.le_of_ble_eq_true rfl) ⟨Nat.le_trans (Nat.le_of_eq g2.2.2.2.1) hN, Nat.le_trans (Nat.le_of_eq g2.2.2.2.2) hU⟩ ?_
  show XB l Ls xs 14 538 false 288 N U F 1293 [xf 50 1, xf 12 2, xf 13 104, xf 40001 152, xi i, x5, x6] [xi v2] h2
  have R2 := R1.fr g1.1 f2 (by decide +kernel) (by decide +kernel) rfl rfl rfl rfl
  refine XB_path (sc := some (Ls, xs)) (inl := []) (n := 80) (sp := [23]) (o := []) (xin_ok rfl) (Or.inr rfl) rfl rfl (Nat.le_trans (Nat.le_of_eq g2.2.2.2.1) hN) (Nat.le_trans (Nat.le_of_eq g2.2.2.2.2) hU) trivial ?_
  show XB l Ls xs 14 538 false 288 N U F 23 [xf 50 1, xf 12 2, xf 13 104, xf 40001 152, xi (i + Int32.ofInt (6)), x5, x6] [] h2
  exact k h2 (x5) (x6) ⟨g2, R2⟩
set_option maxRecDepth 100000 in
set_option maxHeartbeats 4000000 in
theorem lw_c30 (l : Launch) (Ls : Nat) (xs : Nat → Int32) (N U : Nat) (F : List XV → XH → Prop) (i : Int32) (x5 x6 : XV) (h : XH) (H : vLw h) (i0 : 0 ≤ i.toInt) (i1 : i.toInt + 6 ≤ Ls) (hL : Ls ≤ 3072) (eL : (Int32.ofNat Ls - (Int32.ofInt (6))).toInt = Ls - 6) (hN : 153 ≤ N) (hU : 6051 ≤ U) (hc : (xs (i).toNatClampNeg &&& (Int32.ofInt (63))).toInt = 30) (k : ∀ h' x5' x6', vLw h' → XB l Ls xs 14 538 false 288 N U F 23 [xf 50 1, xf 12 2, xf 13 104, xf 40001 152, xi (i + (Int32.ofInt (6))), x5', x6'] [] h') : XB l Ls xs 14 538 false 288 N U F 23 [xf 50 1, xf 12 2, xf 13 104, xf 40001 152, xi i, x5, x6] [] h := by
  have e1 : (i + (Int32.ofInt (1))).toInt = i.toInt + 1 := by rw [Int32.toInt_add, show (Int32.ofInt (1)).toInt = 1 from rfl]; exact Int.bmod_eq_of_le (by omega) (by omega)
  have e2 : (i + (Int32.ofInt (2))).toInt = i.toInt + 2 := by rw [Int32.toInt_add, show (Int32.ofInt (2)).toInt = 2 from rfl]; exact Int.bmod_eq_of_le (by omega) (by omega)
  have e3 : (i + (Int32.ofInt (3))).toInt = i.toInt + 3 := by rw [Int32.toInt_add, show (Int32.ofInt (3)).toInt = 3 from rfl]; exact Int.bmod_eq_of_le (by omega) (by omega)
  have e4 : (i + (Int32.ofInt (4))).toInt = i.toInt + 4 := by rw [Int32.toInt_add, show (Int32.ofInt (4)).toInt = 4 from rfl]; exact Int.bmod_eq_of_le (by omega) (by omega)
  have e5 : (i + (Int32.ofInt (5))).toInt = i.toInt + 5 := by rw [Int32.toInt_add, show (Int32.ofInt (5)).toInt = 5 from rfl]; exact Int.bmod_eq_of_le (by omega) (by omega)
  have hg := H.1
  have R0 := H.2
  refine XB_path (sc := some (Ls, xs)) (inl := []) (n := 80) (sp := [1322]) (o := [0, 31]) (xin_ok rfl) (Or.inr rfl) rfl rfl (Nat.le_trans (Nat.le_of_eq hg.2.2.2.1) hN) (Nat.le_trans (Nat.le_of_eq hg.2.2.2.2) hU) ⟨⟨⟨⟨⟨⟨⟨trivial, (fun z => absurd (Int32.lt_iff_toInt_lt.mp z) (by omega))⟩, (vp_of (i := i) (n := Ls) (by omega) (by omega))⟩, ⟨hc, by decide⟩⟩, (vp_of (i := (i + (Int32.ofInt (1)))) (n := Ls) (by omega) (by omega))⟩, (vp_of (i := (i + (Int32.ofInt (2)))) (n := Ls) (by omega) (by omega))⟩, (vp_of (i := (i + (Int32.ofInt (3)))) (n := Ls) (by omega) (by omega))⟩, (vp_of (i := (i + (Int32.ofInt (4)))) (n := Ls) (by omega) (by omega))⟩ ?_
  show XB l Ls xs 14 538 false 288 N U F 1322 [xf 50 1, xf 12 2, xf 13 104, xf 40001 152, xi i, x5, x6] [xi (xs ((i + (Int32.ofInt (4)))).toNatClampNeg), xi (xs ((i + (Int32.ofInt (3)))).toNatClampNeg), xi (xs ((i + (Int32.ofInt (2)))).toNatClampNeg), xi (xs ((i + (Int32.ofInt (1)))).toNatClampNeg), xf 12 2] h
  obtain ⟨v1, h1, cc1, g1, f1, -⟩ := vl_156 l ((xs ((i + (Int32.ofInt (1)))).toNatClampNeg)) ((xs ((i + (Int32.ofInt (2)))).toNatClampNeg)) ((xs ((i + (Int32.ofInt (3)))).toNatClampNeg)) ((xs ((i + (Int32.ofInt (4)))).toNatClampNeg)) h hg (i32r_of _) (i32r_of _) (i32r_of _) (i32r_of _)
  refine XB_call (i := .invokevirtual 156) (aux := 5) (nx := 1325) (K := 156) (vs := [xf 12 2, xi (xs ((i + (Int32.ofInt (1)))).toNatClampNeg), xi (xs ((i + (Int32.ofInt (2)))).toNatClampNeg), xi (xs ((i + (Int32.ofInt (3)))).toNatClampNeg), xi (xs ((i + (Int32.ofInt (4)))).toNatClampNeg)]) (rs := [xi v1]) (rest := []) rfl rfl rfl rfl rfl rfl cc1 (by decide) (by decide) (Nat.le_of_ble_eq_true rfl) ⟨Nat.le_trans (Nat.le_of_eq g1.2.2.2.1) hN, Nat.le_trans (Nat.le_of_eq g1.2.2.2.2) hU⟩ ?_
  show XB l Ls xs 14 538 false 288 N U F 1325 [xf 50 1, xf 12 2, xf 13 104, xf 40001 152, xi i, x5, x6] [xi v1] h1
  have R1 := R0.fr hg.1 f1 (by decide +kernel) (by decide +kernel) rfl rfl rfl rfl
  refine XB_path (sc := some (Ls, xs)) (inl := []) (n := 80) (sp := [1351]) (o := []) (xin_ok rfl) (Or.inr rfl) rfl rfl (Nat.le_trans (Nat.le_of_eq g1.2.2.2.1) hN) (Nat.le_trans (Nat.le_of_eq g1.2.2.2.2) hU) ⟨⟨⟨⟨trivial, (vp_of (i := (i + (Int32.ofInt (1)))) (n := Ls) (by omega) (by omega))⟩, (vp_of (i := (i + (Int32.ofInt (2)))) (n := Ls) (by omega) (by omega))⟩, (vp_of (i := (i + (Int32.ofInt (3)))) (n := Ls) (by omega) (by omega))⟩, (vp_of (i := (i + (Int32.ofInt (4)))) (n := Ls) (by omega) (by omega))⟩ ?_
  show XB l Ls xs 14 538 false 288 N U F 1351 [xf 50 1, xf 12 2, xf 13 104, xf 40001 152, xi i, x5, x6] [xi (xs ((i + (Int32.ofInt (4)))).toNatClampNeg), xi (xs ((i + (Int32.ofInt (3)))).toNatClampNeg), xi (xs ((i + (Int32.ofInt (2)))).toNatClampNeg), xi (xs ((i + (Int32.ofInt (1)))).toNatClampNeg), xf 13 104] h1
  obtain ⟨v2, h2, cc2, g2, f2, -⟩ := vl_279 l ((xs ((i + (Int32.ofInt (1)))).toNatClampNeg)) ((xs ((i + (Int32.ofInt (2)))).toNatClampNeg)) ((xs ((i + (Int32.ofInt (3)))).toNatClampNeg)) ((xs ((i + (Int32.ofInt (4)))).toNatClampNeg)) h1 g1 (i32r_of _) (i32r_of _) (i32r_of _) (i32r_of _)
  refine XB_call (i := .invokevirtual 279) (aux := 5) (nx := 1354) (K := 279) (vs := [xf 13 104, xi (xs ((i + (Int32.ofInt (1)))).toNatClampNeg), xi (xs ((i + (Int32.ofInt (2)))).toNatClampNeg), xi (xs ((i + (Int32.ofInt (3)))).toNatClampNeg), xi (xs ((i + (Int32.ofInt (4)))).toNatClampNeg)]) (rs := [xi v2]) (rest := []) rfl rfl rfl rfl rfl rfl cc2 (by decide) (by decide) (Nat.le_of_ble_eq_true rfl) ⟨Nat.le_trans (Nat.le_of_eq g2.2.2.2.1) hN, Nat.le_trans (Nat.le_of_eq g2.2.2.2.2) hU⟩ ?_
  show XB l Ls xs 14 538 false 288 N U F 1354 [xf 50 1, xf 12 2, xf 13 104, xf 40001 152, xi i, x5, x6] [xi v2] h2
  have R2 := R1.fr g1.1 f2 (by decide +kernel) (by decide +kernel) rfl rfl rfl rfl
  refine XB_path (sc := some (Ls, xs)) (inl := []) (n := 80) (sp := [23]) (o := []) (xin_ok rfl) (Or.inr rfl) rfl rfl (Nat.le_trans (Nat.le_of_eq g2.2.2.2.1) hN) (Nat.le_trans (Nat.le_of_eq g2.2.2.2.2) hU) trivial ?_
  show XB l Ls xs 14 538 false 288 N U F 23 [xf 50 1, xf 12 2, xf 13 104, xf 40001 152, xi (i + Int32.ofInt (6)), x5, x6] [] h2
  exact k h2 (x5) (x6) ⟨g2, R2⟩
set_option maxRecDepth 100000 in
set_option maxHeartbeats 4000000 in
theorem lw_c31 (l : Launch) (Ls : Nat) (xs : Nat → Int32) (N U : Nat) (F : List XV → XH → Prop) (i : Int32) (x5 x6 : XV) (h : XH) (H : vLw h) (i0 : 0 ≤ i.toInt) (i1 : i.toInt + 6 ≤ Ls) (hL : Ls ≤ 3072) (eL : (Int32.ofNat Ls - (Int32.ofInt (6))).toInt = Ls - 6) (hN : 153 ≤ N) (hU : 6051 ≤ U) (hc : (xs (i).toNatClampNeg &&& (Int32.ofInt (63))).toInt = 31) (k : ∀ h' x5' x6', vLw h' → XB l Ls xs 14 538 false 288 N U F 23 [xf 50 1, xf 12 2, xf 13 104, xf 40001 152, xi (i + (Int32.ofInt (6))), x5', x6'] [] h') : XB l Ls xs 14 538 false 288 N U F 23 [xf 50 1, xf 12 2, xf 13 104, xf 40001 152, xi i, x5, x6] [] h := by
  have e1 : (i + (Int32.ofInt (1))).toInt = i.toInt + 1 := by rw [Int32.toInt_add, show (Int32.ofInt (1)).toInt = 1 from rfl]; exact Int.bmod_eq_of_le (by omega) (by omega)
  have e2 : (i + (Int32.ofInt (2))).toInt = i.toInt + 2 := by rw [Int32.toInt_add, show (Int32.ofInt (2)).toInt = 2 from rfl]; exact Int.bmod_eq_of_le (by omega) (by omega)
  have e3 : (i + (Int32.ofInt (3))).toInt = i.toInt + 3 := by rw [Int32.toInt_add, show (Int32.ofInt (3)).toInt = 3 from rfl]; exact Int.bmod_eq_of_le (by omega) (by omega)
  have e4 : (i + (Int32.ofInt (4))).toInt = i.toInt + 4 := by rw [Int32.toInt_add, show (Int32.ofInt (4)).toInt = 4 from rfl]; exact Int.bmod_eq_of_le (by omega) (by omega)
  have e5 : (i + (Int32.ofInt (5))).toInt = i.toInt + 5 := by rw [Int32.toInt_add, show (Int32.ofInt (5)).toInt = 5 from rfl]; exact Int.bmod_eq_of_le (by omega) (by omega)
  have hg := H.1
  have R0 := H.2
  refine XB_path (sc := some (Ls, xs)) (inl := []) (n := 80) (sp := [1377]) (o := [0, 32]) (xin_ok rfl) (Or.inr rfl) rfl rfl (Nat.le_trans (Nat.le_of_eq hg.2.2.2.1) hN) (Nat.le_trans (Nat.le_of_eq hg.2.2.2.2) hU) ⟨⟨⟨⟨⟨⟨trivial, (fun z => absurd (Int32.lt_iff_toInt_lt.mp z) (by omega))⟩, (vp_of (i := i) (n := Ls) (by omega) (by omega))⟩, ⟨hc, by decide⟩⟩, (vp_of (i := (i + (Int32.ofInt (1)))) (n := Ls) (by omega) (by omega))⟩, (vp_of (i := (i + (Int32.ofInt (2)))) (n := Ls) (by omega) (by omega))⟩, (vp_of (i := (i + (Int32.ofInt (3)))) (n := Ls) (by omega) (by omega))⟩ ?_
  show XB l Ls xs 14 538 false 288 N U F 1377 [xf 50 1, xf 12 2, xf 13 104, xf 40001 152, xi i, x5, x6] [xi (xs ((i + (Int32.ofInt (3)))).toNatClampNeg), xi (xs ((i + (Int32.ofInt (2)))).toNatClampNeg), xi (xs ((i + (Int32.ofInt (1)))).toNatClampNeg), xf 12 2] h
  obtain ⟨v1, h1, cc1, g1, f1, -⟩ := vl_159 l ((xs ((i + (Int32.ofInt (1)))).toNatClampNeg)) ((xs ((i + (Int32.ofInt (2)))).toNatClampNeg)) ((xs ((i + (Int32.ofInt (3)))).toNatClampNeg)) h hg (i32r_of _) (i32r_of _) (i32r_of _)
  refine XB_call (i := .invokevirtual 159) (aux := 4) (nx := 1380) (K := 159) (vs := [xf 12 2, xi (xs ((i + (Int32.ofInt (1)))).toNatClampNeg), xi (xs ((i + (Int32.ofInt (2)))).toNatClampNeg), xi (xs ((i + (Int32.ofInt (3)))).toNatClampNeg)]) (rs := [xi v1]) (rest := []) rfl rfl rfl rfl rfl rfl cc1 (by decide) (by decide) (Nat.le_of_ble_eq_true rfl) ⟨Nat.le_trans (Nat.le_of_eq g1.2.2.2.1) hN, Nat.le_trans (Nat.le_of_eq g1.2.2.2.2) hU⟩ ?_
  show XB l Ls xs 14 538 false 288 N U F 1380 [xf 50 1, xf 12 2, xf 13 104, xf 40001 152, xi i, x5, x6] [xi v1] h1
  have R1 := R0.fr hg.1 f1 (by decide +kernel) (by decide +kernel) rfl rfl rfl rfl
  refine XB_path (sc := some (Ls, xs)) (inl := []) (n := 80) (sp := [1400]) (o := []) (xin_ok rfl) (Or.inr rfl) rfl rfl (Nat.le_trans (Nat.le_of_eq g1.2.2.2.1) hN) (Nat.le_trans (Nat.le_of_eq g1.2.2.2.2) hU) ⟨⟨⟨trivial, (vp_of (i := (i + (Int32.ofInt (1)))) (n := Ls) (by omega) (by omega))⟩, (vp_of (i := (i + (Int32.ofInt (2)))) (n := Ls) (by omega) (by omega))⟩, (vp_of (i := (i + (Int32.ofInt (3)))) (n := Ls) (by omega) (by omega))⟩ ?_
  show XB l Ls xs 14 538 false 288 N U F 1400 [xf 50 1, xf 12 2, xf 13 104, xf 40001 152, xi i, x5, x6] [xi (xs ((i + (Int32.ofInt (3)))).toNatClampNeg), xi (xs ((i + (Int32.ofInt (2)))).toNatClampNeg), xi (xs ((i + (Int32.ofInt (1)))).toNatClampNeg), xf 13 104] h1
  obtain ⟨v2, h2, cc2, g2, f2, -⟩ := vl_281 l ((xs ((i + (Int32.ofInt (1)))).toNatClampNeg)) ((xs ((i + (Int32.ofInt (2)))).toNatClampNeg)) ((xs ((i + (Int32.ofInt (3)))).toNatClampNeg)) h1 g1 (i32r_of _) (i32r_of _) (i32r_of _)
  refine XB_call (i := .invokevirtual 281) (aux := 4) (nx := 1403) (K := 281) (vs := [xf 13 104, xi (xs ((i + (Int32.ofInt (1)))).toNatClampNeg), xi (xs ((i + (Int32.ofInt (2)))).toNatClampNeg), xi (xs ((i + (Int32.ofInt (3)))).toNatClampNeg)]) (rs := [xi v2]) (rest := []) rfl rfl rfl rfl rfl rfl cc2 (by decide) (by decide) (Nat.le_of_ble_eq_true rfl) ⟨Nat.le_trans (Nat.le_of_eq g2.2.2.2.1) hN, Nat.le_trans (Nat.le_of_eq g2.2.2.2.2) hU⟩ ?_
  show XB l Ls xs 14 538 false 288 N U F 1403 [xf 50 1, xf 12 2, xf 13 104, xf 40001 152, xi i, x5, x6] [xi v2] h2
  have R2 := R1.fr g1.1 f2 (by decide +kernel) (by decide +kernel) rfl rfl rfl rfl
  refine XB_path (sc := some (Ls, xs)) (inl := []) (n := 80) (sp := [23]) (o := []) (xin_ok rfl) (Or.inr rfl) rfl rfl (Nat.le_trans (Nat.le_of_eq g2.2.2.2.1) hN) (Nat.le_trans (Nat.le_of_eq g2.2.2.2.2) hU) trivial ?_
  show XB l Ls xs 14 538 false 288 N U F 23 [xf 50 1, xf 12 2, xf 13 104, xf 40001 152, xi (i + Int32.ofInt (6)), x5, x6] [] h2
  exact k h2 (x5) (x6) ⟨g2, R2⟩
set_option maxRecDepth 100000 in
set_option maxHeartbeats 4000000 in
theorem lw_c32 (l : Launch) (Ls : Nat) (xs : Nat → Int32) (N U : Nat) (F : List XV → XH → Prop) (i : Int32) (x5 x6 : XV) (h : XH) (H : vLw h) (i0 : 0 ≤ i.toInt) (i1 : i.toInt + 6 ≤ Ls) (hL : Ls ≤ 3072) (eL : (Int32.ofNat Ls - (Int32.ofInt (6))).toInt = Ls - 6) (hN : 153 ≤ N) (hU : 6051 ≤ U) (hc : (xs (i).toNatClampNeg &&& (Int32.ofInt (63))).toInt = 32) (k : ∀ h' x5' x6', vLw h' → XB l Ls xs 14 538 false 288 N U F 23 [xf 50 1, xf 12 2, xf 13 104, xf 40001 152, xi (i + (Int32.ofInt (6))), x5', x6'] [] h') : XB l Ls xs 14 538 false 288 N U F 23 [xf 50 1, xf 12 2, xf 13 104, xf 40001 152, xi i, x5, x6] [] h := by
  have e1 : (i + (Int32.ofInt (1))).toInt = i.toInt + 1 := by rw [Int32.toInt_add, show (Int32.ofInt (1)).toInt = 1 from rfl]; exact Int.bmod_eq_of_le (by omega) (by omega)
  have e2 : (i + (Int32.ofInt (2))).toInt = i.toInt + 2 := by rw [Int32.toInt_add, show (Int32.ofInt (2)).toInt = 2 from rfl]; exact Int.bmod_eq_of_le (by omega) (by omega)
  have e3 : (i + (Int32.ofInt (3))).toInt = i.toInt + 3 := by rw [Int32.toInt_add, show (Int32.ofInt (3)).toInt = 3 from rfl]; exact Int.bmod_eq_of_le (by omega) (by omega)
  have e4 : (i + (Int32.ofInt (4))).toInt = i.toInt + 4 := by rw [Int32.toInt_add, show (Int32.ofInt (4)).toInt = 4 from rfl]; exact Int.bmod_eq_of_le (by omega) (by omega)
  have e5 : (i + (Int32.ofInt (5))).toInt = i.toInt + 5 := by rw [Int32.toInt_add, show (Int32.ofInt (5)).toInt = 5 from rfl]; exact Int.bmod_eq_of_le (by omega) (by omega)
  have hg := H.1
  have R0 := H.2
  refine XB_path (sc := some (Ls, xs)) (inl := []) (n := 80) (sp := [1408]) (o := [0, 33]) (xin_ok rfl) (Or.inr rfl) rfl rfl (Nat.le_trans (Nat.le_of_eq hg.2.2.2.1) hN) (Nat.le_trans (Nat.le_of_eq hg.2.2.2.2) hU) ⟨⟨⟨trivial, (fun z => absurd (Int32.lt_iff_toInt_lt.mp z) (by omega))⟩, (vp_of (i := i) (n := Ls) (by omega) (by omega))⟩, ⟨hc, by decide⟩⟩ ?_
  show XB l Ls xs 14 538 false 288 N U F 1408 [xf 50 1, xf 12 2, xf 13 104, xf 40001 152, xi i, x5, x6] [xf 12 2] h
  obtain ⟨c0, Z, Y, n, UU, En, t0, P, Cl, Mo, Im⟩ := id R0.2
  obtain ⟨A, V, md, n20, un, pk⟩ := id P
  obtain ⟨B, -, -, zv, -⟩ := id A
  have B0 := B.1.2
  have B2 := B.2.2.1.2
  rcases t0 with ⟨rfl, rr1, rr2⟩ | ⟨rfl, rr1, rr2⟩
  · have t1 : vTold 3 h := Or.inl ⟨rfl, rr1, rr2⟩
    have cc0 := t1.c
    obtain ⟨v1, h1, cc1, g1, f1, -⟩ := vl_161 l  h hg 
    obtain ⟨v3, h3, cc3, s1⟩ := ck_undo3 l Z Y n En h (mI.of hg) A rr1 Cl.1 Cl.2.1.1 V Cl.2.1.2.1 Cl.2.1.2.2.1 Cl.2.2 (fun z => (P.pop z).2.2)
    have m3 : mI h3 := by
      rcases s1 with ⟨-, -, e⟩ | ⟨-, -, G, -⟩
      · rw [e]; exact mI.of hg
      · exact G.1
    refine XB_two (i := .invokevirtual 161) (aux := 1) (nx := 1411) (K := 161) (vs := [xf 12 2]) (rs := [xi v1]) (rs2 := [xi v3]) (rest := []) rfl rfl rfl rfl rfl rfl cc1 cc3 ⟨g1.2.2.2.1.trans hg.2.2.2.1.symm, g1.2.2.2.2.trans hg.2.2.2.2.symm⟩ ⟨m3.2.2.2.1.trans hg.2.2.2.1.symm, m3.2.2.2.2.trans hg.2.2.2.2.symm⟩ (by decide) (by decide) (by decide) (by decide) (Nat.le_of_ble_eq_true rfl) ⟨Nat.le_trans (Nat.le_of_eq g1.2.2.2.1) hN, Nat.le_trans (Nat.le_of_eq g1.2.2.2.2) hU⟩ (fun ag1 => ?_)
    show XB l Ls xs 14 538 false 288 N U F 1411 [xf 50 1, xf 12 2, xf 13 104, xf 40001 152, xi i, x5, x6] [xi v1] h1
    have ev1 : v1 = v3 := ag1.v
    refine XB_path (sc := some (Ls, xs)) (inl := []) (n := 80) (sp := [1413]) (o := []) (xin_ok rfl) (Or.inr rfl) rfl rfl (Nat.le_trans (Nat.le_of_eq g1.2.2.2.1) hN) (Nat.le_trans (Nat.le_of_eq g1.2.2.2.2) hU) trivial ?_
    show XB l Ls xs 14 538 false 288 N U F 1413 [xf 50 1, xf 12 2, xf 13 104, xf 40001 152, xi i, x5, x6] [xf 13 104] h1
    obtain ⟨v2, h2, cc2, g2, f2, -⟩ := vl_283 l  h1 g1 
    obtain ⟨j1, j2, j3, j4⟩ := Mo.f7 hg.1 A.1 ((vKeep.of f1 (by decide +kernel)) : vKeep (vL6j ++ vLh ++ vLq) _ _)
    rw [← un] at j2
    have VU : zVd Z (UU n) := by rw [un]; exact V
    obtain ⟨v4, h4, cc4, s2⟩ := jk_undo l Z UU n h1 (mI.of g1) A j1 n20 j2 VU j4 (fun z => by rw [(P.pop z).2.1, un]; exact zEn_o A.1 (P.pop z).2.2 50 (by omega))
    have m4 : mI h4 := by
      rcases s2 with ⟨-, -, G⟩ | ⟨-, -, G, -⟩
      · exact G.1
      · exact G.1
    refine XB_two (i := .invokevirtual 283) (aux := 1) (nx := 1416) (K := 283) (vs := [xf 13 104]) (rs := [xi v2]) (rs2 := [xi v4]) (rest := []) rfl rfl rfl rfl rfl rfl cc2 cc4 ⟨g2.2.2.2.1.trans g1.2.2.2.1.symm, g2.2.2.2.2.trans g1.2.2.2.2.symm⟩ ⟨m4.2.2.2.1.trans g1.2.2.2.1.symm, m4.2.2.2.2.trans g1.2.2.2.2.symm⟩ (by decide) (by decide) (by decide) (by decide) (Nat.le_of_ble_eq_true rfl) ⟨Nat.le_trans (Nat.le_of_eq g2.2.2.2.1) hN, Nat.le_trans (Nat.le_of_eq g2.2.2.2.2) hU⟩ (fun ag2 => ?_)
    show XB l Ls xs 14 538 false 288 N U F 1416 [xf 50 1, xf 12 2, xf 13 104, xf 40001 152, xi i, x5, x6] [xi v2] h2
    have ev2 : v2 = v4 := ag2.v
    rw [un] at j2
    have both : v1 = v2 ∧ vR7 h2 := by
      rw [ev1, ev2]
      have kT2 : kTx 3 Z h2 := Cl.1.f7 cc0 ((((vKeep.of f1 (by decide +kernel)) : vKeep vL6c _ _)).tr ((vKeep.of f2 (by decide +kernel)) : vKeep vL6c _ _))
      have kJ2 : jK Z h2 := (Mo.1.f7 hg.1 ((((vKeep.of f1 (by decide +kernel)) : vKeep vL6j _ _)).tr ((vKeep.of f2 (by decide +kernel)) : vKeep vL6j _ _)))
      have r48 : xR h1 48 0 = 3 := (f1.2 48 0 rfl).trans Cl.2.1.1.2.2.2.2.2
      have i2 : vImg 3 Z h2 := Im.f7 A.1 ((((vKeep.of f1 (by decide +kernel)) : vKeep (vLw70 ++ vLim) _ _)).tr ((vKeep.of f2 (by decide +kernel)) : vKeep (vLw70 ++ vLim) _ _)) ((f2.2 70 0 rfl).trans (f1.2 70 0 rfl))
      have t2 : vTold 3 h2 := t1.fr ((f2.2 2 1 rfl).trans (f1.2 2 1 rfl)) ((f2.2 2 2 rfl).trans (f1.2 2 2 rfl))
      have y2_ : ∀ c k, c = 134 ∨ c = 137 → xI h2 c k = xI h1 c k := fun c k hc => by
        rcases hc with rfl | rfl
        · exact f2.1 134 k rfl
        · exact f2.1 137 k rfl
      have w2_ : ∀ (X : Nat → Int32), vWo48 3 Z X h3 → vWo48 3 Z X h2 := fun X w => (vWo48.ag ag1 g1.1 m3.1 A.1 w r48).fr ((vKeep.of f2 (by decide +kernel)) : vKeep vLw48 _ _) (f2.2 48 0 rfl)
      have p2_ : ∀ (N : Nat) (E : Nat → Int32 × Int32 × Int32), N ≤ 20 → kPa N E h3 → kPa N E h2 := fun N E hN w => (kPa.ag ag1 g1.1 m3.1 hN w).fr ((vKeep.of f2 (by decide +kernel)) : vKeep vLp _ _)
      rcases s1 with ⟨y1, y2, y3⟩ | ⟨y1, y2, G3, kw3, kd3, ke3, kp3⟩
      · rcases s2 with ⟨w1, w2, w3⟩ | ⟨w1, w2, -⟩
        · rw [y3] at w2_ p2_
          exact ⟨y2.trans w2.symm, 3, Z, Y, n, UU, En, t2, P, ⟨kT2, w2_ Y Cl.2.1, p2_ n En n20 Cl.2.2⟩, ⟨kJ2, jHf.ag ag2 g2.1 m4.1 A.1 (j2.o (fun c k c1 c2 => (w3.k (fun z => by have z : (c = 104 ∧ k = 2) := z; omega)))), ⟨fun r hr => (y2_ 134 _ (Or.inl rfl)).trans (j3.1 r hr), fun p hp => (y2_ 137 _ (Or.inr rfl)).trans (j3.2 p hp)⟩, jPa.ag ag2 g2.1 m4.1 A.1 n20 (j4.o A.1 (fun k => (w3.k (fun z => by have z : (149 = 104 ∧ k = 2) := z; omega))) (w3.k (fun z => by have z : (104 = 104 ∧ 76 = 2) := z; omega)))⟩, i2⟩
        · exact absurd w1 (by omega)
      · rcases s2 with ⟨w1, w2, -⟩ | ⟨w1, w2, G4, jw4, jp4⟩
        · exact absurd w1 (by omega)
        · obtain ⟨P2, pu, pok⟩ := P.pop y1
          rw [← pu] at kw3 kd3 ke3
          have ky3 : kY 48 Z (UU (n - 1)) h3 := (Cl.2.1.2.2.2.q G3 (by decide)).sm A.1 (fun i hi => by rw [pu]; exact zEn_o A.1 pok i (by omega))
          have jy2 : jY 0 Z (UU (n - 1)) h2 := ⟨fun r hr => by rw [pu, zEn_o A.1 pok (10 + r) (by omega)]; exact (y2_ 134 _ (Or.inl rfl)).trans (j3.1 r hr), fun p hp => by rw [pu, zEn_o A.1 pok (40 + p) (by omega)]; exact (y2_ 137 _ (Or.inr rfl)).trans (j3.2 p hp)⟩
          exact ⟨Int32.toInt_inj.mp (y2.trans w2.symm), 3, Z, UU (n - 1), n - 1, UU, En, t2, P2, ⟨kT2, w2_ _ ⟨kw3, kd3, ke3, ky3⟩, p2_ _ En (by omega) kp3⟩, ⟨kJ2, jHf.ag ag2 g2.1 m4.1 A.1 jw4, jy2, jPa.ag ag2 g2.1 m4.1 A.1 (by omega) jp4⟩, i2⟩
    have RT : vRl h2 := ⟨R0.1.fr ((((vKeep.of f1 (by decide +kernel)) : vKeep vL1 _ _)).tr ((vKeep.of f2 (by decide +kernel)) : vKeep vL1 _ _)), both.2⟩
    refine XB_path (sc := some (Ls, xs)) (inl := []) (n := 80) (sp := [23]) (o := []) (xin_ok rfl) (Or.inr rfl) rfl rfl (Nat.le_trans (Nat.le_of_eq g2.2.2.2.1) hN) (Nat.le_trans (Nat.le_of_eq g2.2.2.2.2) hU) trivial ?_
    show XB l Ls xs 14 538 false 288 N U F 23 [xf 50 1, xf 12 2, xf 13 104, xf 40001 152, xi (i + Int32.ofInt (6)), x5, x6] [] h2
    exact k h2 (x5) (x6) ⟨g2, RT⟩
  · have t1 : vTold 24 h := Or.inr ⟨rfl, rr1, rr2⟩
    have cc0 := t1.c
    obtain ⟨v1, h1, cc1, g1, f1, -⟩ := vl_161 l  h hg 
    obtain ⟨v3, h3, cc3, s1⟩ := ck_undo24 l Z Y n En h (mI.of hg) A rr1 Cl.1 Cl.2.1.1 V Cl.2.1.2.1 Cl.2.1.2.2.1 Cl.2.2 (fun z => (P.pop z).2.2)
    have m3 : mI h3 := by
      rcases s1 with ⟨-, -, e⟩ | ⟨-, -, G, -⟩
      · rw [e]; exact mI.of hg
      · exact G.1
    refine XB_two (i := .invokevirtual 161) (aux := 1) (nx := 1411) (K := 161) (vs := [xf 12 2]) (rs := [xi v1]) (rs2 := [xi v3]) (rest := []) rfl rfl rfl rfl rfl rfl cc1 cc3 ⟨g1.2.2.2.1.trans hg.2.2.2.1.symm, g1.2.2.2.2.trans hg.2.2.2.2.symm⟩ ⟨m3.2.2.2.1.trans hg.2.2.2.1.symm, m3.2.2.2.2.trans hg.2.2.2.2.symm⟩ (by decide) (by decide) (by decide) (by decide) (Nat.le_of_ble_eq_true rfl) ⟨Nat.le_trans (Nat.le_of_eq g1.2.2.2.1) hN, Nat.le_trans (Nat.le_of_eq g1.2.2.2.2) hU⟩ (fun ag1 => ?_)
    show XB l Ls xs 14 538 false 288 N U F 1411 [xf 50 1, xf 12 2, xf 13 104, xf 40001 152, xi i, x5, x6] [xi v1] h1
    have ev1 : v1 = v3 := ag1.v
    refine XB_path (sc := some (Ls, xs)) (inl := []) (n := 80) (sp := [1413]) (o := []) (xin_ok rfl) (Or.inr rfl) rfl rfl (Nat.le_trans (Nat.le_of_eq g1.2.2.2.1) hN) (Nat.le_trans (Nat.le_of_eq g1.2.2.2.2) hU) trivial ?_
    show XB l Ls xs 14 538 false 288 N U F 1413 [xf 50 1, xf 12 2, xf 13 104, xf 40001 152, xi i, x5, x6] [xf 13 104] h1
    obtain ⟨v2, h2, cc2, g2, f2, -⟩ := vl_283 l  h1 g1 
    obtain ⟨j1, j2, j3, j4⟩ := Mo.f7 hg.1 A.1 ((vKeep.of f1 (by decide +kernel)) : vKeep (vL6j ++ vLh ++ vLq) _ _)
    rw [← un] at j2
    have VU : zVd Z (UU n) := by rw [un]; exact V
    obtain ⟨v4, h4, cc4, s2⟩ := jk_undo l Z UU n h1 (mI.of g1) A j1 n20 j2 VU j4 (fun z => by rw [(P.pop z).2.1, un]; exact zEn_o A.1 (P.pop z).2.2 50 (by omega))
    have m4 : mI h4 := by
      rcases s2 with ⟨-, -, G⟩ | ⟨-, -, G, -⟩
      · exact G.1
      · exact G.1
    refine XB_two (i := .invokevirtual 283) (aux := 1) (nx := 1416) (K := 283) (vs := [xf 13 104]) (rs := [xi v2]) (rs2 := [xi v4]) (rest := []) rfl rfl rfl rfl rfl rfl cc2 cc4 ⟨g2.2.2.2.1.trans g1.2.2.2.1.symm, g2.2.2.2.2.trans g1.2.2.2.2.symm⟩ ⟨m4.2.2.2.1.trans g1.2.2.2.1.symm, m4.2.2.2.2.trans g1.2.2.2.2.symm⟩ (by decide) (by decide) (by decide) (by decide) (Nat.le_of_ble_eq_true rfl) ⟨Nat.le_trans (Nat.le_of_eq g2.2.2.2.1) hN, Nat.le_trans (Nat.le_of_eq g2.2.2.2.2) hU⟩ (fun ag2 => ?_)
    show XB l Ls xs 14 538 false 288 N U F 1416 [xf 50 1, xf 12 2, xf 13 104, xf 40001 152, xi i, x5, x6] [xi v2] h2
    have ev2 : v2 = v4 := ag2.v
    rw [un] at j2
    have both : v1 = v2 ∧ vR7 h2 := by
      rw [ev1, ev2]
      have kT2 : kTx 24 Z h2 := Cl.1.f7 cc0 ((((vKeep.of f1 (by decide +kernel)) : vKeep vL6c _ _)).tr ((vKeep.of f2 (by decide +kernel)) : vKeep vL6c _ _))
      have kJ2 : jK Z h2 := (Mo.1.f7 hg.1 ((((vKeep.of f1 (by decide +kernel)) : vKeep vL6j _ _)).tr ((vKeep.of f2 (by decide +kernel)) : vKeep vL6j _ _)))
      have r48 : xR h1 48 0 = 24 := (f1.2 48 0 rfl).trans Cl.2.1.1.2.2.2.2.2
      have i2 : vImg 24 Z h2 := Im.f7 A.1 ((((vKeep.of f1 (by decide +kernel)) : vKeep (vLw70 ++ vLim) _ _)).tr ((vKeep.of f2 (by decide +kernel)) : vKeep (vLw70 ++ vLim) _ _)) ((f2.2 70 0 rfl).trans (f1.2 70 0 rfl))
      have t2 : vTold 24 h2 := t1.fr ((f2.2 2 1 rfl).trans (f1.2 2 1 rfl)) ((f2.2 2 2 rfl).trans (f1.2 2 2 rfl))
      have y2_ : ∀ c k, c = 134 ∨ c = 137 → xI h2 c k = xI h1 c k := fun c k hc => by
        rcases hc with rfl | rfl
        · exact f2.1 134 k rfl
        · exact f2.1 137 k rfl
      have w2_ : ∀ (X : Nat → Int32), vWo48 24 Z X h3 → vWo48 24 Z X h2 := fun X w => (vWo48.ag ag1 g1.1 m3.1 A.1 w r48).fr ((vKeep.of f2 (by decide +kernel)) : vKeep vLw48 _ _) (f2.2 48 0 rfl)
      have p2_ : ∀ (N : Nat) (E : Nat → Int32 × Int32 × Int32), N ≤ 20 → kPa N E h3 → kPa N E h2 := fun N E hN w => (kPa.ag ag1 g1.1 m3.1 hN w).fr ((vKeep.of f2 (by decide +kernel)) : vKeep vLp _ _)
      rcases s1 with ⟨y1, y2, y3⟩ | ⟨y1, y2, G3, kw3, kd3, ke3, kp3⟩
      · rcases s2 with ⟨w1, w2, w3⟩ | ⟨w1, w2, -⟩
        · rw [y3] at w2_ p2_
          exact ⟨y2.trans w2.symm, 24, Z, Y, n, UU, En, t2, P, ⟨kT2, w2_ Y Cl.2.1, p2_ n En n20 Cl.2.2⟩, ⟨kJ2, jHf.ag ag2 g2.1 m4.1 A.1 (j2.o (fun c k c1 c2 => (w3.k (fun z => by have z : (c = 104 ∧ k = 2) := z; omega)))), ⟨fun r hr => (y2_ 134 _ (Or.inl rfl)).trans (j3.1 r hr), fun p hp => (y2_ 137 _ (Or.inr rfl)).trans (j3.2 p hp)⟩, jPa.ag ag2 g2.1 m4.1 A.1 n20 (j4.o A.1 (fun k => (w3.k (fun z => by have z : (149 = 104 ∧ k = 2) := z; omega))) (w3.k (fun z => by have z : (104 = 104 ∧ 76 = 2) := z; omega)))⟩, i2⟩
        · exact absurd w1 (by omega)
      · rcases s2 with ⟨w1, w2, -⟩ | ⟨w1, w2, G4, jw4, jp4⟩
        · exact absurd w1 (by omega)
        · obtain ⟨P2, pu, pok⟩ := P.pop y1
          rw [← pu] at kw3 kd3 ke3
          have ky3 : kY 48 Z (UU (n - 1)) h3 := (Cl.2.1.2.2.2.q G3 (by decide)).sm A.1 (fun i hi => by rw [pu]; exact zEn_o A.1 pok i (by omega))
          have jy2 : jY 0 Z (UU (n - 1)) h2 := ⟨fun r hr => by rw [pu, zEn_o A.1 pok (10 + r) (by omega)]; exact (y2_ 134 _ (Or.inl rfl)).trans (j3.1 r hr), fun p hp => by rw [pu, zEn_o A.1 pok (40 + p) (by omega)]; exact (y2_ 137 _ (Or.inr rfl)).trans (j3.2 p hp)⟩
          exact ⟨Int32.toInt_inj.mp (y2.trans w2.symm), 24, Z, UU (n - 1), n - 1, UU, En, t2, P2, ⟨kT2, w2_ _ ⟨kw3, kd3, ke3, ky3⟩, p2_ _ En (by omega) kp3⟩, ⟨kJ2, jHf.ag ag2 g2.1 m4.1 A.1 jw4, jy2, jPa.ag ag2 g2.1 m4.1 A.1 (by omega) jp4⟩, i2⟩
    have RT : vRl h2 := ⟨R0.1.fr ((((vKeep.of f1 (by decide +kernel)) : vKeep vL1 _ _)).tr ((vKeep.of f2 (by decide +kernel)) : vKeep vL1 _ _)), both.2⟩
    refine XB_path (sc := some (Ls, xs)) (inl := []) (n := 80) (sp := [23]) (o := []) (xin_ok rfl) (Or.inr rfl) rfl rfl (Nat.le_trans (Nat.le_of_eq g2.2.2.2.1) hN) (Nat.le_trans (Nat.le_of_eq g2.2.2.2.2) hU) trivial ?_
    show XB l Ls xs 14 538 false 288 N U F 23 [xf 50 1, xf 12 2, xf 13 104, xf 40001 152, xi (i + Int32.ofInt (6)), x5, x6] [] h2
    exact k h2 (x5) (x6) ⟨g2, RT⟩
set_option maxRecDepth 100000 in
set_option maxHeartbeats 4000000 in
theorem lw_c33 (l : Launch) (Ls : Nat) (xs : Nat → Int32) (N U : Nat) (F : List XV → XH → Prop) (i : Int32) (x5 x6 : XV) (h : XH) (H : vLw h) (i0 : 0 ≤ i.toInt) (i1 : i.toInt + 6 ≤ Ls) (hL : Ls ≤ 3072) (eL : (Int32.ofNat Ls - (Int32.ofInt (6))).toInt = Ls - 6) (hN : 153 ≤ N) (hU : 6051 ≤ U) (hc : (xs (i).toNatClampNeg &&& (Int32.ofInt (63))).toInt = 33) (k : ∀ h' x5' x6', vLw h' → XB l Ls xs 14 538 false 288 N U F 23 [xf 50 1, xf 12 2, xf 13 104, xf 40001 152, xi (i + (Int32.ofInt (6))), x5', x6'] [] h') : XB l Ls xs 14 538 false 288 N U F 23 [xf 50 1, xf 12 2, xf 13 104, xf 40001 152, xi i, x5, x6] [] h := by
  have e1 : (i + (Int32.ofInt (1))).toInt = i.toInt + 1 := by rw [Int32.toInt_add, show (Int32.ofInt (1)).toInt = 1 from rfl]; exact Int.bmod_eq_of_le (by omega) (by omega)
  have e2 : (i + (Int32.ofInt (2))).toInt = i.toInt + 2 := by rw [Int32.toInt_add, show (Int32.ofInt (2)).toInt = 2 from rfl]; exact Int.bmod_eq_of_le (by omega) (by omega)
  have e3 : (i + (Int32.ofInt (3))).toInt = i.toInt + 3 := by rw [Int32.toInt_add, show (Int32.ofInt (3)).toInt = 3 from rfl]; exact Int.bmod_eq_of_le (by omega) (by omega)
  have e4 : (i + (Int32.ofInt (4))).toInt = i.toInt + 4 := by rw [Int32.toInt_add, show (Int32.ofInt (4)).toInt = 4 from rfl]; exact Int.bmod_eq_of_le (by omega) (by omega)
  have e5 : (i + (Int32.ofInt (5))).toInt = i.toInt + 5 := by rw [Int32.toInt_add, show (Int32.ofInt (5)).toInt = 5 from rfl]; exact Int.bmod_eq_of_le (by omega) (by omega)
  have hg := H.1
  have R0 := H.2
  refine XB_path (sc := some (Ls, xs)) (inl := []) (n := 80) (sp := [1421]) (o := [0, 34]) (xin_ok rfl) (Or.inr rfl) rfl rfl (Nat.le_trans (Nat.le_of_eq hg.2.2.2.1) hN) (Nat.le_trans (Nat.le_of_eq hg.2.2.2.2) hU) ⟨⟨⟨trivial, (fun z => absurd (Int32.lt_iff_toInt_lt.mp z) (by omega))⟩, (vp_of (i := i) (n := Ls) (by omega) (by omega))⟩, ⟨hc, by decide⟩⟩ ?_
  show XB l Ls xs 14 538 false 288 N U F 1421 [xf 50 1, xf 12 2, xf 13 104, xf 40001 152, xi i, x5, x6] [xf 12 2] h
  obtain ⟨c0, Z, Y, n, UU, En, t0, P, Cl, Mo, Im⟩ := id R0.2
  obtain ⟨A, V, md, n20, un, pk⟩ := id P
  obtain ⟨B, -, -, zv, -⟩ := id A
  have B0 := B.1.2
  have B2 := B.2.2.1.2
  obtain ⟨h1, cc1, g1, s1, kI⟩ := ck_keepW l c0 Z Y h hg A md Cl.2.1.1 Cl.2.1.2.1 Cl.2.1.2.2.1 Cl.2.1.2.2.2
  have r70 : xR h1 70 0 = xR h1 70 0 := rfl
  refine XB_call (i := .invokevirtual 163) (aux := 1) (nx := 1424) (K := 163) (vs := [xf 12 2]) (rs := [xi (xI h 48 7)]) (rest := []) rfl rfl rfl rfl rfl rfl cc1 (by decide) (by decide) (Nat.le_of_ble_eq_true rfl) ⟨Nat.le_trans (Nat.le_of_eq g1.1.2.2.2.1) hN, Nat.le_trans (Nat.le_of_eq g1.1.2.2.2.2) hU⟩ ?_
  show XB l Ls xs 14 538 false 288 N U F 1424 [xf 50 1, xf 12 2, xf 13 104, xf 40001 152, xi i, x5, x6] [xi (xI h 48 7)] h1
  refine XB_path (sc := some (Ls, xs)) (inl := []) (n := 80) (sp := [1426]) (o := []) (xin_ok rfl) (Or.inr rfl) rfl rfl (Nat.le_trans (Nat.le_of_eq g1.1.2.2.2.1) hN) (Nat.le_trans (Nat.le_of_eq g1.1.2.2.2.2) hU) trivial ?_
  show XB l Ls xs 14 538 false 288 N U F 1426 [xf 50 1, xf 12 2, xf 13 104, xf 40001 152, xi i, x5, x6] [xf 13 104] h1
  obtain ⟨v2, h2, cc2, g2, f2, -⟩ := vl_285 l h1 g1.1
  obtain ⟨j1, j2, j3, j4⟩ := Mo.f7 hg.1 A.1 ((vKeep.of g1.2 (by decide +kernel)) : vKeep (vL6j ++ vLh ++ vLq) _ _)
  obtain ⟨h4, cc4, G4, o78, im4⟩ := jk_keepW l Z Y h1 (mI.of g1.1) A j2 j3
  refine XB_two (i := .invokevirtual 285) (aux := 1) (nx := 1429) (K := 285) (vs := [xf 13 104]) (rs := [xi v2]) (rs2 := [xi (Y 50)]) (rest := []) rfl rfl rfl rfl rfl rfl cc2 cc4 ⟨g2.2.2.2.1.trans g1.1.2.2.2.1.symm, g2.2.2.2.2.trans g1.1.2.2.2.2.symm⟩ ⟨G4.1.2.2.2.1.trans g1.1.2.2.2.1.symm, G4.1.2.2.2.2.trans g1.1.2.2.2.2.symm⟩ (by decide) (by decide) (by decide) (by decide) (Nat.le_of_ble_eq_true rfl) ⟨Nat.le_trans (Nat.le_of_eq g2.2.2.2.1) hN, Nat.le_trans (Nat.le_of_eq g2.2.2.2.2) hU⟩ (fun ag2 => ?_)
  show XB l Ls xs 14 538 false 288 N U F 1429 [xf 50 1, xf 12 2, xf 13 104, xf 40001 152, xi i, x5, x6] [xi v2] h2
  have ev2 : v2 = Y 50 := ag2.v
  have same : xI h 48 7 = v2 := Cl.2.1.1.2.2.1.trans ev2.symm
  obtain ⟨-, -, -, -, -, -, -, -, -, -, -, -, -, m78⟩ := zag_m ag2 g2.1 G4.1.1
  have RT : vRl h2 := ⟨R0.1.fr ((((vKeep.of g1.2 (by decide +kernel)) : vKeep vL1 _ _)).tr ((vKeep.of f2 (by decide +kernel)) : vKeep vL1 _ _)), c0, Z, Y, n, UU, En, t0.fr ((f2.2 2 1 rfl).trans (g1.2.2 2 1 rfl)) ((f2.2 2 2 rfl).trans (g1.2.2 2 2 rfl)), P, Cl.f7 t0.c ((((vKeep.of g1.2 (by decide +kernel)) : vKeep (vL6c ++ vLw48 ++ vLp) _ _)).tr ((vKeep.of f2 (by decide +kernel)) : vKeep (vL6c ++ vLw48 ++ vLp) _ _)) ((f2.2 48 0 rfl).trans (g1.2.2 48 0 rfl)), ⟨Mo.1.f7 hg.1 ((((vKeep.of g1.2 (by decide +kernel)) : vKeep vL6j _ _)).tr ((vKeep.of f2 (by decide +kernel)) : vKeep vL6j _ _)), Mo.2.1.f7 A.1 ((((vKeep.of g1.2 (by decide +kernel)) : vKeep vLh _ _)).tr ((vKeep.of f2 (by decide +kernel)) : vKeep vLh _ _)), Mo.2.2.1.f7 A.1 ((((vKeep.of g1.2 (by decide +kernel)) : vKeep vLh _ _)).tr ((vKeep.of f2 (by decide +kernel)) : vKeep vLh _ _)), jPa.ag ag2 g2.1 G4.1.1 A.1 n20 (j4.o A.1 (fun k => jk_kp149 G4) (jk_kp76 G4))⟩, ⟨(f2.1 2 6 rfl).trans (s1.trans (o78.symm.trans m78.symm)), fun _ => ⟨Y, V, md, vWo70.fr kI ((vKeep.of f2 (by decide +kernel)) : vKeep vLw70 _ _) (f2.2 70 0 rfl), jIm.ag ag2 g2.1 G4.1.1 A.1 im4⟩⟩⟩
  refine XB_path (sc := some (Ls, xs)) (inl := []) (n := 80) (sp := [23]) (o := []) (xin_ok rfl) (Or.inr rfl) rfl rfl (Nat.le_trans (Nat.le_of_eq g2.2.2.2.1) hN) (Nat.le_trans (Nat.le_of_eq g2.2.2.2.2) hU) trivial ?_
  show XB l Ls xs 14 538 false 288 N U F 23 [xf 50 1, xf 12 2, xf 13 104, xf 40001 152, xi (i + Int32.ofInt (6)), x5, x6] [] h2
  exact k h2 (x5) (x6) ⟨g2, RT⟩
set_option maxRecDepth 100000 in
set_option maxHeartbeats 4000000 in
theorem lw_c34 (l : Launch) (Ls : Nat) (xs : Nat → Int32) (N U : Nat) (F : List XV → XH → Prop) (i : Int32) (x5 x6 : XV) (h : XH) (H : vLw h) (i0 : 0 ≤ i.toInt) (i1 : i.toInt + 6 ≤ Ls) (hL : Ls ≤ 3072) (eL : (Int32.ofNat Ls - (Int32.ofInt (6))).toInt = Ls - 6) (hN : 153 ≤ N) (hU : 6051 ≤ U) (hc : (xs (i).toNatClampNeg &&& (Int32.ofInt (63))).toInt = 34) (k : ∀ h' x5' x6', vLw h' → XB l Ls xs 14 538 false 288 N U F 23 [xf 50 1, xf 12 2, xf 13 104, xf 40001 152, xi (i + (Int32.ofInt (6))), x5', x6'] [] h') : XB l Ls xs 14 538 false 288 N U F 23 [xf 50 1, xf 12 2, xf 13 104, xf 40001 152, xi i, x5, x6] [] h := by
  have e1 : (i + (Int32.ofInt (1))).toInt = i.toInt + 1 := by rw [Int32.toInt_add, show (Int32.ofInt (1)).toInt = 1 from rfl]; exact Int.bmod_eq_of_le (by omega) (by omega)
  have e2 : (i + (Int32.ofInt (2))).toInt = i.toInt + 2 := by rw [Int32.toInt_add, show (Int32.ofInt (2)).toInt = 2 from rfl]; exact Int.bmod_eq_of_le (by omega) (by omega)
  have e3 : (i + (Int32.ofInt (3))).toInt = i.toInt + 3 := by rw [Int32.toInt_add, show (Int32.ofInt (3)).toInt = 3 from rfl]; exact Int.bmod_eq_of_le (by omega) (by omega)
  have e4 : (i + (Int32.ofInt (4))).toInt = i.toInt + 4 := by rw [Int32.toInt_add, show (Int32.ofInt (4)).toInt = 4 from rfl]; exact Int.bmod_eq_of_le (by omega) (by omega)
  have e5 : (i + (Int32.ofInt (5))).toInt = i.toInt + 5 := by rw [Int32.toInt_add, show (Int32.ofInt (5)).toInt = 5 from rfl]; exact Int.bmod_eq_of_le (by omega) (by omega)
  have hg := H.1
  have R0 := H.2
  refine XB_path (sc := some (Ls, xs)) (inl := []) (n := 80) (sp := [1434]) (o := [0, 35]) (xin_ok rfl) (Or.inr rfl) rfl rfl (Nat.le_trans (Nat.le_of_eq hg.2.2.2.1) hN) (Nat.le_trans (Nat.le_of_eq hg.2.2.2.2) hU) ⟨⟨⟨trivial, (fun z => absurd (Int32.lt_iff_toInt_lt.mp z) (by omega))⟩, (vp_of (i := i) (n := Ls) (by omega) (by omega))⟩, ⟨hc, by decide⟩⟩ ?_
  show XB l Ls xs 14 538 false 288 N U F 1434 [xf 50 1, xf 12 2, xf 13 104, xf 40001 152, xi i, x5, x6] [xf 12 2] h
  obtain ⟨c0, Z, Y, n, UU, En, t0, P, Cl, Mo, Im⟩ := id R0.2
  obtain ⟨A, V, md, n20, un, pk⟩ := id P
  obtain ⟨B, -, -, zv, -⟩ := id A
  have B0 := B.1.2
  have B2 := B.2.2.1.2
  by_cases hk : xI h 2 6 = 0
  · have cc1 := ck_back0 l h hg hk
    refine XB_call (i := .invokevirtual 164) (aux := 1) (nx := 1437) (K := 164) (vs := [xf 12 2]) (rs := [xi (Int32.ofInt (-1))]) (rest := []) rfl rfl rfl rfl rfl rfl cc1 (by decide) (by decide) (Nat.le_of_ble_eq_true rfl) ⟨Nat.le_trans (Nat.le_of_eq hg.2.2.2.1) hN, Nat.le_trans (Nat.le_of_eq hg.2.2.2.2) hU⟩ ?_
    show XB l Ls xs 14 538 false 288 N U F 1437 [xf 50 1, xf 12 2, xf 13 104, xf 40001 152, xi i, x5, x6] [xi (Int32.ofInt (-1))] h
    refine XB_path (sc := some (Ls, xs)) (inl := []) (n := 80) (sp := [1439]) (o := []) (xin_ok rfl) (Or.inr rfl) rfl rfl (Nat.le_trans (Nat.le_of_eq hg.2.2.2.1) hN) (Nat.le_trans (Nat.le_of_eq hg.2.2.2.2) hU) trivial ?_
    show XB l Ls xs 14 538 false 288 N U F 1439 [xf 50 1, xf 12 2, xf 13 104, xf 40001 152, xi i, x5, x6] [xf 13 104] h
    obtain ⟨h2, cc2, g2⟩ := jk_back0 l h hg (Im.1.symm.trans hk)
    refine XB_call (i := .invokevirtual 286) (aux := 1) (nx := 1442) (K := 286) (vs := [xf 13 104]) (rs := [xi (Int32.ofInt (-1))]) (rest := []) rfl rfl rfl rfl rfl rfl cc2 (by decide) (by decide) (Nat.le_of_ble_eq_true rfl) ⟨Nat.le_trans (Nat.le_of_eq g2.1.2.2.2.1) hN, Nat.le_trans (Nat.le_of_eq g2.1.2.2.2.2) hU⟩ ?_
    show XB l Ls xs 14 538 false 288 N U F 1442 [xf 50 1, xf 12 2, xf 13 104, xf 40001 152, xi i, x5, x6] [xi (Int32.ofInt (-1))] h2
    have RT := R0.fr hg.1 g2.2 (by decide +kernel) (by decide +kernel) rfl rfl rfl rfl
    have same : (Int32.ofInt (-1)) = (Int32.ofInt (-1)) := rfl
    refine XB_path (sc := some (Ls, xs)) (inl := []) (n := 80) (sp := [23]) (o := []) (xin_ok rfl) (Or.inr rfl) rfl rfl (Nat.le_trans (Nat.le_of_eq g2.1.2.2.2.1) hN) (Nat.le_trans (Nat.le_of_eq g2.1.2.2.2.2) hU) trivial ?_
    show XB l Ls xs 14 538 false 288 N U F 23 [xf 50 1, xf 12 2, xf 13 104, xf 40001 152, xi (i + Int32.ofInt (6)), x5, x6] [] h2
    exact k h2 (x5) (x6) ⟨g2.1, RT⟩
  · obtain ⟨X, x1, x2, x3, x4⟩ := Im.2 hk
    obtain ⟨h1, cc1, g1, s1, kI⟩ := ck_backW l c0 Z X h hg A x2 x3.1 x3.2.1 x3.2.2.1 x3.2.2.2 hk
    refine XB_call (i := .invokevirtual 164) (aux := 1) (nx := 1437) (K := 164) (vs := [xf 12 2]) (rs := [xi (X 50)]) (rest := []) rfl rfl rfl rfl rfl rfl cc1 (by decide) (by decide) (Nat.le_of_ble_eq_true rfl) ⟨Nat.le_trans (Nat.le_of_eq g1.1.2.2.2.1) hN, Nat.le_trans (Nat.le_of_eq g1.1.2.2.2.2) hU⟩ ?_
    show XB l Ls xs 14 538 false 288 N U F 1437 [xf 50 1, xf 12 2, xf 13 104, xf 40001 152, xi i, x5, x6] [xi (X 50)] h1
    refine XB_path (sc := some (Ls, xs)) (inl := []) (n := 80) (sp := [1439]) (o := []) (xin_ok rfl) (Or.inr rfl) rfl rfl (Nat.le_trans (Nat.le_of_eq g1.1.2.2.2.1) hN) (Nat.le_trans (Nat.le_of_eq g1.1.2.2.2.2) hU) trivial ?_
    show XB l Ls xs 14 538 false 288 N U F 1439 [xf 50 1, xf 12 2, xf 13 104, xf 40001 152, xi i, x5, x6] [xf 13 104] h1
    obtain ⟨v2, h2, cc2, g2, f2, -⟩ := vl_286 l h1 g1.1
    have im1 : jIm Z X h1 := x4.f7 A.1 ((vKeep.of g1.2 (by decide +kernel)) : vKeep vLim _ _)
    obtain ⟨h4, cc4, G4, o76, jw4, jy4⟩ := jk_backW l Z X h1 (mI.of g1.1) A (fun z => hk (Im.1.trans ((g1.2.1 104 78 rfl).symm.trans z))) im1
    refine XB_two (i := .invokevirtual 286) (aux := 1) (nx := 1442) (K := 286) (vs := [xf 13 104]) (rs := [xi v2]) (rs2 := [xi (X 50)]) (rest := []) rfl rfl rfl rfl rfl rfl cc2 cc4 ⟨g2.2.2.2.1.trans g1.1.2.2.2.1.symm, g2.2.2.2.2.trans g1.1.2.2.2.2.symm⟩ ⟨G4.1.2.2.2.1.trans g1.1.2.2.2.1.symm, G4.1.2.2.2.2.trans g1.1.2.2.2.2.symm⟩ (by decide) (by decide) (by decide) (by decide) (Nat.le_of_ble_eq_true rfl) ⟨Nat.le_trans (Nat.le_of_eq g2.2.2.2.1) hN, Nat.le_trans (Nat.le_of_eq g2.2.2.2.2) hU⟩ (fun ag2 => ?_)
    show XB l Ls xs 14 538 false 288 N U F 1442 [xf 50 1, xf 12 2, xf 13 104, xf 40001 152, xi i, x5, x6] [xi v2] h2
    have ev2 : v2 = X 50 := ag2.v
    have same : X 50 = v2 := ev2.symm
    obtain ⟨-, -, -, -, -, -, -, -, -, -, -, -, m76, -⟩ := zag_m ag2 g2.1 G4.1.1
    have RT : vRl h2 := ⟨R0.1.fr ((((vKeep.of g1.2 (by decide +kernel)) : vKeep vL1 _ _)).tr ((vKeep.of f2 (by decide +kernel)) : vKeep vL1 _ _)), c0, Z, X, 0, fun _ => X, En, t0.fr ((f2.2 2 1 rfl).trans (g1.2.2 2 1 rfl)) ((f2.2 2 2 rfl).trans (g1.2.2 2 2 rfl)), vPst.nil A x1 x2 En, ⟨Cl.1.f7 t0.c ((((vKeep.of g1.2 (by decide +kernel)) : vKeep vL6c _ _)).tr ((vKeep.of f2 (by decide +kernel)) : vKeep vL6c _ _)), vWo48.fr kI ((vKeep.of f2 (by decide +kernel)) : vKeep vLw48 _ _) (f2.2 48 0 rfl), ⟨by rw [f2.1 81 0 rfl, s1]; rfl, fun k hk => absurd hk (Nat.not_lt_zero k)⟩⟩, ⟨Mo.1.f7 hg.1 ((((vKeep.of g1.2 (by decide +kernel)) : vKeep vL6j _ _)).tr ((vKeep.of f2 (by decide +kernel)) : vKeep vL6j _ _)), jHf.ag ag2 g2.1 G4.1.1 A.1 jw4, jY.ag ag2 g2.1 G4.1.1 A.1 jy4, ⟨by rw [m76, o76]; rfl, fun k hk => absurd hk (Nat.not_lt_zero k)⟩⟩, Im.f7 A.1 ((((vKeep.of g1.2 (by decide +kernel)) : vKeep (vLw70 ++ vLim) _ _)).tr ((vKeep.of f2 (by decide +kernel)) : vKeep (vLw70 ++ vLim) _ _)) ((f2.2 70 0 rfl).trans (g1.2.2 70 0 rfl))⟩
    refine XB_path (sc := some (Ls, xs)) (inl := []) (n := 80) (sp := [23]) (o := []) (xin_ok rfl) (Or.inr rfl) rfl rfl (Nat.le_trans (Nat.le_of_eq g2.2.2.2.1) hN) (Nat.le_trans (Nat.le_of_eq g2.2.2.2.2) hU) trivial ?_
    show XB l Ls xs 14 538 false 288 N U F 23 [xf 50 1, xf 12 2, xf 13 104, xf 40001 152, xi (i + Int32.ofInt (6)), x5, x6] [] h2
    exact k h2 (x5) (x6) ⟨g2, RT⟩
set_option maxRecDepth 100000 in
set_option maxHeartbeats 4000000 in
theorem lw_c35 (l : Launch) (Ls : Nat) (xs : Nat → Int32) (N U : Nat) (F : List XV → XH → Prop) (i : Int32) (x5 x6 : XV) (h : XH) (H : vLw h) (i0 : 0 ≤ i.toInt) (i1 : i.toInt + 6 ≤ Ls) (hL : Ls ≤ 3072) (eL : (Int32.ofNat Ls - (Int32.ofInt (6))).toInt = Ls - 6) (hN : 153 ≤ N) (hU : 6051 ≤ U) (hc : (xs (i).toNatClampNeg &&& (Int32.ofInt (63))).toInt = 35) (k : ∀ h' x5' x6', vLw h' → XB l Ls xs 14 538 false 288 N U F 23 [xf 50 1, xf 12 2, xf 13 104, xf 40001 152, xi (i + (Int32.ofInt (6))), x5', x6'] [] h') : XB l Ls xs 14 538 false 288 N U F 23 [xf 50 1, xf 12 2, xf 13 104, xf 40001 152, xi i, x5, x6] [] h := by
  have e1 : (i + (Int32.ofInt (1))).toInt = i.toInt + 1 := by rw [Int32.toInt_add, show (Int32.ofInt (1)).toInt = 1 from rfl]; exact Int.bmod_eq_of_le (by omega) (by omega)
  have e2 : (i + (Int32.ofInt (2))).toInt = i.toInt + 2 := by rw [Int32.toInt_add, show (Int32.ofInt (2)).toInt = 2 from rfl]; exact Int.bmod_eq_of_le (by omega) (by omega)
  have e3 : (i + (Int32.ofInt (3))).toInt = i.toInt + 3 := by rw [Int32.toInt_add, show (Int32.ofInt (3)).toInt = 3 from rfl]; exact Int.bmod_eq_of_le (by omega) (by omega)
  have e4 : (i + (Int32.ofInt (4))).toInt = i.toInt + 4 := by rw [Int32.toInt_add, show (Int32.ofInt (4)).toInt = 4 from rfl]; exact Int.bmod_eq_of_le (by omega) (by omega)
  have e5 : (i + (Int32.ofInt (5))).toInt = i.toInt + 5 := by rw [Int32.toInt_add, show (Int32.ofInt (5)).toInt = 5 from rfl]; exact Int.bmod_eq_of_le (by omega) (by omega)
  have hg := H.1
  have R0 := H.2
  refine XB_path (sc := some (Ls, xs)) (inl := []) (n := 80) (sp := [1453]) (o := [0, 36]) (xin_ok rfl) (Or.inr rfl) rfl rfl (Nat.le_trans (Nat.le_of_eq hg.2.2.2.1) hN) (Nat.le_trans (Nat.le_of_eq hg.2.2.2.2) hU) ⟨⟨⟨⟨trivial, (fun z => absurd (Int32.lt_iff_toInt_lt.mp z) (by omega))⟩, (vp_of (i := i) (n := Ls) (by omega) (by omega))⟩, ⟨hc, by decide⟩⟩, (vp_of (i := (i + (Int32.ofInt (1)))) (n := Ls) (by omega) (by omega))⟩ ?_
  show XB l Ls xs 14 538 false 288 N U F 1453 [xf 50 1, xf 12 2, xf 13 104, xf 40001 152, xi i, x5, x6] [xi (xs ((i + (Int32.ofInt (1)))).toNatClampNeg), xf 12 2] h
  obtain ⟨v1, h1, cc1, g1, f1, -⟩ := vl_165 l ((xs ((i + (Int32.ofInt (1)))).toNatClampNeg)) h hg (i32r_of _)
  refine XB_call (i := .invokevirtual 165) (aux := 2) (nx := 1456) (K := 165) (vs := [xf 12 2, xi (xs ((i + (Int32.ofInt (1)))).toNatClampNeg)]) (rs := [xi v1]) (rest := []) rfl rfl rfl rfl rfl rfl cc1 (by decide) (by decide) (Nat.le_of_ble_eq_true rfl) ⟨Nat.le_trans (Nat.le_of_eq g1.2.2.2.1) hN, Nat.le_trans (Nat.le_of_eq g1.2.2.2.2) hU⟩ ?_
  show XB l Ls xs 14 538 false 288 N U F 1456 [xf 50 1, xf 12 2, xf 13 104, xf 40001 152, xi i, x5, x6] [xi v1] h1
  have R1 := R0.fr hg.1 f1 (by decide +kernel) (by decide +kernel) rfl rfl rfl rfl
  refine XB_path (sc := some (Ls, xs)) (inl := []) (n := 80) (sp := [1464]) (o := []) (xin_ok rfl) (Or.inr rfl) rfl rfl (Nat.le_trans (Nat.le_of_eq g1.2.2.2.1) hN) (Nat.le_trans (Nat.le_of_eq g1.2.2.2.2) hU) ⟨trivial, (vp_of (i := (i + (Int32.ofInt (1)))) (n := Ls) (by omega) (by omega))⟩ ?_
  show XB l Ls xs 14 538 false 288 N U F 1464 [xf 50 1, xf 12 2, xf 13 104, xf 40001 152, xi i, x5, x6] [xi (xs ((i + (Int32.ofInt (1)))).toNatClampNeg), xf 13 104] h1
  obtain ⟨v2, h2, cc2, g2, f2, -⟩ := vl_287 l ((xs ((i + (Int32.ofInt (1)))).toNatClampNeg)) h1 g1 (i32r_of _)
  refine XB_call (i := .invokevirtual 287) (aux := 2) (nx := 1467) (K := 287) (vs := [xf 13 104, xi (xs ((i + (Int32.ofInt (1)))).toNatClampNeg)]) (rs := [xi v2]) (rest := []) rfl rfl rfl rfl rfl rfl cc2 (by decide) (by decide) (Nat.le_of_ble_eq_true rfl) ⟨Nat.le_trans (Nat.le_of_eq g2.2.2.2.1) hN, Nat.le_trans (Nat.le_of_eq g2.2.2.2.2) hU⟩ ?_
  show XB l Ls xs 14 538 false 288 N U F 1467 [xf 50 1, xf 12 2, xf 13 104, xf 40001 152, xi i, x5, x6] [xi v2] h2
  have R2 := R1.fr g1.1 f2 (by decide +kernel) (by decide +kernel) rfl rfl rfl rfl
  refine XB_path (sc := some (Ls, xs)) (inl := []) (n := 80) (sp := [23]) (o := []) (xin_ok rfl) (Or.inr rfl) rfl rfl (Nat.le_trans (Nat.le_of_eq g2.2.2.2.1) hN) (Nat.le_trans (Nat.le_of_eq g2.2.2.2.2) hU) trivial ?_
  show XB l Ls xs 14 538 false 288 N U F 23 [xf 50 1, xf 12 2, xf 13 104, xf 40001 152, xi (i + Int32.ofInt (6)), x5, x6] [] h2
  exact k h2 (x5) (x6) ⟨g2, R2⟩
set_option maxRecDepth 100000 in
set_option maxHeartbeats 4000000 in
theorem lw_cd (l : Launch) (Ls : Nat) (xs : Nat → Int32) (N U : Nat) (F : List XV → XH → Prop) (i : Int32) (x5 x6 : XV) (h : XH) (H : vLw h) (i0 : 0 ≤ i.toInt) (i1 : i.toInt + 6 ≤ Ls) (hL : Ls ≤ 3072) (eL : (Int32.ofNat Ls - (Int32.ofInt (6))).toInt = Ls - 6) (hN : 153 ≤ N) (hU : 6051 ≤ U) (hc : (xs (i).toNatClampNeg &&& (Int32.ofInt (63))).toInt < 0 ∨ 35 < (xs (i).toNatClampNeg &&& (Int32.ofInt (63))).toInt) (k : ∀ h' x5' x6', vLw h' → XB l Ls xs 14 538 false 288 N U F 23 [xf 50 1, xf 12 2, xf 13 104, xf 40001 152, xi (i + (Int32.ofInt (6))), x5', x6'] [] h') : XB l Ls xs 14 538 false 288 N U F 23 [xf 50 1, xf 12 2, xf 13 104, xf 40001 152, xi i, x5, x6] [] h := by
  have hg := H.1
  refine XB_path (sc := some (Ls, xs)) (inl := []) (n := 80) (sp := [23]) (o := [0, 0]) (xin_ok rfl) (Or.inr rfl) rfl rfl (Nat.le_trans (Nat.le_of_eq hg.2.2.2.1) hN) (Nat.le_trans (Nat.le_of_eq hg.2.2.2.2) hU) ⟨⟨⟨trivial, (fun z => absurd (Int32.lt_iff_toInt_lt.mp z) (by omega))⟩, (vp_of (i := i) (n := Ls) (by omega) (by omega))⟩, hc⟩ ?_
  show XB l Ls xs 14 538 false 288 N U F 23 [xf 50 1, xf 12 2, xf 13 104, xf 40001 152, xi (i + Int32.ofInt (6)), x5, x6] [] h
  exact k h x5 x6 H
set_option maxRecDepth 100000 in
set_option maxHeartbeats 4000000 in
theorem lw_loop (l : Launch) (Ls : Nat) (xs : Nat → Int32) (hL : Ls ≤ 3072) (eL : (Int32.ofNat Ls - (Int32.ofInt (6))).toInt = Ls - 6) : ∀ (m : Nat) (i : Int32) (x5 x6 : XV) (h : XH), vLw h → 0 ≤ i.toInt → i.toInt ≤ 4000 → (Ls : Int) < i.toInt + 6 * m + 6 → XB l Ls xs 14 538 false 288 (153 + m) (6051 + 6 * m) (fun rs _ => rs = [xi 1]) 23 [xf 50 1, xf 12 2, xf 13 104, xf 40001 152, xi i, x5, x6] [] h
  | m, i, x5, x6, h, H, i0, i4, hm => by
    have hg := H.1
    have hN : 153 ≤ 153 + m := by omega
    have hU : 6051 ≤ 6051 + 6 * m := by omega
    by_cases hi : i.toInt + 6 ≤ Ls
    · match m, hm, hN, hU with
      | 0, hm, hN, hU => exact absurd hi (by omega)
      | m + 1, hm, hN, hU =>
        have ei : (i + (Int32.ofInt (6))).toInt = i.toInt + 6 := by rw [Int32.toInt_add, show (Int32.ofInt (6)).toInt = 6 from rfl]; exact Int.bmod_eq_of_le (by omega) (by omega)
        have k : ∀ h' x5' x6', vLw h' → XB l Ls xs 14 538 false 288 (153 + m) (6051 + 6 * m) (fun rs _ => rs = [xi 1]) 23 [xf 50 1, xf 12 2, xf 13 104, xf 40001 152, xi (i + (Int32.ofInt (6))), x5', x6'] [] h' := fun h' x5' x6' H' => lw_loop l Ls xs hL eL m _ x5' x6' h' H' (by omega) (by omega) (by omega)
        rw [show 153 + (m + 1) = 153 + m + 1 by omega, show 6051 + 6 * (m + 1) = 6051 + 6 * m + 6 by omega]
        by_cases z0 : (xs (i).toNatClampNeg &&& (Int32.ofInt (63))).toInt = 0
        · exact XB_mono (Nat.le_succ _) (Nat.le_add_right _ 6) (lw_c0 l Ls xs _ _ _ i x5 x6 h H i0 hi hL eL (by omega) (by omega) z0 k)
        by_cases z1 : (xs (i).toNatClampNeg &&& (Int32.ofInt (63))).toInt = 1
        · exact XB_mono (Nat.le_succ _) (Nat.le_add_right _ 6) (lw_c1 l Ls xs _ _ _ i x5 x6 h H i0 hi hL eL (by omega) (by omega) z1 k)
        by_cases z2 : (xs (i).toNatClampNeg &&& (Int32.ofInt (63))).toInt = 2
        · exact XB_mono (Nat.le_succ _) (Nat.le_add_right _ 6) (lw_c2 l Ls xs _ _ _ i x5 x6 h H i0 hi hL eL (by omega) (by omega) z2 k)
        by_cases z3 : (xs (i).toNatClampNeg &&& (Int32.ofInt (63))).toInt = 3
        · exact XB_mono (Nat.le_succ _) (Nat.le_add_right _ 6) (lw_c3 l Ls xs _ _ _ i x5 x6 h H i0 hi hL eL (by omega) (by omega) z3 k)
        by_cases z4 : (xs (i).toNatClampNeg &&& (Int32.ofInt (63))).toInt = 4
        · exact lw_c4 l Ls xs _ _ _ i x5 x6 h H i0 hi hL eL (by omega) (by omega) z4 k
        by_cases z5 : (xs (i).toNatClampNeg &&& (Int32.ofInt (63))).toInt = 5
        · exact XB_mono (Nat.le_succ _) (Nat.le_add_right _ 6) (lw_c5 l Ls xs _ _ _ i x5 x6 h H i0 hi hL eL (by omega) (by omega) z5 k)
        by_cases z6 : (xs (i).toNatClampNeg &&& (Int32.ofInt (63))).toInt = 6
        · exact XB_mono (Nat.le_succ _) (Nat.le_add_right _ 6) (lw_c6 l Ls xs _ _ _ i x5 x6 h H i0 hi hL eL (by omega) (by omega) z6 k)
        by_cases z7 : (xs (i).toNatClampNeg &&& (Int32.ofInt (63))).toInt = 7
        · exact XB_mono (Nat.le_succ _) (Nat.le_add_right _ 6) (lw_c7 l Ls xs _ _ _ i x5 x6 h H i0 hi hL eL (by omega) (by omega) z7 k)
        by_cases z8 : (xs (i).toNatClampNeg &&& (Int32.ofInt (63))).toInt = 8
        · exact XB_mono (Nat.le_succ _) (Nat.le_add_right _ 6) (lw_c8 l Ls xs _ _ _ i x5 x6 h H i0 hi hL eL (by omega) (by omega) z8 k)
        by_cases z9 : (xs (i).toNatClampNeg &&& (Int32.ofInt (63))).toInt = 9
        · exact XB_mono (Nat.le_succ _) (Nat.le_add_right _ 6) (lw_c9 l Ls xs _ _ _ i x5 x6 h H i0 hi hL eL (by omega) (by omega) z9 k)
        by_cases z10 : (xs (i).toNatClampNeg &&& (Int32.ofInt (63))).toInt = 10
        · exact XB_mono (Nat.le_succ _) (Nat.le_add_right _ 6) (lw_c10 l Ls xs _ _ _ i x5 x6 h H i0 hi hL eL (by omega) (by omega) z10 k)
        by_cases z11 : (xs (i).toNatClampNeg &&& (Int32.ofInt (63))).toInt = 11
        · exact XB_mono (Nat.le_succ _) (Nat.le_add_right _ 6) (lw_c11 l Ls xs _ _ _ i x5 x6 h H i0 hi hL eL (by omega) (by omega) z11 k)
        by_cases z12 : (xs (i).toNatClampNeg &&& (Int32.ofInt (63))).toInt = 12
        · exact XB_mono (Nat.le_succ _) (Nat.le_add_right _ 6) (lw_c12 l Ls xs _ _ _ i x5 x6 h H i0 hi hL eL (by omega) (by omega) z12 k)
        by_cases z13 : (xs (i).toNatClampNeg &&& (Int32.ofInt (63))).toInt = 13
        · exact XB_mono (Nat.le_succ _) (Nat.le_add_right _ 6) (lw_c13 l Ls xs _ _ _ i x5 x6 h H i0 hi hL eL (by omega) (by omega) z13 k)
        by_cases z14 : (xs (i).toNatClampNeg &&& (Int32.ofInt (63))).toInt = 14
        · exact XB_mono (Nat.le_succ _) (Nat.le_add_right _ 6) (lw_c14 l Ls xs _ _ _ i x5 x6 h H i0 hi hL eL (by omega) (by omega) z14 k)
        by_cases z15 : (xs (i).toNatClampNeg &&& (Int32.ofInt (63))).toInt = 15
        · exact XB_mono (Nat.le_succ _) (Nat.le_add_right _ 6) (lw_c15 l Ls xs _ _ _ i x5 x6 h H i0 hi hL eL (by omega) (by omega) z15 k)
        by_cases z16 : (xs (i).toNatClampNeg &&& (Int32.ofInt (63))).toInt = 16
        · exact XB_mono (Nat.le_succ _) (Nat.le_add_right _ 6) (lw_c16 l Ls xs _ _ _ i x5 x6 h H i0 hi hL eL (by omega) (by omega) z16 k)
        by_cases z17 : (xs (i).toNatClampNeg &&& (Int32.ofInt (63))).toInt = 17
        · exact XB_mono (Nat.le_succ _) (Nat.le_add_right _ 6) (lw_c17 l Ls xs _ _ _ i x5 x6 h H i0 hi hL eL (by omega) (by omega) z17 k)
        by_cases z18 : (xs (i).toNatClampNeg &&& (Int32.ofInt (63))).toInt = 18
        · exact XB_mono (Nat.le_succ _) (Nat.le_add_right _ 6) (lw_c18 l Ls xs _ _ _ i x5 x6 h H i0 hi hL eL (by omega) (by omega) z18 k)
        by_cases z19 : (xs (i).toNatClampNeg &&& (Int32.ofInt (63))).toInt = 19
        · exact XB_mono (Nat.le_succ _) (Nat.le_add_right _ 6) (lw_c19 l Ls xs _ _ _ i x5 x6 h H i0 hi hL eL (by omega) (by omega) z19 k)
        by_cases z20 : (xs (i).toNatClampNeg &&& (Int32.ofInt (63))).toInt = 20
        · exact XB_mono (Nat.le_succ _) (Nat.le_add_right _ 6) (lw_c20 l Ls xs _ _ _ i x5 x6 h H i0 hi hL eL (by omega) (by omega) z20 k)
        by_cases z21 : (xs (i).toNatClampNeg &&& (Int32.ofInt (63))).toInt = 21
        · exact XB_mono (Nat.le_succ _) (Nat.le_add_right _ 6) (lw_c21 l Ls xs _ _ _ i x5 x6 h H i0 hi hL eL (by omega) (by omega) z21 k)
        by_cases z22 : (xs (i).toNatClampNeg &&& (Int32.ofInt (63))).toInt = 22
        · exact XB_mono (Nat.le_succ _) (Nat.le_add_right _ 6) (lw_c22 l Ls xs _ _ _ i x5 x6 h H i0 hi hL eL (by omega) (by omega) z22 k)
        by_cases z23 : (xs (i).toNatClampNeg &&& (Int32.ofInt (63))).toInt = 23
        · exact XB_mono (Nat.le_succ _) (Nat.le_add_right _ 6) (lw_c23 l Ls xs _ _ _ i x5 x6 h H i0 hi hL eL (by omega) (by omega) z23 k)
        by_cases z24 : (xs (i).toNatClampNeg &&& (Int32.ofInt (63))).toInt = 24
        · exact XB_mono (Nat.le_succ _) (Nat.le_add_right _ 6) (lw_c24 l Ls xs _ _ _ i x5 x6 h H i0 hi hL eL (by omega) (by omega) z24 k)
        by_cases z25 : (xs (i).toNatClampNeg &&& (Int32.ofInt (63))).toInt = 25
        · exact XB_mono (Nat.le_succ _) (Nat.le_add_right _ 6) (lw_c25 l Ls xs _ _ _ i x5 x6 h H i0 hi hL eL (by omega) (by omega) z25 k)
        by_cases z26 : (xs (i).toNatClampNeg &&& (Int32.ofInt (63))).toInt = 26
        · exact XB_mono (Nat.le_succ _) (Nat.le_add_right _ 6) (lw_c26 l Ls xs _ _ _ i x5 x6 h H i0 hi hL eL (by omega) (by omega) z26 k)
        by_cases z27 : (xs (i).toNatClampNeg &&& (Int32.ofInt (63))).toInt = 27
        · exact XB_mono (Nat.le_succ _) (Nat.le_add_right _ 6) (lw_c27 l Ls xs _ _ _ i x5 x6 h H i0 hi hL eL (by omega) (by omega) z27 k)
        by_cases z28 : (xs (i).toNatClampNeg &&& (Int32.ofInt (63))).toInt = 28
        · exact XB_mono (Nat.le_succ _) (Nat.le_add_right _ 6) (lw_c28 l Ls xs _ _ _ i x5 x6 h H i0 hi hL eL (by omega) (by omega) z28 k)
        by_cases z29 : (xs (i).toNatClampNeg &&& (Int32.ofInt (63))).toInt = 29
        · exact XB_mono (Nat.le_succ _) (Nat.le_add_right _ 6) (lw_c29 l Ls xs _ _ _ i x5 x6 h H i0 hi hL eL (by omega) (by omega) z29 k)
        by_cases z30 : (xs (i).toNatClampNeg &&& (Int32.ofInt (63))).toInt = 30
        · exact XB_mono (Nat.le_succ _) (Nat.le_add_right _ 6) (lw_c30 l Ls xs _ _ _ i x5 x6 h H i0 hi hL eL (by omega) (by omega) z30 k)
        by_cases z31 : (xs (i).toNatClampNeg &&& (Int32.ofInt (63))).toInt = 31
        · exact XB_mono (Nat.le_succ _) (Nat.le_add_right _ 6) (lw_c31 l Ls xs _ _ _ i x5 x6 h H i0 hi hL eL (by omega) (by omega) z31 k)
        by_cases z32 : (xs (i).toNatClampNeg &&& (Int32.ofInt (63))).toInt = 32
        · exact XB_mono (Nat.le_succ _) (Nat.le_add_right _ 6) (lw_c32 l Ls xs _ _ _ i x5 x6 h H i0 hi hL eL (by omega) (by omega) z32 k)
        by_cases z33 : (xs (i).toNatClampNeg &&& (Int32.ofInt (63))).toInt = 33
        · exact XB_mono (Nat.le_succ _) (Nat.le_add_right _ 6) (lw_c33 l Ls xs _ _ _ i x5 x6 h H i0 hi hL eL (by omega) (by omega) z33 k)
        by_cases z34 : (xs (i).toNatClampNeg &&& (Int32.ofInt (63))).toInt = 34
        · exact XB_mono (Nat.le_succ _) (Nat.le_add_right _ 6) (lw_c34 l Ls xs _ _ _ i x5 x6 h H i0 hi hL eL (by omega) (by omega) z34 k)
        by_cases z35 : (xs (i).toNatClampNeg &&& (Int32.ofInt (63))).toInt = 35
        · exact XB_mono (Nat.le_succ _) (Nat.le_add_right _ 6) (lw_c35 l Ls xs _ _ _ i x5 x6 h H i0 hi hL eL (by omega) (by omega) z35 k)
        exact XB_mono (Nat.le_succ _) (Nat.le_add_right _ 6) (lw_cd l Ls xs _ _ _ i x5 x6 h H i0 hi hL eL (by omega) (by omega) (by omega) k)
    · refine XB_path (sc := some (Ls, xs)) (inl := []) (n := 80) (sp := [1478]) (o := [1]) (xin_ok rfl) (Or.inr rfl) rfl rfl (Nat.le_trans (Nat.le_of_eq hg.2.2.2.1) hN) (Nat.le_trans (Nat.le_of_eq hg.2.2.2.2) hU) ⟨trivial, (Int32.lt_iff_toInt_lt.mpr (by omega))⟩ ?_
      show XB l Ls xs 14 538 false 288 (153 + m) (6051 + 6 * m) (fun rs _ => rs = [xi 1]) 1478 [xf 50 1, xf 12 2, xf 13 104, xf 40001 152, xi i, x5, x6] [xi (Int32.ofInt (1))] h
      exact XB_ret ⟨_, _, _, rfl, rfl, rfl⟩ rfl rfl
