/-! THE CLASS READS AN EXPRESSION, A LAW. -/
theorem tkc_b (b : Nat → Int) (n q : Nat) : 0 ≤ tkc b n q ∧ tkc b n q ≤ 39 := by
  unfold tkc sTk
  split
  · exact ⟨Int.le_refl 0, by show (0 : Int) ≤ 39; decide⟩
  · split
    · split
      · exact ⟨by show (0 : Int) ≤ 1; decide, by show (1 : Int) ≤ 39; decide⟩
      · have z := sWord_r (sPk b q (sLr b (n - q) q - q))
        show 0 ≤ sWord (sPk b q (sLr b (n - q) q - q)) ∧ sWord (sPk b q (sLr b (n - q) q - q)) ≤ 39
        omega
    · split
      · exact ⟨by show (0 : Int) ≤ 2; decide, by show (2 : Int) ≤ 39; decide⟩
      · have z := sSg_c b n q
        show 0 ≤ (sSg b n q).1 ∧ (sSg b n q).1 ≤ 39
        omega
theorem zstep_end {c v : Int} {Z : Nat → Int} (h : (zstep c v Z).1 = 0) : ¬ c = 0 := by
  intro z
  unfold zstep at h
  rw [z] at h
  have l0 : lev 0 = 0 := by decide
  split at h
  · rw [if_neg (by decide), if_neg (by omega), if_pos (by omega)] at h
    cases h
  · rw [if_neg (by omega), if_pos (Or.inl l0)] at h
    cases h
theorem zE_brk {b : Nat → Int} {n m : Nat} {Z : Nat → Int} {q : Nat} (h : Z 13 = 0 ∧ tkc b n q = 4 ∧ Z 12 = 0) : zE b n (m + 1) Z q = (0, 0, zput 0 Z, q) := if_pos h
theorem zE_bad {b : Nat → Int} {n m : Nat} {Z : Nat → Int} {q : Nat} (h : ¬ (Z 13 = 0 ∧ tkc b n q = 4 ∧ Z 12 = 0)) (g : ¬ (zstep (tkc b n q) (tkv b n q) Z).1 = 0) : zE b n (m + 1) Z q = ((zstep (tkc b n q) (tkv b n q) Z).1, q, Z, q) := (if_neg h).trans (if_pos g)
theorem zE_go {b : Nat → Int} {n m : Nat} {Z : Nat → Int} {q : Nat} (h : ¬ (Z 13 = 0 ∧ tkc b n q = 4 ∧ Z 12 = 0)) (g : (zstep (tkc b n q) (tkv b n q) Z).1 = 0) : zE b n (m + 1) Z q = zE b n m (zstep (tkc b n q) (tkv b n q) Z).2 (nxt b n q) := (if_neg h).trans (if_neg (fun z => z g))
theorem zE_inv {b : Nat → Int} {n : Nat} {f : Int} : ∀ (m : Nat) (Z : Nat → Int) (q : Nat), zInv f Z → q ≤ n → (zE b n m Z q).1 = 0 → (zE b n m Z q).2.2.1 11 = 0 ∧ (zE b n m Z q).2.2.1 10 = (zE b n m Z q).2.2.1 6 ∧ (zE b n m Z q).2.2.1 6 ≤ 64 ∧ f < (zE b n m Z q).2.2.1 10 ∧ (∀ i : Nat, i < 300 → i ≠ 6 → ¬ (10 ≤ i ∧ i ≤ 14) → (zE b n m Z q).2.2.1 i = Z i) ∧ Z 10 ≤ (zE b n m Z q).2.2.1 10 ∧ (∀ k : Nat, (k : Int) < Z 10 → ∀ o : Nat, o = 300 ∨ o = 400 ∨ o = 500 ∨ o = 600 → (zE b n m Z q).2.2.1 (o + k) = Z (o + k)) ∧ q ≤ (zE b n m Z q).2.2.2 ∧ (zE b n m Z q).2.2.2 ≤ n ∧ tkc b n (zE b n m Z q).2.2.2 = 4
  | 0, Z, q, I, hq, h => absurd h (by show ¬ (1 : Int) = 0; decide)
  | m + 1, Z, q, I, hq, h => by
    by_cases e : Z 13 = 0 ∧ tkc b n q = 4 ∧ Z 12 = 0
    · rw [zE_brk e]
      obtain ⟨r1, r2, r3, r4, r5, r6, r7, r8⟩ := zInv_put (lv := 0) (Int.le_refl 0) I e.1
      have B := r1.b
      have q12 := r5 12 (by omega) (by omega) (by omega) (by omega)
      have q6 := r5 6 (by omega) (by omega) (by omega) (by omega)
      have e11 : zput 0 Z 11 = 0 := by
        apply Classical.byContradiction
        intro z
        rw [ztl_top (by omega)] at r2
        have l := lev_b (ztop (zput 0 Z))
        have s : zsn (ztop (zput 0 Z)) := r1.2.2.1 ((zput 0 Z 11).toNat - 1) (by omega)
        have nn := lev_0.mp (show lev (ztop (zput 0 Z)) = 0 by omega)
        have t5 : ztop (zput 0 Z) = 5 := s.resolve_right nn
        obtain ⟨m, em⟩ : ∃ m : Nat, (zput 0 Z 11).toNat = m + 1 := ⟨(zput 0 Z 11).toNat - 1, by omega⟩
        have et' : (zput 0 Z) (700 + m) = 5 := by
          rw [← t5]
          unfold ztop
          rw [em]
          rfl
        have b1 := r1.2.1.1
        rw [em, zc_su, et'] at b1
        have za := zc_all (zput 0 Z) m
        have k0 : zgo 5 = 1 := rfl
        omega
      have b2 := r1.2.1.2.1
      have b3 := r1.2.1.2.2
      rw [e11] at b2 b3
      have z0 : zc zgb (zput 0 Z) (0 : Int).toNat = 0 := rfl
      have z1 : zc zgk (zput 0 Z) (0 : Int).toNat = 0 := rfl
      have h0 := r1.2.2.2 0 (by omega)
      refine ⟨e11, ?_, ?_, ?_, fun i h1 h2 h3 => r5 i h1 (by omega) (by omega) (by omega), r4, r6, Nat.le_refl _, hq, e.2.1⟩
      · show zput 0 Z 10 = zput 0 Z 6
        omega
      · show zput 0 Z 6 ≤ 64
        omega
      · show f < zput 0 Z 10
        omega
    · by_cases g : (zstep (tkc b n q) (tkv b n q) Z).1 = 0
      · rw [zE_go e g] at h ⊢
        obtain ⟨J, y1, y2, y3⟩ := zstep_inv I (tkc_b b n q).1 g
        have nb := nxt_b (b := b) hq
        have lt := tkc_lt (zstep_end g)
        obtain ⟨a1, a2, a3, a4, a5, a6, a7, a8, a9, a10⟩ := zE_inv m _ (nxt b n q) J (by omega) h
        refine ⟨a1, a2, a3, a4, fun i h1 h2 h3 => (a5 i h1 h2 h3).trans (y1 i h1 h2 h3), by omega, fun k hk o ho => (a7 k (by omega) o ho).trans (y3 k hk o ho), by omega, a9, a10⟩
      · rw [zE_bad e g] at h
        exact absurd h g
set_option maxRecDepth 100000 in
set_option maxHeartbeats 4000000 in
theorem ck_E3 (l : Launch) (f : Int) (b : Nat → Int) (n : Nat) (w : Int32) : ∀ (m q : Nat) (Z : Nat → Int) (due k : Int32) (h : XH), sgood vT vR vE 153 6051 h → kT b n q h → (xI h 45 2).toInt = 0 → xR h 45 4 = 3 → kO 18 19 20 Z h → kS Z h → zInv f Z → due.toInt = Z 13 → (due = 0 ∨ due = 1) → k.toInt + m = n + 1 → 0 ≤ k.toInt → k.toInt ≤ q → ((zE b n m Z q).1 = 0 ∧ ∃ d' k' h', XT l 7 218 false 51 153 6051 85 [xf 7 45, xi w, xi due, xi k] [] h 154 [xf 7 45, xi w, xi d', xi k'] [] h' ∧ vG ([(18, 5, false), (18, 6, false), (19, 0, true), (20, 0, true), (45, 2, false), (45, 3, false), (45, 6, false), (45, 7, false), (45, 8, false), (45, 9, false), (45, 12, false), (45, 13, false), (47, 0, true)], []) h h' ∧ (xI h' 45 2).toInt = 0 ∧ kT b n (zE b n m Z q).2.2.2 h' ∧ kO 18 19 20 (zE b n m Z q).2.2.1 h' ∧ kS (zE b n m Z q).2.2.1 h') ∨ (¬ (zE b n m Z q).1 = 0 ∧ ∃ pcR L' h', XT l 7 218 false 51 153 6051 85 [xf 7 45, xi w, xi due, xi k] [] h pcR L' [] h' ∧ XE 51 pcR [] ∧ L'.length = 4 ∧ vG ([(18, 5, false), (18, 6, false), (19, 0, true), (20, 0, true), (45, 2, false), (45, 3, false), (45, 6, false), (45, 7, false), (45, 8, false), (45, 9, false), (45, 12, false), (45, 13, false), (47, 0, true)], []) h h' ∧ (xI h' 45 2).toInt = (zE b n m Z q).1 ∧ (xI h' 45 3).toInt = (zE b n m Z q).2.1 ∧ kR b n h')
  | 0, q, Z, due, k, h, hg, kt, f0, r4, ko, ks, I, hd, hd1, hk, hk0, hkq => absurd kt.2.2.1 (by omega)
  | m + 1, q, Z, due, k, h, hg, kt, f0, r4, ko, ks, I, hd, hd1, hk, hk0, hkq => by
    have e_0 : (0 : Int32).toInt = 0 := rfl
    have e_1 : (1 : Int32).toInt = 1 := rfl
    obtain ⟨kr, hn7, hq, kq, kc, kv, ke⟩ := id kt
    have ks2 := ks.2.1
    have kr1 := kr.1
    have B := I.b
    have dd : due.toInt = 0 ∨ due.toInt = 1 := hd1.elim (fun z => Or.inl (by rw [z]; rfl)) (fun z => Or.inr (by rw [z]; rfl))
    by_cases cb1 : due = 0
    · have e_0 : (0 : Int32).toInt = 0 := rfl
      have dcb1 : (due).toInt = (0 : Int32).toInt := congrArg Int32.toInt cb1
      by_cases cb2 : (xI h 45 7) = (Int32.ofInt (4))
      · have e_4 : (Int32.ofInt (4)).toInt = 4 := rfl
        have dcb2 : (xI h 45 7).toInt = (Int32.ofInt (4)).toInt := congrArg Int32.toInt cb2
        by_cases cb3 : (xI h 45 13) = 0
        · have e_0 : (0 : Int32).toInt = 0 := rfl
          have dcb3 : (xI h 45 13).toInt = (0 : Int32).toInt := congrArg Int32.toInt cb3
          have t4 : XT l 7 218 false 51 153 6051 85 [xf 7 45, xi w, xi due, xi k] [] h 151 [xf 7 45, xi w, xi due, xi k] [xi (Int32.ofInt (0)), xf 7 45] h := XT_path (l := l) (fr := 7) (lo := 218) (full := false) (M := 51) (n := 153) (u := 6051) (pc := 85) (L := [xf 7 45, xi w, xi due, xi k]) (st := []) (h := h) (inl := []) (n' := 120) (sp := [151]) (o := [0, 0, 0, 0]) rfl rfl ⟨rfl, rfl, rfl⟩ rfl ⟨Nat.le_of_eq hg.2.2.2.1, Nat.le_of_eq hg.2.2.2.2⟩ ⟨⟨⟨⟨trivial, (fun z => absurd (Int32.lt_iff_toInt_lt.mp z) (by omega))⟩, cb1⟩, cb2⟩, cb3⟩
          have br : Z 13 = 0 ∧ tkc b n q = 4 ∧ Z 12 = 0 := ⟨by omega, by omega, by omega⟩
          have ez := zE_brk (m := m) br
          obtain ⟨h1, c1, g1, ko3, ks3⟩ := ck_put3 l f (Int32.ofInt (0)) (by decide) Z h hg r4 ko ks I br.1
          rw [show ((Int32.ofInt (0))).toInt = 0 from rfl] at ko3 ks3
          have t5 : XT l 7 218 false 51 153 6051 151 [xf 7 45, xi w, xi due, xi k] [xi (Int32.ofInt (0)), xf 7 45] h 154 [xf 7 45, xi w, xi due, xi k] [] h1 := XT_call (l := l) (fr := 7) (lo := 218) (full := false) (M := 51) (n := 153) (u := 6051) (pc := 151) (L := [xf 7 45, xi w, xi due, xi k]) (st := [xi (Int32.ofInt (0)), xf 7 45]) (h := h) (i := .invokevirtual 62) (aux := 2) (nx := 154) (K := 62) (vs := [xf 7 45, xi (Int32.ofInt (0))]) (rs := []) (rest := []) rfl rfl rfl rfl rfl rfl c1 (by decide) (by decide) (Nat.le_of_ble_eq_true rfl) ⟨Nat.le_of_eq g1.1.2.2.2.1, Nat.le_of_eq g1.1.2.2.2.2⟩
          have t6 := t4.tr t5
          rw [ez]
          exact Or.inl ⟨rfl, _, _, _, t6, ⟨g1.1, g1.2.mono rfl rfl⟩, by rw [g1.2.1 45 2 rfl]; exact f0, kt.fr (fun k hk => by rcases hk with rfl | rfl | rfl | rfl | rfl | rfl <;> exact g1.2.1 45 _ rfl) (fun k => g1.2.1 46 k rfl), ko3, ks3⟩
        · have e_0 : (0 : Int32).toInt = 0 := rfl
          have dcb3 : ¬ (xI h 45 13).toInt = (0 : Int32).toInt := fun z_ => cb3 (Int32.toInt_inj.mp z_)
          have t7 : XT l 7 218 false 51 153 6051 85 [xf 7 45, xi w, xi due, xi k] [] h 127 [xf 7 45, xi w, xi due, xi k] [xf 7 45] h := XT_path (l := l) (fr := 7) (lo := 218) (full := false) (M := 51) (n := 153) (u := 6051) (pc := 85) (L := [xf 7 45, xi w, xi due, xi k]) (st := []) (h := h) (inl := []) (n' := 120) (sp := [127]) (o := [0, 0, 0, 1, 1]) rfl rfl ⟨rfl, rfl, rfl⟩ rfl ⟨Nat.le_of_eq hg.2.2.2.1, Nat.le_of_eq hg.2.2.2.2⟩ ⟨⟨⟨⟨⟨trivial, (fun z => absurd (Int32.lt_iff_toInt_lt.mp z) (by omega))⟩, cb1⟩, cb2⟩, cb3⟩, cb1⟩
          have nb : ¬ (Z 13 = 0 ∧ tkc b n q = 4 ∧ Z 12 = 0) := by omega
          obtain ⟨v1, h1, c1, g1, o1⟩ := ck_sign3 l f b n q Z h hg kt f0 r4 ko ks I (by omega)
          rcases o1 with ⟨s1, s2, s3, s4, s5, s6, s7⟩ | ⟨s1, s2, s3, s4⟩
          · have t8 : XT l 7 218 false 51 153 6051 127 [xf 7 45, xi w, xi due, xi k] [xf 7 45] h 130 [xf 7 45, xi w, xi due, xi k] [xi v1] h1 := XT_call (l := l) (fr := 7) (lo := 218) (full := false) (M := 51) (n := 153) (u := 6051) (pc := 127) (L := [xf 7 45, xi w, xi due, xi k]) (st := [xf 7 45]) (h := h) (i := .invokevirtual 61) (aux := 1) (nx := 130) (K := 61) (vs := [xf 7 45]) (rs := [xi v1]) (rest := []) rfl rfl rfl rfl rfl rfl c1 (by decide) (by decide) (Nat.le_of_ble_eq_true rfl) ⟨Nat.le_of_eq g1.1.2.2.2.1, Nat.le_of_eq g1.1.2.2.2.2⟩
            have t9 := t7.tr t8
            have t10 : XT l 7 218 false 51 153 6051 130 [xf 7 45, xi w, xi due, xi k] [xi v1] h1 140 [xf 7 45, xi w, xi v1, xi k] [xf 7 45] h1 := XT_path (l := l) (fr := 7) (lo := 218) (full := false) (M := 51) (n := 153) (u := 6051) (pc := 130) (L := [xf 7 45, xi w, xi due, xi k]) (st := [xi v1]) (h := h1) (inl := []) (n' := 120) (sp := [140]) (o := [1]) rfl rfl ⟨rfl, rfl, rfl⟩ rfl ⟨Nat.le_of_eq g1.1.2.2.2.1, Nat.le_of_eq g1.1.2.2.2.2⟩ ⟨trivial, (Int32.toInt_inj.mp s2 : xI h1 45 2 = 0)⟩
            have t11 := t9.tr t10
            obtain ⟨h2, c2, g2, k2⟩ := ck_adv l b n q h1 g1.1 s5
            have t12 : XT l 7 218 false 51 153 6051 140 [xf 7 45, xi w, xi v1, xi k] [xf 7 45] h1 143 [xf 7 45, xi w, xi v1, xi k] [] h2 := XT_call (l := l) (fr := 7) (lo := 218) (full := false) (M := 51) (n := 153) (u := 6051) (pc := 140) (L := [xf 7 45, xi w, xi v1, xi k]) (st := [xf 7 45]) (h := h1) (i := .invokevirtual 19) (aux := 1) (nx := 143) (K := 19) (vs := [xf 7 45]) (rs := []) (rest := []) rfl rfl rfl rfl rfl rfl c2 (by decide) (by decide) (Nat.le_of_ble_eq_true rfl) ⟨Nat.le_of_eq g2.1.2.2.2.1, Nat.le_of_eq g2.1.2.2.2.2⟩
            have t13 := t11.tr t12
            have t14 : XT l 7 218 false 51 153 6051 143 [xf 7 45, xi w, xi v1, xi k] [] h2 85 [xf 7 45, xi w, xi v1, xi (k + Int32.ofInt (1))] [] h2 := XT_path (l := l) (fr := 7) (lo := 218) (full := false) (M := 51) (n := 153) (u := 6051) (pc := 143) (L := [xf 7 45, xi w, xi v1, xi k]) (st := []) (h := h2) (inl := []) (n' := 120) (sp := [85]) (o := []) rfl rfl ⟨rfl, rfl, rfl⟩ rfl ⟨Nat.le_of_eq g2.1.2.2.2.1, Nat.le_of_eq g2.1.2.2.2.2⟩ trivial
            have t15 := t13.tr t14
            rw [zE_go (m := m) nb s1]
            have J := (zstep_inv I (tkc_b b n q).1 s1).1
            have lt := tkc_lt (zstep_end s1)
            have nq := nxt_b (b := b) hq
            have yk := y_suc1 (k := k) (by omega) (by omega)
            have o2 := g2.2.1
            have G : vG ([(18, 5, false), (18, 6, false), (19, 0, true), (20, 0, true), (45, 2, false), (45, 3, false), (45, 6, false), (45, 7, false), (45, 8, false), (45, 9, false), (45, 12, false), (45, 13, false), (47, 0, true)], []) h h2 := vG.tr (W := ([(18, 5, false), (18, 6, false), (19, 0, true), (20, 0, true), (45, 2, false), (45, 3, false), (45, 6, false), (45, 7, false), (45, 8, false), (45, 9, false), (45, 12, false), (45, 13, false), (47, 0, true)], [])) (a := h) (b := h1) ⟨g1.1, g1.2.mono rfl rfl⟩ ⟨g2.1, g2.2.mono rfl rfl⟩
            rcases ck_E3 l f b n w m (nxt b n q) (zstep (tkc b n q) (tkv b n q) Z).2 v1 (k + Int32.ofInt (1)) h2 g2.1 k2 (by rw [o2 45 2 rfl]; exact s2) ((G.2.2 45 4 rfl).trans r4) (s6.fr (o2 18 5 rfl) (by rw [o2 18 6 rfl]; exact s6.2.1) (fun k => o2 19 k rfl) (fun k => o2 20 k rfl) rfl (fun k _ => ⟨rfl, rfl⟩)) (s7.fr (o2 45 12 rfl) (by rw [o2 45 13 rfl]; exact s7.2.1) (fun k => o2 47 k rfl) rfl (fun k _ => rfl)) J s3 s4 (by omega) (by omega) (by omega) with ⟨a1, d', k', h', a2, a3, a4, a5, a6, a7⟩ | ⟨a1, pcR, L', h', a2, a3, a4, a5, a6, a7, a8⟩
            · exact Or.inl ⟨a1, d', k', h', t15.tr a2, G.tr a3, a4, a5, a6, a7⟩
            · exact Or.inr ⟨a1, pcR, L', h', t15.tr a2, a3, a4, G.tr a5, a6, a7, a8⟩
          · have t16 : XT l 7 218 false 51 153 6051 127 [xf 7 45, xi w, xi due, xi k] [xf 7 45] h 130 [xf 7 45, xi w, xi due, xi k] [xi v1] h1 := XT_call (l := l) (fr := 7) (lo := 218) (full := false) (M := 51) (n := 153) (u := 6051) (pc := 127) (L := [xf 7 45, xi w, xi due, xi k]) (st := [xf 7 45]) (h := h) (i := .invokevirtual 61) (aux := 1) (nx := 130) (K := 61) (vs := [xf 7 45]) (rs := [xi v1]) (rest := []) rfl rfl rfl rfl rfl rfl c1 (by decide) (by decide) (Nat.le_of_ble_eq_true rfl) ⟨Nat.le_of_eq g1.1.2.2.2.1, Nat.le_of_eq g1.1.2.2.2.2⟩
            have t17 := t7.tr t16
            have t18 : XT l 7 218 false 51 153 6051 130 [xf 7 45, xi w, xi due, xi k] [xi v1] h1 138 [xf 7 45, xi w, xi v1, xi k] [] h1 := XT_path (l := l) (fr := 7) (lo := 218) (full := false) (M := 51) (n := 153) (u := 6051) (pc := 130) (L := [xf 7 45, xi w, xi due, xi k]) (st := [xi v1]) (h := h1) (inl := []) (n' := 120) (sp := [138]) (o := [0]) rfl rfl ⟨rfl, rfl, rfl⟩ rfl ⟨Nat.le_of_eq g1.1.2.2.2.1, Nat.le_of_eq g1.1.2.2.2.2⟩ ⟨trivial, (fun z_ => s1 ((s2.symm.trans (congrArg Int32.toInt z_)).trans rfl))⟩
            have t19 := t17.tr t18
            rw [zE_bad (m := m) nb s1]
            exact Or.inr ⟨s1, _, _, _, t19, ⟨_, _, _, rfl, rfl, rfl⟩, rfl, ⟨g1.1, g1.2.mono rfl rfl⟩, s2, s3, s4⟩
      · have e_4 : (Int32.ofInt (4)).toInt = 4 := rfl
        have dcb2 : ¬ (xI h 45 7).toInt = (Int32.ofInt (4)).toInt := fun z_ => cb2 (Int32.toInt_inj.mp z_)
        have t20 : XT l 7 218 false 51 153 6051 85 [xf 7 45, xi w, xi due, xi k] [] h 127 [xf 7 45, xi w, xi due, xi k] [xf 7 45] h := XT_path (l := l) (fr := 7) (lo := 218) (full := false) (M := 51) (n := 153) (u := 6051) (pc := 85) (L := [xf 7 45, xi w, xi due, xi k]) (st := []) (h := h) (inl := []) (n' := 120) (sp := [127]) (o := [0, 0, 1, 1]) rfl rfl ⟨rfl, rfl, rfl⟩ rfl ⟨Nat.le_of_eq hg.2.2.2.1, Nat.le_of_eq hg.2.2.2.2⟩ ⟨⟨⟨⟨trivial, (fun z => absurd (Int32.lt_iff_toInt_lt.mp z) (by omega))⟩, cb1⟩, cb2⟩, cb1⟩
        have nb : ¬ (Z 13 = 0 ∧ tkc b n q = 4 ∧ Z 12 = 0) := by omega
        obtain ⟨v1, h1, c1, g1, o1⟩ := ck_sign3 l f b n q Z h hg kt f0 r4 ko ks I (by omega)
        rcases o1 with ⟨s1, s2, s3, s4, s5, s6, s7⟩ | ⟨s1, s2, s3, s4⟩
        · have t21 : XT l 7 218 false 51 153 6051 127 [xf 7 45, xi w, xi due, xi k] [xf 7 45] h 130 [xf 7 45, xi w, xi due, xi k] [xi v1] h1 := XT_call (l := l) (fr := 7) (lo := 218) (full := false) (M := 51) (n := 153) (u := 6051) (pc := 127) (L := [xf 7 45, xi w, xi due, xi k]) (st := [xf 7 45]) (h := h) (i := .invokevirtual 61) (aux := 1) (nx := 130) (K := 61) (vs := [xf 7 45]) (rs := [xi v1]) (rest := []) rfl rfl rfl rfl rfl rfl c1 (by decide) (by decide) (Nat.le_of_ble_eq_true rfl) ⟨Nat.le_of_eq g1.1.2.2.2.1, Nat.le_of_eq g1.1.2.2.2.2⟩
          have t22 := t20.tr t21
          have t23 : XT l 7 218 false 51 153 6051 130 [xf 7 45, xi w, xi due, xi k] [xi v1] h1 140 [xf 7 45, xi w, xi v1, xi k] [xf 7 45] h1 := XT_path (l := l) (fr := 7) (lo := 218) (full := false) (M := 51) (n := 153) (u := 6051) (pc := 130) (L := [xf 7 45, xi w, xi due, xi k]) (st := [xi v1]) (h := h1) (inl := []) (n' := 120) (sp := [140]) (o := [1]) rfl rfl ⟨rfl, rfl, rfl⟩ rfl ⟨Nat.le_of_eq g1.1.2.2.2.1, Nat.le_of_eq g1.1.2.2.2.2⟩ ⟨trivial, (Int32.toInt_inj.mp s2 : xI h1 45 2 = 0)⟩
          have t24 := t22.tr t23
          obtain ⟨h2, c2, g2, k2⟩ := ck_adv l b n q h1 g1.1 s5
          have t25 : XT l 7 218 false 51 153 6051 140 [xf 7 45, xi w, xi v1, xi k] [xf 7 45] h1 143 [xf 7 45, xi w, xi v1, xi k] [] h2 := XT_call (l := l) (fr := 7) (lo := 218) (full := false) (M := 51) (n := 153) (u := 6051) (pc := 140) (L := [xf 7 45, xi w, xi v1, xi k]) (st := [xf 7 45]) (h := h1) (i := .invokevirtual 19) (aux := 1) (nx := 143) (K := 19) (vs := [xf 7 45]) (rs := []) (rest := []) rfl rfl rfl rfl rfl rfl c2 (by decide) (by decide) (Nat.le_of_ble_eq_true rfl) ⟨Nat.le_of_eq g2.1.2.2.2.1, Nat.le_of_eq g2.1.2.2.2.2⟩
          have t26 := t24.tr t25
          have t27 : XT l 7 218 false 51 153 6051 143 [xf 7 45, xi w, xi v1, xi k] [] h2 85 [xf 7 45, xi w, xi v1, xi (k + Int32.ofInt (1))] [] h2 := XT_path (l := l) (fr := 7) (lo := 218) (full := false) (M := 51) (n := 153) (u := 6051) (pc := 143) (L := [xf 7 45, xi w, xi v1, xi k]) (st := []) (h := h2) (inl := []) (n' := 120) (sp := [85]) (o := []) rfl rfl ⟨rfl, rfl, rfl⟩ rfl ⟨Nat.le_of_eq g2.1.2.2.2.1, Nat.le_of_eq g2.1.2.2.2.2⟩ trivial
          have t28 := t26.tr t27
          rw [zE_go (m := m) nb s1]
          have J := (zstep_inv I (tkc_b b n q).1 s1).1
          have lt := tkc_lt (zstep_end s1)
          have nq := nxt_b (b := b) hq
          have yk := y_suc1 (k := k) (by omega) (by omega)
          have o2 := g2.2.1
          have G : vG ([(18, 5, false), (18, 6, false), (19, 0, true), (20, 0, true), (45, 2, false), (45, 3, false), (45, 6, false), (45, 7, false), (45, 8, false), (45, 9, false), (45, 12, false), (45, 13, false), (47, 0, true)], []) h h2 := vG.tr (W := ([(18, 5, false), (18, 6, false), (19, 0, true), (20, 0, true), (45, 2, false), (45, 3, false), (45, 6, false), (45, 7, false), (45, 8, false), (45, 9, false), (45, 12, false), (45, 13, false), (47, 0, true)], [])) (a := h) (b := h1) ⟨g1.1, g1.2.mono rfl rfl⟩ ⟨g2.1, g2.2.mono rfl rfl⟩
          rcases ck_E3 l f b n w m (nxt b n q) (zstep (tkc b n q) (tkv b n q) Z).2 v1 (k + Int32.ofInt (1)) h2 g2.1 k2 (by rw [o2 45 2 rfl]; exact s2) ((G.2.2 45 4 rfl).trans r4) (s6.fr (o2 18 5 rfl) (by rw [o2 18 6 rfl]; exact s6.2.1) (fun k => o2 19 k rfl) (fun k => o2 20 k rfl) rfl (fun k _ => ⟨rfl, rfl⟩)) (s7.fr (o2 45 12 rfl) (by rw [o2 45 13 rfl]; exact s7.2.1) (fun k => o2 47 k rfl) rfl (fun k _ => rfl)) J s3 s4 (by omega) (by omega) (by omega) with ⟨a1, d', k', h', a2, a3, a4, a5, a6, a7⟩ | ⟨a1, pcR, L', h', a2, a3, a4, a5, a6, a7, a8⟩
          · exact Or.inl ⟨a1, d', k', h', t28.tr a2, G.tr a3, a4, a5, a6, a7⟩
          · exact Or.inr ⟨a1, pcR, L', h', t28.tr a2, a3, a4, G.tr a5, a6, a7, a8⟩
        · have t29 : XT l 7 218 false 51 153 6051 127 [xf 7 45, xi w, xi due, xi k] [xf 7 45] h 130 [xf 7 45, xi w, xi due, xi k] [xi v1] h1 := XT_call (l := l) (fr := 7) (lo := 218) (full := false) (M := 51) (n := 153) (u := 6051) (pc := 127) (L := [xf 7 45, xi w, xi due, xi k]) (st := [xf 7 45]) (h := h) (i := .invokevirtual 61) (aux := 1) (nx := 130) (K := 61) (vs := [xf 7 45]) (rs := [xi v1]) (rest := []) rfl rfl rfl rfl rfl rfl c1 (by decide) (by decide) (Nat.le_of_ble_eq_true rfl) ⟨Nat.le_of_eq g1.1.2.2.2.1, Nat.le_of_eq g1.1.2.2.2.2⟩
          have t30 := t20.tr t29
          have t31 : XT l 7 218 false 51 153 6051 130 [xf 7 45, xi w, xi due, xi k] [xi v1] h1 138 [xf 7 45, xi w, xi v1, xi k] [] h1 := XT_path (l := l) (fr := 7) (lo := 218) (full := false) (M := 51) (n := 153) (u := 6051) (pc := 130) (L := [xf 7 45, xi w, xi due, xi k]) (st := [xi v1]) (h := h1) (inl := []) (n' := 120) (sp := [138]) (o := [0]) rfl rfl ⟨rfl, rfl, rfl⟩ rfl ⟨Nat.le_of_eq g1.1.2.2.2.1, Nat.le_of_eq g1.1.2.2.2.2⟩ ⟨trivial, (fun z_ => s1 ((s2.symm.trans (congrArg Int32.toInt z_)).trans rfl))⟩
          have t32 := t30.tr t31
          rw [zE_bad (m := m) nb s1]
          exact Or.inr ⟨s1, _, _, _, t32, ⟨_, _, _, rfl, rfl, rfl⟩, rfl, ⟨g1.1, g1.2.mono rfl rfl⟩, s2, s3, s4⟩
    · have e_0 : (0 : Int32).toInt = 0 := rfl
      have dcb1 : ¬ (due).toInt = (0 : Int32).toInt := fun z_ => cb1 (Int32.toInt_inj.mp z_)
      have t33 : XT l 7 218 false 51 153 6051 85 [xf 7 45, xi w, xi due, xi k] [] h 120 [xf 7 45, xi w, xi due, xi k] [xf 7 45] h := XT_path (l := l) (fr := 7) (lo := 218) (full := false) (M := 51) (n := 153) (u := 6051) (pc := 85) (L := [xf 7 45, xi w, xi due, xi k]) (st := []) (h := h) (inl := []) (n' := 120) (sp := [120]) (o := [0, 1, 0]) rfl rfl ⟨rfl, rfl, rfl⟩ rfl ⟨Nat.le_of_eq hg.2.2.2.1, Nat.le_of_eq hg.2.2.2.2⟩ ⟨⟨⟨trivial, (fun z => absurd (Int32.lt_iff_toInt_lt.mp z) (by omega))⟩, cb1⟩, cb1⟩
      have nb : ¬ (Z 13 = 0 ∧ tkc b n q = 4 ∧ Z 12 = 0) := by omega
      obtain ⟨v1, h1, c1, g1, o1⟩ := ck_part3 l f b n q Z h hg kt f0 r4 ko ks I (by omega)
      rcases o1 with ⟨s1, s2, s3, s4, s5, s6, s7⟩ | ⟨s1, s2, s3, s4⟩
      · have t34 : XT l 7 218 false 51 153 6051 120 [xf 7 45, xi w, xi due, xi k] [xf 7 45] h 123 [xf 7 45, xi w, xi due, xi k] [xi v1] h1 := XT_call (l := l) (fr := 7) (lo := 218) (full := false) (M := 51) (n := 153) (u := 6051) (pc := 120) (L := [xf 7 45, xi w, xi due, xi k]) (st := [xf 7 45]) (h := h) (i := .invokevirtual 54) (aux := 1) (nx := 123) (K := 54) (vs := [xf 7 45]) (rs := [xi v1]) (rest := []) rfl rfl rfl rfl rfl rfl c1 (by decide) (by decide) (Nat.le_of_ble_eq_true rfl) ⟨Nat.le_of_eq g1.1.2.2.2.1, Nat.le_of_eq g1.1.2.2.2.2⟩
        have t35 := t33.tr t34
        have t36 : XT l 7 218 false 51 153 6051 123 [xf 7 45, xi w, xi due, xi k] [xi v1] h1 140 [xf 7 45, xi w, xi v1, xi k] [xf 7 45] h1 := XT_path (l := l) (fr := 7) (lo := 218) (full := false) (M := 51) (n := 153) (u := 6051) (pc := 123) (L := [xf 7 45, xi w, xi due, xi k]) (st := [xi v1]) (h := h1) (inl := []) (n' := 120) (sp := [140]) (o := [1]) rfl rfl ⟨rfl, rfl, rfl⟩ rfl ⟨Nat.le_of_eq g1.1.2.2.2.1, Nat.le_of_eq g1.1.2.2.2.2⟩ ⟨trivial, (Int32.toInt_inj.mp s2 : xI h1 45 2 = 0)⟩
        have t37 := t35.tr t36
        obtain ⟨h2, c2, g2, k2⟩ := ck_adv l b n q h1 g1.1 s5
        have t38 : XT l 7 218 false 51 153 6051 140 [xf 7 45, xi w, xi v1, xi k] [xf 7 45] h1 143 [xf 7 45, xi w, xi v1, xi k] [] h2 := XT_call (l := l) (fr := 7) (lo := 218) (full := false) (M := 51) (n := 153) (u := 6051) (pc := 140) (L := [xf 7 45, xi w, xi v1, xi k]) (st := [xf 7 45]) (h := h1) (i := .invokevirtual 19) (aux := 1) (nx := 143) (K := 19) (vs := [xf 7 45]) (rs := []) (rest := []) rfl rfl rfl rfl rfl rfl c2 (by decide) (by decide) (Nat.le_of_ble_eq_true rfl) ⟨Nat.le_of_eq g2.1.2.2.2.1, Nat.le_of_eq g2.1.2.2.2.2⟩
        have t39 := t37.tr t38
        have t40 : XT l 7 218 false 51 153 6051 143 [xf 7 45, xi w, xi v1, xi k] [] h2 85 [xf 7 45, xi w, xi v1, xi (k + Int32.ofInt (1))] [] h2 := XT_path (l := l) (fr := 7) (lo := 218) (full := false) (M := 51) (n := 153) (u := 6051) (pc := 143) (L := [xf 7 45, xi w, xi v1, xi k]) (st := []) (h := h2) (inl := []) (n' := 120) (sp := [85]) (o := []) rfl rfl ⟨rfl, rfl, rfl⟩ rfl ⟨Nat.le_of_eq g2.1.2.2.2.1, Nat.le_of_eq g2.1.2.2.2.2⟩ trivial
        have t41 := t39.tr t40
        rw [zE_go (m := m) nb s1]
        have J := (zstep_inv I (tkc_b b n q).1 s1).1
        have lt := tkc_lt (zstep_end s1)
        have nq := nxt_b (b := b) hq
        have yk := y_suc1 (k := k) (by omega) (by omega)
        have o2 := g2.2.1
        have G : vG ([(18, 5, false), (18, 6, false), (19, 0, true), (20, 0, true), (45, 2, false), (45, 3, false), (45, 6, false), (45, 7, false), (45, 8, false), (45, 9, false), (45, 12, false), (45, 13, false), (47, 0, true)], []) h h2 := vG.tr (W := ([(18, 5, false), (18, 6, false), (19, 0, true), (20, 0, true), (45, 2, false), (45, 3, false), (45, 6, false), (45, 7, false), (45, 8, false), (45, 9, false), (45, 12, false), (45, 13, false), (47, 0, true)], [])) (a := h) (b := h1) ⟨g1.1, g1.2.mono rfl rfl⟩ ⟨g2.1, g2.2.mono rfl rfl⟩
        rcases ck_E3 l f b n w m (nxt b n q) (zstep (tkc b n q) (tkv b n q) Z).2 v1 (k + Int32.ofInt (1)) h2 g2.1 k2 (by rw [o2 45 2 rfl]; exact s2) ((G.2.2 45 4 rfl).trans r4) (s6.fr (o2 18 5 rfl) (by rw [o2 18 6 rfl]; exact s6.2.1) (fun k => o2 19 k rfl) (fun k => o2 20 k rfl) rfl (fun k _ => ⟨rfl, rfl⟩)) (s7.fr (o2 45 12 rfl) (by rw [o2 45 13 rfl]; exact s7.2.1) (fun k => o2 47 k rfl) rfl (fun k _ => rfl)) J s3 s4 (by omega) (by omega) (by omega) with ⟨a1, d', k', h', a2, a3, a4, a5, a6, a7⟩ | ⟨a1, pcR, L', h', a2, a3, a4, a5, a6, a7, a8⟩
        · exact Or.inl ⟨a1, d', k', h', t41.tr a2, G.tr a3, a4, a5, a6, a7⟩
        · exact Or.inr ⟨a1, pcR, L', h', t41.tr a2, a3, a4, G.tr a5, a6, a7, a8⟩
      · have t42 : XT l 7 218 false 51 153 6051 120 [xf 7 45, xi w, xi due, xi k] [xf 7 45] h 123 [xf 7 45, xi w, xi due, xi k] [xi v1] h1 := XT_call (l := l) (fr := 7) (lo := 218) (full := false) (M := 51) (n := 153) (u := 6051) (pc := 120) (L := [xf 7 45, xi w, xi due, xi k]) (st := [xf 7 45]) (h := h) (i := .invokevirtual 54) (aux := 1) (nx := 123) (K := 54) (vs := [xf 7 45]) (rs := [xi v1]) (rest := []) rfl rfl rfl rfl rfl rfl c1 (by decide) (by decide) (Nat.le_of_ble_eq_true rfl) ⟨Nat.le_of_eq g1.1.2.2.2.1, Nat.le_of_eq g1.1.2.2.2.2⟩
        have t43 := t33.tr t42
        have t44 : XT l 7 218 false 51 153 6051 123 [xf 7 45, xi w, xi due, xi k] [xi v1] h1 138 [xf 7 45, xi w, xi v1, xi k] [] h1 := XT_path (l := l) (fr := 7) (lo := 218) (full := false) (M := 51) (n := 153) (u := 6051) (pc := 123) (L := [xf 7 45, xi w, xi due, xi k]) (st := [xi v1]) (h := h1) (inl := []) (n' := 120) (sp := [138]) (o := [0]) rfl rfl ⟨rfl, rfl, rfl⟩ rfl ⟨Nat.le_of_eq g1.1.2.2.2.1, Nat.le_of_eq g1.1.2.2.2.2⟩ ⟨trivial, (fun z_ => s1 ((s2.symm.trans (congrArg Int32.toInt z_)).trans rfl))⟩
        have t45 := t43.tr t44
        rw [zE_bad (m := m) nb s1]
        exact Or.inr ⟨s1, _, _, _, t45, ⟨_, _, _, rfl, rfl, rfl⟩, rfl, ⟨g1.1, g1.2.mono rfl rfl⟩, s2, s3, s4⟩
set_option maxRecDepth 100000 in
set_option maxHeartbeats 4000000 in
theorem ck_E24 (l : Launch) (f : Int) (b : Nat → Int) (n : Nat) (w : Int32) : ∀ (m q : Nat) (Z : Nat → Int) (due k : Int32) (h : XH), sgood vT vR vE 153 6051 h → kT b n q h → (xI h 45 2).toInt = 0 → xR h 45 4 = 24 → kO 39 40 41 Z h → kS Z h → zInv f Z → due.toInt = Z 13 → (due = 0 ∨ due = 1) → k.toInt + m = n + 1 → 0 ≤ k.toInt → k.toInt ≤ q → ((zE b n m Z q).1 = 0 ∧ ∃ d' k' h', XT l 7 218 false 51 153 6051 85 [xf 7 45, xi w, xi due, xi k] [] h 154 [xf 7 45, xi w, xi d', xi k'] [] h' ∧ vG ([(39, 5, false), (39, 6, false), (40, 0, true), (41, 0, true), (45, 2, false), (45, 3, false), (45, 6, false), (45, 7, false), (45, 8, false), (45, 9, false), (45, 12, false), (45, 13, false), (47, 0, true)], []) h h' ∧ (xI h' 45 2).toInt = 0 ∧ kT b n (zE b n m Z q).2.2.2 h' ∧ kO 39 40 41 (zE b n m Z q).2.2.1 h' ∧ kS (zE b n m Z q).2.2.1 h') ∨ (¬ (zE b n m Z q).1 = 0 ∧ ∃ pcR L' h', XT l 7 218 false 51 153 6051 85 [xf 7 45, xi w, xi due, xi k] [] h pcR L' [] h' ∧ XE 51 pcR [] ∧ L'.length = 4 ∧ vG ([(39, 5, false), (39, 6, false), (40, 0, true), (41, 0, true), (45, 2, false), (45, 3, false), (45, 6, false), (45, 7, false), (45, 8, false), (45, 9, false), (45, 12, false), (45, 13, false), (47, 0, true)], []) h h' ∧ (xI h' 45 2).toInt = (zE b n m Z q).1 ∧ (xI h' 45 3).toInt = (zE b n m Z q).2.1 ∧ kR b n h')
  | 0, q, Z, due, k, h, hg, kt, f0, r4, ko, ks, I, hd, hd1, hk, hk0, hkq => absurd kt.2.2.1 (by omega)
  | m + 1, q, Z, due, k, h, hg, kt, f0, r4, ko, ks, I, hd, hd1, hk, hk0, hkq => by
    have e_0 : (0 : Int32).toInt = 0 := rfl
    have e_1 : (1 : Int32).toInt = 1 := rfl
    obtain ⟨kr, hn7, hq, kq, kc, kv, ke⟩ := id kt
    have ks2 := ks.2.1
    have kr1 := kr.1
    have B := I.b
    have dd : due.toInt = 0 ∨ due.toInt = 1 := hd1.elim (fun z => Or.inl (by rw [z]; rfl)) (fun z => Or.inr (by rw [z]; rfl))
    by_cases cb1 : due = 0
    · have e_0 : (0 : Int32).toInt = 0 := rfl
      have dcb1 : (due).toInt = (0 : Int32).toInt := congrArg Int32.toInt cb1
      by_cases cb2 : (xI h 45 7) = (Int32.ofInt (4))
      · have e_4 : (Int32.ofInt (4)).toInt = 4 := rfl
        have dcb2 : (xI h 45 7).toInt = (Int32.ofInt (4)).toInt := congrArg Int32.toInt cb2
        by_cases cb3 : (xI h 45 13) = 0
        · have e_0 : (0 : Int32).toInt = 0 := rfl
          have dcb3 : (xI h 45 13).toInt = (0 : Int32).toInt := congrArg Int32.toInt cb3
          have t4 : XT l 7 218 false 51 153 6051 85 [xf 7 45, xi w, xi due, xi k] [] h 151 [xf 7 45, xi w, xi due, xi k] [xi (Int32.ofInt (0)), xf 7 45] h := XT_path (l := l) (fr := 7) (lo := 218) (full := false) (M := 51) (n := 153) (u := 6051) (pc := 85) (L := [xf 7 45, xi w, xi due, xi k]) (st := []) (h := h) (inl := []) (n' := 120) (sp := [151]) (o := [0, 0, 0, 0]) rfl rfl ⟨rfl, rfl, rfl⟩ rfl ⟨Nat.le_of_eq hg.2.2.2.1, Nat.le_of_eq hg.2.2.2.2⟩ ⟨⟨⟨⟨trivial, (fun z => absurd (Int32.lt_iff_toInt_lt.mp z) (by omega))⟩, cb1⟩, cb2⟩, cb3⟩
          have br : Z 13 = 0 ∧ tkc b n q = 4 ∧ Z 12 = 0 := ⟨by omega, by omega, by omega⟩
          have ez := zE_brk (m := m) br
          obtain ⟨h1, c1, g1, ko3, ks3⟩ := ck_put24 l f (Int32.ofInt (0)) (by decide) Z h hg r4 ko ks I br.1
          rw [show ((Int32.ofInt (0))).toInt = 0 from rfl] at ko3 ks3
          have t5 : XT l 7 218 false 51 153 6051 151 [xf 7 45, xi w, xi due, xi k] [xi (Int32.ofInt (0)), xf 7 45] h 154 [xf 7 45, xi w, xi due, xi k] [] h1 := XT_call (l := l) (fr := 7) (lo := 218) (full := false) (M := 51) (n := 153) (u := 6051) (pc := 151) (L := [xf 7 45, xi w, xi due, xi k]) (st := [xi (Int32.ofInt (0)), xf 7 45]) (h := h) (i := .invokevirtual 62) (aux := 2) (nx := 154) (K := 62) (vs := [xf 7 45, xi (Int32.ofInt (0))]) (rs := []) (rest := []) rfl rfl rfl rfl rfl rfl c1 (by decide) (by decide) (Nat.le_of_ble_eq_true rfl) ⟨Nat.le_of_eq g1.1.2.2.2.1, Nat.le_of_eq g1.1.2.2.2.2⟩
          have t6 := t4.tr t5
          rw [ez]
          exact Or.inl ⟨rfl, _, _, _, t6, ⟨g1.1, g1.2.mono rfl rfl⟩, by rw [g1.2.1 45 2 rfl]; exact f0, kt.fr (fun k hk => by rcases hk with rfl | rfl | rfl | rfl | rfl | rfl <;> exact g1.2.1 45 _ rfl) (fun k => g1.2.1 46 k rfl), ko3, ks3⟩
        · have e_0 : (0 : Int32).toInt = 0 := rfl
          have dcb3 : ¬ (xI h 45 13).toInt = (0 : Int32).toInt := fun z_ => cb3 (Int32.toInt_inj.mp z_)
          have t7 : XT l 7 218 false 51 153 6051 85 [xf 7 45, xi w, xi due, xi k] [] h 127 [xf 7 45, xi w, xi due, xi k] [xf 7 45] h := XT_path (l := l) (fr := 7) (lo := 218) (full := false) (M := 51) (n := 153) (u := 6051) (pc := 85) (L := [xf 7 45, xi w, xi due, xi k]) (st := []) (h := h) (inl := []) (n' := 120) (sp := [127]) (o := [0, 0, 0, 1, 1]) rfl rfl ⟨rfl, rfl, rfl⟩ rfl ⟨Nat.le_of_eq hg.2.2.2.1, Nat.le_of_eq hg.2.2.2.2⟩ ⟨⟨⟨⟨⟨trivial, (fun z => absurd (Int32.lt_iff_toInt_lt.mp z) (by omega))⟩, cb1⟩, cb2⟩, cb3⟩, cb1⟩
          have nb : ¬ (Z 13 = 0 ∧ tkc b n q = 4 ∧ Z 12 = 0) := by omega
          obtain ⟨v1, h1, c1, g1, o1⟩ := ck_sign24 l f b n q Z h hg kt f0 r4 ko ks I (by omega)
          rcases o1 with ⟨s1, s2, s3, s4, s5, s6, s7⟩ | ⟨s1, s2, s3, s4⟩
          · have t8 : XT l 7 218 false 51 153 6051 127 [xf 7 45, xi w, xi due, xi k] [xf 7 45] h 130 [xf 7 45, xi w, xi due, xi k] [xi v1] h1 := XT_call (l := l) (fr := 7) (lo := 218) (full := false) (M := 51) (n := 153) (u := 6051) (pc := 127) (L := [xf 7 45, xi w, xi due, xi k]) (st := [xf 7 45]) (h := h) (i := .invokevirtual 61) (aux := 1) (nx := 130) (K := 61) (vs := [xf 7 45]) (rs := [xi v1]) (rest := []) rfl rfl rfl rfl rfl rfl c1 (by decide) (by decide) (Nat.le_of_ble_eq_true rfl) ⟨Nat.le_of_eq g1.1.2.2.2.1, Nat.le_of_eq g1.1.2.2.2.2⟩
            have t9 := t7.tr t8
            have t10 : XT l 7 218 false 51 153 6051 130 [xf 7 45, xi w, xi due, xi k] [xi v1] h1 140 [xf 7 45, xi w, xi v1, xi k] [xf 7 45] h1 := XT_path (l := l) (fr := 7) (lo := 218) (full := false) (M := 51) (n := 153) (u := 6051) (pc := 130) (L := [xf 7 45, xi w, xi due, xi k]) (st := [xi v1]) (h := h1) (inl := []) (n' := 120) (sp := [140]) (o := [1]) rfl rfl ⟨rfl, rfl, rfl⟩ rfl ⟨Nat.le_of_eq g1.1.2.2.2.1, Nat.le_of_eq g1.1.2.2.2.2⟩ ⟨trivial, (Int32.toInt_inj.mp s2 : xI h1 45 2 = 0)⟩
            have t11 := t9.tr t10
            obtain ⟨h2, c2, g2, k2⟩ := ck_adv l b n q h1 g1.1 s5
            have t12 : XT l 7 218 false 51 153 6051 140 [xf 7 45, xi w, xi v1, xi k] [xf 7 45] h1 143 [xf 7 45, xi w, xi v1, xi k] [] h2 := XT_call (l := l) (fr := 7) (lo := 218) (full := false) (M := 51) (n := 153) (u := 6051) (pc := 140) (L := [xf 7 45, xi w, xi v1, xi k]) (st := [xf 7 45]) (h := h1) (i := .invokevirtual 19) (aux := 1) (nx := 143) (K := 19) (vs := [xf 7 45]) (rs := []) (rest := []) rfl rfl rfl rfl rfl rfl c2 (by decide) (by decide) (Nat.le_of_ble_eq_true rfl) ⟨Nat.le_of_eq g2.1.2.2.2.1, Nat.le_of_eq g2.1.2.2.2.2⟩
            have t13 := t11.tr t12
            have t14 : XT l 7 218 false 51 153 6051 143 [xf 7 45, xi w, xi v1, xi k] [] h2 85 [xf 7 45, xi w, xi v1, xi (k + Int32.ofInt (1))] [] h2 := XT_path (l := l) (fr := 7) (lo := 218) (full := false) (M := 51) (n := 153) (u := 6051) (pc := 143) (L := [xf 7 45, xi w, xi v1, xi k]) (st := []) (h := h2) (inl := []) (n' := 120) (sp := [85]) (o := []) rfl rfl ⟨rfl, rfl, rfl⟩ rfl ⟨Nat.le_of_eq g2.1.2.2.2.1, Nat.le_of_eq g2.1.2.2.2.2⟩ trivial
            have t15 := t13.tr t14
            rw [zE_go (m := m) nb s1]
            have J := (zstep_inv I (tkc_b b n q).1 s1).1
            have lt := tkc_lt (zstep_end s1)
            have nq := nxt_b (b := b) hq
            have yk := y_suc1 (k := k) (by omega) (by omega)
            have o2 := g2.2.1
            have G : vG ([(39, 5, false), (39, 6, false), (40, 0, true), (41, 0, true), (45, 2, false), (45, 3, false), (45, 6, false), (45, 7, false), (45, 8, false), (45, 9, false), (45, 12, false), (45, 13, false), (47, 0, true)], []) h h2 := vG.tr (W := ([(39, 5, false), (39, 6, false), (40, 0, true), (41, 0, true), (45, 2, false), (45, 3, false), (45, 6, false), (45, 7, false), (45, 8, false), (45, 9, false), (45, 12, false), (45, 13, false), (47, 0, true)], [])) (a := h) (b := h1) ⟨g1.1, g1.2.mono rfl rfl⟩ ⟨g2.1, g2.2.mono rfl rfl⟩
            rcases ck_E24 l f b n w m (nxt b n q) (zstep (tkc b n q) (tkv b n q) Z).2 v1 (k + Int32.ofInt (1)) h2 g2.1 k2 (by rw [o2 45 2 rfl]; exact s2) ((G.2.2 45 4 rfl).trans r4) (s6.fr (o2 39 5 rfl) (by rw [o2 39 6 rfl]; exact s6.2.1) (fun k => o2 40 k rfl) (fun k => o2 41 k rfl) rfl (fun k _ => ⟨rfl, rfl⟩)) (s7.fr (o2 45 12 rfl) (by rw [o2 45 13 rfl]; exact s7.2.1) (fun k => o2 47 k rfl) rfl (fun k _ => rfl)) J s3 s4 (by omega) (by omega) (by omega) with ⟨a1, d', k', h', a2, a3, a4, a5, a6, a7⟩ | ⟨a1, pcR, L', h', a2, a3, a4, a5, a6, a7, a8⟩
            · exact Or.inl ⟨a1, d', k', h', t15.tr a2, G.tr a3, a4, a5, a6, a7⟩
            · exact Or.inr ⟨a1, pcR, L', h', t15.tr a2, a3, a4, G.tr a5, a6, a7, a8⟩
          · have t16 : XT l 7 218 false 51 153 6051 127 [xf 7 45, xi w, xi due, xi k] [xf 7 45] h 130 [xf 7 45, xi w, xi due, xi k] [xi v1] h1 := XT_call (l := l) (fr := 7) (lo := 218) (full := false) (M := 51) (n := 153) (u := 6051) (pc := 127) (L := [xf 7 45, xi w, xi due, xi k]) (st := [xf 7 45]) (h := h) (i := .invokevirtual 61) (aux := 1) (nx := 130) (K := 61) (vs := [xf 7 45]) (rs := [xi v1]) (rest := []) rfl rfl rfl rfl rfl rfl c1 (by decide) (by decide) (Nat.le_of_ble_eq_true rfl) ⟨Nat.le_of_eq g1.1.2.2.2.1, Nat.le_of_eq g1.1.2.2.2.2⟩
            have t17 := t7.tr t16
            have t18 : XT l 7 218 false 51 153 6051 130 [xf 7 45, xi w, xi due, xi k] [xi v1] h1 138 [xf 7 45, xi w, xi v1, xi k] [] h1 := XT_path (l := l) (fr := 7) (lo := 218) (full := false) (M := 51) (n := 153) (u := 6051) (pc := 130) (L := [xf 7 45, xi w, xi due, xi k]) (st := [xi v1]) (h := h1) (inl := []) (n' := 120) (sp := [138]) (o := [0]) rfl rfl ⟨rfl, rfl, rfl⟩ rfl ⟨Nat.le_of_eq g1.1.2.2.2.1, Nat.le_of_eq g1.1.2.2.2.2⟩ ⟨trivial, (fun z_ => s1 ((s2.symm.trans (congrArg Int32.toInt z_)).trans rfl))⟩
            have t19 := t17.tr t18
            rw [zE_bad (m := m) nb s1]
            exact Or.inr ⟨s1, _, _, _, t19, ⟨_, _, _, rfl, rfl, rfl⟩, rfl, ⟨g1.1, g1.2.mono rfl rfl⟩, s2, s3, s4⟩
      · have e_4 : (Int32.ofInt (4)).toInt = 4 := rfl
        have dcb2 : ¬ (xI h 45 7).toInt = (Int32.ofInt (4)).toInt := fun z_ => cb2 (Int32.toInt_inj.mp z_)
        have t20 : XT l 7 218 false 51 153 6051 85 [xf 7 45, xi w, xi due, xi k] [] h 127 [xf 7 45, xi w, xi due, xi k] [xf 7 45] h := XT_path (l := l) (fr := 7) (lo := 218) (full := false) (M := 51) (n := 153) (u := 6051) (pc := 85) (L := [xf 7 45, xi w, xi due, xi k]) (st := []) (h := h) (inl := []) (n' := 120) (sp := [127]) (o := [0, 0, 1, 1]) rfl rfl ⟨rfl, rfl, rfl⟩ rfl ⟨Nat.le_of_eq hg.2.2.2.1, Nat.le_of_eq hg.2.2.2.2⟩ ⟨⟨⟨⟨trivial, (fun z => absurd (Int32.lt_iff_toInt_lt.mp z) (by omega))⟩, cb1⟩, cb2⟩, cb1⟩
        have nb : ¬ (Z 13 = 0 ∧ tkc b n q = 4 ∧ Z 12 = 0) := by omega
        obtain ⟨v1, h1, c1, g1, o1⟩ := ck_sign24 l f b n q Z h hg kt f0 r4 ko ks I (by omega)
        rcases o1 with ⟨s1, s2, s3, s4, s5, s6, s7⟩ | ⟨s1, s2, s3, s4⟩
        · have t21 : XT l 7 218 false 51 153 6051 127 [xf 7 45, xi w, xi due, xi k] [xf 7 45] h 130 [xf 7 45, xi w, xi due, xi k] [xi v1] h1 := XT_call (l := l) (fr := 7) (lo := 218) (full := false) (M := 51) (n := 153) (u := 6051) (pc := 127) (L := [xf 7 45, xi w, xi due, xi k]) (st := [xf 7 45]) (h := h) (i := .invokevirtual 61) (aux := 1) (nx := 130) (K := 61) (vs := [xf 7 45]) (rs := [xi v1]) (rest := []) rfl rfl rfl rfl rfl rfl c1 (by decide) (by decide) (Nat.le_of_ble_eq_true rfl) ⟨Nat.le_of_eq g1.1.2.2.2.1, Nat.le_of_eq g1.1.2.2.2.2⟩
          have t22 := t20.tr t21
          have t23 : XT l 7 218 false 51 153 6051 130 [xf 7 45, xi w, xi due, xi k] [xi v1] h1 140 [xf 7 45, xi w, xi v1, xi k] [xf 7 45] h1 := XT_path (l := l) (fr := 7) (lo := 218) (full := false) (M := 51) (n := 153) (u := 6051) (pc := 130) (L := [xf 7 45, xi w, xi due, xi k]) (st := [xi v1]) (h := h1) (inl := []) (n' := 120) (sp := [140]) (o := [1]) rfl rfl ⟨rfl, rfl, rfl⟩ rfl ⟨Nat.le_of_eq g1.1.2.2.2.1, Nat.le_of_eq g1.1.2.2.2.2⟩ ⟨trivial, (Int32.toInt_inj.mp s2 : xI h1 45 2 = 0)⟩
          have t24 := t22.tr t23
          obtain ⟨h2, c2, g2, k2⟩ := ck_adv l b n q h1 g1.1 s5
          have t25 : XT l 7 218 false 51 153 6051 140 [xf 7 45, xi w, xi v1, xi k] [xf 7 45] h1 143 [xf 7 45, xi w, xi v1, xi k] [] h2 := XT_call (l := l) (fr := 7) (lo := 218) (full := false) (M := 51) (n := 153) (u := 6051) (pc := 140) (L := [xf 7 45, xi w, xi v1, xi k]) (st := [xf 7 45]) (h := h1) (i := .invokevirtual 19) (aux := 1) (nx := 143) (K := 19) (vs := [xf 7 45]) (rs := []) (rest := []) rfl rfl rfl rfl rfl rfl c2 (by decide) (by decide) (Nat.le_of_ble_eq_true rfl) ⟨Nat.le_of_eq g2.1.2.2.2.1, Nat.le_of_eq g2.1.2.2.2.2⟩
          have t26 := t24.tr t25
          have t27 : XT l 7 218 false 51 153 6051 143 [xf 7 45, xi w, xi v1, xi k] [] h2 85 [xf 7 45, xi w, xi v1, xi (k + Int32.ofInt (1))] [] h2 := XT_path (l := l) (fr := 7) (lo := 218) (full := false) (M := 51) (n := 153) (u := 6051) (pc := 143) (L := [xf 7 45, xi w, xi v1, xi k]) (st := []) (h := h2) (inl := []) (n' := 120) (sp := [85]) (o := []) rfl rfl ⟨rfl, rfl, rfl⟩ rfl ⟨Nat.le_of_eq g2.1.2.2.2.1, Nat.le_of_eq g2.1.2.2.2.2⟩ trivial
          have t28 := t26.tr t27
          rw [zE_go (m := m) nb s1]
          have J := (zstep_inv I (tkc_b b n q).1 s1).1
          have lt := tkc_lt (zstep_end s1)
          have nq := nxt_b (b := b) hq
          have yk := y_suc1 (k := k) (by omega) (by omega)
          have o2 := g2.2.1
          have G : vG ([(39, 5, false), (39, 6, false), (40, 0, true), (41, 0, true), (45, 2, false), (45, 3, false), (45, 6, false), (45, 7, false), (45, 8, false), (45, 9, false), (45, 12, false), (45, 13, false), (47, 0, true)], []) h h2 := vG.tr (W := ([(39, 5, false), (39, 6, false), (40, 0, true), (41, 0, true), (45, 2, false), (45, 3, false), (45, 6, false), (45, 7, false), (45, 8, false), (45, 9, false), (45, 12, false), (45, 13, false), (47, 0, true)], [])) (a := h) (b := h1) ⟨g1.1, g1.2.mono rfl rfl⟩ ⟨g2.1, g2.2.mono rfl rfl⟩
          rcases ck_E24 l f b n w m (nxt b n q) (zstep (tkc b n q) (tkv b n q) Z).2 v1 (k + Int32.ofInt (1)) h2 g2.1 k2 (by rw [o2 45 2 rfl]; exact s2) ((G.2.2 45 4 rfl).trans r4) (s6.fr (o2 39 5 rfl) (by rw [o2 39 6 rfl]; exact s6.2.1) (fun k => o2 40 k rfl) (fun k => o2 41 k rfl) rfl (fun k _ => ⟨rfl, rfl⟩)) (s7.fr (o2 45 12 rfl) (by rw [o2 45 13 rfl]; exact s7.2.1) (fun k => o2 47 k rfl) rfl (fun k _ => rfl)) J s3 s4 (by omega) (by omega) (by omega) with ⟨a1, d', k', h', a2, a3, a4, a5, a6, a7⟩ | ⟨a1, pcR, L', h', a2, a3, a4, a5, a6, a7, a8⟩
          · exact Or.inl ⟨a1, d', k', h', t28.tr a2, G.tr a3, a4, a5, a6, a7⟩
          · exact Or.inr ⟨a1, pcR, L', h', t28.tr a2, a3, a4, G.tr a5, a6, a7, a8⟩
        · have t29 : XT l 7 218 false 51 153 6051 127 [xf 7 45, xi w, xi due, xi k] [xf 7 45] h 130 [xf 7 45, xi w, xi due, xi k] [xi v1] h1 := XT_call (l := l) (fr := 7) (lo := 218) (full := false) (M := 51) (n := 153) (u := 6051) (pc := 127) (L := [xf 7 45, xi w, xi due, xi k]) (st := [xf 7 45]) (h := h) (i := .invokevirtual 61) (aux := 1) (nx := 130) (K := 61) (vs := [xf 7 45]) (rs := [xi v1]) (rest := []) rfl rfl rfl rfl rfl rfl c1 (by decide) (by decide) (Nat.le_of_ble_eq_true rfl) ⟨Nat.le_of_eq g1.1.2.2.2.1, Nat.le_of_eq g1.1.2.2.2.2⟩
          have t30 := t20.tr t29
          have t31 : XT l 7 218 false 51 153 6051 130 [xf 7 45, xi w, xi due, xi k] [xi v1] h1 138 [xf 7 45, xi w, xi v1, xi k] [] h1 := XT_path (l := l) (fr := 7) (lo := 218) (full := false) (M := 51) (n := 153) (u := 6051) (pc := 130) (L := [xf 7 45, xi w, xi due, xi k]) (st := [xi v1]) (h := h1) (inl := []) (n' := 120) (sp := [138]) (o := [0]) rfl rfl ⟨rfl, rfl, rfl⟩ rfl ⟨Nat.le_of_eq g1.1.2.2.2.1, Nat.le_of_eq g1.1.2.2.2.2⟩ ⟨trivial, (fun z_ => s1 ((s2.symm.trans (congrArg Int32.toInt z_)).trans rfl))⟩
          have t32 := t30.tr t31
          rw [zE_bad (m := m) nb s1]
          exact Or.inr ⟨s1, _, _, _, t32, ⟨_, _, _, rfl, rfl, rfl⟩, rfl, ⟨g1.1, g1.2.mono rfl rfl⟩, s2, s3, s4⟩
    · have e_0 : (0 : Int32).toInt = 0 := rfl
      have dcb1 : ¬ (due).toInt = (0 : Int32).toInt := fun z_ => cb1 (Int32.toInt_inj.mp z_)
      have t33 : XT l 7 218 false 51 153 6051 85 [xf 7 45, xi w, xi due, xi k] [] h 120 [xf 7 45, xi w, xi due, xi k] [xf 7 45] h := XT_path (l := l) (fr := 7) (lo := 218) (full := false) (M := 51) (n := 153) (u := 6051) (pc := 85) (L := [xf 7 45, xi w, xi due, xi k]) (st := []) (h := h) (inl := []) (n' := 120) (sp := [120]) (o := [0, 1, 0]) rfl rfl ⟨rfl, rfl, rfl⟩ rfl ⟨Nat.le_of_eq hg.2.2.2.1, Nat.le_of_eq hg.2.2.2.2⟩ ⟨⟨⟨trivial, (fun z => absurd (Int32.lt_iff_toInt_lt.mp z) (by omega))⟩, cb1⟩, cb1⟩
      have nb : ¬ (Z 13 = 0 ∧ tkc b n q = 4 ∧ Z 12 = 0) := by omega
      obtain ⟨v1, h1, c1, g1, o1⟩ := ck_part24 l f b n q Z h hg kt f0 r4 ko ks I (by omega)
      rcases o1 with ⟨s1, s2, s3, s4, s5, s6, s7⟩ | ⟨s1, s2, s3, s4⟩
      · have t34 : XT l 7 218 false 51 153 6051 120 [xf 7 45, xi w, xi due, xi k] [xf 7 45] h 123 [xf 7 45, xi w, xi due, xi k] [xi v1] h1 := XT_call (l := l) (fr := 7) (lo := 218) (full := false) (M := 51) (n := 153) (u := 6051) (pc := 120) (L := [xf 7 45, xi w, xi due, xi k]) (st := [xf 7 45]) (h := h) (i := .invokevirtual 54) (aux := 1) (nx := 123) (K := 54) (vs := [xf 7 45]) (rs := [xi v1]) (rest := []) rfl rfl rfl rfl rfl rfl c1 (by decide) (by decide) (Nat.le_of_ble_eq_true rfl) ⟨Nat.le_of_eq g1.1.2.2.2.1, Nat.le_of_eq g1.1.2.2.2.2⟩
        have t35 := t33.tr t34
        have t36 : XT l 7 218 false 51 153 6051 123 [xf 7 45, xi w, xi due, xi k] [xi v1] h1 140 [xf 7 45, xi w, xi v1, xi k] [xf 7 45] h1 := XT_path (l := l) (fr := 7) (lo := 218) (full := false) (M := 51) (n := 153) (u := 6051) (pc := 123) (L := [xf 7 45, xi w, xi due, xi k]) (st := [xi v1]) (h := h1) (inl := []) (n' := 120) (sp := [140]) (o := [1]) rfl rfl ⟨rfl, rfl, rfl⟩ rfl ⟨Nat.le_of_eq g1.1.2.2.2.1, Nat.le_of_eq g1.1.2.2.2.2⟩ ⟨trivial, (Int32.toInt_inj.mp s2 : xI h1 45 2 = 0)⟩
        have t37 := t35.tr t36
        obtain ⟨h2, c2, g2, k2⟩ := ck_adv l b n q h1 g1.1 s5
        have t38 : XT l 7 218 false 51 153 6051 140 [xf 7 45, xi w, xi v1, xi k] [xf 7 45] h1 143 [xf 7 45, xi w, xi v1, xi k] [] h2 := XT_call (l := l) (fr := 7) (lo := 218) (full := false) (M := 51) (n := 153) (u := 6051) (pc := 140) (L := [xf 7 45, xi w, xi v1, xi k]) (st := [xf 7 45]) (h := h1) (i := .invokevirtual 19) (aux := 1) (nx := 143) (K := 19) (vs := [xf 7 45]) (rs := []) (rest := []) rfl rfl rfl rfl rfl rfl c2 (by decide) (by decide) (Nat.le_of_ble_eq_true rfl) ⟨Nat.le_of_eq g2.1.2.2.2.1, Nat.le_of_eq g2.1.2.2.2.2⟩
        have t39 := t37.tr t38
        have t40 : XT l 7 218 false 51 153 6051 143 [xf 7 45, xi w, xi v1, xi k] [] h2 85 [xf 7 45, xi w, xi v1, xi (k + Int32.ofInt (1))] [] h2 := XT_path (l := l) (fr := 7) (lo := 218) (full := false) (M := 51) (n := 153) (u := 6051) (pc := 143) (L := [xf 7 45, xi w, xi v1, xi k]) (st := []) (h := h2) (inl := []) (n' := 120) (sp := [85]) (o := []) rfl rfl ⟨rfl, rfl, rfl⟩ rfl ⟨Nat.le_of_eq g2.1.2.2.2.1, Nat.le_of_eq g2.1.2.2.2.2⟩ trivial
        have t41 := t39.tr t40
        rw [zE_go (m := m) nb s1]
        have J := (zstep_inv I (tkc_b b n q).1 s1).1
        have lt := tkc_lt (zstep_end s1)
        have nq := nxt_b (b := b) hq
        have yk := y_suc1 (k := k) (by omega) (by omega)
        have o2 := g2.2.1
        have G : vG ([(39, 5, false), (39, 6, false), (40, 0, true), (41, 0, true), (45, 2, false), (45, 3, false), (45, 6, false), (45, 7, false), (45, 8, false), (45, 9, false), (45, 12, false), (45, 13, false), (47, 0, true)], []) h h2 := vG.tr (W := ([(39, 5, false), (39, 6, false), (40, 0, true), (41, 0, true), (45, 2, false), (45, 3, false), (45, 6, false), (45, 7, false), (45, 8, false), (45, 9, false), (45, 12, false), (45, 13, false), (47, 0, true)], [])) (a := h) (b := h1) ⟨g1.1, g1.2.mono rfl rfl⟩ ⟨g2.1, g2.2.mono rfl rfl⟩
        rcases ck_E24 l f b n w m (nxt b n q) (zstep (tkc b n q) (tkv b n q) Z).2 v1 (k + Int32.ofInt (1)) h2 g2.1 k2 (by rw [o2 45 2 rfl]; exact s2) ((G.2.2 45 4 rfl).trans r4) (s6.fr (o2 39 5 rfl) (by rw [o2 39 6 rfl]; exact s6.2.1) (fun k => o2 40 k rfl) (fun k => o2 41 k rfl) rfl (fun k _ => ⟨rfl, rfl⟩)) (s7.fr (o2 45 12 rfl) (by rw [o2 45 13 rfl]; exact s7.2.1) (fun k => o2 47 k rfl) rfl (fun k _ => rfl)) J s3 s4 (by omega) (by omega) (by omega) with ⟨a1, d', k', h', a2, a3, a4, a5, a6, a7⟩ | ⟨a1, pcR, L', h', a2, a3, a4, a5, a6, a7, a8⟩
        · exact Or.inl ⟨a1, d', k', h', t41.tr a2, G.tr a3, a4, a5, a6, a7⟩
        · exact Or.inr ⟨a1, pcR, L', h', t41.tr a2, a3, a4, G.tr a5, a6, a7, a8⟩
      · have t42 : XT l 7 218 false 51 153 6051 120 [xf 7 45, xi w, xi due, xi k] [xf 7 45] h 123 [xf 7 45, xi w, xi due, xi k] [xi v1] h1 := XT_call (l := l) (fr := 7) (lo := 218) (full := false) (M := 51) (n := 153) (u := 6051) (pc := 120) (L := [xf 7 45, xi w, xi due, xi k]) (st := [xf 7 45]) (h := h) (i := .invokevirtual 54) (aux := 1) (nx := 123) (K := 54) (vs := [xf 7 45]) (rs := [xi v1]) (rest := []) rfl rfl rfl rfl rfl rfl c1 (by decide) (by decide) (Nat.le_of_ble_eq_true rfl) ⟨Nat.le_of_eq g1.1.2.2.2.1, Nat.le_of_eq g1.1.2.2.2.2⟩
        have t43 := t33.tr t42
        have t44 : XT l 7 218 false 51 153 6051 123 [xf 7 45, xi w, xi due, xi k] [xi v1] h1 138 [xf 7 45, xi w, xi v1, xi k] [] h1 := XT_path (l := l) (fr := 7) (lo := 218) (full := false) (M := 51) (n := 153) (u := 6051) (pc := 123) (L := [xf 7 45, xi w, xi due, xi k]) (st := [xi v1]) (h := h1) (inl := []) (n' := 120) (sp := [138]) (o := [0]) rfl rfl ⟨rfl, rfl, rfl⟩ rfl ⟨Nat.le_of_eq g1.1.2.2.2.1, Nat.le_of_eq g1.1.2.2.2.2⟩ ⟨trivial, (fun z_ => s1 ((s2.symm.trans (congrArg Int32.toInt z_)).trans rfl))⟩
        have t45 := t43.tr t44
        rw [zE_bad (m := m) nb s1]
        exact Or.inr ⟨s1, _, _, _, t45, ⟨_, _, _, rfl, rfl, rfl⟩, rfl, ⟨g1.1, g1.2.mono rfl rfl⟩, s2, s3, s4⟩
