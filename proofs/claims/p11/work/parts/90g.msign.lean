/-! THE MODEL READS AN EXPRESSION: a sign. -/
theorem sKw_sg {c v kd wh : Int} (h : sKw c v kd wh) : ((kd = 4 ∧ wh = 41) ↔ c = 6) ∧ ((kd = 1 ∧ wh = 10) ↔ c = 31) ∧ ((kd = 1 ∧ wh = 11) ↔ c = 30) ∧ (kd = 5 ↔ (7 ≤ c ∧ c ≤ 12)) ∧ (7 ≤ c → c ≤ 12 → wh = c - 7) ∧ ((kd = 4 ∧ wh = 43) ↔ c = 13) ∧ ((kd = 4 ∧ wh = 45) ↔ c = 14) ∧ ((kd = 4 ∧ wh = 42) ↔ c = 15) ∧ ((kd = 4 ∧ wh = 47) ↔ c = 16) := by
  unfold sKw sKo at h
  omega
theorem sKw_59 {c v kd wh : Int} (h : sKw c v kd wh) : (kd = 4 ∧ wh = 59) ↔ c = 4 := by
  unfold sKw sKo at h
  omega
theorem lev_no {c : Int} (h : ¬ c = 31) (h1 : ¬ c = 30) (h2 : ¬ (7 ≤ c ∧ c ≤ 12)) (h3 : ¬ c = 13) (h4 : ¬ c = 14) (h5 : ¬ c = 15) (h6 : ¬ c = 16) : lev c = 0 ∨ c = 32 := by
  by_cases e : c = 32
  · exact Or.inr e
  · exact Or.inl (lev_0.mpr (by omega))
/-- ')' , a sign: the pure ends -/
theorem je_close {b : Nat → Int} {n q : Nat} {f : Int} {Z : Nat → Int} {h1 H : XH} {c v : Int} (I : zInv f Z) (h13 : Z 13 = 0) (hc : 0 ≤ c) (es : zstep c v Z = (0, zs (zs (zput 0 Z) 11 ((zput 0 Z) 11 - 1)) 12 ((zput 0 Z) 12 - 1))) (ao : jO (zput 0 Z) h1) (aw : jW (zput 0 Z) h1) (jt : jT b n (nxt b n q) H) (x8 : (xI H 104 48).toInt = (zput 0 Z) 12 - 1) (x0 : (xI H 104 50).toInt = 0) (e46 : (xI H 104 46).toInt = (zput 0 Z) 11 - 1) (e47 : xI H 104 47 = xI h1 104 47) (e21 : xI H 104 21 = xI h1 104 21) (e49 : xI H 104 49 = xI h1 104 49) (e8 : ∀ c, c = 126 ∨ c = 127 ∨ c = 128 ∨ c = 129 ∨ c = 130 → ∀ k, xI H c k = xI h1 c k) : jX b n (nxt b n q) f (zs (zs (zput 0 Z) 11 ((zput 0 Z) 11 - 1)) 12 ((zput 0 Z) 12 - 1)) H := by
  have J := zstep_inv I hc (v := v) (by rw [es])
  rw [es] at J
  have J := J.1
  dsimp only at J
  obtain ⟨r1, r2, r3, r4, r5, r6, r7, r8⟩ := zInv_put (lv := 0) (Int.le_refl 0) I h13
  have o : ∀ {i : Nat}, i ≠ 11 → i ≠ 12 → zs (zs (zput 0 Z) 11 (zput 0 Z 11 - 1)) 12 (zput 0 Z 12 - 1) i = zput 0 Z i := fun h1 h2 => by rw [zs_ne h2, zs_ne h1]
  have o11 : zs (zs (zput 0 Z) 11 (zput 0 Z 11 - 1)) 12 (zput 0 Z 12 - 1) 11 = zput 0 Z 11 - 1 := by rw [zs_ne (by omega), zs_same]
  refine ⟨jt, ?_, ⟨by rw [e46, o11], by rw [e47, o (by omega) (by omega)]; exact aw.2.1, fun k hk => ?_, fun k hk => ?_⟩, J, by rw [x8, zs_same], by rw [x0, o (by omega) (by omega)]; exact r3.symm, fun z => ?_⟩
  · exact ao.fr e21 (by rw [e49, o (by omega) (by omega)]; exact ao.2.1) (e8 126 (by decide)) (e8 127 (by decide)) (e8 128 (by decide)) (o (by omega) (by omega)) (fun k hk => ⟨o (by omega) (by omega), o (by omega) (by omega), o (by omega) (by omega)⟩)
  · rw [o11] at hk
    rw [e8 129 (by decide), o (by omega) (by omega)]
    exact aw.2.2.1 k (by omega)
  · rw [o (by omega) (by omega)] at hk
    rw [e8 130 (by decide), o (by omega) (by omega)]
    exact aw.2.2.2 k hk
  · rw [o (by omega) (by omega), r3] at z
    exact absurd z (by decide)
theorem je_sign {b : Nat → Int} {n q : Nat} {f : Int} {Z Zb : Nat → Int} {h1 H : XH} {c v lv : Int} (I : zInv f Z) (h13 : Z 13 = 0) (hc : 0 ≤ c) (hl : 0 ≤ lv) (eb : Zb = zput lv Z) (n0 : ¬ (lev c = 0 ∨ c = 32)) (es : zstep c v Z = (0, zs (zpush (zs Zb 6 (Zb 6 + 1)) c) 13 1)) (ao : jO Zb h1) (aw : jW Zb h1) (jt : jT b n (nxt b n q) H) (x8 : (xI H 104 48).toInt = Zb 12) (x0 : (xI H 104 50).toInt = 1) (x1 : (xI H 104 51).toInt = if lev c < 3 then 1 else 0) (e46 : (xI H 104 46).toInt = (xI h1 104 46).toInt + 1) (e47 : xI H 104 47 = xI h1 104 47) (e21 : xI H 104 21 = xI h1 104 21) (e49 : (xI H 104 49).toInt = Zb 6 + 1) (ep : (xI H 129 (xI h1 104 46).toInt.toNat).toInt = jkn c) (er : ∀ k, k ≠ (xI h1 104 46).toInt.toNat → xI H 129 k = xI h1 129 k) (e8 : ∀ c, c = 126 ∨ c = 127 ∨ c = 128 ∨ c = 130 → ∀ k, xI H c k = xI h1 c k) : jX b n (nxt b n q) f (zs (zpush (zs Zb 6 (Zb 6 + 1)) c) 13 1) H := by
  have J := zstep_inv I hc (v := v) (by rw [es])
  rw [es] at J
  have J := J.1
  dsimp only at J
  have r := zInv_put (lv := lv) hl I h13
  rw [← eb] at r
  have Bq := r.1.b
  have o : ∀ {i : Nat}, i ≠ 11 → i ≠ 6 → i ≠ 13 → i ≠ 700 + (Zb 11).toNat → zs (zpush (zs Zb 6 (Zb 6 + 1)) c) 13 1 i = Zb i := fun h1 h2 h3 h4 => by
    rw [zs_ne h3, zpush_h h1 (by rw [zs_ne (by omega)]; exact h4), zs_ne h2]
  have t5 : zs (zpush (zs Zb 6 (Zb 6 + 1)) c) 13 1 (700 + (Zb 11).toNat) = c := by
    rw [zs_ne (by omega)]
    have := zpush_t (Z := zs Zb 6 (Zb 6 + 1)) (s := c)
    rw [zs_ne (by omega)] at this
    exact this
  have o11 : zs (zpush (zs Zb 6 (Zb 6 + 1)) c) 13 1 11 = Zb 11 + 1 := by rw [zs_ne (by omega), zpush_11, zs_ne (by omega)]
  have l3 : ¬ lev c = 3 := fun z => n0 (Or.inr (lev_3.mp z))
  refine ⟨jt, ?_, ?_, J, by rw [x8, o (by omega) (by omega) (by omega) (by omega)], by rw [x0, zs_same], fun _ => ?_⟩
  · exact ao.fr e21 (by rw [e49, zs_ne (by omega), zpush_o (by omega) (by omega), zs_same]) (e8 126 (by decide)) (e8 127 (by decide)) (e8 128 (by decide)) (o (by omega) (by omega) (by omega) (by omega)) (fun k hk => ⟨o (by omega) (by omega) (by omega) (by omega), o (by omega) (by omega) (by omega) (by omega), o (by omega) (by omega) (by omega) (by omega)⟩)
  · exact aw.push (by omega) e46 e47 (by rw [ep, t5]) er (e8 130 (by decide)) o11 (o (by omega) (by omega) (by omega) (by omega)) (fun k hk => o (by omega) (by omega) (by omega) (by omega)) (fun k hk => o (by omega) (by omega) (by omega) (by omega))
  · have tl : ztl (zs (zpush (zs Zb 6 (Zb 6 + 1)) c) 13 1) = lev c := by
      rw [ztl_top (by rw [o11]; omega)]
      unfold ztop
      rw [o11, show 700 + ((Zb 11 + 1).toNat - 1) = 700 + (Zb 11).toNat from by omega, t5]
    rw [x1, tl]
    by_cases e : lev c < 3
    · rw [if_pos e, if_pos (by omega)]
    · rw [if_neg e, if_neg (by omega)]
set_option maxRecDepth 100000 in
set_option maxHeartbeats 4000000 in
theorem jk_which (l : Launch) (b : Nat → Int) (n q : Nat) (f : Int) (Z : Nat → Int) (h : XH) (hg : mI h) (c v0 : Int) (jk : sKw c v0 (xI h 104 8).toInt (xI h 104 9).toInt) (x8 : (xI h 104 48).toInt = Z 12) : (∃ L', L' = [xf 13 104, xun] ∧ XT l 3 110 false 207 153 6051 0 [xf 13 104, xun] [] h 16 L' [] h ∧ c = 6 ∧ 0 < Z 12) ∨ (¬ (c = 6 ∧ 0 < Z 12) ∧ ∃ k, XT l 3 110 false 207 153 6051 0 [xf 13 104, xun] [] h 148 [xf 13 104, xi k] [] h ∧ ((k = (Int32.ofInt (0)) ∧ (lev c = 0 ∨ c = 32)) ∨ (k.toInt = jkn c ∧ ¬ (lev c = 0 ∨ c = 32)))) := by
  obtain ⟨s1, s2, s3, s4, s5, s6, s7, s8, s9⟩ := sKw_sg jk
  by_cases cb1 : (xI h 104 8) = (Int32.ofInt (4))
  · have e_4 : (Int32.ofInt (4)).toInt = 4 := rfl
    have dcb1 : (xI h 104 8).toInt = (Int32.ofInt (4)).toInt := congrArg Int32.toInt cb1
    by_cases cb2 : (xI h 104 9) = (Int32.ofInt (41))
    · have e_41 : (Int32.ofInt (41)).toInt = 41 := rfl
      have dcb2 : (xI h 104 9).toInt = (Int32.ofInt (41)).toInt := congrArg Int32.toInt cb2
      by_cases cb3 : (xI h 104 48) ≤ 0
      · have e_0 : (0 : Int32).toInt = 0 := rfl
        have dcb3 : (xI h 104 48).toInt ≤ (0 : Int32).toInt := Int32.le_iff_toInt_le.mp cb3
        have t4 : XT l 3 110 false 207 153 6051 0 [xf 13 104, xun] [] h 148 [xf 13 104, xi (Int32.ofInt (0))] [] h := XT_path (l := l) (fr := 3) (lo := 110) (full := false) (M := 207) (n := 153) (u := 6051) (pc := 0) (L := [xf 13 104, xun]) (st := []) (h := h) (inl := [201, 198]) (n' := 200) (sp := [148]) (o := [0, 0, 0, 1, 1, 1, 1, 1, 1, 0, 1, 1, 0, 1, 1, 0, 1, 1, 0, 1, 1]) rfl rfl ⟨rfl, rfl, rfl⟩ rfl ⟨Nat.le_of_eq hg.2.2.2.1, Nat.le_of_eq hg.2.2.2.2⟩ ⟨⟨⟨⟨⟨⟨⟨⟨⟨⟨⟨⟨⟨⟨⟨⟨⟨⟨⟨⟨⟨⟨⟨⟨⟨⟨⟨⟨trivial, cb1⟩, cb2⟩, (Or.inr rfl)⟩, (show ¬ (Int32.ofInt (1)) = 0 from by decide)⟩, cb3⟩, (fun z => absurd (cb1.symm.trans z) (by decide))⟩, (Or.inl rfl)⟩, rfl⟩, (fun z => absurd (cb1.symm.trans z) (by decide))⟩, (Or.inl rfl)⟩, rfl⟩, (fun z => absurd (cb1.symm.trans z) (by decide))⟩, cb1⟩, (fun z => absurd (cb2.symm.trans z) (by decide))⟩, (Or.inl rfl)⟩, rfl⟩, cb1⟩, (fun z => absurd (cb2.symm.trans z) (by decide))⟩, (Or.inl rfl)⟩, rfl⟩, cb1⟩, (fun z => absurd (cb2.symm.trans z) (by decide))⟩, (Or.inl rfl)⟩, rfl⟩, cb1⟩, (fun z => absurd (cb2.symm.trans z) (by decide))⟩, (Or.inl rfl)⟩, rfl⟩
        have n6 : ¬ (c = 6 ∧ 0 < Z 12) := fun z => by have e := s1.mpr z.1; omega
        exact Or.inr ⟨n6, _, t4, Or.inl ⟨rfl, lev_no (fun z => by have e := s2.mpr z; omega) (fun z => by have e := s3.mpr z; omega) (fun z => by have e := s4.mpr z; omega) (fun z => by have e := s6.mpr z; omega) (fun z => by have e := s7.mpr z; omega) (fun z => by have e := s8.mpr z; omega) (fun z => by have e := s9.mpr z; omega)⟩⟩
      · have e_0 : (0 : Int32).toInt = 0 := rfl
        have dcb3 : (0 : Int32).toInt < (xI h 104 48).toInt := Int32.lt_iff_toInt_lt.mp (Int32.not_le.mp cb3)
        have t5 : XT l 3 110 false 207 153 6051 0 [xf 13 104, xun] [] h 16 [xf 13 104, xun] [] h := XT_path (l := l) (fr := 3) (lo := 110) (full := false) (M := 207) (n := 153) (u := 6051) (pc := 0) (L := [xf 13 104, xun]) (st := []) (h := h) (inl := [201, 198]) (n' := 200) (sp := [16]) (o := [0, 0, 0, 0]) rfl rfl ⟨rfl, rfl, rfl⟩ rfl ⟨Nat.le_of_eq hg.2.2.2.1, Nat.le_of_eq hg.2.2.2.2⟩ ⟨⟨⟨⟨⟨trivial, cb1⟩, cb2⟩, (Or.inr rfl)⟩, (show ¬ (Int32.ofInt (1)) = 0 from by decide)⟩, cb3⟩
        exact Or.inl ⟨_, rfl, t5, s1.mp ⟨by omega, by omega⟩, by omega⟩
    · have e_41 : (Int32.ofInt (41)).toInt = 41 := rfl
      have dcb2 : ¬ (xI h 104 9).toInt = (Int32.ofInt (41)).toInt := fun z_ => cb2 (Int32.toInt_inj.mp z_)
      by_cases cb6 : (xI h 104 9) = (Int32.ofInt (43))
      · have e_43 : (Int32.ofInt (43)).toInt = 43 := rfl
        have dcb6 : (xI h 104 9).toInt = (Int32.ofInt (43)).toInt := congrArg Int32.toInt cb6
        have t7 : XT l 3 110 false 207 153 6051 0 [xf 13 104, xun] [] h 148 [xf 13 104, xi (Int32.ofInt (11))] [] h := XT_path (l := l) (fr := 3) (lo := 110) (full := false) (M := 207) (n := 153) (u := 6051) (pc := 0) (L := [xf 13 104, xun]) (st := []) (h := h) (inl := [201, 198]) (n' := 200) (sp := [148]) (o := [0, 1, 1, 1, 1, 1, 1, 1, 0, 0, 0]) rfl rfl ⟨rfl, rfl, rfl⟩ rfl ⟨Nat.le_of_eq hg.2.2.2.1, Nat.le_of_eq hg.2.2.2.2⟩ ⟨⟨⟨⟨⟨⟨⟨⟨⟨⟨⟨⟨⟨⟨⟨trivial, cb1⟩, cb2⟩, (Or.inl rfl)⟩, rfl⟩, (fun z => absurd (cb1.symm.trans z) (by decide))⟩, (Or.inl rfl)⟩, rfl⟩, (fun z => absurd (cb1.symm.trans z) (by decide))⟩, (Or.inl rfl)⟩, rfl⟩, (fun z => absurd (cb1.symm.trans z) (by decide))⟩, cb1⟩, cb6⟩, (Or.inr rfl)⟩, (show ¬ (Int32.ofInt (1)) = 0 from by decide)⟩
        have n6 : ¬ (c = 6 ∧ 0 < Z 12) := fun z => by have e := s1.mpr z.1; omega
        have c_ : c = 13 := s6.mp ⟨by omega, by omega⟩
        exact Or.inr ⟨n6, _, t7, Or.inr ⟨by rw [c_]; rfl, by rw [c_]; decide⟩⟩
      · have e_43 : (Int32.ofInt (43)).toInt = 43 := rfl
        have dcb6 : ¬ (xI h 104 9).toInt = (Int32.ofInt (43)).toInt := fun z_ => cb6 (Int32.toInt_inj.mp z_)
        by_cases cb8 : (xI h 104 9) = (Int32.ofInt (45))
        · have e_45 : (Int32.ofInt (45)).toInt = 45 := rfl
          have dcb8 : (xI h 104 9).toInt = (Int32.ofInt (45)).toInt := congrArg Int32.toInt cb8
          have t9 : XT l 3 110 false 207 153 6051 0 [xf 13 104, xun] [] h 148 [xf 13 104, xi (Int32.ofInt (12))] [] h := XT_path (l := l) (fr := 3) (lo := 110) (full := false) (M := 207) (n := 153) (u := 6051) (pc := 0) (L := [xf 13 104, xun]) (st := []) (h := h) (inl := [201, 198]) (n' := 200) (sp := [148]) (o := [0, 1, 1, 1, 1, 1, 1, 1, 0, 1, 1, 0, 0, 0]) rfl rfl ⟨rfl, rfl, rfl⟩ rfl ⟨Nat.le_of_eq hg.2.2.2.1, Nat.le_of_eq hg.2.2.2.2⟩ ⟨⟨⟨⟨⟨⟨⟨⟨⟨⟨⟨⟨⟨⟨⟨⟨⟨⟨⟨trivial, cb1⟩, cb2⟩, (Or.inl rfl)⟩, rfl⟩, (fun z => absurd (cb1.symm.trans z) (by decide))⟩, (Or.inl rfl)⟩, rfl⟩, (fun z => absurd (cb1.symm.trans z) (by decide))⟩, (Or.inl rfl)⟩, rfl⟩, (fun z => absurd (cb1.symm.trans z) (by decide))⟩, cb1⟩, cb6⟩, (Or.inl rfl)⟩, rfl⟩, cb1⟩, cb8⟩, (Or.inr rfl)⟩, (show ¬ (Int32.ofInt (1)) = 0 from by decide)⟩
          have n6 : ¬ (c = 6 ∧ 0 < Z 12) := fun z => by have e := s1.mpr z.1; omega
          have c_ : c = 14 := s7.mp ⟨by omega, by omega⟩
          exact Or.inr ⟨n6, _, t9, Or.inr ⟨by rw [c_]; rfl, by rw [c_]; decide⟩⟩
        · have e_45 : (Int32.ofInt (45)).toInt = 45 := rfl
          have dcb8 : ¬ (xI h 104 9).toInt = (Int32.ofInt (45)).toInt := fun z_ => cb8 (Int32.toInt_inj.mp z_)
          by_cases cb10 : (xI h 104 9) = (Int32.ofInt (42))
          · have e_42 : (Int32.ofInt (42)).toInt = 42 := rfl
            have dcb10 : (xI h 104 9).toInt = (Int32.ofInt (42)).toInt := congrArg Int32.toInt cb10
            have t11 : XT l 3 110 false 207 153 6051 0 [xf 13 104, xun] [] h 148 [xf 13 104, xi (Int32.ofInt (13))] [] h := XT_path (l := l) (fr := 3) (lo := 110) (full := false) (M := 207) (n := 153) (u := 6051) (pc := 0) (L := [xf 13 104, xun]) (st := []) (h := h) (inl := [201, 198]) (n' := 200) (sp := [148]) (o := [0, 1, 1, 1, 1, 1, 1, 1, 0, 1, 1, 0, 1, 1, 0, 0, 0]) rfl rfl ⟨rfl, rfl, rfl⟩ rfl ⟨Nat.le_of_eq hg.2.2.2.1, Nat.le_of_eq hg.2.2.2.2⟩ ⟨⟨⟨⟨⟨⟨⟨⟨⟨⟨⟨⟨⟨⟨⟨⟨⟨⟨⟨⟨⟨⟨⟨trivial, cb1⟩, cb2⟩, (Or.inl rfl)⟩, rfl⟩, (fun z => absurd (cb1.symm.trans z) (by decide))⟩, (Or.inl rfl)⟩, rfl⟩, (fun z => absurd (cb1.symm.trans z) (by decide))⟩, (Or.inl rfl)⟩, rfl⟩, (fun z => absurd (cb1.symm.trans z) (by decide))⟩, cb1⟩, cb6⟩, (Or.inl rfl)⟩, rfl⟩, cb1⟩, cb8⟩, (Or.inl rfl)⟩, rfl⟩, cb1⟩, cb10⟩, (Or.inr rfl)⟩, (show ¬ (Int32.ofInt (1)) = 0 from by decide)⟩
            have n6 : ¬ (c = 6 ∧ 0 < Z 12) := fun z => by have e := s1.mpr z.1; omega
            have c_ : c = 15 := s8.mp ⟨by omega, by omega⟩
            exact Or.inr ⟨n6, _, t11, Or.inr ⟨by rw [c_]; rfl, by rw [c_]; decide⟩⟩
          · have e_42 : (Int32.ofInt (42)).toInt = 42 := rfl
            have dcb10 : ¬ (xI h 104 9).toInt = (Int32.ofInt (42)).toInt := fun z_ => cb10 (Int32.toInt_inj.mp z_)
            by_cases cb12 : (xI h 104 9) = (Int32.ofInt (47))
            · have e_47 : (Int32.ofInt (47)).toInt = 47 := rfl
              have dcb12 : (xI h 104 9).toInt = (Int32.ofInt (47)).toInt := congrArg Int32.toInt cb12
              have t13 : XT l 3 110 false 207 153 6051 0 [xf 13 104, xun] [] h 148 [xf 13 104, xi (Int32.ofInt (14))] [] h := XT_path (l := l) (fr := 3) (lo := 110) (full := false) (M := 207) (n := 153) (u := 6051) (pc := 0) (L := [xf 13 104, xun]) (st := []) (h := h) (inl := [201, 198]) (n' := 200) (sp := [148]) (o := [0, 1, 1, 1, 1, 1, 1, 1, 0, 1, 1, 0, 1, 1, 0, 1, 1, 0, 0, 0]) rfl rfl ⟨rfl, rfl, rfl⟩ rfl ⟨Nat.le_of_eq hg.2.2.2.1, Nat.le_of_eq hg.2.2.2.2⟩ ⟨⟨⟨⟨⟨⟨⟨⟨⟨⟨⟨⟨⟨⟨⟨⟨⟨⟨⟨⟨⟨⟨⟨⟨⟨⟨⟨trivial, cb1⟩, cb2⟩, (Or.inl rfl)⟩, rfl⟩, (fun z => absurd (cb1.symm.trans z) (by decide))⟩, (Or.inl rfl)⟩, rfl⟩, (fun z => absurd (cb1.symm.trans z) (by decide))⟩, (Or.inl rfl)⟩, rfl⟩, (fun z => absurd (cb1.symm.trans z) (by decide))⟩, cb1⟩, cb6⟩, (Or.inl rfl)⟩, rfl⟩, cb1⟩, cb8⟩, (Or.inl rfl)⟩, rfl⟩, cb1⟩, cb10⟩, (Or.inl rfl)⟩, rfl⟩, cb1⟩, cb12⟩, (Or.inr rfl)⟩, (show ¬ (Int32.ofInt (1)) = 0 from by decide)⟩
              have n6 : ¬ (c = 6 ∧ 0 < Z 12) := fun z => by have e := s1.mpr z.1; omega
              have c_ : c = 16 := s9.mp ⟨by omega, by omega⟩
              exact Or.inr ⟨n6, _, t13, Or.inr ⟨by rw [c_]; rfl, by rw [c_]; decide⟩⟩
            · have e_47 : (Int32.ofInt (47)).toInt = 47 := rfl
              have dcb12 : ¬ (xI h 104 9).toInt = (Int32.ofInt (47)).toInt := fun z_ => cb12 (Int32.toInt_inj.mp z_)
              have t14 : XT l 3 110 false 207 153 6051 0 [xf 13 104, xun] [] h 148 [xf 13 104, xi (Int32.ofInt (0))] [] h := XT_path (l := l) (fr := 3) (lo := 110) (full := false) (M := 207) (n := 153) (u := 6051) (pc := 0) (L := [xf 13 104, xun]) (st := []) (h := h) (inl := [201, 198]) (n' := 200) (sp := [148]) (o := [0, 1, 1, 1, 1, 1, 1, 1, 0, 1, 1, 0, 1, 1, 0, 1, 1, 0, 1, 1]) rfl rfl ⟨rfl, rfl, rfl⟩ rfl ⟨Nat.le_of_eq hg.2.2.2.1, Nat.le_of_eq hg.2.2.2.2⟩ ⟨⟨⟨⟨⟨⟨⟨⟨⟨⟨⟨⟨⟨⟨⟨⟨⟨⟨⟨⟨⟨⟨⟨⟨⟨⟨⟨trivial, cb1⟩, cb2⟩, (Or.inl rfl)⟩, rfl⟩, (fun z => absurd (cb1.symm.trans z) (by decide))⟩, (Or.inl rfl)⟩, rfl⟩, (fun z => absurd (cb1.symm.trans z) (by decide))⟩, (Or.inl rfl)⟩, rfl⟩, (fun z => absurd (cb1.symm.trans z) (by decide))⟩, cb1⟩, cb6⟩, (Or.inl rfl)⟩, rfl⟩, cb1⟩, cb8⟩, (Or.inl rfl)⟩, rfl⟩, cb1⟩, cb10⟩, (Or.inl rfl)⟩, rfl⟩, cb1⟩, cb12⟩, (Or.inl rfl)⟩, rfl⟩
              have n6 : ¬ (c = 6 ∧ 0 < Z 12) := fun z => by have e := s1.mpr z.1; omega
              exact Or.inr ⟨n6, _, t14, Or.inl ⟨rfl, lev_no (fun z => by have e := s2.mpr z; omega) (fun z => by have e := s3.mpr z; omega) (fun z => by have e := s4.mpr z; omega) (fun z => by have e := s6.mpr z; omega) (fun z => by have e := s7.mpr z; omega) (fun z => by have e := s8.mpr z; omega) (fun z => by have e := s9.mpr z; omega)⟩⟩
  · have e_4 : (Int32.ofInt (4)).toInt = 4 := rfl
    have dcb1 : ¬ (xI h 104 8).toInt = (Int32.ofInt (4)).toInt := fun z_ => cb1 (Int32.toInt_inj.mp z_)
    by_cases cb15 : (xI h 104 8) = (Int32.ofInt (1))
    · have e_1 : (Int32.ofInt (1)).toInt = 1 := rfl
      have dcb15 : (xI h 104 8).toInt = (Int32.ofInt (1)).toInt := congrArg Int32.toInt cb15
      by_cases cb16 : (xI h 104 9) = (Int32.ofInt (10))
      · have e_10 : (Int32.ofInt (10)).toInt = 10 := rfl
        have dcb16 : (xI h 104 9).toInt = (Int32.ofInt (10)).toInt := congrArg Int32.toInt cb16
        have t17 : XT l 3 110 false 207 153 6051 0 [xf 13 104, xun] [] h 148 [xf 13 104, xi (Int32.ofInt (3))] [] h := XT_path (l := l) (fr := 3) (lo := 110) (full := false) (M := 207) (n := 153) (u := 6051) (pc := 0) (L := [xf 13 104, xun]) (st := []) (h := h) (inl := [201, 198]) (n' := 200) (sp := [148]) (o := [1, 1, 0, 0, 0]) rfl rfl ⟨rfl, rfl, rfl⟩ rfl ⟨Nat.le_of_eq hg.2.2.2.1, Nat.le_of_eq hg.2.2.2.2⟩ ⟨⟨⟨⟨⟨⟨⟨trivial, cb1⟩, (Or.inl rfl)⟩, rfl⟩, cb15⟩, cb16⟩, (Or.inr rfl)⟩, (show ¬ (Int32.ofInt (1)) = 0 from by decide)⟩
        have n6 : ¬ (c = 6 ∧ 0 < Z 12) := fun z => by have e := s1.mpr z.1; omega
        have c_ : c = 31 := s2.mp ⟨by omega, by omega⟩
        exact Or.inr ⟨n6, _, t17, Or.inr ⟨by rw [c_]; rfl, by rw [c_]; decide⟩⟩
      · have e_10 : (Int32.ofInt (10)).toInt = 10 := rfl
        have dcb16 : ¬ (xI h 104 9).toInt = (Int32.ofInt (10)).toInt := fun z_ => cb16 (Int32.toInt_inj.mp z_)
        by_cases cb18 : (xI h 104 9) = (Int32.ofInt (11))
        · have e_11 : (Int32.ofInt (11)).toInt = 11 := rfl
          have dcb18 : (xI h 104 9).toInt = (Int32.ofInt (11)).toInt := congrArg Int32.toInt cb18
          have t19 : XT l 3 110 false 207 153 6051 0 [xf 13 104, xun] [] h 148 [xf 13 104, xi (Int32.ofInt (4))] [] h := XT_path (l := l) (fr := 3) (lo := 110) (full := false) (M := 207) (n := 153) (u := 6051) (pc := 0) (L := [xf 13 104, xun]) (st := []) (h := h) (inl := [201, 198]) (n' := 200) (sp := [148]) (o := [1, 1, 0, 1, 1, 0, 0, 0]) rfl rfl ⟨rfl, rfl, rfl⟩ rfl ⟨Nat.le_of_eq hg.2.2.2.1, Nat.le_of_eq hg.2.2.2.2⟩ ⟨⟨⟨⟨⟨⟨⟨⟨⟨⟨⟨trivial, cb1⟩, (Or.inl rfl)⟩, rfl⟩, cb15⟩, cb16⟩, (Or.inl rfl)⟩, rfl⟩, cb15⟩, cb18⟩, (Or.inr rfl)⟩, (show ¬ (Int32.ofInt (1)) = 0 from by decide)⟩
          have n6 : ¬ (c = 6 ∧ 0 < Z 12) := fun z => by have e := s1.mpr z.1; omega
          have c_ : c = 30 := s3.mp ⟨by omega, by omega⟩
          exact Or.inr ⟨n6, _, t19, Or.inr ⟨by rw [c_]; rfl, by rw [c_]; decide⟩⟩
        · have e_11 : (Int32.ofInt (11)).toInt = 11 := rfl
          have dcb18 : ¬ (xI h 104 9).toInt = (Int32.ofInt (11)).toInt := fun z_ => cb18 (Int32.toInt_inj.mp z_)
          have t20 : XT l 3 110 false 207 153 6051 0 [xf 13 104, xun] [] h 148 [xf 13 104, xi (Int32.ofInt (0))] [] h := XT_path (l := l) (fr := 3) (lo := 110) (full := false) (M := 207) (n := 153) (u := 6051) (pc := 0) (L := [xf 13 104, xun]) (st := []) (h := h) (inl := [201, 198]) (n' := 200) (sp := [148]) (o := [1, 1, 0, 1, 1, 0, 1, 1, 1, 1, 1, 1, 1, 1, 1, 1, 1]) rfl rfl ⟨rfl, rfl, rfl⟩ rfl ⟨Nat.le_of_eq hg.2.2.2.1, Nat.le_of_eq hg.2.2.2.2⟩ ⟨⟨⟨⟨⟨⟨⟨⟨⟨⟨⟨⟨⟨⟨⟨⟨⟨⟨⟨⟨⟨⟨⟨⟨trivial, cb1⟩, (Or.inl rfl)⟩, rfl⟩, cb15⟩, cb16⟩, (Or.inl rfl)⟩, rfl⟩, cb15⟩, cb18⟩, (Or.inl rfl)⟩, rfl⟩, (fun z => absurd (cb15.symm.trans z) (by decide))⟩, cb1⟩, (Or.inl rfl)⟩, rfl⟩, cb1⟩, (Or.inl rfl)⟩, rfl⟩, cb1⟩, (Or.inl rfl)⟩, rfl⟩, cb1⟩, (Or.inl rfl)⟩, rfl⟩
          have n6 : ¬ (c = 6 ∧ 0 < Z 12) := fun z => by have e := s1.mpr z.1; omega
          exact Or.inr ⟨n6, _, t20, Or.inl ⟨rfl, lev_no (fun z => by have e := s2.mpr z; omega) (fun z => by have e := s3.mpr z; omega) (fun z => by have e := s4.mpr z; omega) (fun z => by have e := s6.mpr z; omega) (fun z => by have e := s7.mpr z; omega) (fun z => by have e := s8.mpr z; omega) (fun z => by have e := s9.mpr z; omega)⟩⟩
    · have e_1 : (Int32.ofInt (1)).toInt = 1 := rfl
      have dcb15 : ¬ (xI h 104 8).toInt = (Int32.ofInt (1)).toInt := fun z_ => cb15 (Int32.toInt_inj.mp z_)
      by_cases cb21 : (xI h 104 8) = (Int32.ofInt (5))
      · have e_5 : (Int32.ofInt (5)).toInt = 5 := rfl
        have dcb21 : (xI h 104 8).toInt = (Int32.ofInt (5)).toInt := congrArg Int32.toInt cb21
        have t22 : XT l 3 110 false 207 153 6051 0 [xf 13 104, xun] [] h 148 [xf 13 104, xi ((Int32.ofInt (5)) + (xI h 104 9))] [] h := XT_path (l := l) (fr := 3) (lo := 110) (full := false) (M := 207) (n := 153) (u := 6051) (pc := 0) (L := [xf 13 104, xun]) (st := []) (h := h) (inl := [201, 198]) (n' := 200) (sp := [148]) (o := [1, 1, 1, 1, 1, 1, 0]) rfl rfl ⟨rfl, rfl, rfl⟩ rfl ⟨Nat.le_of_eq hg.2.2.2.1, Nat.le_of_eq hg.2.2.2.2⟩ ⟨⟨⟨⟨⟨⟨⟨⟨⟨⟨trivial, cb1⟩, (Or.inl rfl)⟩, rfl⟩, cb15⟩, (Or.inl rfl)⟩, rfl⟩, cb15⟩, (Or.inl rfl)⟩, rfl⟩, cb21⟩
        have n6 : ¬ (c = 6 ∧ 0 < Z 12) := fun z => by have e := s1.mpr z.1; omega
        have r_ := s4.mp (by omega)
        have w_ := s5 r_.1 r_.2
        have e5 : ((Int32.ofInt (5))).toInt = 5 := rfl
        have y_ := y_add (a := (Int32.ofInt (5))) (b := xI h 104 9) (by decide) (by decide) (by omega) (by omega)
        have z_ := jkn_l (c := c) (Or.inr (Or.inl (by omega)))
        exact Or.inr ⟨n6, _, t22, Or.inr ⟨by omega, fun z => by omega⟩⟩
      · have e_5 : (Int32.ofInt (5)).toInt = 5 := rfl
        have dcb21 : ¬ (xI h 104 8).toInt = (Int32.ofInt (5)).toInt := fun z_ => cb21 (Int32.toInt_inj.mp z_)
        have t23 : XT l 3 110 false 207 153 6051 0 [xf 13 104, xun] [] h 148 [xf 13 104, xi (Int32.ofInt (0))] [] h := XT_path (l := l) (fr := 3) (lo := 110) (full := false) (M := 207) (n := 153) (u := 6051) (pc := 0) (L := [xf 13 104, xun]) (st := []) (h := h) (inl := [201, 198]) (n' := 200) (sp := [148]) (o := [1, 1, 1, 1, 1, 1, 1, 1, 1, 1, 1, 1, 1, 1, 1]) rfl rfl ⟨rfl, rfl, rfl⟩ rfl ⟨Nat.le_of_eq hg.2.2.2.1, Nat.le_of_eq hg.2.2.2.2⟩ ⟨⟨⟨⟨⟨⟨⟨⟨⟨⟨⟨⟨⟨⟨⟨⟨⟨⟨⟨⟨⟨⟨trivial, cb1⟩, (Or.inl rfl)⟩, rfl⟩, cb15⟩, (Or.inl rfl)⟩, rfl⟩, cb15⟩, (Or.inl rfl)⟩, rfl⟩, cb21⟩, cb1⟩, (Or.inl rfl)⟩, rfl⟩, cb1⟩, (Or.inl rfl)⟩, rfl⟩, cb1⟩, (Or.inl rfl)⟩, rfl⟩, cb1⟩, (Or.inl rfl)⟩, rfl⟩
        have n6 : ¬ (c = 6 ∧ 0 < Z 12) := fun z => by have e := s1.mpr z.1; omega
        exact Or.inr ⟨n6, _, t23, Or.inl ⟨rfl, lev_no (fun z => by have e := s2.mpr z; omega) (fun z => by have e := s3.mpr z; omega) (fun z => by have e := s4.mpr z; omega) (fun z => by have e := s6.mpr z; omega) (fun z => by have e := s7.mpr z; omega) (fun z => by have e := s8.mpr z; omega) (fun z => by have e := s9.mpr z; omega)⟩⟩
