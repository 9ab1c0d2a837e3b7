/-! THE CLASS READS AN EXPRESSION: a part, a sign. -/
theorem tkc_lt {b : Nat → Int} {n q : Nat} (h : ¬ tkc b n q = 0) : q < n := by
  apply Classical.byContradiction
  intro z
  have e : sTk b n q = (0, 0, q) := if_pos (by omega)
  apply h
  show (sTk b n q).1 = 0
  rw [e]
theorem kS.push {Z Y : Nat → Int} {h h' : XH} (ks : kS Z h) (h0 : 0 ≤ Z 11) (e12 : (xI h' 45 12).toInt = (xI h 45 12).toInt + 1) (e13 : (xI h' 45 13).toInt = Y 12) (ep : (xI h' 47 (xI h 45 12).toInt.toNat).toInt = Y (700 + (Z 11).toNat)) (er : ∀ k, k ≠ (xI h 45 12).toInt.toNat → xI h' 47 k = xI h 47 k) (y11 : Y 11 = Z 11 + 1) (yk : ∀ k : Nat, (k : Int) < Z 11 → Y (700 + k) = Z (700 + k)) : kS Y h' := by
  refine ⟨by rw [e12, ks.1, y11], e13, fun k hk => ?_⟩
  rw [y11] at hk
  have k1 := ks.1
  by_cases e : k = (Z 11).toNat
  · rw [e, ← ep, k1]
  · rw [er k (by omega), yk k (by omega)]
    exact ks.2.2 k (by omega)
theorem kS.fr {Z Y : Nat → Int} {h h' : XH} (ks : kS Z h) (e12 : xI h' 45 12 = xI h 45 12) (e13 : (xI h' 45 13).toInt = Y 12) (er : ∀ k, xI h' 47 k = xI h 47 k) (y11 : Y 11 = Z 11) (yk : ∀ k : Nat, (k : Int) < Z 11 → Y (700 + k) = Z (700 + k)) : kS Y h' := by
  refine ⟨by rw [e12, ks.1, y11], e13, fun k hk => ?_⟩
  rw [y11] at hk
  rw [er, yk k hk]
  exact ks.2.2 k hk
/-- zstep told by cases -/
theorem zput_id {lv : Int} {Z : Nat → Int} (h : ztl Z ≤ lv) : zput lv Z = Z := by
  unfold zput
  cases (Z 11).toNat with
  | zero => rfl
  | succ m => exact if_neg (by omega)
section ZSt
variable {c v : Int} {Z : Nat → Int}
theorem zst_5b (d : Z 13 = 1) (e : c = 5) (h : 8 ≤ Z 12) : zstep c v Z = (2, Z) := by
  unfold zstep; rw [if_pos d, if_pos e, if_pos h]
theorem zst_5 (d : Z 13 = 1) (e : c = 5) (h : ¬ 8 ≤ Z 12) : zstep c v Z = (0, zpush (zs Z 12 (Z 12 + 1)) 5) := by
  unfold zstep; rw [if_pos d, if_pos e, if_neg h]
theorem zst_nb (d : Z 13 = 1) (e : c = 32) (t : ztl Z ≤ 3) (h : 64 ≤ Z 6) : zstep c v Z = (2, Z) := by
  unfold zstep; rw [if_pos d, if_neg (by omega), if_pos ⟨e, t⟩, if_pos h]
theorem zst_n (d : Z 13 = 1) (e : c = 32) (t : ztl Z ≤ 3) (h : ¬ 64 ≤ Z 6) : zstep c v Z = (0, zpush (zs Z 6 (Z 6 + 1)) 32) := by
  unfold zstep; rw [if_pos d, if_neg (by omega), if_pos ⟨e, t⟩, if_neg h]
theorem zst_1 (d : Z 13 = 1) (e : ¬ c = 5) (t : ¬ (c = 32 ∧ ztl Z ≤ 3)) (h : ¬ c = 2 ∧ (c < 33 ∨ 39 < c)) : zstep c v Z = (1, Z) := by
  unfold zstep; rw [if_pos d, if_neg e, if_neg t, if_pos h]
theorem zst_2 (d : Z 13 = 1) (h : c = 2 ∧ 9999 < v) : zstep c v Z = (2, Z) := by
  unfold zstep; rw [if_pos d, if_neg (by omega), if_neg (by omega), if_neg (by omega), if_pos h]
theorem zst_3 (d : Z 13 = 1) (g : c = 2 ∨ (33 ≤ c ∧ c ≤ 39)) (h : ¬ (c = 2 ∧ 9999 < v)) (k : 64 ≤ Z 6) : zstep c v Z = (2, Z) := by
  unfold zstep; rw [if_pos d, if_neg (by omega), if_neg (by omega), if_neg (by omega), if_neg h, if_pos k]
theorem zst_l (d : Z 13 = 1) (g : c = 2 ∨ (33 ≤ c ∧ c ≤ 39)) (h : ¬ (c = 2 ∧ 9999 < v)) (k : ¬ 64 ≤ Z 6) : zstep c v Z = (0, zleaf Z c v) := by
  unfold zstep; rw [if_pos d, if_neg (by omega), if_neg (by omega), if_neg (by omega), if_neg h, if_neg k]
theorem zst_c (d : Z 13 = 0) (e : c = 6 ∧ 0 < Z 12) : zstep c v Z = (0, zs (zs (zput 0 Z) 11 ((zput 0 Z) 11 - 1)) 12 ((zput 0 Z) 12 - 1)) := by
  unfold zstep; rw [if_neg (by omega), if_pos e]
theorem zst_s1 (d : Z 13 = 0) (e : ¬ (c = 6 ∧ 0 < Z 12)) (h : lev c = 0 ∨ c = 32) : zstep c v Z = (1, Z) := by
  unfold zstep; rw [if_neg (by omega), if_neg e, if_pos h]
theorem zst_s4 (d : Z 13 = 0) (h : ¬ (lev c = 0 ∨ c = 32)) (k : lev c = 4) (t : ztl (zput 4 Z) = 4) : zstep c v Z = (1, Z) := by
  have e : ¬ c = 6 := fun z => h (Or.inl (by rw [z]; decide))
  unfold zstep; rw [if_neg (by omega), if_neg (fun z => e z.1), if_neg h, if_pos ⟨k, t⟩]
theorem zst_s2 (d : Z 13 = 0) (h : ¬ (lev c = 0 ∨ c = 32)) (k : ¬ (lev c = 4 ∧ ztl (zput 4 Z) = 4)) (t : 64 ≤ Z 6) : zstep c v Z = (2, Z) := by
  have e : ¬ c = 6 := fun z => h (Or.inl (by rw [z]; decide))
  unfold zstep; rw [if_neg (by omega), if_neg (fun z => e z.1), if_neg h, if_neg k, if_pos t]
theorem zst_s (d : Z 13 = 0) (h : ¬ (lev c = 0 ∨ c = 32)) (k : ¬ (lev c = 4 ∧ ztl (zput 4 Z) = 4)) (t : ¬ 64 ≤ Z 6) : zstep c v Z = (0, zs (zpush (zs (if lev c = 4 then zput 4 Z else zput (lev c - 1) Z) 6 ((if lev c = 4 then zput 4 Z else zput (lev c - 1) Z) 6 + 1)) c) 13 1) := by
  have e : ¬ c = 6 := fun z => h (Or.inl (by rw [z]; decide))
  unfold zstep; rw [if_neg (by omega), if_neg (fun z => e z.1), if_neg h, if_neg k, if_neg t]
end ZSt
theorem vq_push (l : Launch)  (h : XH) (hg : sgood vT vR vE 153 6051 h)  : ∃ (h' : XH), CX l 0 0 false 55 [xf 7 45] h [] h' ∧ sgood vT vR vE 153 6051 h' ∧ sframe ([(45, 12, false), (47, 0, true)], []) h h' ∧ ((True)) := by
  have ha : sargs (cap vC_39) [xf 7 45] := ⟨rfl, trivial⟩
  obtain ⟨ρ, rs, h', ⟨hv, hw⟩, c, g, f, cs, hcs, k1, k2, k3, k4, k5, k6⟩ := vc_39 l [xf 7 45] h ha hg (fun q hq => absurd hq List.not_mem_nil) (fun q hq => absurd hq List.not_mem_nil) (fun ρ hρ g hg' => absurd hg' List.not_mem_nil)
  rcases List.mem_cons.mp hcs with rfl | hcs
  · obtain rfl := sres_n k3
    exact ⟨h', c, g, f, trivial⟩
  exact absurd hcs List.not_mem_nil
theorem ck_pushA (l : Launch) (h : XH) (hg : sgood vT vR vE 153 6051 h) : ∃ h', CX l 0 0 false 55 [xf 7 45] h [] h' ∧ vG ([(45, 12, false), (47, 0, true)], []) h h' := by
  obtain ⟨h', x1, x2, x3, -⟩ := vq_push l h hg
  exact ⟨h', x1, x2, x3⟩
theorem vq_add3 (l : Launch) (x0 : Int32) (x1 : Int32) (h : XH) (hg : sgood vT vR vE 153 6051 h) (a0 : 0 ≤ x0.toInt ∧ x0.toInt ≤ 39) (a1 : (-2147483648) ≤ x1.toInt ∧ x1.toInt ≤ 2147483647) : ∃ (h' : XH), CX l 0 0 false 60 [xf 4 18, xi x0, xi x1] h [] h' ∧ sgood vT vR vE 153 6051 h' ∧ sframe ([(18, 5, false), (19, 0, true), (20, 0, true)], []) h h' ∧ ((True)) := by
  have ha : sargs (cap vC_44) [xf 4 18, xi x0, xi x1] := ⟨rfl, a0, a1, trivial⟩
  obtain ⟨ρ, rs, h', ⟨hv, hw⟩, c, g, f, cs, hcs, k1, k2, k3, k4, k5, k6⟩ := vc_44 l [xf 4 18, xi x0, xi x1] h ha hg (fun q hq => absurd hq List.not_mem_nil) (fun q hq => absurd hq List.not_mem_nil) (fun ρ hρ g hg' => absurd hg' List.not_mem_nil)
  have e0 : ρ 0 = x0.toInt := hv.1
  have e1 : ρ 1 = x1.toInt := hv.2.1
  rcases List.mem_cons.mp hcs with rfl | hcs
  · obtain rfl := sres_n k3
    exact ⟨h', c, g, f, trivial⟩
  exact absurd hcs List.not_mem_nil
theorem ck_addA3 (l : Launch) (op v : Int32) (h : XH) (hg : sgood vT vR vE 153 6051 h) (hop : 0 ≤ op.toInt ∧ op.toInt ≤ 39) : ∃ h', CX l 0 0 false 60 [xf 4 18, xi op, xi v] h [] h' ∧ vG ([(18, 5, false), (19, 0, true), (20, 0, true)], []) h h' := by
  obtain ⟨h', x1, x2, x3, -⟩ := vq_add3 l op v h hg hop (i32r_of v)
  exact ⟨h', x1, x2, x3⟩
theorem vq_add24 (l : Launch) (x0 : Int32) (x1 : Int32) (h : XH) (hg : sgood vT vR vE 153 6051 h) (a0 : 0 ≤ x0.toInt ∧ x0.toInt ≤ 39) (a1 : (-2147483648) ≤ x1.toInt ∧ x1.toInt ≤ 2147483647) : ∃ (h' : XH), CX l 0 0 false 60 [xf 4 39, xi x0, xi x1] h [] h' ∧ sgood vT vR vE 153 6051 h' ∧ sframe ([(39, 5, false), (40, 0, true), (41, 0, true)], []) h h' ∧ ((True)) := by
  have ha : sargs (cap vC_45) [xf 4 39, xi x0, xi x1] := ⟨rfl, a0, a1, trivial⟩
  obtain ⟨ρ, rs, h', ⟨hv, hw⟩, c, g, f, cs, hcs, k1, k2, k3, k4, k5, k6⟩ := vc_45 l [xf 4 39, xi x0, xi x1] h ha hg (fun q hq => absurd hq List.not_mem_nil) (fun q hq => absurd hq List.not_mem_nil) (fun ρ hρ g hg' => absurd hg' List.not_mem_nil)
  have e0 : ρ 0 = x0.toInt := hv.1
  have e1 : ρ 1 = x1.toInt := hv.2.1
  rcases List.mem_cons.mp hcs with rfl | hcs
  · obtain rfl := sres_n k3
    exact ⟨h', c, g, f, trivial⟩
  exact absurd hcs List.not_mem_nil
theorem ck_addA24 (l : Launch) (op v : Int32) (h : XH) (hg : sgood vT vR vE 153 6051 h) (hop : 0 ≤ op.toInt ∧ op.toInt ≤ 39) : ∃ h', CX l 0 0 false 60 [xf 4 39, xi op, xi v] h [] h' ∧ vG ([(39, 5, false), (40, 0, true), (41, 0, true)], []) h h' := by
  obtain ⟨h', x1, x2, x3, -⟩ := vq_add24 l op v h hg hop (i32r_of v)
  exact ⟨h', x1, x2, x3⟩
set_option maxRecDepth 100000 in
set_option maxHeartbeats 4000000 in
theorem ck_part3 (l : Launch) (f : Int) (b : Nat → Int) (n q : Nat) (Z : Nat → Int) (h : XH) (hg : sgood vT vR vE 153 6051 h) (kt : kT b n q h) (f0 : (xI h 45 2).toInt = 0) (r4 : xR h 45 4 = 3) (ko : kO 18 19 20 Z h) (ks : kS Z h) (I : zInv f Z) (h13 : Z 13 = 1) : ∃ v h', CX l 3 60 false 54 [xf 7 45] h [xi v] h' ∧ vG ([(18, 5, false), (18, 6, false), (19, 0, true), (20, 0, true), (45, 2, false), (45, 3, false), (45, 12, false), (45, 13, false), (47, 0, true)], []) h h' ∧ (((zstep (tkc b n q) (tkv b n q) Z).1 = 0 ∧ (xI h' 45 2).toInt = 0 ∧ v.toInt = (zstep (tkc b n q) (tkv b n q) Z).2 13 ∧ (v = 0 ∨ v = 1) ∧ kT b n q h' ∧ kO 18 19 20 (zstep (tkc b n q) (tkv b n q) Z).2 h' ∧ kS (zstep (tkc b n q) (tkv b n q) Z).2 h') ∨ (¬ (zstep (tkc b n q) (tkv b n q) Z).1 = 0 ∧ (xI h' 45 2).toInt = (zstep (tkc b n q) (tkv b n q) Z).1 ∧ (xI h' 45 3).toInt = q ∧ kR b n h')) := by
  have ef : xI h 45 2 = 0 := Int32.toInt_inj.mp f0
  have e_0 : (0 : Int32).toInt = 0 := rfl
  obtain ⟨kr, hn7, hq, kq, kc, kv, ke⟩ := id kt
  have B := I.b
  have ks1 := ks.1
  have ks2 := ks.2.1
  have ko1 := ko.1
  have ko2 := ko.2.1
  have b8 : 0 ≤ (xI h 45 8).toInt ∧ (xI h 45 8).toInt ≤ 700 := vbnd hg.1 45 8
  have b7 : 0 ≤ (xI h 45 7).toInt ∧ (xI h 45 7).toInt ≤ 39 := vbnd hg.1 45 7
  by_cases cb1 : (xI h 45 7) = (Int32.ofInt (5))
  · have e_5 : (Int32.ofInt (5)).toInt = 5 := rfl
    have dcb1 : (xI h 45 7).toInt = (Int32.ofInt (5)).toInt := congrArg Int32.toInt cb1
    by_cases cb2 : (xI h 45 13) < (Int32.ofInt (8))
    · have e_8 : (Int32.ofInt (8)).toInt = 8 := rfl
      have dcb2 : (xI h 45 13).toInt < (Int32.ofInt (8)).toInt := Int32.lt_iff_toInt_lt.mp cb2
      have t3 : XT l 3 60 false 54 153 6051 0 [xf 7 45] [] h 36 [xf 7 45] [xf 7 45] (xsetI h 45 13 ((xI h 45 13) + (Int32.ofInt (1)))) := XT_path (l := l) (fr := 3) (lo := 60) (full := false) (M := 54) (n := 153) (u := 6051) (pc := 0) (L := [xf 7 45]) (st := []) (h := h) (inl := [39]) (n' := 120) (sp := [36]) (o := [0, 1]) rfl rfl ⟨rfl, rfl, rfl⟩ rfl ⟨Nat.le_of_eq hg.2.2.2.1, Nat.le_of_eq hg.2.2.2.2⟩ ⟨⟨trivial, cb1⟩, cb2⟩
      have ys := y_suc1 (k := xI h 45 13) (by omega) (by omega)
      have G0 : vG ([(18, 5, false), (18, 6, false), (19, 0, true), (20, 0, true), (45, 2, false), (45, 3, false), (45, 12, false), (45, 13, false), (47, 0, true)], []) h (xsetI h 45 13 ((xI h 45 13) + (Int32.ofInt (1)))) := ((vG.rf hg) : vG ([(18, 5, false), (18, 6, false), (19, 0, true), (20, 0, true), (45, 2, false), (45, 3, false), (45, 12, false), (45, 13, false), (47, 0, true)], []) h h).set (c := 45) (k := 13) (v := ((xI h 45 13) + (Int32.ofInt (1)))) (show (0 : Int) ≤ _ ∧ _ ≤ 8 from ⟨by omega, by omega⟩) (by decide +kernel) (by decide +kernel) rfl
      obtain ⟨h2, c2, g1, a12, ap, ar⟩ := ck_push l (xsetI h 45 13 ((xI h 45 13) + (Int32.ofInt (1)))) G0.1 (by rw [yI_ne (by decide)]; omega)
      have t4 : XT l 3 60 false 54 153 6051 36 [xf 7 45] [xf 7 45] (xsetI h 45 13 ((xI h 45 13) + (Int32.ofInt (1)))) 39 [xf 7 45] [] h2 := XT_call (l := l) (fr := 3) (lo := 60) (full := false) (M := 54) (n := 153) (u := 6051) (pc := 36) (L := [xf 7 45]) (st := [xf 7 45]) (h := (xsetI h 45 13 ((xI h 45 13) + (Int32.ofInt (1))))) (i := .invokevirtual 55) (aux := 1) (nx := 39) (K := 55) (vs := [xf 7 45]) (rs := []) (rest := []) rfl rfl rfl rfl rfl rfl c2 (by decide) (by decide) (Nat.le_of_ble_eq_true rfl) ⟨Nat.le_of_eq g1.1.2.2.2.1, Nat.le_of_eq g1.1.2.2.2.2⟩
      have t5 := t3.tr t4
      have t6 : XT l 3 60 false 54 153 6051 39 [xf 7 45] [] h2 40 [xf 7 45] [xi (Int32.ofInt (1))] h2 := XT_path (l := l) (fr := 3) (lo := 60) (full := false) (M := 54) (n := 153) (u := 6051) (pc := 39) (L := [xf 7 45]) (st := []) (h := h2) (inl := [39]) (n' := 120) (sp := [40]) (o := []) rfl rfl ⟨rfl, rfl, rfl⟩ rfl ⟨Nat.le_of_eq g1.1.2.2.2.1, Nat.le_of_eq g1.1.2.2.2.2⟩ trivial
      have t7 := t5.tr t6
      have ec : (tkc b n q) = 5 := by rw [← kc]; exact dcb1
      have es := zst_5 (c := (tkc b n q)) (v := (tkv b n q)) h13 ec (by omega)
      have G1 : vG ([(18, 5, false), (18, 6, false), (19, 0, true), (20, 0, true), (45, 2, false), (45, 3, false), (45, 12, false), (45, 13, false), (47, 0, true)], []) h h2 := (G0 : vG ([(18, 5, false), (18, 6, false), (19, 0, true), (20, 0, true), (45, 2, false), (45, 3, false), (45, 12, false), (45, 13, false), (47, 0, true)], []) h (xsetI h 45 13 ((xI h 45 13) + (Int32.ofInt (1))))).tr ⟨g1.1, g1.2.mono rfl rfl⟩
      have o1 := g1.2.1
      rw [yI_ne (by decide)] at a12 ap
      rw [yI_ne (by decide)] at ap
      rw [es]
      dsimp only
      refine ⟨_, _, CX_ofT (h' := h2) (by decide) rfl rfl ⟨trivial, (Or.inr rfl)⟩ ⟨_, _, _, rfl, rfl, rfl⟩ rfl ⟨Nat.le_of_eq g1.1.2.2.2.1.symm, Nat.le_of_eq g1.1.2.2.2.2.symm⟩ t7, G1, Or.inl ⟨rfl, ?_, ?_, (Or.inr rfl), ?_, ?_, ?_⟩⟩
      · rw [o1 45 2 rfl, yI_ne (by decide)]; exact f0
      · show (1 : Int) = _; rw [zpush_o (by omega) (by omega), zs_ne (by omega)]; exact h13.symm
      · exact kt.fr (fun k hk => by rcases hk with rfl | rfl | rfl | rfl | rfl | rfl <;> exact (o1 45 _ rfl).trans (yI_ne (by decide))) (fun k => (o1 46 k rfl).trans (yI_c (by decide)))
      · exact ko.fr ((o1 18 5 rfl).trans (yI_c (by decide))) (by rw [o1 18 6 rfl, yI_c (by decide), zpush_o (by omega) (by omega), zs_ne (by omega)]; exact ko2) (fun k => (o1 19 k rfl).trans (yI_c (by decide))) (fun k => (o1 20 k rfl).trans (yI_c (by decide))) (by rw [zpush_o (by omega) (by omega), zs_ne (by omega)]) (fun k hk => ⟨by rw [zpush_o (by omega) (by omega), zs_ne (by omega)], by rw [zpush_o (by omega) (by omega), zs_ne (by omega)]⟩)
      · refine ks.push (by omega) a12 ?_ ?_ (fun k hk => ?_) ?_ (fun k hk => ?_)
        · rw [o1 45 13 rfl, yI_same, zpush_o (by omega) (by omega), zs_same]; omega
        · rw [ap, kc, ec, show (700 + (Z 11).toNat) = 700 + (zs Z 12 (Z 12 + 1) 11).toNat from by rw [zs_ne (by omega)]]; exact zpush_t.symm
        · rw [ar k (by rw [yI_ne (by decide)]; exact hk)]; exact yI_c (by decide)
        · rw [zpush_11, zs_ne (by omega)]
        · rw [zpush_h (by omega) (by rw [zs_ne (by omega)]; omega), zs_ne (by omega)]
    · have e_8 : (Int32.ofInt (8)).toInt = 8 := rfl
      have dcb2 : (Int32.ofInt (8)).toInt ≤ (xI h 45 13).toInt := Int32.le_iff_toInt_le.mp (Int32.not_lt.mp cb2)
      have t8 : XT l 3 60 false 54 153 6051 0 [xf 7 45] [] h 40 [xf 7 45] [xi (Int32.ofInt (1))] (xsetI (xsetI h 45 2 (Int32.ofInt (2))) 45 3 (xI h 45 8)) := XT_path (l := l) (fr := 3) (lo := 60) (full := false) (M := 54) (n := 153) (u := 6051) (pc := 0) (L := [xf 7 45]) (st := []) (h := h) (inl := [39]) (n' := 120) (sp := [40]) (o := [0, 0, 0]) rfl rfl ⟨rfl, rfl, rfl⟩ rfl ⟨Nat.le_of_eq hg.2.2.2.1, Nat.le_of_eq hg.2.2.2.2⟩ ⟨⟨⟨trivial, cb1⟩, cb2⟩, ef⟩
      have ec : (tkc b n q) = 5 := by rw [← kc]; exact dcb1
      have es := zst_5b (c := (tkc b n q)) (v := (tkv b n q)) h13 ec (by omega)
      have G1 : vG ([(18, 5, false), (18, 6, false), (19, 0, true), (20, 0, true), (45, 2, false), (45, 3, false), (45, 12, false), (45, 13, false), (47, 0, true)], []) h (xsetI (xsetI h 45 2 (Int32.ofInt (2))) 45 3 (xI h 45 8)) := vGf (vG.rf hg) (by decide) rfl rfl rfl
      exact ⟨_, _, CX_ofT (h' := (xsetI (xsetI h 45 2 (Int32.ofInt (2))) 45 3 (xI h 45 8))) (by decide) rfl rfl ⟨trivial, (Or.inr rfl)⟩ ⟨_, _, _, rfl, rfl, rfl⟩ rfl ⟨Nat.le_of_eq hg.2.2.2.1.symm, Nat.le_of_eq hg.2.2.2.2.symm⟩ t8, G1, Or.inr ⟨by rw [es]; exact (by decide : ¬ (2 : Int) = 0), by rw [es, yI_ne (by decide), yI_same]; rfl, by rw [yI_same]; exact kq, kr.fr (by rw [yI_ne (by decide), yI_ne (by decide)]) (fun k => by rw [yI_c (by decide), yI_c (by decide)])⟩⟩
  · have e_5 : (Int32.ofInt (5)).toInt = 5 := rfl
    have dcb1 : ¬ (xI h 45 7).toInt = (Int32.ofInt (5)).toInt := fun z_ => cb1 (Int32.toInt_inj.mp z_)
    by_cases cb9 : (xI h 45 7) = (Int32.ofInt (32))
    · have e_32 : (Int32.ofInt (32)).toInt = 32 := rfl
      have dcb9 : (xI h 45 7).toInt = (Int32.ofInt (32)).toInt := congrArg Int32.toInt cb9
      have t10 : XT l 3 60 false 54 153 6051 0 [xf 7 45] [] h 51 [xf 7 45] [xf 7 45] h := XT_path (l := l) (fr := 3) (lo := 60) (full := false) (M := 54) (n := 153) (u := 6051) (pc := 0) (L := [xf 7 45]) (st := []) (h := h) (inl := [39]) (n' := 120) (sp := [51]) (o := [1, 0]) rfl rfl ⟨rfl, rfl, rfl⟩ rfl ⟨Nat.le_of_eq hg.2.2.2.1, Nat.le_of_eq hg.2.2.2.2⟩ ⟨⟨trivial, cb1⟩, cb9⟩
      obtain ⟨r1, c1, e1⟩ := ck_may l Z h hg ks
      rcases e1 with ⟨rfl, mt⟩ | ⟨rfl, mt⟩
      · have t11 : XT l 3 60 false 54 153 6051 51 [xf 7 45] [xf 7 45] h 54 [xf 7 45] [xi (Int32.ofInt (1))] h := XT_call (l := l) (fr := 3) (lo := 60) (full := false) (M := 54) (n := 153) (u := 6051) (pc := 51) (L := [xf 7 45]) (st := [xf 7 45]) (h := h) (i := .invokevirtual 56) (aux := 1) (nx := 54) (K := 56) (vs := [xf 7 45]) (rs := [xi (Int32.ofInt (1))]) (rest := []) rfl rfl rfl rfl rfl rfl c1 (by decide) (by decide) (Nat.le_of_ble_eq_true rfl) ⟨Nat.le_of_eq hg.2.2.2.1, Nat.le_of_eq hg.2.2.2.2⟩
        have t12 := t10.tr t11
        have t13 : XT l 3 60 false 54 153 6051 54 [xf 7 45] [xi (Int32.ofInt (1))] h 58 [xf 7 45] [xf 7 45] h := XT_path (l := l) (fr := 3) (lo := 60) (full := false) (M := 54) (n := 153) (u := 6051) (pc := 54) (L := [xf 7 45]) (st := [xi (Int32.ofInt (1))]) (h := h) (inl := [39]) (n' := 120) (sp := [58]) (o := [0]) rfl rfl ⟨rfl, rfl, rfl⟩ rfl ⟨Nat.le_of_eq hg.2.2.2.1, Nat.le_of_eq hg.2.2.2.2⟩ ⟨trivial, (by decide)⟩
        have t14 := t12.tr t13
        obtain ⟨h1, c1, o1⟩ := ck_cnt3 l h hg f0 r4
        rcases o1 with ⟨cl1, cg, ca⟩ | ⟨cl1, cg, ca, cb⟩
        · have t15 : XT l 3 60 false 54 153 6051 58 [xf 7 45] [xf 7 45] h 61 [xf 7 45] [] h1 := XT_call (l := l) (fr := 3) (lo := 60) (full := false) (M := 54) (n := 153) (u := 6051) (pc := 58) (L := [xf 7 45]) (st := [xf 7 45]) (h := h) (i := .invokevirtual 59) (aux := 1) (nx := 61) (K := 59) (vs := [xf 7 45]) (rs := []) (rest := []) rfl rfl rfl rfl rfl rfl c1 (by decide) (by decide) (Nat.le_of_ble_eq_true rfl) ⟨Nat.le_of_eq cg.1.2.2.2.1, Nat.le_of_eq cg.1.2.2.2.2⟩
          have t16 := t14.tr t15
          have rr1 : xR h1 45 4 = 3 := (cg.2.2 45 4 rfl).trans r4
          have t17 : XT l 3 60 false 54 153 6051 61 [xf 7 45] [] h1 62 [xf 7 45] [xf 7 45] h1 := XT_path (l := l) (fr := 3) (lo := 60) (full := false) (M := 54) (n := 153) (u := 6051) (pc := 61) (L := [xf 7 45]) (st := []) (h := h1) (inl := [39]) (n' := 120) (sp := [62]) (o := []) rfl rfl ⟨rfl, rfl, rfl⟩ rfl ⟨Nat.le_of_eq cg.1.2.2.2.1, Nat.le_of_eq cg.1.2.2.2.2⟩ trivial
          have t18 := t16.tr t17
          obtain ⟨h2, c2, g1, a12, ap, ar⟩ := ck_push l h1 cg.1 (by rw [cg.2.1 45 12 rfl]; omega)
          have t19 : XT l 3 60 false 54 153 6051 62 [xf 7 45] [xf 7 45] h1 65 [xf 7 45] [] h2 := XT_call (l := l) (fr := 3) (lo := 60) (full := false) (M := 54) (n := 153) (u := 6051) (pc := 62) (L := [xf 7 45]) (st := [xf 7 45]) (h := h1) (i := .invokevirtual 55) (aux := 1) (nx := 65) (K := 55) (vs := [xf 7 45]) (rs := []) (rest := []) rfl rfl rfl rfl rfl rfl c2 (by decide) (by decide) (Nat.le_of_ble_eq_true rfl) ⟨Nat.le_of_eq g1.1.2.2.2.1, Nat.le_of_eq g1.1.2.2.2.2⟩
          have t20 := t18.tr t19
          have t21 : XT l 3 60 false 54 153 6051 65 [xf 7 45] [] h2 66 [xf 7 45] [xi (Int32.ofInt (1))] h2 := XT_path (l := l) (fr := 3) (lo := 60) (full := false) (M := 54) (n := 153) (u := 6051) (pc := 65) (L := [xf 7 45]) (st := []) (h := h2) (inl := [39]) (n' := 120) (sp := [66]) (o := []) rfl rfl ⟨rfl, rfl, rfl⟩ rfl ⟨Nat.le_of_eq g1.1.2.2.2.1, Nat.le_of_eq g1.1.2.2.2.2⟩ trivial
          have t22 := t20.tr t21
          have ec : (tkc b n q) = 32 := by rw [← kc]; exact dcb9
          have es := zst_n (c := (tkc b n q)) (v := (tkv b n q)) h13 ec mt (by omega)
          have o1 := g1.2.1
          have o0 := cg.2.1
          rw [o0 45 12 rfl] at a12 ap ar
          rw [o0 45 7 rfl] at ap
          rw [es]
          dsimp only
          refine ⟨_, _, CX_ofT (h' := h2) (by decide) rfl rfl ⟨trivial, (Or.inr rfl)⟩ ⟨_, _, _, rfl, rfl, rfl⟩ rfl ⟨Nat.le_of_eq g1.1.2.2.2.1.symm, Nat.le_of_eq g1.1.2.2.2.2.symm⟩ t22, (vG.tr (W := ([(18, 5, false), (18, 6, false), (19, 0, true), (20, 0, true), (45, 2, false), (45, 3, false), (45, 12, false), (45, 13, false), (47, 0, true)], [])) (a := h) (b := h1) ⟨cg.1, cg.2.mono rfl rfl⟩ ⟨g1.1, g1.2.mono rfl rfl⟩), Or.inl ⟨rfl, ?_, ?_, (Or.inr rfl), ?_, ?_, ?_⟩⟩
          · rw [o1 45 2 rfl, o0 45 2 rfl]; exact f0
          · show (1 : Int) = _; rw [zpush_o (by omega) (by omega), zs_ne (by omega)]; exact h13.symm
          · exact kt.fr (fun k hk => by rcases hk with rfl | rfl | rfl | rfl | rfl | rfl <;> exact (o1 45 _ rfl).trans (o0 45 _ rfl)) (fun k => (o1 46 k rfl).trans (o0 46 k rfl))
          · exact ko.fr ((o1 18 5 rfl).trans (o0 18 5 rfl)) (by rw [o1 18 6 rfl, ca, zpush_o (by omega) (by omega), zs_same]; omega) (fun k => (o1 19 k rfl).trans (o0 19 k rfl)) (fun k => (o1 20 k rfl).trans (o0 20 k rfl)) (by rw [zpush_o (by omega) (by omega), zs_ne (by omega)]) (fun k hk => ⟨by rw [zpush_o (by omega) (by omega), zs_ne (by omega)], by rw [zpush_o (by omega) (by omega), zs_ne (by omega)]⟩)
          · refine ks.push (by omega) a12 ?_ ?_ (fun k hk => ?_) ?_ (fun k hk => ?_)
            · rw [o1 45 13 rfl, o0 45 13 rfl, zpush_o (by omega) (by omega), zs_ne (by omega)]; exact ks2
            · rw [ap, kc, ec, show (700 + (Z 11).toNat) = 700 + (zs Z 6 (Z 6 + 1) 11).toNat from by rw [zs_ne (by omega)]]; exact zpush_t.symm
            · rw [ar k hk]; exact o0 47 k rfl
            · rw [zpush_11, zs_ne (by omega)]
            · rw [zpush_h (by omega) (by rw [zs_ne (by omega)]; omega), zs_ne (by omega)]
        · have t23 : XT l 3 60 false 54 153 6051 58 [xf 7 45] [xf 7 45] h 61 [xf 7 45] [] h1 := XT_call (l := l) (fr := 3) (lo := 60) (full := false) (M := 54) (n := 153) (u := 6051) (pc := 58) (L := [xf 7 45]) (st := [xf 7 45]) (h := h) (i := .invokevirtual 59) (aux := 1) (nx := 61) (K := 59) (vs := [xf 7 45]) (rs := []) (rest := []) rfl rfl rfl rfl rfl rfl c1 (by decide) (by decide) (Nat.le_of_ble_eq_true rfl) ⟨Nat.le_of_eq cg.1.2.2.2.1, Nat.le_of_eq cg.1.2.2.2.2⟩
          have t24 := t14.tr t23
          have rr1 : xR h1 45 4 = 3 := (cg.2.2 45 4 rfl).trans r4
          have t25 : XT l 3 60 false 54 153 6051 61 [xf 7 45] [] h1 62 [xf 7 45] [xf 7 45] h1 := XT_path (l := l) (fr := 3) (lo := 60) (full := false) (M := 54) (n := 153) (u := 6051) (pc := 61) (L := [xf 7 45]) (st := []) (h := h1) (inl := [39]) (n' := 120) (sp := [62]) (o := []) rfl rfl ⟨rfl, rfl, rfl⟩ rfl ⟨Nat.le_of_eq cg.1.2.2.2.1, Nat.le_of_eq cg.1.2.2.2.2⟩ trivial
          have t26 := t24.tr t25
          obtain ⟨h2, c2, g1⟩ := ck_pushA l h1 cg.1
          have t27 : XT l 3 60 false 54 153 6051 62 [xf 7 45] [xf 7 45] h1 65 [xf 7 45] [] h2 := XT_call (l := l) (fr := 3) (lo := 60) (full := false) (M := 54) (n := 153) (u := 6051) (pc := 62) (L := [xf 7 45]) (st := [xf 7 45]) (h := h1) (i := .invokevirtual 55) (aux := 1) (nx := 65) (K := 55) (vs := [xf 7 45]) (rs := []) (rest := []) rfl rfl rfl rfl rfl rfl c2 (by decide) (by decide) (Nat.le_of_ble_eq_true rfl) ⟨Nat.le_of_eq g1.1.2.2.2.1, Nat.le_of_eq g1.1.2.2.2.2⟩
          have t28 := t26.tr t27
          have t29 : XT l 3 60 false 54 153 6051 65 [xf 7 45] [] h2 66 [xf 7 45] [xi (Int32.ofInt (1))] h2 := XT_path (l := l) (fr := 3) (lo := 60) (full := false) (M := 54) (n := 153) (u := 6051) (pc := 65) (L := [xf 7 45]) (st := []) (h := h2) (inl := [39]) (n' := 120) (sp := [66]) (o := []) rfl rfl ⟨rfl, rfl, rfl⟩ rfl ⟨Nat.le_of_eq g1.1.2.2.2.1, Nat.le_of_eq g1.1.2.2.2.2⟩ trivial
          have t30 := t28.tr t29
          have ec : (tkc b n q) = 32 := by rw [← kc]; exact dcb9
          have es := zst_nb (c := (tkc b n q)) (v := (tkv b n q)) h13 ec mt (by omega)
          have o1 := g1.2.1
          have o0 := cg.2.1
          exact ⟨_, _, CX_ofT (h' := h2) (by decide) rfl rfl ⟨trivial, (Or.inr rfl)⟩ ⟨_, _, _, rfl, rfl, rfl⟩ rfl ⟨Nat.le_of_eq g1.1.2.2.2.1.symm, Nat.le_of_eq g1.1.2.2.2.2.symm⟩ t30, (vG.tr (W := ([(18, 5, false), (18, 6, false), (19, 0, true), (20, 0, true), (45, 2, false), (45, 3, false), (45, 12, false), (45, 13, false), (47, 0, true)], [])) (a := h) (b := h1) ⟨cg.1, cg.2.mono rfl rfl⟩ ⟨g1.1, g1.2.mono rfl rfl⟩), Or.inr ⟨by rw [es]; exact (by decide : ¬ (2 : Int) = 0), by rw [es, o1 45 2 rfl]; exact ca, by rw [o1 45 3 rfl, cb]; exact kq, kr.fr (by rw [o1 45 5 rfl, o0 45 5 rfl]) (fun k => by rw [o1 46 k rfl, o0 46 k rfl])⟩⟩
      · have t31 : XT l 3 60 false 54 153 6051 51 [xf 7 45] [xf 7 45] h 54 [xf 7 45] [xi (Int32.ofInt (0))] h := XT_call (l := l) (fr := 3) (lo := 60) (full := false) (M := 54) (n := 153) (u := 6051) (pc := 51) (L := [xf 7 45]) (st := [xf 7 45]) (h := h) (i := .invokevirtual 56) (aux := 1) (nx := 54) (K := 56) (vs := [xf 7 45]) (rs := [xi (Int32.ofInt (0))]) (rest := []) rfl rfl rfl rfl rfl rfl c1 (by decide) (by decide) (Nat.le_of_ble_eq_true rfl) ⟨Nat.le_of_eq hg.2.2.2.1, Nat.le_of_eq hg.2.2.2.2⟩
        have t32 := t10.tr t31
        by_cases cb33 : (xI h 45 7) < (Int32.ofInt (33))
        · have e_33 : (Int32.ofInt (33)).toInt = 33 := rfl
          have dcb33 : (xI h 45 7).toInt < (Int32.ofInt (33)).toInt := Int32.lt_iff_toInt_lt.mp cb33
          have t34 : XT l 3 60 false 54 153 6051 54 [xf 7 45] [xi (Int32.ofInt (0))] h 150 [xf 7 45] [xi (Int32.ofInt (0))] (xsetI (xsetI h 45 2 (Int32.ofInt (1))) 45 3 (xI h 45 8)) := XT_path (l := l) (fr := 3) (lo := 60) (full := false) (M := 54) (n := 153) (u := 6051) (pc := 54) (L := [xf 7 45]) (st := [xi (Int32.ofInt (0))]) (h := h) (inl := [39]) (n' := 120) (sp := [150]) (o := [1, 0, 1, 0]) rfl rfl ⟨rfl, rfl, rfl⟩ rfl ⟨Nat.le_of_eq hg.2.2.2.1, Nat.le_of_eq hg.2.2.2.2⟩ ⟨⟨⟨⟨trivial, rfl⟩, (fun z => absurd (cb9.symm.trans z) (by decide))⟩, cb33⟩, ef⟩
          have t35 := t32.tr t34
          have n5 : ¬ (tkc b n q) = 5 := by omega
          have n32 : ¬ ((tkc b n q) = 32 ∧ ztl Z ≤ 3) := fun z => mt z.2
          have es := zst_1 (c := (tkc b n q)) (v := (tkv b n q)) h13 n5 n32 ⟨by omega, by omega⟩
          have G1 : vG ([(18, 5, false), (18, 6, false), (19, 0, true), (20, 0, true), (45, 2, false), (45, 3, false), (45, 12, false), (45, 13, false), (47, 0, true)], []) h (xsetI (xsetI h 45 2 (Int32.ofInt (1))) 45 3 (xI h 45 8)) := vGf (vG.rf hg) (by decide) rfl rfl rfl
          exact ⟨_, _, CX_ofT (h' := (xsetI (xsetI h 45 2 (Int32.ofInt (1))) 45 3 (xI h 45 8))) (by decide) rfl rfl ⟨trivial, (Or.inl rfl)⟩ ⟨_, _, _, rfl, rfl, rfl⟩ rfl ⟨Nat.le_of_eq hg.2.2.2.1.symm, Nat.le_of_eq hg.2.2.2.2.symm⟩ t35, G1, Or.inr ⟨by rw [es]; exact (by decide : ¬ (1 : Int) = 0), by rw [es, yI_ne (by decide), yI_same]; rfl, by rw [yI_same]; exact kq, kr.fr (by rw [yI_ne (by decide), yI_ne (by decide)]) (fun k => by rw [yI_c (by decide), yI_c (by decide)])⟩⟩
        · have e_33 : (Int32.ofInt (33)).toInt = 33 := rfl
          have dcb33 : (Int32.ofInt (33)).toInt ≤ (xI h 45 7).toInt := Int32.le_iff_toInt_le.mp (Int32.not_lt.mp cb33)
          by_cases cb36 : (xI h 45 7) ≤ (Int32.ofInt (39))
          · have e_39 : (Int32.ofInt (39)).toInt = 39 := rfl
            have dcb36 : (xI h 45 7).toInt ≤ (Int32.ofInt (39)).toInt := Int32.le_iff_toInt_le.mp cb36
            have t37 : XT l 3 60 false 54 153 6051 54 [xf 7 45] [xi (Int32.ofInt (0))] h 128 [xf 7 45] [xf 7 45] h := XT_path (l := l) (fr := 3) (lo := 60) (full := false) (M := 54) (n := 153) (u := 6051) (pc := 54) (L := [xf 7 45]) (st := [xi (Int32.ofInt (0))]) (h := h) (inl := [39]) (n' := 120) (sp := [128]) (o := [1, 0, 0, 1, 1]) rfl rfl ⟨rfl, rfl, rfl⟩ rfl ⟨Nat.le_of_eq hg.2.2.2.1, Nat.le_of_eq hg.2.2.2.2⟩ ⟨⟨⟨⟨⟨trivial, rfl⟩, (fun z => absurd (cb9.symm.trans z) (by decide))⟩, cb33⟩, cb36⟩, (fun z => absurd (cb9.symm.trans z) (by decide))⟩
            have t38 := t32.tr t37
            obtain ⟨h1, c1, o1⟩ := ck_cnt3 l h hg f0 r4
            rcases o1 with ⟨cl1, cg, ca⟩ | ⟨cl1, cg, ca, cb⟩
            · have t39 : XT l 3 60 false 54 153 6051 128 [xf 7 45] [xf 7 45] h 131 [xf 7 45] [] h1 := XT_call (l := l) (fr := 3) (lo := 60) (full := false) (M := 54) (n := 153) (u := 6051) (pc := 128) (L := [xf 7 45]) (st := [xf 7 45]) (h := h) (i := .invokevirtual 59) (aux := 1) (nx := 131) (K := 59) (vs := [xf 7 45]) (rs := []) (rest := []) rfl rfl rfl rfl rfl rfl c1 (by decide) (by decide) (Nat.le_of_ble_eq_true rfl) ⟨Nat.le_of_eq cg.1.2.2.2.1, Nat.le_of_eq cg.1.2.2.2.2⟩
              have t40 := t38.tr t39
              have rr1 : xR h1 45 4 = 3 := (cg.2.2 45 4 rfl).trans r4
              have t41 : XT l 3 60 false 54 153 6051 131 [xf 7 45] [] h1 146 [xf 7 45] [xi (xI h1 45 9), xi (xI h1 45 7), xf 4 (xR h1 (xR h1 45 4) 19)] h1 := XT_path (l := l) (fr := 3) (lo := 60) (full := false) (M := 54) (n := 153) (u := 6051) (pc := 131) (L := [xf 7 45]) (st := []) (h := h1) (inl := [39]) (n' := 120) (sp := [146]) (o := []) rfl rfl ⟨rfl, rfl, rfl⟩ rfl ⟨Nat.le_of_eq cg.1.2.2.2.1, Nat.le_of_eq cg.1.2.2.2.2⟩ ⟨⟨trivial, (show ¬ xR h1 45 4 = 0 from by rw [rr1]; decide)⟩, (show ¬ xR h1 (xR h1 45 4) 19 = 0 from by rw [rr1]; exact vnn cg.1.1 (rfl : vRf 3 19 = [18]) (by decide))⟩
              rw [rr1, vref cg.1.1 (rfl : vRf 3 19 = [18])] at t41
              have t42 := t40.tr t41
              have q5 : xI h1 18 5 = xI h 18 5 := cg.2.1 18 5 rfl
              obtain ⟨h2, c2, g2, a5, ao, av, ar⟩ := ck_add3 l (xI h1 45 7) (xI h1 45 9) h1 cg.1 (by rw [q5]; omega) (by rw [cg.2.1 45 7 rfl]; exact b7)
              have t43 : XT l 3 60 false 54 153 6051 146 [xf 7 45] [xi (xI h1 45 9), xi (xI h1 45 7), xf 4 18] h1 149 [xf 7 45] [] h2 := XT_call (l := l) (fr := 3) (lo := 60) (full := false) (M := 54) (n := 153) (u := 6051) (pc := 146) (L := [xf 7 45]) (st := [xi (xI h1 45 9), xi (xI h1 45 7), xf 4 18]) (h := h1) (i := .invokevirtual 60) (aux := 3) (nx := 149) (K := 60) (vs := [xf 4 18, xi (xI h1 45 7), xi (xI h1 45 9)]) (rs := []) (rest := []) rfl rfl rfl rfl rfl rfl c2 (by decide) (by decide) (Nat.le_of_ble_eq_true rfl) ⟨Nat.le_of_eq g2.1.2.2.2.1, Nat.le_of_eq g2.1.2.2.2.2⟩
              have t44 := t42.tr t43
              have t45 : XT l 3 60 false 54 153 6051 149 [xf 7 45] [] h2 150 [xf 7 45] [xi (Int32.ofInt (0))] h2 := XT_path (l := l) (fr := 3) (lo := 60) (full := false) (M := 54) (n := 153) (u := 6051) (pc := 149) (L := [xf 7 45]) (st := []) (h := h2) (inl := [39]) (n' := 120) (sp := [150]) (o := []) rfl rfl ⟨rfl, rfl, rfl⟩ rfl ⟨Nat.le_of_eq g2.1.2.2.2.1, Nat.le_of_eq g2.1.2.2.2.2⟩ trivial
              have t46 := t44.tr t45
              have n5 : ¬ (tkc b n q) = 5 := by omega
              have n32 : ¬ ((tkc b n q) = 32 ∧ ztl Z ≤ 3) := fun z => mt z.2
              have g2' : (tkc b n q) = 2 ∨ (33 ≤ (tkc b n q) ∧ (tkc b n q) ≤ 39) := by omega
              have h2' : ¬ ((tkc b n q) = 2 ∧ 9999 < (tkv b n q)) := by omega
              have o1 := g2.2.1
              have o0 := cg.2.1
              have es := zst_l (c := (tkc b n q)) (v := (tkv b n q)) h13 g2' h2' (by omega)
              rw [q5, show (xI h 18 5).toInt.toNat = (Z 10).toNat from by rw [ko1]] at ao av ar
              rw [q5] at a5
              rw [es]
              dsimp only
              have lo : ∀ i : Nat, (i < 300 ∧ i ≠ 6 ∧ i ≠ 10 ∧ i ≠ 13 ∧ i ≠ 14) ∨ (700 ≤ i ∧ i < 800) → zleaf Z (tkc b n q) (tkv b n q) i = Z i := fun i hi => by
                unfold zleaf
                rw [zs_ne (by omega), zs_ne (by omega), zs_ne (by omega), zs_ne (by omega), zs_ne (by omega), zs_ne (by omega), zs_ne (by omega), zs_ne (by omega), zs_ne (by omega)]
              refine ⟨_, _, CX_ofT (h' := h2) (by decide) rfl rfl ⟨trivial, (Or.inl rfl)⟩ ⟨_, _, _, rfl, rfl, rfl⟩ rfl ⟨Nat.le_of_eq g2.1.2.2.2.1.symm, Nat.le_of_eq g2.1.2.2.2.2.symm⟩ t46, (vG.tr (W := ([(18, 5, false), (18, 6, false), (19, 0, true), (20, 0, true), (45, 2, false), (45, 3, false), (45, 12, false), (45, 13, false), (47, 0, true)], [])) (a := h) (b := h1) ⟨cg.1, cg.2.mono rfl rfl⟩ ⟨g2.1, g2.2.mono rfl rfl⟩), Or.inl ⟨rfl, ?_, ?_, (Or.inl rfl), ?_, ?_, ?_⟩⟩
              · rw [o1 45 2 rfl, o0 45 2 rfl]; exact f0
              · exact (zs_same (Z := _) (k := 13)).symm
              · exact kt.fr (fun k hk => by rcases hk with rfl | rfl | rfl | rfl | rfl | rfl <;> exact (o1 45 _ rfl).trans (o0 45 _ rfl)) (fun k => (o1 46 k rfl).trans (o0 46 k rfl))
              · refine ko.add (by omega) (by rw [a5, ko1]) ?_ ?_ ?_ (fun k hk => ?_) (fun k hk => ?_) ?_ (fun k hk => ⟨?_, ?_⟩)
                · rw [o1 18 6 rfl, ca]; unfold zleaf; rw [zs_ne (by omega), zs_same]; omega
                · rw [ao, o0 45 7 rfl, kc]; unfold zleaf; rw [zs_ne (by omega), zs_ne (by omega), zs_ne (by omega), zs_ne (by omega), zs_ne (by omega), zs_ne (by omega), zs_ne (by omega), zs_ne (by omega), zs_same]
                · rw [av, o0 45 9 rfl, kv]; unfold zleaf; rw [zs_ne (by omega), zs_ne (by omega), zs_ne (by omega), zs_ne (by omega), zs_ne (by omega), zs_ne (by omega), zs_ne (by omega), zs_same]
                · rw [(ar k hk).1]; exact o0 19 k rfl
                · rw [(ar k hk).2]; exact o0 20 k rfl
                · unfold zleaf; rw [zs_ne (by omega), zs_ne (by omega), zs_ne (by omega), zs_same]
                · unfold zleaf; rw [zs_ne (by omega), zs_ne (by omega), zs_ne (by omega), zs_ne (by omega), zs_ne (by omega), zs_ne (by omega), zs_ne (by omega), zs_ne (by omega), zs_ne (by omega)]
                · unfold zleaf; rw [zs_ne (by omega), zs_ne (by omega), zs_ne (by omega), zs_ne (by omega), zs_ne (by omega), zs_ne (by omega), zs_ne (by omega), zs_ne (by omega), zs_ne (by omega)]
              · exact ks.fr ((o1 45 12 rfl).trans (o0 45 12 rfl)) (by rw [o1 45 13 rfl, o0 45 13 rfl, lo 12 (by omega)]; exact ks2) (fun k => (o1 47 k rfl).trans (o0 47 k rfl)) (lo 11 (by omega)) (fun k hk => lo _ (by omega))
            · have t47 : XT l 3 60 false 54 153 6051 128 [xf 7 45] [xf 7 45] h 131 [xf 7 45] [] h1 := XT_call (l := l) (fr := 3) (lo := 60) (full := false) (M := 54) (n := 153) (u := 6051) (pc := 128) (L := [xf 7 45]) (st := [xf 7 45]) (h := h) (i := .invokevirtual 59) (aux := 1) (nx := 131) (K := 59) (vs := [xf 7 45]) (rs := []) (rest := []) rfl rfl rfl rfl rfl rfl c1 (by decide) (by decide) (Nat.le_of_ble_eq_true rfl) ⟨Nat.le_of_eq cg.1.2.2.2.1, Nat.le_of_eq cg.1.2.2.2.2⟩
              have t48 := t38.tr t47
              have rr1 : xR h1 45 4 = 3 := (cg.2.2 45 4 rfl).trans r4
              have t49 : XT l 3 60 false 54 153 6051 131 [xf 7 45] [] h1 146 [xf 7 45] [xi (xI h1 45 9), xi (xI h1 45 7), xf 4 (xR h1 (xR h1 45 4) 19)] h1 := XT_path (l := l) (fr := 3) (lo := 60) (full := false) (M := 54) (n := 153) (u := 6051) (pc := 131) (L := [xf 7 45]) (st := []) (h := h1) (inl := [39]) (n' := 120) (sp := [146]) (o := []) rfl rfl ⟨rfl, rfl, rfl⟩ rfl ⟨Nat.le_of_eq cg.1.2.2.2.1, Nat.le_of_eq cg.1.2.2.2.2⟩ ⟨⟨trivial, (show ¬ xR h1 45 4 = 0 from by rw [rr1]; decide)⟩, (show ¬ xR h1 (xR h1 45 4) 19 = 0 from by rw [rr1]; exact vnn cg.1.1 (rfl : vRf 3 19 = [18]) (by decide))⟩
              rw [rr1, vref cg.1.1 (rfl : vRf 3 19 = [18])] at t49
              have t50 := t48.tr t49
              obtain ⟨h2, c2, g2⟩ : ∃ h2, CX l 0 0 false 60 [xf 4 18, xi (xI h1 45 7), xi (xI h1 45 9)] h1 [] h2 ∧ vG ([(18, 5, false), (19, 0, true), (20, 0, true)], []) h1 h2 := ck_addA3 l (xI h1 45 7) (xI h1 45 9) h1 cg.1 (by rw [cg.2.1 45 7 rfl]; exact b7)
              have t51 : XT l 3 60 false 54 153 6051 146 [xf 7 45] [xi (xI h1 45 9), xi (xI h1 45 7), xf 4 18] h1 149 [xf 7 45] [] h2 := XT_call (l := l) (fr := 3) (lo := 60) (full := false) (M := 54) (n := 153) (u := 6051) (pc := 146) (L := [xf 7 45]) (st := [xi (xI h1 45 9), xi (xI h1 45 7), xf 4 18]) (h := h1) (i := .invokevirtual 60) (aux := 3) (nx := 149) (K := 60) (vs := [xf 4 18, xi (xI h1 45 7), xi (xI h1 45 9)]) (rs := []) (rest := []) rfl rfl rfl rfl rfl rfl c2 (by decide) (by decide) (Nat.le_of_ble_eq_true rfl) ⟨Nat.le_of_eq g2.1.2.2.2.1, Nat.le_of_eq g2.1.2.2.2.2⟩
              have t52 := t50.tr t51
              have t53 : XT l 3 60 false 54 153 6051 149 [xf 7 45] [] h2 150 [xf 7 45] [xi (Int32.ofInt (0))] h2 := XT_path (l := l) (fr := 3) (lo := 60) (full := false) (M := 54) (n := 153) (u := 6051) (pc := 149) (L := [xf 7 45]) (st := []) (h := h2) (inl := [39]) (n' := 120) (sp := [150]) (o := []) rfl rfl ⟨rfl, rfl, rfl⟩ rfl ⟨Nat.le_of_eq g2.1.2.2.2.1, Nat.le_of_eq g2.1.2.2.2.2⟩ trivial
              have t54 := t52.tr t53
              have n5 : ¬ (tkc b n q) = 5 := by omega
              have n32 : ¬ ((tkc b n q) = 32 ∧ ztl Z ≤ 3) := fun z => mt z.2
              have g2' : (tkc b n q) = 2 ∨ (33 ≤ (tkc b n q) ∧ (tkc b n q) ≤ 39) := by omega
              have h2' : ¬ ((tkc b n q) = 2 ∧ 9999 < (tkv b n q)) := by omega
              have o1 := g2.2.1
              have o0 := cg.2.1
              have es := zst_3 (c := (tkc b n q)) (v := (tkv b n q)) h13 g2' h2' (by omega)
              exact ⟨_, _, CX_ofT (h' := h2) (by decide) rfl rfl ⟨trivial, (Or.inl rfl)⟩ ⟨_, _, _, rfl, rfl, rfl⟩ rfl ⟨Nat.le_of_eq g2.1.2.2.2.1.symm, Nat.le_of_eq g2.1.2.2.2.2.symm⟩ t54, (vG.tr (W := ([(18, 5, false), (18, 6, false), (19, 0, true), (20, 0, true), (45, 2, false), (45, 3, false), (45, 12, false), (45, 13, false), (47, 0, true)], [])) (a := h) (b := h1) ⟨cg.1, cg.2.mono rfl rfl⟩ ⟨g2.1, g2.2.mono rfl rfl⟩), Or.inr ⟨by rw [es]; exact (by decide : ¬ (2 : Int) = 0), by rw [es, o1 45 2 rfl]; exact ca, by rw [o1 45 3 rfl, cb]; exact kq, kr.fr (by rw [o1 45 5 rfl, o0 45 5 rfl]) (fun k => by rw [o1 46 k rfl, o0 46 k rfl])⟩⟩
          · have e_39 : (Int32.ofInt (39)).toInt = 39 := rfl
            have dcb36 : (Int32.ofInt (39)).toInt < (xI h 45 7).toInt := Int32.lt_iff_toInt_lt.mp (Int32.not_le.mp cb36)
            have t55 : XT l 3 60 false 54 153 6051 54 [xf 7 45] [xi (Int32.ofInt (0))] h 150 [xf 7 45] [xi (Int32.ofInt (0))] (xsetI (xsetI h 45 2 (Int32.ofInt (1))) 45 3 (xI h 45 8)) := XT_path (l := l) (fr := 3) (lo := 60) (full := false) (M := 54) (n := 153) (u := 6051) (pc := 54) (L := [xf 7 45]) (st := [xi (Int32.ofInt (0))]) (h := h) (inl := [39]) (n' := 120) (sp := [150]) (o := [1, 0, 0, 0, 0]) rfl rfl ⟨rfl, rfl, rfl⟩ rfl ⟨Nat.le_of_eq hg.2.2.2.1, Nat.le_of_eq hg.2.2.2.2⟩ ⟨⟨⟨⟨⟨trivial, rfl⟩, (fun z => absurd (cb9.symm.trans z) (by decide))⟩, cb33⟩, cb36⟩, ef⟩
            have t56 := t32.tr t55
            have n5 : ¬ (tkc b n q) = 5 := by omega
            have n32 : ¬ ((tkc b n q) = 32 ∧ ztl Z ≤ 3) := fun z => mt z.2
            have es := zst_1 (c := (tkc b n q)) (v := (tkv b n q)) h13 n5 n32 ⟨by omega, by omega⟩
            have G1 : vG ([(18, 5, false), (18, 6, false), (19, 0, true), (20, 0, true), (45, 2, false), (45, 3, false), (45, 12, false), (45, 13, false), (47, 0, true)], []) h (xsetI (xsetI h 45 2 (Int32.ofInt (1))) 45 3 (xI h 45 8)) := vGf (vG.rf hg) (by decide) rfl rfl rfl
            exact ⟨_, _, CX_ofT (h' := (xsetI (xsetI h 45 2 (Int32.ofInt (1))) 45 3 (xI h 45 8))) (by decide) rfl rfl ⟨trivial, (Or.inl rfl)⟩ ⟨_, _, _, rfl, rfl, rfl⟩ rfl ⟨Nat.le_of_eq hg.2.2.2.1.symm, Nat.le_of_eq hg.2.2.2.2.symm⟩ t56, G1, Or.inr ⟨by rw [es]; exact (by decide : ¬ (1 : Int) = 0), by rw [es, yI_ne (by decide), yI_same]; rfl, by rw [yI_same]; exact kq, kr.fr (by rw [yI_ne (by decide), yI_ne (by decide)]) (fun k => by rw [yI_c (by decide), yI_c (by decide)])⟩⟩
    · have e_32 : (Int32.ofInt (32)).toInt = 32 := rfl
      have dcb9 : ¬ (xI h 45 7).toInt = (Int32.ofInt (32)).toInt := fun z_ => cb9 (Int32.toInt_inj.mp z_)
      by_cases cb57 : (xI h 45 7) = (Int32.ofInt (2))
      · have e_2 : (Int32.ofInt (2)).toInt = 2 := rfl
        have dcb57 : (xI h 45 7).toInt = (Int32.ofInt (2)).toInt := congrArg Int32.toInt cb57
        by_cases cb58 : (xI h 45 9) ≤ (Int32.ofInt (9999))
        · have e_9999 : (Int32.ofInt (9999)).toInt = 9999 := rfl
          have dcb58 : (xI h 45 9).toInt ≤ (Int32.ofInt (9999)).toInt := Int32.le_iff_toInt_le.mp cb58
          have t59 : XT l 3 60 false 54 153 6051 0 [xf 7 45] [] h 128 [xf 7 45] [xf 7 45] h := XT_path (l := l) (fr := 3) (lo := 60) (full := false) (M := 54) (n := 153) (u := 6051) (pc := 0) (L := [xf 7 45]) (st := []) (h := h) (inl := [39]) (n' := 120) (sp := [128]) (o := [1, 1, 1, 0, 1]) rfl rfl ⟨rfl, rfl, rfl⟩ rfl ⟨Nat.le_of_eq hg.2.2.2.1, Nat.le_of_eq hg.2.2.2.2⟩ ⟨⟨⟨⟨⟨trivial, cb1⟩, cb9⟩, cb57⟩, cb57⟩, cb58⟩
          obtain ⟨h1, c1, o1⟩ := ck_cnt3 l h hg f0 r4
          rcases o1 with ⟨cl1, cg, ca⟩ | ⟨cl1, cg, ca, cb⟩
          · have t60 : XT l 3 60 false 54 153 6051 128 [xf 7 45] [xf 7 45] h 131 [xf 7 45] [] h1 := XT_call (l := l) (fr := 3) (lo := 60) (full := false) (M := 54) (n := 153) (u := 6051) (pc := 128) (L := [xf 7 45]) (st := [xf 7 45]) (h := h) (i := .invokevirtual 59) (aux := 1) (nx := 131) (K := 59) (vs := [xf 7 45]) (rs := []) (rest := []) rfl rfl rfl rfl rfl rfl c1 (by decide) (by decide) (Nat.le_of_ble_eq_true rfl) ⟨Nat.le_of_eq cg.1.2.2.2.1, Nat.le_of_eq cg.1.2.2.2.2⟩
            have t61 := t59.tr t60
            have rr1 : xR h1 45 4 = 3 := (cg.2.2 45 4 rfl).trans r4
            have t62 : XT l 3 60 false 54 153 6051 131 [xf 7 45] [] h1 146 [xf 7 45] [xi (xI h1 45 9), xi (xI h1 45 7), xf 4 (xR h1 (xR h1 45 4) 19)] h1 := XT_path (l := l) (fr := 3) (lo := 60) (full := false) (M := 54) (n := 153) (u := 6051) (pc := 131) (L := [xf 7 45]) (st := []) (h := h1) (inl := [39]) (n' := 120) (sp := [146]) (o := []) rfl rfl ⟨rfl, rfl, rfl⟩ rfl ⟨Nat.le_of_eq cg.1.2.2.2.1, Nat.le_of_eq cg.1.2.2.2.2⟩ ⟨⟨trivial, (show ¬ xR h1 45 4 = 0 from by rw [rr1]; decide)⟩, (show ¬ xR h1 (xR h1 45 4) 19 = 0 from by rw [rr1]; exact vnn cg.1.1 (rfl : vRf 3 19 = [18]) (by decide))⟩
            rw [rr1, vref cg.1.1 (rfl : vRf 3 19 = [18])] at t62
            have t63 := t61.tr t62
            have q5 : xI h1 18 5 = xI h 18 5 := cg.2.1 18 5 rfl
            obtain ⟨h2, c2, g2, a5, ao, av, ar⟩ := ck_add3 l (xI h1 45 7) (xI h1 45 9) h1 cg.1 (by rw [q5]; omega) (by rw [cg.2.1 45 7 rfl]; exact b7)
            have t64 : XT l 3 60 false 54 153 6051 146 [xf 7 45] [xi (xI h1 45 9), xi (xI h1 45 7), xf 4 18] h1 149 [xf 7 45] [] h2 := XT_call (l := l) (fr := 3) (lo := 60) (full := false) (M := 54) (n := 153) (u := 6051) (pc := 146) (L := [xf 7 45]) (st := [xi (xI h1 45 9), xi (xI h1 45 7), xf 4 18]) (h := h1) (i := .invokevirtual 60) (aux := 3) (nx := 149) (K := 60) (vs := [xf 4 18, xi (xI h1 45 7), xi (xI h1 45 9)]) (rs := []) (rest := []) rfl rfl rfl rfl rfl rfl c2 (by decide) (by decide) (Nat.le_of_ble_eq_true rfl) ⟨Nat.le_of_eq g2.1.2.2.2.1, Nat.le_of_eq g2.1.2.2.2.2⟩
            have t65 := t63.tr t64
            have t66 : XT l 3 60 false 54 153 6051 149 [xf 7 45] [] h2 150 [xf 7 45] [xi (Int32.ofInt (0))] h2 := XT_path (l := l) (fr := 3) (lo := 60) (full := false) (M := 54) (n := 153) (u := 6051) (pc := 149) (L := [xf 7 45]) (st := []) (h := h2) (inl := [39]) (n' := 120) (sp := [150]) (o := []) rfl rfl ⟨rfl, rfl, rfl⟩ rfl ⟨Nat.le_of_eq g2.1.2.2.2.1, Nat.le_of_eq g2.1.2.2.2.2⟩ trivial
            have t67 := t65.tr t66
            have n5 : ¬ (tkc b n q) = 5 := by omega
            have n32 : ¬ ((tkc b n q) = 32 ∧ ztl Z ≤ 3) := fun z => by omega
            have g2' : (tkc b n q) = 2 ∨ (33 ≤ (tkc b n q) ∧ (tkc b n q) ≤ 39) := by omega
            have h2' : ¬ ((tkc b n q) = 2 ∧ 9999 < (tkv b n q)) := by omega
            have o1 := g2.2.1
            have o0 := cg.2.1
            have es := zst_l (c := (tkc b n q)) (v := (tkv b n q)) h13 g2' h2' (by omega)
            rw [q5, show (xI h 18 5).toInt.toNat = (Z 10).toNat from by rw [ko1]] at ao av ar
            rw [q5] at a5
            rw [es]
            dsimp only
            have lo : ∀ i : Nat, (i < 300 ∧ i ≠ 6 ∧ i ≠ 10 ∧ i ≠ 13 ∧ i ≠ 14) ∨ (700 ≤ i ∧ i < 800) → zleaf Z (tkc b n q) (tkv b n q) i = Z i := fun i hi => by
              unfold zleaf
              rw [zs_ne (by omega), zs_ne (by omega), zs_ne (by omega), zs_ne (by omega), zs_ne (by omega), zs_ne (by omega), zs_ne (by omega), zs_ne (by omega), zs_ne (by omega)]
            refine ⟨_, _, CX_ofT (h' := h2) (by decide) rfl rfl ⟨trivial, (Or.inl rfl)⟩ ⟨_, _, _, rfl, rfl, rfl⟩ rfl ⟨Nat.le_of_eq g2.1.2.2.2.1.symm, Nat.le_of_eq g2.1.2.2.2.2.symm⟩ t67, (vG.tr (W := ([(18, 5, false), (18, 6, false), (19, 0, true), (20, 0, true), (45, 2, false), (45, 3, false), (45, 12, false), (45, 13, false), (47, 0, true)], [])) (a := h) (b := h1) ⟨cg.1, cg.2.mono rfl rfl⟩ ⟨g2.1, g2.2.mono rfl rfl⟩), Or.inl ⟨rfl, ?_, ?_, (Or.inl rfl), ?_, ?_, ?_⟩⟩
            · rw [o1 45 2 rfl, o0 45 2 rfl]; exact f0
            · exact (zs_same (Z := _) (k := 13)).symm
            · exact kt.fr (fun k hk => by rcases hk with rfl | rfl | rfl | rfl | rfl | rfl <;> exact (o1 45 _ rfl).trans (o0 45 _ rfl)) (fun k => (o1 46 k rfl).trans (o0 46 k rfl))
            · refine ko.add (by omega) (by rw [a5, ko1]) ?_ ?_ ?_ (fun k hk => ?_) (fun k hk => ?_) ?_ (fun k hk => ⟨?_, ?_⟩)
              · rw [o1 18 6 rfl, ca]; unfold zleaf; rw [zs_ne (by omega), zs_same]; omega
              · rw [ao, o0 45 7 rfl, kc]; unfold zleaf; rw [zs_ne (by omega), zs_ne (by omega), zs_ne (by omega), zs_ne (by omega), zs_ne (by omega), zs_ne (by omega), zs_ne (by omega), zs_ne (by omega), zs_same]
              · rw [av, o0 45 9 rfl, kv]; unfold zleaf; rw [zs_ne (by omega), zs_ne (by omega), zs_ne (by omega), zs_ne (by omega), zs_ne (by omega), zs_ne (by omega), zs_ne (by omega), zs_same]
              · rw [(ar k hk).1]; exact o0 19 k rfl
              · rw [(ar k hk).2]; exact o0 20 k rfl
              · unfold zleaf; rw [zs_ne (by omega), zs_ne (by omega), zs_ne (by omega), zs_same]
              · unfold zleaf; rw [zs_ne (by omega), zs_ne (by omega), zs_ne (by omega), zs_ne (by omega), zs_ne (by omega), zs_ne (by omega), zs_ne (by omega), zs_ne (by omega), zs_ne (by omega)]
              · unfold zleaf; rw [zs_ne (by omega), zs_ne (by omega), zs_ne (by omega), zs_ne (by omega), zs_ne (by omega), zs_ne (by omega), zs_ne (by omega), zs_ne (by omega), zs_ne (by omega)]
            · exact ks.fr ((o1 45 12 rfl).trans (o0 45 12 rfl)) (by rw [o1 45 13 rfl, o0 45 13 rfl, lo 12 (by omega)]; exact ks2) (fun k => (o1 47 k rfl).trans (o0 47 k rfl)) (lo 11 (by omega)) (fun k hk => lo _ (by omega))
          · have t68 : XT l 3 60 false 54 153 6051 128 [xf 7 45] [xf 7 45] h 131 [xf 7 45] [] h1 := XT_call (l := l) (fr := 3) (lo := 60) (full := false) (M := 54) (n := 153) (u := 6051) (pc := 128) (L := [xf 7 45]) (st := [xf 7 45]) (h := h) (i := .invokevirtual 59) (aux := 1) (nx := 131) (K := 59) (vs := [xf 7 45]) (rs := []) (rest := []) rfl rfl rfl rfl rfl rfl c1 (by decide) (by decide) (Nat.le_of_ble_eq_true rfl) ⟨Nat.le_of_eq cg.1.2.2.2.1, Nat.le_of_eq cg.1.2.2.2.2⟩
            have t69 := t59.tr t68
            have rr1 : xR h1 45 4 = 3 := (cg.2.2 45 4 rfl).trans r4
            have t70 : XT l 3 60 false 54 153 6051 131 [xf 7 45] [] h1 146 [xf 7 45] [xi (xI h1 45 9), xi (xI h1 45 7), xf 4 (xR h1 (xR h1 45 4) 19)] h1 := XT_path (l := l) (fr := 3) (lo := 60) (full := false) (M := 54) (n := 153) (u := 6051) (pc := 131) (L := [xf 7 45]) (st := []) (h := h1) (inl := [39]) (n' := 120) (sp := [146]) (o := []) rfl rfl ⟨rfl, rfl, rfl⟩ rfl ⟨Nat.le_of_eq cg.1.2.2.2.1, Nat.le_of_eq cg.1.2.2.2.2⟩ ⟨⟨trivial, (show ¬ xR h1 45 4 = 0 from by rw [rr1]; decide)⟩, (show ¬ xR h1 (xR h1 45 4) 19 = 0 from by rw [rr1]; exact vnn cg.1.1 (rfl : vRf 3 19 = [18]) (by decide))⟩
            rw [rr1, vref cg.1.1 (rfl : vRf 3 19 = [18])] at t70
            have t71 := t69.tr t70
            obtain ⟨h2, c2, g2⟩ : ∃ h2, CX l 0 0 false 60 [xf 4 18, xi (xI h1 45 7), xi (xI h1 45 9)] h1 [] h2 ∧ vG ([(18, 5, false), (19, 0, true), (20, 0, true)], []) h1 h2 := ck_addA3 l (xI h1 45 7) (xI h1 45 9) h1 cg.1 (by rw [cg.2.1 45 7 rfl]; exact b7)
            have t72 : XT l 3 60 false 54 153 6051 146 [xf 7 45] [xi (xI h1 45 9), xi (xI h1 45 7), xf 4 18] h1 149 [xf 7 45] [] h2 := XT_call (l := l) (fr := 3) (lo := 60) (full := false) (M := 54) (n := 153) (u := 6051) (pc := 146) (L := [xf 7 45]) (st := [xi (xI h1 45 9), xi (xI h1 45 7), xf 4 18]) (h := h1) (i := .invokevirtual 60) (aux := 3) (nx := 149) (K := 60) (vs := [xf 4 18, xi (xI h1 45 7), xi (xI h1 45 9)]) (rs := []) (rest := []) rfl rfl rfl rfl rfl rfl c2 (by decide) (by decide) (Nat.le_of_ble_eq_true rfl) ⟨Nat.le_of_eq g2.1.2.2.2.1, Nat.le_of_eq g2.1.2.2.2.2⟩
            have t73 := t71.tr t72
            have t74 : XT l 3 60 false 54 153 6051 149 [xf 7 45] [] h2 150 [xf 7 45] [xi (Int32.ofInt (0))] h2 := XT_path (l := l) (fr := 3) (lo := 60) (full := false) (M := 54) (n := 153) (u := 6051) (pc := 149) (L := [xf 7 45]) (st := []) (h := h2) (inl := [39]) (n' := 120) (sp := [150]) (o := []) rfl rfl ⟨rfl, rfl, rfl⟩ rfl ⟨Nat.le_of_eq g2.1.2.2.2.1, Nat.le_of_eq g2.1.2.2.2.2⟩ trivial
            have t75 := t73.tr t74
            have n5 : ¬ (tkc b n q) = 5 := by omega
            have n32 : ¬ ((tkc b n q) = 32 ∧ ztl Z ≤ 3) := fun z => by omega
            have g2' : (tkc b n q) = 2 ∨ (33 ≤ (tkc b n q) ∧ (tkc b n q) ≤ 39) := by omega
            have h2' : ¬ ((tkc b n q) = 2 ∧ 9999 < (tkv b n q)) := by omega
            have o1 := g2.2.1
            have o0 := cg.2.1
            have es := zst_3 (c := (tkc b n q)) (v := (tkv b n q)) h13 g2' h2' (by omega)
            exact ⟨_, _, CX_ofT (h' := h2) (by decide) rfl rfl ⟨trivial, (Or.inl rfl)⟩ ⟨_, _, _, rfl, rfl, rfl⟩ rfl ⟨Nat.le_of_eq g2.1.2.2.2.1.symm, Nat.le_of_eq g2.1.2.2.2.2.symm⟩ t75, (vG.tr (W := ([(18, 5, false), (18, 6, false), (19, 0, true), (20, 0, true), (45, 2, false), (45, 3, false), (45, 12, false), (45, 13, false), (47, 0, true)], [])) (a := h) (b := h1) ⟨cg.1, cg.2.mono rfl rfl⟩ ⟨g2.1, g2.2.mono rfl rfl⟩), Or.inr ⟨by rw [es]; exact (by decide : ¬ (2 : Int) = 0), by rw [es, o1 45 2 rfl]; exact ca, by rw [o1 45 3 rfl, cb]; exact kq, kr.fr (by rw [o1 45 5 rfl, o0 45 5 rfl]) (fun k => by rw [o1 46 k rfl, o0 46 k rfl])⟩⟩
        · have e_9999 : (Int32.ofInt (9999)).toInt = 9999 := rfl
          have dcb58 : (Int32.ofInt (9999)).toInt < (xI h 45 9).toInt := Int32.lt_iff_toInt_lt.mp (Int32.not_le.mp cb58)
          have t76 : XT l 3 60 false 54 153 6051 0 [xf 7 45] [] h 150 [xf 7 45] [xi (Int32.ofInt (0))] (xsetI (xsetI h 45 2 (Int32.ofInt (2))) 45 3 (xI h 45 8)) := XT_path (l := l) (fr := 3) (lo := 60) (full := false) (M := 54) (n := 153) (u := 6051) (pc := 0) (L := [xf 7 45]) (st := []) (h := h) (inl := [39]) (n' := 120) (sp := [150]) (o := [1, 1, 1, 0, 0, 0]) rfl rfl ⟨rfl, rfl, rfl⟩ rfl ⟨Nat.le_of_eq hg.2.2.2.1, Nat.le_of_eq hg.2.2.2.2⟩ ⟨⟨⟨⟨⟨⟨trivial, cb1⟩, cb9⟩, cb57⟩, cb57⟩, cb58⟩, ef⟩
          have n5 : ¬ (tkc b n q) = 5 := by omega
          have n32 : ¬ ((tkc b n q) = 32 ∧ ztl Z ≤ 3) := fun z => by omega
          have es := zst_2 (c := (tkc b n q)) (v := (tkv b n q)) h13 ⟨by omega, by omega⟩
          have G1 : vG ([(18, 5, false), (18, 6, false), (19, 0, true), (20, 0, true), (45, 2, false), (45, 3, false), (45, 12, false), (45, 13, false), (47, 0, true)], []) h (xsetI (xsetI h 45 2 (Int32.ofInt (2))) 45 3 (xI h 45 8)) := vGf (vG.rf hg) (by decide) rfl rfl rfl
          exact ⟨_, _, CX_ofT (h' := (xsetI (xsetI h 45 2 (Int32.ofInt (2))) 45 3 (xI h 45 8))) (by decide) rfl rfl ⟨trivial, (Or.inl rfl)⟩ ⟨_, _, _, rfl, rfl, rfl⟩ rfl ⟨Nat.le_of_eq hg.2.2.2.1.symm, Nat.le_of_eq hg.2.2.2.2.symm⟩ t76, G1, Or.inr ⟨by rw [es]; exact (by decide : ¬ (2 : Int) = 0), by rw [es, yI_ne (by decide), yI_same]; rfl, by rw [yI_same]; exact kq, kr.fr (by rw [yI_ne (by decide), yI_ne (by decide)]) (fun k => by rw [yI_c (by decide), yI_c (by decide)])⟩⟩
      · have e_2 : (Int32.ofInt (2)).toInt = 2 := rfl
        have dcb57 : ¬ (xI h 45 7).toInt = (Int32.ofInt (2)).toInt := fun z_ => cb57 (Int32.toInt_inj.mp z_)
        by_cases cb77 : (xI h 45 7) < (Int32.ofInt (33))
        · have e_33 : (Int32.ofInt (33)).toInt = 33 := rfl
          have dcb77 : (xI h 45 7).toInt < (Int32.ofInt (33)).toInt := Int32.lt_iff_toInt_lt.mp cb77
          have t78 : XT l 3 60 false 54 153 6051 0 [xf 7 45] [] h 150 [xf 7 45] [xi (Int32.ofInt (0))] (xsetI (xsetI h 45 2 (Int32.ofInt (1))) 45 3 (xI h 45 8)) := XT_path (l := l) (fr := 3) (lo := 60) (full := false) (M := 54) (n := 153) (u := 6051) (pc := 0) (L := [xf 7 45]) (st := []) (h := h) (inl := [39]) (n' := 120) (sp := [150]) (o := [1, 1, 0, 1, 0]) rfl rfl ⟨rfl, rfl, rfl⟩ rfl ⟨Nat.le_of_eq hg.2.2.2.1, Nat.le_of_eq hg.2.2.2.2⟩ ⟨⟨⟨⟨⟨trivial, cb1⟩, cb9⟩, cb57⟩, cb77⟩, ef⟩
          have n5 : ¬ (tkc b n q) = 5 := by omega
          have n32 : ¬ ((tkc b n q) = 32 ∧ ztl Z ≤ 3) := fun z => by omega
          have es := zst_1 (c := (tkc b n q)) (v := (tkv b n q)) h13 n5 n32 ⟨by omega, by omega⟩
          have G1 : vG ([(18, 5, false), (18, 6, false), (19, 0, true), (20, 0, true), (45, 2, false), (45, 3, false), (45, 12, false), (45, 13, false), (47, 0, true)], []) h (xsetI (xsetI h 45 2 (Int32.ofInt (1))) 45 3 (xI h 45 8)) := vGf (vG.rf hg) (by decide) rfl rfl rfl
          exact ⟨_, _, CX_ofT (h' := (xsetI (xsetI h 45 2 (Int32.ofInt (1))) 45 3 (xI h 45 8))) (by decide) rfl rfl ⟨trivial, (Or.inl rfl)⟩ ⟨_, _, _, rfl, rfl, rfl⟩ rfl ⟨Nat.le_of_eq hg.2.2.2.1.symm, Nat.le_of_eq hg.2.2.2.2.symm⟩ t78, G1, Or.inr ⟨by rw [es]; exact (by decide : ¬ (1 : Int) = 0), by rw [es, yI_ne (by decide), yI_same]; rfl, by rw [yI_same]; exact kq, kr.fr (by rw [yI_ne (by decide), yI_ne (by decide)]) (fun k => by rw [yI_c (by decide), yI_c (by decide)])⟩⟩
        · have e_33 : (Int32.ofInt (33)).toInt = 33 := rfl
          have dcb77 : (Int32.ofInt (33)).toInt ≤ (xI h 45 7).toInt := Int32.le_iff_toInt_le.mp (Int32.not_lt.mp cb77)
          by_cases cb79 : (xI h 45 7) ≤ (Int32.ofInt (39))
          · have e_39 : (Int32.ofInt (39)).toInt = 39 := rfl
            have dcb79 : (xI h 45 7).toInt ≤ (Int32.ofInt (39)).toInt := Int32.le_iff_toInt_le.mp cb79
            have t80 : XT l 3 60 false 54 153 6051 0 [xf 7 45] [] h 128 [xf 7 45] [xf 7 45] h := XT_path (l := l) (fr := 3) (lo := 60) (full := false) (M := 54) (n := 153) (u := 6051) (pc := 0) (L := [xf 7 45]) (st := []) (h := h) (inl := [39]) (n' := 120) (sp := [128]) (o := [1, 1, 0, 0, 1, 1]) rfl rfl ⟨rfl, rfl, rfl⟩ rfl ⟨Nat.le_of_eq hg.2.2.2.1, Nat.le_of_eq hg.2.2.2.2⟩ ⟨⟨⟨⟨⟨⟨trivial, cb1⟩, cb9⟩, cb57⟩, cb77⟩, cb79⟩, cb57⟩
            obtain ⟨h1, c1, o1⟩ := ck_cnt3 l h hg f0 r4
            rcases o1 with ⟨cl1, cg, ca⟩ | ⟨cl1, cg, ca, cb⟩
            · have t81 : XT l 3 60 false 54 153 6051 128 [xf 7 45] [xf 7 45] h 131 [xf 7 45] [] h1 := XT_call (l := l) (fr := 3) (lo := 60) (full := false) (M := 54) (n := 153) (u := 6051) (pc := 128) (L := [xf 7 45]) (st := [xf 7 45]) (h := h) (i := .invokevirtual 59) (aux := 1) (nx := 131) (K := 59) (vs := [xf 7 45]) (rs := []) (rest := []) rfl rfl rfl rfl rfl rfl c1 (by decide) (by decide) (Nat.le_of_ble_eq_true rfl) ⟨Nat.le_of_eq cg.1.2.2.2.1, Nat.le_of_eq cg.1.2.2.2.2⟩
              have t82 := t80.tr t81
              have rr1 : xR h1 45 4 = 3 := (cg.2.2 45 4 rfl).trans r4
              have t83 : XT l 3 60 false 54 153 6051 131 [xf 7 45] [] h1 146 [xf 7 45] [xi (xI h1 45 9), xi (xI h1 45 7), xf 4 (xR h1 (xR h1 45 4) 19)] h1 := XT_path (l := l) (fr := 3) (lo := 60) (full := false) (M := 54) (n := 153) (u := 6051) (pc := 131) (L := [xf 7 45]) (st := []) (h := h1) (inl := [39]) (n' := 120) (sp := [146]) (o := []) rfl rfl ⟨rfl, rfl, rfl⟩ rfl ⟨Nat.le_of_eq cg.1.2.2.2.1, Nat.le_of_eq cg.1.2.2.2.2⟩ ⟨⟨trivial, (show ¬ xR h1 45 4 = 0 from by rw [rr1]; decide)⟩, (show ¬ xR h1 (xR h1 45 4) 19 = 0 from by rw [rr1]; exact vnn cg.1.1 (rfl : vRf 3 19 = [18]) (by decide))⟩
              rw [rr1, vref cg.1.1 (rfl : vRf 3 19 = [18])] at t83
              have t84 := t82.tr t83
              have q5 : xI h1 18 5 = xI h 18 5 := cg.2.1 18 5 rfl
              obtain ⟨h2, c2, g2, a5, ao, av, ar⟩ := ck_add3 l (xI h1 45 7) (xI h1 45 9) h1 cg.1 (by rw [q5]; omega) (by rw [cg.2.1 45 7 rfl]; exact b7)
              have t85 : XT l 3 60 false 54 153 6051 146 [xf 7 45] [xi (xI h1 45 9), xi (xI h1 45 7), xf 4 18] h1 149 [xf 7 45] [] h2 := XT_call (l := l) (fr := 3) (lo := 60) (full := false) (M := 54) (n := 153) (u := 6051) (pc := 146) (L := [xf 7 45]) (st := [xi (xI h1 45 9), xi (xI h1 45 7), xf 4 18]) (h := h1) (i := .invokevirtual 60) (aux := 3) (nx := 149) (K := 60) (vs := [xf 4 18, xi (xI h1 45 7), xi (xI h1 45 9)]) (rs := []) (rest := []) rfl rfl rfl rfl rfl rfl c2 (by decide) (by decide) (Nat.le_of_ble_eq_true rfl) ⟨Nat.le_of_eq g2.1.2.2.2.1, Nat.le_of_eq g2.1.2.2.2.2⟩
              have t86 := t84.tr t85
              have t87 : XT l 3 60 false 54 153 6051 149 [xf 7 45] [] h2 150 [xf 7 45] [xi (Int32.ofInt (0))] h2 := XT_path (l := l) (fr := 3) (lo := 60) (full := false) (M := 54) (n := 153) (u := 6051) (pc := 149) (L := [xf 7 45]) (st := []) (h := h2) (inl := [39]) (n' := 120) (sp := [150]) (o := []) rfl rfl ⟨rfl, rfl, rfl⟩ rfl ⟨Nat.le_of_eq g2.1.2.2.2.1, Nat.le_of_eq g2.1.2.2.2.2⟩ trivial
              have t88 := t86.tr t87
              have n5 : ¬ (tkc b n q) = 5 := by omega
              have n32 : ¬ ((tkc b n q) = 32 ∧ ztl Z ≤ 3) := fun z => by omega
              have g2' : (tkc b n q) = 2 ∨ (33 ≤ (tkc b n q) ∧ (tkc b n q) ≤ 39) := by omega
              have h2' : ¬ ((tkc b n q) = 2 ∧ 9999 < (tkv b n q)) := by omega
              have o1 := g2.2.1
              have o0 := cg.2.1
              have es := zst_l (c := (tkc b n q)) (v := (tkv b n q)) h13 g2' h2' (by omega)
              rw [q5, show (xI h 18 5).toInt.toNat = (Z 10).toNat from by rw [ko1]] at ao av ar
              rw [q5] at a5
              rw [es]
              dsimp only
              have lo : ∀ i : Nat, (i < 300 ∧ i ≠ 6 ∧ i ≠ 10 ∧ i ≠ 13 ∧ i ≠ 14) ∨ (700 ≤ i ∧ i < 800) → zleaf Z (tkc b n q) (tkv b n q) i = Z i := fun i hi => by
                unfold zleaf
                rw [zs_ne (by omega), zs_ne (by omega), zs_ne (by omega), zs_ne (by omega), zs_ne (by omega), zs_ne (by omega), zs_ne (by omega), zs_ne (by omega), zs_ne (by omega)]
              refine ⟨_, _, CX_ofT (h' := h2) (by decide) rfl rfl ⟨trivial, (Or.inl rfl)⟩ ⟨_, _, _, rfl, rfl, rfl⟩ rfl ⟨Nat.le_of_eq g2.1.2.2.2.1.symm, Nat.le_of_eq g2.1.2.2.2.2.symm⟩ t88, (vG.tr (W := ([(18, 5, false), (18, 6, false), (19, 0, true), (20, 0, true), (45, 2, false), (45, 3, false), (45, 12, false), (45, 13, false), (47, 0, true)], [])) (a := h) (b := h1) ⟨cg.1, cg.2.mono rfl rfl⟩ ⟨g2.1, g2.2.mono rfl rfl⟩), Or.inl ⟨rfl, ?_, ?_, (Or.inl rfl), ?_, ?_, ?_⟩⟩
              · rw [o1 45 2 rfl, o0 45 2 rfl]; exact f0
              · exact (zs_same (Z := _) (k := 13)).symm
              · exact kt.fr (fun k hk => by rcases hk with rfl | rfl | rfl | rfl | rfl | rfl <;> exact (o1 45 _ rfl).trans (o0 45 _ rfl)) (fun k => (o1 46 k rfl).trans (o0 46 k rfl))
              · refine ko.add (by omega) (by rw [a5, ko1]) ?_ ?_ ?_ (fun k hk => ?_) (fun k hk => ?_) ?_ (fun k hk => ⟨?_, ?_⟩)
                · rw [o1 18 6 rfl, ca]; unfold zleaf; rw [zs_ne (by omega), zs_same]; omega
                · rw [ao, o0 45 7 rfl, kc]; unfold zleaf; rw [zs_ne (by omega), zs_ne (by omega), zs_ne (by omega), zs_ne (by omega), zs_ne (by omega), zs_ne (by omega), zs_ne (by omega), zs_ne (by omega), zs_same]
                · rw [av, o0 45 9 rfl, kv]; unfold zleaf; rw [zs_ne (by omega), zs_ne (by omega), zs_ne (by omega), zs_ne (by omega), zs_ne (by omega), zs_ne (by omega), zs_ne (by omega), zs_same]
                · rw [(ar k hk).1]; exact o0 19 k rfl
                · rw [(ar k hk).2]; exact o0 20 k rfl
                · unfold zleaf; rw [zs_ne (by omega), zs_ne (by omega), zs_ne (by omega), zs_same]
                · unfold zleaf; rw [zs_ne (by omega), zs_ne (by omega), zs_ne (by omega), zs_ne (by omega), zs_ne (by omega), zs_ne (by omega), zs_ne (by omega), zs_ne (by omega), zs_ne (by omega)]
                · unfold zleaf; rw [zs_ne (by omega), zs_ne (by omega), zs_ne (by omega), zs_ne (by omega), zs_ne (by omega), zs_ne (by omega), zs_ne (by omega), zs_ne (by omega), zs_ne (by omega)]
              · exact ks.fr ((o1 45 12 rfl).trans (o0 45 12 rfl)) (by rw [o1 45 13 rfl, o0 45 13 rfl, lo 12 (by omega)]; exact ks2) (fun k => (o1 47 k rfl).trans (o0 47 k rfl)) (lo 11 (by omega)) (fun k hk => lo _ (by omega))
            · have t89 : XT l 3 60 false 54 153 6051 128 [xf 7 45] [xf 7 45] h 131 [xf 7 45] [] h1 := XT_call (l := l) (fr := 3) (lo := 60) (full := false) (M := 54) (n := 153) (u := 6051) (pc := 128) (L := [xf 7 45]) (st := [xf 7 45]) (h := h) (i := .invokevirtual 59) (aux := 1) (nx := 131) (K := 59) (vs := [xf 7 45]) (rs := []) (rest := []) rfl rfl rfl rfl rfl rfl c1 (by decide) (by decide) (Nat.le_of_ble_eq_true rfl) ⟨Nat.le_of_eq cg.1.2.2.2.1, Nat.le_of_eq cg.1.2.2.2.2⟩
              have t90 := t80.tr t89
              have rr1 : xR h1 45 4 = 3 := (cg.2.2 45 4 rfl).trans r4
              have t91 : XT l 3 60 false 54 153 6051 131 [xf 7 45] [] h1 146 [xf 7 45] [xi (xI h1 45 9), xi (xI h1 45 7), xf 4 (xR h1 (xR h1 45 4) 19)] h1 := XT_path (l := l) (fr := 3) (lo := 60) (full := false) (M := 54) (n := 153) (u := 6051) (pc := 131) (L := [xf 7 45]) (st := []) (h := h1) (inl := [39]) (n' := 120) (sp := [146]) (o := []) rfl rfl ⟨rfl, rfl, rfl⟩ rfl ⟨Nat.le_of_eq cg.1.2.2.2.1, Nat.le_of_eq cg.1.2.2.2.2⟩ ⟨⟨trivial, (show ¬ xR h1 45 4 = 0 from by rw [rr1]; decide)⟩, (show ¬ xR h1 (xR h1 45 4) 19 = 0 from by rw [rr1]; exact vnn cg.1.1 (rfl : vRf 3 19 = [18]) (by decide))⟩
              rw [rr1, vref cg.1.1 (rfl : vRf 3 19 = [18])] at t91
              have t92 := t90.tr t91
              obtain ⟨h2, c2, g2⟩ : ∃ h2, CX l 0 0 false 60 [xf 4 18, xi (xI h1 45 7), xi (xI h1 45 9)] h1 [] h2 ∧ vG ([(18, 5, false), (19, 0, true), (20, 0, true)], []) h1 h2 := ck_addA3 l (xI h1 45 7) (xI h1 45 9) h1 cg.1 (by rw [cg.2.1 45 7 rfl]; exact b7)
              have t93 : XT l 3 60 false 54 153 6051 146 [xf 7 45] [xi (xI h1 45 9), xi (xI h1 45 7), xf 4 18] h1 149 [xf 7 45] [] h2 := XT_call (l := l) (fr := 3) (lo := 60) (full := false) (M := 54) (n := 153) (u := 6051) (pc := 146) (L := [xf 7 45]) (st := [xi (xI h1 45 9), xi (xI h1 45 7), xf 4 18]) (h := h1) (i := .invokevirtual 60) (aux := 3) (nx := 149) (K := 60) (vs := [xf 4 18, xi (xI h1 45 7), xi (xI h1 45 9)]) (rs := []) (rest := []) rfl rfl rfl rfl rfl rfl c2 (by decide) (by decide) (Nat.le_of_ble_eq_true rfl) ⟨Nat.le_of_eq g2.1.2.2.2.1, Nat.le_of_eq g2.1.2.2.2.2⟩
              have t94 := t92.tr t93
              have t95 : XT l 3 60 false 54 153 6051 149 [xf 7 45] [] h2 150 [xf 7 45] [xi (Int32.ofInt (0))] h2 := XT_path (l := l) (fr := 3) (lo := 60) (full := false) (M := 54) (n := 153) (u := 6051) (pc := 149) (L := [xf 7 45]) (st := []) (h := h2) (inl := [39]) (n' := 120) (sp := [150]) (o := []) rfl rfl ⟨rfl, rfl, rfl⟩ rfl ⟨Nat.le_of_eq g2.1.2.2.2.1, Nat.le_of_eq g2.1.2.2.2.2⟩ trivial
              have t96 := t94.tr t95
              have n5 : ¬ (tkc b n q) = 5 := by omega
              have n32 : ¬ ((tkc b n q) = 32 ∧ ztl Z ≤ 3) := fun z => by omega
              have g2' : (tkc b n q) = 2 ∨ (33 ≤ (tkc b n q) ∧ (tkc b n q) ≤ 39) := by omega
              have h2' : ¬ ((tkc b n q) = 2 ∧ 9999 < (tkv b n q)) := by omega
              have o1 := g2.2.1
              have o0 := cg.2.1
              have es := zst_3 (c := (tkc b n q)) (v := (tkv b n q)) h13 g2' h2' (by omega)
              exact ⟨_, _, CX_ofT (h' := h2) (by decide) rfl rfl ⟨trivial, (Or.inl rfl)⟩ ⟨_, _, _, rfl, rfl, rfl⟩ rfl ⟨Nat.le_of_eq g2.1.2.2.2.1.symm, Nat.le_of_eq g2.1.2.2.2.2.symm⟩ t96, (vG.tr (W := ([(18, 5, false), (18, 6, false), (19, 0, true), (20, 0, true), (45, 2, false), (45, 3, false), (45, 12, false), (45, 13, false), (47, 0, true)], [])) (a := h) (b := h1) ⟨cg.1, cg.2.mono rfl rfl⟩ ⟨g2.1, g2.2.mono rfl rfl⟩), Or.inr ⟨by rw [es]; exact (by decide : ¬ (2 : Int) = 0), by rw [es, o1 45 2 rfl]; exact ca, by rw [o1 45 3 rfl, cb]; exact kq, kr.fr (by rw [o1 45 5 rfl, o0 45 5 rfl]) (fun k => by rw [o1 46 k rfl, o0 46 k rfl])⟩⟩
          · have e_39 : (Int32.ofInt (39)).toInt = 39 := rfl
            have dcb79 : (Int32.ofInt (39)).toInt < (xI h 45 7).toInt := Int32.lt_iff_toInt_lt.mp (Int32.not_le.mp cb79)
            have t97 : XT l 3 60 false 54 153 6051 0 [xf 7 45] [] h 150 [xf 7 45] [xi (Int32.ofInt (0))] (xsetI (xsetI h 45 2 (Int32.ofInt (1))) 45 3 (xI h 45 8)) := XT_path (l := l) (fr := 3) (lo := 60) (full := false) (M := 54) (n := 153) (u := 6051) (pc := 0) (L := [xf 7 45]) (st := []) (h := h) (inl := [39]) (n' := 120) (sp := [150]) (o := [1, 1, 0, 0, 0, 0]) rfl rfl ⟨rfl, rfl, rfl⟩ rfl ⟨Nat.le_of_eq hg.2.2.2.1, Nat.le_of_eq hg.2.2.2.2⟩ ⟨⟨⟨⟨⟨⟨trivial, cb1⟩, cb9⟩, cb57⟩, cb77⟩, cb79⟩, ef⟩
            have n5 : ¬ (tkc b n q) = 5 := by omega
            have n32 : ¬ ((tkc b n q) = 32 ∧ ztl Z ≤ 3) := fun z => by omega
            have es := zst_1 (c := (tkc b n q)) (v := (tkv b n q)) h13 n5 n32 ⟨by omega, by omega⟩
            have G1 : vG ([(18, 5, false), (18, 6, false), (19, 0, true), (20, 0, true), (45, 2, false), (45, 3, false), (45, 12, false), (45, 13, false), (47, 0, true)], []) h (xsetI (xsetI h 45 2 (Int32.ofInt (1))) 45 3 (xI h 45 8)) := vGf (vG.rf hg) (by decide) rfl rfl rfl
            exact ⟨_, _, CX_ofT (h' := (xsetI (xsetI h 45 2 (Int32.ofInt (1))) 45 3 (xI h 45 8))) (by decide) rfl rfl ⟨trivial, (Or.inl rfl)⟩ ⟨_, _, _, rfl, rfl, rfl⟩ rfl ⟨Nat.le_of_eq hg.2.2.2.1.symm, Nat.le_of_eq hg.2.2.2.2.symm⟩ t97, G1, Or.inr ⟨by rw [es]; exact (by decide : ¬ (1 : Int) = 0), by rw [es, yI_ne (by decide), yI_same]; rfl, by rw [yI_same]; exact kq, kr.fr (by rw [yI_ne (by decide), yI_ne (by decide)]) (fun k => by rw [yI_c (by decide), yI_c (by decide)])⟩⟩
set_option maxRecDepth 100000 in
set_option maxHeartbeats 4000000 in
theorem ck_sign3 (l : Launch) (f : Int) (b : Nat → Int) (n q : Nat) (Z : Nat → Int) (h : XH) (hg : sgood vT vR vE 153 6051 h) (kt : kT b n q h) (f0 : (xI h 45 2).toInt = 0) (r4 : xR h 45 4 = 3) (ko : kO 18 19 20 Z h) (ks : kS Z h) (I : zInv f Z) (h13 : Z 13 = 0) : ∃ v h', CX l 2 44 false 61 [xf 7 45] h [xi v] h' ∧ vG ([(18, 5, false), (18, 6, false), (19, 0, true), (20, 0, true), (45, 2, false), (45, 3, false), (45, 12, false), (45, 13, false), (47, 0, true)], []) h h' ∧ (((zstep (tkc b n q) (tkv b n q) Z).1 = 0 ∧ (xI h' 45 2).toInt = 0 ∧ v.toInt = (zstep (tkc b n q) (tkv b n q) Z).2 13 ∧ (v = 0 ∨ v = 1) ∧ kT b n q h' ∧ kO 18 19 20 (zstep (tkc b n q) (tkv b n q) Z).2 h' ∧ kS (zstep (tkc b n q) (tkv b n q) Z).2 h') ∨ (¬ (zstep (tkc b n q) (tkv b n q) Z).1 = 0 ∧ (xI h' 45 2).toInt = (zstep (tkc b n q) (tkv b n q) Z).1 ∧ (xI h' 45 3).toInt = q ∧ kR b n h')) := by
  have ef : xI h 45 2 = 0 := Int32.toInt_inj.mp f0
  have e_0 : (0 : Int32).toInt = 0 := rfl
  obtain ⟨kr, hn7, hq, kq, kc, kv, ke⟩ := id kt
  have B := I.b
  have ks1 := ks.1
  have ks2 := ks.2.1
  have ko1 := ko.1
  have ko2 := ko.2.1
  have b8 : 0 ≤ (xI h 45 8).toInt ∧ (xI h 45 8).toInt ≤ 700 := vbnd hg.1 45 8
  have b7 : 0 ≤ (xI h 45 7).toInt ∧ (xI h 45 7).toInt ≤ 39 := vbnd hg.1 45 7
  by_cases cb1 : (xI h 45 7) = (Int32.ofInt (6))
  · have e_6 : (Int32.ofInt (6)).toInt = 6 := rfl
    have dcb1 : (xI h 45 7).toInt = (Int32.ofInt (6)).toInt := congrArg Int32.toInt cb1
    by_cases cb2 : (xI h 45 13) ≤ 0
    · have e_0 : (0 : Int32).toInt = 0 := rfl
      have dcb2 : (xI h 45 13).toInt ≤ (0 : Int32).toInt := Int32.le_iff_toInt_le.mp cb2
      have t3 : XT l 2 44 false 61 153 6051 0 [xf 7 45, xun] [] h 41 [xf 7 45, xun] [xi (xI h 45 7)] h := XT_path (l := l) (fr := 2) (lo := 44) (full := false) (M := 61) (n := 153) (u := 6051) (pc := 0) (L := [xf 7 45, xun]) (st := []) (h := h) (inl := [39, 63]) (n' := 120) (sp := [41]) (o := [0, 1]) rfl rfl ⟨rfl, rfl, rfl⟩ rfl ⟨Nat.le_of_eq hg.2.2.2.1, Nat.le_of_eq hg.2.2.2.2⟩ ⟨⟨trivial, cb1⟩, cb2⟩
      obtain ⟨r1, c1, e1⟩ := ck_lev l (xI h 45 7) h hg
      rw [kc] at e1
      have lb := lev_b (tkc b n q)
      have t4 : XT l 2 44 false 61 153 6051 41 [xf 7 45, xun] [xi (xI h 45 7)] h 44 [xf 7 45, xun] [xi r1] h := XT_call (l := l) (fr := 2) (lo := 44) (full := false) (M := 61) (n := 153) (u := 6051) (pc := 41) (L := [xf 7 45, xun]) (st := [xi (xI h 45 7)]) (h := h) (i := .invokestatic 58) (aux := 1) (nx := 44) (K := 58) (vs := [xi (xI h 45 7)]) (rs := [xi r1]) (rest := []) rfl rfl rfl rfl rfl rfl c1 (by decide) (by decide) (Nat.le_of_ble_eq_true rfl) ⟨Nat.le_of_eq hg.2.2.2.1, Nat.le_of_eq hg.2.2.2.2⟩
      have t5 := t3.tr t4
      by_cases cb6 : r1 = 0
      · have e_0 : (0 : Int32).toInt = 0 := rfl
        have dcb6 : (r1).toInt = (0 : Int32).toInt := congrArg Int32.toInt cb6
        have t7 : XT l 2 44 false 61 153 6051 44 [xf 7 45, xun] [xi r1] h 64 [xf 7 45, xi r1] [xi (Int32.ofInt (0))] (xsetI (xsetI h 45 2 (Int32.ofInt (1))) 45 3 (xI h 45 8)) := XT_path (l := l) (fr := 2) (lo := 44) (full := false) (M := 61) (n := 153) (u := 6051) (pc := 44) (L := [xf 7 45, xun]) (st := [xi r1]) (h := h) (inl := [39, 63]) (n' := 120) (sp := [64]) (o := [1, 0]) rfl rfl ⟨rfl, rfl, rfl⟩ rfl ⟨Nat.le_of_eq hg.2.2.2.1, Nat.le_of_eq hg.2.2.2.2⟩ ⟨⟨trivial, cb6⟩, ef⟩
        have t8 := t5.tr t7
        have n6 : ¬ ((tkc b n q) = 6 ∧ 0 < Z 12) := by omega
        have es := zst_s1 (c := (tkc b n q)) (v := (tkv b n q)) h13 n6 (by omega)
        have G1 : vG ([(18, 5, false), (18, 6, false), (19, 0, true), (20, 0, true), (45, 2, false), (45, 3, false), (45, 12, false), (45, 13, false), (47, 0, true)], []) h (xsetI (xsetI h 45 2 (Int32.ofInt (1))) 45 3 (xI h 45 8)) := vGf (vG.rf hg) (by decide) rfl rfl rfl
        exact ⟨_, _, CX_ofT (h' := (xsetI (xsetI h 45 2 (Int32.ofInt (1))) 45 3 (xI h 45 8))) (by decide) rfl rfl ⟨trivial, (Or.inl rfl)⟩ ⟨_, _, _, rfl, rfl, rfl⟩ rfl ⟨Nat.le_of_eq hg.2.2.2.1.symm, Nat.le_of_eq hg.2.2.2.2.symm⟩ t8, G1, Or.inr ⟨by rw [es]; exact (by decide : ¬ (1 : Int) = 0), by rw [es, yI_ne (by decide), yI_same]; rfl, by rw [yI_same]; exact kq, kr.fr (by rw [yI_ne (by decide), yI_ne (by decide)]) (fun k => by rw [yI_c (by decide), yI_c (by decide)])⟩⟩
      · have e_0 : (0 : Int32).toInt = 0 := rfl
        have dcb6 : ¬ (r1).toInt = (0 : Int32).toInt := fun z_ => cb6 (Int32.toInt_inj.mp z_)
        have t9 : XT l 2 44 false 61 153 6051 44 [xf 7 45, xun] [xi r1] h 68 [xf 7 45, xi r1] [xi (Int32.ofInt (7)), xi r1] h := XT_path (l := l) (fr := 2) (lo := 44) (full := false) (M := 61) (n := 153) (u := 6051) (pc := 44) (L := [xf 7 45, xun]) (st := [xi r1]) (h := h) (inl := [39, 63]) (n' := 120) (sp := [68]) (o := [0, 1]) rfl rfl ⟨rfl, rfl, rfl⟩ rfl ⟨Nat.le_of_eq hg.2.2.2.1, Nat.le_of_eq hg.2.2.2.2⟩ ⟨⟨trivial, cb6⟩, (fun z => absurd (cb1.symm.trans z) (by decide))⟩
        have t10 := t5.tr t9
        obtain ⟨r2, c2, e2⟩ := ck_lev l (Int32.ofInt (7)) h hg
        have e24 : r2.toInt = 4 := e2.trans rfl
        have t11 : XT l 2 44 false 61 153 6051 68 [xf 7 45, xi r1] [xi (Int32.ofInt (7)), xi r1] h 71 [xf 7 45, xi r1] [xi r2, xi r1] h := XT_call (l := l) (fr := 2) (lo := 44) (full := false) (M := 61) (n := 153) (u := 6051) (pc := 68) (L := [xf 7 45, xi r1]) (st := [xi (Int32.ofInt (7)), xi r1]) (h := h) (i := .invokestatic 58) (aux := 1) (nx := 71) (K := 58) (vs := [xi (Int32.ofInt (7))]) (rs := [xi r2]) (rest := [xi r1]) rfl rfl rfl rfl rfl rfl c2 (by decide) (by decide) (Nat.le_of_ble_eq_true rfl) ⟨Nat.le_of_eq hg.2.2.2.1, Nat.le_of_eq hg.2.2.2.2⟩
        have t12 := t10.tr t11
        by_cases cb13 : r1 = r2
        · have dcb13 : (r1).toInt = (r2).toInt := congrArg Int32.toInt cb13
          have t14 : XT l 2 44 false 61 153 6051 71 [xf 7 45, xi r1] [xi r2, xi r1] h 76 [xf 7 45, xi r1] [xi r1, xf 7 45] h := XT_path (l := l) (fr := 2) (lo := 44) (full := false) (M := 61) (n := 153) (u := 6051) (pc := 71) (L := [xf 7 45, xi r1]) (st := [xi r2, xi r1]) (h := h) (inl := [39, 63]) (n' := 120) (sp := [76]) (o := [0]) rfl rfl ⟨rfl, rfl, rfl⟩ rfl ⟨Nat.le_of_eq hg.2.2.2.1, Nat.le_of_eq hg.2.2.2.2⟩ ⟨trivial, cb13⟩
          have t15 := t12.tr t14
          obtain ⟨h1, c3, g1, ko3, ks3⟩ := ck_put3 l f r1 (by omega) Z h hg r4 ko ks I h13
          have l4 : lev (tkc b n q) = 4 := by omega
          rw [show (r1).toInt = 4 from by omega] at ko3 ks3
          obtain ⟨J1, J2, J3, J4, J5, J6, J7, J8⟩ := zInv_put (lv := 4) (by decide) I h13
          have rr1 : xR h1 45 4 = 3 := (g1.2.2 45 4 rfl).trans r4
          have ef1 : xI h1 45 2 = 0 := (g1.2.1 45 2 rfl).trans ef
          have t16 : XT l 2 44 false 61 153 6051 76 [xf 7 45, xi r1] [xi r1, xf 7 45] h 79 [xf 7 45, xi r1] [] h1 := XT_call (l := l) (fr := 2) (lo := 44) (full := false) (M := 61) (n := 153) (u := 6051) (pc := 76) (L := [xf 7 45, xi r1]) (st := [xi r1, xf 7 45]) (h := h) (i := .invokevirtual 62) (aux := 2) (nx := 79) (K := 62) (vs := [xf 7 45, xi r1]) (rs := []) (rest := []) rfl rfl rfl rfl rfl rfl c3 (by decide) (by decide) (Nat.le_of_ble_eq_true rfl) ⟨Nat.le_of_eq g1.1.2.2.2.1, Nat.le_of_eq g1.1.2.2.2.2⟩
          have t17 := t15.tr t16
          have t18 : XT l 2 44 false 61 153 6051 79 [xf 7 45, xi r1] [] h1 80 [xf 7 45, xi r1] [xf 7 45] h1 := XT_path (l := l) (fr := 2) (lo := 44) (full := false) (M := 61) (n := 153) (u := 6051) (pc := 79) (L := [xf 7 45, xi r1]) (st := []) (h := h1) (inl := [39, 63]) (n' := 120) (sp := [80]) (o := []) rfl rfl ⟨rfl, rfl, rfl⟩ rfl ⟨Nat.le_of_eq g1.1.2.2.2.1, Nat.le_of_eq g1.1.2.2.2.2⟩ trivial
          have t19 := t17.tr t18
          obtain ⟨r3, c4, e3⟩ := ck_top l (zput 4 Z) h1 g1.1 ks3
          have t20 : XT l 2 44 false 61 153 6051 80 [xf 7 45, xi r1] [xf 7 45] h1 83 [xf 7 45, xi r1] [xi r3] h1 := XT_call (l := l) (fr := 2) (lo := 44) (full := false) (M := 61) (n := 153) (u := 6051) (pc := 80) (L := [xf 7 45, xi r1]) (st := [xf 7 45]) (h := h1) (i := .invokevirtual 57) (aux := 1) (nx := 83) (K := 57) (vs := [xf 7 45]) (rs := [xi r3]) (rest := []) rfl rfl rfl rfl rfl rfl c4 (by decide) (by decide) (Nat.le_of_ble_eq_true rfl) ⟨Nat.le_of_eq g1.1.2.2.2.1, Nat.le_of_eq g1.1.2.2.2.2⟩
          have t21 := t19.tr t20
          by_cases cb22 : r3 = r1
          · have dcb22 : (r3).toInt = (r1).toInt := congrArg Int32.toInt cb22
            have t23 : XT l 2 44 false 61 153 6051 83 [xf 7 45, xi r1] [xi r3] h1 93 [xf 7 45, xi r1] [xi (Int32.ofInt (0))] (xsetI (xsetI h1 45 2 (Int32.ofInt (1))) 45 3 (xI h1 45 8)) := XT_path (l := l) (fr := 2) (lo := 44) (full := false) (M := 61) (n := 153) (u := 6051) (pc := 83) (L := [xf 7 45, xi r1]) (st := [xi r3]) (h := h1) (inl := [39, 63]) (n' := 120) (sp := [93]) (o := [0, 0]) rfl rfl ⟨rfl, rfl, rfl⟩ rfl ⟨Nat.le_of_eq g1.1.2.2.2.1, Nat.le_of_eq g1.1.2.2.2.2⟩ ⟨⟨trivial, cb22⟩, ef1⟩
            have t24 := t21.tr t23
            have n6 : ¬ ((tkc b n q) = 6 ∧ 0 < Z 12) := by omega
            have n0 : ¬ (lev (tkc b n q) = 0 ∨ (tkc b n q) = 32) := by omega
            have es := zst_s4 (c := (tkc b n q)) (v := (tkv b n q)) h13 n0 l4 (by omega)
            have g0 : vG ([(18, 5, false), (18, 6, false), (19, 0, true), (20, 0, true), (45, 2, false), (45, 3, false), (45, 12, false), (45, 13, false), (47, 0, true)], []) h h1 := ⟨g1.1, g1.2.mono rfl rfl⟩
            have b81 : 0 ≤ (xI h1 45 8).toInt ∧ (xI h1 45 8).toInt ≤ 700 := vbnd g1.1.1 45 8
            have G1 : vG ([(18, 5, false), (18, 6, false), (19, 0, true), (20, 0, true), (45, 2, false), (45, 3, false), (45, 12, false), (45, 13, false), (47, 0, true)], []) h (xsetI (xsetI h1 45 2 (Int32.ofInt (1))) 45 3 (xI h1 45 8)) := vGf (g0 : vG ([(18, 5, false), (18, 6, false), (19, 0, true), (20, 0, true), (45, 2, false), (45, 3, false), (45, 12, false), (45, 13, false), (47, 0, true)], []) h h1) (by decide) rfl rfl rfl
            have o1 := g1.2.1
            exact ⟨_, _, CX_ofT (h' := (xsetI (xsetI h1 45 2 (Int32.ofInt (1))) 45 3 (xI h1 45 8))) (by decide) rfl rfl ⟨trivial, (Or.inl rfl)⟩ ⟨_, _, _, rfl, rfl, rfl⟩ rfl ⟨Nat.le_of_eq g1.1.2.2.2.1.symm, Nat.le_of_eq g1.1.2.2.2.2.symm⟩ t24, G1, Or.inr ⟨by rw [es]; exact (by decide : ¬ (1 : Int) = 0), by rw [es, yI_ne (by decide), yI_same]; rfl, by rw [yI_same, o1 45 8 rfl]; exact kq, kr.fr (by rw [yI_ne (by decide), yI_ne (by decide), o1 45 5 rfl]) (fun k => by rw [yI_c (by decide), yI_c (by decide), o1 46 k rfl])⟩⟩
          · have dcb22 : ¬ (r3).toInt = (r1).toInt := fun z_ => cb22 (Int32.toInt_inj.mp z_)
            have t25 : XT l 2 44 false 61 153 6051 83 [xf 7 45, xi r1] [xi r3] h1 98 [xf 7 45, xi r1] [xi (r1 - (Int32.ofInt (1))), xf 7 45] h1 := XT_path (l := l) (fr := 2) (lo := 44) (full := false) (M := 61) (n := 153) (u := 6051) (pc := 83) (L := [xf 7 45, xi r1]) (st := [xi r3]) (h := h1) (inl := [39, 63]) (n' := 120) (sp := [98]) (o := [1]) rfl rfl ⟨rfl, rfl, rfl⟩ rfl ⟨Nat.le_of_eq g1.1.2.2.2.1, Nat.le_of_eq g1.1.2.2.2.2⟩ ⟨trivial, cb22⟩
            have t26 := t21.tr t25
            have yl := y_pred (k := r1) (by omega) (by omega)
            obtain ⟨h2, c5, g2, ko4, ks4⟩ := ck_put3 l f (r1 - (Int32.ofInt (1))) (by omega) (zput 4 Z) h1 g1.1 rr1 ko3 ks3 J1 J3
            rw [show ((r1 - (Int32.ofInt (1)))).toInt = 3 from by omega, zput_id (by omega)] at ko4 ks4
            have gp : vG ([(18, 5, false), (19, 0, true), (20, 0, true), (45, 12, false)], []) h h2 := g1.tr g2
            have zb : (if lev (tkc b n q) = 4 then zput 4 Z else zput (lev (tkc b n q) - 1) Z) = zput 4 Z := if_pos l4
            have n4 : ¬ (lev (tkc b n q) = 4 ∧ ztl (zput 4 Z) = 4) := fun z => by omega
            have rr2 : xR h2 45 4 = 3 := (gp.2.2 45 4 rfl).trans r4
            have ef2 : (xI h2 45 2).toInt = 0 := by rw [gp.2.1 45 2 rfl]; exact f0
            have j6 := J5 6 (by omega) (by omega) (by omega) (by omega)
            have JB := J1.b
            have m1 := ko4.1
            have m2 := ko4.2.1
            have m3 := ks4.1
            have m4 := ks4.2.1
            have t27 : XT l 2 44 false 61 153 6051 98 [xf 7 45, xi r1] [xi (r1 - (Int32.ofInt (1))), xf 7 45] h1 101 [xf 7 45, xi r1] [] h2 := XT_call (l := l) (fr := 2) (lo := 44) (full := false) (M := 61) (n := 153) (u := 6051) (pc := 98) (L := [xf 7 45, xi r1]) (st := [xi (r1 - (Int32.ofInt (1))), xf 7 45]) (h := h1) (i := .invokevirtual 62) (aux := 2) (nx := 101) (K := 62) (vs := [xf 7 45, xi (r1 - (Int32.ofInt (1)))]) (rs := []) (rest := []) rfl rfl rfl rfl rfl rfl c5 (by decide) (by decide) (Nat.le_of_ble_eq_true rfl) ⟨Nat.le_of_eq gp.1.2.2.2.1, Nat.le_of_eq gp.1.2.2.2.2⟩
            have t28 := t26.tr t27
            have t29 : XT l 2 44 false 61 153 6051 101 [xf 7 45, xi r1] [] h2 102 [xf 7 45, xi r1] [xf 7 45] h2 := XT_path (l := l) (fr := 2) (lo := 44) (full := false) (M := 61) (n := 153) (u := 6051) (pc := 101) (L := [xf 7 45, xi r1]) (st := []) (h := h2) (inl := [39, 63]) (n' := 120) (sp := [102]) (o := []) rfl rfl ⟨rfl, rfl, rfl⟩ rfl ⟨Nat.le_of_eq gp.1.2.2.2.1, Nat.le_of_eq gp.1.2.2.2.2⟩ trivial
            have t30 := t28.tr t29
            obtain ⟨h3, c6, o1⟩ := ck_cnt3 l h2 gp.1 ef2 rr2
            rcases o1 with ⟨cl1, cg, ca⟩ | ⟨cl1, cg, ca, cb⟩
            · have t31 : XT l 2 44 false 61 153 6051 102 [xf 7 45, xi r1] [xf 7 45] h2 105 [xf 7 45, xi r1] [] h3 := XT_call (l := l) (fr := 2) (lo := 44) (full := false) (M := 61) (n := 153) (u := 6051) (pc := 102) (L := [xf 7 45, xi r1]) (st := [xf 7 45]) (h := h2) (i := .invokevirtual 59) (aux := 1) (nx := 105) (K := 59) (vs := [xf 7 45]) (rs := []) (rest := []) rfl rfl rfl rfl rfl rfl c6 (by decide) (by decide) (Nat.le_of_ble_eq_true rfl) ⟨Nat.le_of_eq cg.1.2.2.2.1, Nat.le_of_eq cg.1.2.2.2.2⟩
              have t32 := t30.tr t31
              have t33 : XT l 2 44 false 61 153 6051 105 [xf 7 45, xi r1] [] h3 106 [xf 7 45, xi r1] [xf 7 45] h3 := XT_path (l := l) (fr := 2) (lo := 44) (full := false) (M := 61) (n := 153) (u := 6051) (pc := 105) (L := [xf 7 45, xi r1]) (st := []) (h := h3) (inl := [39, 63]) (n' := 120) (sp := [106]) (o := []) rfl rfl ⟨rfl, rfl, rfl⟩ rfl ⟨Nat.le_of_eq cg.1.2.2.2.1, Nat.le_of_eq cg.1.2.2.2.2⟩ trivial
              have t34 := t32.tr t33
              obtain ⟨h4, c7, g4, a12, ap, ar⟩ := ck_push l h3 cg.1 (by rw [cg.2.1 45 12 rfl]; omega)
              have t35 : XT l 2 44 false 61 153 6051 106 [xf 7 45, xi r1] [xf 7 45] h3 109 [xf 7 45, xi r1] [] h4 := XT_call (l := l) (fr := 2) (lo := 44) (full := false) (M := 61) (n := 153) (u := 6051) (pc := 106) (L := [xf 7 45, xi r1]) (st := [xf 7 45]) (h := h3) (i := .invokevirtual 55) (aux := 1) (nx := 109) (K := 55) (vs := [xf 7 45]) (rs := []) (rest := []) rfl rfl rfl rfl rfl rfl c7 (by decide) (by decide) (Nat.le_of_ble_eq_true rfl) ⟨Nat.le_of_eq g4.1.2.2.2.1, Nat.le_of_eq g4.1.2.2.2.2⟩
              have t36 := t34.tr t35
              have t37 : XT l 2 44 false 61 153 6051 109 [xf 7 45, xi r1] [] h4 110 [xf 7 45, xi r1] [xi (Int32.ofInt (1))] h4 := XT_path (l := l) (fr := 2) (lo := 44) (full := false) (M := 61) (n := 153) (u := 6051) (pc := 109) (L := [xf 7 45, xi r1]) (st := []) (h := h4) (inl := [39, 63]) (n' := 120) (sp := [110]) (o := []) rfl rfl ⟨rfl, rfl, rfl⟩ rfl ⟨Nat.le_of_eq g4.1.2.2.2.1, Nat.le_of_eq g4.1.2.2.2.2⟩ trivial
              have t38 := t36.tr t37
              have n6 : ¬ ((tkc b n q) = 6 ∧ 0 < Z 12) := by omega
              have n0 : ¬ (lev (tkc b n q) = 0 ∨ (tkc b n q) = 32) := by omega
              have o1 := g4.2.1
              have o0 := cg.2.1
              have op := gp.2.1
              have es := zst_s (c := (tkc b n q)) (v := (tkv b n q)) h13 n0 n4 (by omega)
              rw [zb] at es
              have ys : ∀ i : Nat, i ≠ 11 → i ≠ 6 → i ≠ 13 → i ≠ 700 + ((zput 4 Z) 11).toNat → (zs (zpush (zs (zput 4 Z) 6 ((zput 4 Z) 6 + 1)) (tkc b n q)) 13 1) i = (zput 4 Z) i := fun i h1 h2 h3 h4 => by rw [zs_ne h3, zpush_h h1 (by rw [zs_ne (by omega)]; exact h4), zs_ne h2]
              rw [o0 45 12 rfl] at a12 ap ar
              rw [o0 45 7 rfl, op 45 7 rfl] at ap
              rw [es]
              dsimp only
              refine ⟨_, _, CX_ofT (h' := h4) (by decide) rfl rfl ⟨trivial, (Or.inr rfl)⟩ ⟨_, _, _, rfl, rfl, rfl⟩ rfl ⟨Nat.le_of_eq g4.1.2.2.2.1.symm, Nat.le_of_eq g4.1.2.2.2.2.symm⟩ t38, (vG.tr (W := ([(18, 5, false), (18, 6, false), (19, 0, true), (20, 0, true), (45, 2, false), (45, 3, false), (45, 12, false), (45, 13, false), (47, 0, true)], [])) (a := h) (b := h2) ⟨gp.1, gp.2.mono rfl rfl⟩ (vG.tr (W := ([(18, 5, false), (18, 6, false), (19, 0, true), (20, 0, true), (45, 2, false), (45, 3, false), (45, 12, false), (45, 13, false), (47, 0, true)], [])) (a := h2) (b := h3) (c := h4) ⟨cg.1, cg.2.mono rfl rfl⟩ ⟨g4.1, g4.2.mono rfl rfl⟩)), Or.inl ⟨rfl, ?_, ?_, (Or.inr rfl), ?_, ?_, ?_⟩⟩
              · rw [o1 45 2 rfl, o0 45 2 rfl]; exact ef2
              · show (1 : Int) = _; rw [zs_same]
              · exact kt.fr (fun k hk => by rcases hk with rfl | rfl | rfl | rfl | rfl | rfl <;> exact (o1 45 _ rfl).trans ((o0 45 _ rfl).trans (op 45 _ rfl))) (fun k => (o1 46 k rfl).trans ((o0 46 k rfl).trans (op 46 k rfl)))
              · exact ko4.fr ((o1 18 5 rfl).trans (o0 18 5 rfl)) (by rw [o1 18 6 rfl, ca, zs_ne (by omega), zpush_o (by omega) (by omega), zs_same]; omega) (fun k => (o1 19 k rfl).trans (o0 19 k rfl)) (fun k => (o1 20 k rfl).trans (o0 20 k rfl)) (ys 10 (by omega) (by omega) (by omega) (by omega)) (fun k hk => ⟨ys _ (by omega) (by omega) (by omega) (by omega), ys _ (by omega) (by omega) (by omega) (by omega)⟩)
              · refine ks4.push (by omega) a12 ?_ ?_ (fun k hk => ?_) ?_ (fun k hk => ys _ (by omega) (by omega) (by omega) (by omega))
                · rw [o1 45 13 rfl, o0 45 13 rfl, ys 12 (by omega) (by omega) (by omega) (by omega)]; exact m4
                · rw [ap, kc, zs_ne (by omega), show (700 + ((zput 4 Z) 11).toNat) = 700 + (zs (zput 4 Z) 6 ((zput 4 Z) 6 + 1) 11).toNat from by rw [zs_ne (by omega)]]; exact zpush_t.symm
                · rw [ar k hk]; exact o0 47 k rfl
                · rw [zs_ne (by omega), zpush_11, zs_ne (by omega)]
            · have t39 : XT l 2 44 false 61 153 6051 102 [xf 7 45, xi r1] [xf 7 45] h2 105 [xf 7 45, xi r1] [] h3 := XT_call (l := l) (fr := 2) (lo := 44) (full := false) (M := 61) (n := 153) (u := 6051) (pc := 102) (L := [xf 7 45, xi r1]) (st := [xf 7 45]) (h := h2) (i := .invokevirtual 59) (aux := 1) (nx := 105) (K := 59) (vs := [xf 7 45]) (rs := []) (rest := []) rfl rfl rfl rfl rfl rfl c6 (by decide) (by decide) (Nat.le_of_ble_eq_true rfl) ⟨Nat.le_of_eq cg.1.2.2.2.1, Nat.le_of_eq cg.1.2.2.2.2⟩
              have t40 := t30.tr t39
              have t41 : XT l 2 44 false 61 153 6051 105 [xf 7 45, xi r1] [] h3 106 [xf 7 45, xi r1] [xf 7 45] h3 := XT_path (l := l) (fr := 2) (lo := 44) (full := false) (M := 61) (n := 153) (u := 6051) (pc := 105) (L := [xf 7 45, xi r1]) (st := []) (h := h3) (inl := [39, 63]) (n' := 120) (sp := [106]) (o := []) rfl rfl ⟨rfl, rfl, rfl⟩ rfl ⟨Nat.le_of_eq cg.1.2.2.2.1, Nat.le_of_eq cg.1.2.2.2.2⟩ trivial
              have t42 := t40.tr t41
              obtain ⟨h4, c7, g4⟩ := ck_pushA l h3 cg.1
              have t43 : XT l 2 44 false 61 153 6051 106 [xf 7 45, xi r1] [xf 7 45] h3 109 [xf 7 45, xi r1] [] h4 := XT_call (l := l) (fr := 2) (lo := 44) (full := false) (M := 61) (n := 153) (u := 6051) (pc := 106) (L := [xf 7 45, xi r1]) (st := [xf 7 45]) (h := h3) (i := .invokevirtual 55) (aux := 1) (nx := 109) (K := 55) (vs := [xf 7 45]) (rs := []) (rest := []) rfl rfl rfl rfl rfl rfl c7 (by decide) (by decide) (Nat.le_of_ble_eq_true rfl) ⟨Nat.le_of_eq g4.1.2.2.2.1, Nat.le_of_eq g4.1.2.2.2.2⟩
              have t44 := t42.tr t43
              have t45 : XT l 2 44 false 61 153 6051 109 [xf 7 45, xi r1] [] h4 110 [xf 7 45, xi r1] [xi (Int32.ofInt (1))] h4 := XT_path (l := l) (fr := 2) (lo := 44) (full := false) (M := 61) (n := 153) (u := 6051) (pc := 109) (L := [xf 7 45, xi r1]) (st := []) (h := h4) (inl := [39, 63]) (n' := 120) (sp := [110]) (o := []) rfl rfl ⟨rfl, rfl, rfl⟩ rfl ⟨Nat.le_of_eq g4.1.2.2.2.1, Nat.le_of_eq g4.1.2.2.2.2⟩ trivial
              have t46 := t44.tr t45
              have n6 : ¬ ((tkc b n q) = 6 ∧ 0 < Z 12) := by omega
              have n0 : ¬ (lev (tkc b n q) = 0 ∨ (tkc b n q) = 32) := by omega
              have o1 := g4.2.1
              have o0 := cg.2.1
              have op := gp.2.1
              have es := zst_s2 (c := (tkc b n q)) (v := (tkv b n q)) h13 n0 n4 (by omega)
              exact ⟨_, _, CX_ofT (h' := h4) (by decide) rfl rfl ⟨trivial, (Or.inr rfl)⟩ ⟨_, _, _, rfl, rfl, rfl⟩ rfl ⟨Nat.le_of_eq g4.1.2.2.2.1.symm, Nat.le_of_eq g4.1.2.2.2.2.symm⟩ t46, (vG.tr (W := ([(18, 5, false), (18, 6, false), (19, 0, true), (20, 0, true), (45, 2, false), (45, 3, false), (45, 12, false), (45, 13, false), (47, 0, true)], [])) (a := h) (b := h2) ⟨gp.1, gp.2.mono rfl rfl⟩ (vG.tr (W := ([(18, 5, false), (18, 6, false), (19, 0, true), (20, 0, true), (45, 2, false), (45, 3, false), (45, 12, false), (45, 13, false), (47, 0, true)], [])) (a := h2) (b := h3) (c := h4) ⟨cg.1, cg.2.mono rfl rfl⟩ ⟨g4.1, g4.2.mono rfl rfl⟩)), Or.inr ⟨by rw [es]; exact (by decide : ¬ (2 : Int) = 0), by rw [es, o1 45 2 rfl]; exact ca, by rw [o1 45 3 rfl, cb, op 45 8 rfl]; exact kq, kr.fr (by rw [o1 45 5 rfl, o0 45 5 rfl, op 45 5 rfl]) (fun k => by rw [o1 46 k rfl, o0 46 k rfl, op 46 k rfl])⟩⟩
        · have dcb13 : ¬ (r1).toInt = (r2).toInt := fun z_ => cb13 (Int32.toInt_inj.mp z_)
          have t47 : XT l 2 44 false 61 153 6051 71 [xf 7 45, xi r1] [xi r2, xi r1] h 98 [xf 7 45, xi r1] [xi (r1 - (Int32.ofInt (1))), xf 7 45] h := XT_path (l := l) (fr := 2) (lo := 44) (full := false) (M := 61) (n := 153) (u := 6051) (pc := 71) (L := [xf 7 45, xi r1]) (st := [xi r2, xi r1]) (h := h) (inl := [39, 63]) (n' := 120) (sp := [98]) (o := [1]) rfl rfl ⟨rfl, rfl, rfl⟩ rfl ⟨Nat.le_of_eq hg.2.2.2.1, Nat.le_of_eq hg.2.2.2.2⟩ ⟨trivial, cb13⟩
          have t48 := t12.tr t47
          have yl := y_pred (k := r1) (by omega) (by omega)
          obtain ⟨h2, c5, g2, ko4, ks4⟩ := ck_put3 l f (r1 - (Int32.ofInt (1))) (by omega) Z h hg r4 ko ks I h13
          rw [show ((r1 - (Int32.ofInt (1)))).toInt = lev (tkc b n q) - 1 from by omega] at ko4 ks4
          obtain ⟨J1, J2, J3, J4, J5, J6, J7, J8⟩ := zInv_put (lv := lev (tkc b n q) - 1) (by omega) I h13
          have gp : vG ([(18, 5, false), (19, 0, true), (20, 0, true), (45, 12, false)], []) h h2 := g2
          have zb : (if lev (tkc b n q) = 4 then zput 4 Z else zput (lev (tkc b n q) - 1) Z) = zput (lev (tkc b n q) - 1) Z := if_neg (by omega)
          have n4 : ¬ (lev (tkc b n q) = 4 ∧ ztl (zput 4 Z) = 4) := fun z => by omega
          have rr2 : xR h2 45 4 = 3 := (gp.2.2 45 4 rfl).trans r4
          have ef2 : (xI h2 45 2).toInt = 0 := by rw [gp.2.1 45 2 rfl]; exact f0
          have j6 := J5 6 (by omega) (by omega) (by omega) (by omega)
          have JB := J1.b
          have m1 := ko4.1
          have m2 := ko4.2.1
          have m3 := ks4.1
          have m4 := ks4.2.1
          have t49 : XT l 2 44 false 61 153 6051 98 [xf 7 45, xi r1] [xi (r1 - (Int32.ofInt (1))), xf 7 45] h 101 [xf 7 45, xi r1] [] h2 := XT_call (l := l) (fr := 2) (lo := 44) (full := false) (M := 61) (n := 153) (u := 6051) (pc := 98) (L := [xf 7 45, xi r1]) (st := [xi (r1 - (Int32.ofInt (1))), xf 7 45]) (h := h) (i := .invokevirtual 62) (aux := 2) (nx := 101) (K := 62) (vs := [xf 7 45, xi (r1 - (Int32.ofInt (1)))]) (rs := []) (rest := []) rfl rfl rfl rfl rfl rfl c5 (by decide) (by decide) (Nat.le_of_ble_eq_true rfl) ⟨Nat.le_of_eq gp.1.2.2.2.1, Nat.le_of_eq gp.1.2.2.2.2⟩
          have t50 := t48.tr t49
          have t51 : XT l 2 44 false 61 153 6051 101 [xf 7 45, xi r1] [] h2 102 [xf 7 45, xi r1] [xf 7 45] h2 := XT_path (l := l) (fr := 2) (lo := 44) (full := false) (M := 61) (n := 153) (u := 6051) (pc := 101) (L := [xf 7 45, xi r1]) (st := []) (h := h2) (inl := [39, 63]) (n' := 120) (sp := [102]) (o := []) rfl rfl ⟨rfl, rfl, rfl⟩ rfl ⟨Nat.le_of_eq gp.1.2.2.2.1, Nat.le_of_eq gp.1.2.2.2.2⟩ trivial
          have t52 := t50.tr t51
          obtain ⟨h3, c6, o1⟩ := ck_cnt3 l h2 gp.1 ef2 rr2
          rcases o1 with ⟨cl1, cg, ca⟩ | ⟨cl1, cg, ca, cb⟩
          · have t53 : XT l 2 44 false 61 153 6051 102 [xf 7 45, xi r1] [xf 7 45] h2 105 [xf 7 45, xi r1] [] h3 := XT_call (l := l) (fr := 2) (lo := 44) (full := false) (M := 61) (n := 153) (u := 6051) (pc := 102) (L := [xf 7 45, xi r1]) (st := [xf 7 45]) (h := h2) (i := .invokevirtual 59) (aux := 1) (nx := 105) (K := 59) (vs := [xf 7 45]) (rs := []) (rest := []) rfl rfl rfl rfl rfl rfl c6 (by decide) (by decide) (Nat.le_of_ble_eq_true rfl) ⟨Nat.le_of_eq cg.1.2.2.2.1, Nat.le_of_eq cg.1.2.2.2.2⟩
            have t54 := t52.tr t53
            have t55 : XT l 2 44 false 61 153 6051 105 [xf 7 45, xi r1] [] h3 106 [xf 7 45, xi r1] [xf 7 45] h3 := XT_path (l := l) (fr := 2) (lo := 44) (full := false) (M := 61) (n := 153) (u := 6051) (pc := 105) (L := [xf 7 45, xi r1]) (st := []) (h := h3) (inl := [39, 63]) (n' := 120) (sp := [106]) (o := []) rfl rfl ⟨rfl, rfl, rfl⟩ rfl ⟨Nat.le_of_eq cg.1.2.2.2.1, Nat.le_of_eq cg.1.2.2.2.2⟩ trivial
            have t56 := t54.tr t55
            obtain ⟨h4, c7, g4, a12, ap, ar⟩ := ck_push l h3 cg.1 (by rw [cg.2.1 45 12 rfl]; omega)
            have t57 : XT l 2 44 false 61 153 6051 106 [xf 7 45, xi r1] [xf 7 45] h3 109 [xf 7 45, xi r1] [] h4 := XT_call (l := l) (fr := 2) (lo := 44) (full := false) (M := 61) (n := 153) (u := 6051) (pc := 106) (L := [xf 7 45, xi r1]) (st := [xf 7 45]) (h := h3) (i := .invokevirtual 55) (aux := 1) (nx := 109) (K := 55) (vs := [xf 7 45]) (rs := []) (rest := []) rfl rfl rfl rfl rfl rfl c7 (by decide) (by decide) (Nat.le_of_ble_eq_true rfl) ⟨Nat.le_of_eq g4.1.2.2.2.1, Nat.le_of_eq g4.1.2.2.2.2⟩
            have t58 := t56.tr t57
            have t59 : XT l 2 44 false 61 153 6051 109 [xf 7 45, xi r1] [] h4 110 [xf 7 45, xi r1] [xi (Int32.ofInt (1))] h4 := XT_path (l := l) (fr := 2) (lo := 44) (full := false) (M := 61) (n := 153) (u := 6051) (pc := 109) (L := [xf 7 45, xi r1]) (st := []) (h := h4) (inl := [39, 63]) (n' := 120) (sp := [110]) (o := []) rfl rfl ⟨rfl, rfl, rfl⟩ rfl ⟨Nat.le_of_eq g4.1.2.2.2.1, Nat.le_of_eq g4.1.2.2.2.2⟩ trivial
            have t60 := t58.tr t59
            have n6 : ¬ ((tkc b n q) = 6 ∧ 0 < Z 12) := by omega
            have n0 : ¬ (lev (tkc b n q) = 0 ∨ (tkc b n q) = 32) := by omega
            have o1 := g4.2.1
            have o0 := cg.2.1
            have op := gp.2.1
            have es := zst_s (c := (tkc b n q)) (v := (tkv b n q)) h13 n0 n4 (by omega)
            rw [zb] at es
            have ys : ∀ i : Nat, i ≠ 11 → i ≠ 6 → i ≠ 13 → i ≠ 700 + ((zput (lev (tkc b n q) - 1) Z) 11).toNat → (zs (zpush (zs (zput (lev (tkc b n q) - 1) Z) 6 ((zput (lev (tkc b n q) - 1) Z) 6 + 1)) (tkc b n q)) 13 1) i = (zput (lev (tkc b n q) - 1) Z) i := fun i h1 h2 h3 h4 => by rw [zs_ne h3, zpush_h h1 (by rw [zs_ne (by omega)]; exact h4), zs_ne h2]
            rw [o0 45 12 rfl] at a12 ap ar
            rw [o0 45 7 rfl, op 45 7 rfl] at ap
            rw [es]
            dsimp only
            refine ⟨_, _, CX_ofT (h' := h4) (by decide) rfl rfl ⟨trivial, (Or.inr rfl)⟩ ⟨_, _, _, rfl, rfl, rfl⟩ rfl ⟨Nat.le_of_eq g4.1.2.2.2.1.symm, Nat.le_of_eq g4.1.2.2.2.2.symm⟩ t60, (vG.tr (W := ([(18, 5, false), (18, 6, false), (19, 0, true), (20, 0, true), (45, 2, false), (45, 3, false), (45, 12, false), (45, 13, false), (47, 0, true)], [])) (a := h) (b := h2) ⟨gp.1, gp.2.mono rfl rfl⟩ (vG.tr (W := ([(18, 5, false), (18, 6, false), (19, 0, true), (20, 0, true), (45, 2, false), (45, 3, false), (45, 12, false), (45, 13, false), (47, 0, true)], [])) (a := h2) (b := h3) (c := h4) ⟨cg.1, cg.2.mono rfl rfl⟩ ⟨g4.1, g4.2.mono rfl rfl⟩)), Or.inl ⟨rfl, ?_, ?_, (Or.inr rfl), ?_, ?_, ?_⟩⟩
            · rw [o1 45 2 rfl, o0 45 2 rfl]; exact ef2
            · show (1 : Int) = _; rw [zs_same]
            · exact kt.fr (fun k hk => by rcases hk with rfl | rfl | rfl | rfl | rfl | rfl <;> exact (o1 45 _ rfl).trans ((o0 45 _ rfl).trans (op 45 _ rfl))) (fun k => (o1 46 k rfl).trans ((o0 46 k rfl).trans (op 46 k rfl)))
            · exact ko4.fr ((o1 18 5 rfl).trans (o0 18 5 rfl)) (by rw [o1 18 6 rfl, ca, zs_ne (by omega), zpush_o (by omega) (by omega), zs_same]; omega) (fun k => (o1 19 k rfl).trans (o0 19 k rfl)) (fun k => (o1 20 k rfl).trans (o0 20 k rfl)) (ys 10 (by omega) (by omega) (by omega) (by omega)) (fun k hk => ⟨ys _ (by omega) (by omega) (by omega) (by omega), ys _ (by omega) (by omega) (by omega) (by omega)⟩)
            · refine ks4.push (by omega) a12 ?_ ?_ (fun k hk => ?_) ?_ (fun k hk => ys _ (by omega) (by omega) (by omega) (by omega))
              · rw [o1 45 13 rfl, o0 45 13 rfl, ys 12 (by omega) (by omega) (by omega) (by omega)]; exact m4
              · rw [ap, kc, zs_ne (by omega), show (700 + ((zput (lev (tkc b n q) - 1) Z) 11).toNat) = 700 + (zs (zput (lev (tkc b n q) - 1) Z) 6 ((zput (lev (tkc b n q) - 1) Z) 6 + 1) 11).toNat from by rw [zs_ne (by omega)]]; exact zpush_t.symm
              · rw [ar k hk]; exact o0 47 k rfl
              · rw [zs_ne (by omega), zpush_11, zs_ne (by omega)]
          · have t61 : XT l 2 44 false 61 153 6051 102 [xf 7 45, xi r1] [xf 7 45] h2 105 [xf 7 45, xi r1] [] h3 := XT_call (l := l) (fr := 2) (lo := 44) (full := false) (M := 61) (n := 153) (u := 6051) (pc := 102) (L := [xf 7 45, xi r1]) (st := [xf 7 45]) (h := h2) (i := .invokevirtual 59) (aux := 1) (nx := 105) (K := 59) (vs := [xf 7 45]) (rs := []) (rest := []) rfl rfl rfl rfl rfl rfl c6 (by decide) (by decide) (Nat.le_of_ble_eq_true rfl) ⟨Nat.le_of_eq cg.1.2.2.2.1, Nat.le_of_eq cg.1.2.2.2.2⟩
            have t62 := t52.tr t61
            have t63 : XT l 2 44 false 61 153 6051 105 [xf 7 45, xi r1] [] h3 106 [xf 7 45, xi r1] [xf 7 45] h3 := XT_path (l := l) (fr := 2) (lo := 44) (full := false) (M := 61) (n := 153) (u := 6051) (pc := 105) (L := [xf 7 45, xi r1]) (st := []) (h := h3) (inl := [39, 63]) (n' := 120) (sp := [106]) (o := []) rfl rfl ⟨rfl, rfl, rfl⟩ rfl ⟨Nat.le_of_eq cg.1.2.2.2.1, Nat.le_of_eq cg.1.2.2.2.2⟩ trivial
            have t64 := t62.tr t63
            obtain ⟨h4, c7, g4⟩ := ck_pushA l h3 cg.1
            have t65 : XT l 2 44 false 61 153 6051 106 [xf 7 45, xi r1] [xf 7 45] h3 109 [xf 7 45, xi r1] [] h4 := XT_call (l := l) (fr := 2) (lo := 44) (full := false) (M := 61) (n := 153) (u := 6051) (pc := 106) (L := [xf 7 45, xi r1]) (st := [xf 7 45]) (h := h3) (i := .invokevirtual 55) (aux := 1) (nx := 109) (K := 55) (vs := [xf 7 45]) (rs := []) (rest := []) rfl rfl rfl rfl rfl rfl c7 (by decide) (by decide) (Nat.le_of_ble_eq_true rfl) ⟨Nat.le_of_eq g4.1.2.2.2.1, Nat.le_of_eq g4.1.2.2.2.2⟩
            have t66 := t64.tr t65
            have t67 : XT l 2 44 false 61 153 6051 109 [xf 7 45, xi r1] [] h4 110 [xf 7 45, xi r1] [xi (Int32.ofInt (1))] h4 := XT_path (l := l) (fr := 2) (lo := 44) (full := false) (M := 61) (n := 153) (u := 6051) (pc := 109) (L := [xf 7 45, xi r1]) (st := []) (h := h4) (inl := [39, 63]) (n' := 120) (sp := [110]) (o := []) rfl rfl ⟨rfl, rfl, rfl⟩ rfl ⟨Nat.le_of_eq g4.1.2.2.2.1, Nat.le_of_eq g4.1.2.2.2.2⟩ trivial
            have t68 := t66.tr t67
            have n6 : ¬ ((tkc b n q) = 6 ∧ 0 < Z 12) := by omega
            have n0 : ¬ (lev (tkc b n q) = 0 ∨ (tkc b n q) = 32) := by omega
            have o1 := g4.2.1
            have o0 := cg.2.1
            have op := gp.2.1
            have es := zst_s2 (c := (tkc b n q)) (v := (tkv b n q)) h13 n0 n4 (by omega)
            exact ⟨_, _, CX_ofT (h' := h4) (by decide) rfl rfl ⟨trivial, (Or.inr rfl)⟩ ⟨_, _, _, rfl, rfl, rfl⟩ rfl ⟨Nat.le_of_eq g4.1.2.2.2.1.symm, Nat.le_of_eq g4.1.2.2.2.2.symm⟩ t68, (vG.tr (W := ([(18, 5, false), (18, 6, false), (19, 0, true), (20, 0, true), (45, 2, false), (45, 3, false), (45, 12, false), (45, 13, false), (47, 0, true)], [])) (a := h) (b := h2) ⟨gp.1, gp.2.mono rfl rfl⟩ (vG.tr (W := ([(18, 5, false), (18, 6, false), (19, 0, true), (20, 0, true), (45, 2, false), (45, 3, false), (45, 12, false), (45, 13, false), (47, 0, true)], [])) (a := h2) (b := h3) (c := h4) ⟨cg.1, cg.2.mono rfl rfl⟩ ⟨g4.1, g4.2.mono rfl rfl⟩)), Or.inr ⟨by rw [es]; exact (by decide : ¬ (2 : Int) = 0), by rw [es, o1 45 2 rfl]; exact ca, by rw [o1 45 3 rfl, cb, op 45 8 rfl]; exact kq, kr.fr (by rw [o1 45 5 rfl, o0 45 5 rfl, op 45 5 rfl]) (fun k => by rw [o1 46 k rfl, o0 46 k rfl, op 46 k rfl])⟩⟩
    · have e_0 : (0 : Int32).toInt = 0 := rfl
      have dcb2 : (0 : Int32).toInt < (xI h 45 13).toInt := Int32.lt_iff_toInt_lt.mp (Int32.not_le.mp cb2)
      have t69 : XT l 2 44 false 61 153 6051 0 [xf 7 45, xun] [] h 18 [xf 7 45, xun] [xi (Int32.ofInt (0)), xf 7 45] h := XT_path (l := l) (fr := 2) (lo := 44) (full := false) (M := 61) (n := 153) (u := 6051) (pc := 0) (L := [xf 7 45, xun]) (st := []) (h := h) (inl := [39, 63]) (n' := 120) (sp := [18]) (o := [0, 0]) rfl rfl ⟨rfl, rfl, rfl⟩ rfl ⟨Nat.le_of_eq hg.2.2.2.1, Nat.le_of_eq hg.2.2.2.2⟩ ⟨⟨trivial, cb1⟩, cb2⟩
      obtain ⟨h1, c1, g1, ko3, ks3⟩ := ck_put3 l f (Int32.ofInt (0)) (by decide) Z h hg r4 ko ks I h13
      rw [show ((Int32.ofInt (0))).toInt = 0 from rfl] at ko3 ks3
      obtain ⟨J1, J2, J3, J4, J5, J6, J7, J8⟩ := zInv_put (lv := 0) (Int.le_refl 0) I h13
      have j12 := J5 12 (by omega) (by omega) (by omega) (by omega)
      have JB := J1.b
      have T := zInv_topo J1 (by omega) J2
      have l1 := ks3.1
      have l2 := ks3.2.1
      have y1 := y_pred (k := xI h1 45 12) (by omega) (by omega)
      have y2 := y_pred (k := xI h1 45 13) (by omega) (by omega)
      have t70 : XT l 2 44 false 61 153 6051 18 [xf 7 45, xun] [xi (Int32.ofInt (0)), xf 7 45] h 21 [xf 7 45, xun] [] h1 := XT_call (l := l) (fr := 2) (lo := 44) (full := false) (M := 61) (n := 153) (u := 6051) (pc := 18) (L := [xf 7 45, xun]) (st := [xi (Int32.ofInt (0)), xf 7 45]) (h := h) (i := .invokevirtual 62) (aux := 2) (nx := 21) (K := 62) (vs := [xf 7 45, xi (Int32.ofInt (0))]) (rs := []) (rest := []) rfl rfl rfl rfl rfl rfl c1 (by decide) (by decide) (Nat.le_of_ble_eq_true rfl) ⟨Nat.le_of_eq g1.1.2.2.2.1, Nat.le_of_eq g1.1.2.2.2.2⟩
      have t71 := t69.tr t70
      have t72 : XT l 2 44 false 61 153 6051 21 [xf 7 45, xun] [] h1 36 [xf 7 45, xun] [xi (Int32.ofInt (0))] (xsetI (xsetI h1 45 12 ((xI h1 45 12) - (Int32.ofInt (1)))) 45 13 ((xI h1 45 13) - (Int32.ofInt (1)))) := XT_path (l := l) (fr := 2) (lo := 44) (full := false) (M := 61) (n := 153) (u := 6051) (pc := 21) (L := [xf 7 45, xun]) (st := []) (h := h1) (inl := [39, 63]) (n' := 120) (sp := [36]) (o := [0]) rfl rfl ⟨rfl, rfl, rfl⟩ rfl ⟨Nat.le_of_eq g1.1.2.2.2.1, Nat.le_of_eq g1.1.2.2.2.2⟩ ⟨trivial, (fun z => absurd (Int32.le_iff_toInt_le.mp z) (by have e : (0 : Int32).toInt = 0 := rfl; omega))⟩
      have t73 := t71.tr t72
      have es := zst_c (c := (tkc b n q)) (v := (tkv b n q)) h13 ⟨by omega, by omega⟩
      have g0 : vG ([(18, 5, false), (18, 6, false), (19, 0, true), (20, 0, true), (45, 2, false), (45, 3, false), (45, 12, false), (45, 13, false), (47, 0, true)], []) h h1 := ⟨g1.1, g1.2.mono rfl rfl⟩
      have w74 : vG ([(18, 5, false), (18, 6, false), (19, 0, true), (20, 0, true), (45, 2, false), (45, 3, false), (45, 12, false), (45, 13, false), (47, 0, true)], []) h (xsetI h1 45 12 ((xI h1 45 12) - (Int32.ofInt (1)))) := (g0 : vG ([(18, 5, false), (18, 6, false), (19, 0, true), (20, 0, true), (45, 2, false), (45, 3, false), (45, 12, false), (45, 13, false), (47, 0, true)], []) h h1).set (c := 45) (k := 12) (v := ((xI h1 45 12) - (Int32.ofInt (1)))) (show (0 : Int) ≤ _ ∧ _ ≤ 72 from ⟨by omega, by omega⟩) (by decide +kernel) (by decide +kernel) rfl
      have G1 : vG ([(18, 5, false), (18, 6, false), (19, 0, true), (20, 0, true), (45, 2, false), (45, 3, false), (45, 12, false), (45, 13, false), (47, 0, true)], []) h (xsetI (xsetI h1 45 12 ((xI h1 45 12) - (Int32.ofInt (1)))) 45 13 ((xI h1 45 13) - (Int32.ofInt (1)))) := (w74 : vG ([(18, 5, false), (18, 6, false), (19, 0, true), (20, 0, true), (45, 2, false), (45, 3, false), (45, 12, false), (45, 13, false), (47, 0, true)], []) h (xsetI h1 45 12 ((xI h1 45 12) - (Int32.ofInt (1))))).set (c := 45) (k := 13) (v := ((xI h1 45 13) - (Int32.ofInt (1)))) (show (0 : Int) ≤ _ ∧ _ ≤ 8 from ⟨by omega, by omega⟩) (by decide +kernel) (by decide +kernel) rfl
      have o1 := g1.2.1
      rw [es]
      dsimp only
      refine ⟨_, _, CX_ofT (h' := (xsetI (xsetI h1 45 12 ((xI h1 45 12) - (Int32.ofInt (1)))) 45 13 ((xI h1 45 13) - (Int32.ofInt (1))))) (by decide) rfl rfl ⟨trivial, (Or.inl rfl)⟩ ⟨_, _, _, rfl, rfl, rfl⟩ rfl ⟨Nat.le_of_eq g1.1.2.2.2.1.symm, Nat.le_of_eq g1.1.2.2.2.2.symm⟩ t73, G1, Or.inl ⟨rfl, ?_, ?_, (Or.inl rfl), ?_, ?_, ?_⟩⟩
      · rw [yI_ne (by decide), yI_ne (by decide), o1 45 2 rfl]; exact f0
      · show (0 : Int) = _; rw [zs_ne (by omega), zs_ne (by omega)]; exact J3.symm
      · exact kt.fr (fun k hk => by rcases hk with rfl | rfl | rfl | rfl | rfl | rfl <;> exact (yI_ne (by decide)).trans ((yI_ne (by decide)).trans (o1 45 _ rfl))) (fun k => (yI_c (by decide)).trans ((yI_c (by decide)).trans (o1 46 k rfl)))
      · exact ko3.fr (by rw [yI_c (by decide), yI_c (by decide)]) (by rw [yI_c (by decide), yI_c (by decide), zs_ne (by omega), zs_ne (by omega)]; exact ko3.2.1) (fun k => by rw [yI_c (by decide), yI_c (by decide)]) (fun k => by rw [yI_c (by decide), yI_c (by decide)]) (by rw [zs_ne (by omega), zs_ne (by omega)]) (fun k hk => ⟨by rw [zs_ne (by omega), zs_ne (by omega)], by rw [zs_ne (by omega), zs_ne (by omega)]⟩)
      · refine ⟨?_, ?_, fun k hk => ?_⟩
        · rw [yI_ne (by decide), yI_same, zs_ne (by omega), zs_same]; omega
        · rw [yI_same, zs_same]; omega
        · rw [zs_ne (by omega), zs_same] at hk
          rw [yI_c (by decide), yI_c (by decide), zs_ne (by omega), zs_ne (by omega)]; exact ks3.2.2 k (by omega)
  · have e_6 : (Int32.ofInt (6)).toInt = 6 := rfl
    have dcb1 : ¬ (xI h 45 7).toInt = (Int32.ofInt (6)).toInt := fun z_ => cb1 (Int32.toInt_inj.mp z_)
    have t75 : XT l 2 44 false 61 153 6051 0 [xf 7 45, xun] [] h 41 [xf 7 45, xun] [xi (xI h 45 7)] h := XT_path (l := l) (fr := 2) (lo := 44) (full := false) (M := 61) (n := 153) (u := 6051) (pc := 0) (L := [xf 7 45, xun]) (st := []) (h := h) (inl := [39, 63]) (n' := 120) (sp := [41]) (o := [1]) rfl rfl ⟨rfl, rfl, rfl⟩ rfl ⟨Nat.le_of_eq hg.2.2.2.1, Nat.le_of_eq hg.2.2.2.2⟩ ⟨trivial, cb1⟩
    obtain ⟨r1, c1, e1⟩ := ck_lev l (xI h 45 7) h hg
    rw [kc] at e1
    have lb := lev_b (tkc b n q)
    have t76 : XT l 2 44 false 61 153 6051 41 [xf 7 45, xun] [xi (xI h 45 7)] h 44 [xf 7 45, xun] [xi r1] h := XT_call (l := l) (fr := 2) (lo := 44) (full := false) (M := 61) (n := 153) (u := 6051) (pc := 41) (L := [xf 7 45, xun]) (st := [xi (xI h 45 7)]) (h := h) (i := .invokestatic 58) (aux := 1) (nx := 44) (K := 58) (vs := [xi (xI h 45 7)]) (rs := [xi r1]) (rest := []) rfl rfl rfl rfl rfl rfl c1 (by decide) (by decide) (Nat.le_of_ble_eq_true rfl) ⟨Nat.le_of_eq hg.2.2.2.1, Nat.le_of_eq hg.2.2.2.2⟩
    have t77 := t75.tr t76
    by_cases cb78 : r1 = 0
    · have e_0 : (0 : Int32).toInt = 0 := rfl
      have dcb78 : (r1).toInt = (0 : Int32).toInt := congrArg Int32.toInt cb78
      have t79 : XT l 2 44 false 61 153 6051 44 [xf 7 45, xun] [xi r1] h 64 [xf 7 45, xi r1] [xi (Int32.ofInt (0))] (xsetI (xsetI h 45 2 (Int32.ofInt (1))) 45 3 (xI h 45 8)) := XT_path (l := l) (fr := 2) (lo := 44) (full := false) (M := 61) (n := 153) (u := 6051) (pc := 44) (L := [xf 7 45, xun]) (st := [xi r1]) (h := h) (inl := [39, 63]) (n' := 120) (sp := [64]) (o := [1, 0]) rfl rfl ⟨rfl, rfl, rfl⟩ rfl ⟨Nat.le_of_eq hg.2.2.2.1, Nat.le_of_eq hg.2.2.2.2⟩ ⟨⟨trivial, cb78⟩, ef⟩
      have t80 := t77.tr t79
      have n6 : ¬ ((tkc b n q) = 6 ∧ 0 < Z 12) := by omega
      have es := zst_s1 (c := (tkc b n q)) (v := (tkv b n q)) h13 n6 (by omega)
      have G1 : vG ([(18, 5, false), (18, 6, false), (19, 0, true), (20, 0, true), (45, 2, false), (45, 3, false), (45, 12, false), (45, 13, false), (47, 0, true)], []) h (xsetI (xsetI h 45 2 (Int32.ofInt (1))) 45 3 (xI h 45 8)) := vGf (vG.rf hg) (by decide) rfl rfl rfl
      exact ⟨_, _, CX_ofT (h' := (xsetI (xsetI h 45 2 (Int32.ofInt (1))) 45 3 (xI h 45 8))) (by decide) rfl rfl ⟨trivial, (Or.inl rfl)⟩ ⟨_, _, _, rfl, rfl, rfl⟩ rfl ⟨Nat.le_of_eq hg.2.2.2.1.symm, Nat.le_of_eq hg.2.2.2.2.symm⟩ t80, G1, Or.inr ⟨by rw [es]; exact (by decide : ¬ (1 : Int) = 0), by rw [es, yI_ne (by decide), yI_same]; rfl, by rw [yI_same]; exact kq, kr.fr (by rw [yI_ne (by decide), yI_ne (by decide)]) (fun k => by rw [yI_c (by decide), yI_c (by decide)])⟩⟩
    · have e_0 : (0 : Int32).toInt = 0 := rfl
      have dcb78 : ¬ (r1).toInt = (0 : Int32).toInt := fun z_ => cb78 (Int32.toInt_inj.mp z_)
      by_cases cb81 : (xI h 45 7) = (Int32.ofInt (32))
      · have e_32 : (Int32.ofInt (32)).toInt = 32 := rfl
        have dcb81 : (xI h 45 7).toInt = (Int32.ofInt (32)).toInt := congrArg Int32.toInt cb81
        have t82 : XT l 2 44 false 61 153 6051 44 [xf 7 45, xun] [xi r1] h 64 [xf 7 45, xi r1] [xi (Int32.ofInt (0))] (xsetI (xsetI h 45 2 (Int32.ofInt (1))) 45 3 (xI h 45 8)) := XT_path (l := l) (fr := 2) (lo := 44) (full := false) (M := 61) (n := 153) (u := 6051) (pc := 44) (L := [xf 7 45, xun]) (st := [xi r1]) (h := h) (inl := [39, 63]) (n' := 120) (sp := [64]) (o := [0, 0, 0]) rfl rfl ⟨rfl, rfl, rfl⟩ rfl ⟨Nat.le_of_eq hg.2.2.2.1, Nat.le_of_eq hg.2.2.2.2⟩ ⟨⟨⟨trivial, cb78⟩, cb81⟩, ef⟩
        have t83 := t77.tr t82
        have n6 : ¬ ((tkc b n q) = 6 ∧ 0 < Z 12) := by omega
        have es := zst_s1 (c := (tkc b n q)) (v := (tkv b n q)) h13 n6 (by omega)
        have G1 : vG ([(18, 5, false), (18, 6, false), (19, 0, true), (20, 0, true), (45, 2, false), (45, 3, false), (45, 12, false), (45, 13, false), (47, 0, true)], []) h (xsetI (xsetI h 45 2 (Int32.ofInt (1))) 45 3 (xI h 45 8)) := vGf (vG.rf hg) (by decide) rfl rfl rfl
        exact ⟨_, _, CX_ofT (h' := (xsetI (xsetI h 45 2 (Int32.ofInt (1))) 45 3 (xI h 45 8))) (by decide) rfl rfl ⟨trivial, (Or.inl rfl)⟩ ⟨_, _, _, rfl, rfl, rfl⟩ rfl ⟨Nat.le_of_eq hg.2.2.2.1.symm, Nat.le_of_eq hg.2.2.2.2.symm⟩ t83, G1, Or.inr ⟨by rw [es]; exact (by decide : ¬ (1 : Int) = 0), by rw [es, yI_ne (by decide), yI_same]; rfl, by rw [yI_same]; exact kq, kr.fr (by rw [yI_ne (by decide), yI_ne (by decide)]) (fun k => by rw [yI_c (by decide), yI_c (by decide)])⟩⟩
      · have e_32 : (Int32.ofInt (32)).toInt = 32 := rfl
        have dcb81 : ¬ (xI h 45 7).toInt = (Int32.ofInt (32)).toInt := fun z_ => cb81 (Int32.toInt_inj.mp z_)
        have t84 : XT l 2 44 false 61 153 6051 44 [xf 7 45, xun] [xi r1] h 68 [xf 7 45, xi r1] [xi (Int32.ofInt (7)), xi r1] h := XT_path (l := l) (fr := 2) (lo := 44) (full := false) (M := 61) (n := 153) (u := 6051) (pc := 44) (L := [xf 7 45, xun]) (st := [xi r1]) (h := h) (inl := [39, 63]) (n' := 120) (sp := [68]) (o := [0, 1]) rfl rfl ⟨rfl, rfl, rfl⟩ rfl ⟨Nat.le_of_eq hg.2.2.2.1, Nat.le_of_eq hg.2.2.2.2⟩ ⟨⟨trivial, cb78⟩, cb81⟩
        have t85 := t77.tr t84
        obtain ⟨r2, c2, e2⟩ := ck_lev l (Int32.ofInt (7)) h hg
        have e24 : r2.toInt = 4 := e2.trans rfl
        have t86 : XT l 2 44 false 61 153 6051 68 [xf 7 45, xi r1] [xi (Int32.ofInt (7)), xi r1] h 71 [xf 7 45, xi r1] [xi r2, xi r1] h := XT_call (l := l) (fr := 2) (lo := 44) (full := false) (M := 61) (n := 153) (u := 6051) (pc := 68) (L := [xf 7 45, xi r1]) (st := [xi (Int32.ofInt (7)), xi r1]) (h := h) (i := .invokestatic 58) (aux := 1) (nx := 71) (K := 58) (vs := [xi (Int32.ofInt (7))]) (rs := [xi r2]) (rest := [xi r1]) rfl rfl rfl rfl rfl rfl c2 (by decide) (by decide) (Nat.le_of_ble_eq_true rfl) ⟨Nat.le_of_eq hg.2.2.2.1, Nat.le_of_eq hg.2.2.2.2⟩
        have t87 := t85.tr t86
        by_cases cb88 : r1 = r2
        · have dcb88 : (r1).toInt = (r2).toInt := congrArg Int32.toInt cb88
          have t89 : XT l 2 44 false 61 153 6051 71 [xf 7 45, xi r1] [xi r2, xi r1] h 76 [xf 7 45, xi r1] [xi r1, xf 7 45] h := XT_path (l := l) (fr := 2) (lo := 44) (full := false) (M := 61) (n := 153) (u := 6051) (pc := 71) (L := [xf 7 45, xi r1]) (st := [xi r2, xi r1]) (h := h) (inl := [39, 63]) (n' := 120) (sp := [76]) (o := [0]) rfl rfl ⟨rfl, rfl, rfl⟩ rfl ⟨Nat.le_of_eq hg.2.2.2.1, Nat.le_of_eq hg.2.2.2.2⟩ ⟨trivial, cb88⟩
          have t90 := t87.tr t89
          obtain ⟨h1, c3, g1, ko3, ks3⟩ := ck_put3 l f r1 (by omega) Z h hg r4 ko ks I h13
          have l4 : lev (tkc b n q) = 4 := by omega
          rw [show (r1).toInt = 4 from by omega] at ko3 ks3
          obtain ⟨J1, J2, J3, J4, J5, J6, J7, J8⟩ := zInv_put (lv := 4) (by decide) I h13
          have rr1 : xR h1 45 4 = 3 := (g1.2.2 45 4 rfl).trans r4
          have ef1 : xI h1 45 2 = 0 := (g1.2.1 45 2 rfl).trans ef
          have t91 : XT l 2 44 false 61 153 6051 76 [xf 7 45, xi r1] [xi r1, xf 7 45] h 79 [xf 7 45, xi r1] [] h1 := XT_call (l := l) (fr := 2) (lo := 44) (full := false) (M := 61) (n := 153) (u := 6051) (pc := 76) (L := [xf 7 45, xi r1]) (st := [xi r1, xf 7 45]) (h := h) (i := .invokevirtual 62) (aux := 2) (nx := 79) (K := 62) (vs := [xf 7 45, xi r1]) (rs := []) (rest := []) rfl rfl rfl rfl rfl rfl c3 (by decide) (by decide) (Nat.le_of_ble_eq_true rfl) ⟨Nat.le_of_eq g1.1.2.2.2.1, Nat.le_of_eq g1.1.2.2.2.2⟩
          have t92 := t90.tr t91
          have t93 : XT l 2 44 false 61 153 6051 79 [xf 7 45, xi r1] [] h1 80 [xf 7 45, xi r1] [xf 7 45] h1 := XT_path (l := l) (fr := 2) (lo := 44) (full := false) (M := 61) (n := 153) (u := 6051) (pc := 79) (L := [xf 7 45, xi r1]) (st := []) (h := h1) (inl := [39, 63]) (n' := 120) (sp := [80]) (o := []) rfl rfl ⟨rfl, rfl, rfl⟩ rfl ⟨Nat.le_of_eq g1.1.2.2.2.1, Nat.le_of_eq g1.1.2.2.2.2⟩ trivial
          have t94 := t92.tr t93
          obtain ⟨r3, c4, e3⟩ := ck_top l (zput 4 Z) h1 g1.1 ks3
          have t95 : XT l 2 44 false 61 153 6051 80 [xf 7 45, xi r1] [xf 7 45] h1 83 [xf 7 45, xi r1] [xi r3] h1 := XT_call (l := l) (fr := 2) (lo := 44) (full := false) (M := 61) (n := 153) (u := 6051) (pc := 80) (L := [xf 7 45, xi r1]) (st := [xf 7 45]) (h := h1) (i := .invokevirtual 57) (aux := 1) (nx := 83) (K := 57) (vs := [xf 7 45]) (rs := [xi r3]) (rest := []) rfl rfl rfl rfl rfl rfl c4 (by decide) (by decide) (Nat.le_of_ble_eq_true rfl) ⟨Nat.le_of_eq g1.1.2.2.2.1, Nat.le_of_eq g1.1.2.2.2.2⟩
          have t96 := t94.tr t95
          by_cases cb97 : r3 = r1
          · have dcb97 : (r3).toInt = (r1).toInt := congrArg Int32.toInt cb97
            have t98 : XT l 2 44 false 61 153 6051 83 [xf 7 45, xi r1] [xi r3] h1 93 [xf 7 45, xi r1] [xi (Int32.ofInt (0))] (xsetI (xsetI h1 45 2 (Int32.ofInt (1))) 45 3 (xI h1 45 8)) := XT_path (l := l) (fr := 2) (lo := 44) (full := false) (M := 61) (n := 153) (u := 6051) (pc := 83) (L := [xf 7 45, xi r1]) (st := [xi r3]) (h := h1) (inl := [39, 63]) (n' := 120) (sp := [93]) (o := [0, 0]) rfl rfl ⟨rfl, rfl, rfl⟩ rfl ⟨Nat.le_of_eq g1.1.2.2.2.1, Nat.le_of_eq g1.1.2.2.2.2⟩ ⟨⟨trivial, cb97⟩, ef1⟩
            have t99 := t96.tr t98
            have n6 : ¬ ((tkc b n q) = 6 ∧ 0 < Z 12) := by omega
            have n0 : ¬ (lev (tkc b n q) = 0 ∨ (tkc b n q) = 32) := by omega
            have es := zst_s4 (c := (tkc b n q)) (v := (tkv b n q)) h13 n0 l4 (by omega)
            have g0 : vG ([(18, 5, false), (18, 6, false), (19, 0, true), (20, 0, true), (45, 2, false), (45, 3, false), (45, 12, false), (45, 13, false), (47, 0, true)], []) h h1 := ⟨g1.1, g1.2.mono rfl rfl⟩
            have b81 : 0 ≤ (xI h1 45 8).toInt ∧ (xI h1 45 8).toInt ≤ 700 := vbnd g1.1.1 45 8
            have G1 : vG ([(18, 5, false), (18, 6, false), (19, 0, true), (20, 0, true), (45, 2, false), (45, 3, false), (45, 12, false), (45, 13, false), (47, 0, true)], []) h (xsetI (xsetI h1 45 2 (Int32.ofInt (1))) 45 3 (xI h1 45 8)) := vGf (g0 : vG ([(18, 5, false), (18, 6, false), (19, 0, true), (20, 0, true), (45, 2, false), (45, 3, false), (45, 12, false), (45, 13, false), (47, 0, true)], []) h h1) (by decide) rfl rfl rfl
            have o1 := g1.2.1
            exact ⟨_, _, CX_ofT (h' := (xsetI (xsetI h1 45 2 (Int32.ofInt (1))) 45 3 (xI h1 45 8))) (by decide) rfl rfl ⟨trivial, (Or.inl rfl)⟩ ⟨_, _, _, rfl, rfl, rfl⟩ rfl ⟨Nat.le_of_eq g1.1.2.2.2.1.symm, Nat.le_of_eq g1.1.2.2.2.2.symm⟩ t99, G1, Or.inr ⟨by rw [es]; exact (by decide : ¬ (1 : Int) = 0), by rw [es, yI_ne (by decide), yI_same]; rfl, by rw [yI_same, o1 45 8 rfl]; exact kq, kr.fr (by rw [yI_ne (by decide), yI_ne (by decide), o1 45 5 rfl]) (fun k => by rw [yI_c (by decide), yI_c (by decide), o1 46 k rfl])⟩⟩
          · have dcb97 : ¬ (r3).toInt = (r1).toInt := fun z_ => cb97 (Int32.toInt_inj.mp z_)
            have t100 : XT l 2 44 false 61 153 6051 83 [xf 7 45, xi r1] [xi r3] h1 98 [xf 7 45, xi r1] [xi (r1 - (Int32.ofInt (1))), xf 7 45] h1 := XT_path (l := l) (fr := 2) (lo := 44) (full := false) (M := 61) (n := 153) (u := 6051) (pc := 83) (L := [xf 7 45, xi r1]) (st := [xi r3]) (h := h1) (inl := [39, 63]) (n' := 120) (sp := [98]) (o := [1]) rfl rfl ⟨rfl, rfl, rfl⟩ rfl ⟨Nat.le_of_eq g1.1.2.2.2.1, Nat.le_of_eq g1.1.2.2.2.2⟩ ⟨trivial, cb97⟩
            have t101 := t96.tr t100
            have yl := y_pred (k := r1) (by omega) (by omega)
            obtain ⟨h2, c5, g2, ko4, ks4⟩ := ck_put3 l f (r1 - (Int32.ofInt (1))) (by omega) (zput 4 Z) h1 g1.1 rr1 ko3 ks3 J1 J3
            rw [show ((r1 - (Int32.ofInt (1)))).toInt = 3 from by omega, zput_id (by omega)] at ko4 ks4
            have gp : vG ([(18, 5, false), (19, 0, true), (20, 0, true), (45, 12, false)], []) h h2 := g1.tr g2
            have zb : (if lev (tkc b n q) = 4 then zput 4 Z else zput (lev (tkc b n q) - 1) Z) = zput 4 Z := if_pos l4
            have n4 : ¬ (lev (tkc b n q) = 4 ∧ ztl (zput 4 Z) = 4) := fun z => by omega
            have rr2 : xR h2 45 4 = 3 := (gp.2.2 45 4 rfl).trans r4
            have ef2 : (xI h2 45 2).toInt = 0 := by rw [gp.2.1 45 2 rfl]; exact f0
            have j6 := J5 6 (by omega) (by omega) (by omega) (by omega)
            have JB := J1.b
            have m1 := ko4.1
            have m2 := ko4.2.1
            have m3 := ks4.1
            have m4 := ks4.2.1
            have t102 : XT l 2 44 false 61 153 6051 98 [xf 7 45, xi r1] [xi (r1 - (Int32.ofInt (1))), xf 7 45] h1 101 [xf 7 45, xi r1] [] h2 := XT_call (l := l) (fr := 2) (lo := 44) (full := false) (M := 61) (n := 153) (u := 6051) (pc := 98) (L := [xf 7 45, xi r1]) (st := [xi (r1 - (Int32.ofInt (1))), xf 7 45]) (h := h1) (i := .invokevirtual 62) (aux := 2) (nx := 101) (K := 62) (vs := [xf 7 45, xi (r1 - (Int32.ofInt (1)))]) (rs := []) (rest := []) rfl rfl rfl rfl rfl rfl c5 (by decide) (by decide) (Nat.le_of_ble_eq_true rfl) ⟨Nat.le_of_eq gp.1.2.2.2.1, Nat.le_of_eq gp.1.2.2.2.2⟩
            have t103 := t101.tr t102
            have t104 : XT l 2 44 false 61 153 6051 101 [xf 7 45, xi r1] [] h2 102 [xf 7 45, xi r1] [xf 7 45] h2 := XT_path (l := l) (fr := 2) (lo := 44) (full := false) (M := 61) (n := 153) (u := 6051) (pc := 101) (L := [xf 7 45, xi r1]) (st := []) (h := h2) (inl := [39, 63]) (n' := 120) (sp := [102]) (o := []) rfl rfl ⟨rfl, rfl, rfl⟩ rfl ⟨Nat.le_of_eq gp.1.2.2.2.1, Nat.le_of_eq gp.1.2.2.2.2⟩ trivial
            have t105 := t103.tr t104
            obtain ⟨h3, c6, o1⟩ := ck_cnt3 l h2 gp.1 ef2 rr2
            rcases o1 with ⟨cl1, cg, ca⟩ | ⟨cl1, cg, ca, cb⟩
            · have t106 : XT l 2 44 false 61 153 6051 102 [xf 7 45, xi r1] [xf 7 45] h2 105 [xf 7 45, xi r1] [] h3 := XT_call (l := l) (fr := 2) (lo := 44) (full := false) (M := 61) (n := 153) (u := 6051) (pc := 102) (L := [xf 7 45, xi r1]) (st := [xf 7 45]) (h := h2) (i := .invokevirtual 59) (aux := 1) (nx := 105) (K := 59) (vs := [xf 7 45]) (rs := []) (rest := []) rfl rfl rfl rfl rfl rfl c6 (by decide) (by decide) (Nat.le_of_ble_eq_true rfl) ⟨Nat.le_of_eq cg.1.2.2.2.1, Nat.le_of_eq cg.1.2.2.2.2⟩
              have t107 := t105.tr t106
              have t108 : XT l 2 44 false 61 153 6051 105 [xf 7 45, xi r1] [] h3 106 [xf 7 45, xi r1] [xf 7 45] h3 := XT_path (l := l) (fr := 2) (lo := 44) (full := false) (M := 61) (n := 153) (u := 6051) (pc := 105) (L := [xf 7 45, xi r1]) (st := []) (h := h3) (inl := [39, 63]) (n' := 120) (sp := [106]) (o := []) rfl rfl ⟨rfl, rfl, rfl⟩ rfl ⟨Nat.le_of_eq cg.1.2.2.2.1, Nat.le_of_eq cg.1.2.2.2.2⟩ trivial
              have t109 := t107.tr t108
              obtain ⟨h4, c7, g4, a12, ap, ar⟩ := ck_push l h3 cg.1 (by rw [cg.2.1 45 12 rfl]; omega)
              have t110 : XT l 2 44 false 61 153 6051 106 [xf 7 45, xi r1] [xf 7 45] h3 109 [xf 7 45, xi r1] [] h4 := XT_call (l := l) (fr := 2) (lo := 44) (full := false) (M := 61) (n := 153) (u := 6051) (pc := 106) (L := [xf 7 45, xi r1]) (st := [xf 7 45]) (h := h3) (i := .invokevirtual 55) (aux := 1) (nx := 109) (K := 55) (vs := [xf 7 45]) (rs := []) (rest := []) rfl rfl rfl rfl rfl rfl c7 (by decide) (by decide) (Nat.le_of_ble_eq_true rfl) ⟨Nat.le_of_eq g4.1.2.2.2.1, Nat.le_of_eq g4.1.2.2.2.2⟩
              have t111 := t109.tr t110
              have t112 : XT l 2 44 false 61 153 6051 109 [xf 7 45, xi r1] [] h4 110 [xf 7 45, xi r1] [xi (Int32.ofInt (1))] h4 := XT_path (l := l) (fr := 2) (lo := 44) (full := false) (M := 61) (n := 153) (u := 6051) (pc := 109) (L := [xf 7 45, xi r1]) (st := []) (h := h4) (inl := [39, 63]) (n' := 120) (sp := [110]) (o := []) rfl rfl ⟨rfl, rfl, rfl⟩ rfl ⟨Nat.le_of_eq g4.1.2.2.2.1, Nat.le_of_eq g4.1.2.2.2.2⟩ trivial
              have t113 := t111.tr t112
              have n6 : ¬ ((tkc b n q) = 6 ∧ 0 < Z 12) := by omega
              have n0 : ¬ (lev (tkc b n q) = 0 ∨ (tkc b n q) = 32) := by omega
              have o1 := g4.2.1
              have o0 := cg.2.1
              have op := gp.2.1
              have es := zst_s (c := (tkc b n q)) (v := (tkv b n q)) h13 n0 n4 (by omega)
              rw [zb] at es
              have ys : ∀ i : Nat, i ≠ 11 → i ≠ 6 → i ≠ 13 → i ≠ 700 + ((zput 4 Z) 11).toNat → (zs (zpush (zs (zput 4 Z) 6 ((zput 4 Z) 6 + 1)) (tkc b n q)) 13 1) i = (zput 4 Z) i := fun i h1 h2 h3 h4 => by rw [zs_ne h3, zpush_h h1 (by rw [zs_ne (by omega)]; exact h4), zs_ne h2]
              rw [o0 45 12 rfl] at a12 ap ar
              rw [o0 45 7 rfl, op 45 7 rfl] at ap
              rw [es]
              dsimp only
              refine ⟨_, _, CX_ofT (h' := h4) (by decide) rfl rfl ⟨trivial, (Or.inr rfl)⟩ ⟨_, _, _, rfl, rfl, rfl⟩ rfl ⟨Nat.le_of_eq g4.1.2.2.2.1.symm, Nat.le_of_eq g4.1.2.2.2.2.symm⟩ t113, (vG.tr (W := ([(18, 5, false), (18, 6, false), (19, 0, true), (20, 0, true), (45, 2, false), (45, 3, false), (45, 12, false), (45, 13, false), (47, 0, true)], [])) (a := h) (b := h2) ⟨gp.1, gp.2.mono rfl rfl⟩ (vG.tr (W := ([(18, 5, false), (18, 6, false), (19, 0, true), (20, 0, true), (45, 2, false), (45, 3, false), (45, 12, false), (45, 13, false), (47, 0, true)], [])) (a := h2) (b := h3) (c := h4) ⟨cg.1, cg.2.mono rfl rfl⟩ ⟨g4.1, g4.2.mono rfl rfl⟩)), Or.inl ⟨rfl, ?_, ?_, (Or.inr rfl), ?_, ?_, ?_⟩⟩
              · rw [o1 45 2 rfl, o0 45 2 rfl]; exact ef2
              · show (1 : Int) = _; rw [zs_same]
              · exact kt.fr (fun k hk => by rcases hk with rfl | rfl | rfl | rfl | rfl | rfl <;> exact (o1 45 _ rfl).trans ((o0 45 _ rfl).trans (op 45 _ rfl))) (fun k => (o1 46 k rfl).trans ((o0 46 k rfl).trans (op 46 k rfl)))
              · exact ko4.fr ((o1 18 5 rfl).trans (o0 18 5 rfl)) (by rw [o1 18 6 rfl, ca, zs_ne (by omega), zpush_o (by omega) (by omega), zs_same]; omega) (fun k => (o1 19 k rfl).trans (o0 19 k rfl)) (fun k => (o1 20 k rfl).trans (o0 20 k rfl)) (ys 10 (by omega) (by omega) (by omega) (by omega)) (fun k hk => ⟨ys _ (by omega) (by omega) (by omega) (by omega), ys _ (by omega) (by omega) (by omega) (by omega)⟩)
              · refine ks4.push (by omega) a12 ?_ ?_ (fun k hk => ?_) ?_ (fun k hk => ys _ (by omega) (by omega) (by omega) (by omega))
                · rw [o1 45 13 rfl, o0 45 13 rfl, ys 12 (by omega) (by omega) (by omega) (by omega)]; exact m4
                · rw [ap, kc, zs_ne (by omega), show (700 + ((zput 4 Z) 11).toNat) = 700 + (zs (zput 4 Z) 6 ((zput 4 Z) 6 + 1) 11).toNat from by rw [zs_ne (by omega)]]; exact zpush_t.symm
                · rw [ar k hk]; exact o0 47 k rfl
                · rw [zs_ne (by omega), zpush_11, zs_ne (by omega)]
            · have t114 : XT l 2 44 false 61 153 6051 102 [xf 7 45, xi r1] [xf 7 45] h2 105 [xf 7 45, xi r1] [] h3 := XT_call (l := l) (fr := 2) (lo := 44) (full := false) (M := 61) (n := 153) (u := 6051) (pc := 102) (L := [xf 7 45, xi r1]) (st := [xf 7 45]) (h := h2) (i := .invokevirtual 59) (aux := 1) (nx := 105) (K := 59) (vs := [xf 7 45]) (rs := []) (rest := []) rfl rfl rfl rfl rfl rfl c6 (by decide) (by decide) (Nat.le_of_ble_eq_true rfl) ⟨Nat.le_of_eq cg.1.2.2.2.1, Nat.le_of_eq cg.1.2.2.2.2⟩
              have t115 := t105.tr t114
              have t116 : XT l 2 44 false 61 153 6051 105 [xf 7 45, xi r1] [] h3 106 [xf 7 45, xi r1] [xf 7 45] h3 := XT_path (l := l) (fr := 2) (lo := 44) (full := false) (M := 61) (n := 153) (u := 6051) (pc := 105) (L := [xf 7 45, xi r1]) (st := []) (h := h3) (inl := [39, 63]) (n' := 120) (sp := [106]) (o := []) rfl rfl ⟨rfl, rfl, rfl⟩ rfl ⟨Nat.le_of_eq cg.1.2.2.2.1, Nat.le_of_eq cg.1.2.2.2.2⟩ trivial
              have t117 := t115.tr t116
              obtain ⟨h4, c7, g4⟩ := ck_pushA l h3 cg.1
              have t118 : XT l 2 44 false 61 153 6051 106 [xf 7 45, xi r1] [xf 7 45] h3 109 [xf 7 45, xi r1] [] h4 := XT_call (l := l) (fr := 2) (lo := 44) (full := false) (M := 61) (n := 153) (u := 6051) (pc := 106) (L := [xf 7 45, xi r1]) (st := [xf 7 45]) (h := h3) (i := .invokevirtual 55) (aux := 1) (nx := 109) (K := 55) (vs := [xf 7 45]) (rs := []) (rest := []) rfl rfl rfl rfl rfl rfl c7 (by decide) (by decide) (Nat.le_of_ble_eq_true rfl) ⟨Nat.le_of_eq g4.1.2.2.2.1, Nat.le_of_eq g4.1.2.2.2.2⟩
              have t119 := t117.tr t118
              have t120 : XT l 2 44 false 61 153 6051 109 [xf 7 45, xi r1] [] h4 110 [xf 7 45, xi r1] [xi (Int32.ofInt (1))] h4 := XT_path (l := l) (fr := 2) (lo := 44) (full := false) (M := 61) (n := 153) (u := 6051) (pc := 109) (L := [xf 7 45, xi r1]) (st := []) (h := h4) (inl := [39, 63]) (n' := 120) (sp := [110]) (o := []) rfl rfl ⟨rfl, rfl, rfl⟩ rfl ⟨Nat.le_of_eq g4.1.2.2.2.1, Nat.le_of_eq g4.1.2.2.2.2⟩ trivial
              have t121 := t119.tr t120
              have n6 : ¬ ((tkc b n q) = 6 ∧ 0 < Z 12) := by omega
              have n0 : ¬ (lev (tkc b n q) = 0 ∨ (tkc b n q) = 32) := by omega
              have o1 := g4.2.1
              have o0 := cg.2.1
              have op := gp.2.1
              have es := zst_s2 (c := (tkc b n q)) (v := (tkv b n q)) h13 n0 n4 (by omega)
              exact ⟨_, _, CX_ofT (h' := h4) (by decide) rfl rfl ⟨trivial, (Or.inr rfl)⟩ ⟨_, _, _, rfl, rfl, rfl⟩ rfl ⟨Nat.le_of_eq g4.1.2.2.2.1.symm, Nat.le_of_eq g4.1.2.2.2.2.symm⟩ t121, (vG.tr (W := ([(18, 5, false), (18, 6, false), (19, 0, true), (20, 0, true), (45, 2, false), (45, 3, false), (45, 12, false), (45, 13, false), (47, 0, true)], [])) (a := h) (b := h2) ⟨gp.1, gp.2.mono rfl rfl⟩ (vG.tr (W := ([(18, 5, false), (18, 6, false), (19, 0, true), (20, 0, true), (45, 2, false), (45, 3, false), (45, 12, false), (45, 13, false), (47, 0, true)], [])) (a := h2) (b := h3) (c := h4) ⟨cg.1, cg.2.mono rfl rfl⟩ ⟨g4.1, g4.2.mono rfl rfl⟩)), Or.inr ⟨by rw [es]; exact (by decide : ¬ (2 : Int) = 0), by rw [es, o1 45 2 rfl]; exact ca, by rw [o1 45 3 rfl, cb, op 45 8 rfl]; exact kq, kr.fr (by rw [o1 45 5 rfl, o0 45 5 rfl, op 45 5 rfl]) (fun k => by rw [o1 46 k rfl, o0 46 k rfl, op 46 k rfl])⟩⟩
        · have dcb88 : ¬ (r1).toInt = (r2).toInt := fun z_ => cb88 (Int32.toInt_inj.mp z_)
          have t122 : XT l 2 44 false 61 153 6051 71 [xf 7 45, xi r1] [xi r2, xi r1] h 98 [xf 7 45, xi r1] [xi (r1 - (Int32.ofInt (1))), xf 7 45] h := XT_path (l := l) (fr := 2) (lo := 44) (full := false) (M := 61) (n := 153) (u := 6051) (pc := 71) (L := [xf 7 45, xi r1]) (st := [xi r2, xi r1]) (h := h) (inl := [39, 63]) (n' := 120) (sp := [98]) (o := [1]) rfl rfl ⟨rfl, rfl, rfl⟩ rfl ⟨Nat.le_of_eq hg.2.2.2.1, Nat.le_of_eq hg.2.2.2.2⟩ ⟨trivial, cb88⟩
          have t123 := t87.tr t122
          have yl := y_pred (k := r1) (by omega) (by omega)
          obtain ⟨h2, c5, g2, ko4, ks4⟩ := ck_put3 l f (r1 - (Int32.ofInt (1))) (by omega) Z h hg r4 ko ks I h13
          rw [show ((r1 - (Int32.ofInt (1)))).toInt = lev (tkc b n q) - 1 from by omega] at ko4 ks4
          obtain ⟨J1, J2, J3, J4, J5, J6, J7, J8⟩ := zInv_put (lv := lev (tkc b n q) - 1) (by omega) I h13
          have gp : vG ([(18, 5, false), (19, 0, true), (20, 0, true), (45, 12, false)], []) h h2 := g2
          have zb : (if lev (tkc b n q) = 4 then zput 4 Z else zput (lev (tkc b n q) - 1) Z) = zput (lev (tkc b n q) - 1) Z := if_neg (by omega)
          have n4 : ¬ (lev (tkc b n q) = 4 ∧ ztl (zput 4 Z) = 4) := fun z => by omega
          have rr2 : xR h2 45 4 = 3 := (gp.2.2 45 4 rfl).trans r4
          have ef2 : (xI h2 45 2).toInt = 0 := by rw [gp.2.1 45 2 rfl]; exact f0
          have j6 := J5 6 (by omega) (by omega) (by omega) (by omega)
          have JB := J1.b
          have m1 := ko4.1
          have m2 := ko4.2.1
          have m3 := ks4.1
          have m4 := ks4.2.1
          have t124 : XT l 2 44 false 61 153 6051 98 [xf 7 45, xi r1] [xi (r1 - (Int32.ofInt (1))), xf 7 45] h 101 [xf 7 45, xi r1] [] h2 := XT_call (l := l) (fr := 2) (lo := 44) (full := false) (M := 61) (n := 153) (u := 6051) (pc := 98) (L := [xf 7 45, xi r1]) (st := [xi (r1 - (Int32.ofInt (1))), xf 7 45]) (h := h) (i := .invokevirtual 62) (aux := 2) (nx := 101) (K := 62) (vs := [xf 7 45, xi (r1 - (Int32.ofInt (1)))]) (rs := []) (rest := []) rfl rfl rfl rfl rfl rfl c5 (by decide) (by decide) (Nat.le_of_ble_eq_true rfl) ⟨Nat.le_of_eq gp.1.2.2.2.1, Nat.le_of_eq gp.1.2.2.2.2⟩
          have t125 := t123.tr t124
          have t126 : XT l 2 44 false 61 153 6051 101 [xf 7 45, xi r1] [] h2 102 [xf 7 45, xi r1] [xf 7 45] h2 := XT_path (l := l) (fr := 2) (lo := 44) (full := false) (M := 61) (n := 153) (u := 6051) (pc := 101) (L := [xf 7 45, xi r1]) (st := []) (h := h2) (inl := [39, 63]) (n' := 120) (sp := [102]) (o := []) rfl rfl ⟨rfl, rfl, rfl⟩ rfl ⟨Nat.le_of_eq gp.1.2.2.2.1, Nat.le_of_eq gp.1.2.2.2.2⟩ trivial
          have t127 := t125.tr t126
          obtain ⟨h3, c6, o1⟩ := ck_cnt3 l h2 gp.1 ef2 rr2
          rcases o1 with ⟨cl1, cg, ca⟩ | ⟨cl1, cg, ca, cb⟩
          · have t128 : XT l 2 44 false 61 153 6051 102 [xf 7 45, xi r1] [xf 7 45] h2 105 [xf 7 45, xi r1] [] h3 := XT_call (l := l) (fr := 2) (lo := 44) (full := false) (M := 61) (n := 153) (u := 6051) (pc := 102) (L := [xf 7 45, xi r1]) (st := [xf 7 45]) (h := h2) (i := .invokevirtual 59) (aux := 1) (nx := 105) (K := 59) (vs := [xf 7 45]) (rs := []) (rest := []) rfl rfl rfl rfl rfl rfl c6 (by decide) (by decide) (Nat.le_of_ble_eq_true rfl) ⟨Nat.le_of_eq cg.1.2.2.2.1, Nat.le_of_eq cg.1.2.2.2.2⟩
            have t129 := t127.tr t128
            have t130 : XT l 2 44 false 61 153 6051 105 [xf 7 45, xi r1] [] h3 106 [xf 7 45, xi r1] [xf 7 45] h3 := XT_path (l := l) (fr := 2) (lo := 44) (full := false) (M := 61) (n := 153) (u := 6051) (pc := 105) (L := [xf 7 45, xi r1]) (st := []) (h := h3) (inl := [39, 63]) (n' := 120) (sp := [106]) (o := []) rfl rfl ⟨rfl, rfl, rfl⟩ rfl ⟨Nat.le_of_eq cg.1.2.2.2.1, Nat.le_of_eq cg.1.2.2.2.2⟩ trivial
            have t131 := t129.tr t130
            obtain ⟨h4, c7, g4, a12, ap, ar⟩ := ck_push l h3 cg.1 (by rw [cg.2.1 45 12 rfl]; omega)
            have t132 : XT l 2 44 false 61 153 6051 106 [xf 7 45, xi r1] [xf 7 45] h3 109 [xf 7 45, xi r1] [] h4 := XT_call (l := l) (fr := 2) (lo := 44) (full := false) (M := 61) (n := 153) (u := 6051) (pc := 106) (L := [xf 7 45, xi r1]) (st := [xf 7 45]) (h := h3) (i := .invokevirtual 55) (aux := 1) (nx := 109) (K := 55) (vs := [xf 7 45]) (rs := []) (rest := []) rfl rfl rfl rfl rfl rfl c7 (by decide) (by decide) (Nat.le_of_ble_eq_true rfl) ⟨Nat.le_of_eq g4.1.2.2.2.1, Nat.le_of_eq g4.1.2.2.2.2⟩
            have t133 := t131.tr t132
            have t134 : XT l 2 44 false 61 153 6051 109 [xf 7 45, xi r1] [] h4 110 [xf 7 45, xi r1] [xi (Int32.ofInt (1))] h4 := XT_path (l := l) (fr := 2) (lo := 44) (full := false) (M := 61) (n := 153) (u := 6051) (pc := 109) (L := [xf 7 45, xi r1]) (st := []) (h := h4) (inl := [39, 63]) (n' := 120) (sp := [110]) (o := []) rfl rfl ⟨rfl, rfl, rfl⟩ rfl ⟨Nat.le_of_eq g4.1.2.2.2.1, Nat.le_of_eq g4.1.2.2.2.2⟩ trivial
            have t135 := t133.tr t134
            have n6 : ¬ ((tkc b n q) = 6 ∧ 0 < Z 12) := by omega
            have n0 : ¬ (lev (tkc b n q) = 0 ∨ (tkc b n q) = 32) := by omega
            have o1 := g4.2.1
            have o0 := cg.2.1
            have op := gp.2.1
            have es := zst_s (c := (tkc b n q)) (v := (tkv b n q)) h13 n0 n4 (by omega)
            rw [zb] at es
            have ys : ∀ i : Nat, i ≠ 11 → i ≠ 6 → i ≠ 13 → i ≠ 700 + ((zput (lev (tkc b n q) - 1) Z) 11).toNat → (zs (zpush (zs (zput (lev (tkc b n q) - 1) Z) 6 ((zput (lev (tkc b n q) - 1) Z) 6 + 1)) (tkc b n q)) 13 1) i = (zput (lev (tkc b n q) - 1) Z) i := fun i h1 h2 h3 h4 => by rw [zs_ne h3, zpush_h h1 (by rw [zs_ne (by omega)]; exact h4), zs_ne h2]
            rw [o0 45 12 rfl] at a12 ap ar
            rw [o0 45 7 rfl, op 45 7 rfl] at ap
            rw [es]
            dsimp only
            refine ⟨_, _, CX_ofT (h' := h4) (by decide) rfl rfl ⟨trivial, (Or.inr rfl)⟩ ⟨_, _, _, rfl, rfl, rfl⟩ rfl ⟨Nat.le_of_eq g4.1.2.2.2.1.symm, Nat.le_of_eq g4.1.2.2.2.2.symm⟩ t135, (vG.tr (W := ([(18, 5, false), (18, 6, false), (19, 0, true), (20, 0, true), (45, 2, false), (45, 3, false), (45, 12, false), (45, 13, false), (47, 0, true)], [])) (a := h) (b := h2) ⟨gp.1, gp.2.mono rfl rfl⟩ (vG.tr (W := ([(18, 5, false), (18, 6, false), (19, 0, true), (20, 0, true), (45, 2, false), (45, 3, false), (45, 12, false), (45, 13, false), (47, 0, true)], [])) (a := h2) (b := h3) (c := h4) ⟨cg.1, cg.2.mono rfl rfl⟩ ⟨g4.1, g4.2.mono rfl rfl⟩)), Or.inl ⟨rfl, ?_, ?_, (Or.inr rfl), ?_, ?_, ?_⟩⟩
            · rw [o1 45 2 rfl, o0 45 2 rfl]; exact ef2
            · show (1 : Int) = _; rw [zs_same]
            · exact kt.fr (fun k hk => by rcases hk with rfl | rfl | rfl | rfl | rfl | rfl <;> exact (o1 45 _ rfl).trans ((o0 45 _ rfl).trans (op 45 _ rfl))) (fun k => (o1 46 k rfl).trans ((o0 46 k rfl).trans (op 46 k rfl)))
            · exact ko4.fr ((o1 18 5 rfl).trans (o0 18 5 rfl)) (by rw [o1 18 6 rfl, ca, zs_ne (by omega), zpush_o (by omega) (by omega), zs_same]; omega) (fun k => (o1 19 k rfl).trans (o0 19 k rfl)) (fun k => (o1 20 k rfl).trans (o0 20 k rfl)) (ys 10 (by omega) (by omega) (by omega) (by omega)) (fun k hk => ⟨ys _ (by omega) (by omega) (by omega) (by omega), ys _ (by omega) (by omega) (by omega) (by omega)⟩)
            · refine ks4.push (by omega) a12 ?_ ?_ (fun k hk => ?_) ?_ (fun k hk => ys _ (by omega) (by omega) (by omega) (by omega))
              · rw [o1 45 13 rfl, o0 45 13 rfl, ys 12 (by omega) (by omega) (by omega) (by omega)]; exact m4
              · rw [ap, kc, zs_ne (by omega), show (700 + ((zput (lev (tkc b n q) - 1) Z) 11).toNat) = 700 + (zs (zput (lev (tkc b n q) - 1) Z) 6 ((zput (lev (tkc b n q) - 1) Z) 6 + 1) 11).toNat from by rw [zs_ne (by omega)]]; exact zpush_t.symm
              · rw [ar k hk]; exact o0 47 k rfl
              · rw [zs_ne (by omega), zpush_11, zs_ne (by omega)]
          · have t136 : XT l 2 44 false 61 153 6051 102 [xf 7 45, xi r1] [xf 7 45] h2 105 [xf 7 45, xi r1] [] h3 := XT_call (l := l) (fr := 2) (lo := 44) (full := false) (M := 61) (n := 153) (u := 6051) (pc := 102) (L := [xf 7 45, xi r1]) (st := [xf 7 45]) (h := h2) (i := .invokevirtual 59) (aux := 1) (nx := 105) (K := 59) (vs := [xf 7 45]) (rs := []) (rest := []) rfl rfl rfl rfl rfl rfl c6 (by decide) (by decide) (Nat.le_of_ble_eq_true rfl) ⟨Nat.le_of_eq cg.1.2.2.2.1, Nat.le_of_eq cg.1.2.2.2.2⟩
            have t137 := t127.tr t136
            have t138 : XT l 2 44 false 61 153 6051 105 [xf 7 45, xi r1] [] h3 106 [xf 7 45, xi r1] [xf 7 45] h3 := XT_path (l := l) (fr := 2) (lo := 44) (full := false) (M := 61) (n := 153) (u := 6051) (pc := 105) (L := [xf 7 45, xi r1]) (st := []) (h := h3) (inl := [39, 63]) (n' := 120) (sp := [106]) (o := []) rfl rfl ⟨rfl, rfl, rfl⟩ rfl ⟨Nat.le_of_eq cg.1.2.2.2.1, Nat.le_of_eq cg.1.2.2.2.2⟩ trivial
            have t139 := t137.tr t138
            obtain ⟨h4, c7, g4⟩ := ck_pushA l h3 cg.1
            have t140 : XT l 2 44 false 61 153 6051 106 [xf 7 45, xi r1] [xf 7 45] h3 109 [xf 7 45, xi r1] [] h4 := XT_call (l := l) (fr := 2) (lo := 44) (full := false) (M := 61) (n := 153) (u := 6051) (pc := 106) (L := [xf 7 45, xi r1]) (st := [xf 7 45]) (h := h3) (i := .invokevirtual 55) (aux := 1) (nx := 109) (K := 55) (vs := [xf 7 45]) (rs := []) (rest := []) rfl rfl rfl rfl rfl rfl c7 (by decide) (by decide) (Nat.le_of_ble_eq_true rfl) ⟨Nat.le_of_eq g4.1.2.2.2.1, Nat.le_of_eq g4.1.2.2.2.2⟩
            have t141 := t139.tr t140
            have t142 : XT l 2 44 false 61 153 6051 109 [xf 7 45, xi r1] [] h4 110 [xf 7 45, xi r1] [xi (Int32.ofInt (1))] h4 := XT_path (l := l) (fr := 2) (lo := 44) (full := false) (M := 61) (n := 153) (u := 6051) (pc := 109) (L := [xf 7 45, xi r1]) (st := []) (h := h4) (inl := [39, 63]) (n' := 120) (sp := [110]) (o := []) rfl rfl ⟨rfl, rfl, rfl⟩ rfl ⟨Nat.le_of_eq g4.1.2.2.2.1, Nat.le_of_eq g4.1.2.2.2.2⟩ trivial
            have t143 := t141.tr t142
            have n6 : ¬ ((tkc b n q) = 6 ∧ 0 < Z 12) := by omega
            have n0 : ¬ (lev (tkc b n q) = 0 ∨ (tkc b n q) = 32) := by omega
            have o1 := g4.2.1
            have o0 := cg.2.1
            have op := gp.2.1
            have es := zst_s2 (c := (tkc b n q)) (v := (tkv b n q)) h13 n0 n4 (by omega)
            exact ⟨_, _, CX_ofT (h' := h4) (by decide) rfl rfl ⟨trivial, (Or.inr rfl)⟩ ⟨_, _, _, rfl, rfl, rfl⟩ rfl ⟨Nat.le_of_eq g4.1.2.2.2.1.symm, Nat.le_of_eq g4.1.2.2.2.2.symm⟩ t143, (vG.tr (W := ([(18, 5, false), (18, 6, false), (19, 0, true), (20, 0, true), (45, 2, false), (45, 3, false), (45, 12, false), (45, 13, false), (47, 0, true)], [])) (a := h) (b := h2) ⟨gp.1, gp.2.mono rfl rfl⟩ (vG.tr (W := ([(18, 5, false), (18, 6, false), (19, 0, true), (20, 0, true), (45, 2, false), (45, 3, false), (45, 12, false), (45, 13, false), (47, 0, true)], [])) (a := h2) (b := h3) (c := h4) ⟨cg.1, cg.2.mono rfl rfl⟩ ⟨g4.1, g4.2.mono rfl rfl⟩)), Or.inr ⟨by rw [es]; exact (by decide : ¬ (2 : Int) = 0), by rw [es, o1 45 2 rfl]; exact ca, by rw [o1 45 3 rfl, cb, op 45 8 rfl]; exact kq, kr.fr (by rw [o1 45 5 rfl, o0 45 5 rfl, op 45 5 rfl]) (fun k => by rw [o1 46 k rfl, o0 46 k rfl, op 46 k rfl])⟩⟩
set_option maxRecDepth 100000 in
set_option maxHeartbeats 4000000 in
theorem ck_part24 (l : Launch) (f : Int) (b : Nat → Int) (n q : Nat) (Z : Nat → Int) (h : XH) (hg : sgood vT vR vE 153 6051 h) (kt : kT b n q h) (f0 : (xI h 45 2).toInt = 0) (r4 : xR h 45 4 = 24) (ko : kO 39 40 41 Z h) (ks : kS Z h) (I : zInv f Z) (h13 : Z 13 = 1) : ∃ v h', CX l 3 60 false 54 [xf 7 45] h [xi v] h' ∧ vG ([(39, 5, false), (39, 6, false), (40, 0, true), (41, 0, true), (45, 2, false), (45, 3, false), (45, 12, false), (45, 13, false), (47, 0, true)], []) h h' ∧ (((zstep (tkc b n q) (tkv b n q) Z).1 = 0 ∧ (xI h' 45 2).toInt = 0 ∧ v.toInt = (zstep (tkc b n q) (tkv b n q) Z).2 13 ∧ (v = 0 ∨ v = 1) ∧ kT b n q h' ∧ kO 39 40 41 (zstep (tkc b n q) (tkv b n q) Z).2 h' ∧ kS (zstep (tkc b n q) (tkv b n q) Z).2 h') ∨ (¬ (zstep (tkc b n q) (tkv b n q) Z).1 = 0 ∧ (xI h' 45 2).toInt = (zstep (tkc b n q) (tkv b n q) Z).1 ∧ (xI h' 45 3).toInt = q ∧ kR b n h')) := by
  have ef : xI h 45 2 = 0 := Int32.toInt_inj.mp f0
  have e_0 : (0 : Int32).toInt = 0 := rfl
  obtain ⟨kr, hn7, hq, kq, kc, kv, ke⟩ := id kt
  have B := I.b
  have ks1 := ks.1
  have ks2 := ks.2.1
  have ko1 := ko.1
  have ko2 := ko.2.1
  have b8 : 0 ≤ (xI h 45 8).toInt ∧ (xI h 45 8).toInt ≤ 700 := vbnd hg.1 45 8
  have b7 : 0 ≤ (xI h 45 7).toInt ∧ (xI h 45 7).toInt ≤ 39 := vbnd hg.1 45 7
  by_cases cb1 : (xI h 45 7) = (Int32.ofInt (5))
  · have e_5 : (Int32.ofInt (5)).toInt = 5 := rfl
    have dcb1 : (xI h 45 7).toInt = (Int32.ofInt (5)).toInt := congrArg Int32.toInt cb1
    by_cases cb2 : (xI h 45 13) < (Int32.ofInt (8))
    · have e_8 : (Int32.ofInt (8)).toInt = 8 := rfl
      have dcb2 : (xI h 45 13).toInt < (Int32.ofInt (8)).toInt := Int32.lt_iff_toInt_lt.mp cb2
      have t3 : XT l 3 60 false 54 153 6051 0 [xf 7 45] [] h 36 [xf 7 45] [xf 7 45] (xsetI h 45 13 ((xI h 45 13) + (Int32.ofInt (1)))) := XT_path (l := l) (fr := 3) (lo := 60) (full := false) (M := 54) (n := 153) (u := 6051) (pc := 0) (L := [xf 7 45]) (st := []) (h := h) (inl := [39]) (n' := 120) (sp := [36]) (o := [0, 1]) rfl rfl ⟨rfl, rfl, rfl⟩ rfl ⟨Nat.le_of_eq hg.2.2.2.1, Nat.le_of_eq hg.2.2.2.2⟩ ⟨⟨trivial, cb1⟩, cb2⟩
      have ys := y_suc1 (k := xI h 45 13) (by omega) (by omega)
      have G0 : vG ([(39, 5, false), (39, 6, false), (40, 0, true), (41, 0, true), (45, 2, false), (45, 3, false), (45, 12, false), (45, 13, false), (47, 0, true)], []) h (xsetI h 45 13 ((xI h 45 13) + (Int32.ofInt (1)))) := ((vG.rf hg) : vG ([(39, 5, false), (39, 6, false), (40, 0, true), (41, 0, true), (45, 2, false), (45, 3, false), (45, 12, false), (45, 13, false), (47, 0, true)], []) h h).set (c := 45) (k := 13) (v := ((xI h 45 13) + (Int32.ofInt (1)))) (show (0 : Int) ≤ _ ∧ _ ≤ 8 from ⟨by omega, by omega⟩) (by decide +kernel) (by decide +kernel) rfl
      obtain ⟨h2, c2, g1, a12, ap, ar⟩ := ck_push l (xsetI h 45 13 ((xI h 45 13) + (Int32.ofInt (1)))) G0.1 (by rw [yI_ne (by decide)]; omega)
      have t4 : XT l 3 60 false 54 153 6051 36 [xf 7 45] [xf 7 45] (xsetI h 45 13 ((xI h 45 13) + (Int32.ofInt (1)))) 39 [xf 7 45] [] h2 := XT_call (l := l) (fr := 3) (lo := 60) (full := false) (M := 54) (n := 153) (u := 6051) (pc := 36) (L := [xf 7 45]) (st := [xf 7 45]) (h := (xsetI h 45 13 ((xI h 45 13) + (Int32.ofInt (1))))) (i := .invokevirtual 55) (aux := 1) (nx := 39) (K := 55) (vs := [xf 7 45]) (rs := []) (rest := []) rfl rfl rfl rfl rfl rfl c2 (by decide) (by decide) (Nat.le_of_ble_eq_true rfl) ⟨Nat.le_of_eq g1.1.2.2.2.1, Nat.le_of_eq g1.1.2.2.2.2⟩
      have t5 := t3.tr t4
      have t6 : XT l 3 60 false 54 153 6051 39 [xf 7 45] [] h2 40 [xf 7 45] [xi (Int32.ofInt (1))] h2 := XT_path (l := l) (fr := 3) (lo := 60) (full := false) (M := 54) (n := 153) (u := 6051) (pc := 39) (L := [xf 7 45]) (st := []) (h := h2) (inl := [39]) (n' := 120) (sp := [40]) (o := []) rfl rfl ⟨rfl, rfl, rfl⟩ rfl ⟨Nat.le_of_eq g1.1.2.2.2.1, Nat.le_of_eq g1.1.2.2.2.2⟩ trivial
      have t7 := t5.tr t6
      have ec : (tkc b n q) = 5 := by rw [← kc]; exact dcb1
      have es := zst_5 (c := (tkc b n q)) (v := (tkv b n q)) h13 ec (by omega)
      have G1 : vG ([(39, 5, false), (39, 6, false), (40, 0, true), (41, 0, true), (45, 2, false), (45, 3, false), (45, 12, false), (45, 13, false), (47, 0, true)], []) h h2 := (G0 : vG ([(39, 5, false), (39, 6, false), (40, 0, true), (41, 0, true), (45, 2, false), (45, 3, false), (45, 12, false), (45, 13, false), (47, 0, true)], []) h (xsetI h 45 13 ((xI h 45 13) + (Int32.ofInt (1))))).tr ⟨g1.1, g1.2.mono rfl rfl⟩
      have o1 := g1.2.1
      rw [yI_ne (by decide)] at a12 ap
      rw [yI_ne (by decide)] at ap
      rw [es]
      dsimp only
      refine ⟨_, _, CX_ofT (h' := h2) (by decide) rfl rfl ⟨trivial, (Or.inr rfl)⟩ ⟨_, _, _, rfl, rfl, rfl⟩ rfl ⟨Nat.le_of_eq g1.1.2.2.2.1.symm, Nat.le_of_eq g1.1.2.2.2.2.symm⟩ t7, G1, Or.inl ⟨rfl, ?_, ?_, (Or.inr rfl), ?_, ?_, ?_⟩⟩
      · rw [o1 45 2 rfl, yI_ne (by decide)]; exact f0
      · show (1 : Int) = _; rw [zpush_o (by omega) (by omega), zs_ne (by omega)]; exact h13.symm
      · exact kt.fr (fun k hk => by rcases hk with rfl | rfl | rfl | rfl | rfl | rfl <;> exact (o1 45 _ rfl).trans (yI_ne (by decide))) (fun k => (o1 46 k rfl).trans (yI_c (by decide)))
      · exact ko.fr ((o1 39 5 rfl).trans (yI_c (by decide))) (by rw [o1 39 6 rfl, yI_c (by decide), zpush_o (by omega) (by omega), zs_ne (by omega)]; exact ko2) (fun k => (o1 40 k rfl).trans (yI_c (by decide))) (fun k => (o1 41 k rfl).trans (yI_c (by decide))) (by rw [zpush_o (by omega) (by omega), zs_ne (by omega)]) (fun k hk => ⟨by rw [zpush_o (by omega) (by omega), zs_ne (by omega)], by rw [zpush_o (by omega) (by omega), zs_ne (by omega)]⟩)
      · refine ks.push (by omega) a12 ?_ ?_ (fun k hk => ?_) ?_ (fun k hk => ?_)
        · rw [o1 45 13 rfl, yI_same, zpush_o (by omega) (by omega), zs_same]; omega
        · rw [ap, kc, ec, show (700 + (Z 11).toNat) = 700 + (zs Z 12 (Z 12 + 1) 11).toNat from by rw [zs_ne (by omega)]]; exact zpush_t.symm
        · rw [ar k (by rw [yI_ne (by decide)]; exact hk)]; exact yI_c (by decide)
        · rw [zpush_11, zs_ne (by omega)]
        · rw [zpush_h (by omega) (by rw [zs_ne (by omega)]; omega), zs_ne (by omega)]
    · have e_8 : (Int32.ofInt (8)).toInt = 8 := rfl
      have dcb2 : (Int32.ofInt (8)).toInt ≤ (xI h 45 13).toInt := Int32.le_iff_toInt_le.mp (Int32.not_lt.mp cb2)
      have t8 : XT l 3 60 false 54 153 6051 0 [xf 7 45] [] h 40 [xf 7 45] [xi (Int32.ofInt (1))] (xsetI (xsetI h 45 2 (Int32.ofInt (2))) 45 3 (xI h 45 8)) := XT_path (l := l) (fr := 3) (lo := 60) (full := false) (M := 54) (n := 153) (u := 6051) (pc := 0) (L := [xf 7 45]) (st := []) (h := h) (inl := [39]) (n' := 120) (sp := [40]) (o := [0, 0, 0]) rfl rfl ⟨rfl, rfl, rfl⟩ rfl ⟨Nat.le_of_eq hg.2.2.2.1, Nat.le_of_eq hg.2.2.2.2⟩ ⟨⟨⟨trivial, cb1⟩, cb2⟩, ef⟩
      have ec : (tkc b n q) = 5 := by rw [← kc]; exact dcb1
      have es := zst_5b (c := (tkc b n q)) (v := (tkv b n q)) h13 ec (by omega)
      have G1 : vG ([(39, 5, false), (39, 6, false), (40, 0, true), (41, 0, true), (45, 2, false), (45, 3, false), (45, 12, false), (45, 13, false), (47, 0, true)], []) h (xsetI (xsetI h 45 2 (Int32.ofInt (2))) 45 3 (xI h 45 8)) := vGf (vG.rf hg) (by decide) rfl rfl rfl
      exact ⟨_, _, CX_ofT (h' := (xsetI (xsetI h 45 2 (Int32.ofInt (2))) 45 3 (xI h 45 8))) (by decide) rfl rfl ⟨trivial, (Or.inr rfl)⟩ ⟨_, _, _, rfl, rfl, rfl⟩ rfl ⟨Nat.le_of_eq hg.2.2.2.1.symm, Nat.le_of_eq hg.2.2.2.2.symm⟩ t8, G1, Or.inr ⟨by rw [es]; exact (by decide : ¬ (2 : Int) = 0), by rw [es, yI_ne (by decide), yI_same]; rfl, by rw [yI_same]; exact kq, kr.fr (by rw [yI_ne (by decide), yI_ne (by decide)]) (fun k => by rw [yI_c (by decide), yI_c (by decide)])⟩⟩
  · have e_5 : (Int32.ofInt (5)).toInt = 5 := rfl
    have dcb1 : ¬ (xI h 45 7).toInt = (Int32.ofInt (5)).toInt := fun z_ => cb1 (Int32.toInt_inj.mp z_)
    by_cases cb9 : (xI h 45 7) = (Int32.ofInt (32))
    · have e_32 : (Int32.ofInt (32)).toInt = 32 := rfl
      have dcb9 : (xI h 45 7).toInt = (Int32.ofInt (32)).toInt := congrArg Int32.toInt cb9
      have t10 : XT l 3 60 false 54 153 6051 0 [xf 7 45] [] h 51 [xf 7 45] [xf 7 45] h := XT_path (l := l) (fr := 3) (lo := 60) (full := false) (M := 54) (n := 153) (u := 6051) (pc := 0) (L := [xf 7 45]) (st := []) (h := h) (inl := [39]) (n' := 120) (sp := [51]) (o := [1, 0]) rfl rfl ⟨rfl, rfl, rfl⟩ rfl ⟨Nat.le_of_eq hg.2.2.2.1, Nat.le_of_eq hg.2.2.2.2⟩ ⟨⟨trivial, cb1⟩, cb9⟩
      obtain ⟨r1, c1, e1⟩ := ck_may l Z h hg ks
      rcases e1 with ⟨rfl, mt⟩ | ⟨rfl, mt⟩
      · have t11 : XT l 3 60 false 54 153 6051 51 [xf 7 45] [xf 7 45] h 54 [xf 7 45] [xi (Int32.ofInt (1))] h := XT_call (l := l) (fr := 3) (lo := 60) (full := false) (M := 54) (n := 153) (u := 6051) (pc := 51) (L := [xf 7 45]) (st := [xf 7 45]) (h := h) (i := .invokevirtual 56) (aux := 1) (nx := 54) (K := 56) (vs := [xf 7 45]) (rs := [xi (Int32.ofInt (1))]) (rest := []) rfl rfl rfl rfl rfl rfl c1 (by decide) (by decide) (Nat.le_of_ble_eq_true rfl) ⟨Nat.le_of_eq hg.2.2.2.1, Nat.le_of_eq hg.2.2.2.2⟩
        have t12 := t10.tr t11
        have t13 : XT l 3 60 false 54 153 6051 54 [xf 7 45] [xi (Int32.ofInt (1))] h 58 [xf 7 45] [xf 7 45] h := XT_path (l := l) (fr := 3) (lo := 60) (full := false) (M := 54) (n := 153) (u := 6051) (pc := 54) (L := [xf 7 45]) (st := [xi (Int32.ofInt (1))]) (h := h) (inl := [39]) (n' := 120) (sp := [58]) (o := [0]) rfl rfl ⟨rfl, rfl, rfl⟩ rfl ⟨Nat.le_of_eq hg.2.2.2.1, Nat.le_of_eq hg.2.2.2.2⟩ ⟨trivial, (by decide)⟩
        have t14 := t12.tr t13
        obtain ⟨h1, c1, o1⟩ := ck_cnt24 l h hg f0 r4
        rcases o1 with ⟨cl1, cg, ca⟩ | ⟨cl1, cg, ca, cb⟩
        · have t15 : XT l 3 60 false 54 153 6051 58 [xf 7 45] [xf 7 45] h 61 [xf 7 45] [] h1 := XT_call (l := l) (fr := 3) (lo := 60) (full := false) (M := 54) (n := 153) (u := 6051) (pc := 58) (L := [xf 7 45]) (st := [xf 7 45]) (h := h) (i := .invokevirtual 59) (aux := 1) (nx := 61) (K := 59) (vs := [xf 7 45]) (rs := []) (rest := []) rfl rfl rfl rfl rfl rfl c1 (by decide) (by decide) (Nat.le_of_ble_eq_true rfl) ⟨Nat.le_of_eq cg.1.2.2.2.1, Nat.le_of_eq cg.1.2.2.2.2⟩
          have t16 := t14.tr t15
          have rr1 : xR h1 45 4 = 24 := (cg.2.2 45 4 rfl).trans r4
          have t17 : XT l 3 60 false 54 153 6051 61 [xf 7 45] [] h1 62 [xf 7 45] [xf 7 45] h1 := XT_path (l := l) (fr := 3) (lo := 60) (full := false) (M := 54) (n := 153) (u := 6051) (pc := 61) (L := [xf 7 45]) (st := []) (h := h1) (inl := [39]) (n' := 120) (sp := [62]) (o := []) rfl rfl ⟨rfl, rfl, rfl⟩ rfl ⟨Nat.le_of_eq cg.1.2.2.2.1, Nat.le_of_eq cg.1.2.2.2.2⟩ trivial
          have t18 := t16.tr t17
          obtain ⟨h2, c2, g1, a12, ap, ar⟩ := ck_push l h1 cg.1 (by rw [cg.2.1 45 12 rfl]; omega)
          have t19 : XT l 3 60 false 54 153 6051 62 [xf 7 45] [xf 7 45] h1 65 [xf 7 45] [] h2 := XT_call (l := l) (fr := 3) (lo := 60) (full := false) (M := 54) (n := 153) (u := 6051) (pc := 62) (L := [xf 7 45]) (st := [xf 7 45]) (h := h1) (i := .invokevirtual 55) (aux := 1) (nx := 65) (K := 55) (vs := [xf 7 45]) (rs := []) (rest := []) rfl rfl rfl rfl rfl rfl c2 (by decide) (by decide) (Nat.le_of_ble_eq_true rfl) ⟨Nat.le_of_eq g1.1.2.2.2.1, Nat.le_of_eq g1.1.2.2.2.2⟩
          have t20 := t18.tr t19
          have t21 : XT l 3 60 false 54 153 6051 65 [xf 7 45] [] h2 66 [xf 7 45] [xi (Int32.ofInt (1))] h2 := XT_path (l := l) (fr := 3) (lo := 60) (full := false) (M := 54) (n := 153) (u := 6051) (pc := 65) (L := [xf 7 45]) (st := []) (h := h2) (inl := [39]) (n' := 120) (sp := [66]) (o := []) rfl rfl ⟨rfl, rfl, rfl⟩ rfl ⟨Nat.le_of_eq g1.1.2.2.2.1, Nat.le_of_eq g1.1.2.2.2.2⟩ trivial
          have t22 := t20.tr t21
          have ec : (tkc b n q) = 32 := by rw [← kc]; exact dcb9
          have es := zst_n (c := (tkc b n q)) (v := (tkv b n q)) h13 ec mt (by omega)
          have o1 := g1.2.1
          have o0 := cg.2.1
          rw [o0 45 12 rfl] at a12 ap ar
          rw [o0 45 7 rfl] at ap
          rw [es]
          dsimp only
          refine ⟨_, _, CX_ofT (h' := h2) (by decide) rfl rfl ⟨trivial, (Or.inr rfl)⟩ ⟨_, _, _, rfl, rfl, rfl⟩ rfl ⟨Nat.le_of_eq g1.1.2.2.2.1.symm, Nat.le_of_eq g1.1.2.2.2.2.symm⟩ t22, (vG.tr (W := ([(39, 5, false), (39, 6, false), (40, 0, true), (41, 0, true), (45, 2, false), (45, 3, false), (45, 12, false), (45, 13, false), (47, 0, true)], [])) (a := h) (b := h1) ⟨cg.1, cg.2.mono rfl rfl⟩ ⟨g1.1, g1.2.mono rfl rfl⟩), Or.inl ⟨rfl, ?_, ?_, (Or.inr rfl), ?_, ?_, ?_⟩⟩
          · rw [o1 45 2 rfl, o0 45 2 rfl]; exact f0
          · show (1 : Int) = _; rw [zpush_o (by omega) (by omega), zs_ne (by omega)]; exact h13.symm
          · exact kt.fr (fun k hk => by rcases hk with rfl | rfl | rfl | rfl | rfl | rfl <;> exact (o1 45 _ rfl).trans (o0 45 _ rfl)) (fun k => (o1 46 k rfl).trans (o0 46 k rfl))
          · exact ko.fr ((o1 39 5 rfl).trans (o0 39 5 rfl)) (by rw [o1 39 6 rfl, ca, zpush_o (by omega) (by omega), zs_same]; omega) (fun k => (o1 40 k rfl).trans (o0 40 k rfl)) (fun k => (o1 41 k rfl).trans (o0 41 k rfl)) (by rw [zpush_o (by omega) (by omega), zs_ne (by omega)]) (fun k hk => ⟨by rw [zpush_o (by omega) (by omega), zs_ne (by omega)], by rw [zpush_o (by omega) (by omega), zs_ne (by omega)]⟩)
          · refine ks.push (by omega) a12 ?_ ?_ (fun k hk => ?_) ?_ (fun k hk => ?_)
            · rw [o1 45 13 rfl, o0 45 13 rfl, zpush_o (by omega) (by omega), zs_ne (by omega)]; exact ks2
            · rw [ap, kc, ec, show (700 + (Z 11).toNat) = 700 + (zs Z 6 (Z 6 + 1) 11).toNat from by rw [zs_ne (by omega)]]; exact zpush_t.symm
            · rw [ar k hk]; exact o0 47 k rfl
            · rw [zpush_11, zs_ne (by omega)]
            · rw [zpush_h (by omega) (by rw [zs_ne (by omega)]; omega), zs_ne (by omega)]
        · have t23 : XT l 3 60 false 54 153 6051 58 [xf 7 45] [xf 7 45] h 61 [xf 7 45] [] h1 := XT_call (l := l) (fr := 3) (lo := 60) (full := false) (M := 54) (n := 153) (u := 6051) (pc := 58) (L := [xf 7 45]) (st := [xf 7 45]) (h := h) (i := .invokevirtual 59) (aux := 1) (nx := 61) (K := 59) (vs := [xf 7 45]) (rs := []) (rest := []) rfl rfl rfl rfl rfl rfl c1 (by decide) (by decide) (Nat.le_of_ble_eq_true rfl) ⟨Nat.le_of_eq cg.1.2.2.2.1, Nat.le_of_eq cg.1.2.2.2.2⟩
          have t24 := t14.tr t23
          have rr1 : xR h1 45 4 = 24 := (cg.2.2 45 4 rfl).trans r4
          have t25 : XT l 3 60 false 54 153 6051 61 [xf 7 45] [] h1 62 [xf 7 45] [xf 7 45] h1 := XT_path (l := l) (fr := 3) (lo := 60) (full := false) (M := 54) (n := 153) (u := 6051) (pc := 61) (L := [xf 7 45]) (st := []) (h := h1) (inl := [39]) (n' := 120) (sp := [62]) (o := []) rfl rfl ⟨rfl, rfl, rfl⟩ rfl ⟨Nat.le_of_eq cg.1.2.2.2.1, Nat.le_of_eq cg.1.2.2.2.2⟩ trivial
          have t26 := t24.tr t25
          obtain ⟨h2, c2, g1⟩ := ck_pushA l h1 cg.1
          have t27 : XT l 3 60 false 54 153 6051 62 [xf 7 45] [xf 7 45] h1 65 [xf 7 45] [] h2 := XT_call (l := l) (fr := 3) (lo := 60) (full := false) (M := 54) (n := 153) (u := 6051) (pc := 62) (L := [xf 7 45]) (st := [xf 7 45]) (h := h1) (i := .invokevirtual 55) (aux := 1) (nx := 65) (K := 55) (vs := [xf 7 45]) (rs := []) (rest := []) rfl rfl rfl rfl rfl rfl c2 (by decide) (by decide) (Nat.le_of_ble_eq_true rfl) ⟨Nat.le_of_eq g1.1.2.2.2.1, Nat.le_of_eq g1.1.2.2.2.2⟩
          have t28 := t26.tr t27
          have t29 : XT l 3 60 false 54 153 6051 65 [xf 7 45] [] h2 66 [xf 7 45] [xi (Int32.ofInt (1))] h2 := XT_path (l := l) (fr := 3) (lo := 60) (full := false) (M := 54) (n := 153) (u := 6051) (pc := 65) (L := [xf 7 45]) (st := []) (h := h2) (inl := [39]) (n' := 120) (sp := [66]) (o := []) rfl rfl ⟨rfl, rfl, rfl⟩ rfl ⟨Nat.le_of_eq g1.1.2.2.2.1, Nat.le_of_eq g1.1.2.2.2.2⟩ trivial
          have t30 := t28.tr t29
          have ec : (tkc b n q) = 32 := by rw [← kc]; exact dcb9
          have es := zst_nb (c := (tkc b n q)) (v := (tkv b n q)) h13 ec mt (by omega)
          have o1 := g1.2.1
          have o0 := cg.2.1
          exact ⟨_, _, CX_ofT (h' := h2) (by decide) rfl rfl ⟨trivial, (Or.inr rfl)⟩ ⟨_, _, _, rfl, rfl, rfl⟩ rfl ⟨Nat.le_of_eq g1.1.2.2.2.1.symm, Nat.le_of_eq g1.1.2.2.2.2.symm⟩ t30, (vG.tr (W := ([(39, 5, false), (39, 6, false), (40, 0, true), (41, 0, true), (45, 2, false), (45, 3, false), (45, 12, false), (45, 13, false), (47, 0, true)], [])) (a := h) (b := h1) ⟨cg.1, cg.2.mono rfl rfl⟩ ⟨g1.1, g1.2.mono rfl rfl⟩), Or.inr ⟨by rw [es]; exact (by decide : ¬ (2 : Int) = 0), by rw [es, o1 45 2 rfl]; exact ca, by rw [o1 45 3 rfl, cb]; exact kq, kr.fr (by rw [o1 45 5 rfl, o0 45 5 rfl]) (fun k => by rw [o1 46 k rfl, o0 46 k rfl])⟩⟩
      · have t31 : XT l 3 60 false 54 153 6051 51 [xf 7 45] [xf 7 45] h 54 [xf 7 45] [xi (Int32.ofInt (0))] h := XT_call (l := l) (fr := 3) (lo := 60) (full := false) (M := 54) (n := 153) (u := 6051) (pc := 51) (L := [xf 7 45]) (st := [xf 7 45]) (h := h) (i := .invokevirtual 56) (aux := 1) (nx := 54) (K := 56) (vs := [xf 7 45]) (rs := [xi (Int32.ofInt (0))]) (rest := []) rfl rfl rfl rfl rfl rfl c1 (by decide) (by decide) (Nat.le_of_ble_eq_true rfl) ⟨Nat.le_of_eq hg.2.2.2.1, Nat.le_of_eq hg.2.2.2.2⟩
        have t32 := t10.tr t31
        by_cases cb33 : (xI h 45 7) < (Int32.ofInt (33))
        · have e_33 : (Int32.ofInt (33)).toInt = 33 := rfl
          have dcb33 : (xI h 45 7).toInt < (Int32.ofInt (33)).toInt := Int32.lt_iff_toInt_lt.mp cb33
          have t34 : XT l 3 60 false 54 153 6051 54 [xf 7 45] [xi (Int32.ofInt (0))] h 150 [xf 7 45] [xi (Int32.ofInt (0))] (xsetI (xsetI h 45 2 (Int32.ofInt (1))) 45 3 (xI h 45 8)) := XT_path (l := l) (fr := 3) (lo := 60) (full := false) (M := 54) (n := 153) (u := 6051) (pc := 54) (L := [xf 7 45]) (st := [xi (Int32.ofInt (0))]) (h := h) (inl := [39]) (n' := 120) (sp := [150]) (o := [1, 0, 1, 0]) rfl rfl ⟨rfl, rfl, rfl⟩ rfl ⟨Nat.le_of_eq hg.2.2.2.1, Nat.le_of_eq hg.2.2.2.2⟩ ⟨⟨⟨⟨trivial, rfl⟩, (fun z => absurd (cb9.symm.trans z) (by decide))⟩, cb33⟩, ef⟩
          have t35 := t32.tr t34
          have n5 : ¬ (tkc b n q) = 5 := by omega
          have n32 : ¬ ((tkc b n q) = 32 ∧ ztl Z ≤ 3) := fun z => mt z.2
          have es := zst_1 (c := (tkc b n q)) (v := (tkv b n q)) h13 n5 n32 ⟨by omega, by omega⟩
          have G1 : vG ([(39, 5, false), (39, 6, false), (40, 0, true), (41, 0, true), (45, 2, false), (45, 3, false), (45, 12, false), (45, 13, false), (47, 0, true)], []) h (xsetI (xsetI h 45 2 (Int32.ofInt (1))) 45 3 (xI h 45 8)) := vGf (vG.rf hg) (by decide) rfl rfl rfl
          exact ⟨_, _, CX_ofT (h' := (xsetI (xsetI h 45 2 (Int32.ofInt (1))) 45 3 (xI h 45 8))) (by decide) rfl rfl ⟨trivial, (Or.inl rfl)⟩ ⟨_, _, _, rfl, rfl, rfl⟩ rfl ⟨Nat.le_of_eq hg.2.2.2.1.symm, Nat.le_of_eq hg.2.2.2.2.symm⟩ t35, G1, Or.inr ⟨by rw [es]; exact (by decide : ¬ (1 : Int) = 0), by rw [es, yI_ne (by decide), yI_same]; rfl, by rw [yI_same]; exact kq, kr.fr (by rw [yI_ne (by decide), yI_ne (by decide)]) (fun k => by rw [yI_c (by decide), yI_c (by decide)])⟩⟩
        · have e_33 : (Int32.ofInt (33)).toInt = 33 := rfl
          have dcb33 : (Int32.ofInt (33)).toInt ≤ (xI h 45 7).toInt := Int32.le_iff_toInt_le.mp (Int32.not_lt.mp cb33)
          by_cases cb36 : (xI h 45 7) ≤ (Int32.ofInt (39))
          · have e_39 : (Int32.ofInt (39)).toInt = 39 := rfl
            have dcb36 : (xI h 45 7).toInt ≤ (Int32.ofInt (39)).toInt := Int32.le_iff_toInt_le.mp cb36
            have t37 : XT l 3 60 false 54 153 6051 54 [xf 7 45] [xi (Int32.ofInt (0))] h 128 [xf 7 45] [xf 7 45] h := XT_path (l := l) (fr := 3) (lo := 60) (full := false) (M := 54) (n := 153) (u := 6051) (pc := 54) (L := [xf 7 45]) (st := [xi (Int32.ofInt (0))]) (h := h) (inl := [39]) (n' := 120) (sp := [128]) (o := [1, 0, 0, 1, 1]) rfl rfl ⟨rfl, rfl, rfl⟩ rfl ⟨Nat.le_of_eq hg.2.2.2.1, Nat.le_of_eq hg.2.2.2.2⟩ ⟨⟨⟨⟨⟨trivial, rfl⟩, (fun z => absurd (cb9.symm.trans z) (by decide))⟩, cb33⟩, cb36⟩, (fun z => absurd (cb9.symm.trans z) (by decide))⟩
            have t38 := t32.tr t37
            obtain ⟨h1, c1, o1⟩ := ck_cnt24 l h hg f0 r4
            rcases o1 with ⟨cl1, cg, ca⟩ | ⟨cl1, cg, ca, cb⟩
            · have t39 : XT l 3 60 false 54 153 6051 128 [xf 7 45] [xf 7 45] h 131 [xf 7 45] [] h1 := XT_call (l := l) (fr := 3) (lo := 60) (full := false) (M := 54) (n := 153) (u := 6051) (pc := 128) (L := [xf 7 45]) (st := [xf 7 45]) (h := h) (i := .invokevirtual 59) (aux := 1) (nx := 131) (K := 59) (vs := [xf 7 45]) (rs := []) (rest := []) rfl rfl rfl rfl rfl rfl c1 (by decide) (by decide) (Nat.le_of_ble_eq_true rfl) ⟨Nat.le_of_eq cg.1.2.2.2.1, Nat.le_of_eq cg.1.2.2.2.2⟩
              have t40 := t38.tr t39
              have rr1 : xR h1 45 4 = 24 := (cg.2.2 45 4 rfl).trans r4
              have t41 : XT l 3 60 false 54 153 6051 131 [xf 7 45] [] h1 146 [xf 7 45] [xi (xI h1 45 9), xi (xI h1 45 7), xf 4 (xR h1 (xR h1 45 4) 19)] h1 := XT_path (l := l) (fr := 3) (lo := 60) (full := false) (M := 54) (n := 153) (u := 6051) (pc := 131) (L := [xf 7 45]) (st := []) (h := h1) (inl := [39]) (n' := 120) (sp := [146]) (o := []) rfl rfl ⟨rfl, rfl, rfl⟩ rfl ⟨Nat.le_of_eq cg.1.2.2.2.1, Nat.le_of_eq cg.1.2.2.2.2⟩ ⟨⟨trivial, (show ¬ xR h1 45 4 = 0 from by rw [rr1]; decide)⟩, (show ¬ xR h1 (xR h1 45 4) 19 = 0 from by rw [rr1]; exact vnn cg.1.1 (rfl : vRf 24 19 = [39]) (by decide))⟩
              rw [rr1, vref cg.1.1 (rfl : vRf 24 19 = [39])] at t41
              have t42 := t40.tr t41
              have q5 : xI h1 39 5 = xI h 39 5 := cg.2.1 39 5 rfl
              obtain ⟨h2, c2, g2, a5, ao, av, ar⟩ := ck_add24 l (xI h1 45 7) (xI h1 45 9) h1 cg.1 (by rw [q5]; omega) (by rw [cg.2.1 45 7 rfl]; exact b7)
              have t43 : XT l 3 60 false 54 153 6051 146 [xf 7 45] [xi (xI h1 45 9), xi (xI h1 45 7), xf 4 39] h1 149 [xf 7 45] [] h2 := XT_call (l := l) (fr := 3) (lo := 60) (full := false) (M := 54) (n := 153) (u := 6051) (pc := 146) (L := [xf 7 45]) (st := [xi (xI h1 45 9), xi (xI h1 45 7), xf 4 39]) (h := h1) (i := .invokevirtual 60) (aux := 3) (nx := 149) (K := 60) (vs := [xf 4 39, xi (xI h1 45 7), xi (xI h1 45 9)]) (rs := []) (rest := []) rfl rfl rfl rfl rfl rfl c2 (by decide) (by decide) (Nat.le_of_ble_eq_true rfl) ⟨Nat.le_of_eq g2.1.2.2.2.1, Nat.le_of_eq g2.1.2.2.2.2⟩
              have t44 := t42.tr t43
              have t45 : XT l 3 60 false 54 153 6051 149 [xf 7 45] [] h2 150 [xf 7 45] [xi (Int32.ofInt (0))] h2 := XT_path (l := l) (fr := 3) (lo := 60) (full := false) (M := 54) (n := 153) (u := 6051) (pc := 149) (L := [xf 7 45]) (st := []) (h := h2) (inl := [39]) (n' := 120) (sp := [150]) (o := []) rfl rfl ⟨rfl, rfl, rfl⟩ rfl ⟨Nat.le_of_eq g2.1.2.2.2.1, Nat.le_of_eq g2.1.2.2.2.2⟩ trivial
              have t46 := t44.tr t45
              have n5 : ¬ (tkc b n q) = 5 := by omega
              have n32 : ¬ ((tkc b n q) = 32 ∧ ztl Z ≤ 3) := fun z => mt z.2
              have g2' : (tkc b n q) = 2 ∨ (33 ≤ (tkc b n q) ∧ (tkc b n q) ≤ 39) := by omega
              have h2' : ¬ ((tkc b n q) = 2 ∧ 9999 < (tkv b n q)) := by omega
              have o1 := g2.2.1
              have o0 := cg.2.1
              have es := zst_l (c := (tkc b n q)) (v := (tkv b n q)) h13 g2' h2' (by omega)
              rw [q5, show (xI h 39 5).toInt.toNat = (Z 10).toNat from by rw [ko1]] at ao av ar
              rw [q5] at a5
              rw [es]
              dsimp only
              have lo : ∀ i : Nat, (i < 300 ∧ i ≠ 6 ∧ i ≠ 10 ∧ i ≠ 13 ∧ i ≠ 14) ∨ (700 ≤ i ∧ i < 800) → zleaf Z (tkc b n q) (tkv b n q) i = Z i := fun i hi => by
                unfold zleaf
                rw [zs_ne (by omega), zs_ne (by omega), zs_ne (by omega), zs_ne (by omega), zs_ne (by omega), zs_ne (by omega), zs_ne (by omega), zs_ne (by omega), zs_ne (by omega)]
              refine ⟨_, _, CX_ofT (h' := h2) (by decide) rfl rfl ⟨trivial, (Or.inl rfl)⟩ ⟨_, _, _, rfl, rfl, rfl⟩ rfl ⟨Nat.le_of_eq g2.1.2.2.2.1.symm, Nat.le_of_eq g2.1.2.2.2.2.symm⟩ t46, (vG.tr (W := ([(39, 5, false), (39, 6, false), (40, 0, true), (41, 0, true), (45, 2, false), (45, 3, false), (45, 12, false), (45, 13, false), (47, 0, true)], [])) (a := h) (b := h1) ⟨cg.1, cg.2.mono rfl rfl⟩ ⟨g2.1, g2.2.mono rfl rfl⟩), Or.inl ⟨rfl, ?_, ?_, (Or.inl rfl), ?_, ?_, ?_⟩⟩
              · rw [o1 45 2 rfl, o0 45 2 rfl]; exact f0
              · exact (zs_same (Z := _) (k := 13)).symm
              · exact kt.fr (fun k hk => by rcases hk with rfl | rfl | rfl | rfl | rfl | rfl <;> exact (o1 45 _ rfl).trans (o0 45 _ rfl)) (fun k => (o1 46 k rfl).trans (o0 46 k rfl))
              · refine ko.add (by omega) (by rw [a5, ko1]) ?_ ?_ ?_ (fun k hk => ?_) (fun k hk => ?_) ?_ (fun k hk => ⟨?_, ?_⟩)
                · rw [o1 39 6 rfl, ca]; unfold zleaf; rw [zs_ne (by omega), zs_same]; omega
                · rw [ao, o0 45 7 rfl, kc]; unfold zleaf; rw [zs_ne (by omega), zs_ne (by omega), zs_ne (by omega), zs_ne (by omega), zs_ne (by omega), zs_ne (by omega), zs_ne (by omega), zs_ne (by omega), zs_same]
                · rw [av, o0 45 9 rfl, kv]; unfold zleaf; rw [zs_ne (by omega), zs_ne (by omega), zs_ne (by omega), zs_ne (by omega), zs_ne (by omega), zs_ne (by omega), zs_ne (by omega), zs_same]
                · rw [(ar k hk).1]; exact o0 40 k rfl
                · rw [(ar k hk).2]; exact o0 41 k rfl
                · unfold zleaf; rw [zs_ne (by omega), zs_ne (by omega), zs_ne (by omega), zs_same]
                · unfold zleaf; rw [zs_ne (by omega), zs_ne (by omega), zs_ne (by omega), zs_ne (by omega), zs_ne (by omega), zs_ne (by omega), zs_ne (by omega), zs_ne (by omega), zs_ne (by omega)]
                · unfold zleaf; rw [zs_ne (by omega), zs_ne (by omega), zs_ne (by omega), zs_ne (by omega), zs_ne (by omega), zs_ne (by omega), zs_ne (by omega), zs_ne (by omega), zs_ne (by omega)]
              · exact ks.fr ((o1 45 12 rfl).trans (o0 45 12 rfl)) (by rw [o1 45 13 rfl, o0 45 13 rfl, lo 12 (by omega)]; exact ks2) (fun k => (o1 47 k rfl).trans (o0 47 k rfl)) (lo 11 (by omega)) (fun k hk => lo _ (by omega))
            · have t47 : XT l 3 60 false 54 153 6051 128 [xf 7 45] [xf 7 45] h 131 [xf 7 45] [] h1 := XT_call (l := l) (fr := 3) (lo := 60) (full := false) (M := 54) (n := 153) (u := 6051) (pc := 128) (L := [xf 7 45]) (st := [xf 7 45]) (h := h) (i := .invokevirtual 59) (aux := 1) (nx := 131) (K := 59) (vs := [xf 7 45]) (rs := []) (rest := []) rfl rfl rfl rfl rfl rfl c1 (by decide) (by decide) (Nat.le_of_ble_eq_true rfl) ⟨Nat.le_of_eq cg.1.2.2.2.1, Nat.le_of_eq cg.1.2.2.2.2⟩
              have t48 := t38.tr t47
              have rr1 : xR h1 45 4 = 24 := (cg.2.2 45 4 rfl).trans r4
              have t49 : XT l 3 60 false 54 153 6051 131 [xf 7 45] [] h1 146 [xf 7 45] [xi (xI h1 45 9), xi (xI h1 45 7), xf 4 (xR h1 (xR h1 45 4) 19)] h1 := XT_path (l := l) (fr := 3) (lo := 60) (full := false) (M := 54) (n := 153) (u := 6051) (pc := 131) (L := [xf 7 45]) (st := []) (h := h1) (inl := [39]) (n' := 120) (sp := [146]) (o := []) rfl rfl ⟨rfl, rfl, rfl⟩ rfl ⟨Nat.le_of_eq cg.1.2.2.2.1, Nat.le_of_eq cg.1.2.2.2.2⟩ ⟨⟨trivial, (show ¬ xR h1 45 4 = 0 from by rw [rr1]; decide)⟩, (show ¬ xR h1 (xR h1 45 4) 19 = 0 from by rw [rr1]; exact vnn cg.1.1 (rfl : vRf 24 19 = [39]) (by decide))⟩
              rw [rr1, vref cg.1.1 (rfl : vRf 24 19 = [39])] at t49
              have t50 := t48.tr t49
              obtain ⟨h2, c2, g2⟩ : ∃ h2, CX l 0 0 false 60 [xf 4 39, xi (xI h1 45 7), xi (xI h1 45 9)] h1 [] h2 ∧ vG ([(39, 5, false), (40, 0, true), (41, 0, true)], []) h1 h2 := ck_addA24 l (xI h1 45 7) (xI h1 45 9) h1 cg.1 (by rw [cg.2.1 45 7 rfl]; exact b7)
              have t51 : XT l 3 60 false 54 153 6051 146 [xf 7 45] [xi (xI h1 45 9), xi (xI h1 45 7), xf 4 39] h1 149 [xf 7 45] [] h2 := XT_call (l := l) (fr := 3) (lo := 60) (full := false) (M := 54) (n := 153) (u := 6051) (pc := 146) (L := [xf 7 45]) (st := [xi (xI h1 45 9), xi (xI h1 45 7), xf 4 39]) (h := h1) (i := .invokevirtual 60) (aux := 3) (nx := 149) (K := 60) (vs := [xf 4 39, xi (xI h1 45 7), xi (xI h1 45 9)]) (rs := []) (rest := []) rfl rfl rfl rfl rfl rfl c2 (by decide) (by decide) (Nat.le_of_ble_eq_true rfl) ⟨Nat.le_of_eq g2.1.2.2.2.1, Nat.le_of_eq g2.1.2.2.2.2⟩
              have t52 := t50.tr t51
              have t53 : XT l 3 60 false 54 153 6051 149 [xf 7 45] [] h2 150 [xf 7 45] [xi (Int32.ofInt (0))] h2 := XT_path (l := l) (fr := 3) (lo := 60) (full := false) (M := 54) (n := 153) (u := 6051) (pc := 149) (L := [xf 7 45]) (st := []) (h := h2) (inl := [39]) (n' := 120) (sp := [150]) (o := []) rfl rfl ⟨rfl, rfl, rfl⟩ rfl ⟨Nat.le_of_eq g2.1.2.2.2.1, Nat.le_of_eq g2.1.2.2.2.2⟩ trivial
              have t54 := t52.tr t53
              have n5 : ¬ (tkc b n q) = 5 := by omega
              have n32 : ¬ ((tkc b n q) = 32 ∧ ztl Z ≤ 3) := fun z => mt z.2
              have g2' : (tkc b n q) = 2 ∨ (33 ≤ (tkc b n q) ∧ (tkc b n q) ≤ 39) := by omega
              have h2' : ¬ ((tkc b n q) = 2 ∧ 9999 < (tkv b n q)) := by omega
              have o1 := g2.2.1
              have o0 := cg.2.1
              have es := zst_3 (c := (tkc b n q)) (v := (tkv b n q)) h13 g2' h2' (by omega)
              exact ⟨_, _, CX_ofT (h' := h2) (by decide) rfl rfl ⟨trivial, (Or.inl rfl)⟩ ⟨_, _, _, rfl, rfl, rfl⟩ rfl ⟨Nat.le_of_eq g2.1.2.2.2.1.symm, Nat.le_of_eq g2.1.2.2.2.2.symm⟩ t54, (vG.tr (W := ([(39, 5, false), (39, 6, false), (40, 0, true), (41, 0, true), (45, 2, false), (45, 3, false), (45, 12, false), (45, 13, false), (47, 0, true)], [])) (a := h) (b := h1) ⟨cg.1, cg.2.mono rfl rfl⟩ ⟨g2.1, g2.2.mono rfl rfl⟩), Or.inr ⟨by rw [es]; exact (by decide : ¬ (2 : Int) = 0), by rw [es, o1 45 2 rfl]; exact ca, by rw [o1 45 3 rfl, cb]; exact kq, kr.fr (by rw [o1 45 5 rfl, o0 45 5 rfl]) (fun k => by rw [o1 46 k rfl, o0 46 k rfl])⟩⟩
          · have e_39 : (Int32.ofInt (39)).toInt = 39 := rfl
            have dcb36 : (Int32.ofInt (39)).toInt < (xI h 45 7).toInt := Int32.lt_iff_toInt_lt.mp (Int32.not_le.mp cb36)
            have t55 : XT l 3 60 false 54 153 6051 54 [xf 7 45] [xi (Int32.ofInt (0))] h 150 [xf 7 45] [xi (Int32.ofInt (0))] (xsetI (xsetI h 45 2 (Int32.ofInt (1))) 45 3 (xI h 45 8)) := XT_path (l := l) (fr := 3) (lo := 60) (full := false) (M := 54) (n := 153) (u := 6051) (pc := 54) (L := [xf 7 45]) (st := [xi (Int32.ofInt (0))]) (h := h) (inl := [39]) (n' := 120) (sp := [150]) (o := [1, 0, 0, 0, 0]) rfl rfl ⟨rfl, rfl, rfl⟩ rfl ⟨Nat.le_of_eq hg.2.2.2.1, Nat.le_of_eq hg.2.2.2.2⟩ ⟨⟨⟨⟨⟨trivial, rfl⟩, (fun z => absurd (cb9.symm.trans z) (by decide))⟩, cb33⟩, cb36⟩, ef⟩
            have t56 := t32.tr t55
            have n5 : ¬ (tkc b n q) = 5 := by omega
            have n32 : ¬ ((tkc b n q) = 32 ∧ ztl Z ≤ 3) := fun z => mt z.2
            have es := zst_1 (c := (tkc b n q)) (v := (tkv b n q)) h13 n5 n32 ⟨by omega, by omega⟩
            have G1 : vG ([(39, 5, false), (39, 6, false), (40, 0, true), (41, 0, true), (45, 2, false), (45, 3, false), (45, 12, false), (45, 13, false), (47, 0, true)], []) h (xsetI (xsetI h 45 2 (Int32.ofInt (1))) 45 3 (xI h 45 8)) := vGf (vG.rf hg) (by decide) rfl rfl rfl
            exact ⟨_, _, CX_ofT (h' := (xsetI (xsetI h 45 2 (Int32.ofInt (1))) 45 3 (xI h 45 8))) (by decide) rfl rfl ⟨trivial, (Or.inl rfl)⟩ ⟨_, _, _, rfl, rfl, rfl⟩ rfl ⟨Nat.le_of_eq hg.2.2.2.1.symm, Nat.le_of_eq hg.2.2.2.2.symm⟩ t56, G1, Or.inr ⟨by rw [es]; exact (by decide : ¬ (1 : Int) = 0), by rw [es, yI_ne (by decide), yI_same]; rfl, by rw [yI_same]; exact kq, kr.fr (by rw [yI_ne (by decide), yI_ne (by decide)]) (fun k => by rw [yI_c (by decide), yI_c (by decide)])⟩⟩
    · have e_32 : (Int32.ofInt (32)).toInt = 32 := rfl
      have dcb9 : ¬ (xI h 45 7).toInt = (Int32.ofInt (32)).toInt := fun z_ => cb9 (Int32.toInt_inj.mp z_)
      by_cases cb57 : (xI h 45 7) = (Int32.ofInt (2))
      · have e_2 : (Int32.ofInt (2)).toInt = 2 := rfl
        have dcb57 : (xI h 45 7).toInt = (Int32.ofInt (2)).toInt := congrArg Int32.toInt cb57
        by_cases cb58 : (xI h 45 9) ≤ (Int32.ofInt (9999))
        · have e_9999 : (Int32.ofInt (9999)).toInt = 9999 := rfl
          have dcb58 : (xI h 45 9).toInt ≤ (Int32.ofInt (9999)).toInt := Int32.le_iff_toInt_le.mp cb58
          have t59 : XT l 3 60 false 54 153 6051 0 [xf 7 45] [] h 128 [xf 7 45] [xf 7 45] h := XT_path (l := l) (fr := 3) (lo := 60) (full := false) (M := 54) (n := 153) (u := 6051) (pc := 0) (L := [xf 7 45]) (st := []) (h := h) (inl := [39]) (n' := 120) (sp := [128]) (o := [1, 1, 1, 0, 1]) rfl rfl ⟨rfl, rfl, rfl⟩ rfl ⟨Nat.le_of_eq hg.2.2.2.1, Nat.le_of_eq hg.2.2.2.2⟩ ⟨⟨⟨⟨⟨trivial, cb1⟩, cb9⟩, cb57⟩, cb57⟩, cb58⟩
          obtain ⟨h1, c1, o1⟩ := ck_cnt24 l h hg f0 r4
          rcases o1 with ⟨cl1, cg, ca⟩ | ⟨cl1, cg, ca, cb⟩
          · have t60 : XT l 3 60 false 54 153 6051 128 [xf 7 45] [xf 7 45] h 131 [xf 7 45] [] h1 := XT_call (l := l) (fr := 3) (lo := 60) (full := false) (M := 54) (n := 153) (u := 6051) (pc := 128) (L := [xf 7 45]) (st := [xf 7 45]) (h := h) (i := .invokevirtual 59) (aux := 1) (nx := 131) (K := 59) (vs := [xf 7 45]) (rs := []) (rest := []) rfl rfl rfl rfl rfl rfl c1 (by decide) (by decide) (Nat.le_of_ble_eq_true rfl) ⟨Nat.le_of_eq cg.1.2.2.2.1, Nat.le_of_eq cg.1.2.2.2.2⟩
            have t61 := t59.tr t60
            have rr1 : xR h1 45 4 = 24 := (cg.2.2 45 4 rfl).trans r4
            have t62 : XT l 3 60 false 54 153 6051 131 [xf 7 45] [] h1 146 [xf 7 45] [xi (xI h1 45 9), xi (xI h1 45 7), xf 4 (xR h1 (xR h1 45 4) 19)] h1 := XT_path (l := l) (fr := 3) (lo := 60) (full := false) (M := 54) (n := 153) (u := 6051) (pc := 131) (L := [xf 7 45]) (st := []) (h := h1) (inl := [39]) (n' := 120) (sp := [146]) (o := []) rfl rfl ⟨rfl, rfl, rfl⟩ rfl ⟨Nat.le_of_eq cg.1.2.2.2.1, Nat.le_of_eq cg.1.2.2.2.2⟩ ⟨⟨trivial, (show ¬ xR h1 45 4 = 0 from by rw [rr1]; decide)⟩, (show ¬ xR h1 (xR h1 45 4) 19 = 0 from by rw [rr1]; exact vnn cg.1.1 (rfl : vRf 24 19 = [39]) (by decide))⟩
            rw [rr1, vref cg.1.1 (rfl : vRf 24 19 = [39])] at t62
            have t63 := t61.tr t62
            have q5 : xI h1 39 5 = xI h 39 5 := cg.2.1 39 5 rfl
            obtain ⟨h2, c2, g2, a5, ao, av, ar⟩ := ck_add24 l (xI h1 45 7) (xI h1 45 9) h1 cg.1 (by rw [q5]; omega) (by rw [cg.2.1 45 7 rfl]; exact b7)
            have t64 : XT l 3 60 false 54 153 6051 146 [xf 7 45] [xi (xI h1 45 9), xi (xI h1 45 7), xf 4 39] h1 149 [xf 7 45] [] h2 := XT_call (l := l) (fr := 3) (lo := 60) (full := false) (M := 54) (n := 153) (u := 6051) (pc := 146) (L := [xf 7 45]) (st := [xi (xI h1 45 9), xi (xI h1 45 7), xf 4 39]) (h := h1) (i := .invokevirtual 60) (aux := 3) (nx := 149) (K := 60) (vs := [xf 4 39, xi (xI h1 45 7), xi (xI h1 45 9)]) (rs := []) (rest := []) rfl rfl rfl rfl rfl rfl c2 (by decide) (by decide) (Nat.le_of_ble_eq_true rfl) ⟨Nat.le_of_eq g2.1.2.2.2.1, Nat.le_of_eq g2.1.2.2.2.2⟩
            have t65 := t63.tr t64
            have t66 : XT l 3 60 false 54 153 6051 149 [xf 7 45] [] h2 150 [xf 7 45] [xi (Int32.ofInt (0))] h2 := XT_path (l := l) (fr := 3) (lo := 60) (full := false) (M := 54) (n := 153) (u := 6051) (pc := 149) (L := [xf 7 45]) (st := []) (h := h2) (inl := [39]) (n' := 120) (sp := [150]) (o := []) rfl rfl ⟨rfl, rfl, rfl⟩ rfl ⟨Nat.le_of_eq g2.1.2.2.2.1, Nat.le_of_eq g2.1.2.2.2.2⟩ trivial
            have t67 := t65.tr t66
            have n5 : ¬ (tkc b n q) = 5 := by omega
            have n32 : ¬ ((tkc b n q) = 32 ∧ ztl Z ≤ 3) := fun z => by omega
            have g2' : (tkc b n q) = 2 ∨ (33 ≤ (tkc b n q) ∧ (tkc b n q) ≤ 39) := by omega
            have h2' : ¬ ((tkc b n q) = 2 ∧ 9999 < (tkv b n q)) := by omega
            have o1 := g2.2.1
            have o0 := cg.2.1
            have es := zst_l (c := (tkc b n q)) (v := (tkv b n q)) h13 g2' h2' (by omega)
            rw [q5, show (xI h 39 5).toInt.toNat = (Z 10).toNat from by rw [ko1]] at ao av ar
            rw [q5] at a5
            rw [es]
            dsimp only
            have lo : ∀ i : Nat, (i < 300 ∧ i ≠ 6 ∧ i ≠ 10 ∧ i ≠ 13 ∧ i ≠ 14) ∨ (700 ≤ i ∧ i < 800) → zleaf Z (tkc b n q) (tkv b n q) i = Z i := fun i hi => by
              unfold zleaf
              rw [zs_ne (by omega), zs_ne (by omega), zs_ne (by omega), zs_ne (by omega), zs_ne (by omega), zs_ne (by omega), zs_ne (by omega), zs_ne (by omega), zs_ne (by omega)]
            refine ⟨_, _, CX_ofT (h' := h2) (by decide) rfl rfl ⟨trivial, (Or.inl rfl)⟩ ⟨_, _, _, rfl, rfl, rfl⟩ rfl ⟨Nat.le_of_eq g2.1.2.2.2.1.symm, Nat.le_of_eq g2.1.2.2.2.2.symm⟩ t67, (vG.tr (W := ([(39, 5, false), (39, 6, false), (40, 0, true), (41, 0, true), (45, 2, false), (45, 3, false), (45, 12, false), (45, 13, false), (47, 0, true)], [])) (a := h) (b := h1) ⟨cg.1, cg.2.mono rfl rfl⟩ ⟨g2.1, g2.2.mono rfl rfl⟩), Or.inl ⟨rfl, ?_, ?_, (Or.inl rfl), ?_, ?_, ?_⟩⟩
            · rw [o1 45 2 rfl, o0 45 2 rfl]; exact f0
            · exact (zs_same (Z := _) (k := 13)).symm
            · exact kt.fr (fun k hk => by rcases hk with rfl | rfl | rfl | rfl | rfl | rfl <;> exact (o1 45 _ rfl).trans (o0 45 _ rfl)) (fun k => (o1 46 k rfl).trans (o0 46 k rfl))
            · refine ko.add (by omega) (by rw [a5, ko1]) ?_ ?_ ?_ (fun k hk => ?_) (fun k hk => ?_) ?_ (fun k hk => ⟨?_, ?_⟩)
              · rw [o1 39 6 rfl, ca]; unfold zleaf; rw [zs_ne (by omega), zs_same]; omega
              · rw [ao, o0 45 7 rfl, kc]; unfold zleaf; rw [zs_ne (by omega), zs_ne (by omega), zs_ne (by omega), zs_ne (by omega), zs_ne (by omega), zs_ne (by omega), zs_ne (by omega), zs_ne (by omega), zs_same]
              · rw [av, o0 45 9 rfl, kv]; unfold zleaf; rw [zs_ne (by omega), zs_ne (by omega), zs_ne (by omega), zs_ne (by omega), zs_ne (by omega), zs_ne (by omega), zs_ne (by omega), zs_same]
              · rw [(ar k hk).1]; exact o0 40 k rfl
              · rw [(ar k hk).2]; exact o0 41 k rfl
              · unfold zleaf; rw [zs_ne (by omega), zs_ne (by omega), zs_ne (by omega), zs_same]
              · unfold zleaf; rw [zs_ne (by omega), zs_ne (by omega), zs_ne (by omega), zs_ne (by omega), zs_ne (by omega), zs_ne (by omega), zs_ne (by omega), zs_ne (by omega), zs_ne (by omega)]
              · unfold zleaf; rw [zs_ne (by omega), zs_ne (by omega), zs_ne (by omega), zs_ne (by omega), zs_ne (by omega), zs_ne (by omega), zs_ne (by omega), zs_ne (by omega), zs_ne (by omega)]
            · exact ks.fr ((o1 45 12 rfl).trans (o0 45 12 rfl)) (by rw [o1 45 13 rfl, o0 45 13 rfl, lo 12 (by omega)]; exact ks2) (fun k => (o1 47 k rfl).trans (o0 47 k rfl)) (lo 11 (by omega)) (fun k hk => lo _ (by omega))
          · have t68 : XT l 3 60 false 54 153 6051 128 [xf 7 45] [xf 7 45] h 131 [xf 7 45] [] h1 := XT_call (l := l) (fr := 3) (lo := 60) (full := false) (M := 54) (n := 153) (u := 6051) (pc := 128) (L := [xf 7 45]) (st := [xf 7 45]) (h := h) (i := .invokevirtual 59) (aux := 1) (nx := 131) (K := 59) (vs := [xf 7 45]) (rs := []) (rest := []) rfl rfl rfl rfl rfl rfl c1 (by decide) (by decide) (Nat.le_of_ble_eq_true rfl) ⟨Nat.le_of_eq cg.1.2.2.2.1, Nat.le_of_eq cg.1.2.2.2.2⟩
            have t69 := t59.tr t68
            have rr1 : xR h1 45 4 = 24 := (cg.2.2 45 4 rfl).trans r4
            have t70 : XT l 3 60 false 54 153 6051 131 [xf 7 45] [] h1 146 [xf 7 45] [xi (xI h1 45 9), xi (xI h1 45 7), xf 4 (xR h1 (xR h1 45 4) 19)] h1 := XT_path (l := l) (fr := 3) (lo := 60) (full := false) (M := 54) (n := 153) (u := 6051) (pc := 131) (L := [xf 7 45]) (st := []) (h := h1) (inl := [39]) (n' := 120) (sp := [146]) (o := []) rfl rfl ⟨rfl, rfl, rfl⟩ rfl ⟨Nat.le_of_eq cg.1.2.2.2.1, Nat.le_of_eq cg.1.2.2.2.2⟩ ⟨⟨trivial, (show ¬ xR h1 45 4 = 0 from by rw [rr1]; decide)⟩, (show ¬ xR h1 (xR h1 45 4) 19 = 0 from by rw [rr1]; exact vnn cg.1.1 (rfl : vRf 24 19 = [39]) (by decide))⟩
            rw [rr1, vref cg.1.1 (rfl : vRf 24 19 = [39])] at t70
            have t71 := t69.tr t70
            obtain ⟨h2, c2, g2⟩ : ∃ h2, CX l 0 0 false 60 [xf 4 39, xi (xI h1 45 7), xi (xI h1 45 9)] h1 [] h2 ∧ vG ([(39, 5, false), (40, 0, true), (41, 0, true)], []) h1 h2 := ck_addA24 l (xI h1 45 7) (xI h1 45 9) h1 cg.1 (by rw [cg.2.1 45 7 rfl]; exact b7)
            have t72 : XT l 3 60 false 54 153 6051 146 [xf 7 45] [xi (xI h1 45 9), xi (xI h1 45 7), xf 4 39] h1 149 [xf 7 45] [] h2 := XT_call (l := l) (fr := 3) (lo := 60) (full := false) (M := 54) (n := 153) (u := 6051) (pc := 146) (L := [xf 7 45]) (st := [xi (xI h1 45 9), xi (xI h1 45 7), xf 4 39]) (h := h1) (i := .invokevirtual 60) (aux := 3) (nx := 149) (K := 60) (vs := [xf 4 39, xi (xI h1 45 7), xi (xI h1 45 9)]) (rs := []) (rest := []) rfl rfl rfl rfl rfl rfl c2 (by decide) (by decide) (Nat.le_of_ble_eq_true rfl) ⟨Nat.le_of_eq g2.1.2.2.2.1, Nat.le_of_eq g2.1.2.2.2.2⟩
            have t73 := t71.tr t72
            have t74 : XT l 3 60 false 54 153 6051 149 [xf 7 45] [] h2 150 [xf 7 45] [xi (Int32.ofInt (0))] h2 := XT_path (l := l) (fr := 3) (lo := 60) (full := false) (M := 54) (n := 153) (u := 6051) (pc := 149) (L := [xf 7 45]) (st := []) (h := h2) (inl := [39]) (n' := 120) (sp := [150]) (o := []) rfl rfl ⟨rfl, rfl, rfl⟩ rfl ⟨Nat.le_of_eq g2.1.2.2.2.1, Nat.le_of_eq g2.1.2.2.2.2⟩ trivial
            have t75 := t73.tr t74
            have n5 : ¬ (tkc b n q) = 5 := by omega
            have n32 : ¬ ((tkc b n q) = 32 ∧ ztl Z ≤ 3) := fun z => by omega
            have g2' : (tkc b n q) = 2 ∨ (33 ≤ (tkc b n q) ∧ (tkc b n q) ≤ 39) := by omega
            have h2' : ¬ ((tkc b n q) = 2 ∧ 9999 < (tkv b n q)) := by omega
            have o1 := g2.2.1
            have o0 := cg.2.1
            have es := zst_3 (c := (tkc b n q)) (v := (tkv b n q)) h13 g2' h2' (by omega)
            exact ⟨_, _, CX_ofT (h' := h2) (by decide) rfl rfl ⟨trivial, (Or.inl rfl)⟩ ⟨_, _, _, rfl, rfl, rfl⟩ rfl ⟨Nat.le_of_eq g2.1.2.2.2.1.symm, Nat.le_of_eq g2.1.2.2.2.2.symm⟩ t75, (vG.tr (W := ([(39, 5, false), (39, 6, false), (40, 0, true), (41, 0, true), (45, 2, false), (45, 3, false), (45, 12, false), (45, 13, false), (47, 0, true)], [])) (a := h) (b := h1) ⟨cg.1, cg.2.mono rfl rfl⟩ ⟨g2.1, g2.2.mono rfl rfl⟩), Or.inr ⟨by rw [es]; exact (by decide : ¬ (2 : Int) = 0), by rw [es, o1 45 2 rfl]; exact ca, by rw [o1 45 3 rfl, cb]; exact kq, kr.fr (by rw [o1 45 5 rfl, o0 45 5 rfl]) (fun k => by rw [o1 46 k rfl, o0 46 k rfl])⟩⟩
        · have e_9999 : (Int32.ofInt (9999)).toInt = 9999 := rfl
          have dcb58 : (Int32.ofInt (9999)).toInt < (xI h 45 9).toInt := Int32.lt_iff_toInt_lt.mp (Int32.not_le.mp cb58)
          have t76 : XT l 3 60 false 54 153 6051 0 [xf 7 45] [] h 150 [xf 7 45] [xi (Int32.ofInt (0))] (xsetI (xsetI h 45 2 (Int32.ofInt (2))) 45 3 (xI h 45 8)) := XT_path (l := l) (fr := 3) (lo := 60) (full := false) (M := 54) (n := 153) (u := 6051) (pc := 0) (L := [xf 7 45]) (st := []) (h := h) (inl := [39]) (n' := 120) (sp := [150]) (o := [1, 1, 1, 0, 0, 0]) rfl rfl ⟨rfl, rfl, rfl⟩ rfl ⟨Nat.le_of_eq hg.2.2.2.1, Nat.le_of_eq hg.2.2.2.2⟩ ⟨⟨⟨⟨⟨⟨trivial, cb1⟩, cb9⟩, cb57⟩, cb57⟩, cb58⟩, ef⟩
          have n5 : ¬ (tkc b n q) = 5 := by omega
          have n32 : ¬ ((tkc b n q) = 32 ∧ ztl Z ≤ 3) := fun z => by omega
          have es := zst_2 (c := (tkc b n q)) (v := (tkv b n q)) h13 ⟨by omega, by omega⟩
          have G1 : vG ([(39, 5, false), (39, 6, false), (40, 0, true), (41, 0, true), (45, 2, false), (45, 3, false), (45, 12, false), (45, 13, false), (47, 0, true)], []) h (xsetI (xsetI h 45 2 (Int32.ofInt (2))) 45 3 (xI h 45 8)) := vGf (vG.rf hg) (by decide) rfl rfl rfl
          exact ⟨_, _, CX_ofT (h' := (xsetI (xsetI h 45 2 (Int32.ofInt (2))) 45 3 (xI h 45 8))) (by decide) rfl rfl ⟨trivial, (Or.inl rfl)⟩ ⟨_, _, _, rfl, rfl, rfl⟩ rfl ⟨Nat.le_of_eq hg.2.2.2.1.symm, Nat.le_of_eq hg.2.2.2.2.symm⟩ t76, G1, Or.inr ⟨by rw [es]; exact (by decide : ¬ (2 : Int) = 0), by rw [es, yI_ne (by decide), yI_same]; rfl, by rw [yI_same]; exact kq, kr.fr (by rw [yI_ne (by decide), yI_ne (by decide)]) (fun k => by rw [yI_c (by decide), yI_c (by decide)])⟩⟩
      · have e_2 : (Int32.ofInt (2)).toInt = 2 := rfl
        have dcb57 : ¬ (xI h 45 7).toInt = (Int32.ofInt (2)).toInt := fun z_ => cb57 (Int32.toInt_inj.mp z_)
        by_cases cb77 : (xI h 45 7) < (Int32.ofInt (33))
        · have e_33 : (Int32.ofInt (33)).toInt = 33 := rfl
          have dcb77 : (xI h 45 7).toInt < (Int32.ofInt (33)).toInt := Int32.lt_iff_toInt_lt.mp cb77
          have t78 : XT l 3 60 false 54 153 6051 0 [xf 7 45] [] h 150 [xf 7 45] [xi (Int32.ofInt (0))] (xsetI (xsetI h 45 2 (Int32.ofInt (1))) 45 3 (xI h 45 8)) := XT_path (l := l) (fr := 3) (lo := 60) (full := false) (M := 54) (n := 153) (u := 6051) (pc := 0) (L := [xf 7 45]) (st := []) (h := h) (inl := [39]) (n' := 120) (sp := [150]) (o := [1, 1, 0, 1, 0]) rfl rfl ⟨rfl, rfl, rfl⟩ rfl ⟨Nat.le_of_eq hg.2.2.2.1, Nat.le_of_eq hg.2.2.2.2⟩ ⟨⟨⟨⟨⟨trivial, cb1⟩, cb9⟩, cb57⟩, cb77⟩, ef⟩
          have n5 : ¬ (tkc b n q) = 5 := by omega
          have n32 : ¬ ((tkc b n q) = 32 ∧ ztl Z ≤ 3) := fun z => by omega
          have es := zst_1 (c := (tkc b n q)) (v := (tkv b n q)) h13 n5 n32 ⟨by omega, by omega⟩
          have G1 : vG ([(39, 5, false), (39, 6, false), (40, 0, true), (41, 0, true), (45, 2, false), (45, 3, false), (45, 12, false), (45, 13, false), (47, 0, true)], []) h (xsetI (xsetI h 45 2 (Int32.ofInt (1))) 45 3 (xI h 45 8)) := vGf (vG.rf hg) (by decide) rfl rfl rfl
          exact ⟨_, _, CX_ofT (h' := (xsetI (xsetI h 45 2 (Int32.ofInt (1))) 45 3 (xI h 45 8))) (by decide) rfl rfl ⟨trivial, (Or.inl rfl)⟩ ⟨_, _, _, rfl, rfl, rfl⟩ rfl ⟨Nat.le_of_eq hg.2.2.2.1.symm, Nat.le_of_eq hg.2.2.2.2.symm⟩ t78, G1, Or.inr ⟨by rw [es]; exact (by decide : ¬ (1 : Int) = 0), by rw [es, yI_ne (by decide), yI_same]; rfl, by rw [yI_same]; exact kq, kr.fr (by rw [yI_ne (by decide), yI_ne (by decide)]) (fun k => by rw [yI_c (by decide), yI_c (by decide)])⟩⟩
        · have e_33 : (Int32.ofInt (33)).toInt = 33 := rfl
          have dcb77 : (Int32.ofInt (33)).toInt ≤ (xI h 45 7).toInt := Int32.le_iff_toInt_le.mp (Int32.not_lt.mp cb77)
          by_cases cb79 : (xI h 45 7) ≤ (Int32.ofInt (39))
          · have e_39 : (Int32.ofInt (39)).toInt = 39 := rfl
            have dcb79 : (xI h 45 7).toInt ≤ (Int32.ofInt (39)).toInt := Int32.le_iff_toInt_le.mp cb79
            have t80 : XT l 3 60 false 54 153 6051 0 [xf 7 45] [] h 128 [xf 7 45] [xf 7 45] h := XT_path (l := l) (fr := 3) (lo := 60) (full := false) (M := 54) (n := 153) (u := 6051) (pc := 0) (L := [xf 7 45]) (st := []) (h := h) (inl := [39]) (n' := 120) (sp := [128]) (o := [1, 1, 0, 0, 1, 1]) rfl rfl ⟨rfl, rfl, rfl⟩ rfl ⟨Nat.le_of_eq hg.2.2.2.1, Nat.le_of_eq hg.2.2.2.2⟩ ⟨⟨⟨⟨⟨⟨trivial, cb1⟩, cb9⟩, cb57⟩, cb77⟩, cb79⟩, cb57⟩
            obtain ⟨h1, c1, o1⟩ := ck_cnt24 l h hg f0 r4
            rcases o1 with ⟨cl1, cg, ca⟩ | ⟨cl1, cg, ca, cb⟩
            · have t81 : XT l 3 60 false 54 153 6051 128 [xf 7 45] [xf 7 45] h 131 [xf 7 45] [] h1 := XT_call (l := l) (fr := 3) (lo := 60) (full := false) (M := 54) (n := 153) (u := 6051) (pc := 128) (L := [xf 7 45]) (st := [xf 7 45]) (h := h) (i := .invokevirtual 59) (aux := 1) (nx := 131) (K := 59) (vs := [xf 7 45]) (rs := []) (rest := []) rfl rfl rfl rfl rfl rfl c1 (by decide) (by decide) (Nat.le_of_ble_eq_true rfl) ⟨Nat.le_of_eq cg.1.2.2.2.1, Nat.le_of_eq cg.1.2.2.2.2⟩
              have t82 := t80.tr t81
              have rr1 : xR h1 45 4 = 24 := (cg.2.2 45 4 rfl).trans r4
              have t83 : XT l 3 60 false 54 153 6051 131 [xf 7 45] [] h1 146 [xf 7 45] [xi (xI h1 45 9), xi (xI h1 45 7), xf 4 (xR h1 (xR h1 45 4) 19)] h1 := XT_path (l := l) (fr := 3) (lo := 60) (full := false) (M := 54) (n := 153) (u := 6051) (pc := 131) (L := [xf 7 45]) (st := []) (h := h1) (inl := [39]) (n' := 120) (sp := [146]) (o := []) rfl rfl ⟨rfl, rfl, rfl⟩ rfl ⟨Nat.le_of_eq cg.1.2.2.2.1, Nat.le_of_eq cg.1.2.2.2.2⟩ ⟨⟨trivial, (show ¬ xR h1 45 4 = 0 from by rw [rr1]; decide)⟩, (show ¬ xR h1 (xR h1 45 4) 19 = 0 from by rw [rr1]; exact vnn cg.1.1 (rfl : vRf 24 19 = [39]) (by decide))⟩
              rw [rr1, vref cg.1.1 (rfl : vRf 24 19 = [39])] at t83
              have t84 := t82.tr t83
              have q5 : xI h1 39 5 = xI h 39 5 := cg.2.1 39 5 rfl
              obtain ⟨h2, c2, g2, a5, ao, av, ar⟩ := ck_add24 l (xI h1 45 7) (xI h1 45 9) h1 cg.1 (by rw [q5]; omega) (by rw [cg.2.1 45 7 rfl]; exact b7)
              have t85 : XT l 3 60 false 54 153 6051 146 [xf 7 45] [xi (xI h1 45 9), xi (xI h1 45 7), xf 4 39] h1 149 [xf 7 45] [] h2 := XT_call (l := l) (fr := 3) (lo := 60) (full := false) (M := 54) (n := 153) (u := 6051) (pc := 146) (L := [xf 7 45]) (st := [xi (xI h1 45 9), xi (xI h1 45 7), xf 4 39]) (h := h1) (i := .invokevirtual 60) (aux := 3) (nx := 149) (K := 60) (vs := [xf 4 39, xi (xI h1 45 7), xi (xI h1 45 9)]) (rs := []) (rest := []) rfl rfl rfl rfl rfl rfl c2 (by decide) (by decide) (Nat.le_of_ble_eq_true rfl) ⟨Nat.le_of_eq g2.1.2.2.2.1, Nat.le_of_eq g2.1.2.2.2.2⟩
              have t86 := t84.tr t85
              have t87 : XT l 3 60 false 54 153 6051 149 [xf 7 45] [] h2 150 [xf 7 45] [xi (Int32.ofInt (0))] h2 := XT_path (l := l) (fr := 3) (lo := 60) (full := false) (M := 54) (n := 153) (u := 6051) (pc := 149) (L := [xf 7 45]) (st := []) (h := h2) (inl := [39]) (n' := 120) (sp := [150]) (o := []) rfl rfl ⟨rfl, rfl, rfl⟩ rfl ⟨Nat.le_of_eq g2.1.2.2.2.1, Nat.le_of_eq g2.1.2.2.2.2⟩ trivial
              have t88 := t86.tr t87
              have n5 : ¬ (tkc b n q) = 5 := by omega
              have n32 : ¬ ((tkc b n q) = 32 ∧ ztl Z ≤ 3) := fun z => by omega
              have g2' : (tkc b n q) = 2 ∨ (33 ≤ (tkc b n q) ∧ (tkc b n q) ≤ 39) := by omega
              have h2' : ¬ ((tkc b n q) = 2 ∧ 9999 < (tkv b n q)) := by omega
              have o1 := g2.2.1
              have o0 := cg.2.1
              have es := zst_l (c := (tkc b n q)) (v := (tkv b n q)) h13 g2' h2' (by omega)
              rw [q5, show (xI h 39 5).toInt.toNat = (Z 10).toNat from by rw [ko1]] at ao av ar
              rw [q5] at a5
              rw [es]
              dsimp only
              have lo : ∀ i : Nat, (i < 300 ∧ i ≠ 6 ∧ i ≠ 10 ∧ i ≠ 13 ∧ i ≠ 14) ∨ (700 ≤ i ∧ i < 800) → zleaf Z (tkc b n q) (tkv b n q) i = Z i := fun i hi => by
                unfold zleaf
                rw [zs_ne (by omega), zs_ne (by omega), zs_ne (by omega), zs_ne (by omega), zs_ne (by omega), zs_ne (by omega), zs_ne (by omega), zs_ne (by omega), zs_ne (by omega)]
              refine ⟨_, _, CX_ofT (h' := h2) (by decide) rfl rfl ⟨trivial, (Or.inl rfl)⟩ ⟨_, _, _, rfl, rfl, rfl⟩ rfl ⟨Nat.le_of_eq g2.1.2.2.2.1.symm, Nat.le_of_eq g2.1.2.2.2.2.symm⟩ t88, (vG.tr (W := ([(39, 5, false), (39, 6, false), (40, 0, true), (41, 0, true), (45, 2, false), (45, 3, false), (45, 12, false), (45, 13, false), (47, 0, true)], [])) (a := h) (b := h1) ⟨cg.1, cg.2.mono rfl rfl⟩ ⟨g2.1, g2.2.mono rfl rfl⟩), Or.inl ⟨rfl, ?_, ?_, (Or.inl rfl), ?_, ?_, ?_⟩⟩
              · rw [o1 45 2 rfl, o0 45 2 rfl]; exact f0
              · exact (zs_same (Z := _) (k := 13)).symm
              · exact kt.fr (fun k hk => by rcases hk with rfl | rfl | rfl | rfl | rfl | rfl <;> exact (o1 45 _ rfl).trans (o0 45 _ rfl)) (fun k => (o1 46 k rfl).trans (o0 46 k rfl))
              · refine ko.add (by omega) (by rw [a5, ko1]) ?_ ?_ ?_ (fun k hk => ?_) (fun k hk => ?_) ?_ (fun k hk => ⟨?_, ?_⟩)
                · rw [o1 39 6 rfl, ca]; unfold zleaf; rw [zs_ne (by omega), zs_same]; omega
                · rw [ao, o0 45 7 rfl, kc]; unfold zleaf; rw [zs_ne (by omega), zs_ne (by omega), zs_ne (by omega), zs_ne (by omega), zs_ne (by omega), zs_ne (by omega), zs_ne (by omega), zs_ne (by omega), zs_same]
                · rw [av, o0 45 9 rfl, kv]; unfold zleaf; rw [zs_ne (by omega), zs_ne (by omega), zs_ne (by omega), zs_ne (by omega), zs_ne (by omega), zs_ne (by omega), zs_ne (by omega), zs_same]
                · rw [(ar k hk).1]; exact o0 40 k rfl
                · rw [(ar k hk).2]; exact o0 41 k rfl
                · unfold zleaf; rw [zs_ne (by omega), zs_ne (by omega), zs_ne (by omega), zs_same]
                · unfold zleaf; rw [zs_ne (by omega), zs_ne (by omega), zs_ne (by omega), zs_ne (by omega), zs_ne (by omega), zs_ne (by omega), zs_ne (by omega), zs_ne (by omega), zs_ne (by omega)]
                · unfold zleaf; rw [zs_ne (by omega), zs_ne (by omega), zs_ne (by omega), zs_ne (by omega), zs_ne (by omega), zs_ne (by omega), zs_ne (by omega), zs_ne (by omega), zs_ne (by omega)]
              · exact ks.fr ((o1 45 12 rfl).trans (o0 45 12 rfl)) (by rw [o1 45 13 rfl, o0 45 13 rfl, lo 12 (by omega)]; exact ks2) (fun k => (o1 47 k rfl).trans (o0 47 k rfl)) (lo 11 (by omega)) (fun k hk => lo _ (by omega))
            · have t89 : XT l 3 60 false 54 153 6051 128 [xf 7 45] [xf 7 45] h 131 [xf 7 45] [] h1 := XT_call (l := l) (fr := 3) (lo := 60) (full := false) (M := 54) (n := 153) (u := 6051) (pc := 128) (L := [xf 7 45]) (st := [xf 7 45]) (h := h) (i := .invokevirtual 59) (aux := 1) (nx := 131) (K := 59) (vs := [xf 7 45]) (rs := []) (rest := []) rfl rfl rfl rfl rfl rfl c1 (by decide) (by decide) (Nat.le_of_ble_eq_true rfl) ⟨Nat.le_of_eq cg.1.2.2.2.1, Nat.le_of_eq cg.1.2.2.2.2⟩
              have t90 := t80.tr t89
              have rr1 : xR h1 45 4 = 24 := (cg.2.2 45 4 rfl).trans r4
              have t91 : XT l 3 60 false 54 153 6051 131 [xf 7 45] [] h1 146 [xf 7 45] [xi (xI h1 45 9), xi (xI h1 45 7), xf 4 (xR h1 (xR h1 45 4) 19)] h1 := XT_path (l := l) (fr := 3) (lo := 60) (full := false) (M := 54) (n := 153) (u := 6051) (pc := 131) (L := [xf 7 45]) (st := []) (h := h1) (inl := [39]) (n' := 120) (sp := [146]) (o := []) rfl rfl ⟨rfl, rfl, rfl⟩ rfl ⟨Nat.le_of_eq cg.1.2.2.2.1, Nat.le_of_eq cg.1.2.2.2.2⟩ ⟨⟨trivial, (show ¬ xR h1 45 4 = 0 from by rw [rr1]; decide)⟩, (show ¬ xR h1 (xR h1 45 4) 19 = 0 from by rw [rr1]; exact vnn cg.1.1 (rfl : vRf 24 19 = [39]) (by decide))⟩
              rw [rr1, vref cg.1.1 (rfl : vRf 24 19 = [39])] at t91
              have t92 := t90.tr t91
              obtain ⟨h2, c2, g2⟩ : ∃ h2, CX l 0 0 false 60 [xf 4 39, xi (xI h1 45 7), xi (xI h1 45 9)] h1 [] h2 ∧ vG ([(39, 5, false), (40, 0, true), (41, 0, true)], []) h1 h2 := ck_addA24 l (xI h1 45 7) (xI h1 45 9) h1 cg.1 (by rw [cg.2.1 45 7 rfl]; exact b7)
              have t93 : XT l 3 60 false 54 153 6051 146 [xf 7 45] [xi (xI h1 45 9), xi (xI h1 45 7), xf 4 39] h1 149 [xf 7 45] [] h2 := XT_call (l := l) (fr := 3) (lo := 60) (full := false) (M := 54) (n := 153) (u := 6051) (pc := 146) (L := [xf 7 45]) (st := [xi (xI h1 45 9), xi (xI h1 45 7), xf 4 39]) (h := h1) (i := .invokevirtual 60) (aux := 3) (nx := 149) (K := 60) (vs := [xf 4 39, xi (xI h1 45 7), xi (xI h1 45 9)]) (rs := []) (rest := []) rfl rfl rfl rfl rfl rfl c2 (by decide) (by decide) (Nat.le_of_ble_eq_true rfl) ⟨Nat.le_of_eq g2.1.2.2.2.1, Nat.le_of_eq g2.1.2.2.2.2⟩
              have t94 := t92.tr t93
              have t95 : XT l 3 60 false 54 153 6051 149 [xf 7 45] [] h2 150 [xf 7 45] [xi (Int32.ofInt (0))] h2 := XT_path (l := l) (fr := 3) (lo := 60) (full := false) (M := 54) (n := 153) (u := 6051) (pc := 149) (L := [xf 7 45]) (st := []) (h := h2) (inl := [39]) (n' := 120) (sp := [150]) (o := []) rfl rfl ⟨rfl, rfl, rfl⟩ rfl ⟨Nat.le_of_eq g2.1.2.2.2.1, Nat.le_of_eq g2.1.2.2.2.2⟩ trivial
              have t96 := t94.tr t95
              have n5 : ¬ (tkc b n q) = 5 := by omega
              have n32 : ¬ ((tkc b n q) = 32 ∧ ztl Z ≤ 3) := fun z => by omega
              have g2' : (tkc b n q) = 2 ∨ (33 ≤ (tkc b n q) ∧ (tkc b n q) ≤ 39) := by omega
              have h2' : ¬ ((tkc b n q) = 2 ∧ 9999 < (tkv b n q)) := by omega
              have o1 := g2.2.1
              have o0 := cg.2.1
              have es := zst_3 (c := (tkc b n q)) (v := (tkv b n q)) h13 g2' h2' (by omega)
              exact ⟨_, _, CX_ofT (h' := h2) (by decide) rfl rfl ⟨trivial, (Or.inl rfl)⟩ ⟨_, _, _, rfl, rfl, rfl⟩ rfl ⟨Nat.le_of_eq g2.1.2.2.2.1.symm, Nat.le_of_eq g2.1.2.2.2.2.symm⟩ t96, (vG.tr (W := ([(39, 5, false), (39, 6, false), (40, 0, true), (41, 0, true), (45, 2, false), (45, 3, false), (45, 12, false), (45, 13, false), (47, 0, true)], [])) (a := h) (b := h1) ⟨cg.1, cg.2.mono rfl rfl⟩ ⟨g2.1, g2.2.mono rfl rfl⟩), Or.inr ⟨by rw [es]; exact (by decide : ¬ (2 : Int) = 0), by rw [es, o1 45 2 rfl]; exact ca, by rw [o1 45 3 rfl, cb]; exact kq, kr.fr (by rw [o1 45 5 rfl, o0 45 5 rfl]) (fun k => by rw [o1 46 k rfl, o0 46 k rfl])⟩⟩
          · have e_39 : (Int32.ofInt (39)).toInt = 39 := rfl
            have dcb79 : (Int32.ofInt (39)).toInt < (xI h 45 7).toInt := Int32.lt_iff_toInt_lt.mp (Int32.not_le.mp cb79)
            have t97 : XT l 3 60 false 54 153 6051 0 [xf 7 45] [] h 150 [xf 7 45] [xi (Int32.ofInt (0))] (xsetI (xsetI h 45 2 (Int32.ofInt (1))) 45 3 (xI h 45 8)) := XT_path (l := l) (fr := 3) (lo := 60) (full := false) (M := 54) (n := 153) (u := 6051) (pc := 0) (L := [xf 7 45]) (st := []) (h := h) (inl := [39]) (n' := 120) (sp := [150]) (o := [1, 1, 0, 0, 0, 0]) rfl rfl ⟨rfl, rfl, rfl⟩ rfl ⟨Nat.le_of_eq hg.2.2.2.1, Nat.le_of_eq hg.2.2.2.2⟩ ⟨⟨⟨⟨⟨⟨trivial, cb1⟩, cb9⟩, cb57⟩, cb77⟩, cb79⟩, ef⟩
            have n5 : ¬ (tkc b n q) = 5 := by omega
            have n32 : ¬ ((tkc b n q) = 32 ∧ ztl Z ≤ 3) := fun z => by omega
            have es := zst_1 (c := (tkc b n q)) (v := (tkv b n q)) h13 n5 n32 ⟨by omega, by omega⟩
            have G1 : vG ([(39, 5, false), (39, 6, false), (40, 0, true), (41, 0, true), (45, 2, false), (45, 3, false), (45, 12, false), (45, 13, false), (47, 0, true)], []) h (xsetI (xsetI h 45 2 (Int32.ofInt (1))) 45 3 (xI h 45 8)) := vGf (vG.rf hg) (by decide) rfl rfl rfl
            exact ⟨_, _, CX_ofT (h' := (xsetI (xsetI h 45 2 (Int32.ofInt (1))) 45 3 (xI h 45 8))) (by decide) rfl rfl ⟨trivial, (Or.inl rfl)⟩ ⟨_, _, _, rfl, rfl, rfl⟩ rfl ⟨Nat.le_of_eq hg.2.2.2.1.symm, Nat.le_of_eq hg.2.2.2.2.symm⟩ t97, G1, Or.inr ⟨by rw [es]; exact (by decide : ¬ (1 : Int) = 0), by rw [es, yI_ne (by decide), yI_same]; rfl, by rw [yI_same]; exact kq, kr.fr (by rw [yI_ne (by decide), yI_ne (by decide)]) (fun k => by rw [yI_c (by decide), yI_c (by decide)])⟩⟩
set_option maxRecDepth 100000 in
set_option maxHeartbeats 4000000 in
theorem ck_sign24 (l : Launch) (f : Int) (b : Nat → Int) (n q : Nat) (Z : Nat → Int) (h : XH) (hg : sgood vT vR vE 153 6051 h) (kt : kT b n q h) (f0 : (xI h 45 2).toInt = 0) (r4 : xR h 45 4 = 24) (ko : kO 39 40 41 Z h) (ks : kS Z h) (I : zInv f Z) (h13 : Z 13 = 0) : ∃ v h', CX l 2 44 false 61 [xf 7 45] h [xi v] h' ∧ vG ([(39, 5, false), (39, 6, false), (40, 0, true), (41, 0, true), (45, 2, false), (45, 3, false), (45, 12, false), (45, 13, false), (47, 0, true)], []) h h' ∧ (((zstep (tkc b n q) (tkv b n q) Z).1 = 0 ∧ (xI h' 45 2).toInt = 0 ∧ v.toInt = (zstep (tkc b n q) (tkv b n q) Z).2 13 ∧ (v = 0 ∨ v = 1) ∧ kT b n q h' ∧ kO 39 40 41 (zstep (tkc b n q) (tkv b n q) Z).2 h' ∧ kS (zstep (tkc b n q) (tkv b n q) Z).2 h') ∨ (¬ (zstep (tkc b n q) (tkv b n q) Z).1 = 0 ∧ (xI h' 45 2).toInt = (zstep (tkc b n q) (tkv b n q) Z).1 ∧ (xI h' 45 3).toInt = q ∧ kR b n h')) := by
  have ef : xI h 45 2 = 0 := Int32.toInt_inj.mp f0
  have e_0 : (0 : Int32).toInt = 0 := rfl
  obtain ⟨kr, hn7, hq, kq, kc, kv, ke⟩ := id kt
  have B := I.b
  have ks1 := ks.1
  have ks2 := ks.2.1
  have ko1 := ko.1
  have ko2 := ko.2.1
  have b8 : 0 ≤ (xI h 45 8).toInt ∧ (xI h 45 8).toInt ≤ 700 := vbnd hg.1 45 8
  have b7 : 0 ≤ (xI h 45 7).toInt ∧ (xI h 45 7).toInt ≤ 39 := vbnd hg.1 45 7
  by_cases cb1 : (xI h 45 7) = (Int32.ofInt (6))
  · have e_6 : (Int32.ofInt (6)).toInt = 6 := rfl
    have dcb1 : (xI h 45 7).toInt = (Int32.ofInt (6)).toInt := congrArg Int32.toInt cb1
    by_cases cb2 : (xI h 45 13) ≤ 0
    · have e_0 : (0 : Int32).toInt = 0 := rfl
      have dcb2 : (xI h 45 13).toInt ≤ (0 : Int32).toInt := Int32.le_iff_toInt_le.mp cb2
      have t3 : XT l 2 44 false 61 153 6051 0 [xf 7 45, xun] [] h 41 [xf 7 45, xun] [xi (xI h 45 7)] h := XT_path (l := l) (fr := 2) (lo := 44) (full := false) (M := 61) (n := 153) (u := 6051) (pc := 0) (L := [xf 7 45, xun]) (st := []) (h := h) (inl := [39, 63]) (n' := 120) (sp := [41]) (o := [0, 1]) rfl rfl ⟨rfl, rfl, rfl⟩ rfl ⟨Nat.le_of_eq hg.2.2.2.1, Nat.le_of_eq hg.2.2.2.2⟩ ⟨⟨trivial, cb1⟩, cb2⟩
      obtain ⟨r1, c1, e1⟩ := ck_lev l (xI h 45 7) h hg
      rw [kc] at e1
      have lb := lev_b (tkc b n q)
      have t4 : XT l 2 44 false 61 153 6051 41 [xf 7 45, xun] [xi (xI h 45 7)] h 44 [xf 7 45, xun] [xi r1] h := XT_call (l := l) (fr := 2) (lo := 44) (full := false) (M := 61) (n := 153) (u := 6051) (pc := 41) (L := [xf 7 45, xun]) (st := [xi (xI h 45 7)]) (h := h) (i := .invokestatic 58) (aux := 1) (nx := 44) (K := 58) (vs := [xi (xI h 45 7)]) (rs := [xi r1]) (rest := []) rfl rfl rfl rfl rfl rfl c1 (by decide) (by decide) (Nat.le_of_ble_eq_true rfl) ⟨Nat.le_of_eq hg.2.2.2.1, Nat.le_of_eq hg.2.2.2.2⟩
      have t5 := t3.tr t4
      by_cases cb6 : r1 = 0
      · have e_0 : (0 : Int32).toInt = 0 := rfl
        have dcb6 : (r1).toInt = (0 : Int32).toInt := congrArg Int32.toInt cb6
        have t7 : XT l 2 44 false 61 153 6051 44 [xf 7 45, xun] [xi r1] h 64 [xf 7 45, xi r1] [xi (Int32.ofInt (0))] (xsetI (xsetI h 45 2 (Int32.ofInt (1))) 45 3 (xI h 45 8)) := XT_path (l := l) (fr := 2) (lo := 44) (full := false) (M := 61) (n := 153) (u := 6051) (pc := 44) (L := [xf 7 45, xun]) (st := [xi r1]) (h := h) (inl := [39, 63]) (n' := 120) (sp := [64]) (o := [1, 0]) rfl rfl ⟨rfl, rfl, rfl⟩ rfl ⟨Nat.le_of_eq hg.2.2.2.1, Nat.le_of_eq hg.2.2.2.2⟩ ⟨⟨trivial, cb6⟩, ef⟩
        have t8 := t5.tr t7
        have n6 : ¬ ((tkc b n q) = 6 ∧ 0 < Z 12) := by omega
        have es := zst_s1 (c := (tkc b n q)) (v := (tkv b n q)) h13 n6 (by omega)
        have G1 : vG ([(39, 5, false), (39, 6, false), (40, 0, true), (41, 0, true), (45, 2, false), (45, 3, false), (45, 12, false), (45, 13, false), (47, 0, true)], []) h (xsetI (xsetI h 45 2 (Int32.ofInt (1))) 45 3 (xI h 45 8)) := vGf (vG.rf hg) (by decide) rfl rfl rfl
        exact ⟨_, _, CX_ofT (h' := (xsetI (xsetI h 45 2 (Int32.ofInt (1))) 45 3 (xI h 45 8))) (by decide) rfl rfl ⟨trivial, (Or.inl rfl)⟩ ⟨_, _, _, rfl, rfl, rfl⟩ rfl ⟨Nat.le_of_eq hg.2.2.2.1.symm, Nat.le_of_eq hg.2.2.2.2.symm⟩ t8, G1, Or.inr ⟨by rw [es]; exact (by decide : ¬ (1 : Int) = 0), by rw [es, yI_ne (by decide), yI_same]; rfl, by rw [yI_same]; exact kq, kr.fr (by rw [yI_ne (by decide), yI_ne (by decide)]) (fun k => by rw [yI_c (by decide), yI_c (by decide)])⟩⟩
      · have e_0 : (0 : Int32).toInt = 0 := rfl
        have dcb6 : ¬ (r1).toInt = (0 : Int32).toInt := fun z_ => cb6 (Int32.toInt_inj.mp z_)
        have t9 : XT l 2 44 false 61 153 6051 44 [xf 7 45, xun] [xi r1] h 68 [xf 7 45, xi r1] [xi (Int32.ofInt (7)), xi r1] h := XT_path (l := l) (fr := 2) (lo := 44) (full := false) (M := 61) (n := 153) (u := 6051) (pc := 44) (L := [xf 7 45, xun]) (st := [xi r1]) (h := h) (inl := [39, 63]) (n' := 120) (sp := [68]) (o := [0, 1]) rfl rfl ⟨rfl, rfl, rfl⟩ rfl ⟨Nat.le_of_eq hg.2.2.2.1, Nat.le_of_eq hg.2.2.2.2⟩ ⟨⟨trivial, cb6⟩, (fun z => absurd (cb1.symm.trans z) (by decide))⟩
        have t10 := t5.tr t9
        obtain ⟨r2, c2, e2⟩ := ck_lev l (Int32.ofInt (7)) h hg
        have e24 : r2.toInt = 4 := e2.trans rfl
        have t11 : XT l 2 44 false 61 153 6051 68 [xf 7 45, xi r1] [xi (Int32.ofInt (7)), xi r1] h 71 [xf 7 45, xi r1] [xi r2, xi r1] h := XT_call (l := l) (fr := 2) (lo := 44) (full := false) (M := 61) (n := 153) (u := 6051) (pc := 68) (L := [xf 7 45, xi r1]) (st := [xi (Int32.ofInt (7)), xi r1]) (h := h) (i := .invokestatic 58) (aux := 1) (nx := 71) (K := 58) (vs := [xi (Int32.ofInt (7))]) (rs := [xi r2]) (rest := [xi r1]) rfl rfl rfl rfl rfl rfl c2 (by decide) (by decide) (Nat.le_of_ble_eq_true rfl) ⟨Nat.le_of_eq hg.2.2.2.1, Nat.le_of_eq hg.2.2.2.2⟩
        have t12 := t10.tr t11
        by_cases cb13 : r1 = r2
        · have dcb13 : (r1).toInt = (r2).toInt := congrArg Int32.toInt cb13
          have t14 : XT l 2 44 false 61 153 6051 71 [xf 7 45, xi r1] [xi r2, xi r1] h 76 [xf 7 45, xi r1] [xi r1, xf 7 45] h := XT_path (l := l) (fr := 2) (lo := 44) (full := false) (M := 61) (n := 153) (u := 6051) (pc := 71) (L := [xf 7 45, xi r1]) (st := [xi r2, xi r1]) (h := h) (inl := [39, 63]) (n' := 120) (sp := [76]) (o := [0]) rfl rfl ⟨rfl, rfl, rfl⟩ rfl ⟨Nat.le_of_eq hg.2.2.2.1, Nat.le_of_eq hg.2.2.2.2⟩ ⟨trivial, cb13⟩
          have t15 := t12.tr t14
          obtain ⟨h1, c3, g1, ko3, ks3⟩ := ck_put24 l f r1 (by omega) Z h hg r4 ko ks I h13
          have l4 : lev (tkc b n q) = 4 := by omega
          rw [show (r1).toInt = 4 from by omega] at ko3 ks3
          obtain ⟨J1, J2, J3, J4, J5, J6, J7, J8⟩ := zInv_put (lv := 4) (by decide) I h13
          have rr1 : xR h1 45 4 = 24 := (g1.2.2 45 4 rfl).trans r4
          have ef1 : xI h1 45 2 = 0 := (g1.2.1 45 2 rfl).trans ef
          have t16 : XT l 2 44 false 61 153 6051 76 [xf 7 45, xi r1] [xi r1, xf 7 45] h 79 [xf 7 45, xi r1] [] h1 := XT_call (l := l) (fr := 2) (lo := 44) (full := false) (M := 61) (n := 153) (u := 6051) (pc := 76) (L := [xf 7 45, xi r1]) (st := [xi r1, xf 7 45]) (h := h) (i := .invokevirtual 62) (aux := 2) (nx := 79) (K := 62) (vs := [xf 7 45, xi r1]) (rs := []) (rest := []) rfl rfl rfl rfl rfl rfl c3 (by decide) (by decide) (Nat.le_of_ble_eq_true rfl) ⟨Nat.le_of_eq g1.1.2.2.2.1, Nat.le_of_eq g1.1.2.2.2.2⟩
          have t17 := t15.tr t16
          have t18 : XT l 2 44 false 61 153 6051 79 [xf 7 45, xi r1] [] h1 80 [xf 7 45, xi r1] [xf 7 45] h1 := XT_path (l := l) (fr := 2) (lo := 44) (full := false) (M := 61) (n := 153) (u := 6051) (pc := 79) (L := [xf 7 45, xi r1]) (st := []) (h := h1) (inl := [39, 63]) (n' := 120) (sp := [80]) (o := []) rfl rfl ⟨rfl, rfl, rfl⟩ rfl ⟨Nat.le_of_eq g1.1.2.2.2.1, Nat.le_of_eq g1.1.2.2.2.2⟩ trivial
          have t19 := t17.tr t18
          obtain ⟨r3, c4, e3⟩ := ck_top l (zput 4 Z) h1 g1.1 ks3
          have t20 : XT l 2 44 false 61 153 6051 80 [xf 7 45, xi r1] [xf 7 45] h1 83 [xf 7 45, xi r1] [xi r3] h1 := XT_call (l := l) (fr := 2) (lo := 44) (full := false) (M := 61) (n := 153) (u := 6051) (pc := 80) (L := [xf 7 45, xi r1]) (st := [xf 7 45]) (h := h1) (i := .invokevirtual 57) (aux := 1) (nx := 83) (K := 57) (vs := [xf 7 45]) (rs := [xi r3]) (rest := []) rfl rfl rfl rfl rfl rfl c4 (by decide) (by decide) (Nat.le_of_ble_eq_true rfl) ⟨Nat.le_of_eq g1.1.2.2.2.1, Nat.le_of_eq g1.1.2.2.2.2⟩
          have t21 := t19.tr t20
          by_cases cb22 : r3 = r1
          · have dcb22 : (r3).toInt = (r1).toInt := congrArg Int32.toInt cb22
            have t23 : XT l 2 44 false 61 153 6051 83 [xf 7 45, xi r1] [xi r3] h1 93 [xf 7 45, xi r1] [xi (Int32.ofInt (0))] (xsetI (xsetI h1 45 2 (Int32.ofInt (1))) 45 3 (xI h1 45 8)) := XT_path (l := l) (fr := 2) (lo := 44) (full := false) (M := 61) (n := 153) (u := 6051) (pc := 83) (L := [xf 7 45, xi r1]) (st := [xi r3]) (h := h1) (inl := [39, 63]) (n' := 120) (sp := [93]) (o := [0, 0]) rfl rfl ⟨rfl, rfl, rfl⟩ rfl ⟨Nat.le_of_eq g1.1.2.2.2.1, Nat.le_of_eq g1.1.2.2.2.2⟩ ⟨⟨trivial, cb22⟩, ef1⟩
            have t24 := t21.tr t23
            have n6 : ¬ ((tkc b n q) = 6 ∧ 0 < Z 12) := by omega
            have n0 : ¬ (lev (tkc b n q) = 0 ∨ (tkc b n q) = 32) := by omega
            have es := zst_s4 (c := (tkc b n q)) (v := (tkv b n q)) h13 n0 l4 (by omega)
            have g0 : vG ([(39, 5, false), (39, 6, false), (40, 0, true), (41, 0, true), (45, 2, false), (45, 3, false), (45, 12, false), (45, 13, false), (47, 0, true)], []) h h1 := ⟨g1.1, g1.2.mono rfl rfl⟩
            have b81 : 0 ≤ (xI h1 45 8).toInt ∧ (xI h1 45 8).toInt ≤ 700 := vbnd g1.1.1 45 8
            have G1 : vG ([(39, 5, false), (39, 6, false), (40, 0, true), (41, 0, true), (45, 2, false), (45, 3, false), (45, 12, false), (45, 13, false), (47, 0, true)], []) h (xsetI (xsetI h1 45 2 (Int32.ofInt (1))) 45 3 (xI h1 45 8)) := vGf (g0 : vG ([(39, 5, false), (39, 6, false), (40, 0, true), (41, 0, true), (45, 2, false), (45, 3, false), (45, 12, false), (45, 13, false), (47, 0, true)], []) h h1) (by decide) rfl rfl rfl
            have o1 := g1.2.1
            exact ⟨_, _, CX_ofT (h' := (xsetI (xsetI h1 45 2 (Int32.ofInt (1))) 45 3 (xI h1 45 8))) (by decide) rfl rfl ⟨trivial, (Or.inl rfl)⟩ ⟨_, _, _, rfl, rfl, rfl⟩ rfl ⟨Nat.le_of_eq g1.1.2.2.2.1.symm, Nat.le_of_eq g1.1.2.2.2.2.symm⟩ t24, G1, Or.inr ⟨by rw [es]; exact (by decide : ¬ (1 : Int) = 0), by rw [es, yI_ne (by decide), yI_same]; rfl, by rw [yI_same, o1 45 8 rfl]; exact kq, kr.fr (by rw [yI_ne (by decide), yI_ne (by decide), o1 45 5 rfl]) (fun k => by rw [yI_c (by decide), yI_c (by decide), o1 46 k rfl])⟩⟩
          · have dcb22 : ¬ (r3).toInt = (r1).toInt := fun z_ => cb22 (Int32.toInt_inj.mp z_)
            have t25 : XT l 2 44 false 61 153 6051 83 [xf 7 45, xi r1] [xi r3] h1 98 [xf 7 45, xi r1] [xi (r1 - (Int32.ofInt (1))), xf 7 45] h1 := XT_path (l := l) (fr := 2) (lo := 44) (full := false) (M := 61) (n := 153) (u := 6051) (pc := 83) (L := [xf 7 45, xi r1]) (st := [xi r3]) (h := h1) (inl := [39, 63]) (n' := 120) (sp := [98]) (o := [1]) rfl rfl ⟨rfl, rfl, rfl⟩ rfl ⟨Nat.le_of_eq g1.1.2.2.2.1, Nat.le_of_eq g1.1.2.2.2.2⟩ ⟨trivial, cb22⟩
            have t26 := t21.tr t25
            have yl := y_pred (k := r1) (by omega) (by omega)
            obtain ⟨h2, c5, g2, ko4, ks4⟩ := ck_put24 l f (r1 - (Int32.ofInt (1))) (by omega) (zput 4 Z) h1 g1.1 rr1 ko3 ks3 J1 J3
            rw [show ((r1 - (Int32.ofInt (1)))).toInt = 3 from by omega, zput_id (by omega)] at ko4 ks4
            have gp : vG ([(39, 5, false), (40, 0, true), (41, 0, true), (45, 12, false)], []) h h2 := g1.tr g2
            have zb : (if lev (tkc b n q) = 4 then zput 4 Z else zput (lev (tkc b n q) - 1) Z) = zput 4 Z := if_pos l4
            have n4 : ¬ (lev (tkc b n q) = 4 ∧ ztl (zput 4 Z) = 4) := fun z => by omega
            have rr2 : xR h2 45 4 = 24 := (gp.2.2 45 4 rfl).trans r4
            have ef2 : (xI h2 45 2).toInt = 0 := by rw [gp.2.1 45 2 rfl]; exact f0
            have j6 := J5 6 (by omega) (by omega) (by omega) (by omega)
            have JB := J1.b
            have m1 := ko4.1
            have m2 := ko4.2.1
            have m3 := ks4.1
            have m4 := ks4.2.1
            have t27 : XT l 2 44 false 61 153 6051 98 [xf 7 45, xi r1] [xi (r1 - (Int32.ofInt (1))), xf 7 45] h1 101 [xf 7 45, xi r1] [] h2 := XT_call (l := l) (fr := 2) (lo := 44) (full := false) (M := 61) (n := 153) (u := 6051) (pc := 98) (L := [xf 7 45, xi r1]) (st := [xi (r1 - (Int32.ofInt (1))), xf 7 45]) (h := h1) (i := .invokevirtual 62) (aux := 2) (nx := 101) (K := 62) (vs := [xf 7 45, xi (r1 - (Int32.ofInt (1)))]) (rs := []) (rest := []) rfl rfl rfl rfl rfl rfl c5 (by decide) (by decide) (Nat.le_of_ble_eq_true rfl) ⟨Nat.le_of_eq gp.1.2.2.2.1, Nat.le_of_eq gp.1.2.2.2.2⟩
            have t28 := t26.tr t27
            have t29 : XT l 2 44 false 61 153 6051 101 [xf 7 45, xi r1] [] h2 102 [xf 7 45, xi r1] [xf 7 45] h2 := XT_path (l := l) (fr := 2) (lo := 44) (full := false) (M := 61) (n := 153) (u := 6051) (pc := 101) (L := [xf 7 45, xi r1]) (st := []) (h := h2) (inl := [39, 63]) (n' := 120) (sp := [102]) (o := []) rfl rfl ⟨rfl, rfl, rfl⟩ rfl ⟨Nat.le_of_eq gp.1.2.2.2.1, Nat.le_of_eq gp.1.2.2.2.2⟩ trivial
            have t30 := t28.tr t29
            obtain ⟨h3, c6, o1⟩ := ck_cnt24 l h2 gp.1 ef2 rr2
            rcases o1 with ⟨cl1, cg, ca⟩ | ⟨cl1, cg, ca, cb⟩
            · have t31 : XT l 2 44 false 61 153 6051 102 [xf 7 45, xi r1] [xf 7 45] h2 105 [xf 7 45, xi r1] [] h3 := XT_call (l := l) (fr := 2) (lo := 44) (full := false) (M := 61) (n := 153) (u := 6051) (pc := 102) (L := [xf 7 45, xi r1]) (st := [xf 7 45]) (h := h2) (i := .invokevirtual 59) (aux := 1) (nx := 105) (K := 59) (vs := [xf 7 45]) (rs := []) (rest := []) rfl rfl rfl rfl rfl rfl c6 (by decide) (by decide) (Nat.le_of_ble_eq_true rfl) ⟨Nat.le_of_eq cg.1.2.2.2.1, Nat.le_of_eq cg.1.2.2.2.2⟩
              have t32 := t30.tr t31
              have t33 : XT l 2 44 false 61 153 6051 105 [xf 7 45, xi r1] [] h3 106 [xf 7 45, xi r1] [xf 7 45] h3 := XT_path (l := l) (fr := 2) (lo := 44) (full := false) (M := 61) (n := 153) (u := 6051) (pc := 105) (L := [xf 7 45, xi r1]) (st := []) (h := h3) (inl := [39, 63]) (n' := 120) (sp := [106]) (o := []) rfl rfl ⟨rfl, rfl, rfl⟩ rfl ⟨Nat.le_of_eq cg.1.2.2.2.1, Nat.le_of_eq cg.1.2.2.2.2⟩ trivial
              have t34 := t32.tr t33
              obtain ⟨h4, c7, g4, a12, ap, ar⟩ := ck_push l h3 cg.1 (by rw [cg.2.1 45 12 rfl]; omega)
              have t35 : XT l 2 44 false 61 153 6051 106 [xf 7 45, xi r1] [xf 7 45] h3 109 [xf 7 45, xi r1] [] h4 := XT_call (l := l) (fr := 2) (lo := 44) (full := false) (M := 61) (n := 153) (u := 6051) (pc := 106) (L := [xf 7 45, xi r1]) (st := [xf 7 45]) (h := h3) (i := .invokevirtual 55) (aux := 1) (nx := 109) (K := 55) (vs := [xf 7 45]) (rs := []) (rest := []) rfl rfl rfl rfl rfl rfl c7 (by decide) (by decide) (Nat.le_of_ble_eq_true rfl) ⟨Nat.le_of_eq g4.1.2.2.2.1, Nat.le_of_eq g4.1.2.2.2.2⟩
              have t36 := t34.tr t35
              have t37 : XT l 2 44 false 61 153 6051 109 [xf 7 45, xi r1] [] h4 110 [xf 7 45, xi r1] [xi (Int32.ofInt (1))] h4 := XT_path (l := l) (fr := 2) (lo := 44) (full := false) (M := 61) (n := 153) (u := 6051) (pc := 109) (L := [xf 7 45, xi r1]) (st := []) (h := h4) (inl := [39, 63]) (n' := 120) (sp := [110]) (o := []) rfl rfl ⟨rfl, rfl, rfl⟩ rfl ⟨Nat.le_of_eq g4.1.2.2.2.1, Nat.le_of_eq g4.1.2.2.2.2⟩ trivial
              have t38 := t36.tr t37
              have n6 : ¬ ((tkc b n q) = 6 ∧ 0 < Z 12) := by omega
              have n0 : ¬ (lev (tkc b n q) = 0 ∨ (tkc b n q) = 32) := by omega
              have o1 := g4.2.1
              have o0 := cg.2.1
              have op := gp.2.1
              have es := zst_s (c := (tkc b n q)) (v := (tkv b n q)) h13 n0 n4 (by omega)
              rw [zb] at es
              have ys : ∀ i : Nat, i ≠ 11 → i ≠ 6 → i ≠ 13 → i ≠ 700 + ((zput 4 Z) 11).toNat → (zs (zpush (zs (zput 4 Z) 6 ((zput 4 Z) 6 + 1)) (tkc b n q)) 13 1) i = (zput 4 Z) i := fun i h1 h2 h3 h4 => by rw [zs_ne h3, zpush_h h1 (by rw [zs_ne (by omega)]; exact h4), zs_ne h2]
              rw [o0 45 12 rfl] at a12 ap ar
              rw [o0 45 7 rfl, op 45 7 rfl] at ap
              rw [es]
              dsimp only
              refine ⟨_, _, CX_ofT (h' := h4) (by decide) rfl rfl ⟨trivial, (Or.inr rfl)⟩ ⟨_, _, _, rfl, rfl, rfl⟩ rfl ⟨Nat.le_of_eq g4.1.2.2.2.1.symm, Nat.le_of_eq g4.1.2.2.2.2.symm⟩ t38, (vG.tr (W := ([(39, 5, false), (39, 6, false), (40, 0, true), (41, 0, true), (45, 2, false), (45, 3, false), (45, 12, false), (45, 13, false), (47, 0, true)], [])) (a := h) (b := h2) ⟨gp.1, gp.2.mono rfl rfl⟩ (vG.tr (W := ([(39, 5, false), (39, 6, false), (40, 0, true), (41, 0, true), (45, 2, false), (45, 3, false), (45, 12, false), (45, 13, false), (47, 0, true)], [])) (a := h2) (b := h3) (c := h4) ⟨cg.1, cg.2.mono rfl rfl⟩ ⟨g4.1, g4.2.mono rfl rfl⟩)), Or.inl ⟨rfl, ?_, ?_, (Or.inr rfl), ?_, ?_, ?_⟩⟩
              · rw [o1 45 2 rfl, o0 45 2 rfl]; exact ef2
              · show (1 : Int) = _; rw [zs_same]
              · exact kt.fr (fun k hk => by rcases hk with rfl | rfl | rfl | rfl | rfl | rfl <;> exact (o1 45 _ rfl).trans ((o0 45 _ rfl).trans (op 45 _ rfl))) (fun k => (o1 46 k rfl).trans ((o0 46 k rfl).trans (op 46 k rfl)))
              · exact ko4.fr ((o1 39 5 rfl).trans (o0 39 5 rfl)) (by rw [o1 39 6 rfl, ca, zs_ne (by omega), zpush_o (by omega) (by omega), zs_same]; omega) (fun k => (o1 40 k rfl).trans (o0 40 k rfl)) (fun k => (o1 41 k rfl).trans (o0 41 k rfl)) (ys 10 (by omega) (by omega) (by omega) (by omega)) (fun k hk => ⟨ys _ (by omega) (by omega) (by omega) (by omega), ys _ (by omega) (by omega) (by omega) (by omega)⟩)
              · refine ks4.push (by omega) a12 ?_ ?_ (fun k hk => ?_) ?_ (fun k hk => ys _ (by omega) (by omega) (by omega) (by omega))
                · rw [o1 45 13 rfl, o0 45 13 rfl, ys 12 (by omega) (by omega) (by omega) (by omega)]; exact m4
                · rw [ap, kc, zs_ne (by omega), show (700 + ((zput 4 Z) 11).toNat) = 700 + (zs (zput 4 Z) 6 ((zput 4 Z) 6 + 1) 11).toNat from by rw [zs_ne (by omega)]]; exact zpush_t.symm
                · rw [ar k hk]; exact o0 47 k rfl
                · rw [zs_ne (by omega), zpush_11, zs_ne (by omega)]
            · have t39 : XT l 2 44 false 61 153 6051 102 [xf 7 45, xi r1] [xf 7 45] h2 105 [xf 7 45, xi r1] [] h3 := XT_call (l := l) (fr := 2) (lo := 44) (full := false) (M := 61) (n := 153) (u := 6051) (pc := 102) (L := [xf 7 45, xi r1]) (st := [xf 7 45]) (h := h2) (i := .invokevirtual 59) (aux := 1) (nx := 105) (K := 59) (vs := [xf 7 45]) (rs := []) (rest := []) rfl rfl rfl rfl rfl rfl c6 (by decide) (by decide) (Nat.le_of_ble_eq_true rfl) ⟨Nat.le_of_eq cg.1.2.2.2.1, Nat.le_of_eq cg.1.2.2.2.2⟩
              have t40 := t30.tr t39
              have t41 : XT l 2 44 false 61 153 6051 105 [xf 7 45, xi r1] [] h3 106 [xf 7 45, xi r1] [xf 7 45] h3 := XT_path (l := l) (fr := 2) (lo := 44) (full := false) (M := 61) (n := 153) (u := 6051) (pc := 105) (L := [xf 7 45, xi r1]) (st := []) (h := h3) (inl := [39, 63]) (n' := 120) (sp := [106]) (o := []) rfl rfl ⟨rfl, rfl, rfl⟩ rfl ⟨Nat.le_of_eq cg.1.2.2.2.1, Nat.le_of_eq cg.1.2.2.2.2⟩ trivial
              have t42 := t40.tr t41
              obtain ⟨h4, c7, g4⟩ := ck_pushA l h3 cg.1
              have t43 : XT l 2 44 false 61 153 6051 106 [xf 7 45, xi r1] [xf 7 45] h3 109 [xf 7 45, xi r1] [] h4 := XT_call (l := l) (fr := 2) (lo := 44) (full := false) (M := 61) (n := 153) (u := 6051) (pc := 106) (L := [xf 7 45, xi r1]) (st := [xf 7 45]) (h := h3) (i := .invokevirtual 55) (aux := 1) (nx := 109) (K := 55) (vs := [xf 7 45]) (rs := []) (rest := []) rfl rfl rfl rfl rfl rfl c7 (by decide) (by decide) (Nat.le_of_ble_eq_true rfl) ⟨Nat.le_of_eq g4.1.2.2.2.1, Nat.le_of_eq g4.1.2.2.2.2⟩
              have t44 := t42.tr t43
              have t45 : XT l 2 44 false 61 153 6051 109 [xf 7 45, xi r1] [] h4 110 [xf 7 45, xi r1] [xi (Int32.ofInt (1))] h4 := XT_path (l := l) (fr := 2) (lo := 44) (full := false) (M := 61) (n := 153) (u := 6051) (pc := 109) (L := [xf 7 45, xi r1]) (st := []) (h := h4) (inl := [39, 63]) (n' := 120) (sp := [110]) (o := []) rfl rfl ⟨rfl, rfl, rfl⟩ rfl ⟨Nat.le_of_eq g4.1.2.2.2.1, Nat.le_of_eq g4.1.2.2.2.2⟩ trivial
              have t46 := t44.tr t45
              have n6 : ¬ ((tkc b n q) = 6 ∧ 0 < Z 12) := by omega
              have n0 : ¬ (lev (tkc b n q) = 0 ∨ (tkc b n q) = 32) := by omega
              have o1 := g4.2.1
              have o0 := cg.2.1
              have op := gp.2.1
              have es := zst_s2 (c := (tkc b n q)) (v := (tkv b n q)) h13 n0 n4 (by omega)
              exact ⟨_, _, CX_ofT (h' := h4) (by decide) rfl rfl ⟨trivial, (Or.inr rfl)⟩ ⟨_, _, _, rfl, rfl, rfl⟩ rfl ⟨Nat.le_of_eq g4.1.2.2.2.1.symm, Nat.le_of_eq g4.1.2.2.2.2.symm⟩ t46, (vG.tr (W := ([(39, 5, false), (39, 6, false), (40, 0, true), (41, 0, true), (45, 2, false), (45, 3, false), (45, 12, false), (45, 13, false), (47, 0, true)], [])) (a := h) (b := h2) ⟨gp.1, gp.2.mono rfl rfl⟩ (vG.tr (W := ([(39, 5, false), (39, 6, false), (40, 0, true), (41, 0, true), (45, 2, false), (45, 3, false), (45, 12, false), (45, 13, false), (47, 0, true)], [])) (a := h2) (b := h3) (c := h4) ⟨cg.1, cg.2.mono rfl rfl⟩ ⟨g4.1, g4.2.mono rfl rfl⟩)), Or.inr ⟨by rw [es]; exact (by decide : ¬ (2 : Int) = 0), by rw [es, o1 45 2 rfl]; exact ca, by rw [o1 45 3 rfl, cb, op 45 8 rfl]; exact kq, kr.fr (by rw [o1 45 5 rfl, o0 45 5 rfl, op 45 5 rfl]) (fun k => by rw [o1 46 k rfl, o0 46 k rfl, op 46 k rfl])⟩⟩
        · have dcb13 : ¬ (r1).toInt = (r2).toInt := fun z_ => cb13 (Int32.toInt_inj.mp z_)
          have t47 : XT l 2 44 false 61 153 6051 71 [xf 7 45, xi r1] [xi r2, xi r1] h 98 [xf 7 45, xi r1] [xi (r1 - (Int32.ofInt (1))), xf 7 45] h := XT_path (l := l) (fr := 2) (lo := 44) (full := false) (M := 61) (n := 153) (u := 6051) (pc := 71) (L := [xf 7 45, xi r1]) (st := [xi r2, xi r1]) (h := h) (inl := [39, 63]) (n' := 120) (sp := [98]) (o := [1]) rfl rfl ⟨rfl, rfl, rfl⟩ rfl ⟨Nat.le_of_eq hg.2.2.2.1, Nat.le_of_eq hg.2.2.2.2⟩ ⟨trivial, cb13⟩
          have t48 := t12.tr t47
          have yl := y_pred (k := r1) (by omega) (by omega)
          obtain ⟨h2, c5, g2, ko4, ks4⟩ := ck_put24 l f (r1 - (Int32.ofInt (1))) (by omega) Z h hg r4 ko ks I h13
          rw [show ((r1 - (Int32.ofInt (1)))).toInt = lev (tkc b n q) - 1 from by omega] at ko4 ks4
          obtain ⟨J1, J2, J3, J4, J5, J6, J7, J8⟩ := zInv_put (lv := lev (tkc b n q) - 1) (by omega) I h13
          have gp : vG ([(39, 5, false), (40, 0, true), (41, 0, true), (45, 12, false)], []) h h2 := g2
          have zb : (if lev (tkc b n q) = 4 then zput 4 Z else zput (lev (tkc b n q) - 1) Z) = zput (lev (tkc b n q) - 1) Z := if_neg (by omega)
          have n4 : ¬ (lev (tkc b n q) = 4 ∧ ztl (zput 4 Z) = 4) := fun z => by omega
          have rr2 : xR h2 45 4 = 24 := (gp.2.2 45 4 rfl).trans r4
          have ef2 : (xI h2 45 2).toInt = 0 := by rw [gp.2.1 45 2 rfl]; exact f0
          have j6 := J5 6 (by omega) (by omega) (by omega) (by omega)
          have JB := J1.b
          have m1 := ko4.1
          have m2 := ko4.2.1
          have m3 := ks4.1
          have m4 := ks4.2.1
          have t49 : XT l 2 44 false 61 153 6051 98 [xf 7 45, xi r1] [xi (r1 - (Int32.ofInt (1))), xf 7 45] h 101 [xf 7 45, xi r1] [] h2 := XT_call (l := l) (fr := 2) (lo := 44) (full := false) (M := 61) (n := 153) (u := 6051) (pc := 98) (L := [xf 7 45, xi r1]) (st := [xi (r1 - (Int32.ofInt (1))), xf 7 45]) (h := h) (i := .invokevirtual 62) (aux := 2) (nx := 101) (K := 62) (vs := [xf 7 45, xi (r1 - (Int32.ofInt (1)))]) (rs := []) (rest := []) rfl rfl rfl rfl rfl rfl c5 (by decide) (by decide) (Nat.le_of_ble_eq_true rfl) ⟨Nat.le_of_eq gp.1.2.2.2.1, Nat.le_of_eq gp.1.2.2.2.2⟩
          have t50 := t48.tr t49
          have t51 : XT l 2 44 false 61 153 6051 101 [xf 7 45, xi r1] [] h2 102 [xf 7 45, xi r1] [xf 7 45] h2 := XT_path (l := l) (fr := 2) (lo := 44) (full := false) (M := 61) (n := 153) (u := 6051) (pc := 101) (L := [xf 7 45, xi r1]) (st := []) (h := h2) (inl := [39, 63]) (n' := 120) (sp := [102]) (o := []) rfl rfl ⟨rfl, rfl, rfl⟩ rfl ⟨Nat.le_of_eq gp.1.2.2.2.1, Nat.le_of_eq gp.1.2.2.2.2⟩ trivial
          have t52 := t50.tr t51
          obtain ⟨h3, c6, o1⟩ := ck_cnt24 l h2 gp.1 ef2 rr2
          rcases o1 with ⟨cl1, cg, ca⟩ | ⟨cl1, cg, ca, cb⟩
          · have t53 : XT l 2 44 false 61 153 6051 102 [xf 7 45, xi r1] [xf 7 45] h2 105 [xf 7 45, xi r1] [] h3 := XT_call (l := l) (fr := 2) (lo := 44) (full := false) (M := 61) (n := 153) (u := 6051) (pc := 102) (L := [xf 7 45, xi r1]) (st := [xf 7 45]) (h := h2) (i := .invokevirtual 59) (aux := 1) (nx := 105) (K := 59) (vs := [xf 7 45]) (rs := []) (rest := []) rfl rfl rfl rfl rfl rfl c6 (by decide) (by decide) (Nat.le_of_ble_eq_true rfl) ⟨Nat.le_of_eq cg.1.2.2.2.1, Nat.le_of_eq cg.1.2.2.2.2⟩
            have t54 := t52.tr t53
            have t55 : XT l 2 44 false 61 153 6051 105 [xf 7 45, xi r1] [] h3 106 [xf 7 45, xi r1] [xf 7 45] h3 := XT_path (l := l) (fr := 2) (lo := 44) (full := false) (M := 61) (n := 153) (u := 6051) (pc := 105) (L := [xf 7 45, xi r1]) (st := []) (h := h3) (inl := [39, 63]) (n' := 120) (sp := [106]) (o := []) rfl rfl ⟨rfl, rfl, rfl⟩ rfl ⟨Nat.le_of_eq cg.1.2.2.2.1, Nat.le_of_eq cg.1.2.2.2.2⟩ trivial
            have t56 := t54.tr t55
            obtain ⟨h4, c7, g4, a12, ap, ar⟩ := ck_push l h3 cg.1 (by rw [cg.2.1 45 12 rfl]; omega)
            have t57 : XT l 2 44 false 61 153 6051 106 [xf 7 45, xi r1] [xf 7 45] h3 109 [xf 7 45, xi r1] [] h4 := XT_call (l := l) (fr := 2) (lo := 44) (full := false) (M := 61) (n := 153) (u := 6051) (pc := 106) (L := [xf 7 45, xi r1]) (st := [xf 7 45]) (h := h3) (i := .invokevirtual 55) (aux := 1) (nx := 109) (K := 55) (vs := [xf 7 45]) (rs := []) (rest := []) rfl rfl rfl rfl rfl rfl c7 (by decide) (by decide) (Nat.le_of_ble_eq_true rfl) ⟨Nat.le_of_eq g4.1.2.2.2.1, Nat.le_of_eq g4.1.2.2.2.2⟩
            have t58 := t56.tr t57
            have t59 : XT l 2 44 false 61 153 6051 109 [xf 7 45, xi r1] [] h4 110 [xf 7 45, xi r1] [xi (Int32.ofInt (1))] h4 := XT_path (l := l) (fr := 2) (lo := 44) (full := false) (M := 61) (n := 153) (u := 6051) (pc := 109) (L := [xf 7 45, xi r1]) (st := []) (h := h4) (inl := [39, 63]) (n' := 120) (sp := [110]) (o := []) rfl rfl ⟨rfl, rfl, rfl⟩ rfl ⟨Nat.le_of_eq g4.1.2.2.2.1, Nat.le_of_eq g4.1.2.2.2.2⟩ trivial
            have t60 := t58.tr t59
            have n6 : ¬ ((tkc b n q) = 6 ∧ 0 < Z 12) := by omega
            have n0 : ¬ (lev (tkc b n q) = 0 ∨ (tkc b n q) = 32) := by omega
            have o1 := g4.2.1
            have o0 := cg.2.1
            have op := gp.2.1
            have es := zst_s (c := (tkc b n q)) (v := (tkv b n q)) h13 n0 n4 (by omega)
            rw [zb] at es
            have ys : ∀ i : Nat, i ≠ 11 → i ≠ 6 → i ≠ 13 → i ≠ 700 + ((zput (lev (tkc b n q) - 1) Z) 11).toNat → (zs (zpush (zs (zput (lev (tkc b n q) - 1) Z) 6 ((zput (lev (tkc b n q) - 1) Z) 6 + 1)) (tkc b n q)) 13 1) i = (zput (lev (tkc b n q) - 1) Z) i := fun i h1 h2 h3 h4 => by rw [zs_ne h3, zpush_h h1 (by rw [zs_ne (by omega)]; exact h4), zs_ne h2]
            rw [o0 45 12 rfl] at a12 ap ar
            rw [o0 45 7 rfl, op 45 7 rfl] at ap
            rw [es]
            dsimp only
            refine ⟨_, _, CX_ofT (h' := h4) (by decide) rfl rfl ⟨trivial, (Or.inr rfl)⟩ ⟨_, _, _, rfl, rfl, rfl⟩ rfl ⟨Nat.le_of_eq g4.1.2.2.2.1.symm, Nat.le_of_eq g4.1.2.2.2.2.symm⟩ t60, (vG.tr (W := ([(39, 5, false), (39, 6, false), (40, 0, true), (41, 0, true), (45, 2, false), (45, 3, false), (45, 12, false), (45, 13, false), (47, 0, true)], [])) (a := h) (b := h2) ⟨gp.1, gp.2.mono rfl rfl⟩ (vG.tr (W := ([(39, 5, false), (39, 6, false), (40, 0, true), (41, 0, true), (45, 2, false), (45, 3, false), (45, 12, false), (45, 13, false), (47, 0, true)], [])) (a := h2) (b := h3) (c := h4) ⟨cg.1, cg.2.mono rfl rfl⟩ ⟨g4.1, g4.2.mono rfl rfl⟩)), Or.inl ⟨rfl, ?_, ?_, (Or.inr rfl), ?_, ?_, ?_⟩⟩
            · rw [o1 45 2 rfl, o0 45 2 rfl]; exact ef2
            · show (1 : Int) = _; rw [zs_same]
            · exact kt.fr (fun k hk => by rcases hk with rfl | rfl | rfl | rfl | rfl | rfl <;> exact (o1 45 _ rfl).trans ((o0 45 _ rfl).trans (op 45 _ rfl))) (fun k => (o1 46 k rfl).trans ((o0 46 k rfl).trans (op 46 k rfl)))
            · exact ko4.fr ((o1 39 5 rfl).trans (o0 39 5 rfl)) (by rw [o1 39 6 rfl, ca, zs_ne (by omega), zpush_o (by omega) (by omega), zs_same]; omega) (fun k => (o1 40 k rfl).trans (o0 40 k rfl)) (fun k => (o1 41 k rfl).trans (o0 41 k rfl)) (ys 10 (by omega) (by omega) (by omega) (by omega)) (fun k hk => ⟨ys _ (by omega) (by omega) (by omega) (by omega), ys _ (by omega) (by omega) (by omega) (by omega)⟩)
            · refine ks4.push (by omega) a12 ?_ ?_ (fun k hk => ?_) ?_ (fun k hk => ys _ (by omega) (by omega) (by omega) (by omega))
              · rw [o1 45 13 rfl, o0 45 13 rfl, ys 12 (by omega) (by omega) (by omega) (by omega)]; exact m4
              · rw [ap, kc, zs_ne (by omega), show (700 + ((zput (lev (tkc b n q) - 1) Z) 11).toNat) = 700 + (zs (zput (lev (tkc b n q) - 1) Z) 6 ((zput (lev (tkc b n q) - 1) Z) 6 + 1) 11).toNat from by rw [zs_ne (by omega)]]; exact zpush_t.symm
              · rw [ar k hk]; exact o0 47 k rfl
              · rw [zs_ne (by omega), zpush_11, zs_ne (by omega)]
          · have t61 : XT l 2 44 false 61 153 6051 102 [xf 7 45, xi r1] [xf 7 45] h2 105 [xf 7 45, xi r1] [] h3 := XT_call (l := l) (fr := 2) (lo := 44) (full := false) (M := 61) (n := 153) (u := 6051) (pc := 102) (L := [xf 7 45, xi r1]) (st := [xf 7 45]) (h := h2) (i := .invokevirtual 59) (aux := 1) (nx := 105) (K := 59) (vs := [xf 7 45]) (rs := []) (rest := []) rfl rfl rfl rfl rfl rfl c6 (by decide) (by decide) (Nat.le_of_ble_eq_true rfl) ⟨Nat.le_of_eq cg.1.2.2.2.1, Nat.le_of_eq cg.1.2.2.2.2⟩
            have t62 := t52.tr t61
            have t63 : XT l 2 44 false 61 153 6051 105 [xf 7 45, xi r1] [] h3 106 [xf 7 45, xi r1] [xf 7 45] h3 := XT_path (l := l) (fr := 2) (lo := 44) (full := false) (M := 61) (n := 153) (u := 6051) (pc := 105) (L := [xf 7 45, xi r1]) (st := []) (h := h3) (inl := [39, 63]) (n' := 120) (sp := [106]) (o := []) rfl rfl ⟨rfl, rfl, rfl⟩ rfl ⟨Nat.le_of_eq cg.1.2.2.2.1, Nat.le_of_eq cg.1.2.2.2.2⟩ trivial
            have t64 := t62.tr t63
            obtain ⟨h4, c7, g4⟩ := ck_pushA l h3 cg.1
            have t65 : XT l 2 44 false 61 153 6051 106 [xf 7 45, xi r1] [xf 7 45] h3 109 [xf 7 45, xi r1] [] h4 := XT_call (l := l) (fr := 2) (lo := 44) (full := false) (M := 61) (n := 153) (u := 6051) (pc := 106) (L := [xf 7 45, xi r1]) (st := [xf 7 45]) (h := h3) (i := .invokevirtual 55) (aux := 1) (nx := 109) (K := 55) (vs := [xf 7 45]) (rs := []) (rest := []) rfl rfl rfl rfl rfl rfl c7 (by decide) (by decide) (Nat.le_of_ble_eq_true rfl) ⟨Nat.le_of_eq g4.1.2.2.2.1, Nat.le_of_eq g4.1.2.2.2.2⟩
            have t66 := t64.tr t65
            have t67 : XT l 2 44 false 61 153 6051 109 [xf 7 45, xi r1] [] h4 110 [xf 7 45, xi r1] [xi (Int32.ofInt (1))] h4 := XT_path (l := l) (fr := 2) (lo := 44) (full := false) (M := 61) (n := 153) (u := 6051) (pc := 109) (L := [xf 7 45, xi r1]) (st := []) (h := h4) (inl := [39, 63]) (n' := 120) (sp := [110]) (o := []) rfl rfl ⟨rfl, rfl, rfl⟩ rfl ⟨Nat.le_of_eq g4.1.2.2.2.1, Nat.le_of_eq g4.1.2.2.2.2⟩ trivial
            have t68 := t66.tr t67
            have n6 : ¬ ((tkc b n q) = 6 ∧ 0 < Z 12) := by omega
            have n0 : ¬ (lev (tkc b n q) = 0 ∨ (tkc b n q) = 32) := by omega
            have o1 := g4.2.1
            have o0 := cg.2.1
            have op := gp.2.1
            have es := zst_s2 (c := (tkc b n q)) (v := (tkv b n q)) h13 n0 n4 (by omega)
            exact ⟨_, _, CX_ofT (h' := h4) (by decide) rfl rfl ⟨trivial, (Or.inr rfl)⟩ ⟨_, _, _, rfl, rfl, rfl⟩ rfl ⟨Nat.le_of_eq g4.1.2.2.2.1.symm, Nat.le_of_eq g4.1.2.2.2.2.symm⟩ t68, (vG.tr (W := ([(39, 5, false), (39, 6, false), (40, 0, true), (41, 0, true), (45, 2, false), (45, 3, false), (45, 12, false), (45, 13, false), (47, 0, true)], [])) (a := h) (b := h2) ⟨gp.1, gp.2.mono rfl rfl⟩ (vG.tr (W := ([(39, 5, false), (39, 6, false), (40, 0, true), (41, 0, true), (45, 2, false), (45, 3, false), (45, 12, false), (45, 13, false), (47, 0, true)], [])) (a := h2) (b := h3) (c := h4) ⟨cg.1, cg.2.mono rfl rfl⟩ ⟨g4.1, g4.2.mono rfl rfl⟩)), Or.inr ⟨by rw [es]; exact (by decide : ¬ (2 : Int) = 0), by rw [es, o1 45 2 rfl]; exact ca, by rw [o1 45 3 rfl, cb, op 45 8 rfl]; exact kq, kr.fr (by rw [o1 45 5 rfl, o0 45 5 rfl, op 45 5 rfl]) (fun k => by rw [o1 46 k rfl, o0 46 k rfl, op 46 k rfl])⟩⟩
    · have e_0 : (0 : Int32).toInt = 0 := rfl
      have dcb2 : (0 : Int32).toInt < (xI h 45 13).toInt := Int32.lt_iff_toInt_lt.mp (Int32.not_le.mp cb2)
      have t69 : XT l 2 44 false 61 153 6051 0 [xf 7 45, xun] [] h 18 [xf 7 45, xun] [xi (Int32.ofInt (0)), xf 7 45] h := XT_path (l := l) (fr := 2) (lo := 44) (full := false) (M := 61) (n := 153) (u := 6051) (pc := 0) (L := [xf 7 45, xun]) (st := []) (h := h) (inl := [39, 63]) (n' := 120) (sp := [18]) (o := [0, 0]) rfl rfl ⟨rfl, rfl, rfl⟩ rfl ⟨Nat.le_of_eq hg.2.2.2.1, Nat.le_of_eq hg.2.2.2.2⟩ ⟨⟨trivial, cb1⟩, cb2⟩
      obtain ⟨h1, c1, g1, ko3, ks3⟩ := ck_put24 l f (Int32.ofInt (0)) (by decide) Z h hg r4 ko ks I h13
      rw [show ((Int32.ofInt (0))).toInt = 0 from rfl] at ko3 ks3
      obtain ⟨J1, J2, J3, J4, J5, J6, J7, J8⟩ := zInv_put (lv := 0) (Int.le_refl 0) I h13
      have j12 := J5 12 (by omega) (by omega) (by omega) (by omega)
      have JB := J1.b
      have T := zInv_topo J1 (by omega) J2
      have l1 := ks3.1
      have l2 := ks3.2.1
      have y1 := y_pred (k := xI h1 45 12) (by omega) (by omega)
      have y2 := y_pred (k := xI h1 45 13) (by omega) (by omega)
      have t70 : XT l 2 44 false 61 153 6051 18 [xf 7 45, xun] [xi (Int32.ofInt (0)), xf 7 45] h 21 [xf 7 45, xun] [] h1 := XT_call (l := l) (fr := 2) (lo := 44) (full := false) (M := 61) (n := 153) (u := 6051) (pc := 18) (L := [xf 7 45, xun]) (st := [xi (Int32.ofInt (0)), xf 7 45]) (h := h) (i := .invokevirtual 62) (aux := 2) (nx := 21) (K := 62) (vs := [xf 7 45, xi (Int32.ofInt (0))]) (rs := []) (rest := []) rfl rfl rfl rfl rfl rfl c1 (by decide) (by decide) (Nat.le_of_ble_eq_true rfl) ⟨Nat.le_of_eq g1.1.2.2.2.1, Nat.le_of_eq g1.1.2.2.2.2⟩
      have t71 := t69.tr t70
      have t72 : XT l 2 44 false 61 153 6051 21 [xf 7 45, xun] [] h1 36 [xf 7 45, xun] [xi (Int32.ofInt (0))] (xsetI (xsetI h1 45 12 ((xI h1 45 12) - (Int32.ofInt (1)))) 45 13 ((xI h1 45 13) - (Int32.ofInt (1)))) := XT_path (l := l) (fr := 2) (lo := 44) (full := false) (M := 61) (n := 153) (u := 6051) (pc := 21) (L := [xf 7 45, xun]) (st := []) (h := h1) (inl := [39, 63]) (n' := 120) (sp := [36]) (o := [0]) rfl rfl ⟨rfl, rfl, rfl⟩ rfl ⟨Nat.le_of_eq g1.1.2.2.2.1, Nat.le_of_eq g1.1.2.2.2.2⟩ ⟨trivial, (fun z => absurd (Int32.le_iff_toInt_le.mp z) (by have e : (0 : Int32).toInt = 0 := rfl; omega))⟩
      have t73 := t71.tr t72
      have es := zst_c (c := (tkc b n q)) (v := (tkv b n q)) h13 ⟨by omega, by omega⟩
      have g0 : vG ([(39, 5, false), (39, 6, false), (40, 0, true), (41, 0, true), (45, 2, false), (45, 3, false), (45, 12, false), (45, 13, false), (47, 0, true)], []) h h1 := ⟨g1.1, g1.2.mono rfl rfl⟩
      have w74 : vG ([(39, 5, false), (39, 6, false), (40, 0, true), (41, 0, true), (45, 2, false), (45, 3, false), (45, 12, false), (45, 13, false), (47, 0, true)], []) h (xsetI h1 45 12 ((xI h1 45 12) - (Int32.ofInt (1)))) := (g0 : vG ([(39, 5, false), (39, 6, false), (40, 0, true), (41, 0, true), (45, 2, false), (45, 3, false), (45, 12, false), (45, 13, false), (47, 0, true)], []) h h1).set (c := 45) (k := 12) (v := ((xI h1 45 12) - (Int32.ofInt (1)))) (show (0 : Int) ≤ _ ∧ _ ≤ 72 from ⟨by omega, by omega⟩) (by decide +kernel) (by decide +kernel) rfl
      have G1 : vG ([(39, 5, false), (39, 6, false), (40, 0, true), (41, 0, true), (45, 2, false), (45, 3, false), (45, 12, false), (45, 13, false), (47, 0, true)], []) h (xsetI (xsetI h1 45 12 ((xI h1 45 12) - (Int32.ofInt (1)))) 45 13 ((xI h1 45 13) - (Int32.ofInt (1)))) := (w74 : vG ([(39, 5, false), (39, 6, false), (40, 0, true), (41, 0, true), (45, 2, false), (45, 3, false), (45, 12, false), (45, 13, false), (47, 0, true)], []) h (xsetI h1 45 12 ((xI h1 45 12) - (Int32.ofInt (1))))).set (c := 45) (k := 13) (v := ((xI h1 45 13) - (Int32.ofInt (1)))) (show (0 : Int) ≤ _ ∧ _ ≤ 8 from ⟨by omega, by omega⟩) (by decide +kernel) (by decide +kernel) rfl
      have o1 := g1.2.1
      rw [es]
      dsimp only
      refine ⟨_, _, CX_ofT (h' := (xsetI (xsetI h1 45 12 ((xI h1 45 12) - (Int32.ofInt (1)))) 45 13 ((xI h1 45 13) - (Int32.ofInt (1))))) (by decide) rfl rfl ⟨trivial, (Or.inl rfl)⟩ ⟨_, _, _, rfl, rfl, rfl⟩ rfl ⟨Nat.le_of_eq g1.1.2.2.2.1.symm, Nat.le_of_eq g1.1.2.2.2.2.symm⟩ t73, G1, Or.inl ⟨rfl, ?_, ?_, (Or.inl rfl), ?_, ?_, ?_⟩⟩
      · rw [yI_ne (by decide), yI_ne (by decide), o1 45 2 rfl]; exact f0
      · show (0 : Int) = _; rw [zs_ne (by omega), zs_ne (by omega)]; exact J3.symm
      · exact kt.fr (fun k hk => by rcases hk with rfl | rfl | rfl | rfl | rfl | rfl <;> exact (yI_ne (by decide)).trans ((yI_ne (by decide)).trans (o1 45 _ rfl))) (fun k => (yI_c (by decide)).trans ((yI_c (by decide)).trans (o1 46 k rfl)))
      · exact ko3.fr (by rw [yI_c (by decide), yI_c (by decide)]) (by rw [yI_c (by decide), yI_c (by decide), zs_ne (by omega), zs_ne (by omega)]; exact ko3.2.1) (fun k => by rw [yI_c (by decide), yI_c (by decide)]) (fun k => by rw [yI_c (by decide), yI_c (by decide)]) (by rw [zs_ne (by omega), zs_ne (by omega)]) (fun k hk => ⟨by rw [zs_ne (by omega), zs_ne (by omega)], by rw [zs_ne (by omega), zs_ne (by omega)]⟩)
      · refine ⟨?_, ?_, fun k hk => ?_⟩
        · rw [yI_ne (by decide), yI_same, zs_ne (by omega), zs_same]; omega
        · rw [yI_same, zs_same]; omega
        · rw [zs_ne (by omega), zs_same] at hk
          rw [yI_c (by decide), yI_c (by decide), zs_ne (by omega), zs_ne (by omega)]; exact ks3.2.2 k (by omega)
  · have e_6 : (Int32.ofInt (6)).toInt = 6 := rfl
    have dcb1 : ¬ (xI h 45 7).toInt = (Int32.ofInt (6)).toInt := fun z_ => cb1 (Int32.toInt_inj.mp z_)
    have t75 : XT l 2 44 false 61 153 6051 0 [xf 7 45, xun] [] h 41 [xf 7 45, xun] [xi (xI h 45 7)] h := XT_path (l := l) (fr := 2) (lo := 44) (full := false) (M := 61) (n := 153) (u := 6051) (pc := 0) (L := [xf 7 45, xun]) (st := []) (h := h) (inl := [39, 63]) (n' := 120) (sp := [41]) (o := [1]) rfl rfl ⟨rfl, rfl, rfl⟩ rfl ⟨Nat.le_of_eq hg.2.2.2.1, Nat.le_of_eq hg.2.2.2.2⟩ ⟨trivial, cb1⟩
    obtain ⟨r1, c1, e1⟩ := ck_lev l (xI h 45 7) h hg
    rw [kc] at e1
    have lb := lev_b (tkc b n q)
    have t76 : XT l 2 44 false 61 153 6051 41 [xf 7 45, xun] [xi (xI h 45 7)] h 44 [xf 7 45, xun] [xi r1] h := XT_call (l := l) (fr := 2) (lo := 44) (full := false) (M := 61) (n := 153) (u := 6051) (pc := 41) (L := [xf 7 45, xun]) (st := [xi (xI h 45 7)]) (h := h) (i := .invokestatic 58) (aux := 1) (nx := 44) (K := 58) (vs := [xi (xI h 45 7)]) (rs := [xi r1]) (rest := []) rfl rfl rfl rfl rfl rfl c1 (by decide) (by decide) (Nat.le_of_ble_eq_true rfl) ⟨Nat.le_of_eq hg.2.2.2.1, Nat.le_of_eq hg.2.2.2.2⟩
    have t77 := t75.tr t76
    by_cases cb78 : r1 = 0
    · have e_0 : (0 : Int32).toInt = 0 := rfl
      have dcb78 : (r1).toInt = (0 : Int32).toInt := congrArg Int32.toInt cb78
      have t79 : XT l 2 44 false 61 153 6051 44 [xf 7 45, xun] [xi r1] h 64 [xf 7 45, xi r1] [xi (Int32.ofInt (0))] (xsetI (xsetI h 45 2 (Int32.ofInt (1))) 45 3 (xI h 45 8)) := XT_path (l := l) (fr := 2) (lo := 44) (full := false) (M := 61) (n := 153) (u := 6051) (pc := 44) (L := [xf 7 45, xun]) (st := [xi r1]) (h := h) (inl := [39, 63]) (n' := 120) (sp := [64]) (o := [1, 0]) rfl rfl ⟨rfl, rfl, rfl⟩ rfl ⟨Nat.le_of_eq hg.2.2.2.1, Nat.le_of_eq hg.2.2.2.2⟩ ⟨⟨trivial, cb78⟩, ef⟩
      have t80 := t77.tr t79
      have n6 : ¬ ((tkc b n q) = 6 ∧ 0 < Z 12) := by omega
      have es := zst_s1 (c := (tkc b n q)) (v := (tkv b n q)) h13 n6 (by omega)
      have G1 : vG ([(39, 5, false), (39, 6, false), (40, 0, true), (41, 0, true), (45, 2, false), (45, 3, false), (45, 12, false), (45, 13, false), (47, 0, true)], []) h (xsetI (xsetI h 45 2 (Int32.ofInt (1))) 45 3 (xI h 45 8)) := vGf (vG.rf hg) (by decide) rfl rfl rfl
      exact ⟨_, _, CX_ofT (h' := (xsetI (xsetI h 45 2 (Int32.ofInt (1))) 45 3 (xI h 45 8))) (by decide) rfl rfl ⟨trivial, (Or.inl rfl)⟩ ⟨_, _, _, rfl, rfl, rfl⟩ rfl ⟨Nat.le_of_eq hg.2.2.2.1.symm, Nat.le_of_eq hg.2.2.2.2.symm⟩ t80, G1, Or.inr ⟨by rw [es]; exact (by decide : ¬ (1 : Int) = 0), by rw [es, yI_ne (by decide), yI_same]; rfl, by rw [yI_same]; exact kq, kr.fr (by rw [yI_ne (by decide), yI_ne (by decide)]) (fun k => by rw [yI_c (by decide), yI_c (by decide)])⟩⟩
    · have e_0 : (0 : Int32).toInt = 0 := rfl
      have dcb78 : ¬ (r1).toInt = (0 : Int32).toInt := fun z_ => cb78 (Int32.toInt_inj.mp z_)
      by_cases cb81 : (xI h 45 7) = (Int32.ofInt (32))
      · have e_32 : (Int32.ofInt (32)).toInt = 32 := rfl
        have dcb81 : (xI h 45 7).toInt = (Int32.ofInt (32)).toInt := congrArg Int32.toInt cb81
        have t82 : XT l 2 44 false 61 153 6051 44 [xf 7 45, xun] [xi r1] h 64 [xf 7 45, xi r1] [xi (Int32.ofInt (0))] (xsetI (xsetI h 45 2 (Int32.ofInt (1))) 45 3 (xI h 45 8)) := XT_path (l := l) (fr := 2) (lo := 44) (full := false) (M := 61) (n := 153) (u := 6051) (pc := 44) (L := [xf 7 45, xun]) (st := [xi r1]) (h := h) (inl := [39, 63]) (n' := 120) (sp := [64]) (o := [0, 0, 0]) rfl rfl ⟨rfl, rfl, rfl⟩ rfl ⟨Nat.le_of_eq hg.2.2.2.1, Nat.le_of_eq hg.2.2.2.2⟩ ⟨⟨⟨trivial, cb78⟩, cb81⟩, ef⟩
        have t83 := t77.tr t82
        have n6 : ¬ ((tkc b n q) = 6 ∧ 0 < Z 12) := by omega
        have es := zst_s1 (c := (tkc b n q)) (v := (tkv b n q)) h13 n6 (by omega)
        have G1 : vG ([(39, 5, false), (39, 6, false), (40, 0, true), (41, 0, true), (45, 2, false), (45, 3, false), (45, 12, false), (45, 13, false), (47, 0, true)], []) h (xsetI (xsetI h 45 2 (Int32.ofInt (1))) 45 3 (xI h 45 8)) := vGf (vG.rf hg) (by decide) rfl rfl rfl
        exact ⟨_, _, CX_ofT (h' := (xsetI (xsetI h 45 2 (Int32.ofInt (1))) 45 3 (xI h 45 8))) (by decide) rfl rfl ⟨trivial, (Or.inl rfl)⟩ ⟨_, _, _, rfl, rfl, rfl⟩ rfl ⟨Nat.le_of_eq hg.2.2.2.1.symm, Nat.le_of_eq hg.2.2.2.2.symm⟩ t83, G1, Or.inr ⟨by rw [es]; exact (by decide : ¬ (1 : Int) = 0), by rw [es, yI_ne (by decide), yI_same]; rfl, by rw [yI_same]; exact kq, kr.fr (by rw [yI_ne (by decide), yI_ne (by decide)]) (fun k => by rw [yI_c (by decide), yI_c (by decide)])⟩⟩
      · have e_32 : (Int32.ofInt (32)).toInt = 32 := rfl
        have dcb81 : ¬ (xI h 45 7).toInt = (Int32.ofInt (32)).toInt := fun z_ => cb81 (Int32.toInt_inj.mp z_)
        have t84 : XT l 2 44 false 61 153 6051 44 [xf 7 45, xun] [xi r1] h 68 [xf 7 45, xi r1] [xi (Int32.ofInt (7)), xi r1] h := XT_path (l := l) (fr := 2) (lo := 44) (full := false) (M := 61) (n := 153) (u := 6051) (pc := 44) (L := [xf 7 45, xun]) (st := [xi r1]) (h := h) (inl := [39, 63]) (n' := 120) (sp := [68]) (o := [0, 1]) rfl rfl ⟨rfl, rfl, rfl⟩ rfl ⟨Nat.le_of_eq hg.2.2.2.1, Nat.le_of_eq hg.2.2.2.2⟩ ⟨⟨trivial, cb78⟩, cb81⟩
        have t85 := t77.tr t84
        obtain ⟨r2, c2, e2⟩ := ck_lev l (Int32.ofInt (7)) h hg
        have e24 : r2.toInt = 4 := e2.trans rfl
        have t86 : XT l 2 44 false 61 153 6051 68 [xf 7 45, xi r1] [xi (Int32.ofInt (7)), xi r1] h 71 [xf 7 45, xi r1] [xi r2, xi r1] h := XT_call (l := l) (fr := 2) (lo := 44) (full := false) (M := 61) (n := 153) (u := 6051) (pc := 68) (L := [xf 7 45, xi r1]) (st := [xi (Int32.ofInt (7)), xi r1]) (h := h) (i := .invokestatic 58) (aux := 1) (nx := 71) (K := 58) (vs := [xi (Int32.ofInt (7))]) (rs := [xi r2]) (rest := [xi r1]) rfl rfl rfl rfl rfl rfl c2 (by decide) (by decide) (Nat.le_of_ble_eq_true rfl) ⟨Nat.le_of_eq hg.2.2.2.1, Nat.le_of_eq hg.2.2.2.2⟩
        have t87 := t85.tr t86
        by_cases cb88 : r1 = r2
        · have dcb88 : (r1).toInt = (r2).toInt := congrArg Int32.toInt cb88
          have t89 : XT l 2 44 false 61 153 6051 71 [xf 7 45, xi r1] [xi r2, xi r1] h 76 [xf 7 45, xi r1] [xi r1, xf 7 45] h := XT_path (l := l) (fr := 2) (lo := 44) (full := false) (M := 61) (n := 153) (u := 6051) (pc := 71) (L := [xf 7 45, xi r1]) (st := [xi r2, xi r1]) (h := h) (inl := [39, 63]) (n' := 120) (sp := [76]) (o := [0]) rfl rfl ⟨rfl, rfl, rfl⟩ rfl ⟨Nat.le_of_eq hg.2.2.2.1, Nat.le_of_eq hg.2.2.2.2⟩ ⟨trivial, cb88⟩
          have t90 := t87.tr t89
          obtain ⟨h1, c3, g1, ko3, ks3⟩ := ck_put24 l f r1 (by omega) Z h hg r4 ko ks I h13
          have l4 : lev (tkc b n q) = 4 := by omega
          rw [show (r1).toInt = 4 from by omega] at ko3 ks3
          obtain ⟨J1, J2, J3, J4, J5, J6, J7, J8⟩ := zInv_put (lv := 4) (by decide) I h13
          have rr1 : xR h1 45 4 = 24 := (g1.2.2 45 4 rfl).trans r4
          have ef1 : xI h1 45 2 = 0 := (g1.2.1 45 2 rfl).trans ef
          have t91 : XT l 2 44 false 61 153 6051 76 [xf 7 45, xi r1] [xi r1, xf 7 45] h 79 [xf 7 45, xi r1] [] h1 := XT_call (l := l) (fr := 2) (lo := 44) (full := false) (M := 61) (n := 153) (u := 6051) (pc := 76) (L := [xf 7 45, xi r1]) (st := [xi r1, xf 7 45]) (h := h) (i := .invokevirtual 62) (aux := 2) (nx := 79) (K := 62) (vs := [xf 7 45, xi r1]) (rs := []) (rest := []) rfl rfl rfl rfl rfl rfl c3 (by decide) (by decide) (Nat.le_of_ble_eq_true rfl) ⟨Nat.le_of_eq g1.1.2.2.2.1, Nat.le_of_eq g1.1.2.2.2.2⟩
          have t92 := t90.tr t91
          have t93 : XT l 2 44 false 61 153 6051 79 [xf 7 45, xi r1] [] h1 80 [xf 7 45, xi r1] [xf 7 45] h1 := XT_path (l := l) (fr := 2) (lo := 44) (full := false) (M := 61) (n := 153) (u := 6051) (pc := 79) (L := [xf 7 45, xi r1]) (st := []) (h := h1) (inl := [39, 63]) (n' := 120) (sp := [80]) (o := []) rfl rfl ⟨rfl, rfl, rfl⟩ rfl ⟨Nat.le_of_eq g1.1.2.2.2.1, Nat.le_of_eq g1.1.2.2.2.2⟩ trivial
          have t94 := t92.tr t93
          obtain ⟨r3, c4, e3⟩ := ck_top l (zput 4 Z) h1 g1.1 ks3
          have t95 : XT l 2 44 false 61 153 6051 80 [xf 7 45, xi r1] [xf 7 45] h1 83 [xf 7 45, xi r1] [xi r3] h1 := XT_call (l := l) (fr := 2) (lo := 44) (full := false) (M := 61) (n := 153) (u := 6051) (pc := 80) (L := [xf 7 45, xi r1]) (st := [xf 7 45]) (h := h1) (i := .invokevirtual 57) (aux := 1) (nx := 83) (K := 57) (vs := [xf 7 45]) (rs := [xi r3]) (rest := []) rfl rfl rfl rfl rfl rfl c4 (by decide) (by decide) (Nat.le_of_ble_eq_true rfl) ⟨Nat.le_of_eq g1.1.2.2.2.1, Nat.le_of_eq g1.1.2.2.2.2⟩
          have t96 := t94.tr t95
          by_cases cb97 : r3 = r1
          · have dcb97 : (r3).toInt = (r1).toInt := congrArg Int32.toInt cb97
            have t98 : XT l 2 44 false 61 153 6051 83 [xf 7 45, xi r1] [xi r3] h1 93 [xf 7 45, xi r1] [xi (Int32.ofInt (0))] (xsetI (xsetI h1 45 2 (Int32.ofInt (1))) 45 3 (xI h1 45 8)) := XT_path (l := l) (fr := 2) (lo := 44) (full := false) (M := 61) (n := 153) (u := 6051) (pc := 83) (L := [xf 7 45, xi r1]) (st := [xi r3]) (h := h1) (inl := [39, 63]) (n' := 120) (sp := [93]) (o := [0, 0]) rfl rfl ⟨rfl, rfl, rfl⟩ rfl ⟨Nat.le_of_eq g1.1.2.2.2.1, Nat.le_of_eq g1.1.2.2.2.2⟩ ⟨⟨trivial, cb97⟩, ef1⟩
            have t99 := t96.tr t98
            have n6 : ¬ ((tkc b n q) = 6 ∧ 0 < Z 12) := by omega
            have n0 : ¬ (lev (tkc b n q) = 0 ∨ (tkc b n q) = 32) := by omega
            have es := zst_s4 (c := (tkc b n q)) (v := (tkv b n q)) h13 n0 l4 (by omega)
            have g0 : vG ([(39, 5, false), (39, 6, false), (40, 0, true), (41, 0, true), (45, 2, false), (45, 3, false), (45, 12, false), (45, 13, false), (47, 0, true)], []) h h1 := ⟨g1.1, g1.2.mono rfl rfl⟩
            have b81 : 0 ≤ (xI h1 45 8).toInt ∧ (xI h1 45 8).toInt ≤ 700 := vbnd g1.1.1 45 8
            have G1 : vG ([(39, 5, false), (39, 6, false), (40, 0, true), (41, 0, true), (45, 2, false), (45, 3, false), (45, 12, false), (45, 13, false), (47, 0, true)], []) h (xsetI (xsetI h1 45 2 (Int32.ofInt (1))) 45 3 (xI h1 45 8)) := vGf (g0 : vG ([(39, 5, false), (39, 6, false), (40, 0, true), (41, 0, true), (45, 2, false), (45, 3, false), (45, 12, false), (45, 13, false), (47, 0, true)], []) h h1) (by decide) rfl rfl rfl
            have o1 := g1.2.1
            exact ⟨_, _, CX_ofT (h' := (xsetI (xsetI h1 45 2 (Int32.ofInt (1))) 45 3 (xI h1 45 8))) (by decide) rfl rfl ⟨trivial, (Or.inl rfl)⟩ ⟨_, _, _, rfl, rfl, rfl⟩ rfl ⟨Nat.le_of_eq g1.1.2.2.2.1.symm, Nat.le_of_eq g1.1.2.2.2.2.symm⟩ t99, G1, Or.inr ⟨by rw [es]; exact (by decide : ¬ (1 : Int) = 0), by rw [es, yI_ne (by decide), yI_same]; rfl, by rw [yI_same, o1 45 8 rfl]; exact kq, kr.fr (by rw [yI_ne (by decide), yI_ne (by decide), o1 45 5 rfl]) (fun k => by rw [yI_c (by decide), yI_c (by decide), o1 46 k rfl])⟩⟩
          · have dcb97 : ¬ (r3).toInt = (r1).toInt := fun z_ => cb97 (Int32.toInt_inj.mp z_)
            have t100 : XT l 2 44 false 61 153 6051 83 [xf 7 45, xi r1] [xi r3] h1 98 [xf 7 45, xi r1] [xi (r1 - (Int32.ofInt (1))), xf 7 45] h1 := XT_path (l := l) (fr := 2) (lo := 44) (full := false) (M := 61) (n := 153) (u := 6051) (pc := 83) (L := [xf 7 45, xi r1]) (st := [xi r3]) (h := h1) (inl := [39, 63]) (n' := 120) (sp := [98]) (o := [1]) rfl rfl ⟨rfl, rfl, rfl⟩ rfl ⟨Nat.le_of_eq g1.1.2.2.2.1, Nat.le_of_eq g1.1.2.2.2.2⟩ ⟨trivial, cb97⟩
            have t101 := t96.tr t100
            have yl := y_pred (k := r1) (by omega) (by omega)
            obtain ⟨h2, c5, g2, ko4, ks4⟩ := ck_put24 l f (r1 - (Int32.ofInt (1))) (by omega) (zput 4 Z) h1 g1.1 rr1 ko3 ks3 J1 J3
            rw [show ((r1 - (Int32.ofInt (1)))).toInt = 3 from by omega, zput_id (by omega)] at ko4 ks4
            have gp : vG ([(39, 5, false), (40, 0, true), (41, 0, true), (45, 12, false)], []) h h2 := g1.tr g2
            have zb : (if lev (tkc b n q) = 4 then zput 4 Z else zput (lev (tkc b n q) - 1) Z) = zput 4 Z := if_pos l4
            have n4 : ¬ (lev (tkc b n q) = 4 ∧ ztl (zput 4 Z) = 4) := fun z => by omega
            have rr2 : xR h2 45 4 = 24 := (gp.2.2 45 4 rfl).trans r4
            have ef2 : (xI h2 45 2).toInt = 0 := by rw [gp.2.1 45 2 rfl]; exact f0
            have j6 := J5 6 (by omega) (by omega) (by omega) (by omega)
            have JB := J1.b
            have m1 := ko4.1
            have m2 := ko4.2.1
            have m3 := ks4.1
            have m4 := ks4.2.1
            have t102 : XT l 2 44 false 61 153 6051 98 [xf 7 45, xi r1] [xi (r1 - (Int32.ofInt (1))), xf 7 45] h1 101 [xf 7 45, xi r1] [] h2 := XT_call (l := l) (fr := 2) (lo := 44) (full := false) (M := 61) (n := 153) (u := 6051) (pc := 98) (L := [xf 7 45, xi r1]) (st := [xi (r1 - (Int32.ofInt (1))), xf 7 45]) (h := h1) (i := .invokevirtual 62) (aux := 2) (nx := 101) (K := 62) (vs := [xf 7 45, xi (r1 - (Int32.ofInt (1)))]) (rs := []) (rest := []) rfl rfl rfl rfl rfl rfl c5 (by decide) (by decide) (Nat.le_of_ble_eq_true rfl) ⟨Nat.le_of_eq gp.1.2.2.2.1, Nat.le_of_eq gp.1.2.2.2.2⟩
            have t103 := t101.tr t102
            have t104 : XT l 2 44 false 61 153 6051 101 [xf 7 45, xi r1] [] h2 102 [xf 7 45, xi r1] [xf 7 45] h2 := XT_path (l := l) (fr := 2) (lo := 44) (full := false) (M := 61) (n := 153) (u := 6051) (pc := 101) (L := [xf 7 45, xi r1]) (st := []) (h := h2) (inl := [39, 63]) (n' := 120) (sp := [102]) (o := []) rfl rfl ⟨rfl, rfl, rfl⟩ rfl ⟨Nat.le_of_eq gp.1.2.2.2.1, Nat.le_of_eq gp.1.2.2.2.2⟩ trivial
            have t105 := t103.tr t104
            obtain ⟨h3, c6, o1⟩ := ck_cnt24 l h2 gp.1 ef2 rr2
            rcases o1 with ⟨cl1, cg, ca⟩ | ⟨cl1, cg, ca, cb⟩
            · have t106 : XT l 2 44 false 61 153 6051 102 [xf 7 45, xi r1] [xf 7 45] h2 105 [xf 7 45, xi r1] [] h3 := XT_call (l := l) (fr := 2) (lo := 44) (full := false) (M := 61) (n := 153) (u := 6051) (pc := 102) (L := [xf 7 45, xi r1]) (st := [xf 7 45]) (h := h2) (i := .invokevirtual 59) (aux := 1) (nx := 105) (K := 59) (vs := [xf 7 45]) (rs := []) (rest := []) rfl rfl rfl rfl rfl rfl c6 (by decide) (by decide) (Nat.le_of_ble_eq_true rfl) ⟨Nat.le_of_eq cg.1.2.2.2.1, Nat.le_of_eq cg.1.2.2.2.2⟩
              have t107 := t105.tr t106
              have t108 : XT l 2 44 false 61 153 6051 105 [xf 7 45, xi r1] [] h3 106 [xf 7 45, xi r1] [xf 7 45] h3 := XT_path (l := l) (fr := 2) (lo := 44) (full := false) (M := 61) (n := 153) (u := 6051) (pc := 105) (L := [xf 7 45, xi r1]) (st := []) (h := h3) (inl := [39, 63]) (n' := 120) (sp := [106]) (o := []) rfl rfl ⟨rfl, rfl, rfl⟩ rfl ⟨Nat.le_of_eq cg.1.2.2.2.1, Nat.le_of_eq cg.1.2.2.2.2⟩ trivial
              have t109 := t107.tr t108
              obtain ⟨h4, c7, g4, a12, ap, ar⟩ := ck_push l h3 cg.1 (by rw [cg.2.1 45 12 rfl]; omega)
              have t110 : XT l 2 44 false 61 153 6051 106 [xf 7 45, xi r1] [xf 7 45] h3 109 [xf 7 45, xi r1] [] h4 := XT_call (l := l) (fr := 2) (lo := 44) (full := false) (M := 61) (n := 153) (u := 6051) (pc := 106) (L := [xf 7 45, xi r1]) (st := [xf 7 45]) (h := h3) (i := .invokevirtual 55) (aux := 1) (nx := 109) (K := 55) (vs := [xf 7 45]) (rs := []) (rest := []) rfl rfl rfl rfl rfl rfl c7 (by decide) (by decide) (Nat.le_of_ble_eq_true rfl) ⟨Nat.le_of_eq g4.1.2.2.2.1, Nat.le_of_eq g4.1.2.2.2.2⟩
              have t111 := t109.tr t110
              have t112 : XT l 2 44 false 61 153 6051 109 [xf 7 45, xi r1] [] h4 110 [xf 7 45, xi r1] [xi (Int32.ofInt (1))] h4 := XT_path (l := l) (fr := 2) (lo := 44) (full := false) (M := 61) (n := 153) (u := 6051) (pc := 109) (L := [xf 7 45, xi r1]) (st := []) (h := h4) (inl := [39, 63]) (n' := 120) (sp := [110]) (o := []) rfl rfl ⟨rfl, rfl, rfl⟩ rfl ⟨Nat.le_of_eq g4.1.2.2.2.1, Nat.le_of_eq g4.1.2.2.2.2⟩ trivial
              have t113 := t111.tr t112
              have n6 : ¬ ((tkc b n q) = 6 ∧ 0 < Z 12) := by omega
              have n0 : ¬ (lev (tkc b n q) = 0 ∨ (tkc b n q) = 32) := by omega
              have o1 := g4.2.1
              have o0 := cg.2.1
              have op := gp.2.1
              have es := zst_s (c := (tkc b n q)) (v := (tkv b n q)) h13 n0 n4 (by omega)
              rw [zb] at es
              have ys : ∀ i : Nat, i ≠ 11 → i ≠ 6 → i ≠ 13 → i ≠ 700 + ((zput 4 Z) 11).toNat → (zs (zpush (zs (zput 4 Z) 6 ((zput 4 Z) 6 + 1)) (tkc b n q)) 13 1) i = (zput 4 Z) i := fun i h1 h2 h3 h4 => by rw [zs_ne h3, zpush_h h1 (by rw [zs_ne (by omega)]; exact h4), zs_ne h2]
              rw [o0 45 12 rfl] at a12 ap ar
              rw [o0 45 7 rfl, op 45 7 rfl] at ap
              rw [es]
              dsimp only
              refine ⟨_, _, CX_ofT (h' := h4) (by decide) rfl rfl ⟨trivial, (Or.inr rfl)⟩ ⟨_, _, _, rfl, rfl, rfl⟩ rfl ⟨Nat.le_of_eq g4.1.2.2.2.1.symm, Nat.le_of_eq g4.1.2.2.2.2.symm⟩ t113, (vG.tr (W := ([(39, 5, false), (39, 6, false), (40, 0, true), (41, 0, true), (45, 2, false), (45, 3, false), (45, 12, false), (45, 13, false), (47, 0, true)], [])) (a := h) (b := h2) ⟨gp.1, gp.2.mono rfl rfl⟩ (vG.tr (W := ([(39, 5, false), (39, 6, false), (40, 0, true), (41, 0, true), (45, 2, false), (45, 3, false), (45, 12, false), (45, 13, false), (47, 0, true)], [])) (a := h2) (b := h3) (c := h4) ⟨cg.1, cg.2.mono rfl rfl⟩ ⟨g4.1, g4.2.mono rfl rfl⟩)), Or.inl ⟨rfl, ?_, ?_, (Or.inr rfl), ?_, ?_, ?_⟩⟩
              · rw [o1 45 2 rfl, o0 45 2 rfl]; exact ef2
              · show (1 : Int) = _; rw [zs_same]
              · exact kt.fr (fun k hk => by rcases hk with rfl | rfl | rfl | rfl | rfl | rfl <;> exact (o1 45 _ rfl).trans ((o0 45 _ rfl).trans (op 45 _ rfl))) (fun k => (o1 46 k rfl).trans ((o0 46 k rfl).trans (op 46 k rfl)))
              · exact ko4.fr ((o1 39 5 rfl).trans (o0 39 5 rfl)) (by rw [o1 39 6 rfl, ca, zs_ne (by omega), zpush_o (by omega) (by omega), zs_same]; omega) (fun k => (o1 40 k rfl).trans (o0 40 k rfl)) (fun k => (o1 41 k rfl).trans (o0 41 k rfl)) (ys 10 (by omega) (by omega) (by omega) (by omega)) (fun k hk => ⟨ys _ (by omega) (by omega) (by omega) (by omega), ys _ (by omega) (by omega) (by omega) (by omega)⟩)
              · refine ks4.push (by omega) a12 ?_ ?_ (fun k hk => ?_) ?_ (fun k hk => ys _ (by omega) (by omega) (by omega) (by omega))
                · rw [o1 45 13 rfl, o0 45 13 rfl, ys 12 (by omega) (by omega) (by omega) (by omega)]; exact m4
                · rw [ap, kc, zs_ne (by omega), show (700 + ((zput 4 Z) 11).toNat) = 700 + (zs (zput 4 Z) 6 ((zput 4 Z) 6 + 1) 11).toNat from by rw [zs_ne (by omega)]]; exact zpush_t.symm
                · rw [ar k hk]; exact o0 47 k rfl
                · rw [zs_ne (by omega), zpush_11, zs_ne (by omega)]
            · have t114 : XT l 2 44 false 61 153 6051 102 [xf 7 45, xi r1] [xf 7 45] h2 105 [xf 7 45, xi r1] [] h3 := XT_call (l := l) (fr := 2) (lo := 44) (full := false) (M := 61) (n := 153) (u := 6051) (pc := 102) (L := [xf 7 45, xi r1]) (st := [xf 7 45]) (h := h2) (i := .invokevirtual 59) (aux := 1) (nx := 105) (K := 59) (vs := [xf 7 45]) (rs := []) (rest := []) rfl rfl rfl rfl rfl rfl c6 (by decide) (by decide) (Nat.le_of_ble_eq_true rfl) ⟨Nat.le_of_eq cg.1.2.2.2.1, Nat.le_of_eq cg.1.2.2.2.2⟩
              have t115 := t105.tr t114
              have t116 : XT l 2 44 false 61 153 6051 105 [xf 7 45, xi r1] [] h3 106 [xf 7 45, xi r1] [xf 7 45] h3 := XT_path (l := l) (fr := 2) (lo := 44) (full := false) (M := 61) (n := 153) (u := 6051) (pc := 105) (L := [xf 7 45, xi r1]) (st := []) (h := h3) (inl := [39, 63]) (n' := 120) (sp := [106]) (o := []) rfl rfl ⟨rfl, rfl, rfl⟩ rfl ⟨Nat.le_of_eq cg.1.2.2.2.1, Nat.le_of_eq cg.1.2.2.2.2⟩ trivial
              have t117 := t115.tr t116
              obtain ⟨h4, c7, g4⟩ := ck_pushA l h3 cg.1
              have t118 : XT l 2 44 false 61 153 6051 106 [xf 7 45, xi r1] [xf 7 45] h3 109 [xf 7 45, xi r1] [] h4 := XT_call (l := l) (fr := 2) (lo := 44) (full := false) (M := 61) (n := 153) (u := 6051) (pc := 106) (L := [xf 7 45, xi r1]) (st := [xf 7 45]) (h := h3) (i := .invokevirtual 55) (aux := 1) (nx := 109) (K := 55) (vs := [xf 7 45]) (rs := []) (rest := []) rfl rfl rfl rfl rfl rfl c7 (by decide) (by decide) (Nat.le_of_ble_eq_true rfl) ⟨Nat.le_of_eq g4.1.2.2.2.1, Nat.le_of_eq g4.1.2.2.2.2⟩
              have t119 := t117.tr t118
              have t120 : XT l 2 44 false 61 153 6051 109 [xf 7 45, xi r1] [] h4 110 [xf 7 45, xi r1] [xi (Int32.ofInt (1))] h4 := XT_path (l := l) (fr := 2) (lo := 44) (full := false) (M := 61) (n := 153) (u := 6051) (pc := 109) (L := [xf 7 45, xi r1]) (st := []) (h := h4) (inl := [39, 63]) (n' := 120) (sp := [110]) (o := []) rfl rfl ⟨rfl, rfl, rfl⟩ rfl ⟨Nat.le_of_eq g4.1.2.2.2.1, Nat.le_of_eq g4.1.2.2.2.2⟩ trivial
              have t121 := t119.tr t120
              have n6 : ¬ ((tkc b n q) = 6 ∧ 0 < Z 12) := by omega
              have n0 : ¬ (lev (tkc b n q) = 0 ∨ (tkc b n q) = 32) := by omega
              have o1 := g4.2.1
              have o0 := cg.2.1
              have op := gp.2.1
              have es := zst_s2 (c := (tkc b n q)) (v := (tkv b n q)) h13 n0 n4 (by omega)
              exact ⟨_, _, CX_ofT (h' := h4) (by decide) rfl rfl ⟨trivial, (Or.inr rfl)⟩ ⟨_, _, _, rfl, rfl, rfl⟩ rfl ⟨Nat.le_of_eq g4.1.2.2.2.1.symm, Nat.le_of_eq g4.1.2.2.2.2.symm⟩ t121, (vG.tr (W := ([(39, 5, false), (39, 6, false), (40, 0, true), (41, 0, true), (45, 2, false), (45, 3, false), (45, 12, false), (45, 13, false), (47, 0, true)], [])) (a := h) (b := h2) ⟨gp.1, gp.2.mono rfl rfl⟩ (vG.tr (W := ([(39, 5, false), (39, 6, false), (40, 0, true), (41, 0, true), (45, 2, false), (45, 3, false), (45, 12, false), (45, 13, false), (47, 0, true)], [])) (a := h2) (b := h3) (c := h4) ⟨cg.1, cg.2.mono rfl rfl⟩ ⟨g4.1, g4.2.mono rfl rfl⟩)), Or.inr ⟨by rw [es]; exact (by decide : ¬ (2 : Int) = 0), by rw [es, o1 45 2 rfl]; exact ca, by rw [o1 45 3 rfl, cb, op 45 8 rfl]; exact kq, kr.fr (by rw [o1 45 5 rfl, o0 45 5 rfl, op 45 5 rfl]) (fun k => by rw [o1 46 k rfl, o0 46 k rfl, op 46 k rfl])⟩⟩
        · have dcb88 : ¬ (r1).toInt = (r2).toInt := fun z_ => cb88 (Int32.toInt_inj.mp z_)
          have t122 : XT l 2 44 false 61 153 6051 71 [xf 7 45, xi r1] [xi r2, xi r1] h 98 [xf 7 45, xi r1] [xi (r1 - (Int32.ofInt (1))), xf 7 45] h := XT_path (l := l) (fr := 2) (lo := 44) (full := false) (M := 61) (n := 153) (u := 6051) (pc := 71) (L := [xf 7 45, xi r1]) (st := [xi r2, xi r1]) (h := h) (inl := [39, 63]) (n' := 120) (sp := [98]) (o := [1]) rfl rfl ⟨rfl, rfl, rfl⟩ rfl ⟨Nat.le_of_eq hg.2.2.2.1, Nat.le_of_eq hg.2.2.2.2⟩ ⟨trivial, cb88⟩
          have t123 := t87.tr t122
          have yl := y_pred (k := r1) (by omega) (by omega)
          obtain ⟨h2, c5, g2, ko4, ks4⟩ := ck_put24 l f (r1 - (Int32.ofInt (1))) (by omega) Z h hg r4 ko ks I h13
          rw [show ((r1 - (Int32.ofInt (1)))).toInt = lev (tkc b n q) - 1 from by omega] at ko4 ks4
          obtain ⟨J1, J2, J3, J4, J5, J6, J7, J8⟩ := zInv_put (lv := lev (tkc b n q) - 1) (by omega) I h13
          have gp : vG ([(39, 5, false), (40, 0, true), (41, 0, true), (45, 12, false)], []) h h2 := g2
          have zb : (if lev (tkc b n q) = 4 then zput 4 Z else zput (lev (tkc b n q) - 1) Z) = zput (lev (tkc b n q) - 1) Z := if_neg (by omega)
          have n4 : ¬ (lev (tkc b n q) = 4 ∧ ztl (zput 4 Z) = 4) := fun z => by omega
          have rr2 : xR h2 45 4 = 24 := (gp.2.2 45 4 rfl).trans r4
          have ef2 : (xI h2 45 2).toInt = 0 := by rw [gp.2.1 45 2 rfl]; exact f0
          have j6 := J5 6 (by omega) (by omega) (by omega) (by omega)
          have JB := J1.b
          have m1 := ko4.1
          have m2 := ko4.2.1
          have m3 := ks4.1
          have m4 := ks4.2.1
          have t124 : XT l 2 44 false 61 153 6051 98 [xf 7 45, xi r1] [xi (r1 - (Int32.ofInt (1))), xf 7 45] h 101 [xf 7 45, xi r1] [] h2 := XT_call (l := l) (fr := 2) (lo := 44) (full := false) (M := 61) (n := 153) (u := 6051) (pc := 98) (L := [xf 7 45, xi r1]) (st := [xi (r1 - (Int32.ofInt (1))), xf 7 45]) (h := h) (i := .invokevirtual 62) (aux := 2) (nx := 101) (K := 62) (vs := [xf 7 45, xi (r1 - (Int32.ofInt (1)))]) (rs := []) (rest := []) rfl rfl rfl rfl rfl rfl c5 (by decide) (by decide) (Nat.le_of_ble_eq_true rfl) ⟨Nat.le_of_eq gp.1.2.2.2.1, Nat.le_of_eq gp.1.2.2.2.2⟩
          have t125 := t123.tr t124
          have t126 : XT l 2 44 false 61 153 6051 101 [xf 7 45, xi r1] [] h2 102 [xf 7 45, xi r1] [xf 7 45] h2 := XT_path (l := l) (fr := 2) (lo := 44) (full := false) (M := 61) (n := 153) (u := 6051) (pc := 101) (L := [xf 7 45, xi r1]) (st := []) (h := h2) (inl := [39, 63]) (n' := 120) (sp := [102]) (o := []) rfl rfl ⟨rfl, rfl, rfl⟩ rfl ⟨Nat.le_of_eq gp.1.2.2.2.1, Nat.le_of_eq gp.1.2.2.2.2⟩ trivial
          have t127 := t125.tr t126
          obtain ⟨h3, c6, o1⟩ := ck_cnt24 l h2 gp.1 ef2 rr2
          rcases o1 with ⟨cl1, cg, ca⟩ | ⟨cl1, cg, ca, cb⟩
          · have t128 : XT l 2 44 false 61 153 6051 102 [xf 7 45, xi r1] [xf 7 45] h2 105 [xf 7 45, xi r1] [] h3 := XT_call (l := l) (fr := 2) (lo := 44) (full := false) (M := 61) (n := 153) (u := 6051) (pc := 102) (L := [xf 7 45, xi r1]) (st := [xf 7 45]) (h := h2) (i := .invokevirtual 59) (aux := 1) (nx := 105) (K := 59) (vs := [xf 7 45]) (rs := []) (rest := []) rfl rfl rfl rfl rfl rfl c6 (by decide) (by decide) (Nat.le_of_ble_eq_true rfl) ⟨Nat.le_of_eq cg.1.2.2.2.1, Nat.le_of_eq cg.1.2.2.2.2⟩
            have t129 := t127.tr t128
            have t130 : XT l 2 44 false 61 153 6051 105 [xf 7 45, xi r1] [] h3 106 [xf 7 45, xi r1] [xf 7 45] h3 := XT_path (l := l) (fr := 2) (lo := 44) (full := false) (M := 61) (n := 153) (u := 6051) (pc := 105) (L := [xf 7 45, xi r1]) (st := []) (h := h3) (inl := [39, 63]) (n' := 120) (sp := [106]) (o := []) rfl rfl ⟨rfl, rfl, rfl⟩ rfl ⟨Nat.le_of_eq cg.1.2.2.2.1, Nat.le_of_eq cg.1.2.2.2.2⟩ trivial
            have t131 := t129.tr t130
            obtain ⟨h4, c7, g4, a12, ap, ar⟩ := ck_push l h3 cg.1 (by rw [cg.2.1 45 12 rfl]; omega)
            have t132 : XT l 2 44 false 61 153 6051 106 [xf 7 45, xi r1] [xf 7 45] h3 109 [xf 7 45, xi r1] [] h4 := XT_call (l := l) (fr := 2) (lo := 44) (full := false) (M := 61) (n := 153) (u := 6051) (pc := 106) (L := [xf 7 45, xi r1]) (st := [xf 7 45]) (h := h3) (i := .invokevirtual 55) (aux := 1) (nx := 109) (K := 55) (vs := [xf 7 45]) (rs := []) (rest := []) rfl rfl rfl rfl rfl rfl c7 (by decide) (by decide) (Nat.le_of_ble_eq_true rfl) ⟨Nat.le_of_eq g4.1.2.2.2.1, Nat.le_of_eq g4.1.2.2.2.2⟩
            have t133 := t131.tr t132
            have t134 : XT l 2 44 false 61 153 6051 109 [xf 7 45, xi r1] [] h4 110 [xf 7 45, xi r1] [xi (Int32.ofInt (1))] h4 := XT_path (l := l) (fr := 2) (lo := 44) (full := false) (M := 61) (n := 153) (u := 6051) (pc := 109) (L := [xf 7 45, xi r1]) (st := []) (h := h4) (inl := [39, 63]) (n' := 120) (sp := [110]) (o := []) rfl rfl ⟨rfl, rfl, rfl⟩ rfl ⟨Nat.le_of_eq g4.1.2.2.2.1, Nat.le_of_eq g4.1.2.2.2.2⟩ trivial
            have t135 := t133.tr t134
            have n6 : ¬ ((tkc b n q) = 6 ∧ 0 < Z 12) := by omega
            have n0 : ¬ (lev (tkc b n q) = 0 ∨ (tkc b n q) = 32) := by omega
            have o1 := g4.2.1
            have o0 := cg.2.1
            have op := gp.2.1
            have es := zst_s (c := (tkc b n q)) (v := (tkv b n q)) h13 n0 n4 (by omega)
            rw [zb] at es
            have ys : ∀ i : Nat, i ≠ 11 → i ≠ 6 → i ≠ 13 → i ≠ 700 + ((zput (lev (tkc b n q) - 1) Z) 11).toNat → (zs (zpush (zs (zput (lev (tkc b n q) - 1) Z) 6 ((zput (lev (tkc b n q) - 1) Z) 6 + 1)) (tkc b n q)) 13 1) i = (zput (lev (tkc b n q) - 1) Z) i := fun i h1 h2 h3 h4 => by rw [zs_ne h3, zpush_h h1 (by rw [zs_ne (by omega)]; exact h4), zs_ne h2]
            rw [o0 45 12 rfl] at a12 ap ar
            rw [o0 45 7 rfl, op 45 7 rfl] at ap
            rw [es]
            dsimp only
            refine ⟨_, _, CX_ofT (h' := h4) (by decide) rfl rfl ⟨trivial, (Or.inr rfl)⟩ ⟨_, _, _, rfl, rfl, rfl⟩ rfl ⟨Nat.le_of_eq g4.1.2.2.2.1.symm, Nat.le_of_eq g4.1.2.2.2.2.symm⟩ t135, (vG.tr (W := ([(39, 5, false), (39, 6, false), (40, 0, true), (41, 0, true), (45, 2, false), (45, 3, false), (45, 12, false), (45, 13, false), (47, 0, true)], [])) (a := h) (b := h2) ⟨gp.1, gp.2.mono rfl rfl⟩ (vG.tr (W := ([(39, 5, false), (39, 6, false), (40, 0, true), (41, 0, true), (45, 2, false), (45, 3, false), (45, 12, false), (45, 13, false), (47, 0, true)], [])) (a := h2) (b := h3) (c := h4) ⟨cg.1, cg.2.mono rfl rfl⟩ ⟨g4.1, g4.2.mono rfl rfl⟩)), Or.inl ⟨rfl, ?_, ?_, (Or.inr rfl), ?_, ?_, ?_⟩⟩
            · rw [o1 45 2 rfl, o0 45 2 rfl]; exact ef2
            · show (1 : Int) = _; rw [zs_same]
            · exact kt.fr (fun k hk => by rcases hk with rfl | rfl | rfl | rfl | rfl | rfl <;> exact (o1 45 _ rfl).trans ((o0 45 _ rfl).trans (op 45 _ rfl))) (fun k => (o1 46 k rfl).trans ((o0 46 k rfl).trans (op 46 k rfl)))
            · exact ko4.fr ((o1 39 5 rfl).trans (o0 39 5 rfl)) (by rw [o1 39 6 rfl, ca, zs_ne (by omega), zpush_o (by omega) (by omega), zs_same]; omega) (fun k => (o1 40 k rfl).trans (o0 40 k rfl)) (fun k => (o1 41 k rfl).trans (o0 41 k rfl)) (ys 10 (by omega) (by omega) (by omega) (by omega)) (fun k hk => ⟨ys _ (by omega) (by omega) (by omega) (by omega), ys _ (by omega) (by omega) (by omega) (by omega)⟩)
            · refine ks4.push (by omega) a12 ?_ ?_ (fun k hk => ?_) ?_ (fun k hk => ys _ (by omega) (by omega) (by omega) (by omega))
              · rw [o1 45 13 rfl, o0 45 13 rfl, ys 12 (by omega) (by omega) (by omega) (by omega)]; exact m4
              · rw [ap, kc, zs_ne (by omega), show (700 + ((zput (lev (tkc b n q) - 1) Z) 11).toNat) = 700 + (zs (zput (lev (tkc b n q) - 1) Z) 6 ((zput (lev (tkc b n q) - 1) Z) 6 + 1) 11).toNat from by rw [zs_ne (by omega)]]; exact zpush_t.symm
              · rw [ar k hk]; exact o0 47 k rfl
              · rw [zs_ne (by omega), zpush_11, zs_ne (by omega)]
          · have t136 : XT l 2 44 false 61 153 6051 102 [xf 7 45, xi r1] [xf 7 45] h2 105 [xf 7 45, xi r1] [] h3 := XT_call (l := l) (fr := 2) (lo := 44) (full := false) (M := 61) (n := 153) (u := 6051) (pc := 102) (L := [xf 7 45, xi r1]) (st := [xf 7 45]) (h := h2) (i := .invokevirtual 59) (aux := 1) (nx := 105) (K := 59) (vs := [xf 7 45]) (rs := []) (rest := []) rfl rfl rfl rfl rfl rfl c6 (by decide) (by decide) (Nat.le_of_ble_eq_true rfl) ⟨Nat.le_of_eq cg.1.2.2.2.1, Nat.le_of_eq cg.1.2.2.2.2⟩
            have t137 := t127.tr t136
            have t138 : XT l 2 44 false 61 153 6051 105 [xf 7 45, xi r1] [] h3 106 [xf 7 45, xi r1] [xf 7 45] h3 := XT_path (l := l) (fr := 2) (lo := 44) (full := false) (M := 61) (n := 153) (u := 6051) (pc := 105) (L := [xf 7 45, xi r1]) (st := []) (h := h3) (inl := [39, 63]) (n' := 120) (sp := [106]) (o := []) rfl rfl ⟨rfl, rfl, rfl⟩ rfl ⟨Nat.le_of_eq cg.1.2.2.2.1, Nat.le_of_eq cg.1.2.2.2.2⟩ trivial
            have t139 := t137.tr t138
            obtain ⟨h4, c7, g4⟩ := ck_pushA l h3 cg.1
            have t140 : XT l 2 44 false 61 153 6051 106 [xf 7 45, xi r1] [xf 7 45] h3 109 [xf 7 45, xi r1] [] h4 := XT_call (l := l) (fr := 2) (lo := 44) (full := false) (M := 61) (n := 153) (u := 6051) (pc := 106) (L := [xf 7 45, xi r1]) (st := [xf 7 45]) (h := h3) (i := .invokevirtual 55) (aux := 1) (nx := 109) (K := 55) (vs := [xf 7 45]) (rs := []) (rest := []) rfl rfl rfl rfl rfl rfl c7 (by decide) (by decide) (Nat.le_of_ble_eq_true rfl) ⟨Nat.le_of_eq g4.1.2.2.2.1, Nat.le_of_eq g4.1.2.2.2.2⟩
            have t141 := t139.tr t140
            have t142 : XT l 2 44 false 61 153 6051 109 [xf 7 45, xi r1] [] h4 110 [xf 7 45, xi r1] [xi (Int32.ofInt (1))] h4 := XT_path (l := l) (fr := 2) (lo := 44) (full := false) (M := 61) (n := 153) (u := 6051) (pc := 109) (L := [xf 7 45, xi r1]) (st := []) (h := h4) (inl := [39, 63]) (n' := 120) (sp := [110]) (o := []) rfl rfl ⟨rfl, rfl, rfl⟩ rfl ⟨Nat.le_of_eq g4.1.2.2.2.1, Nat.le_of_eq g4.1.2.2.2.2⟩ trivial
            have t143 := t141.tr t142
            have n6 : ¬ ((tkc b n q) = 6 ∧ 0 < Z 12) := by omega
            have n0 : ¬ (lev (tkc b n q) = 0 ∨ (tkc b n q) = 32) := by omega
            have o1 := g4.2.1
            have o0 := cg.2.1
            have op := gp.2.1
            have es := zst_s2 (c := (tkc b n q)) (v := (tkv b n q)) h13 n0 n4 (by omega)
            exact ⟨_, _, CX_ofT (h' := h4) (by decide) rfl rfl ⟨trivial, (Or.inr rfl)⟩ ⟨_, _, _, rfl, rfl, rfl⟩ rfl ⟨Nat.le_of_eq g4.1.2.2.2.1.symm, Nat.le_of_eq g4.1.2.2.2.2.symm⟩ t143, (vG.tr (W := ([(39, 5, false), (39, 6, false), (40, 0, true), (41, 0, true), (45, 2, false), (45, 3, false), (45, 12, false), (45, 13, false), (47, 0, true)], [])) (a := h) (b := h2) ⟨gp.1, gp.2.mono rfl rfl⟩ (vG.tr (W := ([(39, 5, false), (39, 6, false), (40, 0, true), (41, 0, true), (45, 2, false), (45, 3, false), (45, 12, false), (45, 13, false), (47, 0, true)], [])) (a := h2) (b := h3) (c := h4) ⟨cg.1, cg.2.mono rfl rfl⟩ ⟨g4.1, g4.2.mono rfl rfl⟩)), Or.inr ⟨by rw [es]; exact (by decide : ¬ (2 : Int) = 0), by rw [es, o1 45 2 rfl]; exact ca, by rw [o1 45 3 rfl, cb, op 45 8 rfl]; exact kq, kr.fr (by rw [o1 45 5 rfl, o0 45 5 rfl, op 45 5 rfl]) (fun k => by rw [o1 46 k rfl, o0 46 k rfl, op 46 k rfl])⟩⟩
