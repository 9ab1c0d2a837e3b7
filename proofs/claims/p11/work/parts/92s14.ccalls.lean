/-! THE CLASS'S CALLS THAT CHANGE THE WORLD. -/
def zup (Y : Nat → Int32) (i : Nat) (v : Int32) : Nat → Int32 := fun k => if k = i then v else Y k
theorem zup_s {Y : Nat → Int32} {i : Nat} {v : Int32} : zup Y i v i = v := if_pos rfl
theorem zup_o {Y : Nat → Int32} {i k : Nat} {v : Int32} (h : ¬ k = i) : zup Y i v k = Y k := if_neg h
theorem zup_b {Y : Nat → Int32} {i : Nat} {v : Int32} : zup (zup Y i v) i (Y i) = Y := by
  funext k
  by_cases e : k = i
  · rw [e]
    exact zup_s
  · rw [zup_o e, zup_o e]
theorem zVd_cc {Z : Nat → Int} {Y : Nat → Int32} {p : Nat} {v : Int32} (B : zcB Z) (V : zVd Z Y) (hv : -1 ≤ v.toInt ∧ v.toInt ≤ 2) : zVd Z (zup Y (30 + p) v) := by
  obtain ⟨⟨-, B0⟩, -, ⟨-, B2⟩, -⟩ := B
  refine ⟨fun r hr => by rw [zup_o (by omega)]; exact V.1 r hr, fun q hq => by rw [zup_o (by omega)]; exact V.2.1 q hq, fun q hq => ?_⟩
  by_cases e : q = p
  · rw [e, zup_s]
    exact hv
  · rw [zup_o (by omega)]
    exact V.2.2 q hq
theorem zVd_mv {Z : Nat → Int} {Y : Nat → Int32} {p : Nat} {v : Int32} (B : zcB Z) (V : zVd Z Y) (hp : (p : Int) < Z 2) (hv : 0 ≤ v.toInt ∧ v.toInt < Z 0) : zVd Z (zup Y (20 + p) v) := by
  obtain ⟨⟨-, B0⟩, -, ⟨-, B2⟩, -⟩ := B
  refine ⟨fun r hr => by rw [zup_o (by omega)]; exact V.1 r hr, fun q hq => ?_, fun q hq => by rw [zup_o (by omega)]; exact V.2.2 q hq⟩
  by_cases e : q = p
  · rw [e, zup_s]
    exact hv
  · rw [zup_o (by omega)]
    exact V.2.1 q hq
theorem zVd_dc {Z : Nat → Int} {Y : Nat → Int32} {r : Nat} {v : Int32} (B : zcB Z) (V : zVd Z Y) (hr : (r : Int) < Z 0) (hv : 1 ≤ v.toInt ∧ v.toInt ≤ 9) : zVd Z (zup Y r v) := by
  obtain ⟨⟨-, B0⟩, -, ⟨-, B2⟩, -⟩ := B
  refine ⟨fun q hq => ?_, fun q hq => by rw [zup_o (by omega)]; exact V.2.1 q hq, fun q hq => by rw [zup_o (by omega)]; exact V.2.2 q hq⟩
  by_cases e : q = r
  · rw [e, zup_s]
    exact hv
  · rw [zup_o (by omega)]
    exact V.1 q hq
theorem zSm_cc {Y : Nat → Int32} {p : Nat} {v : Int32} (hp : p < 10) : zSm Y (zup Y (30 + p) v) := ⟨fun i hi => zup_o (by omega), zup_o (by omega)⟩
theorem kW.cc {w c p : Nat} {v : Int32} {Z : Nat → Int} {Y : Nat → Int32} {h h' : XH} (a : kW w c Z Y h) (B : zcB Z) (hp : (p : Int) < Z 2) (e1 : ∀ e k, (e = w ∨ e = w + 1 ∨ e = w + 4) → xI h' e k = xI h e k) (e5 : ∀ k, ¬ k = p → xI h' (w + 5) k = xI h (w + 5) k) (s5 : xI h' (w + 5) p = v) (er : xR h' w 0 = xR h w 0) : kW w c Z (zup Y (30 + p) v) h' := by
  obtain ⟨⟨-, B0⟩, -, ⟨-, B2⟩, -⟩ := B
  obtain ⟨a1, a2, a3, a4, a5, a6⟩ := a
  refine ⟨fun r hr => by rw [e1 _ _ (Or.inr (Or.inl rfl)), zup_o (by omega)]; exact a1 r hr, fun q hq => ⟨by rw [e1 _ _ (Or.inr (Or.inr rfl)), zup_o (by omega)]; exact (a2 q hq).1, ?_⟩, by rw [e1 _ _ (Or.inl rfl), zup_o (by omega)]; exact a3, by rw [e1 _ _ (Or.inl rfl), zup_o (by omega)]; exact a4, fun z => by rw [zup_o (by omega)] at z; rw [e1 _ _ (Or.inl rfl), zup_o (by omega)]; exact a5 z, er.trans a6⟩
  by_cases e : q = p
  · rw [e, s5, zup_s]
  · rw [e5 q e, zup_o (by omega)]
    exact (a2 q hq).2
theorem kW.mv {w c p : Nat} {v : Int32} {Z : Nat → Int} {Y : Nat → Int32} {h h' : XH} (a : kW w c Z Y h) (B : zcB Z) (hp : (p : Int) < Z 2) (e1 : ∀ e k, (e = w ∨ e = w + 1 ∨ e = w + 5) → xI h' e k = xI h e k) (e4 : ∀ q : Nat, (q : Int) < Z 2 → xI h' (w + 4) q = zup Y (20 + p) v (20 + q)) (er : xR h' w 0 = xR h w 0) : kW w c Z (zup Y (20 + p) v) h' := by
  obtain ⟨⟨-, B0⟩, -, ⟨-, B2⟩, -⟩ := B
  obtain ⟨a1, a2, a3, a4, a5, a6⟩ := a
  refine ⟨fun r hr => by rw [e1 _ _ (Or.inr (Or.inl rfl)), zup_o (by omega)]; exact a1 r hr, fun q hq => ⟨e4 q hq, by rw [e1 _ _ (Or.inr (Or.inr rfl)), zup_o (by omega)]; exact (a2 q hq).2⟩, by rw [e1 _ _ (Or.inl rfl), zup_o (by omega)]; exact a3, by rw [e1 _ _ (Or.inl rfl), zup_o (by omega)]; exact a4, fun z => by rw [zup_o (by omega)] at z; rw [e1 _ _ (Or.inl rfl), zup_o (by omega)]; exact a5 z, er.trans a6⟩
theorem kW.dc {w c r : Nat} {v : Int32} {Z : Nat → Int} {Y : Nat → Int32} {h h' : XH} (a : kW w c Z Y h) (B : zcB Z) (hr : (r : Int) < Z 0) (e1 : ∀ e k, (e = w ∨ e = w + 4 ∨ e = w + 5) → xI h' e k = xI h e k) (e5 : ∀ k, ¬ k = r → xI h' (w + 1) k = xI h (w + 1) k) (s5 : xI h' (w + 1) r = v) (er : xR h' w 0 = xR h w 0) : kW w c Z (zup Y r v) h' := by
  obtain ⟨⟨-, B0⟩, -, ⟨-, B2⟩, -⟩ := B
  obtain ⟨a1, a2, a3, a4, a5, a6⟩ := a
  refine ⟨fun q hq => ?_, fun q hq => ⟨by rw [e1 _ _ (Or.inr (Or.inl rfl)), zup_o (by omega)]; exact (a2 q hq).1, by rw [e1 _ _ (Or.inr (Or.inr rfl)), zup_o (by omega)]; exact (a2 q hq).2⟩, by rw [e1 _ _ (Or.inl rfl), zup_o (by omega)]; exact a3, by rw [e1 _ _ (Or.inl rfl), zup_o (by omega)]; exact a4, fun z => by rw [zup_o (by omega)] at z; rw [e1 _ _ (Or.inl rfl), zup_o (by omega)]; exact a5 z, er.trans a6⟩
  by_cases e : q = r
  · rw [e, s5, zup_s]
  · rw [e5 q e, zup_o (by omega)]
    exact a1 q hq
theorem kY.up {w : Nat} {i : Nat} {v : Int32} {Z : Nat → Int} {Y : Nat → Int32} {h : XH} (a : kY w Z Y h) (B : zcB Z) (hi : i < 10 ∨ (20 ≤ i ∧ i < 40)) : kY w Z (zup Y i v) h := a.sm B (fun k hk => zup_o (by omega))
theorem zsum_up {f g : Nat → Int32} {p : Nat} : ∀ {n : Nat}, (∀ k, k < n → ¬ k = p → g k = f k) → p < n → zsum g n = zsum f n - f p + g p
  | 0, _, h => absurd h (Nat.not_lt_zero _)
  | n + 1, e, h => by
    show zsum g n + g n = zsum f n + f n - f p + g p
    by_cases q : n = p
    · have z : zsum g n = zsum f n := zsum_eq (fun k hk => e k (by omega) (by omega))
      rw [q] at z
      rw [q, z, Int32.add_sub_cancel]
    · rw [zsum_up (n := n) (fun k hk y => e k (by omega) y) (by omega), e n (by omega) q, Int32.sub_eq_add_neg, Int32.sub_eq_add_neg]
      ac_rfl
theorem zCr_mv {Z : Nat → Int} {Y : Nat → Int32} {p q : Nat} {v : Int32} (hp : (p : Int) < Z 2) : zCr Z (zup Y (20 + p) v) q = zCr Z Y q - (if (Y (20 + p)).toInt = q then Int32.ofInt (1) else Int32.ofInt (0)) + (if v.toInt = q then Int32.ofInt (1) else Int32.ofInt (0)) := by
  have z := zsum_up (f := fun k => if (Y (20 + k)).toInt = q then Int32.ofInt (1) else Int32.ofInt (0)) (g := fun k => if (zup Y (20 + p) v (20 + k)).toInt = q then Int32.ofInt (1) else Int32.ofInt (0)) (p := p) (n := (Z 2).toNat) (fun k hk e => by
    show (if (zup Y (20 + p) v (20 + k)).toInt = q then Int32.ofInt (1) else Int32.ofInt (0)) = _
    rw [zup_o (by omega)]) (by omega)
  have s : (if (zup Y (20 + p) v (20 + p)).toInt = q then Int32.ofInt (1) else Int32.ofInt (0)) = (if v.toInt = q then Int32.ofInt (1) else Int32.ofInt (0)) := by rw [zup_s]
  rw [← s]
  exact z
theorem zCr_e {Z : Nat → Int} {Y X : Nat → Int32} {q : Nat} (e : ∀ p : Nat, (p : Int) < Z 2 → X (20 + p) = Y (20 + p)) : zCr Z X q = zCr Z Y q := zsum_eq (fun k hk => by
  show (if (X (20 + k)).toInt = q then Int32.ofInt (1) else Int32.ofInt (0)) = _
  rw [e k (by omega)])
/-! what was done by call -/
def kPa (n : Nat) (En : Nat → Int32 × Int32 × Int32) (h : XH) : Prop := (xI h 81 0).toInt = n ∧ ∀ k, k < n → xI h 82 k = (En k).1 ∧ xI h 83 k = (En k).2.1 ∧ xI h 84 k = (En k).2.2
def zpn (n : Nat) : Nat := if n < 20 then n + 1 else 20
def zpe (n : Nat) (En : Nat → Int32 × Int32 × Int32) (e : Int32 × Int32 × Int32) : Nat → Int32 × Int32 × Int32 := fun k => if n < 20 then (if k < n then En k else e) else (if k < 19 then En (k + 1) else e)
def zpu (n : Nat) (U : Nat → Nat → Int32) (X : Nat → Int32) : Nat → Nat → Int32 := fun k => if n < 20 then (if k ≤ n then U k else X) else (if k < 20 then U (k + 1) else X)
def zEn (Y : Nat → Int32) (e : Int32 × Int32 × Int32) : Nat → Int32 := if e.1.toInt = 0 then zup Y (30 + e.2.1.toInt.toNat) e.2.2 else if e.1.toInt = 1 then zup Y (20 + e.2.1.toInt.toNat) e.2.2 else zup Y e.2.1.toInt.toNat e.2.2
def zOk (Z : Nat → Int) (e : Int32 × Int32 × Int32) : Prop := (e.1.toInt = 0 ∧ (0 ≤ e.2.1.toInt ∧ e.2.1.toInt < Z 2) ∧ -1 ≤ e.2.2.toInt ∧ e.2.2.toInt ≤ 2) ∨ (e.1.toInt = 1 ∧ (0 ≤ e.2.1.toInt ∧ e.2.1.toInt < Z 2) ∧ 0 ≤ e.2.2.toInt ∧ e.2.2.toInt < Z 0) ∨ (e.1.toInt = 2 ∧ (0 ≤ e.2.1.toInt ∧ e.2.1.toInt < Z 0) ∧ 1 ≤ e.2.2.toInt ∧ e.2.2.toInt ≤ 9)
theorem kPa.q {L : List Nat} {n : Nat} {En : Nat → Int32 × Int32 × Int32} {h h' : XH} (a : kPa n En h) (x : mQ L h h') (hl : ∀ e ∈ L, e < 81 ∨ 84 < e) : kPa n En h' := by
  have f : ∀ c k, 81 ≤ c → c ≤ 84 → xI h' c k = xI h c k := fun c k c1 c2 => x.2.1 c k (fun y => by have := hl c y; omega)
  refine ⟨by rw [f 81 0 (by omega) (by omega)]; exact a.1, fun k hk => ?_⟩
  rw [f 82 k (by omega) (by omega), f 83 k (by omega) (by omega), f 84 k (by omega) (by omega)]
  exact a.2 k hk
theorem mQ.row {L : List Nat} {h h' : XH} {e : Nat} {g : Nat → Int32} (a : mQ L h h') (hv : ∀ k, (vI e k).1 ≤ (g k).toInt ∧ (g k).toInt ≤ (vI e k).2) (hl : e ∈ L) : mQ L h (xrowI h' e g) :=
  ⟨⟨sinv_row a.1.1 hv, trivial, trivial, a.1.2.2.2⟩, fun c k z => (yI_row (eq_false (fun y => z (by rw [y]; exact hl)))).trans (a.2.1 c k z), a.2.2⟩
theorem va_b {h : XH} {e : Nat} {q : SI} {s d n : Nat} (i : sinv vT h) (we : vWr e = true) (re : vRow e = q) (k : Nat) : (vI e k).1 ≤ (va_cpy (xI h e) (xI h e) s d n k).toInt ∧ (va_cpy (xI h e) (xI h e) s d n k).toInt ≤ (vI e k).2 := by
  rw [vI_u we re]
  rcases va_cpy_cases (f := xI h e) (g := xI h e) (s := s) (d := d) (k := n) (i := k) with ⟨j, z⟩ | z
  · rw [z]
    have := vbnd i e j
    rw [vI_u we re] at this
    exact this
  · rw [z]
    have := vbnd i e k
    rw [vI_u we re] at this
    exact this
theorem va_1 {f : Nat → Int32} {k : Nat} (hk : k < 19) : va_cpy f f 1 0 19 k = f (k + 1) := by
  unfold va_cpy
  rw [if_pos ⟨Nat.zero_le _, by omega⟩]
  congr 1
  omega
set_option maxRecDepth 100000 in
set_option maxHeartbeats 4000000 in
theorem ck_add (l : Launch) (x y z : Int32) (n : Nat) (En : Nat → Int32 × Int32 × Int32) (h : XH) (hg : mI h) (kp : kPa n En h) (bx : 0 ≤ x.toInt ∧ x.toInt ≤ 2) (by_ : 0 ≤ y.toInt ∧ y.toInt ≤ 7) (bz : -1 ≤ z.toInt ∧ z.toInt ≤ 9) : ∃ h', CX l 1 45 false 93 [xf 6 81, xi x, xi y, xi z] h [] h' ∧ mQ [81, 82, 83, 84] h h' ∧ kPa (zpn n) (zpe n En (x, y, z)) h' := by
  have hb : (0 : Int) ≤ (xI h 81 0).toInt ∧ (xI h 81 0).toInt ≤ 20 := vbnd hg.1 81 0
  have e20 : (20 : Int32).toInt = 20 := rfl
  have e19 : (19 : Int32).toInt = 19 := rfl
  obtain ⟨kn, ke⟩ := kp
  by_cases hs : xI h 81 0 < 20
  · have hs' := Int32.lt_iff_toInt_lt.mp hs
    obtain ⟨s1, es, cX⟩ := vh_add_run1 l h hg.1 x y z hs
    have nn : (xI h 81 0).toNatClampNeg = n := zi_ix kn
    rw [nn] at cX
    refine ⟨_, cX, ((((mQ.rf hg).set (by decide) (by rw [vI_u rfl (rfl : vRow 82 = (0, 2))]; exact ⟨by show (0 : Int) ≤ _; omega, by show _ ≤ (2 : Int); omega⟩)).set (by decide) (by rw [vI_u rfl (rfl : vRow 83 = (0, 7))]; exact ⟨by show (0 : Int) ≤ _; omega, by show _ ≤ (7 : Int); omega⟩)).set (by decide) (by rw [vI_u rfl (rfl : vRow 84 = (-1, 9))]; exact ⟨by show (-1 : Int) ≤ _; omega, by show _ ≤ (9 : Int); omega⟩)).set (by decide) (by show (0 : Int) ≤ _ ∧ _ ≤ 20; exact ⟨by omega, by omega⟩), ?_⟩
    have z1 : zpn n = n + 1 := if_pos (by omega)
    rw [z1]
    refine ⟨?_, fun k hk => ?_⟩
    · rw [yI_same, es, kn]
      rfl
    · have f : zpe n En (x, y, z) k = if k < n then En k else (x, y, z) := if_pos (by omega)
      rw [f]
      by_cases e : k < n
      · rw [if_pos e]
        refine ⟨?_, ?_, ?_⟩
        · rw [yI_c (by decide), yI_c (by decide), yI_c (by decide), yI_ne (eq_false (fun z => by have := z.2; omega))]
          exact (ke k e).1
        · rw [yI_c (by decide), yI_c (by decide), yI_ne (eq_false (fun z => by have := z.2; omega)), yI_c (by decide)]
          exact (ke k e).2.1
        · rw [yI_c (by decide), yI_ne (eq_false (fun z => by have := z.2; omega)), yI_c (by decide), yI_c (by decide)]
          exact (ke k e).2.2
      · have e2 : k = n := by omega
        rw [if_neg e, e2]
        refine ⟨?_, ?_, ?_⟩
        · rw [yI_c (by decide), yI_c (by decide), yI_c (by decide), yI_same]
        · rw [yI_c (by decide), yI_c (by decide), yI_same]
        · rw [yI_c (by decide), yI_same]
  · have hs' : ¬ (xI h 81 0).toInt < (20 : Int32).toInt := fun z => hs (Int32.lt_iff_toInt_lt.mpr z)
    obtain rfl : n = 20 := by omega
    have cX := vh_add_run2 l h hg.1 x y z hs
    refine ⟨_, cX, (((((((((mQ.rf hg).set (by decide) (by show (0 : Int) ≤ _ ∧ _ ≤ 20; exact ⟨by omega, by omega⟩)).row (va_b hg.1 rfl (rfl : vRow 82 = (0, 2))) (by decide)).row (va_b hg.1 rfl (rfl : vRow 83 = (0, 7))) (by decide)).row (va_b hg.1 rfl (rfl : vRow 84 = (-1, 9))) (by decide)).set (by decide) (by rw [vI_u rfl (rfl : vRow 82 = (0, 2))]; exact ⟨by show (0 : Int) ≤ _; omega, by show _ ≤ (2 : Int); omega⟩)).set (by decide) (by rw [vI_u rfl (rfl : vRow 83 = (0, 7))]; exact ⟨by show (0 : Int) ≤ _; omega, by show _ ≤ (7 : Int); omega⟩)).set (by decide) (by rw [vI_u rfl (rfl : vRow 84 = (-1, 9))]; exact ⟨by show (-1 : Int) ≤ _; omega, by show _ ≤ (9 : Int); omega⟩)).set (by decide) (by show (0 : Int) ≤ _ ∧ _ ≤ 20; exact ⟨by omega, by omega⟩)), ?_⟩
    refine ⟨?_, fun k hk => ?_⟩
    · rw [yI_same]
      rfl
    · have hk : k < 20 := hk
      have f : zpe 20 En (x, y, z) k = if k < 19 then En (k + 1) else (x, y, z) := if_neg (by decide)
      rw [f]
      by_cases e : k < 19
      · rw [if_pos e]
        refine ⟨?_, ?_, ?_⟩
        · rw [yI_c (by decide), yI_c (by decide), yI_c (by decide), yI_ne (eq_false (fun z => by have := z.2; omega)), yI_row (by decide), yI_row (by decide), yI_rowS, va_1 e]
          exact (ke (k + 1) (by omega)).1
        · rw [yI_c (by decide), yI_c (by decide), yI_ne (eq_false (fun z => by have := z.2; omega)), yI_c (by decide), yI_row (by decide), yI_rowS, va_1 e]
          exact (ke (k + 1) (by omega)).2.1
        · rw [yI_c (by decide), yI_ne (eq_false (fun z => by have := z.2; omega)), yI_c (by decide), yI_c (by decide), yI_rowS, va_1 e]
          exact (ke (k + 1) (by omega)).2.2
      · have e2 : k = 19 := by omega
        rw [if_neg e, e2]
        refine ⟨?_, ?_, ?_⟩
        · rw [yI_c (by decide), yI_c (by decide), yI_c (by decide), yI_same]
        · rw [yI_c (by decide), yI_c (by decide), yI_same]
        · rw [yI_c (by decide), yI_same]
set_option maxRecDepth 100000 in
set_option maxHeartbeats 4000000 in
theorem ck_settle (l : Launch) (Z : Nat → Int) (Y : Nat → Int32) (pp rr : Int32) (p r : Nat) (h : XH) (hg : mI h) (B : zcB Z) (V : zVd Z Y) (k4 : ∀ q : Nat, (q : Int) < Z 2 → xI h 52 q = Y (20 + q)) (ke : kE 48 Z Y h) (hp : pp.toInt = p) (lp : (p : Int) < Z 2) (hr : rr.toInt = r) (lr : (r : Int) < Z 0) : ∃ h', CX l 0 0 false 95 [xf 11 48, xi pp, xi rr] h [] h' ∧ mQ [52, 56] h h' ∧ (∀ q : Nat, (q : Int) < Z 2 → xI h' 52 q = zup Y (20 + p) rr (20 + q)) ∧ kE 48 Z (zup Y (20 + p) rr) h' := by
  obtain ⟨⟨B00, B01⟩, ⟨B10, B11⟩, ⟨B20, B21⟩, B30, B31⟩ := id B
  have np : pp.toNatClampNeg = p := zi_ix hp
  have nr : rr.toNatClampNeg = r := zi_ix hr
  have bh := V.2.1 p lp
  obtain ⟨O, hO⟩ : ∃ O : Nat, (Y (20 + p)).toInt = O := ⟨(Y (20 + p)).toInt.toNat, by omega⟩
  have eO : (xI h 52 pp.toNatClampNeg).toInt = O := by rw [np, k4 p lp]; exact hO
  have nO : (xI h 52 p).toNatClampNeg = O := zi_ix (by rw [← np]; exact eO)
  have t1 : XT l 0 0 false 95 153 6051 0 [xf 11 48, xi pp, xi rr] [] h 32 [xf 11 48, xi pp, xi rr] [] (xsetI (xsetI (xsetI h (xR h 48 9) ((xI h (xR h 48 4) (pp).toNatClampNeg)).toNatClampNeg ((xI h (xR h 48 9) ((xI h (xR h 48 4) (pp).toNatClampNeg)).toNatClampNeg) - (Int32.ofInt (1)))) (xR h 48 4) (pp).toNatClampNeg rr) (xR h 48 9) (rr).toNatClampNeg ((xI (xsetI (xsetI h (xR h 48 9) ((xI h (xR h 48 4) (pp).toNatClampNeg)).toNatClampNeg ((xI h (xR h 48 9) ((xI h (xR h 48 4) (pp).toNatClampNeg)).toNatClampNeg) - (Int32.ofInt (1)))) (xR h 48 4) (pp).toNatClampNeg rr) (xR h 48 9) (rr).toNatClampNeg) + (Int32.ofInt (1)))) := XT_path (l := l) (fr := 0) (lo := 0) (full := false) (M := 95) (n := 153) (u := 6051) (pc := 0) (L := [xf 11 48, xi pp, xi rr]) (st := []) (h := h) (inl := []) (n' := 80) (sp := [32]) (o := []) rfl rfl ⟨rfl, rfl, rfl⟩ rfl ⟨Nat.le_of_eq hg.2.2.2.1, Nat.le_of_eq hg.2.2.2.2⟩ ⟨⟨⟨⟨⟨⟨⟨⟨⟨⟨trivial, (vnn hg.1 (rfl : vRf 48 9 = [56]) (by decide))⟩, (vnn hg.1 (rfl : vRf 48 4 = [52]) (by decide))⟩, (vp_of (i := pp) (n := 8) (by omega) (by omega))⟩, (show vp_in ((xI h (xR h 48 4) (pp).toNatClampNeg)) (6) from (by rw [vref hg.1 (rfl : vRf 48 4 = [52])]; exact (vp_of (i := (xI h 52 (pp).toNatClampNeg)) (n := 6) (by omega) (by omega) : vp_in ((xI h 52 (pp).toNatClampNeg)) (6))))⟩, (show vp_in ((xI h (xR h 48 4) (pp).toNatClampNeg)) (6) from (by rw [vref hg.1 (rfl : vRf 48 4 = [52])]; exact (vp_of (i := (xI h 52 (pp).toNatClampNeg)) (n := 6) (by omega) (by omega) : vp_in ((xI h 52 (pp).toNatClampNeg)) (6))))⟩, (vnn hg.1 (rfl : vRf 48 4 = [52]) (by decide))⟩, (vp_of (i := pp) (n := 8) (by omega) (by omega))⟩, (vnn hg.1 (rfl : vRf 48 9 = [56]) (by decide))⟩, (vp_of (i := rr) (n := 6) (by omega) (by omega))⟩, (vp_of (i := rr) (n := 6) (by omega) (by omega))⟩
  rw [vref hg.1 (rfl : vRf 48 9 = [56]), vref hg.1 (rfl : vRf 48 4 = [52])] at t1
  have t2 : XT l 0 0 false 95 153 6051 0 [xf 11 48, xi pp, xi rr] [] h 32 [xf 11 48, xi pp, xi rr] [] (xsetI (xsetI (xsetI h 56 ((xI h 52 (pp).toNatClampNeg)).toNatClampNeg ((xI h 56 ((xI h 52 (pp).toNatClampNeg)).toNatClampNeg) - (Int32.ofInt (1)))) 52 (pp).toNatClampNeg rr) 56 (rr).toNatClampNeg ((xI (xsetI h 56 ((xI h 52 (pp).toNatClampNeg)).toNatClampNeg ((xI h 56 ((xI h 52 (pp).toNatClampNeg)).toNatClampNeg) - (Int32.ofInt (1)))) 56 (rr).toNatClampNeg) + (Int32.ofInt (1)))) := t1
  obtain ⟨hE, eE⟩ : ∃ x, x = (xsetI (xsetI (xsetI h 56 ((xI h 52 (pp).toNatClampNeg)).toNatClampNeg ((xI h 56 ((xI h 52 (pp).toNatClampNeg)).toNatClampNeg) - (Int32.ofInt (1)))) 52 (pp).toNatClampNeg rr) 56 (rr).toNatClampNeg ((xI (xsetI h 56 ((xI h 52 (pp).toNatClampNeg)).toNatClampNeg ((xI h 56 ((xI h 52 (pp).toNatClampNeg)).toNatClampNeg) - (Int32.ofInt (1)))) 56 (rr).toNatClampNeg) + (Int32.ofInt (1)))) := ⟨_, rfl⟩
  have eE2 : hE = xsetI (xsetI (xsetI h 56 O (xI h 56 O - (Int32.ofInt (1)))) 52 p rr) 56 r (xI (xsetI h 56 O (xI h 56 O - (Int32.ofInt (1)))) 56 r + (Int32.ofInt (1))) := by rw [eE]; simp only [np, nr, nO]
  rw [← eE] at t2
  have GE : mQ [52, 56] h hE := by rw [eE2]; exact (((mQ.rf hg).set (by decide) (by rw [vI_u rfl (rfl : vRow 56 = sfull)]; exact i32r_of _)).set (by decide) (by rw [vI_u rfl (rfl : vRow 52 = (0, 5))]; exact ⟨by show (0 : Int) ≤ _; omega, by show _ ≤ (5 : Int); omega⟩)).set (by decide) (by rw [vI_u rfl (rfl : vRow 56 = sfull)]; exact i32r_of _)
  have A1 : ∀ q : Nat, (q : Int) < Z 0 → xI (xsetI h 56 O (xI h 56 O - (Int32.ofInt (1)))) 56 q = zCr Z Y q - (if (Y (20 + p)).toInt = q then (Int32.ofInt (1)) else (Int32.ofInt (0))) := fun q hq => by
    by_cases e : q = O
    · rw [e] at hq; rw [e, yI_same, if_pos hO]; have z : xI h 56 O = zCr Z Y O := ke O hq; rw [z]
    · rw [yI_ne (eq_false (fun z => e z.2)), if_neg (by omega)]; exact (ke q hq).trans (Int32.sub_zero _).symm
  refine ⟨hE, CX_ofT (h' := hE) (by decide) rfl rfl trivial ⟨_, _, _, rfl, rfl, rfl⟩ rfl ⟨Nat.le_of_eq GE.1.2.2.2.1.symm, Nat.le_of_eq GE.1.2.2.2.2.symm⟩ t2, GE, fun q hq => ?_, fun q hq => ?_⟩
  · rw [eE2, yI_c (by decide)]
    by_cases e : q = p
    · rw [e, yI_same, zup_s]
    · rw [yI_ne (eq_false (fun z => e z.2)), yI_c (by decide), zup_o (by omega)]; exact k4 q hq
  · show xI hE 56 q = _
    rw [zCr_mv lp, eE2]
    by_cases e : q = r
    · rw [e] at hq; rw [e, yI_same, if_pos hr, A1 r hq]
    · rw [yI_ne (eq_false (fun z => e z.2)), yI_c (by decide), A1 q hq, if_neg (show ¬ rr.toInt = (q : Int) from by omega)]; exact (Int32.add_zero _).symm
def zCan (Z : Nat → Int) (Y : Nat → Int32) (pp vv : Int32) : Prop := (0 ≤ pp.toInt ∧ pp.toInt < Z 2) ∧ (-1 ≤ vv.toInt ∧ vv.toInt ≤ 1) ∧ ¬ (Y (30 + pp.toInt.toNat)).toInt = vv.toInt
def zDec (Z : Nat → Int) (Y : Nat → Int32) (rr ss : Int32) : Prop := (0 ≤ rr.toInt ∧ rr.toInt < Z 0) ∧ (1 ≤ ss.toInt ∧ ss.toInt ≤ 9) ∧ ¬ (Y rr.toInt.toNat).toInt = ss.toInt
def zMov (Z : Nat → Int) (Y : Nat → Int32) (pp rr : Int32) : Prop := (0 ≤ pp.toInt ∧ pp.toInt < Z 2) ∧ (0 ≤ rr.toInt ∧ rr.toInt < Z 0) ∧ ¬ (Y (20 + pp.toInt.toNat)).toInt = rr.toInt ∧ (zCr Z Y rr.toInt.toNat).toInt < Z (130 + rr.toInt.toNat)
set_option maxRecDepth 100000 in
set_option maxHeartbeats 4000000 in
theorem ck_take0 (l : Launch) (h : XH) (hg : mI h) (h0 : (xI h 81 0).toInt = 0) : CX l 0 0 false 162 [xf 6 81] h [xi (Int32.ofInt (0))] h := by
  have ez : (0 : Int32).toInt = 0 := rfl
  have t1 : XT l 0 0 false 162 153 6051 0 [xf 6 81] [] h 8 [xf 6 81] [xi (Int32.ofInt (0))] h := XT_path (l := l) (fr := 0) (lo := 0) (full := false) (M := 162) (n := 153) (u := 6051) (pc := 0) (L := [xf 6 81]) (st := []) (h := h) (inl := []) (n' := 80) (sp := [8]) (o := [0]) rfl rfl ⟨rfl, rfl, rfl⟩ rfl ⟨Nat.le_of_eq hg.2.2.2.1, Nat.le_of_eq hg.2.2.2.2⟩ ⟨trivial, (show ¬ (0 : Int32) < (xI h 81 0) from fun z => absurd (Int32.lt_iff_toInt_lt.mp z) (by omega))⟩
  exact CX_ofT (h' := h) (by decide) rfl rfl ⟨trivial, (Or.inl rfl)⟩ ⟨_, _, _, rfl, rfl, rfl⟩ rfl ⟨Nat.le_of_eq hg.2.2.2.1.symm, Nat.le_of_eq hg.2.2.2.2.symm⟩ t1
theorem ck_take (l : Launch) (n : Nat) (En : Nat → Int32 × Int32 × Int32) (h : XH) (hg : mI h) (kp : kPa n En h) (hn : 0 < n) : ∃ h', CX l 0 0 false 162 [xf 6 81] h [xi (Int32.ofInt (1))] h' ∧ mQ [81] h h' ∧ (xI h' 81 0).toInt = (n : Int) - 1 ∧ xI h' 81 1 = (En (n - 1)).1 ∧ xI h' 81 2 = (En (n - 1)).2.1 ∧ xI h' 81 3 = (En (n - 1)).2.2 := by
  have hb : (0 : Int) ≤ (xI h 81 0).toInt ∧ (xI h 81 0).toInt ≤ 20 := vbnd hg.1 81 0
  have e0 : (0 : Int32).toInt = 0 := rfl
  have kn := kp.1
  obtain ⟨s1, es, cX⟩ := vh_take_run l h hg.1 (Int32.lt_iff_toInt_lt.mpr (by omega))
  have ns : s1.toNatClampNeg = n - 1 := zi_ix (by omega)
  rw [ns] at cX
  obtain ⟨k2, k3, k4⟩ := kp.2 (n - 1) (by omega)
  have b2 := vbnd hg.1 82 (n - 1)
  have b3 := vbnd hg.1 83 (n - 1)
  have b4 := vbnd hg.1 84 (n - 1)
  rw [vI_u rfl (rfl : vRow 82 = (0, 2))] at b2
  rw [vI_u rfl (rfl : vRow 83 = (0, 7))] at b3
  rw [vI_u rfl (rfl : vRow 84 = (-1, 9))] at b4
  refine ⟨_, cX, ((((mQ.rf hg).set (by decide) (by show (0 : Int) ≤ _ ∧ _ ≤ 20; exact ⟨by omega, by omega⟩)).set (by decide) (by show (0 : Int) ≤ _ ∧ _ ≤ 2; exact b2)).set (by decide) (by show (0 : Int) ≤ _ ∧ _ ≤ 7; exact b3)).set (by decide) (by show (-1 : Int) ≤ _ ∧ _ ≤ 9; exact b4), ?_, ?_, ?_, ?_⟩
  · rw [yI_ne (by decide), yI_ne (by decide), yI_ne (by decide), yI_same]
    omega
  · rw [yI_ne (by decide), yI_ne (by decide), yI_same]
    exact k2
  · rw [yI_ne (by decide), yI_same]
    exact k3
  · rw [yI_same]
    exact k4
/-- what tears depend on -/
def zSm2 (Y X : Nat → Int32) : Prop := (∀ i, i < 10 → X i = Y i) ∧ X 51 = Y 51
theorem kD.sm2 {w : Nat} {Z : Nat → Int} {Y X : Nat → Int32} {h : XH} (a : kD w Z Y h) (z : zVal Z) (B : Z 0 ≤ 6) (e : zSm2 Y X) : kD w Z X h := by
  have t : zTr Z X = zTr Z Y := by
    unfold zTr
    rw [e.2]
  have g : ∀ j : Nat, (j : Int) < Z 1 → zgp Z X j = zgp Z Y j := fun j hj => by
    obtain ⟨⟨a1, a2⟩, ⟨a3, a4⟩, -⟩ := z.2.1 j hj
    unfold zgp
    rw [e.1 (Z (140 + j)).toNat (by omega), e.1 (Z (150 + j)).toNat (by omega)]
  refine ⟨fun j hj => by rw [t, g j hj]; exact a.1 j hj, fun r hr => (a.2 r hr).trans (zsum_eq (fun j hj => ?_))⟩
  show (if (Z (140 + j) = r ∨ Z (150 + j) = r) ∧ zTr Z Y < zgp Z Y j then Int32.ofInt (1) else Int32.ofInt (0)) = (if (Z (140 + j) = r ∨ Z (150 + j) = r) ∧ zTr Z X < zgp Z X j then Int32.ofInt (1) else Int32.ofInt (0))
  rw [t, g j (by omega)]
set_option maxRecDepth 100000 in
set_option maxHeartbeats 4000000 in
theorem ck_canvass3 (l : Launch) (Z : Nat → Int) (Y : Nat → Int32) (pp vv : Int32) (n : Nat) (En : Nat → Int32 × Int32 × Int32) (h : XH) (hg : mI h) (A : zAll Z) (r1 : xR h 2 1 = 3) (kt : kTx 3 Z h) (kw : kW 48 3 Z Y h) (V : zVd Z Y) (kd : kD 48 Z Y h) (ke : kE 48 Z Y h) (kp : kPa n En h) : ∃ v h', CX l 2 68 false 92 [xf 12 2, xi pp, xi vv] h [xi v] h' ∧ ((¬ zCan Z Y pp vv ∧ v = (Int32.ofInt (0)) ∧ h' = h) ∨ (zCan Z Y pp vv ∧ v = (Int32.ofInt (1)) ∧ mQ [53, 81, 82, 83, 84] h h' ∧ kW 48 3 Z (zup Y (30 + pp.toInt.toNat) vv) h' ∧ kPa (zpn n) (zpe n En ((Int32.ofInt (0)), pp, Y (30 + pp.toInt.toNat))) h')) := by
  obtain ⟨⟨⟨B00, B01⟩, ⟨B10, B11⟩, ⟨B20, B21⟩, B30, B31⟩, g6, zj, zv, LW⟩ := id A
  have r0 : xR h 48 0 = 3 := kw.2.2.2.2.2
  have e_0 : ((Int32.ofInt (0))).toInt = 0 := rfl
  have e_1 : ((Int32.ofInt (1))).toInt = 1 := rfl
  have e_m1 : ((Int32.ofInt (-1))).toInt = -1 := rfl
  have e_9 : ((Int32.ofInt (9))).toInt = 9 := rfl
  have e_2 : ((Int32.ofInt (2))).toInt = 2 := rfl
  have ez : (0 : Int32).toInt = 0 := rfl
  have ep : (xI h 3 9).toInt = Z 2 := kt.1.1 2 (by decide)
  have eg : (xI h 3 0).toInt = Z 0 := kt.1.1 0 (by decide)
  have ec0 : 0 ≤ pp.toInt → pp.toInt < Z 2 → xI h 53 pp.toNatClampNeg = Y (30 + pp.toInt.toNat) := fun a b => (kw.2.1 pp.toInt.toNat (by omega)).2
  have ec : 0 ≤ pp.toInt → pp.toInt < Z 2 → (xI h 53 pp.toNatClampNeg).toInt = (Y (30 + pp.toInt.toNat)).toInt := fun a b => congrArg Int32.toInt (ec0 a b)
  by_cases cb1 : pp < 0
  · have e_0 : (0 : Int32).toInt = 0 := rfl
    have dcb1 : (pp).toInt < (0 : Int32).toInt := Int32.lt_iff_toInt_lt.mp cb1
    have t2 : XT l 2 68 false 92 153 6051 0 [xf 12 2, xi pp, xi vv] [] h 32 [xf 12 2, xi pp, xi vv] [xi (Int32.ofInt (0))] h := XT_path (l := l) (fr := 2) (lo := 68) (full := false) (M := 92) (n := 153) (u := 6051) (pc := 0) (L := [xf 12 2, xi pp, xi vv]) (st := []) (h := h) (inl := [72, 85, 86]) (n' := 120) (sp := [32]) (o := [1, 1]) rfl rfl ⟨rfl, rfl, rfl⟩ rfl ⟨Nat.le_of_eq hg.2.2.2.1, Nat.le_of_eq hg.2.2.2.2⟩ ⟨⟨⟨trivial, cb1⟩, (Or.inl rfl)⟩, rfl⟩
    exact ⟨_, _, CX_ofT (h' := h) (by decide) rfl rfl ⟨trivial, (Or.inl rfl)⟩ ⟨_, _, _, rfl, rfl, rfl⟩ rfl ⟨Nat.le_of_eq hg.2.2.2.1.symm, Nat.le_of_eq hg.2.2.2.2.symm⟩ t2, Or.inl ⟨fun z => by obtain ⟨z1, z2, z3⟩ := z; have e := ec z1.1 z1.2; omega, rfl, rfl⟩⟩
  · have e_0 : (0 : Int32).toInt = 0 := rfl
    have dcb1 : (0 : Int32).toInt ≤ (pp).toInt := Int32.le_iff_toInt_le.mp (Int32.not_lt.mp cb1)
    by_cases cb3 : (xI h (xR h 2 1) 9) ≤ pp
    · have cb3r := cb3
      rw [r1] at cb3r
      have dcb3 : (xI h 3 9).toInt ≤ (pp).toInt := Int32.le_iff_toInt_le.mp cb3r
      have t4 : XT l 2 68 false 92 153 6051 0 [xf 12 2, xi pp, xi vv] [] h 32 [xf 12 2, xi pp, xi vv] [xi (Int32.ofInt (0))] h := XT_path (l := l) (fr := 2) (lo := 68) (full := false) (M := 92) (n := 153) (u := 6051) (pc := 0) (L := [xf 12 2, xi pp, xi vv]) (st := []) (h := h) (inl := [72, 85, 86]) (n' := 120) (sp := [32]) (o := [0, 1, 1]) rfl rfl ⟨rfl, rfl, rfl⟩ rfl ⟨Nat.le_of_eq hg.2.2.2.1, Nat.le_of_eq hg.2.2.2.2⟩ ⟨⟨⟨⟨⟨trivial, cb1⟩, (show ¬ xR h 2 1 = 0 from by rw [r1]; decide)⟩, cb3⟩, (Or.inl rfl)⟩, rfl⟩
      exact ⟨_, _, CX_ofT (h' := h) (by decide) rfl rfl ⟨trivial, (Or.inl rfl)⟩ ⟨_, _, _, rfl, rfl, rfl⟩ rfl ⟨Nat.le_of_eq hg.2.2.2.1.symm, Nat.le_of_eq hg.2.2.2.2.symm⟩ t4, Or.inl ⟨fun z => by obtain ⟨z1, z2, z3⟩ := z; have e := ec z1.1 z1.2; omega, rfl, rfl⟩⟩
    · have cb3r := cb3
      rw [r1] at cb3r
      have dcb3 : (pp).toInt < (xI h 3 9).toInt := Int32.lt_iff_toInt_lt.mp (Int32.not_le.mp cb3r)
      by_cases cb5 : vv < (Int32.ofInt (-1))
      · have e_m1 : (Int32.ofInt (-1)).toInt = -1 := rfl
        have dcb5 : (vv).toInt < (Int32.ofInt (-1)).toInt := Int32.lt_iff_toInt_lt.mp cb5
        have t6 : XT l 2 68 false 92 153 6051 0 [xf 12 2, xi pp, xi vv] [] h 32 [xf 12 2, xi pp, xi vv] [xi (Int32.ofInt (0))] h := XT_path (l := l) (fr := 2) (lo := 68) (full := false) (M := 92) (n := 153) (u := 6051) (pc := 0) (L := [xf 12 2, xi pp, xi vv]) (st := []) (h := h) (inl := [72, 85, 86]) (n' := 120) (sp := [32]) (o := [0, 0, 0, 1]) rfl rfl ⟨rfl, rfl, rfl⟩ rfl ⟨Nat.le_of_eq hg.2.2.2.1, Nat.le_of_eq hg.2.2.2.2⟩ ⟨⟨⟨⟨⟨⟨trivial, cb1⟩, (show ¬ xR h 2 1 = 0 from by rw [r1]; decide)⟩, cb3⟩, (Or.inr rfl)⟩, (show ¬ (Int32.ofInt (1)) = 0 from by decide)⟩, cb5⟩
        exact ⟨_, _, CX_ofT (h' := h) (by decide) rfl rfl ⟨trivial, (Or.inl rfl)⟩ ⟨_, _, _, rfl, rfl, rfl⟩ rfl ⟨Nat.le_of_eq hg.2.2.2.1.symm, Nat.le_of_eq hg.2.2.2.2.symm⟩ t6, Or.inl ⟨fun z => by obtain ⟨z1, z2, z3⟩ := z; have e := ec z1.1 z1.2; omega, rfl, rfl⟩⟩
      · have e_m1 : (Int32.ofInt (-1)).toInt = -1 := rfl
        have dcb5 : (Int32.ofInt (-1)).toInt ≤ (vv).toInt := Int32.le_iff_toInt_le.mp (Int32.not_lt.mp cb5)
        by_cases cb7 : (Int32.ofInt (1)) < vv
        · have e_1 : (Int32.ofInt (1)).toInt = 1 := rfl
          have dcb7 : (Int32.ofInt (1)).toInt < (vv).toInt := Int32.lt_iff_toInt_lt.mp cb7
          have t8 : XT l 2 68 false 92 153 6051 0 [xf 12 2, xi pp, xi vv] [] h 32 [xf 12 2, xi pp, xi vv] [xi (Int32.ofInt (0))] h := XT_path (l := l) (fr := 2) (lo := 68) (full := false) (M := 92) (n := 153) (u := 6051) (pc := 0) (L := [xf 12 2, xi pp, xi vv]) (st := []) (h := h) (inl := [72, 85, 86]) (n' := 120) (sp := [32]) (o := [0, 0, 0, 0, 1]) rfl rfl ⟨rfl, rfl, rfl⟩ rfl ⟨Nat.le_of_eq hg.2.2.2.1, Nat.le_of_eq hg.2.2.2.2⟩ ⟨⟨⟨⟨⟨⟨⟨trivial, cb1⟩, (show ¬ xR h 2 1 = 0 from by rw [r1]; decide)⟩, cb3⟩, (Or.inr rfl)⟩, (show ¬ (Int32.ofInt (1)) = 0 from by decide)⟩, cb5⟩, cb7⟩
          exact ⟨_, _, CX_ofT (h' := h) (by decide) rfl rfl ⟨trivial, (Or.inl rfl)⟩ ⟨_, _, _, rfl, rfl, rfl⟩ rfl ⟨Nat.le_of_eq hg.2.2.2.1.symm, Nat.le_of_eq hg.2.2.2.2.symm⟩ t8, Or.inl ⟨fun z => by obtain ⟨z1, z2, z3⟩ := z; have e := ec z1.1 z1.2; omega, rfl, rfl⟩⟩
        · have e_1 : (Int32.ofInt (1)).toInt = 1 := rfl
          have dcb7 : (vv).toInt ≤ (Int32.ofInt (1)).toInt := Int32.le_iff_toInt_le.mp (Int32.not_lt.mp cb7)
          by_cases cb9 : (xI h (xR h (xR h 2 3) 5) (pp).toNatClampNeg) = vv
          · have cb9r := cb9
            rw [vref hg.1 (rfl : vRf 2 3 = [48]), vref hg.1 (rfl : vRf 48 5 = [53])] at cb9r
            have dcb9 : (xI h 53 (pp).toNatClampNeg).toInt = (vv).toInt := congrArg Int32.toInt cb9r
            have t10 : XT l 2 68 false 92 153 6051 0 [xf 12 2, xi pp, xi vv] [] h 32 [xf 12 2, xi pp, xi vv] [xi (Int32.ofInt (0))] h := XT_path (l := l) (fr := 2) (lo := 68) (full := false) (M := 92) (n := 153) (u := 6051) (pc := 0) (L := [xf 12 2, xi pp, xi vv]) (st := []) (h := h) (inl := [72, 85, 86]) (n' := 120) (sp := [32]) (o := [0, 0, 0, 0, 0, 0]) rfl rfl ⟨rfl, rfl, rfl⟩ rfl ⟨Nat.le_of_eq hg.2.2.2.1, Nat.le_of_eq hg.2.2.2.2⟩ ⟨⟨⟨⟨⟨⟨⟨⟨⟨⟨⟨trivial, cb1⟩, (show ¬ xR h 2 1 = 0 from by rw [r1]; decide)⟩, cb3⟩, (Or.inr rfl)⟩, (show ¬ (Int32.ofInt (1)) = 0 from by decide)⟩, cb5⟩, cb7⟩, (vnn hg.1 (rfl : vRf 2 3 = [48]) (by decide))⟩, (show ¬ xR h (xR h 2 3) 5 = 0 from by rw [vref hg.1 (rfl : vRf 2 3 = [48])]; exact vnn hg.1 (rfl : vRf 48 5 = [53]) (by decide))⟩, (vp_of (i := pp) (n := 8) (by omega) (by omega))⟩, cb9⟩
            exact ⟨_, _, CX_ofT (h' := h) (by decide) rfl rfl ⟨trivial, (Or.inl rfl)⟩ ⟨_, _, _, rfl, rfl, rfl⟩ rfl ⟨Nat.le_of_eq hg.2.2.2.1.symm, Nat.le_of_eq hg.2.2.2.2.symm⟩ t10, Or.inl ⟨fun z => by obtain ⟨z1, z2, z3⟩ := z; have e := ec z1.1 z1.2; omega, rfl, rfl⟩⟩
          · have cb9r := cb9
            rw [vref hg.1 (rfl : vRf 2 3 = [48]), vref hg.1 (rfl : vRf 48 5 = [53])] at cb9r
            have dcb9 : ¬ (xI h 53 (pp).toNatClampNeg).toInt = (vv).toInt := fun z_ => cb9r (Int32.toInt_inj.mp z_)
            have t11 : XT l 2 68 false 92 153 6051 0 [xf 12 2, xi pp, xi vv] [] h 48 [xf 12 2, xi pp, xi vv] [xi (xI h (xR h (xR h 2 3) 5) (pp).toNatClampNeg), xi pp, xi (Int32.ofInt (0)), xf 6 (xR h 2 7)] h := XT_path (l := l) (fr := 2) (lo := 68) (full := false) (M := 92) (n := 153) (u := 6051) (pc := 0) (L := [xf 12 2, xi pp, xi vv]) (st := []) (h := h) (inl := [72, 85, 86]) (n' := 120) (sp := [48]) (o := [0, 0, 0, 0, 0, 1]) rfl rfl ⟨rfl, rfl, rfl⟩ rfl ⟨Nat.le_of_eq hg.2.2.2.1, Nat.le_of_eq hg.2.2.2.2⟩ ⟨⟨⟨⟨⟨⟨⟨⟨⟨⟨⟨⟨⟨⟨⟨trivial, cb1⟩, (show ¬ xR h 2 1 = 0 from by rw [r1]; decide)⟩, cb3⟩, (Or.inr rfl)⟩, (show ¬ (Int32.ofInt (1)) = 0 from by decide)⟩, cb5⟩, cb7⟩, (vnn hg.1 (rfl : vRf 2 3 = [48]) (by decide))⟩, (show ¬ xR h (xR h 2 3) 5 = 0 from by rw [vref hg.1 (rfl : vRf 2 3 = [48])]; exact vnn hg.1 (rfl : vRf 48 5 = [53]) (by decide))⟩, (vp_of (i := pp) (n := 8) (by omega) (by omega))⟩, cb9⟩, (vnn hg.1 (rfl : vRf 2 7 = [81]) (by decide))⟩, (vnn hg.1 (rfl : vRf 2 3 = [48]) (by decide))⟩, (show ¬ xR h (xR h 2 3) 5 = 0 from by rw [vref hg.1 (rfl : vRf 2 3 = [48])]; exact vnn hg.1 (rfl : vRf 48 5 = [53]) (by decide))⟩, (vp_of (i := pp) (n := 8) (by omega) (by omega))⟩
            rw [vref hg.1 (rfl : vRf 2 3 = [48]), vref hg.1 (rfl : vRf 2 7 = [81]), vref hg.1 (rfl : vRf 48 5 = [53])] at t11
            have bv := V.2.2 pp.toInt.toNat (by omega)
            have ee := ec0 (by omega) (by omega)
            have ee2 := ec (by omega) (by omega)
            obtain ⟨h1, c1, G1, kp1⟩ := ck_add l (Int32.ofInt (0)) pp (xI h 53 (pp).toNatClampNeg) n En h hg kp (by omega) (by omega) (by omega)
            have t12 : XT l 2 68 false 92 153 6051 48 [xf 12 2, xi pp, xi vv] [xi (xI h 53 (pp).toNatClampNeg), xi pp, xi (Int32.ofInt (0)), xf 6 81] h 51 [xf 12 2, xi pp, xi vv] [] h1 := XT_call (l := l) (fr := 2) (lo := 68) (full := false) (M := 92) (n := 153) (u := 6051) (pc := 48) (L := [xf 12 2, xi pp, xi vv]) (st := [xi (xI h 53 (pp).toNatClampNeg), xi pp, xi (Int32.ofInt (0)), xf 6 81]) (h := h) (i := .invokevirtual 93) (aux := 4) (nx := 51) (K := 93) (vs := [xf 6 81, xi (Int32.ofInt (0)), xi pp, xi (xI h 53 (pp).toNatClampNeg)]) (rs := []) (rest := []) rfl rfl rfl rfl rfl rfl c1 (by decide) (by decide) (Nat.le_of_ble_eq_true rfl) ⟨Nat.le_of_eq G1.1.2.2.2.1, Nat.le_of_eq G1.1.2.2.2.2⟩
            have t13 := t11.tr t12
            have q1 : xR h1 48 0 = 3 := (G1.2.2 48 0).trans r0
            have s1 : xR h1 2 1 = 3 := (G1.2.2 2 1).trans r1
            have t14 : XT l 2 68 false 92 153 6051 51 [xf 12 2, xi pp, xi vv] [] h1 62 [xf 12 2, xi pp, xi vv] [xi (Int32.ofInt (1))] (xsetI h1 (xR h1 (xR h1 2 3) 5) (pp).toNatClampNeg vv) := XT_path (l := l) (fr := 2) (lo := 68) (full := false) (M := 92) (n := 153) (u := 6051) (pc := 51) (L := [xf 12 2, xi pp, xi vv]) (st := []) (h := h1) (inl := [72, 85, 86]) (n' := 120) (sp := [62]) (o := []) rfl rfl ⟨rfl, rfl, rfl⟩ rfl ⟨Nat.le_of_eq G1.1.2.2.2.1, Nat.le_of_eq G1.1.2.2.2.2⟩ ⟨⟨⟨trivial, (vnn G1.1.1 (rfl : vRf 2 3 = [48]) (by decide))⟩, (show ¬ xR h1 (xR h1 2 3) 5 = 0 from by rw [vref G1.1.1 (rfl : vRf 2 3 = [48])]; exact vnn G1.1.1 (rfl : vRf 48 5 = [53]) (by decide))⟩, (vp_of (i := pp) (n := 8) (by omega) (by omega))⟩
            rw [vref G1.1.1 (rfl : vRf 2 3 = [48]), vref G1.1.1 (rfl : vRf 48 5 = [53])] at t14
            have t15 := t13.tr t14
            obtain ⟨hE, eE⟩ : ∃ x, x = (xsetI h1 53 (pp).toNatClampNeg vv) := ⟨_, rfl⟩
            have eE2 : hE = xsetI h1 53 pp.toInt.toNat vv := eE
            rw [← eE] at t15
            have gE : mQ [53] h1 hE := by rw [eE2]; exact (mQ.rf G1.1).set (by decide) (by rw [vI_u rfl (rfl : vRow 53 = (-1, 2))]; exact ⟨by show (-1 : Int) ≤ _; omega, by show _ ≤ (2 : Int); omega⟩)
            have GE : mQ [53, 81, 82, 83, 84] h hE := (G1.mono (by decide)).tr (gE.mono (by decide))
            refine ⟨_, hE, CX_ofT (h' := hE) (by decide) rfl rfl ⟨trivial, (Or.inr rfl)⟩ ⟨_, _, _, rfl, rfl, rfl⟩ rfl ⟨Nat.le_of_eq GE.1.2.2.2.1.symm, Nat.le_of_eq GE.1.2.2.2.2.symm⟩ t15, Or.inr ⟨⟨⟨by omega, by omega⟩, ⟨by omega, by omega⟩, by omega⟩, rfl, GE, ?_, ?_⟩⟩
            · exact kw.cc A.1 (by omega) (fun e k he => GE.2.1 e k (by rcases he with rfl | rfl | rfl <;> decide)) (fun k hk => by rw [eE2, yI_ne (eq_false (fun z => hk z.2))]; exact G1.2.1 53 k (by decide)) (by rw [eE2]; exact yI_same) (GE.2.2 48 0)
            · rw [← ee]
              exact kp1.q gE (by decide)
set_option maxRecDepth 100000 in
set_option maxHeartbeats 4000000 in
theorem ck_canvass24 (l : Launch) (Z : Nat → Int) (Y : Nat → Int32) (pp vv : Int32) (n : Nat) (En : Nat → Int32 × Int32 × Int32) (h : XH) (hg : mI h) (A : zAll Z) (r1 : xR h 2 1 = 24) (kt : kTx 24 Z h) (kw : kW 48 24 Z Y h) (V : zVd Z Y) (kd : kD 48 Z Y h) (ke : kE 48 Z Y h) (kp : kPa n En h) : ∃ v h', CX l 2 68 false 92 [xf 12 2, xi pp, xi vv] h [xi v] h' ∧ ((¬ zCan Z Y pp vv ∧ v = (Int32.ofInt (0)) ∧ h' = h) ∨ (zCan Z Y pp vv ∧ v = (Int32.ofInt (1)) ∧ mQ [53, 81, 82, 83, 84] h h' ∧ kW 48 24 Z (zup Y (30 + pp.toInt.toNat) vv) h' ∧ kPa (zpn n) (zpe n En ((Int32.ofInt (0)), pp, Y (30 + pp.toInt.toNat))) h')) := by
  obtain ⟨⟨⟨B00, B01⟩, ⟨B10, B11⟩, ⟨B20, B21⟩, B30, B31⟩, g6, zj, zv, LW⟩ := id A
  have r0 : xR h 48 0 = 24 := kw.2.2.2.2.2
  have e_0 : ((Int32.ofInt (0))).toInt = 0 := rfl
  have e_1 : ((Int32.ofInt (1))).toInt = 1 := rfl
  have e_m1 : ((Int32.ofInt (-1))).toInt = -1 := rfl
  have e_9 : ((Int32.ofInt (9))).toInt = 9 := rfl
  have e_2 : ((Int32.ofInt (2))).toInt = 2 := rfl
  have ez : (0 : Int32).toInt = 0 := rfl
  have ep : (xI h 24 9).toInt = Z 2 := kt.1.1 2 (by decide)
  have eg : (xI h 24 0).toInt = Z 0 := kt.1.1 0 (by decide)
  have ec0 : 0 ≤ pp.toInt → pp.toInt < Z 2 → xI h 53 pp.toNatClampNeg = Y (30 + pp.toInt.toNat) := fun a b => (kw.2.1 pp.toInt.toNat (by omega)).2
  have ec : 0 ≤ pp.toInt → pp.toInt < Z 2 → (xI h 53 pp.toNatClampNeg).toInt = (Y (30 + pp.toInt.toNat)).toInt := fun a b => congrArg Int32.toInt (ec0 a b)
  by_cases cb1 : pp < 0
  · have e_0 : (0 : Int32).toInt = 0 := rfl
    have dcb1 : (pp).toInt < (0 : Int32).toInt := Int32.lt_iff_toInt_lt.mp cb1
    have t2 : XT l 2 68 false 92 153 6051 0 [xf 12 2, xi pp, xi vv] [] h 32 [xf 12 2, xi pp, xi vv] [xi (Int32.ofInt (0))] h := XT_path (l := l) (fr := 2) (lo := 68) (full := false) (M := 92) (n := 153) (u := 6051) (pc := 0) (L := [xf 12 2, xi pp, xi vv]) (st := []) (h := h) (inl := [72, 85, 86]) (n' := 120) (sp := [32]) (o := [1, 1]) rfl rfl ⟨rfl, rfl, rfl⟩ rfl ⟨Nat.le_of_eq hg.2.2.2.1, Nat.le_of_eq hg.2.2.2.2⟩ ⟨⟨⟨trivial, cb1⟩, (Or.inl rfl)⟩, rfl⟩
    exact ⟨_, _, CX_ofT (h' := h) (by decide) rfl rfl ⟨trivial, (Or.inl rfl)⟩ ⟨_, _, _, rfl, rfl, rfl⟩ rfl ⟨Nat.le_of_eq hg.2.2.2.1.symm, Nat.le_of_eq hg.2.2.2.2.symm⟩ t2, Or.inl ⟨fun z => by obtain ⟨z1, z2, z3⟩ := z; have e := ec z1.1 z1.2; omega, rfl, rfl⟩⟩
  · have e_0 : (0 : Int32).toInt = 0 := rfl
    have dcb1 : (0 : Int32).toInt ≤ (pp).toInt := Int32.le_iff_toInt_le.mp (Int32.not_lt.mp cb1)
    by_cases cb3 : (xI h (xR h 2 1) 9) ≤ pp
    · have cb3r := cb3
      rw [r1] at cb3r
      have dcb3 : (xI h 24 9).toInt ≤ (pp).toInt := Int32.le_iff_toInt_le.mp cb3r
      have t4 : XT l 2 68 false 92 153 6051 0 [xf 12 2, xi pp, xi vv] [] h 32 [xf 12 2, xi pp, xi vv] [xi (Int32.ofInt (0))] h := XT_path (l := l) (fr := 2) (lo := 68) (full := false) (M := 92) (n := 153) (u := 6051) (pc := 0) (L := [xf 12 2, xi pp, xi vv]) (st := []) (h := h) (inl := [72, 85, 86]) (n' := 120) (sp := [32]) (o := [0, 1, 1]) rfl rfl ⟨rfl, rfl, rfl⟩ rfl ⟨Nat.le_of_eq hg.2.2.2.1, Nat.le_of_eq hg.2.2.2.2⟩ ⟨⟨⟨⟨⟨trivial, cb1⟩, (show ¬ xR h 2 1 = 0 from by rw [r1]; decide)⟩, cb3⟩, (Or.inl rfl)⟩, rfl⟩
      exact ⟨_, _, CX_ofT (h' := h) (by decide) rfl rfl ⟨trivial, (Or.inl rfl)⟩ ⟨_, _, _, rfl, rfl, rfl⟩ rfl ⟨Nat.le_of_eq hg.2.2.2.1.symm, Nat.le_of_eq hg.2.2.2.2.symm⟩ t4, Or.inl ⟨fun z => by obtain ⟨z1, z2, z3⟩ := z; have e := ec z1.1 z1.2; omega, rfl, rfl⟩⟩
    · have cb3r := cb3
      rw [r1] at cb3r
      have dcb3 : (pp).toInt < (xI h 24 9).toInt := Int32.lt_iff_toInt_lt.mp (Int32.not_le.mp cb3r)
      by_cases cb5 : vv < (Int32.ofInt (-1))
      · have e_m1 : (Int32.ofInt (-1)).toInt = -1 := rfl
        have dcb5 : (vv).toInt < (Int32.ofInt (-1)).toInt := Int32.lt_iff_toInt_lt.mp cb5
        have t6 : XT l 2 68 false 92 153 6051 0 [xf 12 2, xi pp, xi vv] [] h 32 [xf 12 2, xi pp, xi vv] [xi (Int32.ofInt (0))] h := XT_path (l := l) (fr := 2) (lo := 68) (full := false) (M := 92) (n := 153) (u := 6051) (pc := 0) (L := [xf 12 2, xi pp, xi vv]) (st := []) (h := h) (inl := [72, 85, 86]) (n' := 120) (sp := [32]) (o := [0, 0, 0, 1]) rfl rfl ⟨rfl, rfl, rfl⟩ rfl ⟨Nat.le_of_eq hg.2.2.2.1, Nat.le_of_eq hg.2.2.2.2⟩ ⟨⟨⟨⟨⟨⟨trivial, cb1⟩, (show ¬ xR h 2 1 = 0 from by rw [r1]; decide)⟩, cb3⟩, (Or.inr rfl)⟩, (show ¬ (Int32.ofInt (1)) = 0 from by decide)⟩, cb5⟩
        exact ⟨_, _, CX_ofT (h' := h) (by decide) rfl rfl ⟨trivial, (Or.inl rfl)⟩ ⟨_, _, _, rfl, rfl, rfl⟩ rfl ⟨Nat.le_of_eq hg.2.2.2.1.symm, Nat.le_of_eq hg.2.2.2.2.symm⟩ t6, Or.inl ⟨fun z => by obtain ⟨z1, z2, z3⟩ := z; have e := ec z1.1 z1.2; omega, rfl, rfl⟩⟩
      · have e_m1 : (Int32.ofInt (-1)).toInt = -1 := rfl
        have dcb5 : (Int32.ofInt (-1)).toInt ≤ (vv).toInt := Int32.le_iff_toInt_le.mp (Int32.not_lt.mp cb5)
        by_cases cb7 : (Int32.ofInt (1)) < vv
        · have e_1 : (Int32.ofInt (1)).toInt = 1 := rfl
          have dcb7 : (Int32.ofInt (1)).toInt < (vv).toInt := Int32.lt_iff_toInt_lt.mp cb7
          have t8 : XT l 2 68 false 92 153 6051 0 [xf 12 2, xi pp, xi vv] [] h 32 [xf 12 2, xi pp, xi vv] [xi (Int32.ofInt (0))] h := XT_path (l := l) (fr := 2) (lo := 68) (full := false) (M := 92) (n := 153) (u := 6051) (pc := 0) (L := [xf 12 2, xi pp, xi vv]) (st := []) (h := h) (inl := [72, 85, 86]) (n' := 120) (sp := [32]) (o := [0, 0, 0, 0, 1]) rfl rfl ⟨rfl, rfl, rfl⟩ rfl ⟨Nat.le_of_eq hg.2.2.2.1, Nat.le_of_eq hg.2.2.2.2⟩ ⟨⟨⟨⟨⟨⟨⟨trivial, cb1⟩, (show ¬ xR h 2 1 = 0 from by rw [r1]; decide)⟩, cb3⟩, (Or.inr rfl)⟩, (show ¬ (Int32.ofInt (1)) = 0 from by decide)⟩, cb5⟩, cb7⟩
          exact ⟨_, _, CX_ofT (h' := h) (by decide) rfl rfl ⟨trivial, (Or.inl rfl)⟩ ⟨_, _, _, rfl, rfl, rfl⟩ rfl ⟨Nat.le_of_eq hg.2.2.2.1.symm, Nat.le_of_eq hg.2.2.2.2.symm⟩ t8, Or.inl ⟨fun z => by obtain ⟨z1, z2, z3⟩ := z; have e := ec z1.1 z1.2; omega, rfl, rfl⟩⟩
        · have e_1 : (Int32.ofInt (1)).toInt = 1 := rfl
          have dcb7 : (vv).toInt ≤ (Int32.ofInt (1)).toInt := Int32.le_iff_toInt_le.mp (Int32.not_lt.mp cb7)
          by_cases cb9 : (xI h (xR h (xR h 2 3) 5) (pp).toNatClampNeg) = vv
          · have cb9r := cb9
            rw [vref hg.1 (rfl : vRf 2 3 = [48]), vref hg.1 (rfl : vRf 48 5 = [53])] at cb9r
            have dcb9 : (xI h 53 (pp).toNatClampNeg).toInt = (vv).toInt := congrArg Int32.toInt cb9r
            have t10 : XT l 2 68 false 92 153 6051 0 [xf 12 2, xi pp, xi vv] [] h 32 [xf 12 2, xi pp, xi vv] [xi (Int32.ofInt (0))] h := XT_path (l := l) (fr := 2) (lo := 68) (full := false) (M := 92) (n := 153) (u := 6051) (pc := 0) (L := [xf 12 2, xi pp, xi vv]) (st := []) (h := h) (inl := [72, 85, 86]) (n' := 120) (sp := [32]) (o := [0, 0, 0, 0, 0, 0]) rfl rfl ⟨rfl, rfl, rfl⟩ rfl ⟨Nat.le_of_eq hg.2.2.2.1, Nat.le_of_eq hg.2.2.2.2⟩ ⟨⟨⟨⟨⟨⟨⟨⟨⟨⟨⟨trivial, cb1⟩, (show ¬ xR h 2 1 = 0 from by rw [r1]; decide)⟩, cb3⟩, (Or.inr rfl)⟩, (show ¬ (Int32.ofInt (1)) = 0 from by decide)⟩, cb5⟩, cb7⟩, (vnn hg.1 (rfl : vRf 2 3 = [48]) (by decide))⟩, (show ¬ xR h (xR h 2 3) 5 = 0 from by rw [vref hg.1 (rfl : vRf 2 3 = [48])]; exact vnn hg.1 (rfl : vRf 48 5 = [53]) (by decide))⟩, (vp_of (i := pp) (n := 8) (by omega) (by omega))⟩, cb9⟩
            exact ⟨_, _, CX_ofT (h' := h) (by decide) rfl rfl ⟨trivial, (Or.inl rfl)⟩ ⟨_, _, _, rfl, rfl, rfl⟩ rfl ⟨Nat.le_of_eq hg.2.2.2.1.symm, Nat.le_of_eq hg.2.2.2.2.symm⟩ t10, Or.inl ⟨fun z => by obtain ⟨z1, z2, z3⟩ := z; have e := ec z1.1 z1.2; omega, rfl, rfl⟩⟩
          · have cb9r := cb9
            rw [vref hg.1 (rfl : vRf 2 3 = [48]), vref hg.1 (rfl : vRf 48 5 = [53])] at cb9r
            have dcb9 : ¬ (xI h 53 (pp).toNatClampNeg).toInt = (vv).toInt := fun z_ => cb9r (Int32.toInt_inj.mp z_)
            have t11 : XT l 2 68 false 92 153 6051 0 [xf 12 2, xi pp, xi vv] [] h 48 [xf 12 2, xi pp, xi vv] [xi (xI h (xR h (xR h 2 3) 5) (pp).toNatClampNeg), xi pp, xi (Int32.ofInt (0)), xf 6 (xR h 2 7)] h := XT_path (l := l) (fr := 2) (lo := 68) (full := false) (M := 92) (n := 153) (u := 6051) (pc := 0) (L := [xf 12 2, xi pp, xi vv]) (st := []) (h := h) (inl := [72, 85, 86]) (n' := 120) (sp := [48]) (o := [0, 0, 0, 0, 0, 1]) rfl rfl ⟨rfl, rfl, rfl⟩ rfl ⟨Nat.le_of_eq hg.2.2.2.1, Nat.le_of_eq hg.2.2.2.2⟩ ⟨⟨⟨⟨⟨⟨⟨⟨⟨⟨⟨⟨⟨⟨⟨trivial, cb1⟩, (show ¬ xR h 2 1 = 0 from by rw [r1]; decide)⟩, cb3⟩, (Or.inr rfl)⟩, (show ¬ (Int32.ofInt (1)) = 0 from by decide)⟩, cb5⟩, cb7⟩, (vnn hg.1 (rfl : vRf 2 3 = [48]) (by decide))⟩, (show ¬ xR h (xR h 2 3) 5 = 0 from by rw [vref hg.1 (rfl : vRf 2 3 = [48])]; exact vnn hg.1 (rfl : vRf 48 5 = [53]) (by decide))⟩, (vp_of (i := pp) (n := 8) (by omega) (by omega))⟩, cb9⟩, (vnn hg.1 (rfl : vRf 2 7 = [81]) (by decide))⟩, (vnn hg.1 (rfl : vRf 2 3 = [48]) (by decide))⟩, (show ¬ xR h (xR h 2 3) 5 = 0 from by rw [vref hg.1 (rfl : vRf 2 3 = [48])]; exact vnn hg.1 (rfl : vRf 48 5 = [53]) (by decide))⟩, (vp_of (i := pp) (n := 8) (by omega) (by omega))⟩
            rw [vref hg.1 (rfl : vRf 2 3 = [48]), vref hg.1 (rfl : vRf 2 7 = [81]), vref hg.1 (rfl : vRf 48 5 = [53])] at t11
            have bv := V.2.2 pp.toInt.toNat (by omega)
            have ee := ec0 (by omega) (by omega)
            have ee2 := ec (by omega) (by omega)
            obtain ⟨h1, c1, G1, kp1⟩ := ck_add l (Int32.ofInt (0)) pp (xI h 53 (pp).toNatClampNeg) n En h hg kp (by omega) (by omega) (by omega)
            have t12 : XT l 2 68 false 92 153 6051 48 [xf 12 2, xi pp, xi vv] [xi (xI h 53 (pp).toNatClampNeg), xi pp, xi (Int32.ofInt (0)), xf 6 81] h 51 [xf 12 2, xi pp, xi vv] [] h1 := XT_call (l := l) (fr := 2) (lo := 68) (full := false) (M := 92) (n := 153) (u := 6051) (pc := 48) (L := [xf 12 2, xi pp, xi vv]) (st := [xi (xI h 53 (pp).toNatClampNeg), xi pp, xi (Int32.ofInt (0)), xf 6 81]) (h := h) (i := .invokevirtual 93) (aux := 4) (nx := 51) (K := 93) (vs := [xf 6 81, xi (Int32.ofInt (0)), xi pp, xi (xI h 53 (pp).toNatClampNeg)]) (rs := []) (rest := []) rfl rfl rfl rfl rfl rfl c1 (by decide) (by decide) (Nat.le_of_ble_eq_true rfl) ⟨Nat.le_of_eq G1.1.2.2.2.1, Nat.le_of_eq G1.1.2.2.2.2⟩
            have t13 := t11.tr t12
            have q1 : xR h1 48 0 = 24 := (G1.2.2 48 0).trans r0
            have s1 : xR h1 2 1 = 24 := (G1.2.2 2 1).trans r1
            have t14 : XT l 2 68 false 92 153 6051 51 [xf 12 2, xi pp, xi vv] [] h1 62 [xf 12 2, xi pp, xi vv] [xi (Int32.ofInt (1))] (xsetI h1 (xR h1 (xR h1 2 3) 5) (pp).toNatClampNeg vv) := XT_path (l := l) (fr := 2) (lo := 68) (full := false) (M := 92) (n := 153) (u := 6051) (pc := 51) (L := [xf 12 2, xi pp, xi vv]) (st := []) (h := h1) (inl := [72, 85, 86]) (n' := 120) (sp := [62]) (o := []) rfl rfl ⟨rfl, rfl, rfl⟩ rfl ⟨Nat.le_of_eq G1.1.2.2.2.1, Nat.le_of_eq G1.1.2.2.2.2⟩ ⟨⟨⟨trivial, (vnn G1.1.1 (rfl : vRf 2 3 = [48]) (by decide))⟩, (show ¬ xR h1 (xR h1 2 3) 5 = 0 from by rw [vref G1.1.1 (rfl : vRf 2 3 = [48])]; exact vnn G1.1.1 (rfl : vRf 48 5 = [53]) (by decide))⟩, (vp_of (i := pp) (n := 8) (by omega) (by omega))⟩
            rw [vref G1.1.1 (rfl : vRf 2 3 = [48]), vref G1.1.1 (rfl : vRf 48 5 = [53])] at t14
            have t15 := t13.tr t14
            obtain ⟨hE, eE⟩ : ∃ x, x = (xsetI h1 53 (pp).toNatClampNeg vv) := ⟨_, rfl⟩
            have eE2 : hE = xsetI h1 53 pp.toInt.toNat vv := eE
            rw [← eE] at t15
            have gE : mQ [53] h1 hE := by rw [eE2]; exact (mQ.rf G1.1).set (by decide) (by rw [vI_u rfl (rfl : vRow 53 = (-1, 2))]; exact ⟨by show (-1 : Int) ≤ _; omega, by show _ ≤ (2 : Int); omega⟩)
            have GE : mQ [53, 81, 82, 83, 84] h hE := (G1.mono (by decide)).tr (gE.mono (by decide))
            refine ⟨_, hE, CX_ofT (h' := hE) (by decide) rfl rfl ⟨trivial, (Or.inr rfl)⟩ ⟨_, _, _, rfl, rfl, rfl⟩ rfl ⟨Nat.le_of_eq GE.1.2.2.2.1.symm, Nat.le_of_eq GE.1.2.2.2.2.symm⟩ t15, Or.inr ⟨⟨⟨by omega, by omega⟩, ⟨by omega, by omega⟩, by omega⟩, rfl, GE, ?_, ?_⟩⟩
            · exact kw.cc A.1 (by omega) (fun e k he => GE.2.1 e k (by rcases he with rfl | rfl | rfl <;> decide)) (fun k hk => by rw [eE2, yI_ne (eq_false (fun z => hk z.2))]; exact G1.2.1 53 k (by decide)) (by rw [eE2]; exact yI_same) (GE.2.2 48 0)
            · rw [← ee]
              exact kp1.q gE (by decide)
set_option maxRecDepth 100000 in
set_option maxHeartbeats 4000000 in
theorem ck_decree3 (l : Launch) (Z : Nat → Int) (Y : Nat → Int32) (rr ss : Int32) (n : Nat) (En : Nat → Int32 × Int32 × Int32) (h : XH) (hg : mI h) (A : zAll Z) (r1 : xR h 2 1 = 3) (kt : kTx 3 Z h) (kw : kW 48 3 Z Y h) (V : zVd Z Y) (kd : kD 48 Z Y h) (ke : kE 48 Z Y h) (kp : kPa n En h) : ∃ v h', CX l 2 68 false 96 [xf 12 2, xi rr, xi ss] h [xi v] h' ∧ ((¬ zDec Z Y rr ss ∧ v = (Int32.ofInt (0)) ∧ h' = h) ∨ (zDec Z Y rr ss ∧ v = (Int32.ofInt (1)) ∧ mQ [49, 51, 55, 81, 82, 83, 84] h h' ∧ kW 48 3 Z (zup Y rr.toInt.toNat ss) h' ∧ kD 48 Z (zup Y rr.toInt.toNat ss) h' ∧ kE 48 Z (zup Y rr.toInt.toNat ss) h' ∧ kPa (zpn n) (zpe n En ((Int32.ofInt (2)), rr, Y rr.toInt.toNat)) h')) := by
  obtain ⟨⟨⟨B00, B01⟩, ⟨B10, B11⟩, ⟨B20, B21⟩, B30, B31⟩, g6, zj, zv, LW⟩ := id A
  have r0 : xR h 48 0 = 3 := kw.2.2.2.2.2
  have e_0 : ((Int32.ofInt (0))).toInt = 0 := rfl
  have e_1 : ((Int32.ofInt (1))).toInt = 1 := rfl
  have e_m1 : ((Int32.ofInt (-1))).toInt = -1 := rfl
  have e_9 : ((Int32.ofInt (9))).toInt = 9 := rfl
  have e_2 : ((Int32.ofInt (2))).toInt = 2 := rfl
  have ez : (0 : Int32).toInt = 0 := rfl
  have ep : (xI h 3 9).toInt = Z 2 := kt.1.1 2 (by decide)
  have eg : (xI h 3 0).toInt = Z 0 := kt.1.1 0 (by decide)
  have ec0 : 0 ≤ rr.toInt → rr.toInt < Z 0 → xI h 49 rr.toNatClampNeg = Y rr.toInt.toNat := fun a b => kw.1 rr.toInt.toNat (by omega)
  have ec : 0 ≤ rr.toInt → rr.toInt < Z 0 → (xI h 49 rr.toNatClampNeg).toInt = (Y rr.toInt.toNat).toInt := fun a b => congrArg Int32.toInt (ec0 a b)
  by_cases cb1 : rr < 0
  · have e_0 : (0 : Int32).toInt = 0 := rfl
    have dcb1 : (rr).toInt < (0 : Int32).toInt := Int32.lt_iff_toInt_lt.mp cb1
    have t2 : XT l 2 68 false 96 153 6051 0 [xf 12 2, xi rr, xi ss] [] h 29 [xf 12 2, xi rr, xi ss] [xi (Int32.ofInt (0))] h := XT_path (l := l) (fr := 2) (lo := 68) (full := false) (M := 96) (n := 153) (u := 6051) (pc := 0) (L := [xf 12 2, xi rr, xi ss]) (st := []) (h := h) (inl := [72, 85, 86]) (n' := 120) (sp := [29]) (o := [1, 1]) rfl rfl ⟨rfl, rfl, rfl⟩ rfl ⟨Nat.le_of_eq hg.2.2.2.1, Nat.le_of_eq hg.2.2.2.2⟩ ⟨⟨⟨trivial, cb1⟩, (Or.inl rfl)⟩, rfl⟩
    exact ⟨_, _, CX_ofT (h' := h) (by decide) rfl rfl ⟨trivial, (Or.inl rfl)⟩ ⟨_, _, _, rfl, rfl, rfl⟩ rfl ⟨Nat.le_of_eq hg.2.2.2.1.symm, Nat.le_of_eq hg.2.2.2.2.symm⟩ t2, Or.inl ⟨fun z => by obtain ⟨z1, z2, z3⟩ := z; have e := ec z1.1 z1.2; omega, rfl, rfl⟩⟩
  · have e_0 : (0 : Int32).toInt = 0 := rfl
    have dcb1 : (0 : Int32).toInt ≤ (rr).toInt := Int32.le_iff_toInt_le.mp (Int32.not_lt.mp cb1)
    by_cases cb3 : (xI h (xR h 2 1) 0) ≤ rr
    · have cb3r := cb3
      rw [r1] at cb3r
      have dcb3 : (xI h 3 0).toInt ≤ (rr).toInt := Int32.le_iff_toInt_le.mp cb3r
      have t4 : XT l 2 68 false 96 153 6051 0 [xf 12 2, xi rr, xi ss] [] h 29 [xf 12 2, xi rr, xi ss] [xi (Int32.ofInt (0))] h := XT_path (l := l) (fr := 2) (lo := 68) (full := false) (M := 96) (n := 153) (u := 6051) (pc := 0) (L := [xf 12 2, xi rr, xi ss]) (st := []) (h := h) (inl := [72, 85, 86]) (n' := 120) (sp := [29]) (o := [0, 1, 1]) rfl rfl ⟨rfl, rfl, rfl⟩ rfl ⟨Nat.le_of_eq hg.2.2.2.1, Nat.le_of_eq hg.2.2.2.2⟩ ⟨⟨⟨⟨⟨trivial, cb1⟩, (show ¬ xR h 2 1 = 0 from by rw [r1]; decide)⟩, cb3⟩, (Or.inl rfl)⟩, rfl⟩
      exact ⟨_, _, CX_ofT (h' := h) (by decide) rfl rfl ⟨trivial, (Or.inl rfl)⟩ ⟨_, _, _, rfl, rfl, rfl⟩ rfl ⟨Nat.le_of_eq hg.2.2.2.1.symm, Nat.le_of_eq hg.2.2.2.2.symm⟩ t4, Or.inl ⟨fun z => by obtain ⟨z1, z2, z3⟩ := z; have e := ec z1.1 z1.2; omega, rfl, rfl⟩⟩
    · have cb3r := cb3
      rw [r1] at cb3r
      have dcb3 : (rr).toInt < (xI h 3 0).toInt := Int32.lt_iff_toInt_lt.mp (Int32.not_le.mp cb3r)
      by_cases cb5 : ss < (Int32.ofInt (1))
      · have e_1 : (Int32.ofInt (1)).toInt = 1 := rfl
        have dcb5 : (ss).toInt < (Int32.ofInt (1)).toInt := Int32.lt_iff_toInt_lt.mp cb5
        have t6 : XT l 2 68 false 96 153 6051 0 [xf 12 2, xi rr, xi ss] [] h 29 [xf 12 2, xi rr, xi ss] [xi (Int32.ofInt (0))] h := XT_path (l := l) (fr := 2) (lo := 68) (full := false) (M := 96) (n := 153) (u := 6051) (pc := 0) (L := [xf 12 2, xi rr, xi ss]) (st := []) (h := h) (inl := [72, 85, 86]) (n' := 120) (sp := [29]) (o := [0, 0, 0, 1, 1]) rfl rfl ⟨rfl, rfl, rfl⟩ rfl ⟨Nat.le_of_eq hg.2.2.2.1, Nat.le_of_eq hg.2.2.2.2⟩ ⟨⟨⟨⟨⟨⟨⟨⟨trivial, cb1⟩, (show ¬ xR h 2 1 = 0 from by rw [r1]; decide)⟩, cb3⟩, (Or.inr rfl)⟩, (show ¬ (Int32.ofInt (1)) = 0 from by decide)⟩, cb5⟩, (Or.inl rfl)⟩, rfl⟩
        exact ⟨_, _, CX_ofT (h' := h) (by decide) rfl rfl ⟨trivial, (Or.inl rfl)⟩ ⟨_, _, _, rfl, rfl, rfl⟩ rfl ⟨Nat.le_of_eq hg.2.2.2.1.symm, Nat.le_of_eq hg.2.2.2.2.symm⟩ t6, Or.inl ⟨fun z => by obtain ⟨z1, z2, z3⟩ := z; have e := ec z1.1 z1.2; omega, rfl, rfl⟩⟩
      · have e_1 : (Int32.ofInt (1)).toInt = 1 := rfl
        have dcb5 : (Int32.ofInt (1)).toInt ≤ (ss).toInt := Int32.le_iff_toInt_le.mp (Int32.not_lt.mp cb5)
        by_cases cb7 : (Int32.ofInt (9)) < ss
        · have e_9 : (Int32.ofInt (9)).toInt = 9 := rfl
          have dcb7 : (Int32.ofInt (9)).toInt < (ss).toInt := Int32.lt_iff_toInt_lt.mp cb7
          have t8 : XT l 2 68 false 96 153 6051 0 [xf 12 2, xi rr, xi ss] [] h 29 [xf 12 2, xi rr, xi ss] [xi (Int32.ofInt (0))] h := XT_path (l := l) (fr := 2) (lo := 68) (full := false) (M := 96) (n := 153) (u := 6051) (pc := 0) (L := [xf 12 2, xi rr, xi ss]) (st := []) (h := h) (inl := [72, 85, 86]) (n' := 120) (sp := [29]) (o := [0, 0, 0, 0, 1, 1]) rfl rfl ⟨rfl, rfl, rfl⟩ rfl ⟨Nat.le_of_eq hg.2.2.2.1, Nat.le_of_eq hg.2.2.2.2⟩ ⟨⟨⟨⟨⟨⟨⟨⟨⟨trivial, cb1⟩, (show ¬ xR h 2 1 = 0 from by rw [r1]; decide)⟩, cb3⟩, (Or.inr rfl)⟩, (show ¬ (Int32.ofInt (1)) = 0 from by decide)⟩, cb5⟩, cb7⟩, (Or.inl rfl)⟩, rfl⟩
          exact ⟨_, _, CX_ofT (h' := h) (by decide) rfl rfl ⟨trivial, (Or.inl rfl)⟩ ⟨_, _, _, rfl, rfl, rfl⟩ rfl ⟨Nat.le_of_eq hg.2.2.2.1.symm, Nat.le_of_eq hg.2.2.2.2.symm⟩ t8, Or.inl ⟨fun z => by obtain ⟨z1, z2, z3⟩ := z; have e := ec z1.1 z1.2; omega, rfl, rfl⟩⟩
        · have e_9 : (Int32.ofInt (9)).toInt = 9 := rfl
          have dcb7 : (ss).toInt ≤ (Int32.ofInt (9)).toInt := Int32.le_iff_toInt_le.mp (Int32.not_lt.mp cb7)
          by_cases cb9 : (xI h (xR h (xR h 2 3) 1) (rr).toNatClampNeg) = ss
          · have cb9r := cb9
            rw [vref hg.1 (rfl : vRf 2 3 = [48]), vref hg.1 (rfl : vRf 48 1 = [49])] at cb9r
            have dcb9 : (xI h 49 (rr).toNatClampNeg).toInt = (ss).toInt := congrArg Int32.toInt cb9r
            have t10 : XT l 2 68 false 96 153 6051 0 [xf 12 2, xi rr, xi ss] [] h 29 [xf 12 2, xi rr, xi ss] [xi (Int32.ofInt (0))] h := XT_path (l := l) (fr := 2) (lo := 68) (full := false) (M := 96) (n := 153) (u := 6051) (pc := 0) (L := [xf 12 2, xi rr, xi ss]) (st := []) (h := h) (inl := [72, 85, 86]) (n' := 120) (sp := [29]) (o := [0, 0, 0, 0, 0, 0, 0]) rfl rfl ⟨rfl, rfl, rfl⟩ rfl ⟨Nat.le_of_eq hg.2.2.2.1, Nat.le_of_eq hg.2.2.2.2⟩ ⟨⟨⟨⟨⟨⟨⟨⟨⟨⟨⟨⟨⟨trivial, cb1⟩, (show ¬ xR h 2 1 = 0 from by rw [r1]; decide)⟩, cb3⟩, (Or.inr rfl)⟩, (show ¬ (Int32.ofInt (1)) = 0 from by decide)⟩, cb5⟩, cb7⟩, (Or.inr rfl)⟩, (show ¬ (Int32.ofInt (1)) = 0 from by decide)⟩, (vnn hg.1 (rfl : vRf 2 3 = [48]) (by decide))⟩, (show ¬ xR h (xR h 2 3) 1 = 0 from by rw [vref hg.1 (rfl : vRf 2 3 = [48])]; exact vnn hg.1 (rfl : vRf 48 1 = [49]) (by decide))⟩, (vp_of (i := rr) (n := 6) (by omega) (by omega))⟩, cb9⟩
            exact ⟨_, _, CX_ofT (h' := h) (by decide) rfl rfl ⟨trivial, (Or.inl rfl)⟩ ⟨_, _, _, rfl, rfl, rfl⟩ rfl ⟨Nat.le_of_eq hg.2.2.2.1.symm, Nat.le_of_eq hg.2.2.2.2.symm⟩ t10, Or.inl ⟨fun z => by obtain ⟨z1, z2, z3⟩ := z; have e := ec z1.1 z1.2; omega, rfl, rfl⟩⟩
          · have cb9r := cb9
            rw [vref hg.1 (rfl : vRf 2 3 = [48]), vref hg.1 (rfl : vRf 48 1 = [49])] at cb9r
            have dcb9 : ¬ (xI h 49 (rr).toNatClampNeg).toInt = (ss).toInt := fun z_ => cb9r (Int32.toInt_inj.mp z_)
            have t11 : XT l 2 68 false 96 153 6051 0 [xf 12 2, xi rr, xi ss] [] h 45 [xf 12 2, xi rr, xi ss] [xi (xI h (xR h (xR h 2 3) 1) (rr).toNatClampNeg), xi rr, xi (Int32.ofInt (2)), xf 6 (xR h 2 7)] h := XT_path (l := l) (fr := 2) (lo := 68) (full := false) (M := 96) (n := 153) (u := 6051) (pc := 0) (L := [xf 12 2, xi rr, xi ss]) (st := []) (h := h) (inl := [72, 85, 86]) (n' := 120) (sp := [45]) (o := [0, 0, 0, 0, 0, 0, 1]) rfl rfl ⟨rfl, rfl, rfl⟩ rfl ⟨Nat.le_of_eq hg.2.2.2.1, Nat.le_of_eq hg.2.2.2.2⟩ ⟨⟨⟨⟨⟨⟨⟨⟨⟨⟨⟨⟨⟨⟨⟨⟨⟨trivial, cb1⟩, (show ¬ xR h 2 1 = 0 from by rw [r1]; decide)⟩, cb3⟩, (Or.inr rfl)⟩, (show ¬ (Int32.ofInt (1)) = 0 from by decide)⟩, cb5⟩, cb7⟩, (Or.inr rfl)⟩, (show ¬ (Int32.ofInt (1)) = 0 from by decide)⟩, (vnn hg.1 (rfl : vRf 2 3 = [48]) (by decide))⟩, (show ¬ xR h (xR h 2 3) 1 = 0 from by rw [vref hg.1 (rfl : vRf 2 3 = [48])]; exact vnn hg.1 (rfl : vRf 48 1 = [49]) (by decide))⟩, (vp_of (i := rr) (n := 6) (by omega) (by omega))⟩, cb9⟩, (vnn hg.1 (rfl : vRf 2 7 = [81]) (by decide))⟩, (vnn hg.1 (rfl : vRf 2 3 = [48]) (by decide))⟩, (show ¬ xR h (xR h 2 3) 1 = 0 from by rw [vref hg.1 (rfl : vRf 2 3 = [48])]; exact vnn hg.1 (rfl : vRf 48 1 = [49]) (by decide))⟩, (vp_of (i := rr) (n := 6) (by omega) (by omega))⟩
            rw [vref hg.1 (rfl : vRf 2 3 = [48]), vref hg.1 (rfl : vRf 2 7 = [81]), vref hg.1 (rfl : vRf 48 1 = [49])] at t11
            have bv := V.1 rr.toInt.toNat (by omega)
            have ee := ec0 (by omega) (by omega)
            have ee2 := ec (by omega) (by omega)
            obtain ⟨h1, c1, G1, kp1⟩ := ck_add l (Int32.ofInt (2)) rr (xI h 49 (rr).toNatClampNeg) n En h hg kp (by omega) (by omega) (by omega)
            have t12 : XT l 2 68 false 96 153 6051 45 [xf 12 2, xi rr, xi ss] [xi (xI h 49 (rr).toNatClampNeg), xi rr, xi (Int32.ofInt (2)), xf 6 81] h 48 [xf 12 2, xi rr, xi ss] [] h1 := XT_call (l := l) (fr := 2) (lo := 68) (full := false) (M := 96) (n := 153) (u := 6051) (pc := 45) (L := [xf 12 2, xi rr, xi ss]) (st := [xi (xI h 49 (rr).toNatClampNeg), xi rr, xi (Int32.ofInt (2)), xf 6 81]) (h := h) (i := .invokevirtual 93) (aux := 4) (nx := 48) (K := 93) (vs := [xf 6 81, xi (Int32.ofInt (2)), xi rr, xi (xI h 49 (rr).toNatClampNeg)]) (rs := []) (rest := []) rfl rfl rfl rfl rfl rfl c1 (by decide) (by decide) (Nat.le_of_ble_eq_true rfl) ⟨Nat.le_of_eq G1.1.2.2.2.1, Nat.le_of_eq G1.1.2.2.2.2⟩
            have t13 := t11.tr t12
            have q1 : xR h1 48 0 = 3 := (G1.2.2 48 0).trans r0
            have s1 : xR h1 2 1 = 3 := (G1.2.2 2 1).trans r1
            have t14 : XT l 2 68 false 96 153 6051 48 [xf 12 2, xi rr, xi ss] [] h1 62 [xf 12 2, xi rr, xi ss] [xf 11 (xR h1 2 3)] (xsetI h1 (xR h1 (xR h1 2 3) 1) (rr).toNatClampNeg ss) := XT_path (l := l) (fr := 2) (lo := 68) (full := false) (M := 96) (n := 153) (u := 6051) (pc := 48) (L := [xf 12 2, xi rr, xi ss]) (st := []) (h := h1) (inl := [72, 85, 86]) (n' := 120) (sp := [62]) (o := []) rfl rfl ⟨rfl, rfl, rfl⟩ rfl ⟨Nat.le_of_eq G1.1.2.2.2.1, Nat.le_of_eq G1.1.2.2.2.2⟩ ⟨⟨⟨⟨trivial, (vnn G1.1.1 (rfl : vRf 2 3 = [48]) (by decide))⟩, (show ¬ xR h1 (xR h1 2 3) 1 = 0 from by rw [vref G1.1.1 (rfl : vRf 2 3 = [48])]; exact vnn G1.1.1 (rfl : vRf 48 1 = [49]) (by decide))⟩, (vp_of (i := rr) (n := 6) (by omega) (by omega))⟩, (vnn G1.1.1 (rfl : vRf 2 3 = [48]) (by decide))⟩
            rw [vref G1.1.1 (rfl : vRf 2 3 = [48]), vref G1.1.1 (rfl : vRf 48 1 = [49])] at t14
            have t15 := t13.tr t14
            obtain ⟨hE, eE⟩ : ∃ x, x = (xsetI h1 49 (rr).toNatClampNeg ss) := ⟨_, rfl⟩
            have eE2 : hE = xsetI h1 49 rr.toInt.toNat ss := eE
            rw [← eE] at t15
            have gE : mQ [49] h1 hE := by rw [eE2]; exact (mQ.rf G1.1).set (by decide) (by rw [vI_u rfl (rfl : vRow 49 = (0, 9))]; exact ⟨by show (0 : Int) ≤ _; omega, by show _ ≤ (9 : Int); omega⟩)
            have GE : mQ [49, 51, 55, 81, 82, 83, 84] h hE := (G1.mono (by decide)).tr (gE.mono (by decide))
            have VX := zVd_dc (v := ss) A.1 V (show ((rr.toInt.toNat : Nat) : Int) < Z 0 by omega) (by omega)
            have kw2 : kW 48 3 Z (zup Y rr.toInt.toNat ss) hE := kw.dc A.1 (by omega) (fun e k he => GE.2.1 e k (by rcases he with rfl | rfl | rfl <;> decide)) (fun k hk => by rw [eE2, yI_ne (eq_false (fun z => hk z.2))]; exact G1.2.1 49 k (by decide)) (by rw [eE2]; exact yI_same) (GE.2.2 48 0)
            obtain ⟨h3, c3, G3, kd3⟩ := ck_tear48_3 l Z (zup Y rr.toInt.toNat ss) hE GE.1 A (kt.q GE (by decide)) kw2 VX
            have t16 : XT l 2 68 false 96 153 6051 62 [xf 12 2, xi rr, xi ss] [xf 11 48] hE 65 [xf 12 2, xi rr, xi ss] [] h3 := XT_call (l := l) (fr := 2) (lo := 68) (full := false) (M := 96) (n := 153) (u := 6051) (pc := 62) (L := [xf 12 2, xi rr, xi ss]) (st := [xf 11 48]) (h := hE) (i := .invokevirtual 66) (aux := 1) (nx := 65) (K := 66) (vs := [xf 11 48]) (rs := []) (rest := []) rfl rfl rfl rfl rfl rfl c3 (by decide) (by decide) (Nat.le_of_ble_eq_true rfl) ⟨Nat.le_of_eq G3.1.2.2.2.1, Nat.le_of_eq G3.1.2.2.2.2⟩
            have t17 := t15.tr t16
            have t18 : XT l 2 68 false 96 153 6051 65 [xf 12 2, xi rr, xi ss] [] h3 66 [xf 12 2, xi rr, xi ss] [xi (Int32.ofInt (1))] h3 := XT_path (l := l) (fr := 2) (lo := 68) (full := false) (M := 96) (n := 153) (u := 6051) (pc := 65) (L := [xf 12 2, xi rr, xi ss]) (st := []) (h := h3) (inl := [72, 85, 86]) (n' := 120) (sp := [66]) (o := []) rfl rfl ⟨rfl, rfl, rfl⟩ rfl ⟨Nat.le_of_eq G3.1.2.2.2.1, Nat.le_of_eq G3.1.2.2.2.2⟩ trivial
            have t19 := t17.tr t18
            have G4 : mQ [49, 51, 55, 81, 82, 83, 84] h h3 := GE.tr (G3.mono (by decide))
            refine ⟨_, h3, CX_ofT (h' := h3) (by decide) rfl rfl ⟨trivial, (Or.inr rfl)⟩ ⟨_, _, _, rfl, rfl, rfl⟩ rfl ⟨Nat.le_of_eq G3.1.2.2.2.1.symm, Nat.le_of_eq G3.1.2.2.2.2.symm⟩ t19, Or.inr ⟨⟨⟨by omega, by omega⟩, ⟨by omega, by omega⟩, by omega⟩, rfl, G4, kw2.q G3 (by decide), kd3, ?_, ?_⟩⟩
            · intro q hq
              rw [zCr_e (fun p hp => zup_o (by omega))]
              exact (G4.2.1 56 q (by decide)).trans (ke q hq)
            · rw [← ee]
              exact (kp1.q gE (by decide)).q G3 (by decide)
set_option maxRecDepth 100000 in
set_option maxHeartbeats 4000000 in
theorem ck_decree24 (l : Launch) (Z : Nat → Int) (Y : Nat → Int32) (rr ss : Int32) (n : Nat) (En : Nat → Int32 × Int32 × Int32) (h : XH) (hg : mI h) (A : zAll Z) (r1 : xR h 2 1 = 24) (kt : kTx 24 Z h) (kw : kW 48 24 Z Y h) (V : zVd Z Y) (kd : kD 48 Z Y h) (ke : kE 48 Z Y h) (kp : kPa n En h) : ∃ v h', CX l 2 68 false 96 [xf 12 2, xi rr, xi ss] h [xi v] h' ∧ ((¬ zDec Z Y rr ss ∧ v = (Int32.ofInt (0)) ∧ h' = h) ∨ (zDec Z Y rr ss ∧ v = (Int32.ofInt (1)) ∧ mQ [49, 51, 55, 81, 82, 83, 84] h h' ∧ kW 48 24 Z (zup Y rr.toInt.toNat ss) h' ∧ kD 48 Z (zup Y rr.toInt.toNat ss) h' ∧ kE 48 Z (zup Y rr.toInt.toNat ss) h' ∧ kPa (zpn n) (zpe n En ((Int32.ofInt (2)), rr, Y rr.toInt.toNat)) h')) := by
  obtain ⟨⟨⟨B00, B01⟩, ⟨B10, B11⟩, ⟨B20, B21⟩, B30, B31⟩, g6, zj, zv, LW⟩ := id A
  have r0 : xR h 48 0 = 24 := kw.2.2.2.2.2
  have e_0 : ((Int32.ofInt (0))).toInt = 0 := rfl
  have e_1 : ((Int32.ofInt (1))).toInt = 1 := rfl
  have e_m1 : ((Int32.ofInt (-1))).toInt = -1 := rfl
  have e_9 : ((Int32.ofInt (9))).toInt = 9 := rfl
  have e_2 : ((Int32.ofInt (2))).toInt = 2 := rfl
  have ez : (0 : Int32).toInt = 0 := rfl
  have ep : (xI h 24 9).toInt = Z 2 := kt.1.1 2 (by decide)
  have eg : (xI h 24 0).toInt = Z 0 := kt.1.1 0 (by decide)
  have ec0 : 0 ≤ rr.toInt → rr.toInt < Z 0 → xI h 49 rr.toNatClampNeg = Y rr.toInt.toNat := fun a b => kw.1 rr.toInt.toNat (by omega)
  have ec : 0 ≤ rr.toInt → rr.toInt < Z 0 → (xI h 49 rr.toNatClampNeg).toInt = (Y rr.toInt.toNat).toInt := fun a b => congrArg Int32.toInt (ec0 a b)
  by_cases cb1 : rr < 0
  · have e_0 : (0 : Int32).toInt = 0 := rfl
    have dcb1 : (rr).toInt < (0 : Int32).toInt := Int32.lt_iff_toInt_lt.mp cb1
    have t2 : XT l 2 68 false 96 153 6051 0 [xf 12 2, xi rr, xi ss] [] h 29 [xf 12 2, xi rr, xi ss] [xi (Int32.ofInt (0))] h := XT_path (l := l) (fr := 2) (lo := 68) (full := false) (M := 96) (n := 153) (u := 6051) (pc := 0) (L := [xf 12 2, xi rr, xi ss]) (st := []) (h := h) (inl := [72, 85, 86]) (n' := 120) (sp := [29]) (o := [1, 1]) rfl rfl ⟨rfl, rfl, rfl⟩ rfl ⟨Nat.le_of_eq hg.2.2.2.1, Nat.le_of_eq hg.2.2.2.2⟩ ⟨⟨⟨trivial, cb1⟩, (Or.inl rfl)⟩, rfl⟩
    exact ⟨_, _, CX_ofT (h' := h) (by decide) rfl rfl ⟨trivial, (Or.inl rfl)⟩ ⟨_, _, _, rfl, rfl, rfl⟩ rfl ⟨Nat.le_of_eq hg.2.2.2.1.symm, Nat.le_of_eq hg.2.2.2.2.symm⟩ t2, Or.inl ⟨fun z => by obtain ⟨z1, z2, z3⟩ := z; have e := ec z1.1 z1.2; omega, rfl, rfl⟩⟩
  · have e_0 : (0 : Int32).toInt = 0 := rfl
    have dcb1 : (0 : Int32).toInt ≤ (rr).toInt := Int32.le_iff_toInt_le.mp (Int32.not_lt.mp cb1)
    by_cases cb3 : (xI h (xR h 2 1) 0) ≤ rr
    · have cb3r := cb3
      rw [r1] at cb3r
      have dcb3 : (xI h 24 0).toInt ≤ (rr).toInt := Int32.le_iff_toInt_le.mp cb3r
      have t4 : XT l 2 68 false 96 153 6051 0 [xf 12 2, xi rr, xi ss] [] h 29 [xf 12 2, xi rr, xi ss] [xi (Int32.ofInt (0))] h := XT_path (l := l) (fr := 2) (lo := 68) (full := false) (M := 96) (n := 153) (u := 6051) (pc := 0) (L := [xf 12 2, xi rr, xi ss]) (st := []) (h := h) (inl := [72, 85, 86]) (n' := 120) (sp := [29]) (o := [0, 1, 1]) rfl rfl ⟨rfl, rfl, rfl⟩ rfl ⟨Nat.le_of_eq hg.2.2.2.1, Nat.le_of_eq hg.2.2.2.2⟩ ⟨⟨⟨⟨⟨trivial, cb1⟩, (show ¬ xR h 2 1 = 0 from by rw [r1]; decide)⟩, cb3⟩, (Or.inl rfl)⟩, rfl⟩
      exact ⟨_, _, CX_ofT (h' := h) (by decide) rfl rfl ⟨trivial, (Or.inl rfl)⟩ ⟨_, _, _, rfl, rfl, rfl⟩ rfl ⟨Nat.le_of_eq hg.2.2.2.1.symm, Nat.le_of_eq hg.2.2.2.2.symm⟩ t4, Or.inl ⟨fun z => by obtain ⟨z1, z2, z3⟩ := z; have e := ec z1.1 z1.2; omega, rfl, rfl⟩⟩
    · have cb3r := cb3
      rw [r1] at cb3r
      have dcb3 : (rr).toInt < (xI h 24 0).toInt := Int32.lt_iff_toInt_lt.mp (Int32.not_le.mp cb3r)
      by_cases cb5 : ss < (Int32.ofInt (1))
      · have e_1 : (Int32.ofInt (1)).toInt = 1 := rfl
        have dcb5 : (ss).toInt < (Int32.ofInt (1)).toInt := Int32.lt_iff_toInt_lt.mp cb5
        have t6 : XT l 2 68 false 96 153 6051 0 [xf 12 2, xi rr, xi ss] [] h 29 [xf 12 2, xi rr, xi ss] [xi (Int32.ofInt (0))] h := XT_path (l := l) (fr := 2) (lo := 68) (full := false) (M := 96) (n := 153) (u := 6051) (pc := 0) (L := [xf 12 2, xi rr, xi ss]) (st := []) (h := h) (inl := [72, 85, 86]) (n' := 120) (sp := [29]) (o := [0, 0, 0, 1, 1]) rfl rfl ⟨rfl, rfl, rfl⟩ rfl ⟨Nat.le_of_eq hg.2.2.2.1, Nat.le_of_eq hg.2.2.2.2⟩ ⟨⟨⟨⟨⟨⟨⟨⟨trivial, cb1⟩, (show ¬ xR h 2 1 = 0 from by rw [r1]; decide)⟩, cb3⟩, (Or.inr rfl)⟩, (show ¬ (Int32.ofInt (1)) = 0 from by decide)⟩, cb5⟩, (Or.inl rfl)⟩, rfl⟩
        exact ⟨_, _, CX_ofT (h' := h) (by decide) rfl rfl ⟨trivial, (Or.inl rfl)⟩ ⟨_, _, _, rfl, rfl, rfl⟩ rfl ⟨Nat.le_of_eq hg.2.2.2.1.symm, Nat.le_of_eq hg.2.2.2.2.symm⟩ t6, Or.inl ⟨fun z => by obtain ⟨z1, z2, z3⟩ := z; have e := ec z1.1 z1.2; omega, rfl, rfl⟩⟩
      · have e_1 : (Int32.ofInt (1)).toInt = 1 := rfl
        have dcb5 : (Int32.ofInt (1)).toInt ≤ (ss).toInt := Int32.le_iff_toInt_le.mp (Int32.not_lt.mp cb5)
        by_cases cb7 : (Int32.ofInt (9)) < ss
        · have e_9 : (Int32.ofInt (9)).toInt = 9 := rfl
          have dcb7 : (Int32.ofInt (9)).toInt < (ss).toInt := Int32.lt_iff_toInt_lt.mp cb7
          have t8 : XT l 2 68 false 96 153 6051 0 [xf 12 2, xi rr, xi ss] [] h 29 [xf 12 2, xi rr, xi ss] [xi (Int32.ofInt (0))] h := XT_path (l := l) (fr := 2) (lo := 68) (full := false) (M := 96) (n := 153) (u := 6051) (pc := 0) (L := [xf 12 2, xi rr, xi ss]) (st := []) (h := h) (inl := [72, 85, 86]) (n' := 120) (sp := [29]) (o := [0, 0, 0, 0, 1, 1]) rfl rfl ⟨rfl, rfl, rfl⟩ rfl ⟨Nat.le_of_eq hg.2.2.2.1, Nat.le_of_eq hg.2.2.2.2⟩ ⟨⟨⟨⟨⟨⟨⟨⟨⟨trivial, cb1⟩, (show ¬ xR h 2 1 = 0 from by rw [r1]; decide)⟩, cb3⟩, (Or.inr rfl)⟩, (show ¬ (Int32.ofInt (1)) = 0 from by decide)⟩, cb5⟩, cb7⟩, (Or.inl rfl)⟩, rfl⟩
          exact ⟨_, _, CX_ofT (h' := h) (by decide) rfl rfl ⟨trivial, (Or.inl rfl)⟩ ⟨_, _, _, rfl, rfl, rfl⟩ rfl ⟨Nat.le_of_eq hg.2.2.2.1.symm, Nat.le_of_eq hg.2.2.2.2.symm⟩ t8, Or.inl ⟨fun z => by obtain ⟨z1, z2, z3⟩ := z; have e := ec z1.1 z1.2; omega, rfl, rfl⟩⟩
        · have e_9 : (Int32.ofInt (9)).toInt = 9 := rfl
          have dcb7 : (ss).toInt ≤ (Int32.ofInt (9)).toInt := Int32.le_iff_toInt_le.mp (Int32.not_lt.mp cb7)
          by_cases cb9 : (xI h (xR h (xR h 2 3) 1) (rr).toNatClampNeg) = ss
          · have cb9r := cb9
            rw [vref hg.1 (rfl : vRf 2 3 = [48]), vref hg.1 (rfl : vRf 48 1 = [49])] at cb9r
            have dcb9 : (xI h 49 (rr).toNatClampNeg).toInt = (ss).toInt := congrArg Int32.toInt cb9r
            have t10 : XT l 2 68 false 96 153 6051 0 [xf 12 2, xi rr, xi ss] [] h 29 [xf 12 2, xi rr, xi ss] [xi (Int32.ofInt (0))] h := XT_path (l := l) (fr := 2) (lo := 68) (full := false) (M := 96) (n := 153) (u := 6051) (pc := 0) (L := [xf 12 2, xi rr, xi ss]) (st := []) (h := h) (inl := [72, 85, 86]) (n' := 120) (sp := [29]) (o := [0, 0, 0, 0, 0, 0, 0]) rfl rfl ⟨rfl, rfl, rfl⟩ rfl ⟨Nat.le_of_eq hg.2.2.2.1, Nat.le_of_eq hg.2.2.2.2⟩ ⟨⟨⟨⟨⟨⟨⟨⟨⟨⟨⟨⟨⟨trivial, cb1⟩, (show ¬ xR h 2 1 = 0 from by rw [r1]; decide)⟩, cb3⟩, (Or.inr rfl)⟩, (show ¬ (Int32.ofInt (1)) = 0 from by decide)⟩, cb5⟩, cb7⟩, (Or.inr rfl)⟩, (show ¬ (Int32.ofInt (1)) = 0 from by decide)⟩, (vnn hg.1 (rfl : vRf 2 3 = [48]) (by decide))⟩, (show ¬ xR h (xR h 2 3) 1 = 0 from by rw [vref hg.1 (rfl : vRf 2 3 = [48])]; exact vnn hg.1 (rfl : vRf 48 1 = [49]) (by decide))⟩, (vp_of (i := rr) (n := 6) (by omega) (by omega))⟩, cb9⟩
            exact ⟨_, _, CX_ofT (h' := h) (by decide) rfl rfl ⟨trivial, (Or.inl rfl)⟩ ⟨_, _, _, rfl, rfl, rfl⟩ rfl ⟨Nat.le_of_eq hg.2.2.2.1.symm, Nat.le_of_eq hg.2.2.2.2.symm⟩ t10, Or.inl ⟨fun z => by obtain ⟨z1, z2, z3⟩ := z; have e := ec z1.1 z1.2; omega, rfl, rfl⟩⟩
          · have cb9r := cb9
            rw [vref hg.1 (rfl : vRf 2 3 = [48]), vref hg.1 (rfl : vRf 48 1 = [49])] at cb9r
            have dcb9 : ¬ (xI h 49 (rr).toNatClampNeg).toInt = (ss).toInt := fun z_ => cb9r (Int32.toInt_inj.mp z_)
            have t11 : XT l 2 68 false 96 153 6051 0 [xf 12 2, xi rr, xi ss] [] h 45 [xf 12 2, xi rr, xi ss] [xi (xI h (xR h (xR h 2 3) 1) (rr).toNatClampNeg), xi rr, xi (Int32.ofInt (2)), xf 6 (xR h 2 7)] h := XT_path (l := l) (fr := 2) (lo := 68) (full := false) (M := 96) (n := 153) (u := 6051) (pc := 0) (L := [xf 12 2, xi rr, xi ss]) (st := []) (h := h) (inl := [72, 85, 86]) (n' := 120) (sp := [45]) (o := [0, 0, 0, 0, 0, 0, 1]) rfl rfl ⟨rfl, rfl, rfl⟩ rfl ⟨Nat.le_of_eq hg.2.2.2.1, Nat.le_of_eq hg.2.2.2.2⟩ ⟨⟨⟨⟨⟨⟨⟨⟨⟨⟨⟨⟨⟨⟨⟨⟨⟨trivial, cb1⟩, (show ¬ xR h 2 1 = 0 from by rw [r1]; decide)⟩, cb3⟩, (Or.inr rfl)⟩, (show ¬ (Int32.ofInt (1)) = 0 from by decide)⟩, cb5⟩, cb7⟩, (Or.inr rfl)⟩, (show ¬ (Int32.ofInt (1)) = 0 from by decide)⟩, (vnn hg.1 (rfl : vRf 2 3 = [48]) (by decide))⟩, (show ¬ xR h (xR h 2 3) 1 = 0 from by rw [vref hg.1 (rfl : vRf 2 3 = [48])]; exact vnn hg.1 (rfl : vRf 48 1 = [49]) (by decide))⟩, (vp_of (i := rr) (n := 6) (by omega) (by omega))⟩, cb9⟩, (vnn hg.1 (rfl : vRf 2 7 = [81]) (by decide))⟩, (vnn hg.1 (rfl : vRf 2 3 = [48]) (by decide))⟩, (show ¬ xR h (xR h 2 3) 1 = 0 from by rw [vref hg.1 (rfl : vRf 2 3 = [48])]; exact vnn hg.1 (rfl : vRf 48 1 = [49]) (by decide))⟩, (vp_of (i := rr) (n := 6) (by omega) (by omega))⟩
            rw [vref hg.1 (rfl : vRf 2 3 = [48]), vref hg.1 (rfl : vRf 2 7 = [81]), vref hg.1 (rfl : vRf 48 1 = [49])] at t11
            have bv := V.1 rr.toInt.toNat (by omega)
            have ee := ec0 (by omega) (by omega)
            have ee2 := ec (by omega) (by omega)
            obtain ⟨h1, c1, G1, kp1⟩ := ck_add l (Int32.ofInt (2)) rr (xI h 49 (rr).toNatClampNeg) n En h hg kp (by omega) (by omega) (by omega)
            have t12 : XT l 2 68 false 96 153 6051 45 [xf 12 2, xi rr, xi ss] [xi (xI h 49 (rr).toNatClampNeg), xi rr, xi (Int32.ofInt (2)), xf 6 81] h 48 [xf 12 2, xi rr, xi ss] [] h1 := XT_call (l := l) (fr := 2) (lo := 68) (full := false) (M := 96) (n := 153) (u := 6051) (pc := 45) (L := [xf 12 2, xi rr, xi ss]) (st := [xi (xI h 49 (rr).toNatClampNeg), xi rr, xi (Int32.ofInt (2)), xf 6 81]) (h := h) (i := .invokevirtual 93) (aux := 4) (nx := 48) (K := 93) (vs := [xf 6 81, xi (Int32.ofInt (2)), xi rr, xi (xI h 49 (rr).toNatClampNeg)]) (rs := []) (rest := []) rfl rfl rfl rfl rfl rfl c1 (by decide) (by decide) (Nat.le_of_ble_eq_true rfl) ⟨Nat.le_of_eq G1.1.2.2.2.1, Nat.le_of_eq G1.1.2.2.2.2⟩
            have t13 := t11.tr t12
            have q1 : xR h1 48 0 = 24 := (G1.2.2 48 0).trans r0
            have s1 : xR h1 2 1 = 24 := (G1.2.2 2 1).trans r1
            have t14 : XT l 2 68 false 96 153 6051 48 [xf 12 2, xi rr, xi ss] [] h1 62 [xf 12 2, xi rr, xi ss] [xf 11 (xR h1 2 3)] (xsetI h1 (xR h1 (xR h1 2 3) 1) (rr).toNatClampNeg ss) := XT_path (l := l) (fr := 2) (lo := 68) (full := false) (M := 96) (n := 153) (u := 6051) (pc := 48) (L := [xf 12 2, xi rr, xi ss]) (st := []) (h := h1) (inl := [72, 85, 86]) (n' := 120) (sp := [62]) (o := []) rfl rfl ⟨rfl, rfl, rfl⟩ rfl ⟨Nat.le_of_eq G1.1.2.2.2.1, Nat.le_of_eq G1.1.2.2.2.2⟩ ⟨⟨⟨⟨trivial, (vnn G1.1.1 (rfl : vRf 2 3 = [48]) (by decide))⟩, (show ¬ xR h1 (xR h1 2 3) 1 = 0 from by rw [vref G1.1.1 (rfl : vRf 2 3 = [48])]; exact vnn G1.1.1 (rfl : vRf 48 1 = [49]) (by decide))⟩, (vp_of (i := rr) (n := 6) (by omega) (by omega))⟩, (vnn G1.1.1 (rfl : vRf 2 3 = [48]) (by decide))⟩
            rw [vref G1.1.1 (rfl : vRf 2 3 = [48]), vref G1.1.1 (rfl : vRf 48 1 = [49])] at t14
            have t15 := t13.tr t14
            obtain ⟨hE, eE⟩ : ∃ x, x = (xsetI h1 49 (rr).toNatClampNeg ss) := ⟨_, rfl⟩
            have eE2 : hE = xsetI h1 49 rr.toInt.toNat ss := eE
            rw [← eE] at t15
            have gE : mQ [49] h1 hE := by rw [eE2]; exact (mQ.rf G1.1).set (by decide) (by rw [vI_u rfl (rfl : vRow 49 = (0, 9))]; exact ⟨by show (0 : Int) ≤ _; omega, by show _ ≤ (9 : Int); omega⟩)
            have GE : mQ [49, 51, 55, 81, 82, 83, 84] h hE := (G1.mono (by decide)).tr (gE.mono (by decide))
            have VX := zVd_dc (v := ss) A.1 V (show ((rr.toInt.toNat : Nat) : Int) < Z 0 by omega) (by omega)
            have kw2 : kW 48 24 Z (zup Y rr.toInt.toNat ss) hE := kw.dc A.1 (by omega) (fun e k he => GE.2.1 e k (by rcases he with rfl | rfl | rfl <;> decide)) (fun k hk => by rw [eE2, yI_ne (eq_false (fun z => hk z.2))]; exact G1.2.1 49 k (by decide)) (by rw [eE2]; exact yI_same) (GE.2.2 48 0)
            obtain ⟨h3, c3, G3, kd3⟩ := ck_tear48_24 l Z (zup Y rr.toInt.toNat ss) hE GE.1 A (kt.q GE (by decide)) kw2 VX
            have t16 : XT l 2 68 false 96 153 6051 62 [xf 12 2, xi rr, xi ss] [xf 11 48] hE 65 [xf 12 2, xi rr, xi ss] [] h3 := XT_call (l := l) (fr := 2) (lo := 68) (full := false) (M := 96) (n := 153) (u := 6051) (pc := 62) (L := [xf 12 2, xi rr, xi ss]) (st := [xf 11 48]) (h := hE) (i := .invokevirtual 66) (aux := 1) (nx := 65) (K := 66) (vs := [xf 11 48]) (rs := []) (rest := []) rfl rfl rfl rfl rfl rfl c3 (by decide) (by decide) (Nat.le_of_ble_eq_true rfl) ⟨Nat.le_of_eq G3.1.2.2.2.1, Nat.le_of_eq G3.1.2.2.2.2⟩
            have t17 := t15.tr t16
            have t18 : XT l 2 68 false 96 153 6051 65 [xf 12 2, xi rr, xi ss] [] h3 66 [xf 12 2, xi rr, xi ss] [xi (Int32.ofInt (1))] h3 := XT_path (l := l) (fr := 2) (lo := 68) (full := false) (M := 96) (n := 153) (u := 6051) (pc := 65) (L := [xf 12 2, xi rr, xi ss]) (st := []) (h := h3) (inl := [72, 85, 86]) (n' := 120) (sp := [66]) (o := []) rfl rfl ⟨rfl, rfl, rfl⟩ rfl ⟨Nat.le_of_eq G3.1.2.2.2.1, Nat.le_of_eq G3.1.2.2.2.2⟩ trivial
            have t19 := t17.tr t18
            have G4 : mQ [49, 51, 55, 81, 82, 83, 84] h h3 := GE.tr (G3.mono (by decide))
            refine ⟨_, h3, CX_ofT (h' := h3) (by decide) rfl rfl ⟨trivial, (Or.inr rfl)⟩ ⟨_, _, _, rfl, rfl, rfl⟩ rfl ⟨Nat.le_of_eq G3.1.2.2.2.1.symm, Nat.le_of_eq G3.1.2.2.2.2.symm⟩ t19, Or.inr ⟨⟨⟨by omega, by omega⟩, ⟨by omega, by omega⟩, by omega⟩, rfl, G4, kw2.q G3 (by decide), kd3, ?_, ?_⟩⟩
            · intro q hq
              rw [zCr_e (fun p hp => zup_o (by omega))]
              exact (G4.2.1 56 q (by decide)).trans (ke q hq)
            · rw [← ee]
              exact (kp1.q gE (by decide)).q G3 (by decide)
set_option maxRecDepth 100000 in
set_option maxHeartbeats 4000000 in
theorem ck_move3 (l : Launch) (Z : Nat → Int) (Y : Nat → Int32) (pp rr : Int32) (n : Nat) (En : Nat → Int32 × Int32 × Int32) (h : XH) (hg : mI h) (A : zAll Z) (r1 : xR h 2 1 = 3) (kt : kTx 3 Z h) (kw : kW 48 3 Z Y h) (V : zVd Z Y) (kd : kD 48 Z Y h) (ke : kE 48 Z Y h) (kp : kPa n En h) : ∃ v h', CX l 2 68 false 94 [xf 12 2, xi pp, xi rr] h [xi v] h' ∧ ((¬ zMov Z Y pp rr ∧ v = (Int32.ofInt (0)) ∧ h' = h) ∨ (zMov Z Y pp rr ∧ v = (Int32.ofInt (1)) ∧ mQ [52, 56, 81, 82, 83, 84] h h' ∧ kW 48 3 Z (zup Y (20 + pp.toInt.toNat) rr) h' ∧ kE 48 Z (zup Y (20 + pp.toInt.toNat) rr) h' ∧ kPa (zpn n) (zpe n En ((Int32.ofInt (1)), pp, Y (20 + pp.toInt.toNat))) h')) := by
  obtain ⟨⟨⟨B00, B01⟩, ⟨B10, B11⟩, ⟨B20, B21⟩, B30, B31⟩, g6, zj, zv, LW⟩ := id A
  have r0 : xR h 48 0 = 3 := kw.2.2.2.2.2
  have e_0 : ((Int32.ofInt (0))).toInt = 0 := rfl
  have e_1 : ((Int32.ofInt (1))).toInt = 1 := rfl
  have e_m1 : ((Int32.ofInt (-1))).toInt = -1 := rfl
  have e_9 : ((Int32.ofInt (9))).toInt = 9 := rfl
  have e_2 : ((Int32.ofInt (2))).toInt = 2 := rfl
  have ez : (0 : Int32).toInt = 0 := rfl
  have ep : (xI h 3 9).toInt = Z 2 := kt.1.1 2 (by decide)
  have eg : (xI h 3 0).toInt = Z 0 := kt.1.1 0 (by decide)
  have ec0 : 0 ≤ pp.toInt → pp.toInt < Z 2 → xI h 52 pp.toNatClampNeg = Y (20 + pp.toInt.toNat) := fun a b => (kw.2.1 pp.toInt.toNat (by omega)).1
  have ec : 0 ≤ pp.toInt → pp.toInt < Z 2 → (xI h 52 pp.toNatClampNeg).toInt = (Y (20 + pp.toInt.toNat)).toInt := fun a b => congrArg Int32.toInt (ec0 a b)
  have er : 0 ≤ rr.toInt → rr.toInt < Z 0 → (xI h 56 rr.toNatClampNeg).toInt = (zCr Z Y rr.toInt.toNat).toInt := fun a b => congrArg Int32.toInt (ke rr.toInt.toNat (by omega))
  have eh : 0 ≤ rr.toInt → rr.toInt < Z 0 → (xI h 7 rr.toNatClampNeg).toInt = Z (130 + rr.toInt.toNat) := fun a b => kt.1.2.2 3 rr.toInt.toNat (by decide) (show ((rr.toInt.toNat : Nat) : Int) < Z 0 by omega)
  by_cases cb1 : pp < 0
  · have e_0 : (0 : Int32).toInt = 0 := rfl
    have dcb1 : (pp).toInt < (0 : Int32).toInt := Int32.lt_iff_toInt_lt.mp cb1
    have t2 : XT l 2 68 false 94 153 6051 0 [xf 12 2, xi pp, xi rr] [] h 30 [xf 12 2, xi pp, xi rr] [xi (Int32.ofInt (0))] h := XT_path (l := l) (fr := 2) (lo := 68) (full := false) (M := 94) (n := 153) (u := 6051) (pc := 0) (L := [xf 12 2, xi pp, xi rr]) (st := []) (h := h) (inl := [72, 85, 86]) (n' := 120) (sp := [30]) (o := [1, 1]) rfl rfl ⟨rfl, rfl, rfl⟩ rfl ⟨Nat.le_of_eq hg.2.2.2.1, Nat.le_of_eq hg.2.2.2.2⟩ ⟨⟨⟨trivial, cb1⟩, (Or.inl rfl)⟩, rfl⟩
    exact ⟨_, _, CX_ofT (h' := h) (by decide) rfl rfl ⟨trivial, (Or.inl rfl)⟩ ⟨_, _, _, rfl, rfl, rfl⟩ rfl ⟨Nat.le_of_eq hg.2.2.2.1.symm, Nat.le_of_eq hg.2.2.2.2.symm⟩ t2, Or.inl ⟨fun z => by obtain ⟨z1, z2, z3, z4⟩ := z; have e := ec z1.1 z1.2; have e2 := er z2.1 z2.2; have e3 := eh z2.1 z2.2; omega, rfl, rfl⟩⟩
  · have e_0 : (0 : Int32).toInt = 0 := rfl
    have dcb1 : (0 : Int32).toInt ≤ (pp).toInt := Int32.le_iff_toInt_le.mp (Int32.not_lt.mp cb1)
    by_cases cb3 : (xI h (xR h 2 1) 9) ≤ pp
    · have cb3r := cb3
      rw [r1] at cb3r
      have dcb3 : (xI h 3 9).toInt ≤ (pp).toInt := Int32.le_iff_toInt_le.mp cb3r
      have t4 : XT l 2 68 false 94 153 6051 0 [xf 12 2, xi pp, xi rr] [] h 30 [xf 12 2, xi pp, xi rr] [xi (Int32.ofInt (0))] h := XT_path (l := l) (fr := 2) (lo := 68) (full := false) (M := 94) (n := 153) (u := 6051) (pc := 0) (L := [xf 12 2, xi pp, xi rr]) (st := []) (h := h) (inl := [72, 85, 86]) (n' := 120) (sp := [30]) (o := [0, 1, 1]) rfl rfl ⟨rfl, rfl, rfl⟩ rfl ⟨Nat.le_of_eq hg.2.2.2.1, Nat.le_of_eq hg.2.2.2.2⟩ ⟨⟨⟨⟨⟨trivial, cb1⟩, (show ¬ xR h 2 1 = 0 from by rw [r1]; decide)⟩, cb3⟩, (Or.inl rfl)⟩, rfl⟩
      exact ⟨_, _, CX_ofT (h' := h) (by decide) rfl rfl ⟨trivial, (Or.inl rfl)⟩ ⟨_, _, _, rfl, rfl, rfl⟩ rfl ⟨Nat.le_of_eq hg.2.2.2.1.symm, Nat.le_of_eq hg.2.2.2.2.symm⟩ t4, Or.inl ⟨fun z => by obtain ⟨z1, z2, z3, z4⟩ := z; have e := ec z1.1 z1.2; have e2 := er z2.1 z2.2; have e3 := eh z2.1 z2.2; omega, rfl, rfl⟩⟩
    · have cb3r := cb3
      rw [r1] at cb3r
      have dcb3 : (pp).toInt < (xI h 3 9).toInt := Int32.lt_iff_toInt_lt.mp (Int32.not_le.mp cb3r)
      by_cases cb5 : rr < 0
      · have e_0 : (0 : Int32).toInt = 0 := rfl
        have dcb5 : (rr).toInt < (0 : Int32).toInt := Int32.lt_iff_toInt_lt.mp cb5
        have t6 : XT l 2 68 false 94 153 6051 0 [xf 12 2, xi pp, xi rr] [] h 30 [xf 12 2, xi pp, xi rr] [xi (Int32.ofInt (0))] h := XT_path (l := l) (fr := 2) (lo := 68) (full := false) (M := 94) (n := 153) (u := 6051) (pc := 0) (L := [xf 12 2, xi pp, xi rr]) (st := []) (h := h) (inl := [72, 85, 86]) (n' := 120) (sp := [30]) (o := [0, 0, 0, 1, 1]) rfl rfl ⟨rfl, rfl, rfl⟩ rfl ⟨Nat.le_of_eq hg.2.2.2.1, Nat.le_of_eq hg.2.2.2.2⟩ ⟨⟨⟨⟨⟨⟨⟨⟨trivial, cb1⟩, (show ¬ xR h 2 1 = 0 from by rw [r1]; decide)⟩, cb3⟩, (Or.inr rfl)⟩, (show ¬ (Int32.ofInt (1)) = 0 from by decide)⟩, cb5⟩, (Or.inl rfl)⟩, rfl⟩
        exact ⟨_, _, CX_ofT (h' := h) (by decide) rfl rfl ⟨trivial, (Or.inl rfl)⟩ ⟨_, _, _, rfl, rfl, rfl⟩ rfl ⟨Nat.le_of_eq hg.2.2.2.1.symm, Nat.le_of_eq hg.2.2.2.2.symm⟩ t6, Or.inl ⟨fun z => by obtain ⟨z1, z2, z3, z4⟩ := z; have e := ec z1.1 z1.2; have e2 := er z2.1 z2.2; have e3 := eh z2.1 z2.2; omega, rfl, rfl⟩⟩
      · have e_0 : (0 : Int32).toInt = 0 := rfl
        have dcb5 : (0 : Int32).toInt ≤ (rr).toInt := Int32.le_iff_toInt_le.mp (Int32.not_lt.mp cb5)
        by_cases cb7 : (xI h (xR h 2 1) 0) ≤ rr
        · have cb7r := cb7
          rw [r1] at cb7r
          have dcb7 : (xI h 3 0).toInt ≤ (rr).toInt := Int32.le_iff_toInt_le.mp cb7r
          have t8 : XT l 2 68 false 94 153 6051 0 [xf 12 2, xi pp, xi rr] [] h 30 [xf 12 2, xi pp, xi rr] [xi (Int32.ofInt (0))] h := XT_path (l := l) (fr := 2) (lo := 68) (full := false) (M := 94) (n := 153) (u := 6051) (pc := 0) (L := [xf 12 2, xi pp, xi rr]) (st := []) (h := h) (inl := [72, 85, 86]) (n' := 120) (sp := [30]) (o := [0, 0, 0, 0, 1, 1]) rfl rfl ⟨rfl, rfl, rfl⟩ rfl ⟨Nat.le_of_eq hg.2.2.2.1, Nat.le_of_eq hg.2.2.2.2⟩ ⟨⟨⟨⟨⟨⟨⟨⟨⟨⟨trivial, cb1⟩, (show ¬ xR h 2 1 = 0 from by rw [r1]; decide)⟩, cb3⟩, (Or.inr rfl)⟩, (show ¬ (Int32.ofInt (1)) = 0 from by decide)⟩, cb5⟩, (show ¬ xR h 2 1 = 0 from by rw [r1]; decide)⟩, cb7⟩, (Or.inl rfl)⟩, rfl⟩
          exact ⟨_, _, CX_ofT (h' := h) (by decide) rfl rfl ⟨trivial, (Or.inl rfl)⟩ ⟨_, _, _, rfl, rfl, rfl⟩ rfl ⟨Nat.le_of_eq hg.2.2.2.1.symm, Nat.le_of_eq hg.2.2.2.2.symm⟩ t8, Or.inl ⟨fun z => by obtain ⟨z1, z2, z3, z4⟩ := z; have e := ec z1.1 z1.2; have e2 := er z2.1 z2.2; have e3 := eh z2.1 z2.2; omega, rfl, rfl⟩⟩
        · have cb7r := cb7
          rw [r1] at cb7r
          have dcb7 : (rr).toInt < (xI h 3 0).toInt := Int32.lt_iff_toInt_lt.mp (Int32.not_le.mp cb7r)
          by_cases cb9 : (xI h (xR h (xR h 2 3) 4) (pp).toNatClampNeg) = rr
          · have cb9r := cb9
            rw [vref hg.1 (rfl : vRf 2 3 = [48]), vref hg.1 (rfl : vRf 48 4 = [52])] at cb9r
            have dcb9 : (xI h 52 (pp).toNatClampNeg).toInt = (rr).toInt := congrArg Int32.toInt cb9r
            have t10 : XT l 2 68 false 94 153 6051 0 [xf 12 2, xi pp, xi rr] [] h 30 [xf 12 2, xi pp, xi rr] [xi (Int32.ofInt (0))] h := XT_path (l := l) (fr := 2) (lo := 68) (full := false) (M := 94) (n := 153) (u := 6051) (pc := 0) (L := [xf 12 2, xi pp, xi rr]) (st := []) (h := h) (inl := [72, 85, 86]) (n' := 120) (sp := [30]) (o := [0, 0, 0, 0, 0, 0, 0]) rfl rfl ⟨rfl, rfl, rfl⟩ rfl ⟨Nat.le_of_eq hg.2.2.2.1, Nat.le_of_eq hg.2.2.2.2⟩ ⟨⟨⟨⟨⟨⟨⟨⟨⟨⟨⟨⟨⟨⟨trivial, cb1⟩, (show ¬ xR h 2 1 = 0 from by rw [r1]; decide)⟩, cb3⟩, (Or.inr rfl)⟩, (show ¬ (Int32.ofInt (1)) = 0 from by decide)⟩, cb5⟩, (show ¬ xR h 2 1 = 0 from by rw [r1]; decide)⟩, cb7⟩, (Or.inr rfl)⟩, (show ¬ (Int32.ofInt (1)) = 0 from by decide)⟩, (vnn hg.1 (rfl : vRf 2 3 = [48]) (by decide))⟩, (show ¬ xR h (xR h 2 3) 4 = 0 from by rw [vref hg.1 (rfl : vRf 2 3 = [48])]; exact vnn hg.1 (rfl : vRf 48 4 = [52]) (by decide))⟩, (vp_of (i := pp) (n := 8) (by omega) (by omega))⟩, cb9⟩
            exact ⟨_, _, CX_ofT (h' := h) (by decide) rfl rfl ⟨trivial, (Or.inl rfl)⟩ ⟨_, _, _, rfl, rfl, rfl⟩ rfl ⟨Nat.le_of_eq hg.2.2.2.1.symm, Nat.le_of_eq hg.2.2.2.2.symm⟩ t10, Or.inl ⟨fun z => by obtain ⟨z1, z2, z3, z4⟩ := z; have e := ec z1.1 z1.2; have e2 := er z2.1 z2.2; have e3 := eh z2.1 z2.2; omega, rfl, rfl⟩⟩
          · have cb9r := cb9
            rw [vref hg.1 (rfl : vRf 2 3 = [48]), vref hg.1 (rfl : vRf 48 4 = [52])] at cb9r
            have dcb9 : ¬ (xI h 52 (pp).toNatClampNeg).toInt = (rr).toInt := fun z_ => cb9r (Int32.toInt_inj.mp z_)
            by_cases cb11 : (xI h (xR h (xR h 2 3) 9) (rr).toNatClampNeg) < (xI h (xR h (xR h 2 1) 4) (rr).toNatClampNeg)
            · have cb11r := cb11
              rw [vref hg.1 (rfl : vRf 2 3 = [48]), r1, vref hg.1 (rfl : vRf 48 9 = [56]), vref hg.1 (rfl : vRf 3 4 = [7])] at cb11r
              have dcb11 : (xI h 56 (rr).toNatClampNeg).toInt < (xI h 7 (rr).toNatClampNeg).toInt := Int32.lt_iff_toInt_lt.mp cb11r
              have t12 : XT l 2 68 false 94 153 6051 0 [xf 12 2, xi pp, xi rr] [] h 69 [xf 12 2, xi pp, xi rr] [xi (xI h (xR h (xR h 2 3) 4) (pp).toNatClampNeg), xi pp, xi (Int32.ofInt (1)), xf 6 (xR h 2 7)] h := XT_path (l := l) (fr := 2) (lo := 68) (full := false) (M := 94) (n := 153) (u := 6051) (pc := 0) (L := [xf 12 2, xi pp, xi rr]) (st := []) (h := h) (inl := [72, 85, 86]) (n' := 120) (sp := [69]) (o := [0, 0, 0, 0, 0, 0, 1, 1]) rfl rfl ⟨rfl, rfl, rfl⟩ rfl ⟨Nat.le_of_eq hg.2.2.2.1, Nat.le_of_eq hg.2.2.2.2⟩ ⟨⟨⟨⟨⟨⟨⟨⟨⟨⟨⟨⟨⟨⟨⟨⟨⟨⟨⟨⟨⟨⟨⟨⟨⟨trivial, cb1⟩, (show ¬ xR h 2 1 = 0 from by rw [r1]; decide)⟩, cb3⟩, (Or.inr rfl)⟩, (show ¬ (Int32.ofInt (1)) = 0 from by decide)⟩, cb5⟩, (show ¬ xR h 2 1 = 0 from by rw [r1]; decide)⟩, cb7⟩, (Or.inr rfl)⟩, (show ¬ (Int32.ofInt (1)) = 0 from by decide)⟩, (vnn hg.1 (rfl : vRf 2 3 = [48]) (by decide))⟩, (show ¬ xR h (xR h 2 3) 4 = 0 from by rw [vref hg.1 (rfl : vRf 2 3 = [48])]; exact vnn hg.1 (rfl : vRf 48 4 = [52]) (by decide))⟩, (vp_of (i := pp) (n := 8) (by omega) (by omega))⟩, cb9⟩, (vnn hg.1 (rfl : vRf 2 3 = [48]) (by decide))⟩, (show ¬ xR h (xR h 2 3) 9 = 0 from by rw [vref hg.1 (rfl : vRf 2 3 = [48])]; exact vnn hg.1 (rfl : vRf 48 9 = [56]) (by decide))⟩, (vp_of (i := rr) (n := 6) (by omega) (by omega))⟩, (show ¬ xR h 2 1 = 0 from by rw [r1]; decide)⟩, (show ¬ xR h (xR h 2 1) 4 = 0 from by rw [r1]; exact vnn hg.1 (rfl : vRf 3 4 = [7]) (by decide))⟩, (vp_of (i := rr) (n := 6) (by omega) (by omega))⟩, cb11⟩, (vnn hg.1 (rfl : vRf 2 7 = [81]) (by decide))⟩, (vnn hg.1 (rfl : vRf 2 3 = [48]) (by decide))⟩, (show ¬ xR h (xR h 2 3) 4 = 0 from by rw [vref hg.1 (rfl : vRf 2 3 = [48])]; exact vnn hg.1 (rfl : vRf 48 4 = [52]) (by decide))⟩, (vp_of (i := pp) (n := 8) (by omega) (by omega))⟩
              rw [vref hg.1 (rfl : vRf 2 3 = [48]), vref hg.1 (rfl : vRf 2 7 = [81]), vref hg.1 (rfl : vRf 48 4 = [52])] at t12
              have bv := V.2.1 pp.toInt.toNat (by omega)
              have ee := ec0 (by omega) (by omega)
              have ee2 := ec (by omega) (by omega)
              obtain ⟨h1, c1, G1, kp1⟩ := ck_add l (Int32.ofInt (1)) pp (xI h 52 (pp).toNatClampNeg) n En h hg kp (by omega) (by omega) (by omega)
              have t13 : XT l 2 68 false 94 153 6051 69 [xf 12 2, xi pp, xi rr] [xi (xI h 52 (pp).toNatClampNeg), xi pp, xi (Int32.ofInt (1)), xf 6 81] h 72 [xf 12 2, xi pp, xi rr] [] h1 := XT_call (l := l) (fr := 2) (lo := 68) (full := false) (M := 94) (n := 153) (u := 6051) (pc := 69) (L := [xf 12 2, xi pp, xi rr]) (st := [xi (xI h 52 (pp).toNatClampNeg), xi pp, xi (Int32.ofInt (1)), xf 6 81]) (h := h) (i := .invokevirtual 93) (aux := 4) (nx := 72) (K := 93) (vs := [xf 6 81, xi (Int32.ofInt (1)), xi pp, xi (xI h 52 (pp).toNatClampNeg)]) (rs := []) (rest := []) rfl rfl rfl rfl rfl rfl c1 (by decide) (by decide) (Nat.le_of_ble_eq_true rfl) ⟨Nat.le_of_eq G1.1.2.2.2.1, Nat.le_of_eq G1.1.2.2.2.2⟩
              have t14 := t12.tr t13
              have q1 : xR h1 48 0 = 3 := (G1.2.2 48 0).trans r0
              have s1 : xR h1 2 1 = 3 := (G1.2.2 2 1).trans r1
              have t15 : XT l 2 68 false 94 153 6051 72 [xf 12 2, xi pp, xi rr] [] h1 78 [xf 12 2, xi pp, xi rr] [xi rr, xi pp, xf 11 (xR h1 2 3)] h1 := XT_path (l := l) (fr := 2) (lo := 68) (full := false) (M := 94) (n := 153) (u := 6051) (pc := 72) (L := [xf 12 2, xi pp, xi rr]) (st := []) (h := h1) (inl := [72, 85, 86]) (n' := 120) (sp := [78]) (o := []) rfl rfl ⟨rfl, rfl, rfl⟩ rfl ⟨Nat.le_of_eq G1.1.2.2.2.1, Nat.le_of_eq G1.1.2.2.2.2⟩ ⟨trivial, (vnn G1.1.1 (rfl : vRf 2 3 = [48]) (by decide))⟩
              rw [vref G1.1.1 (rfl : vRf 2 3 = [48])] at t15
              have t16 := t14.tr t15
              obtain ⟨h3, c3, G3, k43, ke3⟩ := ck_settle l Z Y pp rr pp.toInt.toNat rr.toInt.toNat h1 G1.1 A.1 V (fun q hq => (G1.2.1 52 q (by decide)).trans (kw.2.1 q hq).1) (ke.q G1 (by decide)) (by omega) (by omega) (by omega) (by omega)
              have t17 : XT l 2 68 false 94 153 6051 78 [xf 12 2, xi pp, xi rr] [xi rr, xi pp, xf 11 48] h1 81 [xf 12 2, xi pp, xi rr] [] h3 := XT_call (l := l) (fr := 2) (lo := 68) (full := false) (M := 94) (n := 153) (u := 6051) (pc := 78) (L := [xf 12 2, xi pp, xi rr]) (st := [xi rr, xi pp, xf 11 48]) (h := h1) (i := .invokevirtual 95) (aux := 3) (nx := 81) (K := 95) (vs := [xf 11 48, xi pp, xi rr]) (rs := []) (rest := []) rfl rfl rfl rfl rfl rfl c3 (by decide) (by decide) (Nat.le_of_ble_eq_true rfl) ⟨Nat.le_of_eq G3.1.2.2.2.1, Nat.le_of_eq G3.1.2.2.2.2⟩
              have t18 := t16.tr t17
              have t19 : XT l 2 68 false 94 153 6051 81 [xf 12 2, xi pp, xi rr] [] h3 82 [xf 12 2, xi pp, xi rr] [xi (Int32.ofInt (1))] h3 := XT_path (l := l) (fr := 2) (lo := 68) (full := false) (M := 94) (n := 153) (u := 6051) (pc := 81) (L := [xf 12 2, xi pp, xi rr]) (st := []) (h := h3) (inl := [72, 85, 86]) (n' := 120) (sp := [82]) (o := []) rfl rfl ⟨rfl, rfl, rfl⟩ rfl ⟨Nat.le_of_eq G3.1.2.2.2.1, Nat.le_of_eq G3.1.2.2.2.2⟩ trivial
              have t20 := t18.tr t19
              have G4 : mQ [52, 56, 81, 82, 83, 84] h h3 := (G1.mono (by decide)).tr (G3.mono (by decide))
              have e2 := er (by omega) (by omega)
              have e3 := eh (by omega) (by omega)
              refine ⟨_, h3, CX_ofT (h' := h3) (by decide) rfl rfl ⟨trivial, (Or.inr rfl)⟩ ⟨_, _, _, rfl, rfl, rfl⟩ rfl ⟨Nat.le_of_eq G3.1.2.2.2.1.symm, Nat.le_of_eq G3.1.2.2.2.2.symm⟩ t20, Or.inr ⟨⟨⟨by omega, by omega⟩, ⟨by omega, by omega⟩, by omega, by omega⟩, rfl, G4, ?_, ke3, ?_⟩⟩
              · exact kw.mv A.1 (by omega) (fun e k he => G4.2.1 e k (by rcases he with rfl | rfl | rfl <;> decide)) k43 (G4.2.2 48 0)
              · rw [← ee]
                exact kp1.q G3 (by decide)
            · have cb11r := cb11
              rw [vref hg.1 (rfl : vRf 2 3 = [48]), r1, vref hg.1 (rfl : vRf 48 9 = [56]), vref hg.1 (rfl : vRf 3 4 = [7])] at cb11r
              have dcb11 : (xI h 7 (rr).toNatClampNeg).toInt ≤ (xI h 56 (rr).toNatClampNeg).toInt := Int32.le_iff_toInt_le.mp (Int32.not_lt.mp cb11r)
              have t21 : XT l 2 68 false 94 153 6051 0 [xf 12 2, xi pp, xi rr] [] h 53 [xf 12 2, xi pp, xi rr] [xi (Int32.ofInt (0))] h := XT_path (l := l) (fr := 2) (lo := 68) (full := false) (M := 94) (n := 153) (u := 6051) (pc := 0) (L := [xf 12 2, xi pp, xi rr]) (st := []) (h := h) (inl := [72, 85, 86]) (n' := 120) (sp := [53]) (o := [0, 0, 0, 0, 0, 0, 1, 0]) rfl rfl ⟨rfl, rfl, rfl⟩ rfl ⟨Nat.le_of_eq hg.2.2.2.1, Nat.le_of_eq hg.2.2.2.2⟩ ⟨⟨⟨⟨⟨⟨⟨⟨⟨⟨⟨⟨⟨⟨⟨⟨⟨⟨⟨⟨⟨trivial, cb1⟩, (show ¬ xR h 2 1 = 0 from by rw [r1]; decide)⟩, cb3⟩, (Or.inr rfl)⟩, (show ¬ (Int32.ofInt (1)) = 0 from by decide)⟩, cb5⟩, (show ¬ xR h 2 1 = 0 from by rw [r1]; decide)⟩, cb7⟩, (Or.inr rfl)⟩, (show ¬ (Int32.ofInt (1)) = 0 from by decide)⟩, (vnn hg.1 (rfl : vRf 2 3 = [48]) (by decide))⟩, (show ¬ xR h (xR h 2 3) 4 = 0 from by rw [vref hg.1 (rfl : vRf 2 3 = [48])]; exact vnn hg.1 (rfl : vRf 48 4 = [52]) (by decide))⟩, (vp_of (i := pp) (n := 8) (by omega) (by omega))⟩, cb9⟩, (vnn hg.1 (rfl : vRf 2 3 = [48]) (by decide))⟩, (show ¬ xR h (xR h 2 3) 9 = 0 from by rw [vref hg.1 (rfl : vRf 2 3 = [48])]; exact vnn hg.1 (rfl : vRf 48 9 = [56]) (by decide))⟩, (vp_of (i := rr) (n := 6) (by omega) (by omega))⟩, (show ¬ xR h 2 1 = 0 from by rw [r1]; decide)⟩, (show ¬ xR h (xR h 2 1) 4 = 0 from by rw [r1]; exact vnn hg.1 (rfl : vRf 3 4 = [7]) (by decide))⟩, (vp_of (i := rr) (n := 6) (by omega) (by omega))⟩, cb11⟩
              exact ⟨_, _, CX_ofT (h' := h) (by decide) rfl rfl ⟨trivial, (Or.inl rfl)⟩ ⟨_, _, _, rfl, rfl, rfl⟩ rfl ⟨Nat.le_of_eq hg.2.2.2.1.symm, Nat.le_of_eq hg.2.2.2.2.symm⟩ t21, Or.inl ⟨fun z => by obtain ⟨z1, z2, z3, z4⟩ := z; have e := ec z1.1 z1.2; have e2 := er z2.1 z2.2; have e3 := eh z2.1 z2.2; omega, rfl, rfl⟩⟩
set_option maxRecDepth 100000 in
set_option maxHeartbeats 4000000 in
theorem ck_move24 (l : Launch) (Z : Nat → Int) (Y : Nat → Int32) (pp rr : Int32) (n : Nat) (En : Nat → Int32 × Int32 × Int32) (h : XH) (hg : mI h) (A : zAll Z) (r1 : xR h 2 1 = 24) (kt : kTx 24 Z h) (kw : kW 48 24 Z Y h) (V : zVd Z Y) (kd : kD 48 Z Y h) (ke : kE 48 Z Y h) (kp : kPa n En h) : ∃ v h', CX l 2 68 false 94 [xf 12 2, xi pp, xi rr] h [xi v] h' ∧ ((¬ zMov Z Y pp rr ∧ v = (Int32.ofInt (0)) ∧ h' = h) ∨ (zMov Z Y pp rr ∧ v = (Int32.ofInt (1)) ∧ mQ [52, 56, 81, 82, 83, 84] h h' ∧ kW 48 24 Z (zup Y (20 + pp.toInt.toNat) rr) h' ∧ kE 48 Z (zup Y (20 + pp.toInt.toNat) rr) h' ∧ kPa (zpn n) (zpe n En ((Int32.ofInt (1)), pp, Y (20 + pp.toInt.toNat))) h')) := by
  obtain ⟨⟨⟨B00, B01⟩, ⟨B10, B11⟩, ⟨B20, B21⟩, B30, B31⟩, g6, zj, zv, LW⟩ := id A
  have r0 : xR h 48 0 = 24 := kw.2.2.2.2.2
  have e_0 : ((Int32.ofInt (0))).toInt = 0 := rfl
  have e_1 : ((Int32.ofInt (1))).toInt = 1 := rfl
  have e_m1 : ((Int32.ofInt (-1))).toInt = -1 := rfl
  have e_9 : ((Int32.ofInt (9))).toInt = 9 := rfl
  have e_2 : ((Int32.ofInt (2))).toInt = 2 := rfl
  have ez : (0 : Int32).toInt = 0 := rfl
  have ep : (xI h 24 9).toInt = Z 2 := kt.1.1 2 (by decide)
  have eg : (xI h 24 0).toInt = Z 0 := kt.1.1 0 (by decide)
  have ec0 : 0 ≤ pp.toInt → pp.toInt < Z 2 → xI h 52 pp.toNatClampNeg = Y (20 + pp.toInt.toNat) := fun a b => (kw.2.1 pp.toInt.toNat (by omega)).1
  have ec : 0 ≤ pp.toInt → pp.toInt < Z 2 → (xI h 52 pp.toNatClampNeg).toInt = (Y (20 + pp.toInt.toNat)).toInt := fun a b => congrArg Int32.toInt (ec0 a b)
  have er : 0 ≤ rr.toInt → rr.toInt < Z 0 → (xI h 56 rr.toNatClampNeg).toInt = (zCr Z Y rr.toInt.toNat).toInt := fun a b => congrArg Int32.toInt (ke rr.toInt.toNat (by omega))
  have eh : 0 ≤ rr.toInt → rr.toInt < Z 0 → (xI h 28 rr.toNatClampNeg).toInt = Z (130 + rr.toInt.toNat) := fun a b => kt.1.2.2 3 rr.toInt.toNat (by decide) (show ((rr.toInt.toNat : Nat) : Int) < Z 0 by omega)
  by_cases cb1 : pp < 0
  · have e_0 : (0 : Int32).toInt = 0 := rfl
    have dcb1 : (pp).toInt < (0 : Int32).toInt := Int32.lt_iff_toInt_lt.mp cb1
    have t2 : XT l 2 68 false 94 153 6051 0 [xf 12 2, xi pp, xi rr] [] h 30 [xf 12 2, xi pp, xi rr] [xi (Int32.ofInt (0))] h := XT_path (l := l) (fr := 2) (lo := 68) (full := false) (M := 94) (n := 153) (u := 6051) (pc := 0) (L := [xf 12 2, xi pp, xi rr]) (st := []) (h := h) (inl := [72, 85, 86]) (n' := 120) (sp := [30]) (o := [1, 1]) rfl rfl ⟨rfl, rfl, rfl⟩ rfl ⟨Nat.le_of_eq hg.2.2.2.1, Nat.le_of_eq hg.2.2.2.2⟩ ⟨⟨⟨trivial, cb1⟩, (Or.inl rfl)⟩, rfl⟩
    exact ⟨_, _, CX_ofT (h' := h) (by decide) rfl rfl ⟨trivial, (Or.inl rfl)⟩ ⟨_, _, _, rfl, rfl, rfl⟩ rfl ⟨Nat.le_of_eq hg.2.2.2.1.symm, Nat.le_of_eq hg.2.2.2.2.symm⟩ t2, Or.inl ⟨fun z => by obtain ⟨z1, z2, z3, z4⟩ := z; have e := ec z1.1 z1.2; have e2 := er z2.1 z2.2; have e3 := eh z2.1 z2.2; omega, rfl, rfl⟩⟩
  · have e_0 : (0 : Int32).toInt = 0 := rfl
    have dcb1 : (0 : Int32).toInt ≤ (pp).toInt := Int32.le_iff_toInt_le.mp (Int32.not_lt.mp cb1)
    by_cases cb3 : (xI h (xR h 2 1) 9) ≤ pp
    · have cb3r := cb3
      rw [r1] at cb3r
      have dcb3 : (xI h 24 9).toInt ≤ (pp).toInt := Int32.le_iff_toInt_le.mp cb3r
      have t4 : XT l 2 68 false 94 153 6051 0 [xf 12 2, xi pp, xi rr] [] h 30 [xf 12 2, xi pp, xi rr] [xi (Int32.ofInt (0))] h := XT_path (l := l) (fr := 2) (lo := 68) (full := false) (M := 94) (n := 153) (u := 6051) (pc := 0) (L := [xf 12 2, xi pp, xi rr]) (st := []) (h := h) (inl := [72, 85, 86]) (n' := 120) (sp := [30]) (o := [0, 1, 1]) rfl rfl ⟨rfl, rfl, rfl⟩ rfl ⟨Nat.le_of_eq hg.2.2.2.1, Nat.le_of_eq hg.2.2.2.2⟩ ⟨⟨⟨⟨⟨trivial, cb1⟩, (show ¬ xR h 2 1 = 0 from by rw [r1]; decide)⟩, cb3⟩, (Or.inl rfl)⟩, rfl⟩
      exact ⟨_, _, CX_ofT (h' := h) (by decide) rfl rfl ⟨trivial, (Or.inl rfl)⟩ ⟨_, _, _, rfl, rfl, rfl⟩ rfl ⟨Nat.le_of_eq hg.2.2.2.1.symm, Nat.le_of_eq hg.2.2.2.2.symm⟩ t4, Or.inl ⟨fun z => by obtain ⟨z1, z2, z3, z4⟩ := z; have e := ec z1.1 z1.2; have e2 := er z2.1 z2.2; have e3 := eh z2.1 z2.2; omega, rfl, rfl⟩⟩
    · have cb3r := cb3
      rw [r1] at cb3r
      have dcb3 : (pp).toInt < (xI h 24 9).toInt := Int32.lt_iff_toInt_lt.mp (Int32.not_le.mp cb3r)
      by_cases cb5 : rr < 0
      · have e_0 : (0 : Int32).toInt = 0 := rfl
        have dcb5 : (rr).toInt < (0 : Int32).toInt := Int32.lt_iff_toInt_lt.mp cb5
        have t6 : XT l 2 68 false 94 153 6051 0 [xf 12 2, xi pp, xi rr] [] h 30 [xf 12 2, xi pp, xi rr] [xi (Int32.ofInt (0))] h := XT_path (l := l) (fr := 2) (lo := 68) (full := false) (M := 94) (n := 153) (u := 6051) (pc := 0) (L := [xf 12 2, xi pp, xi rr]) (st := []) (h := h) (inl := [72, 85, 86]) (n' := 120) (sp := [30]) (o := [0, 0, 0, 1, 1]) rfl rfl ⟨rfl, rfl, rfl⟩ rfl ⟨Nat.le_of_eq hg.2.2.2.1, Nat.le_of_eq hg.2.2.2.2⟩ ⟨⟨⟨⟨⟨⟨⟨⟨trivial, cb1⟩, (show ¬ xR h 2 1 = 0 from by rw [r1]; decide)⟩, cb3⟩, (Or.inr rfl)⟩, (show ¬ (Int32.ofInt (1)) = 0 from by decide)⟩, cb5⟩, (Or.inl rfl)⟩, rfl⟩
        exact ⟨_, _, CX_ofT (h' := h) (by decide) rfl rfl ⟨trivial, (Or.inl rfl)⟩ ⟨_, _, _, rfl, rfl, rfl⟩ rfl ⟨Nat.le_of_eq hg.2.2.2.1.symm, Nat.le_of_eq hg.2.2.2.2.symm⟩ t6, Or.inl ⟨fun z => by obtain ⟨z1, z2, z3, z4⟩ := z; have e := ec z1.1 z1.2; have e2 := er z2.1 z2.2; have e3 := eh z2.1 z2.2; omega, rfl, rfl⟩⟩
      · have e_0 : (0 : Int32).toInt = 0 := rfl
        have dcb5 : (0 : Int32).toInt ≤ (rr).toInt := Int32.le_iff_toInt_le.mp (Int32.not_lt.mp cb5)
        by_cases cb7 : (xI h (xR h 2 1) 0) ≤ rr
        · have cb7r := cb7
          rw [r1] at cb7r
          have dcb7 : (xI h 24 0).toInt ≤ (rr).toInt := Int32.le_iff_toInt_le.mp cb7r
          have t8 : XT l 2 68 false 94 153 6051 0 [xf 12 2, xi pp, xi rr] [] h 30 [xf 12 2, xi pp, xi rr] [xi (Int32.ofInt (0))] h := XT_path (l := l) (fr := 2) (lo := 68) (full := false) (M := 94) (n := 153) (u := 6051) (pc := 0) (L := [xf 12 2, xi pp, xi rr]) (st := []) (h := h) (inl := [72, 85, 86]) (n' := 120) (sp := [30]) (o := [0, 0, 0, 0, 1, 1]) rfl rfl ⟨rfl, rfl, rfl⟩ rfl ⟨Nat.le_of_eq hg.2.2.2.1, Nat.le_of_eq hg.2.2.2.2⟩ ⟨⟨⟨⟨⟨⟨⟨⟨⟨⟨trivial, cb1⟩, (show ¬ xR h 2 1 = 0 from by rw [r1]; decide)⟩, cb3⟩, (Or.inr rfl)⟩, (show ¬ (Int32.ofInt (1)) = 0 from by decide)⟩, cb5⟩, (show ¬ xR h 2 1 = 0 from by rw [r1]; decide)⟩, cb7⟩, (Or.inl rfl)⟩, rfl⟩
          exact ⟨_, _, CX_ofT (h' := h) (by decide) rfl rfl ⟨trivial, (Or.inl rfl)⟩ ⟨_, _, _, rfl, rfl, rfl⟩ rfl ⟨Nat.le_of_eq hg.2.2.2.1.symm, Nat.le_of_eq hg.2.2.2.2.symm⟩ t8, Or.inl ⟨fun z => by obtain ⟨z1, z2, z3, z4⟩ := z; have e := ec z1.1 z1.2; have e2 := er z2.1 z2.2; have e3 := eh z2.1 z2.2; omega, rfl, rfl⟩⟩
        · have cb7r := cb7
          rw [r1] at cb7r
          have dcb7 : (rr).toInt < (xI h 24 0).toInt := Int32.lt_iff_toInt_lt.mp (Int32.not_le.mp cb7r)
          by_cases cb9 : (xI h (xR h (xR h 2 3) 4) (pp).toNatClampNeg) = rr
          · have cb9r := cb9
            rw [vref hg.1 (rfl : vRf 2 3 = [48]), vref hg.1 (rfl : vRf 48 4 = [52])] at cb9r
            have dcb9 : (xI h 52 (pp).toNatClampNeg).toInt = (rr).toInt := congrArg Int32.toInt cb9r
            have t10 : XT l 2 68 false 94 153 6051 0 [xf 12 2, xi pp, xi rr] [] h 30 [xf 12 2, xi pp, xi rr] [xi (Int32.ofInt (0))] h := XT_path (l := l) (fr := 2) (lo := 68) (full := false) (M := 94) (n := 153) (u := 6051) (pc := 0) (L := [xf 12 2, xi pp, xi rr]) (st := []) (h := h) (inl := [72, 85, 86]) (n' := 120) (sp := [30]) (o := [0, 0, 0, 0, 0, 0, 0]) rfl rfl ⟨rfl, rfl, rfl⟩ rfl ⟨Nat.le_of_eq hg.2.2.2.1, Nat.le_of_eq hg.2.2.2.2⟩ ⟨⟨⟨⟨⟨⟨⟨⟨⟨⟨⟨⟨⟨⟨trivial, cb1⟩, (show ¬ xR h 2 1 = 0 from by rw [r1]; decide)⟩, cb3⟩, (Or.inr rfl)⟩, (show ¬ (Int32.ofInt (1)) = 0 from by decide)⟩, cb5⟩, (show ¬ xR h 2 1 = 0 from by rw [r1]; decide)⟩, cb7⟩, (Or.inr rfl)⟩, (show ¬ (Int32.ofInt (1)) = 0 from by decide)⟩, (vnn hg.1 (rfl : vRf 2 3 = [48]) (by decide))⟩, (show ¬ xR h (xR h 2 3) 4 = 0 from by rw [vref hg.1 (rfl : vRf 2 3 = [48])]; exact vnn hg.1 (rfl : vRf 48 4 = [52]) (by decide))⟩, (vp_of (i := pp) (n := 8) (by omega) (by omega))⟩, cb9⟩
            exact ⟨_, _, CX_ofT (h' := h) (by decide) rfl rfl ⟨trivial, (Or.inl rfl)⟩ ⟨_, _, _, rfl, rfl, rfl⟩ rfl ⟨Nat.le_of_eq hg.2.2.2.1.symm, Nat.le_of_eq hg.2.2.2.2.symm⟩ t10, Or.inl ⟨fun z => by obtain ⟨z1, z2, z3, z4⟩ := z; have e := ec z1.1 z1.2; have e2 := er z2.1 z2.2; have e3 := eh z2.1 z2.2; omega, rfl, rfl⟩⟩
          · have cb9r := cb9
            rw [vref hg.1 (rfl : vRf 2 3 = [48]), vref hg.1 (rfl : vRf 48 4 = [52])] at cb9r
            have dcb9 : ¬ (xI h 52 (pp).toNatClampNeg).toInt = (rr).toInt := fun z_ => cb9r (Int32.toInt_inj.mp z_)
            by_cases cb11 : (xI h (xR h (xR h 2 3) 9) (rr).toNatClampNeg) < (xI h (xR h (xR h 2 1) 4) (rr).toNatClampNeg)
            · have cb11r := cb11
              rw [vref hg.1 (rfl : vRf 2 3 = [48]), r1, vref hg.1 (rfl : vRf 48 9 = [56]), vref hg.1 (rfl : vRf 24 4 = [28])] at cb11r
              have dcb11 : (xI h 56 (rr).toNatClampNeg).toInt < (xI h 28 (rr).toNatClampNeg).toInt := Int32.lt_iff_toInt_lt.mp cb11r
              have t12 : XT l 2 68 false 94 153 6051 0 [xf 12 2, xi pp, xi rr] [] h 69 [xf 12 2, xi pp, xi rr] [xi (xI h (xR h (xR h 2 3) 4) (pp).toNatClampNeg), xi pp, xi (Int32.ofInt (1)), xf 6 (xR h 2 7)] h := XT_path (l := l) (fr := 2) (lo := 68) (full := false) (M := 94) (n := 153) (u := 6051) (pc := 0) (L := [xf 12 2, xi pp, xi rr]) (st := []) (h := h) (inl := [72, 85, 86]) (n' := 120) (sp := [69]) (o := [0, 0, 0, 0, 0, 0, 1, 1]) rfl rfl ⟨rfl, rfl, rfl⟩ rfl ⟨Nat.le_of_eq hg.2.2.2.1, Nat.le_of_eq hg.2.2.2.2⟩ ⟨⟨⟨⟨⟨⟨⟨⟨⟨⟨⟨⟨⟨⟨⟨⟨⟨⟨⟨⟨⟨⟨⟨⟨⟨trivial, cb1⟩, (show ¬ xR h 2 1 = 0 from by rw [r1]; decide)⟩, cb3⟩, (Or.inr rfl)⟩, (show ¬ (Int32.ofInt (1)) = 0 from by decide)⟩, cb5⟩, (show ¬ xR h 2 1 = 0 from by rw [r1]; decide)⟩, cb7⟩, (Or.inr rfl)⟩, (show ¬ (Int32.ofInt (1)) = 0 from by decide)⟩, (vnn hg.1 (rfl : vRf 2 3 = [48]) (by decide))⟩, (show ¬ xR h (xR h 2 3) 4 = 0 from by rw [vref hg.1 (rfl : vRf 2 3 = [48])]; exact vnn hg.1 (rfl : vRf 48 4 = [52]) (by decide))⟩, (vp_of (i := pp) (n := 8) (by omega) (by omega))⟩, cb9⟩, (vnn hg.1 (rfl : vRf 2 3 = [48]) (by decide))⟩, (show ¬ xR h (xR h 2 3) 9 = 0 from by rw [vref hg.1 (rfl : vRf 2 3 = [48])]; exact vnn hg.1 (rfl : vRf 48 9 = [56]) (by decide))⟩, (vp_of (i := rr) (n := 6) (by omega) (by omega))⟩, (show ¬ xR h 2 1 = 0 from by rw [r1]; decide)⟩, (show ¬ xR h (xR h 2 1) 4 = 0 from by rw [r1]; exact vnn hg.1 (rfl : vRf 24 4 = [28]) (by decide))⟩, (vp_of (i := rr) (n := 6) (by omega) (by omega))⟩, cb11⟩, (vnn hg.1 (rfl : vRf 2 7 = [81]) (by decide))⟩, (vnn hg.1 (rfl : vRf 2 3 = [48]) (by decide))⟩, (show ¬ xR h (xR h 2 3) 4 = 0 from by rw [vref hg.1 (rfl : vRf 2 3 = [48])]; exact vnn hg.1 (rfl : vRf 48 4 = [52]) (by decide))⟩, (vp_of (i := pp) (n := 8) (by omega) (by omega))⟩
              rw [vref hg.1 (rfl : vRf 2 3 = [48]), vref hg.1 (rfl : vRf 2 7 = [81]), vref hg.1 (rfl : vRf 48 4 = [52])] at t12
              have bv := V.2.1 pp.toInt.toNat (by omega)
              have ee := ec0 (by omega) (by omega)
              have ee2 := ec (by omega) (by omega)
              obtain ⟨h1, c1, G1, kp1⟩ := ck_add l (Int32.ofInt (1)) pp (xI h 52 (pp).toNatClampNeg) n En h hg kp (by omega) (by omega) (by omega)
              have t13 : XT l 2 68 false 94 153 6051 69 [xf 12 2, xi pp, xi rr] [xi (xI h 52 (pp).toNatClampNeg), xi pp, xi (Int32.ofInt (1)), xf 6 81] h 72 [xf 12 2, xi pp, xi rr] [] h1 := XT_call (l := l) (fr := 2) (lo := 68) (full := false) (M := 94) (n := 153) (u := 6051) (pc := 69) (L := [xf 12 2, xi pp, xi rr]) (st := [xi (xI h 52 (pp).toNatClampNeg), xi pp, xi (Int32.ofInt (1)), xf 6 81]) (h := h) (i := .invokevirtual 93) (aux := 4) (nx := 72) (K := 93) (vs := [xf 6 81, xi (Int32.ofInt (1)), xi pp, xi (xI h 52 (pp).toNatClampNeg)]) (rs := []) (rest := []) rfl rfl rfl rfl rfl rfl c1 (by decide) (by decide) (Nat.le_of_ble_eq_true rfl) ⟨Nat.le_of_eq G1.1.2.2.2.1, Nat.le_of_eq G1.1.2.2.2.2⟩
              have t14 := t12.tr t13
              have q1 : xR h1 48 0 = 24 := (G1.2.2 48 0).trans r0
              have s1 : xR h1 2 1 = 24 := (G1.2.2 2 1).trans r1
              have t15 : XT l 2 68 false 94 153 6051 72 [xf 12 2, xi pp, xi rr] [] h1 78 [xf 12 2, xi pp, xi rr] [xi rr, xi pp, xf 11 (xR h1 2 3)] h1 := XT_path (l := l) (fr := 2) (lo := 68) (full := false) (M := 94) (n := 153) (u := 6051) (pc := 72) (L := [xf 12 2, xi pp, xi rr]) (st := []) (h := h1) (inl := [72, 85, 86]) (n' := 120) (sp := [78]) (o := []) rfl rfl ⟨rfl, rfl, rfl⟩ rfl ⟨Nat.le_of_eq G1.1.2.2.2.1, Nat.le_of_eq G1.1.2.2.2.2⟩ ⟨trivial, (vnn G1.1.1 (rfl : vRf 2 3 = [48]) (by decide))⟩
              rw [vref G1.1.1 (rfl : vRf 2 3 = [48])] at t15
              have t16 := t14.tr t15
              obtain ⟨h3, c3, G3, k43, ke3⟩ := ck_settle l Z Y pp rr pp.toInt.toNat rr.toInt.toNat h1 G1.1 A.1 V (fun q hq => (G1.2.1 52 q (by decide)).trans (kw.2.1 q hq).1) (ke.q G1 (by decide)) (by omega) (by omega) (by omega) (by omega)
              have t17 : XT l 2 68 false 94 153 6051 78 [xf 12 2, xi pp, xi rr] [xi rr, xi pp, xf 11 48] h1 81 [xf 12 2, xi pp, xi rr] [] h3 := XT_call (l := l) (fr := 2) (lo := 68) (full := false) (M := 94) (n := 153) (u := 6051) (pc := 78) (L := [xf 12 2, xi pp, xi rr]) (st := [xi rr, xi pp, xf 11 48]) (h := h1) (i := .invokevirtual 95) (aux := 3) (nx := 81) (K := 95) (vs := [xf 11 48, xi pp, xi rr]) (rs := []) (rest := []) rfl rfl rfl rfl rfl rfl c3 (by decide) (by decide) (Nat.le_of_ble_eq_true rfl) ⟨Nat.le_of_eq G3.1.2.2.2.1, Nat.le_of_eq G3.1.2.2.2.2⟩
              have t18 := t16.tr t17
              have t19 : XT l 2 68 false 94 153 6051 81 [xf 12 2, xi pp, xi rr] [] h3 82 [xf 12 2, xi pp, xi rr] [xi (Int32.ofInt (1))] h3 := XT_path (l := l) (fr := 2) (lo := 68) (full := false) (M := 94) (n := 153) (u := 6051) (pc := 81) (L := [xf 12 2, xi pp, xi rr]) (st := []) (h := h3) (inl := [72, 85, 86]) (n' := 120) (sp := [82]) (o := []) rfl rfl ⟨rfl, rfl, rfl⟩ rfl ⟨Nat.le_of_eq G3.1.2.2.2.1, Nat.le_of_eq G3.1.2.2.2.2⟩ trivial
              have t20 := t18.tr t19
              have G4 : mQ [52, 56, 81, 82, 83, 84] h h3 := (G1.mono (by decide)).tr (G3.mono (by decide))
              have e2 := er (by omega) (by omega)
              have e3 := eh (by omega) (by omega)
              refine ⟨_, h3, CX_ofT (h' := h3) (by decide) rfl rfl ⟨trivial, (Or.inr rfl)⟩ ⟨_, _, _, rfl, rfl, rfl⟩ rfl ⟨Nat.le_of_eq G3.1.2.2.2.1.symm, Nat.le_of_eq G3.1.2.2.2.2.symm⟩ t20, Or.inr ⟨⟨⟨by omega, by omega⟩, ⟨by omega, by omega⟩, by omega, by omega⟩, rfl, G4, ?_, ke3, ?_⟩⟩
              · exact kw.mv A.1 (by omega) (fun e k he => G4.2.1 e k (by rcases he with rfl | rfl | rfl <;> decide)) k43 (G4.2.2 48 0)
              · rw [← ee]
                exact kp1.q G3 (by decide)
            · have cb11r := cb11
              rw [vref hg.1 (rfl : vRf 2 3 = [48]), r1, vref hg.1 (rfl : vRf 48 9 = [56]), vref hg.1 (rfl : vRf 24 4 = [28])] at cb11r
              have dcb11 : (xI h 28 (rr).toNatClampNeg).toInt ≤ (xI h 56 (rr).toNatClampNeg).toInt := Int32.le_iff_toInt_le.mp (Int32.not_lt.mp cb11r)
              have t21 : XT l 2 68 false 94 153 6051 0 [xf 12 2, xi pp, xi rr] [] h 53 [xf 12 2, xi pp, xi rr] [xi (Int32.ofInt (0))] h := XT_path (l := l) (fr := 2) (lo := 68) (full := false) (M := 94) (n := 153) (u := 6051) (pc := 0) (L := [xf 12 2, xi pp, xi rr]) (st := []) (h := h) (inl := [72, 85, 86]) (n' := 120) (sp := [53]) (o := [0, 0, 0, 0, 0, 0, 1, 0]) rfl rfl ⟨rfl, rfl, rfl⟩ rfl ⟨Nat.le_of_eq hg.2.2.2.1, Nat.le_of_eq hg.2.2.2.2⟩ ⟨⟨⟨⟨⟨⟨⟨⟨⟨⟨⟨⟨⟨⟨⟨⟨⟨⟨⟨⟨⟨trivial, cb1⟩, (show ¬ xR h 2 1 = 0 from by rw [r1]; decide)⟩, cb3⟩, (Or.inr rfl)⟩, (show ¬ (Int32.ofInt (1)) = 0 from by decide)⟩, cb5⟩, (show ¬ xR h 2 1 = 0 from by rw [r1]; decide)⟩, cb7⟩, (Or.inr rfl)⟩, (show ¬ (Int32.ofInt (1)) = 0 from by decide)⟩, (vnn hg.1 (rfl : vRf 2 3 = [48]) (by decide))⟩, (show ¬ xR h (xR h 2 3) 4 = 0 from by rw [vref hg.1 (rfl : vRf 2 3 = [48])]; exact vnn hg.1 (rfl : vRf 48 4 = [52]) (by decide))⟩, (vp_of (i := pp) (n := 8) (by omega) (by omega))⟩, cb9⟩, (vnn hg.1 (rfl : vRf 2 3 = [48]) (by decide))⟩, (show ¬ xR h (xR h 2 3) 9 = 0 from by rw [vref hg.1 (rfl : vRf 2 3 = [48])]; exact vnn hg.1 (rfl : vRf 48 9 = [56]) (by decide))⟩, (vp_of (i := rr) (n := 6) (by omega) (by omega))⟩, (show ¬ xR h 2 1 = 0 from by rw [r1]; decide)⟩, (show ¬ xR h (xR h 2 1) 4 = 0 from by rw [r1]; exact vnn hg.1 (rfl : vRf 24 4 = [28]) (by decide))⟩, (vp_of (i := rr) (n := 6) (by omega) (by omega))⟩, cb11⟩
              exact ⟨_, _, CX_ofT (h' := h) (by decide) rfl rfl ⟨trivial, (Or.inl rfl)⟩ ⟨_, _, _, rfl, rfl, rfl⟩ rfl ⟨Nat.le_of_eq hg.2.2.2.1.symm, Nat.le_of_eq hg.2.2.2.2.symm⟩ t21, Or.inl ⟨fun z => by obtain ⟨z1, z2, z3, z4⟩ := z; have e := ec z1.1 z1.2; have e2 := er z2.1 z2.2; have e3 := eh z2.1 z2.2; omega, rfl, rfl⟩⟩
set_option maxRecDepth 100000 in
set_option maxHeartbeats 4000000 in
theorem ck_undo3 (l : Launch) (Z : Nat → Int) (Y : Nat → Int32) (n : Nat) (En : Nat → Int32 × Int32 × Int32) (h : XH) (hg : mI h) (A : zAll Z) (r1 : xR h 2 1 = 3) (kt : kTx 3 Z h) (kw : kW 48 3 Z Y h) (V : zVd Z Y) (kd : kD 48 Z Y h) (ke : kE 48 Z Y h) (kp : kPa n En h) (ok : 0 < n → zOk Z (En (n - 1))) : ∃ v h', CX l 2 47 false 161 [xf 12 2] h [xi v] h' ∧ ((n = 0 ∧ v = (Int32.ofInt (-1)) ∧ h' = h) ∨ (0 < n ∧ v.toInt = (n : Int) - 1 ∧ mQ [49, 51, 52, 53, 55, 56, 81] h h' ∧ kW 48 3 Z (zEn Y (En (n - 1))) h' ∧ kD 48 Z (zEn Y (En (n - 1))) h' ∧ kE 48 Z (zEn Y (En (n - 1))) h' ∧ kPa (n - 1) En h')) := by
  obtain ⟨⟨⟨B00, B01⟩, ⟨B10, B11⟩, ⟨B20, B21⟩, B30, B31⟩, g6, zj, zv, LW⟩ := id A
  have r0 : xR h 48 0 = 3 := kw.2.2.2.2.2
  have e_0 : ((Int32.ofInt (0))).toInt = 0 := rfl
  have e_1 : ((Int32.ofInt (1))).toInt = 1 := rfl
  have e_m1 : ((Int32.ofInt (-1))).toInt = -1 := rfl
  have e_9 : ((Int32.ofInt (9))).toInt = 9 := rfl
  have e_2 : ((Int32.ofInt (2))).toInt = 2 := rfl
  have ez : (0 : Int32).toInt = 0 := rfl
  have ep : (xI h 3 9).toInt = Z 2 := kt.1.1 2 (by decide)
  have eg : (xI h 3 0).toInt = Z 0 := kt.1.1 0 (by decide)
  have kn := kp.1
  by_cases hn : n = 0
  · have t1 : XT l 2 47 false 161 153 6051 0 [xf 12 2] [] h 4 [xf 12 2] [xf 6 (xR h 2 7)] h := XT_path (l := l) (fr := 2) (lo := 47) (full := false) (M := 161) (n := 153) (u := 6051) (pc := 0) (L := [xf 12 2]) (st := []) (h := h) (inl := []) (n' := 160) (sp := [4]) (o := []) rfl rfl ⟨rfl, rfl, rfl⟩ rfl ⟨Nat.le_of_eq hg.2.2.2.1, Nat.le_of_eq hg.2.2.2.2⟩ ⟨trivial, (vnn hg.1 (rfl : vRf 2 7 = [81]) (by decide))⟩
    rw [vref hg.1 (rfl : vRf 2 7 = [81])] at t1
    have c1 := ck_take0 l h hg (by omega)
    have t2 : XT l 2 47 false 161 153 6051 4 [xf 12 2] [xf 6 81] h 7 [xf 12 2] [xi (Int32.ofInt (0))] h := XT_call (l := l) (fr := 2) (lo := 47) (full := false) (M := 161) (n := 153) (u := 6051) (pc := 4) (L := [xf 12 2]) (st := [xf 6 81]) (h := h) (i := .invokevirtual 162) (aux := 1) (nx := 7) (K := 162) (vs := [xf 6 81]) (rs := [xi (Int32.ofInt (0))]) (rest := []) rfl rfl rfl rfl rfl rfl c1 (by decide) (by decide) (Nat.le_of_ble_eq_true rfl) ⟨Nat.le_of_eq hg.2.2.2.1, Nat.le_of_eq hg.2.2.2.2⟩
    have t3 := t1.tr t2
    have t4 : XT l 2 47 false 161 153 6051 7 [xf 12 2] [xi (Int32.ofInt (0))] h 11 [xf 12 2] [xi (Int32.ofInt (-1))] h := XT_path (l := l) (fr := 2) (lo := 47) (full := false) (M := 161) (n := 153) (u := 6051) (pc := 7) (L := [xf 12 2]) (st := [xi (Int32.ofInt (0))]) (h := h) (inl := []) (n' := 160) (sp := [11]) (o := [0]) rfl rfl ⟨rfl, rfl, rfl⟩ rfl ⟨Nat.le_of_eq hg.2.2.2.1, Nat.le_of_eq hg.2.2.2.2⟩ ⟨trivial, rfl⟩
    have t5 := t3.tr t4
    exact ⟨_, _, CX_ofT (h' := h) (by decide) rfl rfl trivial ⟨_, _, _, rfl, rfl, rfl⟩ rfl ⟨Nat.le_of_eq hg.2.2.2.1.symm, Nat.le_of_eq hg.2.2.2.2.symm⟩ t5, Or.inl ⟨hn, rfl, rfl⟩⟩
  have hn : 0 < n := by omega
  obtain ⟨h1, c1, G1, S0, u1, u2, u3⟩ := ck_take l n En h hg kp hn
  have ok2 := ok hn
  obtain ⟨e, he⟩ : ∃ e, e = En (n - 1) := ⟨_, rfl⟩
  rw [← he] at u1 u2 u3 ok2
  have i1 := congrArg Int32.toInt u1
  have i2 := congrArg Int32.toInt u2
  have i3 := congrArg Int32.toInt u3
  have q1 : xR h1 48 0 = 3 := (G1.2.2 48 0).trans r0
  have s1 : xR h1 2 1 = 3 := (G1.2.2 2 1).trans r1
  have kpS : ∀ h' : XH, (xI h' 81 0).toInt = (n : Int) - 1 → (∀ c k, c = 82 ∨ c = 83 ∨ c = 84 → xI h' c k = xI h c k) → kPa (n - 1) En h' := fun h' a b => ⟨by omega, fun k hk => by rw [b 82 k (by omega), b 83 k (by omega), b 84 k (by omega)]; exact kp.2 k (by omega)⟩
  have eX : (zEn Y (En (n - 1))) = zEn Y e := by rw [he]
  rw [eX]
  rcases ok2 with ⟨o1, o2, o3⟩ | ⟨o1, o2, o3⟩ | ⟨o1, o2, o3⟩
  · have kk : (xI h1 (xR h1 2 7) 1).toInt = 0 := by rw [vref G1.1.1 (rfl : vRf 2 7 = [81])]; omega
    have eZ : zEn Y e = zup Y (30 + e.2.1.toInt.toNat) e.2.2 := if_pos o1
    rw [eZ]
    have nw : (xI h1 81 2).toNatClampNeg = e.2.1.toInt.toNat := zi_ix (by omega)
    have t6 : XT l 2 47 false 161 153 6051 0 [xf 12 2] [] h 4 [xf 12 2] [xf 6 (xR h 2 7)] h := XT_path (l := l) (fr := 2) (lo := 47) (full := false) (M := 161) (n := 153) (u := 6051) (pc := 0) (L := [xf 12 2]) (st := []) (h := h) (inl := []) (n' := 160) (sp := [4]) (o := []) rfl rfl ⟨rfl, rfl, rfl⟩ rfl ⟨Nat.le_of_eq hg.2.2.2.1, Nat.le_of_eq hg.2.2.2.2⟩ ⟨trivial, (vnn hg.1 (rfl : vRf 2 7 = [81]) (by decide))⟩
    rw [vref hg.1 (rfl : vRf 2 7 = [81])] at t6
    have t7 : XT l 2 47 false 161 153 6051 4 [xf 12 2] [xf 6 81] h 7 [xf 12 2] [xi (Int32.ofInt (1))] h1 := XT_call (l := l) (fr := 2) (lo := 47) (full := false) (M := 161) (n := 153) (u := 6051) (pc := 4) (L := [xf 12 2]) (st := [xf 6 81]) (h := h) (i := .invokevirtual 162) (aux := 1) (nx := 7) (K := 162) (vs := [xf 6 81]) (rs := [xi (Int32.ofInt (1))]) (rest := []) rfl rfl rfl rfl rfl rfl c1 (by decide) (by decide) (Nat.le_of_ble_eq_true rfl) ⟨Nat.le_of_eq G1.1.2.2.2.1, Nat.le_of_eq G1.1.2.2.2.2⟩
    have t8 := t6.tr t7
    have t9 : XT l 2 47 false 161 153 6051 7 [xf 12 2] [xi (Int32.ofInt (1))] h1 129 [xf 12 2] [xi (xI (xsetI h1 (xR h1 (xR h1 2 3) 5) ((xI h1 (xR h1 2 7) 2)).toNatClampNeg (xI h1 (xR h1 2 7) 3)) (xR h1 2 7) 0)] (xsetI h1 (xR h1 (xR h1 2 3) 5) ((xI h1 (xR h1 2 7) 2)).toNatClampNeg (xI h1 (xR h1 2 7) 3)) := XT_path (l := l) (fr := 2) (lo := 47) (full := false) (M := 161) (n := 153) (u := 6051) (pc := 7) (L := [xf 12 2]) (st := [xi (Int32.ofInt (1))]) (h := h1) (inl := []) (n' := 160) (sp := [129]) (o := [1, 1]) rfl rfl ⟨rfl, rfl, rfl⟩ rfl ⟨Nat.le_of_eq G1.1.2.2.2.1, Nat.le_of_eq G1.1.2.2.2.2⟩ ⟨⟨⟨⟨⟨⟨⟨⟨⟨trivial, (show ¬ (Int32.ofInt (1)) = 0 from by decide)⟩, (vnn G1.1.1 (rfl : vRf 2 7 = [81]) (by decide))⟩, zls_0 kk⟩, (vnn G1.1.1 (rfl : vRf 2 3 = [48]) (by decide))⟩, (show ¬ xR h1 (xR h1 2 3) 5 = 0 from by rw [vref G1.1.1 (rfl : vRf 2 3 = [48])]; exact vnn G1.1.1 (rfl : vRf 48 5 = [53]) (by decide))⟩, (vnn G1.1.1 (rfl : vRf 2 7 = [81]) (by decide))⟩, (vnn G1.1.1 (rfl : vRf 2 7 = [81]) (by decide))⟩, (show vp_in ((xI h1 (xR h1 2 7) 2)) (8) from (by rw [vref G1.1.1 (rfl : vRf 2 7 = [81])]; exact (vp_of (i := (xI h1 81 2)) (n := 8) (by omega) (by omega) : vp_in ((xI h1 81 2)) (8))))⟩, (vnn G1.1.1 (rfl : vRf 2 7 = [81]) (by decide))⟩
    rw [vref G1.1.1 (rfl : vRf 2 3 = [48]), vref G1.1.1 (rfl : vRf 2 7 = [81]), vref G1.1.1 (rfl : vRf 48 5 = [53])] at t9
    have t10 : XT l 2 47 false 161 153 6051 7 [xf 12 2] [xi (Int32.ofInt (1))] h1 129 [xf 12 2] [xi (xI h1 81 0)] (xsetI h1 53 ((xI h1 81 2)).toNatClampNeg (xI h1 81 3)) := t9
    have t11 := t8.tr t10
    obtain ⟨hE, eE⟩ : ∃ x, x = (xsetI h1 53 ((xI h1 81 2)).toNatClampNeg (xI h1 81 3)) := ⟨_, rfl⟩
    have eE2 : hE = xsetI h1 53 e.2.1.toInt.toNat e.2.2 := by rw [eE, u3]; simp only [nw]
    have gE : mQ [53] h1 hE := by rw [eE2]; exact (mQ.rf G1.1).set (by decide) (by rw [vI_u rfl (rfl : vRow 53 = (-1, 2))]; exact ⟨by show (-1 : Int) ≤ _; omega, by show _ ≤ (2 : Int); omega⟩)
    have GE : mQ [49, 51, 52, 53, 55, 56, 81] h hE := (G1.mono (by decide)).tr (gE.mono (by decide))
    have SE0 : (xI hE 81 0).toInt = (n : Int) - 1 := by rw [eE2, yI_c (by decide)]; exact S0
    have ev : ((xI h1 81 0)).toInt = (n : Int) - 1 := S0
    rw [← eE] at t11
    have g2 : mQ [53, 81] h hE := (G1.mono (by decide)).tr (gE.mono (by decide))
    refine ⟨_, hE, CX_ofT (h' := hE) (by decide) rfl rfl trivial ⟨_, _, _, rfl, rfl, rfl⟩ rfl ⟨Nat.le_of_eq GE.1.2.2.2.1.symm, Nat.le_of_eq GE.1.2.2.2.2.symm⟩ t11, Or.inr ⟨hn, ev, GE, ?_, (kd.q g2 (by decide)).sm zv B01 (zSm_cc (by omega)), (ke.q g2 (by decide)).sm B21 (zSm_cc (by omega)), kpS hE SE0 (fun c k hc => GE.2.1 c k (fun y => by rcases hc with rfl | rfl | rfl <;> exact absurd y (by decide)))⟩⟩
    exact kw.cc A.1 (by omega) (fun e k he => g2.2.1 e k (by rcases he with rfl | rfl | rfl <;> decide)) (fun k hk => by rw [eE2, yI_ne (eq_false (fun z => hk z.2))]; exact G1.2.1 53 k (by decide)) (by rw [eE2]; exact yI_same) (GE.2.2 48 0)
  · have kk : (xI h1 (xR h1 2 7) 1).toInt = 1 := by rw [vref G1.1.1 (rfl : vRf 2 7 = [81])]; omega
    have nk0 : ¬ (xI h1 (xR h1 2 7) 1).toInt = 0 := by rw [vref G1.1.1 (rfl : vRf 2 7 = [81])]; omega
    have eZ : zEn Y e = zup Y (20 + e.2.1.toInt.toNat) e.2.2 := (if_neg (by omega)).trans (if_pos o1)
    rw [eZ]
    have nw : (xI h1 81 2).toNatClampNeg = e.2.1.toInt.toNat := zi_ix (by omega)
    have t12 : XT l 2 47 false 161 153 6051 0 [xf 12 2] [] h 4 [xf 12 2] [xf 6 (xR h 2 7)] h := XT_path (l := l) (fr := 2) (lo := 47) (full := false) (M := 161) (n := 153) (u := 6051) (pc := 0) (L := [xf 12 2]) (st := []) (h := h) (inl := []) (n' := 160) (sp := [4]) (o := []) rfl rfl ⟨rfl, rfl, rfl⟩ rfl ⟨Nat.le_of_eq hg.2.2.2.1, Nat.le_of_eq hg.2.2.2.2⟩ ⟨trivial, (vnn hg.1 (rfl : vRf 2 7 = [81]) (by decide))⟩
    rw [vref hg.1 (rfl : vRf 2 7 = [81])] at t12
    have t13 : XT l 2 47 false 161 153 6051 4 [xf 12 2] [xf 6 81] h 7 [xf 12 2] [xi (Int32.ofInt (1))] h1 := XT_call (l := l) (fr := 2) (lo := 47) (full := false) (M := 161) (n := 153) (u := 6051) (pc := 4) (L := [xf 12 2]) (st := [xf 6 81]) (h := h) (i := .invokevirtual 162) (aux := 1) (nx := 7) (K := 162) (vs := [xf 6 81]) (rs := [xi (Int32.ofInt (1))]) (rest := []) rfl rfl rfl rfl rfl rfl c1 (by decide) (by decide) (Nat.le_of_ble_eq_true rfl) ⟨Nat.le_of_eq G1.1.2.2.2.1, Nat.le_of_eq G1.1.2.2.2.2⟩
    have t14 := t12.tr t13
    have t15 : XT l 2 47 false 161 153 6051 7 [xf 12 2] [xi (Int32.ofInt (1))] h1 87 [xf 12 2] [xi (xI h1 (xR h1 2 7) 3), xi (xI h1 (xR h1 2 7) 2), xf 11 (xR h1 2 3)] h1 := XT_path (l := l) (fr := 2) (lo := 47) (full := false) (M := 161) (n := 153) (u := 6051) (pc := 7) (L := [xf 12 2]) (st := [xi (Int32.ofInt (1))]) (h := h1) (inl := []) (n' := 160) (sp := [87]) (o := [1, 2]) rfl rfl ⟨rfl, rfl, rfl⟩ rfl ⟨Nat.le_of_eq G1.1.2.2.2.1, Nat.le_of_eq G1.1.2.2.2.2⟩ ⟨⟨⟨⟨⟨⟨trivial, (show ¬ (Int32.ofInt (1)) = 0 from by decide)⟩, (vnn G1.1.1 (rfl : vRf 2 7 = [81]) (by decide))⟩, (zls_n nk0).trans (zls_0 kk)⟩, (vnn G1.1.1 (rfl : vRf 2 3 = [48]) (by decide))⟩, (vnn G1.1.1 (rfl : vRf 2 7 = [81]) (by decide))⟩, (vnn G1.1.1 (rfl : vRf 2 7 = [81]) (by decide))⟩
    rw [vref G1.1.1 (rfl : vRf 2 7 = [81]), vref G1.1.1 (rfl : vRf 2 3 = [48])] at t15
    have t16 := t14.tr t15
    obtain ⟨h3, c3, G3, k43, ke3⟩ := ck_settle l Z Y (xI h1 81 2) (xI h1 81 3) e.2.1.toInt.toNat e.2.2.toInt.toNat h1 G1.1 A.1 V (fun q hq => (G1.2.1 52 q (by decide)).trans (kw.2.1 q hq).1) (ke.q G1 (by decide)) (by omega) (by omega) (by omega) (by omega)
    have t17 : XT l 2 47 false 161 153 6051 87 [xf 12 2] [xi (xI h1 81 3), xi (xI h1 81 2), xf 11 48] h1 90 [xf 12 2] [] h3 := XT_call (l := l) (fr := 2) (lo := 47) (full := false) (M := 161) (n := 153) (u := 6051) (pc := 87) (L := [xf 12 2]) (st := [xi (xI h1 81 3), xi (xI h1 81 2), xf 11 48]) (h := h1) (i := .invokevirtual 95) (aux := 3) (nx := 90) (K := 95) (vs := [xf 11 48, xi (xI h1 81 2), xi (xI h1 81 3)]) (rs := []) (rest := []) rfl rfl rfl rfl rfl rfl c3 (by decide) (by decide) (Nat.le_of_ble_eq_true rfl) ⟨Nat.le_of_eq G3.1.2.2.2.1, Nat.le_of_eq G3.1.2.2.2.2⟩
    have t18 := t16.tr t17
    have t19 : XT l 2 47 false 161 153 6051 90 [xf 12 2] [] h3 129 [xf 12 2] [xi (xI h3 (xR h3 2 7) 0)] h3 := XT_path (l := l) (fr := 2) (lo := 47) (full := false) (M := 161) (n := 153) (u := 6051) (pc := 90) (L := [xf 12 2]) (st := []) (h := h3) (inl := []) (n' := 160) (sp := [129]) (o := []) rfl rfl ⟨rfl, rfl, rfl⟩ rfl ⟨Nat.le_of_eq G3.1.2.2.2.1, Nat.le_of_eq G3.1.2.2.2.2⟩ ⟨trivial, (vnn G3.1.1 (rfl : vRf 2 7 = [81]) (by decide))⟩
    rw [vref G3.1.1 (rfl : vRf 2 7 = [81])] at t19
    have t20 := t18.tr t19
    have G4 : mQ [49, 51, 52, 53, 55, 56, 81] h h3 := (G1.mono (by decide)).tr (G3.mono (by decide))
    have g4 : mQ [52, 56, 81] h h3 := (G1.mono (by decide)).tr (G3.mono (by decide))
    have S3 : (xI h3 81 0).toInt = (n : Int) - 1 := by rw [G3.2.1 81 0 (by decide)]; exact S0
    rw [u3] at k43 ke3
    have eS : zSm2 Y (zup Y (20 + e.2.1.toInt.toNat) e.2.2) := ⟨fun i hi => zup_o (by omega), zup_o (by omega)⟩
    exact ⟨_, h3, CX_ofT (h' := h3) (by decide) rfl rfl trivial ⟨_, _, _, rfl, rfl, rfl⟩ rfl ⟨Nat.le_of_eq G3.1.2.2.2.1.symm, Nat.le_of_eq G3.1.2.2.2.2.symm⟩ t20, Or.inr ⟨hn, S3, G4, kw.mv A.1 (by omega) (fun e k he => g4.2.1 e k (by rcases he with rfl | rfl | rfl <;> decide)) k43 (G4.2.2 48 0), (kd.q g4 (by decide)).sm2 zv B01 eS, ke3, kpS h3 S3 (fun c k hc => G4.2.1 c k (fun y => by rcases hc with rfl | rfl | rfl <;> exact absurd y (by decide)))⟩⟩
  · have kk : (xI h1 (xR h1 2 7) 1).toInt = 2 := by rw [vref G1.1.1 (rfl : vRf 2 7 = [81])]; omega
    have nk0 : ¬ (xI h1 (xR h1 2 7) 1).toInt = 0 := by rw [vref G1.1.1 (rfl : vRf 2 7 = [81])]; omega
    have nk1 : ¬ (xI h1 (xR h1 2 7) 1).toInt = 1 := by rw [vref G1.1.1 (rfl : vRf 2 7 = [81])]; omega
    have eZ : zEn Y e = zup Y e.2.1.toInt.toNat e.2.2 := (if_neg (by omega)).trans (if_neg (by omega))
    rw [eZ]
    have nw : (xI h1 81 2).toNatClampNeg = e.2.1.toInt.toNat := zi_ix (by omega)
    have t21 : XT l 2 47 false 161 153 6051 0 [xf 12 2] [] h 4 [xf 12 2] [xf 6 (xR h 2 7)] h := XT_path (l := l) (fr := 2) (lo := 47) (full := false) (M := 161) (n := 153) (u := 6051) (pc := 0) (L := [xf 12 2]) (st := []) (h := h) (inl := []) (n' := 160) (sp := [4]) (o := []) rfl rfl ⟨rfl, rfl, rfl⟩ rfl ⟨Nat.le_of_eq hg.2.2.2.1, Nat.le_of_eq hg.2.2.2.2⟩ ⟨trivial, (vnn hg.1 (rfl : vRf 2 7 = [81]) (by decide))⟩
    rw [vref hg.1 (rfl : vRf 2 7 = [81])] at t21
    have t22 : XT l 2 47 false 161 153 6051 4 [xf 12 2] [xf 6 81] h 7 [xf 12 2] [xi (Int32.ofInt (1))] h1 := XT_call (l := l) (fr := 2) (lo := 47) (full := false) (M := 161) (n := 153) (u := 6051) (pc := 4) (L := [xf 12 2]) (st := [xf 6 81]) (h := h) (i := .invokevirtual 162) (aux := 1) (nx := 7) (K := 162) (vs := [xf 6 81]) (rs := [xi (Int32.ofInt (1))]) (rest := []) rfl rfl rfl rfl rfl rfl c1 (by decide) (by decide) (Nat.le_of_ble_eq_true rfl) ⟨Nat.le_of_eq G1.1.2.2.2.1, Nat.le_of_eq G1.1.2.2.2.2⟩
    have t23 := t21.tr t22
    have t24 : XT l 2 47 false 161 153 6051 7 [xf 12 2] [xi (Int32.ofInt (1))] h1 119 [xf 12 2] [xf 11 (xR h1 2 3)] (xsetI h1 (xR h1 (xR h1 2 3) 1) ((xI h1 (xR h1 2 7) 2)).toNatClampNeg (xI h1 (xR h1 2 7) 3)) := XT_path (l := l) (fr := 2) (lo := 47) (full := false) (M := 161) (n := 153) (u := 6051) (pc := 7) (L := [xf 12 2]) (st := [xi (Int32.ofInt (1))]) (h := h1) (inl := []) (n' := 160) (sp := [119]) (o := [1, 0]) rfl rfl ⟨rfl, rfl, rfl⟩ rfl ⟨Nat.le_of_eq G1.1.2.2.2.1, Nat.le_of_eq G1.1.2.2.2.2⟩ ⟨⟨⟨⟨⟨⟨⟨⟨⟨trivial, (show ¬ (Int32.ofInt (1)) = 0 from by decide)⟩, (vnn G1.1.1 (rfl : vRf 2 7 = [81]) (by decide))⟩, (zls_n nk0).trans ((zls_n nk1).trans zls_e)⟩, (vnn G1.1.1 (rfl : vRf 2 3 = [48]) (by decide))⟩, (show ¬ xR h1 (xR h1 2 3) 1 = 0 from by rw [vref G1.1.1 (rfl : vRf 2 3 = [48])]; exact vnn G1.1.1 (rfl : vRf 48 1 = [49]) (by decide))⟩, (vnn G1.1.1 (rfl : vRf 2 7 = [81]) (by decide))⟩, (vnn G1.1.1 (rfl : vRf 2 7 = [81]) (by decide))⟩, (show vp_in ((xI h1 (xR h1 2 7) 2)) (6) from (by rw [vref G1.1.1 (rfl : vRf 2 7 = [81])]; exact (vp_of (i := (xI h1 81 2)) (n := 6) (by omega) (by omega) : vp_in ((xI h1 81 2)) (6))))⟩, (vnn G1.1.1 (rfl : vRf 2 3 = [48]) (by decide))⟩
    rw [vref G1.1.1 (rfl : vRf 2 3 = [48]), vref G1.1.1 (rfl : vRf 2 7 = [81]), vref G1.1.1 (rfl : vRf 48 1 = [49])] at t24
    have t25 := t23.tr t24
    obtain ⟨hE, eE⟩ : ∃ x, x = (xsetI h1 49 ((xI h1 81 2)).toNatClampNeg (xI h1 81 3)) := ⟨_, rfl⟩
    have eE2 : hE = xsetI h1 49 e.2.1.toInt.toNat e.2.2 := by rw [eE, u3]; simp only [nw]
    have gE : mQ [49] h1 hE := by rw [eE2]; exact (mQ.rf G1.1).set (by decide) (by rw [vI_u rfl (rfl : vRow 49 = (0, 9))]; exact ⟨by show (0 : Int) ≤ _; omega, by show _ ≤ (9 : Int); omega⟩)
    have GE : mQ [49, 51, 52, 53, 55, 56, 81] h hE := (G1.mono (by decide)).tr (gE.mono (by decide))
    have VX := zVd_dc (v := e.2.2) A.1 V (show ((e.2.1.toInt.toNat : Nat) : Int) < Z 0 by omega) o3
    have kw2 : kW 48 3 Z (zup Y e.2.1.toInt.toNat e.2.2) hE := kw.dc A.1 (by omega) (fun e k he => (gE.2.1 e k (by rcases he with rfl | rfl | rfl <;> decide)).trans (G1.2.1 e k (by rcases he with rfl | rfl | rfl <;> decide))) (fun k hk => by rw [eE2, yI_ne (eq_false (fun z => hk z.2))]; exact G1.2.1 49 k (by decide)) (by rw [eE2]; exact yI_same) (GE.2.2 48 0)
    obtain ⟨h3, c3, G3, kd3⟩ := ck_tear48_3 l Z (zup Y e.2.1.toInt.toNat e.2.2) hE GE.1 A (kt.q GE (by decide)) kw2 VX
    rw [← eE] at t25
    have t26 : XT l 2 47 false 161 153 6051 119 [xf 12 2] [xf 11 48] hE 122 [xf 12 2] [] h3 := XT_call (l := l) (fr := 2) (lo := 47) (full := false) (M := 161) (n := 153) (u := 6051) (pc := 119) (L := [xf 12 2]) (st := [xf 11 48]) (h := hE) (i := .invokevirtual 66) (aux := 1) (nx := 122) (K := 66) (vs := [xf 11 48]) (rs := []) (rest := []) rfl rfl rfl rfl rfl rfl c3 (by decide) (by decide) (Nat.le_of_ble_eq_true rfl) ⟨Nat.le_of_eq G3.1.2.2.2.1, Nat.le_of_eq G3.1.2.2.2.2⟩
    have t27 := t25.tr t26
    have t28 : XT l 2 47 false 161 153 6051 122 [xf 12 2] [] h3 129 [xf 12 2] [xi (xI h3 (xR h3 2 7) 0)] h3 := XT_path (l := l) (fr := 2) (lo := 47) (full := false) (M := 161) (n := 153) (u := 6051) (pc := 122) (L := [xf 12 2]) (st := []) (h := h3) (inl := []) (n' := 160) (sp := [129]) (o := []) rfl rfl ⟨rfl, rfl, rfl⟩ rfl ⟨Nat.le_of_eq G3.1.2.2.2.1, Nat.le_of_eq G3.1.2.2.2.2⟩ ⟨trivial, (vnn G3.1.1 (rfl : vRf 2 7 = [81]) (by decide))⟩
    rw [vref G3.1.1 (rfl : vRf 2 7 = [81])] at t28
    have t29 := t27.tr t28
    have G4 : mQ [49, 51, 52, 53, 55, 56, 81] h h3 := GE.tr (G3.mono (by decide))
    have S3 : (xI h3 81 0).toInt = (n : Int) - 1 := by rw [G3.2.1 81 0 (by decide), gE.2.1 81 0 (by decide)]; exact S0
    have e56 : ∀ q, xI h3 56 q = xI h 56 q := fun q => (G3.2.1 56 q (by decide)).trans ((gE.2.1 56 q (by decide)).trans (G1.2.1 56 q (by decide)))
    refine ⟨_, h3, CX_ofT (h' := h3) (by decide) rfl rfl trivial ⟨_, _, _, rfl, rfl, rfl⟩ rfl ⟨Nat.le_of_eq G3.1.2.2.2.1.symm, Nat.le_of_eq G3.1.2.2.2.2.symm⟩ t29, Or.inr ⟨hn, S3, G4, kw2.q G3 (by decide), kd3, fun q hq => ?_, kpS h3 S3 (fun c k hc => G4.2.1 c k (fun y => by rcases hc with rfl | rfl | rfl <;> exact absurd y (by decide)))⟩⟩
    rw [zCr_e (fun p hp => zup_o (by omega))]
    exact (e56 q).trans (ke q hq)
set_option maxRecDepth 100000 in
set_option maxHeartbeats 4000000 in
theorem ck_undo24 (l : Launch) (Z : Nat → Int) (Y : Nat → Int32) (n : Nat) (En : Nat → Int32 × Int32 × Int32) (h : XH) (hg : mI h) (A : zAll Z) (r1 : xR h 2 1 = 24) (kt : kTx 24 Z h) (kw : kW 48 24 Z Y h) (V : zVd Z Y) (kd : kD 48 Z Y h) (ke : kE 48 Z Y h) (kp : kPa n En h) (ok : 0 < n → zOk Z (En (n - 1))) : ∃ v h', CX l 2 47 false 161 [xf 12 2] h [xi v] h' ∧ ((n = 0 ∧ v = (Int32.ofInt (-1)) ∧ h' = h) ∨ (0 < n ∧ v.toInt = (n : Int) - 1 ∧ mQ [49, 51, 52, 53, 55, 56, 81] h h' ∧ kW 48 24 Z (zEn Y (En (n - 1))) h' ∧ kD 48 Z (zEn Y (En (n - 1))) h' ∧ kE 48 Z (zEn Y (En (n - 1))) h' ∧ kPa (n - 1) En h')) := by
  obtain ⟨⟨⟨B00, B01⟩, ⟨B10, B11⟩, ⟨B20, B21⟩, B30, B31⟩, g6, zj, zv, LW⟩ := id A
  have r0 : xR h 48 0 = 24 := kw.2.2.2.2.2
  have e_0 : ((Int32.ofInt (0))).toInt = 0 := rfl
  have e_1 : ((Int32.ofInt (1))).toInt = 1 := rfl
  have e_m1 : ((Int32.ofInt (-1))).toInt = -1 := rfl
  have e_9 : ((Int32.ofInt (9))).toInt = 9 := rfl
  have e_2 : ((Int32.ofInt (2))).toInt = 2 := rfl
  have ez : (0 : Int32).toInt = 0 := rfl
  have ep : (xI h 24 9).toInt = Z 2 := kt.1.1 2 (by decide)
  have eg : (xI h 24 0).toInt = Z 0 := kt.1.1 0 (by decide)
  have kn := kp.1
  by_cases hn : n = 0
  · have t1 : XT l 2 47 false 161 153 6051 0 [xf 12 2] [] h 4 [xf 12 2] [xf 6 (xR h 2 7)] h := XT_path (l := l) (fr := 2) (lo := 47) (full := false) (M := 161) (n := 153) (u := 6051) (pc := 0) (L := [xf 12 2]) (st := []) (h := h) (inl := []) (n' := 160) (sp := [4]) (o := []) rfl rfl ⟨rfl, rfl, rfl⟩ rfl ⟨Nat.le_of_eq hg.2.2.2.1, Nat.le_of_eq hg.2.2.2.2⟩ ⟨trivial, (vnn hg.1 (rfl : vRf 2 7 = [81]) (by decide))⟩
    rw [vref hg.1 (rfl : vRf 2 7 = [81])] at t1
    have c1 := ck_take0 l h hg (by omega)
    have t2 : XT l 2 47 false 161 153 6051 4 [xf 12 2] [xf 6 81] h 7 [xf 12 2] [xi (Int32.ofInt (0))] h := XT_call (l := l) (fr := 2) (lo := 47) (full := false) (M := 161) (n := 153) (u := 6051) (pc := 4) (L := [xf 12 2]) (st := [xf 6 81]) (h := h) (i := .invokevirtual 162) (aux := 1) (nx := 7) (K := 162) (vs := [xf 6 81]) (rs := [xi (Int32.ofInt (0))]) (rest := []) rfl rfl rfl rfl rfl rfl c1 (by decide) (by decide) (Nat.le_of_ble_eq_true rfl) ⟨Nat.le_of_eq hg.2.2.2.1, Nat.le_of_eq hg.2.2.2.2⟩
    have t3 := t1.tr t2
    have t4 : XT l 2 47 false 161 153 6051 7 [xf 12 2] [xi (Int32.ofInt (0))] h 11 [xf 12 2] [xi (Int32.ofInt (-1))] h := XT_path (l := l) (fr := 2) (lo := 47) (full := false) (M := 161) (n := 153) (u := 6051) (pc := 7) (L := [xf 12 2]) (st := [xi (Int32.ofInt (0))]) (h := h) (inl := []) (n' := 160) (sp := [11]) (o := [0]) rfl rfl ⟨rfl, rfl, rfl⟩ rfl ⟨Nat.le_of_eq hg.2.2.2.1, Nat.le_of_eq hg.2.2.2.2⟩ ⟨trivial, rfl⟩
    have t5 := t3.tr t4
    exact ⟨_, _, CX_ofT (h' := h) (by decide) rfl rfl trivial ⟨_, _, _, rfl, rfl, rfl⟩ rfl ⟨Nat.le_of_eq hg.2.2.2.1.symm, Nat.le_of_eq hg.2.2.2.2.symm⟩ t5, Or.inl ⟨hn, rfl, rfl⟩⟩
  have hn : 0 < n := by omega
  obtain ⟨h1, c1, G1, S0, u1, u2, u3⟩ := ck_take l n En h hg kp hn
  have ok2 := ok hn
  obtain ⟨e, he⟩ : ∃ e, e = En (n - 1) := ⟨_, rfl⟩
  rw [← he] at u1 u2 u3 ok2
  have i1 := congrArg Int32.toInt u1
  have i2 := congrArg Int32.toInt u2
  have i3 := congrArg Int32.toInt u3
  have q1 : xR h1 48 0 = 24 := (G1.2.2 48 0).trans r0
  have s1 : xR h1 2 1 = 24 := (G1.2.2 2 1).trans r1
  have kpS : ∀ h' : XH, (xI h' 81 0).toInt = (n : Int) - 1 → (∀ c k, c = 82 ∨ c = 83 ∨ c = 84 → xI h' c k = xI h c k) → kPa (n - 1) En h' := fun h' a b => ⟨by omega, fun k hk => by rw [b 82 k (by omega), b 83 k (by omega), b 84 k (by omega)]; exact kp.2 k (by omega)⟩
  have eX : (zEn Y (En (n - 1))) = zEn Y e := by rw [he]
  rw [eX]
  rcases ok2 with ⟨o1, o2, o3⟩ | ⟨o1, o2, o3⟩ | ⟨o1, o2, o3⟩
  · have kk : (xI h1 (xR h1 2 7) 1).toInt = 0 := by rw [vref G1.1.1 (rfl : vRf 2 7 = [81])]; omega
    have eZ : zEn Y e = zup Y (30 + e.2.1.toInt.toNat) e.2.2 := if_pos o1
    rw [eZ]
    have nw : (xI h1 81 2).toNatClampNeg = e.2.1.toInt.toNat := zi_ix (by omega)
    have t6 : XT l 2 47 false 161 153 6051 0 [xf 12 2] [] h 4 [xf 12 2] [xf 6 (xR h 2 7)] h := XT_path (l := l) (fr := 2) (lo := 47) (full := false) (M := 161) (n := 153) (u := 6051) (pc := 0) (L := [xf 12 2]) (st := []) (h := h) (inl := []) (n' := 160) (sp := [4]) (o := []) rfl rfl ⟨rfl, rfl, rfl⟩ rfl ⟨Nat.le_of_eq hg.2.2.2.1, Nat.le_of_eq hg.2.2.2.2⟩ ⟨trivial, (vnn hg.1 (rfl : vRf 2 7 = [81]) (by decide))⟩
    rw [vref hg.1 (rfl : vRf 2 7 = [81])] at t6
    have t7 : XT l 2 47 false 161 153 6051 4 [xf 12 2] [xf 6 81] h 7 [xf 12 2] [xi (Int32.ofInt (1))] h1 := XT_call (l := l) (fr := 2) (lo := 47) (full := false) (M := 161) (n := 153) (u := 6051) (pc := 4) (L := [xf 12 2]) (st := [xf 6 81]) (h := h) (i := .invokevirtual 162) (aux := 1) (nx := 7) (K := 162) (vs := [xf 6 81]) (rs := [xi (Int32.ofInt (1))]) (rest := []) rfl rfl rfl rfl rfl rfl c1 (by decide) (by decide) (Nat.le_of_ble_eq_true rfl) ⟨Nat.le_of_eq G1.1.2.2.2.1, Nat.le_of_eq G1.1.2.2.2.2⟩
    have t8 := t6.tr t7
    have t9 : XT l 2 47 false 161 153 6051 7 [xf 12 2] [xi (Int32.ofInt (1))] h1 129 [xf 12 2] [xi (xI (xsetI h1 (xR h1 (xR h1 2 3) 5) ((xI h1 (xR h1 2 7) 2)).toNatClampNeg (xI h1 (xR h1 2 7) 3)) (xR h1 2 7) 0)] (xsetI h1 (xR h1 (xR h1 2 3) 5) ((xI h1 (xR h1 2 7) 2)).toNatClampNeg (xI h1 (xR h1 2 7) 3)) := XT_path (l := l) (fr := 2) (lo := 47) (full := false) (M := 161) (n := 153) (u := 6051) (pc := 7) (L := [xf 12 2]) (st := [xi (Int32.ofInt (1))]) (h := h1) (inl := []) (n' := 160) (sp := [129]) (o := [1, 1]) rfl rfl ⟨rfl, rfl, rfl⟩ rfl ⟨Nat.le_of_eq G1.1.2.2.2.1, Nat.le_of_eq G1.1.2.2.2.2⟩ ⟨⟨⟨⟨⟨⟨⟨⟨⟨trivial, (show ¬ (Int32.ofInt (1)) = 0 from by decide)⟩, (vnn G1.1.1 (rfl : vRf 2 7 = [81]) (by decide))⟩, zls_0 kk⟩, (vnn G1.1.1 (rfl : vRf 2 3 = [48]) (by decide))⟩, (show ¬ xR h1 (xR h1 2 3) 5 = 0 from by rw [vref G1.1.1 (rfl : vRf 2 3 = [48])]; exact vnn G1.1.1 (rfl : vRf 48 5 = [53]) (by decide))⟩, (vnn G1.1.1 (rfl : vRf 2 7 = [81]) (by decide))⟩, (vnn G1.1.1 (rfl : vRf 2 7 = [81]) (by decide))⟩, (show vp_in ((xI h1 (xR h1 2 7) 2)) (8) from (by rw [vref G1.1.1 (rfl : vRf 2 7 = [81])]; exact (vp_of (i := (xI h1 81 2)) (n := 8) (by omega) (by omega) : vp_in ((xI h1 81 2)) (8))))⟩, (vnn G1.1.1 (rfl : vRf 2 7 = [81]) (by decide))⟩
    rw [vref G1.1.1 (rfl : vRf 2 3 = [48]), vref G1.1.1 (rfl : vRf 2 7 = [81]), vref G1.1.1 (rfl : vRf 48 5 = [53])] at t9
    have t10 : XT l 2 47 false 161 153 6051 7 [xf 12 2] [xi (Int32.ofInt (1))] h1 129 [xf 12 2] [xi (xI h1 81 0)] (xsetI h1 53 ((xI h1 81 2)).toNatClampNeg (xI h1 81 3)) := t9
    have t11 := t8.tr t10
    obtain ⟨hE, eE⟩ : ∃ x, x = (xsetI h1 53 ((xI h1 81 2)).toNatClampNeg (xI h1 81 3)) := ⟨_, rfl⟩
    have eE2 : hE = xsetI h1 53 e.2.1.toInt.toNat e.2.2 := by rw [eE, u3]; simp only [nw]
    have gE : mQ [53] h1 hE := by rw [eE2]; exact (mQ.rf G1.1).set (by decide) (by rw [vI_u rfl (rfl : vRow 53 = (-1, 2))]; exact ⟨by show (-1 : Int) ≤ _; omega, by show _ ≤ (2 : Int); omega⟩)
    have GE : mQ [49, 51, 52, 53, 55, 56, 81] h hE := (G1.mono (by decide)).tr (gE.mono (by decide))
    have SE0 : (xI hE 81 0).toInt = (n : Int) - 1 := by rw [eE2, yI_c (by decide)]; exact S0
    have ev : ((xI h1 81 0)).toInt = (n : Int) - 1 := S0
    rw [← eE] at t11
    have g2 : mQ [53, 81] h hE := (G1.mono (by decide)).tr (gE.mono (by decide))
    refine ⟨_, hE, CX_ofT (h' := hE) (by decide) rfl rfl trivial ⟨_, _, _, rfl, rfl, rfl⟩ rfl ⟨Nat.le_of_eq GE.1.2.2.2.1.symm, Nat.le_of_eq GE.1.2.2.2.2.symm⟩ t11, Or.inr ⟨hn, ev, GE, ?_, (kd.q g2 (by decide)).sm zv B01 (zSm_cc (by omega)), (ke.q g2 (by decide)).sm B21 (zSm_cc (by omega)), kpS hE SE0 (fun c k hc => GE.2.1 c k (fun y => by rcases hc with rfl | rfl | rfl <;> exact absurd y (by decide)))⟩⟩
    exact kw.cc A.1 (by omega) (fun e k he => g2.2.1 e k (by rcases he with rfl | rfl | rfl <;> decide)) (fun k hk => by rw [eE2, yI_ne (eq_false (fun z => hk z.2))]; exact G1.2.1 53 k (by decide)) (by rw [eE2]; exact yI_same) (GE.2.2 48 0)
  · have kk : (xI h1 (xR h1 2 7) 1).toInt = 1 := by rw [vref G1.1.1 (rfl : vRf 2 7 = [81])]; omega
    have nk0 : ¬ (xI h1 (xR h1 2 7) 1).toInt = 0 := by rw [vref G1.1.1 (rfl : vRf 2 7 = [81])]; omega
    have eZ : zEn Y e = zup Y (20 + e.2.1.toInt.toNat) e.2.2 := (if_neg (by omega)).trans (if_pos o1)
    rw [eZ]
    have nw : (xI h1 81 2).toNatClampNeg = e.2.1.toInt.toNat := zi_ix (by omega)
    have t12 : XT l 2 47 false 161 153 6051 0 [xf 12 2] [] h 4 [xf 12 2] [xf 6 (xR h 2 7)] h := XT_path (l := l) (fr := 2) (lo := 47) (full := false) (M := 161) (n := 153) (u := 6051) (pc := 0) (L := [xf 12 2]) (st := []) (h := h) (inl := []) (n' := 160) (sp := [4]) (o := []) rfl rfl ⟨rfl, rfl, rfl⟩ rfl ⟨Nat.le_of_eq hg.2.2.2.1, Nat.le_of_eq hg.2.2.2.2⟩ ⟨trivial, (vnn hg.1 (rfl : vRf 2 7 = [81]) (by decide))⟩
    rw [vref hg.1 (rfl : vRf 2 7 = [81])] at t12
    have t13 : XT l 2 47 false 161 153 6051 4 [xf 12 2] [xf 6 81] h 7 [xf 12 2] [xi (Int32.ofInt (1))] h1 := XT_call (l := l) (fr := 2) (lo := 47) (full := false) (M := 161) (n := 153) (u := 6051) (pc := 4) (L := [xf 12 2]) (st := [xf 6 81]) (h := h) (i := .invokevirtual 162) (aux := 1) (nx := 7) (K := 162) (vs := [xf 6 81]) (rs := [xi (Int32.ofInt (1))]) (rest := []) rfl rfl rfl rfl rfl rfl c1 (by decide) (by decide) (Nat.le_of_ble_eq_true rfl) ⟨Nat.le_of_eq G1.1.2.2.2.1, Nat.le_of_eq G1.1.2.2.2.2⟩
    have t14 := t12.tr t13
    have t15 : XT l 2 47 false 161 153 6051 7 [xf 12 2] [xi (Int32.ofInt (1))] h1 87 [xf 12 2] [xi (xI h1 (xR h1 2 7) 3), xi (xI h1 (xR h1 2 7) 2), xf 11 (xR h1 2 3)] h1 := XT_path (l := l) (fr := 2) (lo := 47) (full := false) (M := 161) (n := 153) (u := 6051) (pc := 7) (L := [xf 12 2]) (st := [xi (Int32.ofInt (1))]) (h := h1) (inl := []) (n' := 160) (sp := [87]) (o := [1, 2]) rfl rfl ⟨rfl, rfl, rfl⟩ rfl ⟨Nat.le_of_eq G1.1.2.2.2.1, Nat.le_of_eq G1.1.2.2.2.2⟩ ⟨⟨⟨⟨⟨⟨trivial, (show ¬ (Int32.ofInt (1)) = 0 from by decide)⟩, (vnn G1.1.1 (rfl : vRf 2 7 = [81]) (by decide))⟩, (zls_n nk0).trans (zls_0 kk)⟩, (vnn G1.1.1 (rfl : vRf 2 3 = [48]) (by decide))⟩, (vnn G1.1.1 (rfl : vRf 2 7 = [81]) (by decide))⟩, (vnn G1.1.1 (rfl : vRf 2 7 = [81]) (by decide))⟩
    rw [vref G1.1.1 (rfl : vRf 2 7 = [81]), vref G1.1.1 (rfl : vRf 2 3 = [48])] at t15
    have t16 := t14.tr t15
    obtain ⟨h3, c3, G3, k43, ke3⟩ := ck_settle l Z Y (xI h1 81 2) (xI h1 81 3) e.2.1.toInt.toNat e.2.2.toInt.toNat h1 G1.1 A.1 V (fun q hq => (G1.2.1 52 q (by decide)).trans (kw.2.1 q hq).1) (ke.q G1 (by decide)) (by omega) (by omega) (by omega) (by omega)
    have t17 : XT l 2 47 false 161 153 6051 87 [xf 12 2] [xi (xI h1 81 3), xi (xI h1 81 2), xf 11 48] h1 90 [xf 12 2] [] h3 := XT_call (l := l) (fr := 2) (lo := 47) (full := false) (M := 161) (n := 153) (u := 6051) (pc := 87) (L := [xf 12 2]) (st := [xi (xI h1 81 3), xi (xI h1 81 2), xf 11 48]) (h := h1) (i := .invokevirtual 95) (aux := 3) (nx := 90) (K := 95) (vs := [xf 11 48, xi (xI h1 81 2), xi (xI h1 81 3)]) (rs := []) (rest := []) rfl rfl rfl rfl rfl rfl c3 (by decide) (by decide) (Nat.le_of_ble_eq_true rfl) ⟨Nat.le_of_eq G3.1.2.2.2.1, Nat.le_of_eq G3.1.2.2.2.2⟩
    have t18 := t16.tr t17
    have t19 : XT l 2 47 false 161 153 6051 90 [xf 12 2] [] h3 129 [xf 12 2] [xi (xI h3 (xR h3 2 7) 0)] h3 := XT_path (l := l) (fr := 2) (lo := 47) (full := false) (M := 161) (n := 153) (u := 6051) (pc := 90) (L := [xf 12 2]) (st := []) (h := h3) (inl := []) (n' := 160) (sp := [129]) (o := []) rfl rfl ⟨rfl, rfl, rfl⟩ rfl ⟨Nat.le_of_eq G3.1.2.2.2.1, Nat.le_of_eq G3.1.2.2.2.2⟩ ⟨trivial, (vnn G3.1.1 (rfl : vRf 2 7 = [81]) (by decide))⟩
    rw [vref G3.1.1 (rfl : vRf 2 7 = [81])] at t19
    have t20 := t18.tr t19
    have G4 : mQ [49, 51, 52, 53, 55, 56, 81] h h3 := (G1.mono (by decide)).tr (G3.mono (by decide))
    have g4 : mQ [52, 56, 81] h h3 := (G1.mono (by decide)).tr (G3.mono (by decide))
    have S3 : (xI h3 81 0).toInt = (n : Int) - 1 := by rw [G3.2.1 81 0 (by decide)]; exact S0
    rw [u3] at k43 ke3
    have eS : zSm2 Y (zup Y (20 + e.2.1.toInt.toNat) e.2.2) := ⟨fun i hi => zup_o (by omega), zup_o (by omega)⟩
    exact ⟨_, h3, CX_ofT (h' := h3) (by decide) rfl rfl trivial ⟨_, _, _, rfl, rfl, rfl⟩ rfl ⟨Nat.le_of_eq G3.1.2.2.2.1.symm, Nat.le_of_eq G3.1.2.2.2.2.symm⟩ t20, Or.inr ⟨hn, S3, G4, kw.mv A.1 (by omega) (fun e k he => g4.2.1 e k (by rcases he with rfl | rfl | rfl <;> decide)) k43 (G4.2.2 48 0), (kd.q g4 (by decide)).sm2 zv B01 eS, ke3, kpS h3 S3 (fun c k hc => G4.2.1 c k (fun y => by rcases hc with rfl | rfl | rfl <;> exact absurd y (by decide)))⟩⟩
  · have kk : (xI h1 (xR h1 2 7) 1).toInt = 2 := by rw [vref G1.1.1 (rfl : vRf 2 7 = [81])]; omega
    have nk0 : ¬ (xI h1 (xR h1 2 7) 1).toInt = 0 := by rw [vref G1.1.1 (rfl : vRf 2 7 = [81])]; omega
    have nk1 : ¬ (xI h1 (xR h1 2 7) 1).toInt = 1 := by rw [vref G1.1.1 (rfl : vRf 2 7 = [81])]; omega
    have eZ : zEn Y e = zup Y e.2.1.toInt.toNat e.2.2 := (if_neg (by omega)).trans (if_neg (by omega))
    rw [eZ]
    have nw : (xI h1 81 2).toNatClampNeg = e.2.1.toInt.toNat := zi_ix (by omega)
    have t21 : XT l 2 47 false 161 153 6051 0 [xf 12 2] [] h 4 [xf 12 2] [xf 6 (xR h 2 7)] h := XT_path (l := l) (fr := 2) (lo := 47) (full := false) (M := 161) (n := 153) (u := 6051) (pc := 0) (L := [xf 12 2]) (st := []) (h := h) (inl := []) (n' := 160) (sp := [4]) (o := []) rfl rfl ⟨rfl, rfl, rfl⟩ rfl ⟨Nat.le_of_eq hg.2.2.2.1, Nat.le_of_eq hg.2.2.2.2⟩ ⟨trivial, (vnn hg.1 (rfl : vRf 2 7 = [81]) (by decide))⟩
    rw [vref hg.1 (rfl : vRf 2 7 = [81])] at t21
    have t22 : XT l 2 47 false 161 153 6051 4 [xf 12 2] [xf 6 81] h 7 [xf 12 2] [xi (Int32.ofInt (1))] h1 := XT_call (l := l) (fr := 2) (lo := 47) (full := false) (M := 161) (n := 153) (u := 6051) (pc := 4) (L := [xf 12 2]) (st := [xf 6 81]) (h := h) (i := .invokevirtual 162) (aux := 1) (nx := 7) (K := 162) (vs := [xf 6 81]) (rs := [xi (Int32.ofInt (1))]) (rest := []) rfl rfl rfl rfl rfl rfl c1 (by decide) (by decide) (Nat.le_of_ble_eq_true rfl) ⟨Nat.le_of_eq G1.1.2.2.2.1, Nat.le_of_eq G1.1.2.2.2.2⟩
    have t23 := t21.tr t22
    have t24 : XT l 2 47 false 161 153 6051 7 [xf 12 2] [xi (Int32.ofInt (1))] h1 119 [xf 12 2] [xf 11 (xR h1 2 3)] (xsetI h1 (xR h1 (xR h1 2 3) 1) ((xI h1 (xR h1 2 7) 2)).toNatClampNeg (xI h1 (xR h1 2 7) 3)) := XT_path (l := l) (fr := 2) (lo := 47) (full := false) (M := 161) (n := 153) (u := 6051) (pc := 7) (L := [xf 12 2]) (st := [xi (Int32.ofInt (1))]) (h := h1) (inl := []) (n' := 160) (sp := [119]) (o := [1, 0]) rfl rfl ⟨rfl, rfl, rfl⟩ rfl ⟨Nat.le_of_eq G1.1.2.2.2.1, Nat.le_of_eq G1.1.2.2.2.2⟩ ⟨⟨⟨⟨⟨⟨⟨⟨⟨trivial, (show ¬ (Int32.ofInt (1)) = 0 from by decide)⟩, (vnn G1.1.1 (rfl : vRf 2 7 = [81]) (by decide))⟩, (zls_n nk0).trans ((zls_n nk1).trans zls_e)⟩, (vnn G1.1.1 (rfl : vRf 2 3 = [48]) (by decide))⟩, (show ¬ xR h1 (xR h1 2 3) 1 = 0 from by rw [vref G1.1.1 (rfl : vRf 2 3 = [48])]; exact vnn G1.1.1 (rfl : vRf 48 1 = [49]) (by decide))⟩, (vnn G1.1.1 (rfl : vRf 2 7 = [81]) (by decide))⟩, (vnn G1.1.1 (rfl : vRf 2 7 = [81]) (by decide))⟩, (show vp_in ((xI h1 (xR h1 2 7) 2)) (6) from (by rw [vref G1.1.1 (rfl : vRf 2 7 = [81])]; exact (vp_of (i := (xI h1 81 2)) (n := 6) (by omega) (by omega) : vp_in ((xI h1 81 2)) (6))))⟩, (vnn G1.1.1 (rfl : vRf 2 3 = [48]) (by decide))⟩
    rw [vref G1.1.1 (rfl : vRf 2 3 = [48]), vref G1.1.1 (rfl : vRf 2 7 = [81]), vref G1.1.1 (rfl : vRf 48 1 = [49])] at t24
    have t25 := t23.tr t24
    obtain ⟨hE, eE⟩ : ∃ x, x = (xsetI h1 49 ((xI h1 81 2)).toNatClampNeg (xI h1 81 3)) := ⟨_, rfl⟩
    have eE2 : hE = xsetI h1 49 e.2.1.toInt.toNat e.2.2 := by rw [eE, u3]; simp only [nw]
    have gE : mQ [49] h1 hE := by rw [eE2]; exact (mQ.rf G1.1).set (by decide) (by rw [vI_u rfl (rfl : vRow 49 = (0, 9))]; exact ⟨by show (0 : Int) ≤ _; omega, by show _ ≤ (9 : Int); omega⟩)
    have GE : mQ [49, 51, 52, 53, 55, 56, 81] h hE := (G1.mono (by decide)).tr (gE.mono (by decide))
    have VX := zVd_dc (v := e.2.2) A.1 V (show ((e.2.1.toInt.toNat : Nat) : Int) < Z 0 by omega) o3
    have kw2 : kW 48 24 Z (zup Y e.2.1.toInt.toNat e.2.2) hE := kw.dc A.1 (by omega) (fun e k he => (gE.2.1 e k (by rcases he with rfl | rfl | rfl <;> decide)).trans (G1.2.1 e k (by rcases he with rfl | rfl | rfl <;> decide))) (fun k hk => by rw [eE2, yI_ne (eq_false (fun z => hk z.2))]; exact G1.2.1 49 k (by decide)) (by rw [eE2]; exact yI_same) (GE.2.2 48 0)
    obtain ⟨h3, c3, G3, kd3⟩ := ck_tear48_24 l Z (zup Y e.2.1.toInt.toNat e.2.2) hE GE.1 A (kt.q GE (by decide)) kw2 VX
    rw [← eE] at t25
    have t26 : XT l 2 47 false 161 153 6051 119 [xf 12 2] [xf 11 48] hE 122 [xf 12 2] [] h3 := XT_call (l := l) (fr := 2) (lo := 47) (full := false) (M := 161) (n := 153) (u := 6051) (pc := 119) (L := [xf 12 2]) (st := [xf 11 48]) (h := hE) (i := .invokevirtual 66) (aux := 1) (nx := 122) (K := 66) (vs := [xf 11 48]) (rs := []) (rest := []) rfl rfl rfl rfl rfl rfl c3 (by decide) (by decide) (Nat.le_of_ble_eq_true rfl) ⟨Nat.le_of_eq G3.1.2.2.2.1, Nat.le_of_eq G3.1.2.2.2.2⟩
    have t27 := t25.tr t26
    have t28 : XT l 2 47 false 161 153 6051 122 [xf 12 2] [] h3 129 [xf 12 2] [xi (xI h3 (xR h3 2 7) 0)] h3 := XT_path (l := l) (fr := 2) (lo := 47) (full := false) (M := 161) (n := 153) (u := 6051) (pc := 122) (L := [xf 12 2]) (st := []) (h := h3) (inl := []) (n' := 160) (sp := [129]) (o := []) rfl rfl ⟨rfl, rfl, rfl⟩ rfl ⟨Nat.le_of_eq G3.1.2.2.2.1, Nat.le_of_eq G3.1.2.2.2.2⟩ ⟨trivial, (vnn G3.1.1 (rfl : vRf 2 7 = [81]) (by decide))⟩
    rw [vref G3.1.1 (rfl : vRf 2 7 = [81])] at t28
    have t29 := t27.tr t28
    have G4 : mQ [49, 51, 52, 53, 55, 56, 81] h h3 := GE.tr (G3.mono (by decide))
    have S3 : (xI h3 81 0).toInt = (n : Int) - 1 := by rw [G3.2.1 81 0 (by decide), gE.2.1 81 0 (by decide)]; exact S0
    have e56 : ∀ q, xI h3 56 q = xI h 56 q := fun q => (G3.2.1 56 q (by decide)).trans ((gE.2.1 56 q (by decide)).trans (G1.2.1 56 q (by decide)))
    refine ⟨_, h3, CX_ofT (h' := h3) (by decide) rfl rfl trivial ⟨_, _, _, rfl, rfl, rfl⟩ rfl ⟨Nat.le_of_eq G3.1.2.2.2.1.symm, Nat.le_of_eq G3.1.2.2.2.2.symm⟩ t29, Or.inr ⟨hn, S3, G4, kw2.q G3 (by decide), kd3, fun q hq => ?_, kpS h3 S3 (fun c k hc => G4.2.1 c k (fun y => by rcases hc with rfl | rfl | rfl <;> exact absurd y (by decide)))⟩⟩
    rw [zCr_e (fun p hp => zup_o (by omega))]
    exact (e56 q).trans (ke q hq)
def zIt (Z : Nat → Int) : Nat → (Nat → Int32) → (Nat → Int32)
  | 0, Y => Y
  | k + 1, Y => zIt Z k (zPs Z Y)
theorem zVd_ps {Z : Nat → Int} {Y : Nat → Int32} (B : zcB Z) (V : zVd Z Y) : zVd Z (zPs Z Y) := zVd_cls B (zVd_rp B (zVd_str B V))
set_option maxRecDepth 100000 in
set_option maxHeartbeats 4000000 in
theorem ck_seaW3 (l : Launch) (Z : Nat → Int) (A : zAll Z) (n : Int32) (n9 : n.toInt ≤ 99) : ∀ (m : Nat) (Y : Nat → Int32) (i : Int32) (h : XH), mI h → kTx 3 Z h → kW 48 3 Z Y h → zVd Z Y → kD 48 Z Y h → kE 48 Z Y h → kY 48 Z Y h → 0 ≤ i.toInt → i.toInt + m = n.toInt → ∃ i' h', XT l 7 165 false 97 153 6051 29 [xf 12 2, xi n, xi i] [] h 47 [xf 12 2, xi n, xi i'] [] h' ∧ mQ [48, 49, 50, 51, 53, 54, 55, 57] h h' ∧ kW 48 3 Z (zIt Z m Y) h' ∧ zVd Z (zIt Z m Y) ∧ kD 48 Z (zIt Z m Y) h' ∧ kE 48 Z (zIt Z m Y) h' ∧ kY 48 Z (zIt Z m Y) h'
  | 0, Y, i, h, hg, kt, kw, V, kd, ke, ky, i0, im => by
    have t1 : XT l 7 165 false 97 153 6051 29 [xf 12 2, xi n, xi i] [] h 47 [xf 12 2, xi n, xi i] [] h := XT_path (l := l) (fr := 7) (lo := 165) (full := false) (M := 97) (n := 153) (u := 6051) (pc := 29) (L := [xf 12 2, xi n, xi i]) (st := []) (h := h) (inl := []) (n' := 80) (sp := [47]) (o := [1]) rfl rfl ⟨rfl, rfl, rfl⟩ rfl ⟨Nat.le_of_eq hg.2.2.2.1, Nat.le_of_eq hg.2.2.2.2⟩ ⟨trivial, (Int32.le_iff_toInt_le.mpr (by omega))⟩
    exact ⟨i, h, t1, mQ.rf hg, kw, V, kd, ke, ky⟩
  | m + 1, Y, i, h, hg, kt, kw, V, kd, ke, ky, i0, im => by
    have ej := y_suc1 i0 (by omega)
    have t1 : XT l 7 165 false 97 153 6051 29 [xf 12 2, xi n, xi i] [] h 38 [xf 12 2, xi n, xi i] [xf 11 (xR h 2 3)] h := XT_path (l := l) (fr := 7) (lo := 165) (full := false) (M := 97) (n := 153) (u := 6051) (pc := 29) (L := [xf 12 2, xi n, xi i]) (st := []) (h := h) (inl := []) (n' := 80) (sp := [38]) (o := [0]) rfl rfl ⟨rfl, rfl, rfl⟩ rfl ⟨Nat.le_of_eq hg.2.2.2.1, Nat.le_of_eq hg.2.2.2.2⟩ ⟨⟨trivial, (fun z => absurd (Int32.le_iff_toInt_le.mp z) (by omega))⟩, (vnn hg.1 (rfl : vRf 2 3 = [48]) (by decide))⟩
    rw [vref hg.1 (rfl : vRf 2 3 = [48])] at t1
    obtain ⟨h1, c1, G1, -, kw1, kd1, ke1, ky1⟩ := ck_passW48_3 l Z Y h hg A kt kw V kd ke ky
    have t2 : XT l 7 165 false 97 153 6051 38 [xf 12 2, xi n, xi i] [xf 11 48] h 41 [xf 12 2, xi n, xi i] [] h1 := XT_call (l := l) (fr := 7) (lo := 165) (full := false) (M := 97) (n := 153) (u := 6051) (pc := 38) (L := [xf 12 2, xi n, xi i]) (st := [xf 11 48]) (h := h) (i := .invokevirtual 98) (aux := 1) (nx := 41) (K := 98) (vs := [xf 11 48]) (rs := []) (rest := []) rfl rfl rfl rfl rfl rfl c1 (by decide) (by decide) (Nat.le_of_ble_eq_true rfl) ⟨Nat.le_of_eq G1.1.2.2.2.1, Nat.le_of_eq G1.1.2.2.2.2⟩
    have t3 := t1.tr t2
    have t4 : XT l 7 165 false 97 153 6051 41 [xf 12 2, xi n, xi i] [] h1 29 [xf 12 2, xi n, xi (i + Int32.ofInt (1))] [] h1 := XT_path (l := l) (fr := 7) (lo := 165) (full := false) (M := 97) (n := 153) (u := 6051) (pc := 41) (L := [xf 12 2, xi n, xi i]) (st := []) (h := h1) (inl := []) (n' := 80) (sp := [29]) (o := []) rfl rfl ⟨rfl, rfl, rfl⟩ rfl ⟨Nat.le_of_eq G1.1.2.2.2.1, Nat.le_of_eq G1.1.2.2.2.2⟩ trivial
    have t5 := t3.tr t4
    obtain ⟨i', h2, z1, G2, kw2, V2, kd2, ke2, ky2⟩ := ck_seaW3 l Z A n n9 m (zPs Z Y) (i + (Int32.ofInt (1))) h1 G1.1 (kt.q G1 (by decide)) kw1 (zVd_ps A.1 V) kd1 ke1 ky1 (by omega) (by omega)
    exact ⟨i', h2, t5.tr z1, (G1.mono (by decide)).tr G2, kw2, V2, kd2, ke2, ky2⟩
set_option maxRecDepth 100000 in
set_option maxHeartbeats 4000000 in
theorem ck_seasonsW3 (l : Launch) (Z : Nat → Int) (Y : Nat → Int32) (n : Int32) (h : XH) (hg : mI h) (A : zAll Z) (kt : kTx 3 Z h) (kw : kW 48 3 Z Y h) (V : zVd Z Y) (kd : kD 48 Z Y h) (ke : kE 48 Z Y h) (ky : kY 48 Z Y h) : ∃ v h', CX l 7 165 false 97 [xf 12 2, xi n] h [xi v] h' ∧ ((¬ (0 ≤ n.toInt ∧ n.toInt ≤ 99 ∧ (Y 50 + n).toInt ≤ 9999) ∧ h' = h) ∨ ((0 ≤ n.toInt ∧ n.toInt ≤ 99 ∧ (Y 50 + n).toInt ≤ 9999) ∧ mQ [48, 49, 50, 51, 53, 54, 55, 57, 81] h h' ∧ kW 48 3 Z (zIt Z n.toInt.toNat Y) h' ∧ zVd Z (zIt Z n.toInt.toNat Y) ∧ kD 48 Z (zIt Z n.toInt.toNat Y) h' ∧ kE 48 Z (zIt Z n.toInt.toNat Y) h' ∧ kY 48 Z (zIt Z n.toInt.toNat Y) h' ∧ (0 < n.toInt → xI h' 81 0 = (Int32.ofInt (0))) ∧ (n.toInt = 0 → xI h' 81 0 = xI h 81 0))) := by
  have e50 : xI h 48 7 = Y 50 := kw.2.2.1
  have e51 : (xI h 48 7 + n).toInt = (Y 50 + n).toInt := by rw [e50]
  obtain ⟨S, hS⟩ : ∃ S, S = xI h 48 7 + n := ⟨_, rfl⟩
  rw [← hS] at e51
  have e_99 : ((Int32.ofInt (99))).toInt = 99 := rfl
  have e_9999 : ((Int32.ofInt (9999))).toInt = 9999 := rfl
  have ez : (0 : Int32).toInt = 0 := rfl
  by_cases cb1 : n < 0
  · have e_0 : (0 : Int32).toInt = 0 := rfl
    have dcb1 : (n).toInt < (0 : Int32).toInt := Int32.lt_iff_toInt_lt.mp cb1
    have t2 : XT l 7 165 false 97 153 6051 0 [xf 12 2, xi n, xun] [] h 26 [xf 12 2, xi n, xun] [xi (Int32.ofInt (-1))] h := XT_path (l := l) (fr := 7) (lo := 165) (full := false) (M := 97) (n := 153) (u := 6051) (pc := 0) (L := [xf 12 2, xi n, xun]) (st := []) (h := h) (inl := [67]) (n' := 80) (sp := [26]) (o := [1]) rfl rfl ⟨rfl, rfl, rfl⟩ rfl ⟨Nat.le_of_eq hg.2.2.2.1, Nat.le_of_eq hg.2.2.2.2⟩ ⟨trivial, cb1⟩
    exact ⟨_, _, CX_ofT (h' := h) (by decide) rfl rfl trivial ⟨_, _, _, rfl, rfl, rfl⟩ rfl ⟨Nat.le_of_eq hg.2.2.2.1.symm, Nat.le_of_eq hg.2.2.2.2.symm⟩ t2, Or.inl ⟨fun z => by obtain ⟨z1, z2, z3⟩ := z; omega, rfl⟩⟩
  · have e_0 : (0 : Int32).toInt = 0 := rfl
    have dcb1 : (0 : Int32).toInt ≤ (n).toInt := Int32.le_iff_toInt_le.mp (Int32.not_lt.mp cb1)
    by_cases cb3 : (Int32.ofInt (99)) < n
    · have e_99 : (Int32.ofInt (99)).toInt = 99 := rfl
      have dcb3 : (Int32.ofInt (99)).toInt < (n).toInt := Int32.lt_iff_toInt_lt.mp cb3
      have t4 : XT l 7 165 false 97 153 6051 0 [xf 12 2, xi n, xun] [] h 26 [xf 12 2, xi n, xun] [xi (Int32.ofInt (-1))] h := XT_path (l := l) (fr := 7) (lo := 165) (full := false) (M := 97) (n := 153) (u := 6051) (pc := 0) (L := [xf 12 2, xi n, xun]) (st := []) (h := h) (inl := [67]) (n' := 80) (sp := [26]) (o := [0, 1]) rfl rfl ⟨rfl, rfl, rfl⟩ rfl ⟨Nat.le_of_eq hg.2.2.2.1, Nat.le_of_eq hg.2.2.2.2⟩ ⟨⟨trivial, cb1⟩, cb3⟩
      exact ⟨_, _, CX_ofT (h' := h) (by decide) rfl rfl trivial ⟨_, _, _, rfl, rfl, rfl⟩ rfl ⟨Nat.le_of_eq hg.2.2.2.1.symm, Nat.le_of_eq hg.2.2.2.2.symm⟩ t4, Or.inl ⟨fun z => by obtain ⟨z1, z2, z3⟩ := z; omega, rfl⟩⟩
    · have e_99 : (Int32.ofInt (99)).toInt = 99 := rfl
      have dcb3 : (n).toInt ≤ (Int32.ofInt (99)).toInt := Int32.le_iff_toInt_le.mp (Int32.not_lt.mp cb3)
      by_cases cb5 : ((xI h (xR h 2 3) 7) + n) ≤ (Int32.ofInt (9999))
      · have e_9999 : (Int32.ofInt (9999)).toInt = 9999 := rfl
        have cb5r := cb5
        rw [vref hg.1 (rfl : vRf 2 3 = [48])] at cb5r
        have dcb5 : ((xI h 48 7) + n).toInt ≤ (Int32.ofInt (9999)).toInt := Int32.le_iff_toInt_le.mp cb5r
        rw [← hS] at dcb5
        have t6 : XT l 7 165 false 97 153 6051 0 [xf 12 2, xi n, xun] [] h 29 [xf 12 2, xi n, xi (Int32.ofInt (0))] [] h := XT_path (l := l) (fr := 7) (lo := 165) (full := false) (M := 97) (n := 153) (u := 6051) (pc := 0) (L := [xf 12 2, xi n, xun]) (st := []) (h := h) (inl := [67]) (n' := 80) (sp := [29]) (o := [0, 0, 1]) rfl rfl ⟨rfl, rfl, rfl⟩ rfl ⟨Nat.le_of_eq hg.2.2.2.1, Nat.le_of_eq hg.2.2.2.2⟩ ⟨⟨⟨⟨trivial, cb1⟩, cb3⟩, (vnn hg.1 (rfl : vRf 2 3 = [48]) (by decide))⟩, cb5⟩
        obtain ⟨i', h1, z1, G1, kw1, V1, kd1, ke1, ky1⟩ := ck_seaW3 l Z A n (by omega) n.toInt.toNat Y (Int32.ofInt (0)) h hg kt kw V kd ke ky (by decide) (by have e0 : ((Int32.ofInt (0))).toInt = 0 := rfl; omega)
        have T1 := t6.tr z1
        by_cases cb7 : n ≤ 0
        · have e_0 : (0 : Int32).toInt = 0 := rfl
          have dcb7 : (n).toInt ≤ (0 : Int32).toInt := Int32.le_iff_toInt_le.mp cb7
          have t8 : XT l 7 165 false 97 153 6051 47 [xf 12 2, xi n, xi i'] [] h1 65 [xf 12 2, xi n, xi i'] [xi (xI h1 (xR h1 2 3) 7)] h1 := XT_path (l := l) (fr := 7) (lo := 165) (full := false) (M := 97) (n := 153) (u := 6051) (pc := 47) (L := [xf 12 2, xi n, xi i']) (st := []) (h := h1) (inl := [67]) (n' := 80) (sp := [65]) (o := [1]) rfl rfl ⟨rfl, rfl, rfl⟩ rfl ⟨Nat.le_of_eq G1.1.2.2.2.1, Nat.le_of_eq G1.1.2.2.2.2⟩ ⟨⟨trivial, cb7⟩, (vnn G1.1.1 (rfl : vRf 2 3 = [48]) (by decide))⟩
          rw [vref G1.1.1 (rfl : vRf 2 3 = [48])] at t8
          have t9 := T1.tr t8
          exact ⟨_, h1, CX_ofT (h' := h1) (by decide) rfl rfl trivial ⟨_, _, _, rfl, rfl, rfl⟩ rfl ⟨Nat.le_of_eq G1.1.2.2.2.1.symm, Nat.le_of_eq G1.1.2.2.2.2.symm⟩ t9, Or.inr ⟨⟨by omega, by omega, by omega⟩, G1.mono (by decide), kw1, V1, kd1, ke1, ky1, fun z => absurd z (by omega), fun _ => G1.2.1 81 0 (by decide)⟩⟩
        · have e_0 : (0 : Int32).toInt = 0 := rfl
          have dcb7 : (0 : Int32).toInt < (n).toInt := Int32.lt_iff_toInt_lt.mp (Int32.not_le.mp cb7)
          have t10 : XT l 7 165 false 97 153 6051 47 [xf 12 2, xi n, xi i'] [] h1 65 [xf 12 2, xi n, xi i'] [xi (xI (xsetI h1 (xR h1 2 7) 0 (Int32.ofInt (0))) (xR h1 2 3) 7)] (xsetI h1 (xR h1 2 7) 0 (Int32.ofInt (0))) := XT_path (l := l) (fr := 7) (lo := 165) (full := false) (M := 97) (n := 153) (u := 6051) (pc := 47) (L := [xf 12 2, xi n, xi i']) (st := []) (h := h1) (inl := [67]) (n' := 80) (sp := [65]) (o := [0]) rfl rfl ⟨rfl, rfl, rfl⟩ rfl ⟨Nat.le_of_eq G1.1.2.2.2.1, Nat.le_of_eq G1.1.2.2.2.2⟩ ⟨⟨⟨trivial, cb7⟩, (vnn G1.1.1 (rfl : vRf 2 7 = [81]) (by decide))⟩, (vnn G1.1.1 (rfl : vRf 2 3 = [48]) (by decide))⟩
          rw [vref G1.1.1 (rfl : vRf 2 7 = [81]), vref G1.1.1 (rfl : vRf 2 3 = [48])] at t10
          have t11 : XT l 7 165 false 97 153 6051 47 [xf 12 2, xi n, xi i'] [] h1 65 [xf 12 2, xi n, xi i'] [xi (xI h1 48 7)] (xsetI h1 81 0 (Int32.ofInt (0))) := t10
          have t12 := T1.tr t11
          obtain ⟨hE, eE⟩ : ∃ x, x = (xsetI h1 81 0 (Int32.ofInt (0))) := ⟨_, rfl⟩
          have gE : mQ [81] h1 hE := by rw [eE]; exact (mQ.rf G1.1).set (by decide) (by show (0 : Int) ≤ _ ∧ _ ≤ 20; decide)
          have sE : xI hE 81 0 = (Int32.ofInt (0)) := by rw [eE]; exact yI_same
          rw [← eE] at t12
          exact ⟨_, hE, CX_ofT (h' := hE) (by decide) rfl rfl trivial ⟨_, _, _, rfl, rfl, rfl⟩ rfl ⟨Nat.le_of_eq gE.1.2.2.2.1.symm, Nat.le_of_eq gE.1.2.2.2.2.symm⟩ t12, Or.inr ⟨⟨by omega, by omega, by omega⟩, (G1.mono (by decide)).tr (gE.mono (by decide)), kw1.q gE (by decide), V1, kd1.q gE (by decide), ke1.q gE (by decide), ky1.q gE (by decide), fun _ => sE, fun z => absurd z (by omega)⟩⟩
      · have e_9999 : (Int32.ofInt (9999)).toInt = 9999 := rfl
        have cb5r := cb5
        rw [vref hg.1 (rfl : vRf 2 3 = [48])] at cb5r
        have dcb5 : (Int32.ofInt (9999)).toInt < ((xI h 48 7) + n).toInt := Int32.lt_iff_toInt_lt.mp (Int32.not_le.mp cb5r)
        rw [← hS] at dcb5
        have t13 : XT l 7 165 false 97 153 6051 0 [xf 12 2, xi n, xun] [] h 26 [xf 12 2, xi n, xun] [xi (Int32.ofInt (-1))] h := XT_path (l := l) (fr := 7) (lo := 165) (full := false) (M := 97) (n := 153) (u := 6051) (pc := 0) (L := [xf 12 2, xi n, xun]) (st := []) (h := h) (inl := [67]) (n' := 80) (sp := [26]) (o := [0, 0, 0]) rfl rfl ⟨rfl, rfl, rfl⟩ rfl ⟨Nat.le_of_eq hg.2.2.2.1, Nat.le_of_eq hg.2.2.2.2⟩ ⟨⟨⟨⟨trivial, cb1⟩, cb3⟩, (vnn hg.1 (rfl : vRf 2 3 = [48]) (by decide))⟩, cb5⟩
        exact ⟨_, _, CX_ofT (h' := h) (by decide) rfl rfl trivial ⟨_, _, _, rfl, rfl, rfl⟩ rfl ⟨Nat.le_of_eq hg.2.2.2.1.symm, Nat.le_of_eq hg.2.2.2.2.symm⟩ t13, Or.inl ⟨fun z => by obtain ⟨z1, z2, z3⟩ := z; omega, rfl⟩⟩
set_option maxRecDepth 100000 in
set_option maxHeartbeats 4000000 in
theorem ck_seaW24 (l : Launch) (Z : Nat → Int) (A : zAll Z) (n : Int32) (n9 : n.toInt ≤ 99) : ∀ (m : Nat) (Y : Nat → Int32) (i : Int32) (h : XH), mI h → kTx 24 Z h → kW 48 24 Z Y h → zVd Z Y → kD 48 Z Y h → kE 48 Z Y h → kY 48 Z Y h → 0 ≤ i.toInt → i.toInt + m = n.toInt → ∃ i' h', XT l 7 165 false 97 153 6051 29 [xf 12 2, xi n, xi i] [] h 47 [xf 12 2, xi n, xi i'] [] h' ∧ mQ [48, 49, 50, 51, 53, 54, 55, 57] h h' ∧ kW 48 24 Z (zIt Z m Y) h' ∧ zVd Z (zIt Z m Y) ∧ kD 48 Z (zIt Z m Y) h' ∧ kE 48 Z (zIt Z m Y) h' ∧ kY 48 Z (zIt Z m Y) h'
  | 0, Y, i, h, hg, kt, kw, V, kd, ke, ky, i0, im => by
    have t1 : XT l 7 165 false 97 153 6051 29 [xf 12 2, xi n, xi i] [] h 47 [xf 12 2, xi n, xi i] [] h := XT_path (l := l) (fr := 7) (lo := 165) (full := false) (M := 97) (n := 153) (u := 6051) (pc := 29) (L := [xf 12 2, xi n, xi i]) (st := []) (h := h) (inl := []) (n' := 80) (sp := [47]) (o := [1]) rfl rfl ⟨rfl, rfl, rfl⟩ rfl ⟨Nat.le_of_eq hg.2.2.2.1, Nat.le_of_eq hg.2.2.2.2⟩ ⟨trivial, (Int32.le_iff_toInt_le.mpr (by omega))⟩
    exact ⟨i, h, t1, mQ.rf hg, kw, V, kd, ke, ky⟩
  | m + 1, Y, i, h, hg, kt, kw, V, kd, ke, ky, i0, im => by
    have ej := y_suc1 i0 (by omega)
    have t1 : XT l 7 165 false 97 153 6051 29 [xf 12 2, xi n, xi i] [] h 38 [xf 12 2, xi n, xi i] [xf 11 (xR h 2 3)] h := XT_path (l := l) (fr := 7) (lo := 165) (full := false) (M := 97) (n := 153) (u := 6051) (pc := 29) (L := [xf 12 2, xi n, xi i]) (st := []) (h := h) (inl := []) (n' := 80) (sp := [38]) (o := [0]) rfl rfl ⟨rfl, rfl, rfl⟩ rfl ⟨Nat.le_of_eq hg.2.2.2.1, Nat.le_of_eq hg.2.2.2.2⟩ ⟨⟨trivial, (fun z => absurd (Int32.le_iff_toInt_le.mp z) (by omega))⟩, (vnn hg.1 (rfl : vRf 2 3 = [48]) (by decide))⟩
    rw [vref hg.1 (rfl : vRf 2 3 = [48])] at t1
    obtain ⟨h1, c1, G1, -, kw1, kd1, ke1, ky1⟩ := ck_passW48_24 l Z Y h hg A kt kw V kd ke ky
    have t2 : XT l 7 165 false 97 153 6051 38 [xf 12 2, xi n, xi i] [xf 11 48] h 41 [xf 12 2, xi n, xi i] [] h1 := XT_call (l := l) (fr := 7) (lo := 165) (full := false) (M := 97) (n := 153) (u := 6051) (pc := 38) (L := [xf 12 2, xi n, xi i]) (st := [xf 11 48]) (h := h) (i := .invokevirtual 98) (aux := 1) (nx := 41) (K := 98) (vs := [xf 11 48]) (rs := []) (rest := []) rfl rfl rfl rfl rfl rfl c1 (by decide) (by decide) (Nat.le_of_ble_eq_true rfl) ⟨Nat.le_of_eq G1.1.2.2.2.1, Nat.le_of_eq G1.1.2.2.2.2⟩
    have t3 := t1.tr t2
    have t4 : XT l 7 165 false 97 153 6051 41 [xf 12 2, xi n, xi i] [] h1 29 [xf 12 2, xi n, xi (i + Int32.ofInt (1))] [] h1 := XT_path (l := l) (fr := 7) (lo := 165) (full := false) (M := 97) (n := 153) (u := 6051) (pc := 41) (L := [xf 12 2, xi n, xi i]) (st := []) (h := h1) (inl := []) (n' := 80) (sp := [29]) (o := []) rfl rfl ⟨rfl, rfl, rfl⟩ rfl ⟨Nat.le_of_eq G1.1.2.2.2.1, Nat.le_of_eq G1.1.2.2.2.2⟩ trivial
    have t5 := t3.tr t4
    obtain ⟨i', h2, z1, G2, kw2, V2, kd2, ke2, ky2⟩ := ck_seaW24 l Z A n n9 m (zPs Z Y) (i + (Int32.ofInt (1))) h1 G1.1 (kt.q G1 (by decide)) kw1 (zVd_ps A.1 V) kd1 ke1 ky1 (by omega) (by omega)
    exact ⟨i', h2, t5.tr z1, (G1.mono (by decide)).tr G2, kw2, V2, kd2, ke2, ky2⟩
set_option maxRecDepth 100000 in
set_option maxHeartbeats 4000000 in
theorem ck_seasonsW24 (l : Launch) (Z : Nat → Int) (Y : Nat → Int32) (n : Int32) (h : XH) (hg : mI h) (A : zAll Z) (kt : kTx 24 Z h) (kw : kW 48 24 Z Y h) (V : zVd Z Y) (kd : kD 48 Z Y h) (ke : kE 48 Z Y h) (ky : kY 48 Z Y h) : ∃ v h', CX l 7 165 false 97 [xf 12 2, xi n] h [xi v] h' ∧ ((¬ (0 ≤ n.toInt ∧ n.toInt ≤ 99 ∧ (Y 50 + n).toInt ≤ 9999) ∧ h' = h) ∨ ((0 ≤ n.toInt ∧ n.toInt ≤ 99 ∧ (Y 50 + n).toInt ≤ 9999) ∧ mQ [48, 49, 50, 51, 53, 54, 55, 57, 81] h h' ∧ kW 48 24 Z (zIt Z n.toInt.toNat Y) h' ∧ zVd Z (zIt Z n.toInt.toNat Y) ∧ kD 48 Z (zIt Z n.toInt.toNat Y) h' ∧ kE 48 Z (zIt Z n.toInt.toNat Y) h' ∧ kY 48 Z (zIt Z n.toInt.toNat Y) h' ∧ (0 < n.toInt → xI h' 81 0 = (Int32.ofInt (0))) ∧ (n.toInt = 0 → xI h' 81 0 = xI h 81 0))) := by
  have e50 : xI h 48 7 = Y 50 := kw.2.2.1
  have e51 : (xI h 48 7 + n).toInt = (Y 50 + n).toInt := by rw [e50]
  obtain ⟨S, hS⟩ : ∃ S, S = xI h 48 7 + n := ⟨_, rfl⟩
  rw [← hS] at e51
  have e_99 : ((Int32.ofInt (99))).toInt = 99 := rfl
  have e_9999 : ((Int32.ofInt (9999))).toInt = 9999 := rfl
  have ez : (0 : Int32).toInt = 0 := rfl
  by_cases cb1 : n < 0
  · have e_0 : (0 : Int32).toInt = 0 := rfl
    have dcb1 : (n).toInt < (0 : Int32).toInt := Int32.lt_iff_toInt_lt.mp cb1
    have t2 : XT l 7 165 false 97 153 6051 0 [xf 12 2, xi n, xun] [] h 26 [xf 12 2, xi n, xun] [xi (Int32.ofInt (-1))] h := XT_path (l := l) (fr := 7) (lo := 165) (full := false) (M := 97) (n := 153) (u := 6051) (pc := 0) (L := [xf 12 2, xi n, xun]) (st := []) (h := h) (inl := [67]) (n' := 80) (sp := [26]) (o := [1]) rfl rfl ⟨rfl, rfl, rfl⟩ rfl ⟨Nat.le_of_eq hg.2.2.2.1, Nat.le_of_eq hg.2.2.2.2⟩ ⟨trivial, cb1⟩
    exact ⟨_, _, CX_ofT (h' := h) (by decide) rfl rfl trivial ⟨_, _, _, rfl, rfl, rfl⟩ rfl ⟨Nat.le_of_eq hg.2.2.2.1.symm, Nat.le_of_eq hg.2.2.2.2.symm⟩ t2, Or.inl ⟨fun z => by obtain ⟨z1, z2, z3⟩ := z; omega, rfl⟩⟩
  · have e_0 : (0 : Int32).toInt = 0 := rfl
    have dcb1 : (0 : Int32).toInt ≤ (n).toInt := Int32.le_iff_toInt_le.mp (Int32.not_lt.mp cb1)
    by_cases cb3 : (Int32.ofInt (99)) < n
    · have e_99 : (Int32.ofInt (99)).toInt = 99 := rfl
      have dcb3 : (Int32.ofInt (99)).toInt < (n).toInt := Int32.lt_iff_toInt_lt.mp cb3
      have t4 : XT l 7 165 false 97 153 6051 0 [xf 12 2, xi n, xun] [] h 26 [xf 12 2, xi n, xun] [xi (Int32.ofInt (-1))] h := XT_path (l := l) (fr := 7) (lo := 165) (full := false) (M := 97) (n := 153) (u := 6051) (pc := 0) (L := [xf 12 2, xi n, xun]) (st := []) (h := h) (inl := [67]) (n' := 80) (sp := [26]) (o := [0, 1]) rfl rfl ⟨rfl, rfl, rfl⟩ rfl ⟨Nat.le_of_eq hg.2.2.2.1, Nat.le_of_eq hg.2.2.2.2⟩ ⟨⟨trivial, cb1⟩, cb3⟩
      exact ⟨_, _, CX_ofT (h' := h) (by decide) rfl rfl trivial ⟨_, _, _, rfl, rfl, rfl⟩ rfl ⟨Nat.le_of_eq hg.2.2.2.1.symm, Nat.le_of_eq hg.2.2.2.2.symm⟩ t4, Or.inl ⟨fun z => by obtain ⟨z1, z2, z3⟩ := z; omega, rfl⟩⟩
    · have e_99 : (Int32.ofInt (99)).toInt = 99 := rfl
      have dcb3 : (n).toInt ≤ (Int32.ofInt (99)).toInt := Int32.le_iff_toInt_le.mp (Int32.not_lt.mp cb3)
      by_cases cb5 : ((xI h (xR h 2 3) 7) + n) ≤ (Int32.ofInt (9999))
      · have e_9999 : (Int32.ofInt (9999)).toInt = 9999 := rfl
        have cb5r := cb5
        rw [vref hg.1 (rfl : vRf 2 3 = [48])] at cb5r
        have dcb5 : ((xI h 48 7) + n).toInt ≤ (Int32.ofInt (9999)).toInt := Int32.le_iff_toInt_le.mp cb5r
        rw [← hS] at dcb5
        have t6 : XT l 7 165 false 97 153 6051 0 [xf 12 2, xi n, xun] [] h 29 [xf 12 2, xi n, xi (Int32.ofInt (0))] [] h := XT_path (l := l) (fr := 7) (lo := 165) (full := false) (M := 97) (n := 153) (u := 6051) (pc := 0) (L := [xf 12 2, xi n, xun]) (st := []) (h := h) (inl := [67]) (n' := 80) (sp := [29]) (o := [0, 0, 1]) rfl rfl ⟨rfl, rfl, rfl⟩ rfl ⟨Nat.le_of_eq hg.2.2.2.1, Nat.le_of_eq hg.2.2.2.2⟩ ⟨⟨⟨⟨trivial, cb1⟩, cb3⟩, (vnn hg.1 (rfl : vRf 2 3 = [48]) (by decide))⟩, cb5⟩
        obtain ⟨i', h1, z1, G1, kw1, V1, kd1, ke1, ky1⟩ := ck_seaW24 l Z A n (by omega) n.toInt.toNat Y (Int32.ofInt (0)) h hg kt kw V kd ke ky (by decide) (by have e0 : ((Int32.ofInt (0))).toInt = 0 := rfl; omega)
        have T1 := t6.tr z1
        by_cases cb7 : n ≤ 0
        · have e_0 : (0 : Int32).toInt = 0 := rfl
          have dcb7 : (n).toInt ≤ (0 : Int32).toInt := Int32.le_iff_toInt_le.mp cb7
          have t8 : XT l 7 165 false 97 153 6051 47 [xf 12 2, xi n, xi i'] [] h1 65 [xf 12 2, xi n, xi i'] [xi (xI h1 (xR h1 2 3) 7)] h1 := XT_path (l := l) (fr := 7) (lo := 165) (full := false) (M := 97) (n := 153) (u := 6051) (pc := 47) (L := [xf 12 2, xi n, xi i']) (st := []) (h := h1) (inl := [67]) (n' := 80) (sp := [65]) (o := [1]) rfl rfl ⟨rfl, rfl, rfl⟩ rfl ⟨Nat.le_of_eq G1.1.2.2.2.1, Nat.le_of_eq G1.1.2.2.2.2⟩ ⟨⟨trivial, cb7⟩, (vnn G1.1.1 (rfl : vRf 2 3 = [48]) (by decide))⟩
          rw [vref G1.1.1 (rfl : vRf 2 3 = [48])] at t8
          have t9 := T1.tr t8
          exact ⟨_, h1, CX_ofT (h' := h1) (by decide) rfl rfl trivial ⟨_, _, _, rfl, rfl, rfl⟩ rfl ⟨Nat.le_of_eq G1.1.2.2.2.1.symm, Nat.le_of_eq G1.1.2.2.2.2.symm⟩ t9, Or.inr ⟨⟨by omega, by omega, by omega⟩, G1.mono (by decide), kw1, V1, kd1, ke1, ky1, fun z => absurd z (by omega), fun _ => G1.2.1 81 0 (by decide)⟩⟩
        · have e_0 : (0 : Int32).toInt = 0 := rfl
          have dcb7 : (0 : Int32).toInt < (n).toInt := Int32.lt_iff_toInt_lt.mp (Int32.not_le.mp cb7)
          have t10 : XT l 7 165 false 97 153 6051 47 [xf 12 2, xi n, xi i'] [] h1 65 [xf 12 2, xi n, xi i'] [xi (xI (xsetI h1 (xR h1 2 7) 0 (Int32.ofInt (0))) (xR h1 2 3) 7)] (xsetI h1 (xR h1 2 7) 0 (Int32.ofInt (0))) := XT_path (l := l) (fr := 7) (lo := 165) (full := false) (M := 97) (n := 153) (u := 6051) (pc := 47) (L := [xf 12 2, xi n, xi i']) (st := []) (h := h1) (inl := [67]) (n' := 80) (sp := [65]) (o := [0]) rfl rfl ⟨rfl, rfl, rfl⟩ rfl ⟨Nat.le_of_eq G1.1.2.2.2.1, Nat.le_of_eq G1.1.2.2.2.2⟩ ⟨⟨⟨trivial, cb7⟩, (vnn G1.1.1 (rfl : vRf 2 7 = [81]) (by decide))⟩, (vnn G1.1.1 (rfl : vRf 2 3 = [48]) (by decide))⟩
          rw [vref G1.1.1 (rfl : vRf 2 7 = [81]), vref G1.1.1 (rfl : vRf 2 3 = [48])] at t10
          have t11 : XT l 7 165 false 97 153 6051 47 [xf 12 2, xi n, xi i'] [] h1 65 [xf 12 2, xi n, xi i'] [xi (xI h1 48 7)] (xsetI h1 81 0 (Int32.ofInt (0))) := t10
          have t12 := T1.tr t11
          obtain ⟨hE, eE⟩ : ∃ x, x = (xsetI h1 81 0 (Int32.ofInt (0))) := ⟨_, rfl⟩
          have gE : mQ [81] h1 hE := by rw [eE]; exact (mQ.rf G1.1).set (by decide) (by show (0 : Int) ≤ _ ∧ _ ≤ 20; decide)
          have sE : xI hE 81 0 = (Int32.ofInt (0)) := by rw [eE]; exact yI_same
          rw [← eE] at t12
          exact ⟨_, hE, CX_ofT (h' := hE) (by decide) rfl rfl trivial ⟨_, _, _, rfl, rfl, rfl⟩ rfl ⟨Nat.le_of_eq gE.1.2.2.2.1.symm, Nat.le_of_eq gE.1.2.2.2.2.symm⟩ t12, Or.inr ⟨⟨by omega, by omega, by omega⟩, (G1.mono (by decide)).tr (gE.mono (by decide)), kw1.q gE (by decide), V1, kd1.q gE (by decide), ke1.q gE (by decide), ky1.q gE (by decide), fun _ => sE, fun z => absurd z (by omega)⟩⟩
      · have e_9999 : (Int32.ofInt (9999)).toInt = 9999 := rfl
        have cb5r := cb5
        rw [vref hg.1 (rfl : vRf 2 3 = [48])] at cb5r
        have dcb5 : (Int32.ofInt (9999)).toInt < ((xI h 48 7) + n).toInt := Int32.lt_iff_toInt_lt.mp (Int32.not_le.mp cb5r)
        rw [← hS] at dcb5
        have t13 : XT l 7 165 false 97 153 6051 0 [xf 12 2, xi n, xun] [] h 26 [xf 12 2, xi n, xun] [xi (Int32.ofInt (-1))] h := XT_path (l := l) (fr := 7) (lo := 165) (full := false) (M := 97) (n := 153) (u := 6051) (pc := 0) (L := [xf 12 2, xi n, xun]) (st := []) (h := h) (inl := [67]) (n' := 80) (sp := [26]) (o := [0, 0, 0]) rfl rfl ⟨rfl, rfl, rfl⟩ rfl ⟨Nat.le_of_eq hg.2.2.2.1, Nat.le_of_eq hg.2.2.2.2⟩ ⟨⟨⟨⟨trivial, cb1⟩, cb3⟩, (vnn hg.1 (rfl : vRf 2 3 = [48]) (by decide))⟩, cb5⟩
        exact ⟨_, _, CX_ofT (h' := h) (by decide) rfl rfl trivial ⟨_, _, _, rfl, rfl, rfl⟩ rfl ⟨Nat.le_of_eq hg.2.2.2.1.symm, Nat.le_of_eq hg.2.2.2.2.symm⟩ t13, Or.inl ⟨fun z => by obtain ⟨z1, z2, z3⟩ := z; omega, rfl⟩⟩
/-! a world copied -/
theorem kW.cp {w v c : Nat} {Z : Nat → Int} {Y : Nat → Int32} {h h' : XH} (a : kW v c Z Y h) (B : zcB Z) (m : Y 51 = Int32.ofInt (-1)) (e1 : ∀ k, k < 6 → xI h' (w + 1) k = xI h (v + 1) k) (e4 : ∀ k, k < 8 → xI h' (w + 4) k = xI h (v + 4) k) (e5 : ∀ k, k < 8 → xI h' (w + 5) k = xI h (v + 5) k) (e7 : xI h' w 7 = xI h v 7) (e10 : xI h' w 10 = Int32.ofInt (-1)) (er : xR h' w 0 = xR h v 0) : kW w c Z Y h' := by
  obtain ⟨⟨-, B0⟩, -, ⟨-, B2⟩, -⟩ := B
  obtain ⟨a1, a2, a3, a4, a5, a6⟩ := a
  exact ⟨fun r hr => (e1 r (by omega)).trans (a1 r hr), fun p hp => ⟨(e4 p (by omega)).trans (a2 p hp).1, (e5 p (by omega)).trans (a2 p hp).2⟩, e7.trans a3, e10.trans m.symm, fun z => absurd z (by rw [m]; decide), er.trans a6⟩
theorem kD.cp {w v : Nat} {Z : Nat → Int} {Y : Nat → Int32} {h h' : XH} (a : kD v Z Y h) (B : zcB Z) (e3 : ∀ k, k < 9 → xI h' (w + 3) k = xI h (v + 3) k) (e7 : ∀ k, k < 6 → xI h' (w + 7) k = xI h (v + 7) k) : kD w Z Y h' := by
  obtain ⟨⟨-, B0⟩, ⟨-, B1⟩, ⟨-, B2⟩, -⟩ := B
  exact ⟨fun j hj => by rw [e3 j (by omega)]; exact a.1 j hj, fun r hr => (e7 r (by omega)).trans (a.2 r hr)⟩
theorem kE.cp {w v : Nat} {Z : Nat → Int} {Y : Nat → Int32} {h h' : XH} (a : kE v Z Y h) (B : zcB Z) (e8 : ∀ k, k < 6 → xI h' (w + 8) k = xI h (v + 8) k) : kE w Z Y h' := by
  obtain ⟨⟨-, B0⟩, -⟩ := B
  exact fun r hr => (e8 r (by omega)).trans (a r hr)
theorem kY.cp {w v : Nat} {Z : Nat → Int} {Y : Nat → Int32} {h h' : XH} (a : kY v Z Y h) (B : zcB Z) (e2 : ∀ k, k < 6 → xI h' (w + 2) k = xI h (v + 2) k) (e6 : ∀ k, k < 8 → xI h' (w + 6) k = xI h (v + 6) k) : kY w Z Y h' := by
  obtain ⟨⟨-, B0⟩, -, ⟨-, B2⟩, -⟩ := B
  exact ⟨fun r hr => (e2 r (by omega)).trans (a.1 r hr), fun p hp => (e6 p (by omega)).trans (a.2 p hp)⟩
