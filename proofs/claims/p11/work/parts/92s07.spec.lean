/-! A WORLD: what follows from its state. Y: 0 + r scale, 10 + r yielded, 20 + p home, 30 + p called (2: not), 40 + p too big, 50 season, 51 mode, 52 mute. -/
def zsum (f : Nat → Int32) : Nat → Int32
  | 0 => Int32.ofInt (0)
  | n + 1 => zsum f n + f n
theorem zsum_eq {f g : Nat → Int32} : ∀ {n : Nat}, (∀ k, k < n → f k = g k) → zsum f n = zsum g n
  | 0, _ => rfl
  | n + 1, h => by
    show zsum f n + f n = zsum g n + g n
    rw [zsum_eq (n := n) (fun k hk => h k (by omega)), h n (by omega)]
/-- counted by ones -/
theorem zsum_b {f : Nat → Int32} : ∀ {n : Nat}, n ≤ 100 → (∀ k, k < n → f k = Int32.ofInt (0) ∨ f k = Int32.ofInt (1)) → 0 ≤ (zsum f n).toInt ∧ (zsum f n).toInt ≤ n
  | 0, _, _ => ⟨(by decide : (0 : Int) ≤ (Int32.ofInt (0)).toInt), (by decide : (Int32.ofInt (0)).toInt ≤ 0)⟩
  | n + 1, hn, h => by
    obtain ⟨a, b⟩ := zsum_b (n := n) (by omega) (fun k hk => h k (by omega))
    have e1 : (Int32.ofInt (1)).toInt = 1 := rfl
    have z0 : ∀ x : Int32, x + Int32.ofInt (0) = x := fun x => Int32.add_zero x
    show 0 ≤ (zsum f n + f n).toInt ∧ (zsum f n + f n).toInt ≤ ((n + 1 : Nat) : Int)
    rcases h n (by omega) with e | e
    · rw [e, z0]
      omega
    · have z : (zsum f n + Int32.ofInt (1)).toInt = (zsum f n).toInt + 1 := by
        rw [Int32.toInt_add, e1]
        exact Int.bmod_eq_of_le (by omega) (by omega)
      rw [e, z]
      omega
def zCr (Z : Nat → Int) (Y : Nat → Int32) (r : Nat) : Int32 := zsum (fun p => if (Y (20 + p)).toInt = r then Int32.ofInt (1) else Int32.ofInt (0)) (Z 2).toNat
def zTr (Z : Nat → Int) (Y : Nat → Int32) : Int := if (Y 51).toInt = 3 then 8 else Z 5
def zgp (Z : Nat → Int) (Y : Nat → Int32) (j : Nat) : Int := (((Y (Z (140 + j)).toNat).toInt - (Y (Z (150 + j)).toNat).toInt).natAbs : Int)
def zTs (Z : Nat → Int) (Y : Nat → Int32) (r : Nat) : Int32 := zsum (fun j => if (Z (140 + j) = r ∨ Z (150 + j) = r) ∧ zTr Z Y < zgp Z Y j then Int32.ofInt (1) else Int32.ofInt (0)) (Z 1).toNat
def znm (s size area len crowd torn season : Int) : Nat → Int := fun i => if i = 0 then s else if i = 1 then size else if i = 2 then area else if i = 3 then len else if i = 4 then crowd else if i = 5 then torn else season
/-- the value of the law of gain; clamped -/
def zGl (Z : Nat → Int) (Y : Nat → Int32) (p r : Nat) (s : Int) : Option Int := zL Z (znm s (Z (190 + p)) (Z (120 + r)) 0 (zCr Z Y r).toInt (zTs Z Y r).toInt (Y 50).toInt) 0
def zGn (Z : Nat → Int) (Y : Nat → Int32) (p r : Nat) (s : Int) : Int := zcl (zGl Z Y p r s) (9 - ((s - Z (190 + p)).natAbs : Int)) (-99) 99
def zYl (Z : Nat → Int) (Y : Nat → Int32) (r : Nat) (s t : Int) : Option Int := zL Z (znm s 0 (Z (120 + r)) 0 (zCr Z Y r).toInt t (Y 50).toInt) 1
def zYb (Z : Nat → Int) (Y : Nat → Int32) (r : Nat) (s t : Int) : Int := zcl (zYl Z Y r s t) ((Z (120 + r) * s).tdiv 3) 0 9999
def zWl (Z : Nat → Int) (Y : Nat → Int32) (j r : Nat) : Option Int := zL Z (znm (Y r).toInt 0 0 (Z (160 + j)) (zCr Z Y r).toInt (zTs Z Y r).toInt (Y 50).toInt) 2
def zWy (Z : Nat → Int) (Y : Nat → Int32) (j r : Nat) : Int := zcl (zWl Z Y j r) (1 + (Z (160 + j) * (Y r).toInt).tdiv 20) 1 9
/-- how a person votes by what it has -/
def zVg (Z : Nat → Int) (Y : Nat → Int32) (p : Nat) : Int32 :=
  if (Y (Y (20 + p)).toInt.toNat).toInt < 9 ∧ zGn Z Y p (Y (20 + p)).toInt.toNat (Y (Y (20 + p)).toInt.toNat).toInt < zGn Z Y p (Y (20 + p)).toInt.toNat ((Y (Y (20 + p)).toInt.toNat).toInt + 1) then Int32.ofInt (1)
  else if 1 < (Y (Y (20 + p)).toInt.toNat).toInt ∧ zGn Z Y p (Y (20 + p)).toInt.toNat (Y (Y (20 + p)).toInt.toNat).toInt < zGn Z Y p (Y (20 + p)).toInt.toNat ((Y (Y (20 + p)).toInt.toNat).toInt - 1) then Int32.ofInt (-1) else Int32.ofInt (0)
def zVo (Z : Nat → Int) (Y : Nat → Int32) (p : Nat) : Int32 :=
  if (Y 51).toInt = 0 ∨ ((Y 51).toInt = 2 ∧ (Y 52).toInt = p) then Int32.ofInt (0) else if ¬ (Y (30 + p)).toInt = 2 then Y (30 + p) else if (Y 51).toInt = 4 then Int32.ofInt (1) else zVg Z Y p
def zWe (Z : Nat → Int) (Y : Nat → Int32) (p : Nat) : Int32 := if (Y 51).toInt = 1 then Int32.ofInt (1) else Int32.ofInt (Z (200 + p))
def zVs (Z : Nat → Int) (Y : Nat → Int32) (r : Nat) : Int32 := zsum (fun p => if (Y (20 + p)).toInt = r then zWe Z Y p * zVo Z Y p else Int32.ofInt (0)) (Z 2).toNat
def zSt (s v : Int32) : Int32 := if 0 < v.toInt then (if s.toInt < 9 then s + Int32.ofInt (1) else s) else if v.toInt < 0 then (if 1 < s.toInt then s - Int32.ofInt (1) else s) else s
/-- a season's steps -/
def zStr (Z : Nat → Int) (Y : Nat → Int32) : Nat → Int32 := fun i => if (i : Int) < Z 0 then zSt (Y i) (zVs Z Y i) else Y i
def zRp (Z : Nat → Int) (Y : Nat → Int32) : Nat → Int32 := fun i =>
  if 10 ≤ i ∧ (i : Int) < 10 + Z 0 then Y i + Int32.ofInt (zYb Z Y (i - 10) (Y (i - 10)).toInt (zTs Z Y (i - 10)).toInt)
  else if 40 ≤ i ∧ (i : Int) < 40 + Z 2 then (if (Y (Y (20 + (i - 40))).toInt.toNat).toInt < Z (190 + (i - 40)) then Y i + Int32.ofInt (1) else Y i) else Y i
def zCls (Y : Nat → Int32) : Nat → Int32 := fun i => if 30 ≤ i ∧ i < 40 then Int32.ofInt (2) else if i = 50 then Y 50 + Int32.ofInt (1) else Y i
def zPs (Z : Nat → Int) (Y : Nat → Int32) : Nat → Int32 := zCls (zRp Z (zStr Z Y))
/-- a state is one: scales, homes, calls -/
def zVd (Z : Nat → Int) (Y : Nat → Int32) : Prop := (∀ r : Nat, (r : Int) < Z 0 → 1 ≤ (Y r).toInt ∧ (Y r).toInt ≤ 9) ∧ (∀ p : Nat, (p : Int) < Z 2 → 0 ≤ (Y (20 + p)).toInt ∧ (Y (20 + p)).toInt < Z 0) ∧ ∀ p : Nat, (p : Int) < Z 2 → -1 ≤ (Y (30 + p)).toInt ∧ (Y (30 + p)).toInt ≤ 2
theorem zSt_b {s v : Int32} (h : 1 ≤ s.toInt ∧ s.toInt ≤ 9) : 1 ≤ (zSt s v).toInt ∧ (zSt s v).toInt ≤ 9 := by
  unfold zSt
  have e := y_suc1 (k := s) (by omega) (by omega)
  have e2 := y_pred (k := s)
  split
  · split
    · rw [e]; omega
    · exact h
  · split
    · split
      · rw [e2 (by omega) (by omega)]; omega
      · exact h
    · exact h
theorem zVd_str {Z : Nat → Int} {Y : Nat → Int32} (B : zcB Z) (v : zVd Z Y) : zVd Z (zStr Z Y) := by
  obtain ⟨⟨-, B0⟩, -, ⟨-, B2⟩, -⟩ := B
  obtain ⟨a, b, c⟩ := v
  refine ⟨fun r hr => ?_, fun p hp => ?_, fun p hp => ?_⟩
  · have e : zStr Z Y r = zSt (Y r) (zVs Z Y r) := if_pos hr
    rw [e]
    exact zSt_b (a r hr)
  · have e : zStr Z Y (20 + p) = Y (20 + p) := if_neg (by omega)
    rw [e]
    exact b p hp
  · have e : zStr Z Y (30 + p) = Y (30 + p) := if_neg (by omega)
    rw [e]
    exact c p hp
theorem zVd_rp {Z : Nat → Int} {Y : Nat → Int32} (B : zcB Z) (v : zVd Z Y) : zVd Z (zRp Z Y) := by
  obtain ⟨⟨-, B0⟩, -, ⟨-, B2⟩, -⟩ := B
  obtain ⟨a, b, c⟩ := v
  have e : ∀ i, i < 40 → (i < 10 ∨ 16 ≤ i) → zRp Z Y i = Y i := fun i h1 h2 => (if_neg (by omega)).trans (if_neg (by omega))
  refine ⟨fun r hr => ?_, fun p hp => ?_, fun p hp => ?_⟩
  · rw [e r (by omega) (by omega)]
    exact a r hr
  · rw [e (20 + p) (by omega) (by omega)]
    exact b p hp
  · rw [e (30 + p) (by omega) (by omega)]
    exact c p hp
theorem zVd_cls {Z : Nat → Int} {Y : Nat → Int32} (B : zcB Z) (v : zVd Z Y) : zVd Z (zCls Y) := by
  obtain ⟨⟨-, B0⟩, -, ⟨-, B2⟩, -⟩ := B
  obtain ⟨a, b, c⟩ := v
  refine ⟨fun r hr => ?_, fun p hp => ?_, fun p hp => ?_⟩
  · have e : zCls Y r = Y r := (if_neg (by omega)).trans (if_neg (by omega))
    rw [e]
    exact a r hr
  · have e : zCls Y (20 + p) = Y (20 + p) := (if_neg (by omega)).trans (if_neg (by omega))
    rw [e]
    exact b p hp
  · have e : zCls Y (30 + p) = Int32.ofInt (2) := if_pos (by omega)
    rw [e]
    decide
theorem zCr_b {Z : Nat → Int} {Y : Nat → Int32} {r : Nat} (h : Z 2 ≤ 8) : 0 ≤ (zCr Z Y r).toInt ∧ (zCr Z Y r).toInt ≤ 8 := by
  have z := zsum_b (f := fun p => if (Y (20 + p)).toInt = r then Int32.ofInt (1) else Int32.ofInt (0)) (n := (Z 2).toNat) (by omega) (fun k _ => by
    show (if (Y (20 + k)).toInt = r then Int32.ofInt (1) else Int32.ofInt (0)) = Int32.ofInt (0) ∨ _
    split
    · exact Or.inr rfl
    · exact Or.inl rfl)
  unfold zCr
  omega
theorem zTs_b {Z : Nat → Int} {Y : Nat → Int32} {r : Nat} (h : Z 1 ≤ 9) : 0 ≤ (zTs Z Y r).toInt ∧ (zTs Z Y r).toInt ≤ 9 := by
  have z := zsum_b (f := fun j => if (Z (140 + j) = r ∨ Z (150 + j) = r) ∧ zTr Z Y < zgp Z Y j then Int32.ofInt (1) else Int32.ofInt (0)) (n := (Z 1).toNat) (by omega) (fun k _ => by
    show (if (Z (140 + k) = r ∨ Z (150 + k) = r) ∧ zTr Z Y < zgp Z Y k then Int32.ofInt (1) else Int32.ofInt (0)) = Int32.ofInt (0) ∨ _
    split
    · exact Or.inr rfl
    · exact Or.inl rfl)
  unfold zTs
  omega
theorem zcl_b {o : Option Int} {d lo mo : Int} (h : lo ≤ mo) (hd : lo ≤ d ∧ d ≤ mo) : lo ≤ zcl o d lo mo ∧ zcl o d lo mo ≤ mo := by
  unfold zcl
  split
  · exact hd
  · split
    · omega
    · split <;> omega
/-! THE CLASS'S WORLD in the cell w, with the realm in c: its rows; what it keeps of what follows. -/
def kW (w c : Nat) (Z : Nat → Int) (Y : Nat → Int32) (h : XH) : Prop :=
  (∀ r : Nat, (r : Int) < Z 0 → xI h (w + 1) r = Y r) ∧ (∀ p : Nat, (p : Int) < Z 2 → xI h (w + 4) p = Y (20 + p) ∧ xI h (w + 5) p = Y (30 + p)) ∧ xI h w 7 = Y 50 ∧ xI h w 10 = Y 51 ∧ ((Y 51).toInt = 2 → xI h w 11 = Y 52) ∧ xR h w 0 = c
/-- what was yielded, who was too big -/
def kY (w : Nat) (Z : Nat → Int) (Y : Nat → Int32) (h : XH) : Prop := (∀ r : Nat, (r : Int) < Z 0 → xI h (w + 2) r = Y (10 + r)) ∧ ∀ p : Nat, (p : Int) < Z 2 → xI h (w + 6) p = Y (40 + p)
def kD (w : Nat) (Z : Nat → Int) (Y : Nat → Int32) (h : XH) : Prop :=
  (∀ j : Nat, (j : Int) < Z 1 → (xI h (w + 3) j).toInt = if zTr Z Y < zgp Z Y j then 1 else 0) ∧ ∀ r : Nat, (r : Int) < Z 0 → xI h (w + 7) r = zTs Z Y r
def kE (w : Nat) (Z : Nat → Int) (Y : Nat → Int32) (h : XH) : Prop := ∀ r : Nat, (r : Int) < Z 0 → xI h (w + 8) r = zCr Z Y r
/-- the model's half b -/
def jHf (b : Nat) (Z : Nat → Int) (Y : Nat → Int32) (h : XH) : Prop :=
  (∀ r : Nat, (r : Int) < Z 0 → xI h 133 (6 * b + r) = Y r) ∧ (∀ p : Nat, (p : Int) < Z 2 → xI h 135 (8 * b + p) = Y (20 + p) ∧ xI h 136 (8 * b + p) = (if (Y (30 + p)).toInt = 2 then Int32.ofInt (-2) else Y (30 + p))) ∧ xI h 138 b = Y 50
def jY (b : Nat) (Z : Nat → Int) (Y : Nat → Int32) (h : XH) : Prop := (∀ r : Nat, (r : Int) < Z 0 → xI h 134 (6 * b + r) = Y (10 + r)) ∧ ∀ p : Nat, (p : Int) < Z 2 → xI h 137 (8 * b + p) = Y (40 + p)
def jHow (Y : Nat → Int32) (h : XH) : Prop := xI h 104 63 = Y 51 ∧ ((Y 51).toInt = 2 → xI h 104 64 = Y 52)
/-! what they depend on -/
def zSm (Y X : Nat → Int32) : Prop := (∀ i, i < 10 ∨ (20 ≤ i ∧ i < 30) → X i = Y i) ∧ X 51 = Y 51
theorem zCr_eq {Z : Nat → Int} {Y X : Nat → Int32} {r : Nat} (B : Z 2 ≤ 8) (e : zSm Y X) : zCr Z X r = zCr Z Y r := zsum_eq (fun k hk => by
  show (if (X (20 + k)).toInt = r then Int32.ofInt (1) else Int32.ofInt (0)) = _
  rw [e.1 (20 + k) (by omega)])
theorem zTr_eq {Z : Nat → Int} {Y X : Nat → Int32} (e : zSm Y X) : zTr Z X = zTr Z Y := by
  unfold zTr
  rw [e.2]
theorem zgp_eq {Z : Nat → Int} {Y X : Nat → Int32} {j : Nat} (z : zVal Z) (B : Z 0 ≤ 6) (hj : (j : Int) < Z 1) (e : zSm Y X) : zgp Z X j = zgp Z Y j := by
  obtain ⟨⟨a1, a2⟩, ⟨a3, a4⟩, -⟩ := z.2.1 j hj
  unfold zgp
  rw [e.1 (Z (140 + j)).toNat (by omega), e.1 (Z (150 + j)).toNat (by omega)]
theorem zTs_eq {Z : Nat → Int} {Y X : Nat → Int32} {r : Nat} (z : zVal Z) (B : Z 0 ≤ 6) (e : zSm Y X) : zTs Z X r = zTs Z Y r := zsum_eq (fun j hj => by
  show (if (Z (140 + j) = r ∨ Z (150 + j) = r) ∧ zTr Z X < zgp Z X j then Int32.ofInt (1) else Int32.ofInt (0)) = _
  rw [zTr_eq e, zgp_eq z B (by omega) e])
theorem zYb_eq {Z : Nat → Int} {Y X : Nat → Int32} {r : Nat} {s t : Int} (B : Z 2 ≤ 8) (e : zSm Y X) (e5 : X 50 = Y 50) : zYb Z X r s t = zYb Z Y r s t := by
  unfold zYb zYl
  rw [zCr_eq B e, e5]
theorem zSm_rp {Z : Nat → Int} {Y : Nat → Int32} (B : zcB Z) : zSm Y (zRp Z Y) := by
  obtain ⟨⟨-, B0⟩, -, ⟨-, B2⟩, -⟩ := B
  have e : ∀ i, (i < 10 ∨ (16 ≤ i ∧ i < 40) ∨ 48 ≤ i) → zRp Z Y i = Y i := fun i hi => (if_neg (by omega)).trans (if_neg (by omega))
  exact ⟨fun i hi => e i (by omega), e 51 (by decide)⟩
theorem zSm_cls {Y : Nat → Int32} : zSm Y (zCls Y) := by
  have e : ∀ i, ¬ (30 ≤ i ∧ i < 40) → ¬ i = 50 → zCls Y i = Y i := fun i h1 h2 => (if_neg h1).trans (if_neg h2)
  exact ⟨fun i hi => e i (by omega) (by omega), e 51 (by decide) (by decide)⟩
theorem kD.sm {w : Nat} {Z : Nat → Int} {Y X : Nat → Int32} {h : XH} (a : kD w Z Y h) (z : zVal Z) (B : Z 0 ≤ 6) (e : zSm Y X) : kD w Z X h :=
  ⟨fun j hj => by rw [zTr_eq e, zgp_eq z B hj e]; exact a.1 j hj, fun r hr => by rw [zTs_eq z B e]; exact a.2 r hr⟩
theorem kE.sm {w : Nat} {Z : Nat → Int} {Y X : Nat → Int32} {h : XH} (a : kE w Z Y h) (B : Z 2 ≤ 8) (e : zSm Y X) : kE w Z X h := fun r hr => by
  rw [zCr_eq B e]
  exact a r hr
theorem zRp_y {Z : Nat → Int} {Y : Nat → Int32} {r : Nat} (h : (r : Int) < Z 0) : zRp Z Y (10 + r) = Y (10 + r) + Int32.ofInt (zYb Z Y r (Y r).toInt (zTs Z Y r).toInt) :=
  (if_pos ⟨by omega, by omega⟩).trans (by rw [show 10 + r - 10 = r from by omega])
theorem zRp_b {Z : Nat → Int} {Y : Nat → Int32} {p : Nat} (B : Z 0 ≤ 6) (h : (p : Int) < Z 2) : zRp Z Y (40 + p) = if (Y (Y (20 + p)).toInt.toNat).toInt < Z (190 + p) then Y (40 + p) + Int32.ofInt (1) else Y (40 + p) :=
  (if_neg (by omega)).trans ((if_pos ⟨by omega, by omega⟩).trans (by rw [show 40 + p - 40 = p from by omega]))
