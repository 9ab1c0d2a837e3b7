/-! A TEXT'S TOKENS, as both readers see them: bytes as 1 .. 127, all else 0. -/
def sby (x : Int) : Int := if 0 < x ∧ x < 128 then x else 0
theorem sby_eq {x c : Int} (h0 : 0 < c) (h1 : c < 128) : (sby x = c) = (x = c) := by
  unfold sby
  split <;> exact propext ⟨fun z => by omega, fun z => by omega⟩
theorem sby_in {x a b : Int} (h0 : 0 < a) (h1 : b < 128) : (a ≤ sby x ∧ sby x ≤ b) = (a ≤ x ∧ x ≤ b) := by
  unfold sby
  split <;> exact propext ⟨fun z => by omega, fun z => by omega⟩
theorem sby_val {x a b : Int} (h0 : 0 < a) (h1 : b < 128) (h : a ≤ x ∧ x ≤ b) : sby x = x := by
  unfold sby
  exact if_pos ⟨by omega, by omega⟩
/-- blanks, letters, digits in a row -/
def sSk (b : Nat → Int) : Nat → Nat → Nat
  | 0, p => p
  | m + 1, p => if b p = 10 ∨ b p = 32 then sSk b m (p + 1) else p
def sLr (b : Nat → Int) : Nat → Nat → Nat
  | 0, p => p
  | m + 1, p => if 97 ≤ b p ∧ b p ≤ 122 then sLr b m (p + 1) else p
def sDr (b : Nat → Int) : Nat → Nat → Nat
  | 0, p => p
  | m + 1, p => if 48 ≤ b p ∧ b p ≤ 57 then sDr b m (p + 1) else p
section SRun
variable {b : Nat → Int} {n p : Nat}
theorem sSk_y (h : p < n) (hb : b p = 10 ∨ b p = 32) : sSk b (n - p) p = sSk b (n - (p + 1)) (p + 1) := by
  rw [show n - p = n - (p + 1) + 1 by omega]
  exact if_pos hb
theorem sSk_n (hb : ¬ (b p = 10 ∨ b p = 32)) : sSk b (n - p) p = p := by
  cases n - p with
  | zero => rfl
  | succ m => exact if_neg hb
theorem sSk_e (h : n ≤ p) : sSk b (n - p) p = p := by
  rw [show n - p = 0 by omega]
  rfl
theorem sLr_y (h : p < n) (hb : 97 ≤ b p ∧ b p ≤ 122) : sLr b (n - p) p = sLr b (n - (p + 1)) (p + 1) := by
  rw [show n - p = n - (p + 1) + 1 by omega]
  exact if_pos hb
theorem sLr_n (hb : ¬ (97 ≤ b p ∧ b p ≤ 122)) : sLr b (n - p) p = p := by
  cases n - p with
  | zero => rfl
  | succ m => exact if_neg hb
theorem sLr_e (h : n ≤ p) : sLr b (n - p) p = p := by
  rw [show n - p = 0 by omega]
  rfl
theorem sDr_y (h : p < n) (hb : 48 ≤ b p ∧ b p ≤ 57) : sDr b (n - p) p = sDr b (n - (p + 1)) (p + 1) := by
  rw [show n - p = n - (p + 1) + 1 by omega]
  exact if_pos hb
theorem sDr_n (hb : ¬ (48 ≤ b p ∧ b p ≤ 57)) : sDr b (n - p) p = p := by
  cases n - p with
  | zero => rfl
  | succ m => exact if_neg hb
theorem sDr_e (h : n ≤ p) : sDr b (n - p) p = p := by
  rw [show n - p = 0 by omega]
  rfl
end SRun
theorem sSk_b (b : Nat → Int) : ∀ (m p : Nat), p ≤ sSk b m p ∧ sSk b m p ≤ p + m
  | 0, p => ⟨Nat.le_refl _, Nat.le_refl _⟩
  | m + 1, p => by
    unfold sSk
    split
    · have := sSk_b b m (p + 1)
      omega
    · omega
theorem sLr_b (b : Nat → Int) : ∀ (m p : Nat), p ≤ sLr b m p ∧ sLr b m p ≤ p + m
  | 0, p => ⟨Nat.le_refl _, Nat.le_refl _⟩
  | m + 1, p => by
    unfold sLr
    split
    · have := sLr_b b m (p + 1)
      omega
    · omega
theorem sDr_b (b : Nat → Int) : ∀ (m p : Nat), p ≤ sDr b m p ∧ sDr b m p ≤ p + m
  | 0, p => ⟨Nat.le_refl _, Nat.le_refl _⟩
  | m + 1, p => by
    unfold sDr
    split
    · have := sDr_b b m (p + 1)
      omega
    · omega
theorem sLr_in (b : Nat → Int) : ∀ (m p k : Nat), p ≤ k → k < sLr b m p → 97 ≤ b k ∧ b k ≤ 122
  | 0, p, k, h1, h2 => absurd h1 (by
    have h2 : k < p := h2
    omega)
  | m + 1, p, k, h1, h2 => by
    unfold sLr at h2
    split at h2
    · rename_i hb
      by_cases e : k = p
      · rw [e]
        exact hb
      · exact sLr_in b m (p + 1) k (by omega) h2
    · omega
/-- letters packed, five bits each; digits as a number, all beyond 9999 alike -/
def sLt (x : Int) (j : Nat) : Int32 := (Int32.ofInt x - Int32.ofInt (97) + Int32.ofInt (1)) <<< ((Int32.ofInt (25) - Int32.ofInt (5) * Int32.ofInt j) &&& 31)
def sPk (b : Nat → Int) (q : Nat) : Nat → Int32
  | 0 => Int32.ofInt (0)
  | j + 1 => if j < 6 then sPk b q j ||| sLt (b (q + j)) j else sPk b q j
def sNm (b : Nat → Int) (q : Nat) : Nat → Int
  | 0 => 0
  | j + 1 => min 10000 (sNm b q j * 10 + b (q + j) - 48)
theorem sNm_b {b : Nat → Int} {q : Nat} : ∀ {j : Nat}, (∀ i, i < j → 48 ≤ b (q + i) ∧ b (q + i) ≤ 57) → 0 ≤ sNm b q j ∧ sNm b q j ≤ 10000
  | 0, _ => ⟨Int.le_refl _, (by decide : (0 : Int) ≤ 10000)⟩
  | j + 1, h => by
    have h1 := sNm_b (b := b) (q := q) (j := j) (fun i hi => h i (by omega))
    have h2 := h j (by omega)
    unfold sNm
    omega
/-- the words of the language in the order of the constant -/
def zcd : Nat → Int32 × Int32
  | 0 => (Int32.ofInt (0), Int32.ofInt (25))
  | k + 1 => if zby.getD k 0 = 32 then (Int32.ofInt (0), Int32.ofInt (25)) else ((zcd k).1 ||| ((zby.getD k 0 - Int32.ofInt (97) + Int32.ofInt (1)) <<< ((zcd k).2 &&& 31)), (zcd k).2 + Int32.ofInt (-5))
def sIdx : List Int32 → Int32 → Int → Int
  | [], _, _ => 3
  | c :: l, x, w => if c = x then w else sIdx l x (w + 1)
def zrm (k : Nat) : List Int32 := (List.range (105 - k)).filterMap (fun j => if zby.getD (k + j) 0 = 32 then some (zcd (k + j)).1 else none)
def sWl : List Int32 := zrm 0
def sWord (x : Int32) : Int := sIdx sWl x 20
/-- a token: what it is, its value, where it begins, where the next one may -/
def sSg (b : Nat → Int) (n q : Nat) : Int × Nat :=
  if b q = 59 then (4, q + 1) else if b q = 40 then (5, q + 1) else if b q = 41 then (6, q + 1) else if b q = 43 then (13, q + 1) else if b q = 45 then (14, q + 1) else
  if b q = 42 then (15, q + 1) else if b q = 47 then (16, q + 1) else if b q = 61 then (9, q + 1) else
  if b q = 60 then (if q + 1 < n ∧ b (q + 1) = 61 then (8, q + 2) else if q + 1 < n ∧ b (q + 1) = 62 then (10, q + 2) else (7, q + 1)) else
  if b q = 62 then (if q + 1 < n ∧ b (q + 1) = 61 then (11, q + 2) else (12, q + 1)) else (1, q + 1)
def sTk (b : Nat → Int) (n q : Nat) : Int × Int × Nat :=
  if n ≤ q then (0, 0, q) else if 97 ≤ b q ∧ b q ≤ 122 then
    (if 6 < sLr b (n - q) q - q then 1 else sWord (sPk b q (sLr b (n - q) q - q)), (sPk b q (sLr b (n - q) q - q)).toInt, sLr b (n - q) q)
  else if 48 ≤ b q ∧ b q ≤ 57 then (2, sNm b q (sDr b (n - q) q - q), sDr b (n - q) q)
  else ((sSg b n q).1, 0, (sSg b n q).2)
