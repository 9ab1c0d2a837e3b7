/-! SYMBOLIC STATES: runs of a method for all values at once. An int: a constant, or a symbol and an offset; symbols have bounds; longs are symbols, zero or not; references are as they are. -/
abbrev SE : Type := Nat × Int
abbrev SI : Type := Int × Int
abbrev SY : Type := List (SI × Nat × Int)
abbrev SV : Type := (SE ⊕ Nat) ⊕ (Nat ⊕ (Nat × Nat))
abbrev SH : Type := List (Nat × Nat × SE) × List (Nat × Nat × Nat)
abbrev SS : Type := SY × List Nat × List SV × List SV × SH
/-- what every heap keeps: bounds of int slots, of a row's elements, whether a row may be written, the cells a reference slot may name -/
abbrev ST : Type := (Nat → Nat → SI) × (Nat → SI) × (Nat → Bool) × (Nat → Nat → List Nat)
abbrev sint (e : SE) : SV := .inl (.inl e)
abbrev scmp (j : Nat) : SV := .inl (.inr j)
abbrev slong (j : Nat) : SV := .inr (.inl j)
abbrev sref (k e : Nat) : SV := .inr (.inr (k, e))
abbrev sany : SV := .inr (.inr (0, 1))
abbrev sun : SV := .inr (.inr (0, 0))
def sev (ρ : Nat → Int) (e : SE) : Int := match e with
  | (0, c) => c
  | (s + 1, c) => ρ s + c
def scz (ρ : Nat → Int) (τ : Nat → Int64) : SV → XV
  | .inl (.inl e) => xi (Int32.ofInt (sev ρ e))
  | .inl (.inr j) => xi (lg_cmp (τ j) 0)
  | .inr (.inl j) => xl (τ j)
  | .inr (.inr q) => .inr q
def i32r (z : Int) : Prop := -2147483648 ≤ z ∧ z ≤ 2147483647
theorem i32r_to {z : Int} (h : i32r z) : (Int32.ofInt z).toInt = z := by
  rw [Int32.toInt_ofInt]
  show z.bmod 4294967296 = z
  exact Int.bmod_eq_of_le (by have := h.1; omega) (by have := h.2; omega)
theorem i32r_of (a : Int32) : i32r a.toInt := ⟨by have := Int32.le_toInt a; omega, by have := Int32.toInt_le a; have e : Int32.maxValue.toInt = 2147483647 := rfl; omega⟩
theorem i32_of (a : Int32) : Int32.ofInt a.toInt = a := Int32.ofInt_toInt a
/-- a value's symbols are there, its value is an int's -/
def sok (ρ : Nat → Int) (n m : Nat) : SV → Prop
  | .inl (.inl e) => e.1 ≤ n ∧ i32r (sev ρ e)
  | .inl (.inr j) => j < m
  | .inr (.inl j) => j < m
  | .inr (.inr _) => True
def sagree (ρ ρ' : Nat → Int) (n : Nat) : Prop := ∀ s, s < n → ρ' s = ρ s
def sagreeL (τ τ' : Nat → Int64) (m : Nat) : Prop := ∀ s, s < m → τ' s = τ s
theorem sev_agree {ρ ρ' : Nat → Int} {n : Nat} (h : sagree ρ ρ' n) : ∀ {e : SE}, e.1 ≤ n → sev ρ' e = sev ρ e
  | (0, _), _ => rfl
  | (s + 1, c), he => by
    show ρ' s + c = ρ s + c
    rw [h s he]
theorem scz_agree {ρ ρ' : Nat → Int} {τ τ' : Nat → Int64} {n m : Nat} (h : sagree ρ ρ' n) (g : sagreeL τ τ' m) : ∀ {v : SV}, sok ρ n m v → scz ρ' τ' v = scz ρ τ v
  | .inl (.inl e), hv => by
    show xi (Int32.ofInt (sev ρ' e)) = xi (Int32.ofInt (sev ρ e))
    rw [sev_agree h hv.1]
  | .inl (.inr j), hv => by
    show xi (lg_cmp (τ' j) 0) = xi (lg_cmp (τ j) 0)
    rw [g j hv]
  | .inr (.inl j), hv => by
    show xl (τ' j) = xl (τ j)
    rw [g j hv]
  | .inr (.inr _), _ => rfl
theorem sok_agree {ρ ρ' : Nat → Int} {n n' m m' : Nat} (h : sagree ρ ρ' n) (hn : n ≤ n') (hm : m ≤ m') : ∀ {v : SV}, sok ρ n m v → sok ρ' n' m' v
  | .inl (.inl e), hv => ⟨Nat.le_trans hv.1 hn, by rw [sev_agree h hv.1]; exact hv.2⟩
  | .inl (.inr _), hv => Nat.lt_of_lt_of_le hv hm
  | .inr (.inl _), hv => Nat.lt_of_lt_of_le hv hm
  | .inr (.inr _), _ => trivial
/-- the symbols' bounds hold -/
def syok (ρ : Nat → Int) (Y : SY) : Prop := ∀ s q, Y[s]? = some q → (q.1.1 ≤ ρ s ∧ ρ s ≤ q.1.2) ∧ (∀ b, q.2.1 = b + 1 → b < s ∧ ρ s ≤ ρ b + q.2.2)
def slok (τ : Nat → Int64) (F : List Nat) : Prop := ∀ j f, F[j]? = some f → (f = 1 → τ j ≠ 0) ∧ (f = 2 → τ j = 0)
def sgetL : List SV → Nat → SV
  | [], _ => sun
  | a :: _, 0 => a
  | _ :: l, k + 1 => sgetL l k
def ssetL : List SV → Nat → SV → List SV
  | [], _, _ => []
  | _ :: l, 0, v => v :: l
  | a :: l, k + 1, v => a :: ssetL l k v
def sislong (v : SV) : Bool := match v with
  | .inr (.inl _) => true
  | .inr (.inr (0, 1)) => true
  | _ => false
/-- a store of one slot: what lay before it is gone, if it was a long (or isn't known) -/
def sstL (l : List SV) (i : Nat) (v : SV) : List SV := match i with
  | 0 => ssetL l 0 v
  | j + 1 => bif sislong (sgetL l j) then ssetL (ssetL l j sany) (j + 1) v else ssetL l (j + 1) v
def srelL (ρ : Nat → Int) (τ : Nat → Int64) (A : List SV) (L : List XV) : Prop := L.length = A.length ∧ ∀ i, sgetL A i = sany ∨ xget L i = scz ρ τ (sgetL A i)
def siv (Y : SY) (e : SE) : SI := match e with
  | (0, c) => (c, c)
  | (s + 1, c) => match Y[s]? with
    | some q => (q.1.1 + c, q.1.2 + c)
    | none => (-1099511627776, 1099511627776)
theorem siv_ok {ρ : Nat → Int} {Y : SY} (hY : syok ρ Y) : ∀ {e : SE}, e.1 ≤ Y.length → (siv Y e).1 ≤ sev ρ e ∧ sev ρ e ≤ (siv Y e).2
  | (0, c), _ => ⟨Int.le_refl _, Int.le_refl _⟩
  | (s + 1, c), h => by
    have hs : s < Y.length := h
    have e1 : Y[s]? = some Y[s] := List.getElem?_eq_getElem hs
    have h1 := (hY s _ e1).1
    unfold siv
    simp only [e1]
    show _ ≤ ρ s + c ∧ ρ s + c ≤ _
    omega
/-- the heap: what every heap keeps; what is known of slots -/
def sinv (T : ST) (h : XH) : Prop := (∀ c k, (T.1 c k).1 ≤ (xI h c k).toInt ∧ (xI h c k).toInt ≤ (T.1 c k).2) ∧ (∀ c k, T.2.2.2 c k ≠ [] → xR h c k ∈ T.2.2.2 c k)
def stok (T : ST) : Prop := ∀ c k, (T.2.1 c).1 ≤ (T.1 c k).1 ∧ (T.1 c k).2 ≤ (T.2.1 c).2
def shok (T : ST) (ρ : Nat → Int) (n : Nat) (H : SH) (nn uu : Nat) (h : XH) : Prop := sinv T h ∧ (∀ q ∈ H.1, (xI h q.1 q.2.1).toInt = sev ρ q.2.2 ∧ q.2.2.1 ≤ n) ∧ (∀ q ∈ H.2, xR h q.1 q.2.1 = q.2.2) ∧ xN h = nn ∧ xU h = uu
/-- the state A tells of locals, stack and heap, by ρ and τ -/
def sst (T : ST) (nn uu : Nat) (ρ : Nat → Int) (τ : Nat → Int64) (A : SS) (L st : List XV) (h : XH) : Prop :=
  syok ρ A.1 ∧ slok τ A.2.1 ∧ srelL ρ τ A.2.2.1 L ∧ (∀ v ∈ A.2.2.1, sok ρ A.1.length A.2.1.length v) ∧ st = A.2.2.2.1.map (scz ρ τ) ∧ (∀ v ∈ A.2.2.2.1, sok ρ A.1.length A.2.1.length v) ∧ shok T ρ A.1.length A.2.2.2.2 nn uu h
/-- what a step leads to: one of the states told, by values that agree with those ahead -/
def sto (T : ST) (nn uu : Nat) (ρ : Nat → Int) (τ : Nat → Int64) (A : SS) (S : List (Nat × SS)) (r : XP) : Prop :=
  ∃ q ∈ S, q.1 = r.1 ∧ ∃ ρ' τ', sagree ρ ρ' A.1.length ∧ sagreeL τ τ' A.2.1.length ∧ A.1.length ≤ q.2.1.length ∧ sst T nn uu ρ' τ' q.2 r.2.1 r.2.2.1 r.2.2.2.1
/-! locals -/
theorem sgetL_set : ∀ (l : List SV) (i j : Nat) (v : SV), sgetL (ssetL l i v) j = if j = i then (if i < l.length then v else sun) else sgetL l j
  | [], i, j, v => by simp [ssetL, sgetL]
  | a :: l, 0, 0, v => by simp [ssetL, sgetL]
  | a :: l, 0, j + 1, v => by simp [ssetL, sgetL]
  | a :: l, i + 1, 0, v => by simp [ssetL, sgetL]
  | a :: l, i + 1, j + 1, v => by
    show sgetL (ssetL l i v) j = _
    rw [sgetL_set l i j v]
    simp [sgetL]
theorem ssetL_len : ∀ (l : List SV) (i : Nat) (v : SV), (ssetL l i v).length = l.length
  | [], _, _ => rfl
  | _ :: _, 0, _ => rfl
  | _ :: l, k + 1, v => congrArg (· + 1) (ssetL_len l k v)
theorem sstL_len (l : List SV) (i : Nat) (v : SV) : (sstL l i v).length = l.length := by
  unfold sstL
  split
  · exact ssetL_len _ _ _
  · rename_i j
    cases sislong (sgetL l j) with
    | true => exact (ssetL_len _ _ _).trans (ssetL_len _ _ _)
    | false => exact ssetL_len _ _ _
theorem ssetL_mem {P : SV → Prop} : ∀ {l : List SV} {i : Nat} {v : SV}, (∀ x ∈ l, P x) → P v → ∀ x ∈ ssetL l i v, P x
  | [], _, _, _, _, x, hx => absurd hx List.not_mem_nil
  | a :: l, 0, v, h, hv, x, hx => by
    rcases List.mem_cons.mp hx with rfl | hx
    · exact hv
    · exact h x (List.mem_cons_of_mem _ hx)
  | a :: l, k + 1, v, h, hv, x, hx => by
    rcases List.mem_cons.mp hx with rfl | hx
    · exact h _ List.mem_cons_self
    · exact ssetL_mem (fun y hy => h y (List.mem_cons_of_mem _ hy)) hv x hx
theorem sstL_mem {P : SV → Prop} {l : List SV} {i : Nat} {v : SV} (h : ∀ x ∈ l, P x) (hv : P v) (ha : P sany) : ∀ x ∈ sstL l i v, P x := by
  unfold sstL
  split
  · exact ssetL_mem h hv
  · rename_i j
    cases sislong (sgetL l j) with
    | true => exact ssetL_mem (ssetL_mem h ha) hv
    | false => exact ssetL_mem h hv
theorem sgetL_mem : ∀ {l : List SV} {i : Nat}, i < l.length → sgetL l i ∈ l
  | a :: l, 0, _ => List.mem_cons_self
  | a :: l, k + 1, h => List.mem_cons_of_mem _ (sgetL_mem (l := l) (Nat.lt_of_succ_lt_succ h))
theorem srelL_set {ρ : Nat → Int} {τ : Nat → Int64} {A : List SV} {L : List XV} (h : srelL ρ τ A L) (i : Nat) {v : SV} {x : XV} (hv : v = sany ∨ x = scz ρ τ v) : srelL ρ τ (ssetL A i v) (xset L i x) := by
  refine ⟨by rw [xset_len, ssetL_len]; exact h.1, fun j => ?_⟩
  rw [sgetL_set, xget_set, h.1]
  by_cases hj : j = i
  · rw [if_pos hj, if_pos hj]
    by_cases hi : i < A.length
    · rw [if_pos hi, if_pos hi]
      exact hv
    · rw [if_neg hi, if_neg hi]
      exact Or.inr rfl
  · rw [if_neg hj, if_neg hj]
    exact h.2 j
theorem srelL_st {ρ : Nat → Int} {τ : Nat → Int64} {A : List SV} {L : List XV} (h : srelL ρ τ A L) (i : Nat) {v : SV} {x : XV} (hv : v = sany ∨ x = scz ρ τ v) : srelL ρ τ (sstL A i v) (xst L i x) := by
  unfold sstL xst
  cases i with
  | zero => exact srelL_set h 0 hv
  | succ j =>
    dsimp only
    cases hs : sislong (sgetL A j) with
    | true =>
      dsimp only [cond]
      split
      · exact srelL_set (srelL_set h j (Or.inl rfl)) (j + 1) hv
      · refine srelL_set ⟨by rw [ssetL_len]; exact h.1, fun k => ?_⟩ (j + 1) hv
        rw [sgetL_set]
        by_cases hk : k = j
        · rw [if_pos hk]
          by_cases hl : j < A.length
          · rw [if_pos hl]
            exact Or.inl rfl
          · rw [if_neg hl]
            subst hk
            exact Or.inr (xget_out L k (by rw [h.1]; omega))
        · rw [if_neg hk]
          exact h.2 k
    | false =>
      dsimp only [cond]
      split
      · rename_i a ha
        exfalso
        rcases h.2 j with z | z
        · rw [z] at hs
          cases hs
        · rw [ha] at z
          revert hs z
          cases sgetL A j with
          | inl w => cases w <;> (intro hs z; cases z)
          | inr w => cases w with
            | inl k => intro hs z; cases hs
            | inr q => intro hs z; cases z
      · exact srelL_set h (j + 1) hv
theorem srelL_agree {ρ ρ' : Nat → Int} {τ τ' : Nat → Int64} {n m : Nat} {A : List SV} {L : List XV} (h : sagree ρ ρ' n) (g : sagreeL τ τ' m) (ho : ∀ v ∈ A, sok ρ n m v) (hr : srelL ρ τ A L) : srelL ρ' τ' A L := by
  refine ⟨hr.1, fun i => ?_⟩
  rcases hr.2 i with z | z
  · exact Or.inl z
  · refine Or.inr (z.trans ?_)
    by_cases hi : i < A.length
    · exact (scz_agree h g (ho _ (sgetL_mem hi))).symm
    · have e : sgetL A i = sun := by
        have : ∀ (l : List SV) (k : Nat), l.length ≤ k → sgetL l k = sun := by
          intro l
          induction l with
          | nil => intro k _; rfl
          | cons a l ih =>
            intro k hk
            cases k with
            | zero => exact absurd hk (Nat.not_succ_le_zero _)
            | succ k => exact ih k (Nat.le_of_succ_le_succ hk)
        exact this A i (Nat.not_lt.mp hi)
      rw [e]
      rfl
theorem smap_agree {ρ ρ' : Nat → Int} {τ τ' : Nat → Int64} {n m : Nat} {l : List SV} (h : sagree ρ ρ' n) (g : sagreeL τ τ' m) (ho : ∀ v ∈ l, sok ρ n m v) : l.map (scz ρ' τ') = l.map (scz ρ τ) :=
  List.map_congr_left fun v hv => scz_agree h g (ho v hv)
