/-! THE KNOTS OF A LAW, as they are worked out: each one's parts lie on top of what waits. -/
def zlf (Z : Nat → Int) (i : Nat) : Prop := (Z (300 + i) = 2 ∧ Z (400 + i) = Z (500 + i)) ∨ (33 ≤ Z (300 + i) ∧ Z (300 + i) ≤ 39 ∧ Z (500 + i) = Z (300 + i) - 33)
def zbo (c : Int) : Prop := (7 ≤ c ∧ c ≤ 16) ∨ c = 30 ∨ c = 31
def zst1 (Z : Nat → Int) (i : Nat) (l l' : List Nat) : Prop :=
  (zlf Z i ∧ l' = i :: l) ∨ (Z (300 + i) = 32 ∧ ∃ (a : Nat) (t : List Nat), l = a :: t ∧ Z (500 + i) = a ∧ l' = i :: t) ∨ (zbo (Z (300 + i)) ∧ ∃ (a c : Nat) (t : List Nat), l = c :: a :: t ∧ Z (500 + i) = a ∧ Z (600 + i) = c ∧ l' = i :: t)
def zrn (Z : Nat → Int) (f : Nat) : Nat → List Nat → Prop
  | 0, l => l = []
  | m + 1, l => ∃ l0, zrn Z f m l0 ∧ zst1 Z (f + m) l0 l
theorem zst1_eq {Z Y : Nat → Int} {i : Nat} {l l' : List Nat} (h : ∀ o : Nat, o = 300 ∨ o = 400 ∨ o = 500 ∨ o = 600 → Y (o + i) = Z (o + i)) (a : zst1 Z i l l') : zst1 Y i l l' := by
  have e3 := h 300 (by omega)
  have e4 := h 400 (by omega)
  have e5 := h 500 (by omega)
  have e6 := h 600 (by omega)
  unfold zst1 zlf at a ⊢
  rw [e3, e4, e5, e6]
  exact a
theorem zrn_eq {Z Y : Nat → Int} {f : Nat} : ∀ {m : Nat} {l : List Nat}, (∀ k : Nat, k < f + m → ∀ o : Nat, o = 300 ∨ o = 400 ∨ o = 500 ∨ o = 600 → Y (o + k) = Z (o + k)) → zrn Z f m l → zrn Y f m l
  | 0, _, _, a => a
  | m + 1, l, h, ⟨l0, a, b⟩ => ⟨l0, zrn_eq (fun k hk o ho => h k (by omega) o ho) a, zst1_eq (h (f + m) (by omega)) b⟩
theorem zst1_det {Z : Nat → Int} {i : Nat} {l p q : List Nat} (a : zst1 Z i l p) (b : zst1 Z i l q) : p = q := by
  unfold zst1 zlf zbo at a b
  rcases a with ⟨a1, rfl⟩ | ⟨a1, x, t, rfl, -, rfl⟩ | ⟨a1, x, y, t, rfl, -, -, rfl⟩
  · rcases b with ⟨-, rfl⟩ | ⟨b1, -⟩ | ⟨b1, -⟩
    · rfl
    · omega
    · omega
  · rcases b with ⟨b1, -⟩ | ⟨-, x2, t2, e, -, rfl⟩ | ⟨b1, -⟩
    · omega
    · rw [(List.cons.inj e).2]
    · omega
  · rcases b with ⟨b1, -⟩ | ⟨b1, -⟩ | ⟨-, x2, y2, t2, e, -, -, rfl⟩
    · omega
    · omega
    · rw [(List.cons.inj (List.cons.inj e).2).2]
theorem zrn_det {Z : Nat → Int} {f : Nat} : ∀ {m : Nat} {l p : List Nat}, zrn Z f m l → zrn Z f m p → l = p
  | 0, _, _, a, b => a.trans b.symm
  | m + 1, l, p, ⟨l0, a, x⟩, ⟨p0, b, y⟩ => by
    obtain rfl := zrn_det a b
    exact zst1_det x y
theorem zrn_b {Z : Nat → Int} {f : Nat} : ∀ {m : Nat} {l : List Nat}, zrn Z f m l → l.length ≤ m ∧ ∀ a ∈ l, f ≤ a ∧ a < f + m
  | 0, l, a => by
    have a : l = [] := a
    rw [a]
    exact ⟨Nat.le_refl _, fun a h => absurd h List.not_mem_nil⟩
  | m + 1, l, ⟨l0, a, x⟩ => by
    obtain ⟨i1, i2⟩ := zrn_b a
    rcases x with ⟨-, rfl⟩ | ⟨-, x, t, rfl, -, rfl⟩ | ⟨-, x, y, t, rfl, -, -, rfl⟩
    · refine ⟨by rw [List.length_cons]; omega, fun a h => ?_⟩
      rcases List.mem_cons.mp h with rfl | h
      · omega
      · have := i2 a h
        omega
    · rw [List.length_cons] at i1
      refine ⟨by rw [List.length_cons]; omega, fun a h => ?_⟩
      rcases List.mem_cons.mp h with rfl | h
      · omega
      · have := i2 a (List.mem_cons_of_mem _ h)
        omega
    · rw [List.length_cons, List.length_cons] at i1
      refine ⟨by rw [List.length_cons]; omega, fun a h => ?_⟩
      rcases List.mem_cons.mp h with rfl | h
      · omega
      · have := i2 a (List.mem_cons_of_mem _ (List.mem_cons_of_mem _ h))
        omega
theorem zrn_pre {Z : Nat → Int} {f k : Nat} : ∀ {m : Nat} {l : List Nat}, zrn Z f (k + m) l → ∃ l0, zrn Z f k l0
  | 0, l, a => ⟨l, a⟩
  | m + 1, _, ⟨l0, a, _⟩ => zrn_pre (m := m) a
/-- what lies there, the top first -/
def zhl (Z : Nat → Int) : Nat → List Nat
  | 0 => []
  | n + 1 => (Z (800 + n)).toNat :: zhl Z n
theorem zhl_eq {Z Y : Nat → Int} : ∀ {n : Nat}, (∀ k : Nat, k < n → Y (800 + k) = Z (800 + k)) → zhl Y n = zhl Z n
  | 0, _ => rfl
  | n + 1, h => by
    show (Y (800 + n)).toNat :: zhl Y n = (Z (800 + n)).toNat :: zhl Z n
    rw [h n (by omega), zhl_eq (fun k hk => h k (by omega))]
def zHd (f : Int) (Z : Nat → Int) : Prop := zrn Z f.toNat ((Z 10).toNat - f.toNat) (zhl Z (Z 14).toNat)
section ZH
variable {f : Int} {Z Y : Nat → Int}
theorem zHd.fr (H : zHd f Z) (I : zInv f Z) (e10 : Y 10 = Z 10) (e14 : Y 14 = Z 14) (ek : ∀ k : Nat, (k : Int) < Z 10 → ∀ o : Nat, o = 300 ∨ o = 400 ∨ o = 500 ∨ o = 600 → Y (o + k) = Z (o + k)) (e8 : ∀ k : Nat, (k : Int) < Z 14 → Y (800 + k) = Z (800 + k)) : zHd f Y := by
  have B := I.b
  have f0 := I.1.1
  have f1 := I.1.2.1
  unfold zHd
  rw [e10, e14, zhl_eq (fun k hk => e8 k (by omega))]
  exact zrn_eq (fun k hk o ho => ek k (by omega) o ho) H
theorem zHd_leaf {c v : Int} (H : zHd f Z) (I : zInv f Z) (h6 : Z 6 < 64) (hc : c = 2 ∨ (33 ≤ c ∧ c ≤ 39)) : zHd f (zleaf Z c v) := by
  have B := I.b
  have f0 := I.1.1
  have f1 := I.1.2.1
  have e14 : zleaf Z c v 14 = Z 14 + 1 := by unfold zleaf; rw [zs_ne (by omega), zs_ne (by omega), zs_same]
  have e10 : zleaf Z c v 10 = Z 10 + 1 := by unfold zleaf; rw [zs_ne (by omega), zs_ne (by omega), zs_ne (by omega), zs_same]
  have e8 : zleaf Z c v (800 + (Z 14).toNat) = Z 10 := by
    unfold zleaf
    rw [zs_ne (by omega), zs_ne (by omega), zs_ne (by omega), zs_ne (by omega), zs_same]
  have e3 : zleaf Z c v (300 + (Z 10).toNat) = c := by
    unfold zleaf
    rw [zs_ne (by omega), zs_ne (by omega), zs_ne (by omega), zs_ne (by omega), zs_ne (by omega), zs_ne (by omega), zs_ne (by omega), zs_ne (by omega), zs_same]
  have e4 : zleaf Z c v (400 + (Z 10).toNat) = v := by
    unfold zleaf
    rw [zs_ne (by omega), zs_ne (by omega), zs_ne (by omega), zs_ne (by omega), zs_ne (by omega), zs_ne (by omega), zs_ne (by omega), zs_same]
  have e5 : zleaf Z c v (500 + (Z 10).toNat) = (if c = 2 then v else c - 33) := by
    unfold zleaf
    rw [zs_ne (by omega), zs_ne (by omega), zs_ne (by omega), zs_ne (by omega), zs_ne (by omega), zs_ne (by omega), zs_same]
  have o8 : ∀ k : Nat, k < (Z 14).toNat → zleaf Z c v (800 + k) = Z (800 + k) := fun k hk => by
    unfold zleaf
    rw [zs_ne (by omega), zs_ne (by omega), zs_ne (by omega), zs_ne (by omega), zs_ne (by omega), zs_ne (by omega), zs_ne (by omega), zs_ne (by omega), zs_ne (by omega)]
  have ok : ∀ k : Nat, (k : Int) < Z 10 → ∀ o : Nat, o = 300 ∨ o = 400 ∨ o = 500 ∨ o = 600 → zleaf Z c v (o + k) = Z (o + k) := fun k hk o ho => by
    unfold zleaf
    rw [zs_ne (by omega), zs_ne (by omega), zs_ne (by omega), zs_ne (by omega), zs_ne (by omega), zs_ne (by omega), zs_ne (by omega), zs_ne (by omega), zs_ne (by omega)]
  unfold zHd
  rw [e10, e14, show (Z 10 + 1).toNat - f.toNat = (Z 10).toNat - f.toNat + 1 by omega, show (Z 14 + 1).toNat = (Z 14).toNat + 1 by omega]
  refine ⟨zhl Z (Z 14).toNat, zrn_eq (fun k hk o ho => ok k (by omega) o ho) H, Or.inl ⟨?_, ?_⟩⟩
  · unfold zlf
    rw [show f.toNat + ((Z 10).toNat - f.toNat) = (Z 10).toNat by omega, e3, e4, e5]
    rcases hc with hc | hc
    · exact Or.inl ⟨hc, (if_pos hc).symm⟩
    · exact Or.inr ⟨hc.1, hc.2, if_neg (by omega)⟩
  · show (zleaf Z c v (800 + (Z 14).toNat)).toNat :: zhl (zleaf Z c v) (Z 14).toNat = _
    rw [e8, zhl_eq o8, show f.toNat + ((Z 10).toNat - f.toNat) = (Z 10).toNat by omega]
theorem zHd_b1 (H : zHd f Z) (I : zInv f Z) (h13 : Z 13 = 0) (h11 : 0 < Z 11) (ht : ztop Z ≠ 5) : zHd f (zb1 Z) := by
  have C := zb1_i I h13 h11 ht
  have B := I.b
  have f0 := I.1.1
  have f1 := I.1.2.1
  have c2 := I.2.2.2
  have sg : zsn (ztop Z) := I.2.2.1 ((Z 11).toNat - 1) (by omega)
  have e14 := zb1_14 (Z := Z); have e10 := zb1_10 (Z := Z); have e8 := zb1_8 (Z := Z)
  obtain ⟨e3, -, e5, e6⟩ := zb1_3 (Z := Z) (by omega)
  have ok : ∀ k : Nat, (k : Int) < Z 10 → ∀ o : Nat, o = 300 ∨ o = 400 ∨ o = 500 ∨ o = 600 → zb1 Z (o + k) = Z (o + k) := fun k hk o ho => zb1_k (by omega) (by omega) (by omega) (by omega) (by omega) (by omega) (by omega)
  have o8 : ∀ k : Nat, k ≠ (Z 14).toNat - zbd (ztop Z) → zb1 Z (800 + k) = Z (800 + k) := fun k hk => zb1_o (by omega) (by omega)
  have ei : f.toNat + ((Z 10).toNat - f.toNat) = (Z 10).toNat := by omega
  unfold zHd at H ⊢
  rw [e10, e14, show (Z 10 + 1).toNat - f.toNat = (Z 10).toNat - f.toNat + 1 by omega]
  have H' := zrn_eq (Y := zb1 Z) (fun k hk o ho => ok k (by omega) o ho) H
  by_cases e : ztop Z = 32
  · have k2 : zbd (ztop Z) = 1 := if_pos e
    rw [k2] at e8 e5 o8 C ⊢
    obtain ⟨n, hn⟩ : ∃ n : Nat, (Z 14).toNat = n + 1 := ⟨(Z 14).toNat - 1, by omega⟩
    rw [hn, Nat.add_sub_cancel] at e8 e5 o8
    rw [hn] at H'
    have z := c2 n (by omega)
    refine ⟨_, H', Or.inr (Or.inl ⟨by rw [ei, e3]; exact e, (Z (800 + n)).toNat, zhl Z n, rfl, by rw [ei, e5]; omega, ?_⟩)⟩
    rw [show (Z 14 - ((1 : Nat) : Int) + 1).toNat = n + 1 by omega, ei]
    show (zb1 Z (800 + n)).toNat :: zhl (zb1 Z) n = _
    rw [e8, zhl_eq (fun k hk => o8 k (by omega))]
  · have k2 : zbd (ztop Z) = 2 := if_neg e
    rw [k2] at e8 e5 o8 C ⊢
    rw [if_neg e] at e6
    obtain ⟨n, hn⟩ : ∃ n : Nat, (Z 14).toNat = n + 1 + 1 := ⟨(Z 14).toNat - 2, by omega⟩
    rw [hn] at e8 e5 o8 e6 H'
    rw [show n + 1 + 1 - 2 = n by omega] at e8 e5 o8
    rw [Nat.add_sub_cancel] at e6
    have z := c2 n (by omega)
    have z2 := c2 (n + 1) (by omega)
    refine ⟨_, H', Or.inr (Or.inr ⟨?_, (Z (800 + n)).toNat, (Z (800 + (n + 1))).toNat, zhl Z n, rfl, by rw [ei, e5]; omega, by rw [ei, e6]; omega, ?_⟩)⟩
    · rw [ei, e3]
      unfold zsn at sg
      unfold zbo
      omega
    · rw [show (Z 14 - ((2 : Nat) : Int) + 1).toNat = n + 1 by omega, ei]
      show (zb1 Z (800 + n)).toNat :: zhl (zb1 Z) n = _
      rw [e8, zhl_eq (fun k hk => o8 k (by omega))]
theorem zHd_bind {lv : Int} (h0 : 0 ≤ lv) : ∀ (m : Nat) (Z : Nat → Int), zHd f Z → zInv f Z → Z 13 = 0 → Z 11 = m → zHd f (zbind lv m Z)
  | 0, Z, H, I, h13, hm => H
  | m + 1, Z, H, I, h13, hm => by
    by_cases e : lv < ztl Z
    · have eq : zbind lv (m + 1) Z = zbind lv m (zb1 Z) := if_pos e
      have h11 : 0 < Z 11 := by omega
      have ht : ztop Z ≠ 5 := fun z => by
        rw [ztl_top h11, z] at e
        have : lev 5 = 0 := by decide
        omega
      have C := zb1_i I h13 h11 ht
      have B := I.b
      rw [eq]
      exact zHd_bind h0 m (zb1 Z) (zHd_b1 H I h13 h11 ht) (zInv_b1 I h13 h11 ht) (by rw [zb1_o (by omega) (by omega)]; exact h13) (by rw [zb1_11]; omega)
    · have eq : zbind lv (m + 1) Z = Z := if_neg e
      rw [eq]
      exact H
theorem zHd_put {lv : Int} (h0 : 0 ≤ lv) (H : zHd f Z) (I : zInv f Z) (h13 : Z 13 = 0) : zHd f (zput lv Z) := by
  have B := I.b
  exact zHd_bind h0 (Z 11).toNat Z H I h13 (by omega)
theorem zHd_step {c v : Int} (H : zHd f Z) (I : zInv f Z) (hc : 0 ≤ c) (hc9 : c ≤ 39) (h : (zstep c v Z).1 = 0) : zHd f (zstep c v Z).2 := by
  have B := I.b
  have h13 := I.1.2.2.2.2.2.1
  unfold zstep at h ⊢
  split at h
  · rename_i d
    rw [if_pos d]
    split at h
    · rename_i e
      rw [if_pos e]
      split at h
      · cases h
      · rename_i e2
        rw [if_neg e2]
        dsimp only
        have o : ∀ {i : Nat}, i ≠ 11 → i ≠ 12 → i ≠ 700 + (Z 11).toNat → zpush (zs Z 12 (Z 12 + 1)) 5 i = Z i := fun h1 h2 h3 => by
          rw [zpush_h h1 (by rw [zs_ne (by omega)]; exact h3), zs_ne h2]
        exact H.fr I (o (by omega) (by omega) (by omega)) (o (by omega) (by omega) (by omega)) (fun k hk oo ho => o (by omega) (by omega) (by omega)) (fun k hk => o (by omega) (by omega) (by omega))
    · rename_i e
      rw [if_neg e]
      split at h
      · rename_i e2
        rw [if_pos e2]
        split at h
        · cases h
        · rename_i e3
          rw [if_neg e3]
          dsimp only
          have o : ∀ {i : Nat}, i ≠ 11 → i ≠ 6 → i ≠ 700 + (Z 11).toNat → zpush (zs Z 6 (Z 6 + 1)) 32 i = Z i := fun h1 h2 h3 => by
            rw [zpush_h h1 (by rw [zs_ne (by omega)]; exact h3), zs_ne h2]
          exact H.fr I (o (by omega) (by omega) (by omega)) (o (by omega) (by omega) (by omega)) (fun k hk oo ho => o (by omega) (by omega) (by omega)) (fun k hk => o (by omega) (by omega) (by omega))
      · rename_i e2
        rw [if_neg e2]
        split at h
        · cases h
        · rename_i e3
          rw [if_neg e3]
          split at h
          · cases h
          · rename_i e4
            rw [if_neg e4]
            split at h
            · cases h
            · rename_i e5
              rw [if_neg e5]
              dsimp only
              exact zHd_leaf H I (by omega) (by omega)
  · rename_i d
    rw [if_neg d]
    have d0 : Z 13 = 0 := by omega
    split at h
    · rename_i e
      rw [if_pos e]
      obtain ⟨r1, r2, r3, r4, r5, r6, r7, r8⟩ := zInv_put (lv := 0) (Int.le_refl 0) I d0
      dsimp only
      have o : ∀ {i : Nat}, i ≠ 11 → i ≠ 12 → zs (zs (zput 0 Z) 11 (zput 0 Z 11 - 1)) 12 (zput 0 Z 12 - 1) i = zput 0 Z i := fun h1 h2 => by rw [zs_ne h2, zs_ne h1]
      exact (zHd_put (Int.le_refl 0) H I d0).fr r1 (o (by omega) (by omega)) (o (by omega) (by omega)) (fun k hk oo ho => o (by omega) (by omega)) (fun k hk => o (by omega) (by omega))
    · rename_i e
      rw [if_neg e]
      split at h
      · cases h
      · rename_i e2
        rw [if_neg e2]
        split at h
        · cases h
        · rename_i e3
          rw [if_neg e3]
          split at h
          · cases h
          · rename_i e4
            rw [if_neg e4]
            dsimp only
            have lb := lev_b c
            have key : ∀ lv : Int, 0 ≤ lv → zHd f (zs (zpush (zs (zput lv Z) 6 (zput lv Z 6 + 1)) c) 13 1) := fun lv hl => by
              obtain ⟨r1, r2, r3, r4, r5, r6, r7, r8⟩ := zInv_put (lv := lv) hl I d0
              have RB := r1.b
              have o : ∀ {i : Nat}, i ≠ 11 → i ≠ 6 → i ≠ 13 → i ≠ 700 + (zput lv Z 11).toNat → zs (zpush (zs (zput lv Z) 6 (zput lv Z 6 + 1)) c) 13 1 i = zput lv Z i := fun h1 h2 h3 h4 => by
                rw [zs_ne h3, zpush_h h1 (by rw [zs_ne (by omega)]; exact h4), zs_ne h2]
              exact (zHd_put hl H I d0).fr r1 (o (by omega) (by omega) (by omega) (by omega)) (o (by omega) (by omega) (by omega) (by omega)) (fun k hk oo ho => o (by omega) (by omega) (by omega) (by omega)) (fun k hk => o (by omega) (by omega) (by omega) (by omega))
            by_cases e5 : lev c = 4
            · rw [if_pos e5]
              exact key 4 (by decide)
            · rw [if_neg e5]
              exact key (lev c - 1) (by omega)
theorem zHd_E {b : Nat → Int} {n : Nat} : ∀ (m : Nat) (Z : Nat → Int) (q : Nat), zHd f Z → zInv f Z → q ≤ n → (zE b n m Z q).1 = 0 → zrn (zE b n m Z q).2.2.1 f.toNat (((zE b n m Z q).2.2.1 10).toNat - f.toNat) [((zE b n m Z q).2.2.1 10).toNat - 1]
  | 0, Z, q, H, I, hq, h => absurd h (by show ¬ (1 : Int) = 0; decide)
  | m + 1, Z, q, H, I, hq, h => by
    by_cases e : Z 13 = 0 ∧ tkc b n q = 4 ∧ Z 12 = 0
    · obtain ⟨a1, a2, a3, a4, -⟩ := zE_inv (m + 1) Z q I hq h
      rw [zE_brk e] at a1 a4 ⊢
      have a1 : zput 0 Z 11 = 0 := a1
      have a4 : f < zput 0 Z 10 := a4
      obtain ⟨r1, r2, r3, r4, r5, r6, r7, r8⟩ := zInv_put (lv := 0) (Int.le_refl 0) I e.1
      have f0 := I.1.1
      have H2 := zHd_put (lv := 0) (Int.le_refl 0) H I e.1
      have b2 := r1.2.1.2.1
      rw [a1] at b2
      have z0 : zc zgb (zput 0 Z) (0 : Int).toNat = 0 := rfl
      have e14 : zput 0 Z 14 = 1 := by omega
      show zrn (zput 0 Z) f.toNat ((zput 0 Z 10).toNat - f.toNat) [(zput 0 Z 10).toNat - 1]
      unfold zHd at H2
      rw [e14] at H2
      have H2 : zrn (zput 0 Z) f.toNat ((zput 0 Z 10).toNat - f.toNat) [(zput 0 Z 800).toNat] := H2
      obtain ⟨k, hk⟩ : ∃ k : Nat, (zput 0 Z 10).toNat - f.toNat = k + 1 := ⟨(zput 0 Z 10).toNat - f.toNat - 1, by omega⟩
      rw [hk] at H2 ⊢
      have e8 : (zput 0 Z 800).toNat = (zput 0 Z 10).toNat - 1 := by
        obtain ⟨l0, x, y⟩ := H2
        rcases y with ⟨-, y⟩ | ⟨-, a, t, -, -, y⟩ | ⟨-, a, c, t, -, -, -, y⟩
        · rw [(List.cons.inj y).1]; omega
        · rw [(List.cons.inj y).1]; omega
        · rw [(List.cons.inj y).1]; omega
      rw [e8] at H2
      exact H2
    · by_cases g : (zstep (tkc b n q) (tkv b n q) Z).1 = 0
      · rw [zE_go e g] at h ⊢
        have T := tkc_b b n q
        obtain ⟨J, -⟩ := zstep_inv I T.1 g
        have nb := nxt_b (b := b) hq
        exact zHd_E m _ (nxt b n q) (zHd_step H I T.1 T.2 g) J (by omega) h
      · rw [zE_bad e g] at h
        exact absurd h g
end ZH
/-- the laws that are told -/
def zLW (Z : Nat → Int) : Prop := ∀ w : Nat, w < 3 → Z (240 + w) < Z (250 + w) → 0 ≤ Z (240 + w) ∧ Z (250 + w) ≤ Z 10 ∧ zrn Z (Z (240 + w)).toNat ((Z (250 + w)).toNat - (Z (240 + w)).toNat) [(Z (250 + w)).toNat - 1]
theorem zLW_0 : zLW zZ0 := fun w hw h => by
  have e1 : zZ0 (240 + w) = 0 := if_neg (by omega)
  have e2 : zZ0 (250 + w) = 0 := if_neg (by omega)
  omega
theorem zLW.fr {Z Y : Nat → Int} (L : zLW Z) (g6 : zG Z) (e10 : Z 10 ≤ Y 10) (ew : ∀ w : Nat, w < 3 → Y (240 + w) = Z (240 + w) ∧ Y (250 + w) = Z (250 + w)) (ek : ∀ k : Nat, (k : Int) < Z 10 → ∀ o : Nat, o = 300 ∨ o = 400 ∨ o = 500 ∨ o = 600 → Y (o + k) = Z (o + k)) : zLW Y := fun w hw h => by
  obtain ⟨w1, w2⟩ := ew w hw
  rw [w1, w2] at h ⊢
  obtain ⟨a1, a2, a3⟩ := L w hw h
  exact ⟨a1, by omega, zrn_eq (fun k hk o ho => ek k (by omega) o ho) a3⟩
theorem zLW_keep {b : Nat → Int} {n : Nat} {Z : Nat → Int} {q : Nat} (hq : q ≤ n) (B : zcB Z) (g6 : zG Z) (L : zLW Z) (h : (sLn b n Z q).1 = 0) : zLW (sLn b n Z q).2.2.1 := by
  obtain ⟨B0, B1, B2, B3⟩ := id B
  have g1 := g6.1
  have g2 := g6.2.1
  have g3 := g6.2.2
  have n1 := nxt_b (b := b) hq
  have n2 := nxt_b (b := b) n1.2.1
  have T := tkc_b b n q
  have sm : ∀ {Y : Nat → Int}, (∀ i : Nat, i = 10 ∨ (240 ≤ i ∧ i < 260) ∨ (300 ≤ i ∧ i < 700) → Y i = Z i) → zLW Y := fun e => L.fr g6 (by rw [e 10 (by omega)]; exact Int.le_refl _) (fun w hw => ⟨e _ (by omega), e _ (by omega)⟩) (fun k hk o ho => e _ (by omega))
  rcases (by omega : tkc b n q = 20 ∨ tkc b n q = 21 ∨ tkc b n q = 22 ∨ tkc b n q = 23 ∨ tkc b n q = 24 ∨ tkc b n q = 25 ∨ ¬ (20 ≤ tkc b n q ∧ tkc b n q ≤ 25)) with e | e | e | e | e | e | e
  · rw [sLn_20 e]
    have o := (zRg_v b n Z q).2.2.2.2.2
    exact sm (Y := zRg b n Z q) (fun i hi => o i (by omega) (by omega) (by omega) (by omega) (by omega))
  · rw [sLn_21 e]
    have o := (zJn_v b n Z q).2.2.2.2
    exact sm (Y := zJn b n Z q) (fun i hi => o i (by omega) (by omega) (by omega) (by omega))
  · rw [sLn_22 e]
    have o := (zPn_v b n Z q).2.2.2.2.2
    exact sm (Y := zPn b n Z q) (fun i hi => o i (by omega) (by omega) (by omega) (by omega) (by omega))
  · rw [sLn_23 e]
    have o := (zDb_v b n Z q).2.2.2.2
    exact sm (Y := zDb b n Z q) (fun i hi => o i (by omega) (by omega) (by omega) (by omega))
  · rw [sLn_24 e] at h ⊢
    split at h
    · cases h
    · rename_i e1
      rw [if_neg e1]
      exact sm (Y := zs (zs Z 4 1) 5 (tkv b n (nxt b n q))) (fun i hi => (zs_ne (by omega)).trans (zs_ne (by omega)))
  · rw [sLn_25 e] at h ⊢
    by_cases e1 : tkc b n (nxt b n q) < 27 ∨ 29 < tkc b n (nxt b n q)
    · rw [sLw_1 e1] at h
      cases h
    · obtain ⟨w, hw⟩ : ∃ w, w = (tkc b n (nxt b n q) - 27).toNat := ⟨_, rfl⟩
      by_cases e2 : Z (240 + w) < Z (250 + w)
      · rw [sLw_3 e1 hw e2] at h
        cases h
      · rw [sLw_e e1 hw e2] at h ⊢
        have hw3 : w < 3 := by omega
        obtain ⟨l1, l2, l3, l4, l5, l6, l7⟩ := zl0_v Z w hw3
        have I0 := zl0_inv g6 hw3
        have H0 : zHd (Z 10) (zl0 Z w) := by
          unfold zHd
          rw [l4, l7 10 (by omega) (by omega) (by omega) (by omega) (by omega) (by omega), Nat.sub_self]
          rfl
        have h : (zE b n (n + 1) (zl0 Z w) (nxt b n (nxt b n q))).1 = 0 := h
        obtain ⟨i1, i2, i3, i4, i5, i6, i7, i8, i9, i10⟩ := zE_inv (n + 1) (zl0 Z w) (nxt b n (nxt b n q)) I0 n2.2.1 h
        have E := zHd_E (n + 1) (zl0 Z w) (nxt b n (nxt b n q)) H0 I0 n2.2.1 h
        show zLW (zs (zE b n (n + 1) (zl0 Z w) (nxt b n (nxt b n q))).2.2.1 (250 + w) ((zE b n (n + 1) (zl0 Z w) (nxt b n (nxt b n q))).2.2.1 10))
        rw [l7 10 (by omega) (by omega) (by omega) (by omega) (by omega) (by omega)] at i6 i7
        obtain ⟨X, hX⟩ : ∃ X, X = (zE b n (n + 1) (zl0 Z w) (nxt b n (nxt b n q))).2.2.1 := ⟨_, rfl⟩
        rw [← hX] at i1 i2 i3 i4 i5 i6 i7 E ⊢
        have o : ∀ {i : Nat}, i ≠ 250 + w → zs X (250 + w) (X 10) i = X i := fun hi => zs_ne hi
        intro v hv hlt
        by_cases ev : v = w
        · subst ev
          rw [o (by omega), zs_same, i5 (240 + v) (by omega) (by omega) (by omega), l5] at hlt ⊢
          rw [o (by omega)]
          refine ⟨g1, Int.le_refl _, ?_⟩
          exact zrn_eq (fun k hk oo ho => o (by omega)) E
        · rw [o (by omega), o (by omega), i5 (240 + v) (by omega) (by omega) (by omega), i5 (250 + v) (by omega) (by omega) (by omega), l7 (240 + v) (by omega) (by omega) (by omega) (by omega) (by omega) (by omega), l7 (250 + v) (by omega) (by omega) (by omega) (by omega) (by omega) (by omega)] at hlt ⊢
          rw [o (by omega)]
          obtain ⟨a1, a2, a3⟩ := L v hv hlt
          refine ⟨a1, by omega, zrn_eq (fun k hk oo ho => ?_) a3⟩
          rw [o (by omega), i7 k (by omega) oo ho, l7 (oo + k) (by omega) (by omega) (by omega) (by omega) (by omega) (by omega)]
  · rw [sLn_no e] at h
    cases h
