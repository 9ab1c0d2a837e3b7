/-! THE MODEL READS A LINE, whole. -/
theorem sKw_ln {c v kd wh : Int} (h : sKw c v kd wh) : ((kd = 1 ∧ wh ≤ 5) ↔ (20 ≤ c ∧ c ≤ 25)) ∧ (20 ≤ c → c ≤ 25 → wh = c - 20) ∧ ((kd = 1 ∧ 7 ≤ wh ∧ wh ≤ 9) ↔ (27 ≤ c ∧ c ≤ 29)) ∧ (27 ≤ c → c ≤ 29 → wh = c - 20) := by
  unfold sKw sKo at h
  omega
/-- what a line and its ';' come to -/
def jL (b : Nat → Int) (n : Nat) (s : Int × Nat × (Nat → Int) × Nat) (v : Int32) (h : XH) : Prop := (s.1 = 0 ∧ tkc b n s.2.2.2 = 4 ∧ v = Int32.ofInt (1) ∧ jT b n (nxt b n s.2.2.2) h ∧ jZ s.2.2.1 h) ∨ (¬ s.1 = 0 ∧ v = Int32.ofInt (0) ∧ jB b n s.1 s.2.1 h) ∨ (s.1 = 0 ∧ ¬ tkc b n s.2.2.2 = 4 ∧ v = Int32.ofInt (0) ∧ jB b n 1 s.2.2.2 h)
/-- a law read: the pure end -/
theorem je_law {b : Nat → Int} {n q2 w : Nat} {Z : Nat → Int} {h h4 H : XH} (jz : jZ Z h) (B : zcB Z) (g6 : zG Z) (hw : w < 3) (hq2 : q2 ≤ n) (s0 : (zE b n (n + 1) (zl0 Z w) q2).1 = 0) (ao : jO (zE b n (n + 1) (zl0 Z w) q2).2.2.1 h4) (oc : ∀ c k, c = 107 ∨ c = 108 ∨ (109 ≤ c ∧ c ≤ 122) ∨ (c = 104 ∧ 17 ≤ k ∧ k ≤ 20) → xI H c k = xI h c k) (oo : ∀ c k, (c = 104 ∧ (k = 21 ∨ k = 49)) ∨ (126 ≤ c ∧ c ≤ 128) → xI H c k = xI h4 c k) (t3 : (xI H 123 (3 + w)).toInt = 1) (t4 : (xI H 124 (3 + w)).toInt = Z 10) (t5 : xI H 125 (3 + w) = xI h4 104 21) (o3 : ∀ k, k ≠ 3 + w → xI H 123 k = xI h 123 k ∧ xI H 124 k = xI h 124 k ∧ xI H 125 k = xI h 125 k) : jZ (zs (zE b n (n + 1) (zl0 Z w) q2).2.2.1 (250 + w) ((zE b n (n + 1) (zl0 Z w) q2).2.2.1 10)) H := by
  obtain ⟨a, af, -, a4⟩ := jz
  obtain ⟨v1, v2, v3, v4, v5, v6, v7⟩ := zl0_v Z w hw
  obtain ⟨i1, i2, i3, i4, i5, i6, i7, i8, i9, i10⟩ := zE_inv (n + 1) (zl0 Z w) q2 (zl0_inv g6 hw) hq2 s0
  have j : ∀ i, i < 300 → i ≠ 6 → ¬ (10 ≤ i ∧ i ≤ 14) → i ≠ 240 + w → i ≠ 250 + w → (zE b n (n + 1) (zl0 Z w) q2).2.2.1 i = Z i := fun i b1 b2 b3 b4 b5 => (i5 i b1 b2 b3).trans (v7 i (by omega) (by omega) (by omega) (by omega) b4 b5)
  have i240 : (zE b n (n + 1) (zl0 Z w) q2).2.2.1 (240 + w) = Z 10 := (i5 _ (by omega) (by omega) (by omega)).trans v5
  refine ⟨?_, fun w1 hw1 => ?_, ?_, ?_⟩
  · exact a.fr B (fun i hi => by rw [zs_ne (by omega)]; exact j i (by omega) (by omega) (by omega) (by omega) (by omega)) (by rw [zs_ne (by omega)]; exact j 5 (by omega) (by omega) (by omega) (by omega) (by omega)) (fun i h1 h2 => by rw [zs_ne (by omega)]; exact j i (by omega) (by omega) (by omega) (by omega) (by omega)) (fun i hi => oc 104 _ (by omega)) (oc 108 1 (by omega)) (fun i k hi => oc _ _ (by omega))
  · rw [zs_ne (show 240 + w1 ≠ 250 + w by omega)]
    by_cases e : w1 = w
    · rw [e, zs_same, i240, t3, if_pos i4]
      exact ⟨rfl, fun _ => ⟨t4, by rw [t5]; exact ao.1⟩⟩
    · rw [zs_ne (by omega), (o3 (3 + w1) (by omega)).1, (o3 (3 + w1) (by omega)).2.1, (o3 (3 + w1) (by omega)).2.2, j (240 + w1) (by omega) (by omega) (by omega) (by omega) (by omega), j (250 + w1) (by omega) (by omega) (by omega) (by omega) (by omega)]
      exact af w1 hw1
  · exact ao.fr (oo 104 21 (by omega)) (by rw [oo 104 49 (by omega), zs_ne (by omega)]; exact ao.2.1) (fun k => oo 126 k (by omega)) (fun k => oo 127 k (by omega)) (fun k => oo 128 k (by omega)) (zs_ne (by omega)) (fun k hk => ⟨zs_ne (by omega), zs_ne (by omega), zs_ne (by omega)⟩)
  · rw [oc 107 0 (by omega), zs_ne (by omega), j 4 (by omega) (by omega) (by omega) (by omega) (by omega)]
    exact a4
