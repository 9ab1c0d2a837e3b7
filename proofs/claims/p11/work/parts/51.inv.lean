/-! WHAT EVERY HEAP KEEPS BESIDES. -/
/-- what was done, to whom, what was so ahead of it (Past) -/
def prel (x y z : Int32) : Prop := (x.toInt = 0 → -1 ≤ z.toInt ∧ z.toInt ≤ 2) ∧ (x.toInt = 1 → 0 ≤ z.toInt ∧ z.toInt ≤ 5) ∧ (x.toInt = 2 → y.toInt ≤ 5 ∧ 0 ≤ z.toInt ∧ z.toInt ≤ 9)
def vEp (h : XH) : Prop := ∀ k : Nat, k < 20 → prel (xI h 82 k) (xI h 83 k) (xI h 84 k)
/-- regions that stand in what can be undone, in the image: told once -/
def vz (h : XH) (x : Int32) : Prop := ∀ v : Nat, v < 6 → 1 ≤ v → x.toInt = v → 1 ≤ (xI h 110 v).toInt
def vEu (h : XH) : Prop := (∀ k : Nat, vz h (xI h 149 k) ∨ k % 22 < 8 ∨ 16 ≤ k % 22) ∧ (∀ p : Nat, p < 8 → vz h (xI h 150 (8 + p)))
/-- an expression's knots: between f and t, each made of earlier ones -/
def vkk (h : XH) (o : Nat) (f t : Int) : Prop := ∀ k : Nat, f ≤ k → (k : Int) < t → ((xI h 126 (o + k)).toInt = 1 → 0 ≤ (xI h 127 (o + k)).toInt ∧ (xI h 127 (o + k)).toInt ≤ 6) ∧ (2 ≤ (xI h 126 (o + k)).toInt → f ≤ (xI h 127 (o + k)).toInt ∧ (xI h 127 (o + k)).toInt < k) ∧ (3 ≤ (xI h 126 (o + k)).toInt → f ≤ (xI h 128 (o + k)).toInt ∧ (xI h 128 (o + k)).toInt < k)
def vks (h : XH) (o : Nat) (f t : Int) : Prop := f < t ∧ t ≤ 64 ∧ vkk h o f t
def vEk (h : XH) : Prop := ∀ w : Nat, w < 3 → (xI h 123 w).toInt = 1 → vks h 0 (xI h 124 w).toInt (xI h 125 w).toInt
/-- the joins of a realm: of two unlike ones, no two alike -/
def vjo (h : XH) (c a b : Nat) : Prop := ∀ k : Nat, (k : Int) < (xI h c 5).toInt → xI h a k ≠ xI h b k ∧ ∀ i : Nat, i < k → ¬ (xI h a i = xI h a k ∧ xI h b i = xI h b k) ∧ ¬ (xI h a i = xI h b k ∧ xI h b i = xI h a k)
def vEj (h : XH) : Prop := vjo h 3 8 9 ∧ vjo h 24 29 30
def vE (h : XH) : Prop := vEp h ∧ vEu h ∧ vEk h ∧ vEj h
section VE
variable {h h' : XH} (hf : ∀ c k, swin vEC c k = true → xI h' c k = xI h c k)
theorem vEp_fr (hf : ∀ c k, swin vEC c k = true → xI h' c k = xI h c k) (H : vEp h) : vEp h' := fun k hk => by
  rw [hf 82 k rfl, hf 83 k rfl, hf 84 k rfl]
  exact H k hk
theorem vz_fr (h1 : ∀ v, v < 6 → xI h' 110 v = xI h 110 v) {x : Int32} (H : vz h x) : vz h' x := fun v hv h0 e => by
  rw [h1 v hv]
  exact H v hv h0 e
theorem vEC110 {v : Nat} (hv : v < 6) : swin vEC 110 v = true := by
  revert v
  decide +kernel
theorem vEu_fr (hf : ∀ c k, swin vEC c k = true → xI h' c k = xI h c k) (H : vEu h) : vEu h' := by
  have h1 : ∀ v, v < 6 → xI h' 110 v = xI h 110 v := fun v hv => hf 110 v (vEC110 hv)
  refine ⟨fun k => ?_, fun p hp => ?_⟩
  · rw [hf 149 k rfl]
    exact (H.1 k).imp (vz_fr h1) id
  · rw [hf 150 _ rfl]
    exact vz_fr h1 (H.2 p hp)
theorem vks_fr {o : Nat} {f t : Int} (h1 : ∀ k, xI h' 126 k = xI h 126 k) (h2 : ∀ k, xI h' 127 k = xI h 127 k) (h3 : ∀ k, xI h' 128 k = xI h 128 k) (H : vks h o f t) : vks h' o f t := by
  refine ⟨H.1, H.2.1, fun k hk hl => ?_⟩
  rw [h1, h2, h3]
  exact H.2.2 k hk hl
theorem vEk_fr (hf : ∀ c k, swin vEC c k = true → xI h' c k = xI h c k) (H : vEk h) : vEk h' := fun w hw => by
  rw [hf 123 w rfl, hf 124 w rfl, hf 125 w rfl]
  exact fun e => vks_fr (fun k => hf 126 k rfl) (fun k => hf 127 k rfl) (fun k => hf 128 k rfl) (H w hw e)
theorem vjo_fr {c a b : Nat} (h1 : xI h' c 5 = xI h c 5) (h2 : ∀ k, xI h' a k = xI h a k) (h3 : ∀ k, xI h' b k = xI h b k) (H : vjo h c a b) : vjo h' c a b := fun k hk => by
  rw [h1] at hk
  rw [h2, h3]
  refine ⟨(H k hk).1, fun i hi => ?_⟩
  rw [h2, h3]
  exact (H k hk).2 i hi
theorem vEj_fr (hf : ∀ c k, swin vEC c k = true → xI h' c k = xI h c k) (H : vEj h) : vEj h' :=
  ⟨vjo_fr (hf 3 5 rfl) (fun k => hf 8 k rfl) (fun k => hf 9 k rfl) H.1, vjo_fr (hf 24 5 rfl) (fun k => hf 29 k rfl) (fun k => hf 30 k rfl) H.2⟩
end VE
theorem vE_fr (h h' : XH) (hf : ∀ c k, swin vEC c k = true → xI h' c k = xI h c k) (H : vE h) : vE h' := ⟨vEp_fr hf H.1, vEu_fr hf H.2.1, vEk_fr hf H.2.2.1, vEj_fr hf H.2.2.2⟩
theorem vtab : stab vT vR vE vRC vEC := ⟨vT_ok, vT_w, vR_c, vE_fr⟩
theorem smem0 {l : Launch} : ∀ D ∈ ([] : List SCt), scm l vT vR vE 153 6051 D := fun D hD => absurd hD List.not_mem_nil
theorem smem1 {l : Launch} {C : SCt} {CS : List SCt} (h : scm l vT vR vE 153 6051 C) (k : ∀ D ∈ CS, scm l vT vR vE 153 6051 D) : ∀ D ∈ C :: CS, scm l vT vR vE 153 6051 D := fun D hD => by
  rcases List.mem_cons.mp hD with rfl | hD
  · exact h
  · exact k D hD
