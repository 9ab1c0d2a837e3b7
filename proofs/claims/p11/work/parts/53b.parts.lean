/-! the invariant's pieces, each by the rows that it rests on -/
section VPieces
variable {h h' : XH}
theorem vEu_of (h1 : ∀ v, v < 6 → xI h' 110 v = xI h 110 v) (h2 : ∀ k, xI h' 149 k = xI h 149 k) (h3 : ∀ k, xI h' 150 k = xI h 150 k) (H : vEu h) : vEu h' := by
  refine ⟨fun k => ?_, fun p hp => ?_⟩
  · rw [h2]
    exact (H.1 k).imp (vz_fr h1) id
  · rw [h3]
    exact vz_fr h1 (H.2 p hp)
theorem vEk_of (h1 : ∀ c, 123 ≤ c → c ≤ 128 → ∀ k, xI h' c k = xI h c k) (H : vEk h) : vEk h' := fun w hw => by
  rw [h1 123 (by decide) (by decide), h1 124 (by decide) (by decide), h1 125 (by decide) (by decide)]
  exact fun e => vks_fr (h1 126 (by decide) (by decide)) (h1 127 (by decide) (by decide)) (h1 128 (by decide) (by decide)) (H w hw e)
theorem vEj_of (h1 : xI h' 3 5 = xI h 3 5) (h2 : xI h' 24 5 = xI h 24 5) (h3 : ∀ c, c = 8 ∨ c = 9 ∨ c = 29 ∨ c = 30 → ∀ k, xI h' c k = xI h c k) (H : vEj h) : vEj h' :=
  ⟨vjo_fr h1 (h3 8 (Or.inl rfl)) (h3 9 (Or.inr (Or.inl rfl))) H.1, vjo_fr h2 (h3 29 (Or.inr (Or.inr (Or.inl rfl)))) (h3 30 (Or.inr (Or.inr (Or.inr rfl)))) H.2⟩
theorem vEp_of (h1 : ∀ k, xI h' 82 k = xI h 82 k) (h2 : ∀ k, xI h' 83 k = xI h 83 k) (h3 : ∀ k, xI h' 84 k = xI h 84 k) (H : vEp h) : vEp h' := fun k hk => by
  rw [h1, h2, h3]
  exact H k hk
end VPieces
theorem vI_u {c : Nat} {q : SI} (h1 : vWr c = true) (h2 : vRow c = q) (k : Nat) : vI c k = q := by
  unfold vI
  rw [h1]
  exact h2
theorem stou_no {c k : Nat} {b : Bool} (h : vRC.all (fun q => !Nat.beq q.1 c) = true) : stou vRC (c, k, b) = false := by
  have hn : ∀ q ∈ vRC, Nat.beq q.1 c = false := fun q hq => by
    have := List.all_eq_true.mp h q hq
    simpa using this
  unfold stou
  cases b with
  | true =>
    refine List.any_eq_false.mpr fun q hq => ?_
    rw [hn q hq]
    simp
  | false =>
    refine List.any_eq_false.mpr fun q hq => ?_
    rw [hn q hq]
    simp
