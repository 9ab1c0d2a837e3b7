/-! THE TEXTS OF BOTH: what they are, what keeps them. -/
/-- the text in force -/
def kTx (c : Nat) (Z : Nat → Int) (h : XH) : Prop := kC c Z h ∧ kF (c + 18) (c + 19) Z h ∧ kO (c + 15) (c + 16) (c + 17) Z h
theorem kTx.fr {c : Nat} {Z : Nat → Int} {h h' : XH} (a : kTx c Z h) (e : ∀ i k, c ≤ i → i ≤ c + 19 → xI h' i k = xI h i k) : kTx c Z h' := by
  obtain ⟨⟨a1, a2, a3⟩, a4, a5, a6, a7⟩ := a
  refine ⟨⟨fun i hi => ?_, ?_, fun j k hj hk => ?_⟩, fun w hw => ?_, ?_, ?_, fun k hk => ?_⟩
  · rw [e c _ (by omega) (by omega)]
    exact a1 i hi
  · rw [e c _ (by omega) (by omega)]
    exact a2
  · rw [e (c + 1 + j) _ (by omega) (by omega)]
    exact a3 j k hj hk
  · rw [e (c + 18) _ (by omega) (by omega), e (c + 19) _ (by omega) (by omega)]
    exact a4 w hw
  · rw [e (c + 15) _ (by omega) (by omega)]
    exact a5
  · rw [e (c + 15) _ (by omega) (by omega)]
    exact a6
  · rw [e (c + 16) _ (by omega) (by omega), e (c + 17) _ (by omega) (by omega)]
    exact a7 k hk
theorem jK.B {Z : Nat → Int} {h : XH} (i : sinv vT h) (z : jK Z h) : zcB Z ∧ 0 ≤ Z 10 ∧ Z 10 ≤ 64 := by
  have b0 : 0 ≤ (xI h 104 12).toInt ∧ (xI h 104 12).toInt ≤ 6 := vbnd i 104 12
  have b1 : 0 ≤ (xI h 104 13).toInt ∧ (xI h 104 13).toInt ≤ 9 := vbnd i 104 13
  have b2 : 0 ≤ (xI h 104 14).toInt ∧ (xI h 104 14).toInt ≤ 8 := vbnd i 104 14
  have b3 : 0 ≤ (xI h 104 15).toInt ∧ (xI h 104 15).toInt ≤ 6 := vbnd i 104 15
  have b4 : 0 ≤ (xI h 104 16).toInt ∧ (xI h 104 16).toInt ≤ 64 := vbnd i 104 16
  have e0 := z.1 0 (by decide)
  have e1 := z.1 1 (by decide)
  have e2 := z.1 2 (by decide)
  have e3 := z.1 3 (by decide)
  have e4 := z.2.2.2.2.1
  rw [e4] at b4
  have e0 : (xI h 104 12).toInt = Z 0 := e0
  have e1 : (xI h 104 13).toInt = Z 1 := e1
  have e2 : (xI h 104 14).toInt = Z 2 := e2
  have e3 : (xI h 104 15).toInt = Z 3 := e3
  rw [e0] at b0
  rw [e1] at b1
  rw [e2] at b2
  rw [e3] at b3
  exact ⟨⟨b0, b1, b2, b3⟩, b4⟩
theorem jK.fr {Z : Nat → Int} {h h' : XH} (i : sinv vT h) (z : jK Z h) (e4 : ∀ k, 12 ≤ k → k ≤ 16 → xI h' 104 k = xI h 104 k) (er : ∀ c k, 108 ≤ c → c ≤ 128 → k < jno c → xI h' c k = xI h c k) : jK Z h' := by
  obtain ⟨B, g0, g1⟩ := z.B i
  obtain ⟨a1, a2, a3, a4, a5, a6⟩ := z
  refine ⟨fun j hj => by rw [e4 _ (by omega) (by omega)]; exact a1 j hj, ?_, fun j k hj hk => ?_, fun w hw => ?_, by rw [e4 16 (by decide) (by decide)]; exact a5, fun k hk => ?_⟩
  · rw [er 108 0 (by decide) (by decide) (by decide)]
    exact a2
  · rw [er (109 + j) k (by omega) (by omega) (by rw [jof_no hj]; exact zkn_of B hj hk)]
    exact a3 j k hj hk
  · rw [er 123 w (by decide) (by decide) hw, er 124 w (by decide) (by decide) hw, er 125 w (by decide) (by decide) hw]
    exact a4 w hw
  · have k64 : k < 64 := by omega
    rw [er 126 k (by decide) (by decide) k64, er 127 k (by decide) (by decide) k64, er 128 k (by decide) (by decide) k64]
    exact a6 k hk
