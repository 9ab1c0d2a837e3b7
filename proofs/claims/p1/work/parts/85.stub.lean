/-- the course of the law's body, from its entry -/
theorem law_start (l : Launch) {L : Nat} {xs : Nat → Int32} (hL : L ≤ 6) : XB l L xs 14 540 false 289 157 6079 (fun rs _ => rs = [xi 1]) 0 [xf 50 1, xun, xun, xun, xun, xun, xun] [] xh0 := by
  sorry
