/-! PAIRS: how soon one comes, from the first season on. -/
def vSw : List SCt := [vC_79, vC_183, vC_232]
theorem vw_0 : sckP vT vR vRC vECs vD vSw 10 265 261 vC_233 vH_233 vIt_233 6000 0 = true := by decide +kernel
theorem vw_1 : sckP vT vR vRC vECs vD vSw 10 265 261 vC_233 vH_233 vIt_233 6000 1 = true := by decide +kernel
theorem vw_2 : sckP vT vR vRC vECs vD vSw 10 265 261 vC_233 vH_233 vIt_233 6000 2 = true := by decide +kernel
theorem vw_3 : sckP vT vR vRC vECs vD vSw 10 265 261 vC_233 vH_233 vIt_233 6000 3 = true := by decide +kernel
theorem vw_4 : sckP vT vR vRC vECs vD vSw 10 265 261 vC_233 vH_233 vIt_233 6000 4 = true := by decide +kernel
theorem vw_5 : sckP vT vR vRC vECs vD vSw 10 265 261 vC_233 vH_233 vIt_233 6000 5 = true := by decide +kernel
theorem vw_6 : sckP vT vR vRC vECs vD vSw 10 265 261 vC_233 vH_233 vIt_233 6000 6 = true := by decide +kernel
theorem vw_7 : sckP vT vR vRC vECs vD vSw 10 265 261 vC_233 vH_233 vIt_233 6000 7 = true := by decide +kernel
theorem vSw_m (l : Launch) (hs : XH) : ∀ F ∈ vSw, scmP l vT vR (vEs hs) 153 6051 vD (fun _ _ => True) F := smemP1 (vp_79 l hs (fun _ _ => True)) (smemP1 (vp_183 l hs) (smemP1 (vp_232 l hs) smemP0))
theorem vSw_w : ∀ F ∈ vSw, swsub (cww F).1 (cww vC_233).1 = true ∧ ∀ c k, swiR (cww vC_233).2 c k = false → swiR (cww F).2 c k = false := fun F hF => by
  rcases List.mem_cons.mp hF with rfl | hF
  · exact ⟨by decide +kernel, fun _ _ _ => rfl⟩
  rcases List.mem_cons.mp hF with rfl | hF
  · exact ⟨by decide +kernel, fun _ _ _ => rfl⟩
  rcases List.mem_cons.mp hF with rfl | hF
  · exact ⟨by decide +kernel, fun _ _ _ => rfl⟩
  exact absurd hF List.not_mem_nil
theorem vw_all (l : Launch) (hs : XH) (ρa : Nat → Int) (h0 h02 : XH) : ∀ j, j < 8 → sicP l vT vR (vEs hs) 153 6051 10 265 261 vC_233 vD (fun _ _ => True) ρa h0 h02 vIt_233 j := by
  intro j
  induction j using Nat.strongRecOn with
  | ind j ih =>
    intro hj
    refine sckP_ok (RC := vRC) (EC := vECs) (CS := vSw) (HN := vH_233) (fu := 6000) (vtabs hs) (vSw_m l hs) vSw_w (by decide +kernel) (fun i hi => ih i hi (Nat.lt_trans hi hj)) ?_
    match j, hj with
    | 0, _ => exact vw_0
    | 1, _ => exact vw_1
    | 2, _ => exact vw_2
    | 3, _ => exact vw_3
    | 4, _ => exact vw_4
    | 5, _ => exact vw_5
    | 6, _ => exact vw_6
    | 7, _ => exact vw_7
