/-! THE LAW'S BEGINNING: both objects are made, up to the loop's head. -/
def xh0 : XH := (fun _ _ => 0, fun _ _ => 0, fun _ _ => 0, fun _ => 0, 2, 0)
noncomputable def xpre : Option (Nat × List XV × List XV × XH) := xev false 2000 14 540 [23] true 288 0 [xf 50 1, xun, xun, xun, xun, xun, xun] [] xh0
theorem xpre_some : xpre.isSome = true := by decide +kernel
