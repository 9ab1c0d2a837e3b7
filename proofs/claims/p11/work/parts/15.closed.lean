/-! CONTRACTS OUT OF CLOSED RUNS. -/
theorem CX_ev {l : Launch} {full : Bool} {n fr lo K : Nat} {vs : List XV} {h : XH} {r : Nat × List XV × List XV × XH} (hW : xca.elem K = true) (hlen : xlen (xent (xmx K) vs) (xmx K) = true) (hs : xev full n fr lo [] false K 0 (xent (xmx K) vs) [] h = some r) : CX l fr lo full K vs h r.2.2.1 r.2.2.2 := by
  obtain ⟨⟨c1, c2⟩, c4⟩ := xev_kp n _ _ _ _ _ _ _ _ _ _ hs
  rcases c4 with c4 | ⟨c4, c5⟩
  · cases c4
  · have hlenK := xlen_eq hlen
    have hvl : r.2.2.1.length ≤ 1 := by
      obtain ⟨i', x1, x2, -, y1, y2⟩ := c4
      exact xend_len y2
    exact CX_of (xwK (List.elem_iff.mp hW)) c2 hvl hlenK c5 (fun {p e R s m args below meth c Q D cA base b Ls xs ads0} C' kend =>
      xev_ok n _ _ _ _ _ _ _ _ _ _ hs C' hlenK (Nat.le_refl _) (Nat.le_refl _) (kend _ _ c4 (c1.trans hlenK)))
