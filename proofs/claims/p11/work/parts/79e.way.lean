/-! PAIRS: a way. -/
set_option maxRecDepth 100000 in
set_option maxHeartbeats 2000000 in
theorem vp_way (l : Launch) (hs : XH) (a b u : Int32) (B_a : 0 ≤ a.toInt ∧ a.toInt ≤ 5) (B_b : 0 ≤ b.toInt ∧ b.toInt ≤ 5) (B_u : 0 ≤ u.toInt ∧ u.toInt ≤ 60) (h h2 : XH) (hg : sgood vT vR (vEs hs) 153 6051 h) (hg2 : sgood vT vR (vEs hs) 153 6051 h2) (ha : sAg vDo (fun _ _ => True) h h2) : ∃ v g g2, CX l 10 265 false 261 [xf 13 104, xi a, xi b, xi u] h [xi v] g ∧ CX l 10 265 false 261 [xf 13 104, xi a, xi b, xi u] h2 [xi v] g2 ∧ sgood vT vR (vEs hs) 153 6051 g ∧ sgood vT vR (vEs hs) 153 6051 g2 ∧ sframe (cww vC_233) h g ∧ sframe (cww vC_233) h2 g2 ∧ (-2 ≤ v.toInt ∧ v.toInt ≤ 60) := by
  obtain ⟨k, k2, t, t', H, ag⟩ := vp_wayP l hs a b u B_a B_u h h2 hg hg2 ha
  have it := vw_all l hs (fun n => match n with | 0 => a.toInt | 1 => b.toInt | 2 => u.toInt | _ => 0) h h2 7 (by decide) (fun n => match n with | 0 => a.toInt | 1 => b.toInt | 2 => u.toInt | _ => 0) (fun k hk => absurd (show k ∈ ([] : List Nat) from hk) List.not_mem_nil)
  obtain ⟨pcR, L', rs, g, g2, y1, y2, y3, y4, y5, ⟨p1, p2, cs, hcs, hc⟩, ⟨p3, p4, -⟩, -⟩ := it (fun n => match n with | 0 => a.toInt | 1 => b.toInt | 2 => u.toInt | _ => 0) (fun _ => 0) [xf 13 104, xi a, xi b, xi u, xi (Int32.ofInt (0)), xun, xun, xun] [] k k2 (fun _ _ => rfl) (fun _ _ => rfl) trivial rfl ⟨H.2.2.1, H.2.2.2.1⟩ ⟨H.1.2.1, H.2.1.2.1⟩ ⟨H.1.2.2.1, H.2.1.2.2.1⟩ ⟨vway_st a b u B_a B_b B_u H.1, vway_st a b u B_a B_b B_u H.2.1, ag⟩ (fun z hz => absurd (show z ∈ ([] : SGs) from hz) List.not_mem_nil)
  have c1 : CX l 10 265 false 261 [xf 13 104, xi a, xi b, xi u] h rs g := CX_ofT (by decide) rfl rfl y5 y3 y4 ⟨Nat.le_of_eq p1.2.2.2.1.symm, Nat.le_of_eq p1.2.2.2.2.symm⟩ (t.tr y1)
  have c2 : CX l 10 265 false 261 [xf 13 104, xi a, xi b, xi u] h2 rs g2 := CX_ofT (by decide) rfl rfl y5 y3 y4 ⟨Nat.le_of_eq p3.2.2.2.1.symm, Nat.le_of_eq p3.2.2.2.2.symm⟩ (t'.tr y2)
  rcases List.mem_cons.mp hcs with rfl | hcs
  · obtain ⟨v, rfl, kv⟩ := sres_i hc.2.2.1
    have kv : (0 : Int) ≤ v.toInt ∧ v.toInt ≤ 60 := kv
    exact ⟨v, g, g2, c1, c2, p1, p3, p2, p4, by omega⟩
  rcases List.mem_cons.mp hcs with rfl | hcs
  · obtain ⟨v, rfl, kv⟩ := sres_i hc.2.2.1
    have kv : (-2 : Int) ≤ v.toInt ∧ v.toInt ≤ -2 := kv
    exact ⟨v, g, g2, c1, c2, p1, p3, p2, p4, by omega⟩
  exact absurd hcs List.not_mem_nil
