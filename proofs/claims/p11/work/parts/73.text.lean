/-! A TEXT KEPT, A TEXT READ BY THE MODEL. -/
def sqe (a b : SQ) : Bool := (Nat.beq a.1 b.1 && Nat.beq a.2.1 b.2.1) && (decide (a.2.2.1 = b.2.2.1) && decide (a.2.2.2 = b.2.2.2))
theorem sqe_eq {a b : SQ} (h : sqe a b = true) : a = b := by
  obtain ⟨a1, a2, a3, a4⟩ := a
  obtain ⟨b1, b2, b3, b4⟩ := b
  unfold sqe at h
  simp only [Bool.and_eq_true] at h
  obtain ⟨⟨h1, h2⟩, h3, h4⟩ := h
  obtain rfl := Nat.eq_of_beq_eq_true h1
  obtain rfl := Nat.eq_of_beq_eq_true h2
  obtain rfl := of_decide_eq_true h3
  obtain rfl := of_decide_eq_true h4
  rfl
def sqs : List SQ → List SQ → Bool
  | [], [] => true
  | a :: l, b :: m => sqe a b && sqs l m
  | _, _ => false
theorem sqs_eq : ∀ {a b : List SQ}, sqs a b = true → a = b
  | [], [], _ => rfl
  | a :: l, b :: m, h => by
    have h : (sqe a b && sqs l m) = true := h
    rw [Bool.and_eq_true] at h
    rw [sqe_eq h.1, sqs_eq h.2]
/-- a relation by its guards and its end -/
def srin (gs : List SQ) (q : SQ) : Bool := vR.any (fun r => match r with
  | .inl r => sqs r.1 gs && sqe r.2 q
  | .inr _ => false)
theorem srin_ok {h : XH} (hr : srw vR [] h) {gs : List SQ} {q : SQ} (hi : srin gs q = true) (hg : ∀ g ∈ gs, sqin h g) : sqin h q := by
  obtain ⟨r, hm, hz⟩ := List.any_eq_true.mp hi
  cases r with
  | inr r => cases hz
  | inl r =>
    have hz : (sqs r.1 gs && sqe r.2 q) = true := hz
    rw [Bool.and_eq_true] at hz
    have := hr (.inl r) hm (by
      show (r.1.any (fun q => swin [] q.1 q.2.1) || swin [] r.2.1 r.2.2.1) = false
      rw [show (fun q : SQ => swin [] q.1 q.2.1) = (fun _ => false) from rfl]
      rw [List.any_eq_false.mpr (fun _ _ => by simp)]
      rfl)
    rw [← sqe_eq hz.2]
    exact this (by rw [sqs_eq hz.1]; exact hg)
/-- where a slot of relations comes from, when a text is kept -/
def vrs (c k : Nat) : Nat := bif Nat.beq c 104 then (bif Nat.beq k 12 then 17 else bif Nat.beq k 15 then 20 else k) else bif Nat.beq c 110 && Nat.blt k 6 then 6 + k else k
def vrq (q : SQ) : SQ := (q.1, vrs q.1 q.2.1, q.2.2)
def srkok : SRl → Bool
  | .inl r => (r.1.map vrq).any (fun g => sqe g (vrq r.2)) || (srin (r.1.map vrq) (vrq r.2) || vR.any (fun r0 => match r0 with
    | .inl r0 => sqs r0.1 (r.1.map vrq) && srin [r0.2] (vrq r.2)
    | .inr _ => false))
  | .inr r => Nat.beq (vrs r.1.1 r.1.2) r.1.2 && Nat.beq (vrs r.2.1 r.2.2) r.2.2
theorem srkok_all : vR.all srkok = true := by decide +kernel
theorem vRC_in {r : SRl} (h : srcin vRC r = true) : (match r with
  | .inl r => (∀ q ∈ r.1, swin vRC q.1 q.2.1 = true) ∧ swin vRC r.2.1 r.2.2.1 = true
  | .inr r => swin vRC r.1.1 r.1.2 = true ∧ swin vRC r.2.1 r.2.2 = true) := by
  cases r with
  | inl r =>
    unfold srcin at h
    simp only [Bool.and_eq_true, List.all_eq_true] at h
    exact h
  | inr r =>
    unfold srcin at h
    simp only [Bool.and_eq_true] at h
    exact h
theorem srw_kept {h h' : XH} (hr : srw vR [] h) (he : ∀ c k, swin vRC c k = true → xI h' c k = xI h c (vrs c k)) : srw vR [] h' := by
  intro r hm _
  have y := List.all_eq_true.mp srkok_all r hm
  have z := vRC_in (vR_c r hm)
  have emp : ∀ r : SRl, stch [] r = false := fun r => by
    cases r with
    | inl r =>
      show (r.1.any (fun q => swin [] q.1 q.2.1) || swin [] r.2.1 r.2.2.1) = false
      rw [show (fun q : SQ => swin [] q.1 q.2.1) = (fun _ => false) from rfl, List.any_eq_false.mpr (fun _ _ => by simp)]
      rfl
    | inr r => rfl
  cases r with
  | inr r =>
    have y : (Nat.beq (vrs r.1.1 r.1.2) r.1.2 && Nat.beq (vrs r.2.1 r.2.2) r.2.2) = true := y
    rw [Bool.and_eq_true] at y
    show (xI h' r.1.1 r.1.2).toInt ≤ (xI h' r.2.1 r.2.2).toInt
    rw [he _ _ z.1, he _ _ z.2, Nat.eq_of_beq_eq_true y.1, Nat.eq_of_beq_eq_true y.2]
    exact hr (.inr r) hm (emp _)
  | inl r =>
    intro hall
    have iq : ∀ q : SQ, swin vRC q.1 q.2.1 = true → (sqin h' q ↔ sqin h (vrq q)) := fun q hq => by
      unfold sqin vrq
      rw [he _ _ hq]
    have hg : ∀ g ∈ r.1.map vrq, sqin h g := fun g hg => by
      obtain ⟨q, hq, rfl⟩ := List.mem_map.mp hg
      exact (iq q (z.1 q hq)).mp (hall q hq)
    refine (iq r.2 z.2).mpr ?_
    have y : ((r.1.map vrq).any (fun g => sqe g (vrq r.2)) || (srin (r.1.map vrq) (vrq r.2) || vR.any (fun r0 => match r0 with
      | .inl r0 => sqs r0.1 (r.1.map vrq) && srin [r0.2] (vrq r.2)
      | .inr _ => false))) = true := y
    rw [Bool.or_eq_true, Bool.or_eq_true] at y
    rcases y with y | y | y
    · obtain ⟨g, hm', hz⟩ := List.any_eq_true.mp y
      rw [← sqe_eq hz]
      exact hg g hm'
    · exact srin_ok hr y hg
    · obtain ⟨r0, hm0, hz⟩ := List.any_eq_true.mp y
      cases r0 with
      | inr r0 => cases hz
      | inl r0 =>
        have hz : (sqs r0.1 (r.1.map vrq) && srin [r0.2] (vrq r.2)) = true := hz
        rw [Bool.and_eq_true] at hz
        refine srin_ok hr hz.2 (fun g hg' => ?_)
        rw [List.mem_singleton.mp hg']
        have := hr (.inl r0) hm0 (emp _)
        exact this (by rw [sqs_eq hz.1]; exact hg)
theorem vRC_k : vRC.all (fun q => !q.2.2 && ((!Nat.beq q.1 104 || (!Nat.beq q.2.1 13 && (!Nat.beq q.2.1 14 && !Nat.beq q.2.1 16))) && ((!Nat.beq q.1 117 || Nat.ble 8 q.2.1) && ((!Nat.beq q.1 110 || Nat.blt q.2.1 12) && (Nat.blt q.1 108 || (Nat.blt 128 q.1 || (Nat.beq q.1 110 || Nat.beq q.1 117))))))) = true := by decide +kernel
theorem vRC_s {c k : Nat} (h : swin vRC c k = true) : (c = 104 → k ≠ 13 ∧ k ≠ 14 ∧ k ≠ 16) ∧ (c = 117 → 8 ≤ k) ∧ (c < 108 ∨ 128 < c ∨ c = 110 ∨ c = 117) := by
  unfold swin at h
  obtain ⟨q, hq, hz⟩ := List.any_eq_true.mp h
  have y := List.all_eq_true.mp vRC_k q hq
  obtain ⟨q1, q2, q3⟩ := q
  simp only [Bool.and_eq_true, Bool.or_eq_true, Bool.not_eq_true'] at y hz
  obtain ⟨y0, y1, y2, y3, y4⟩ := y
  obtain ⟨z1, z2⟩ := hz
  obtain rfl := Nat.eq_of_beq_eq_true z1
  rw [y0] at z2
  rcases z2 with z2 | z2
  · cases z2
  obtain rfl := Nat.eq_of_beq_eq_true z2
  refine ⟨fun e => ?_, fun e => ?_, ?_⟩
  · subst e
    rcases y1 with y1 | ⟨a, b, d⟩
    · exact absurd y1 (by decide)
    · exact ⟨fun e => by rw [e] at a; exact absurd a (by decide), fun e => by rw [e] at b; exact absurd b (by decide), fun e => by rw [e] at d; exact absurd d (by decide)⟩
  · subst e
    rcases y2 with y2 | y2
    · exact absurd y2 (by decide)
    · exact Nat.le_of_ble_eq_true y2
  · rcases y4 with y | y | y | y
    · exact Or.inl (Nat.le_of_ble_eq_true y)
    · exact Or.inr (Or.inl (Nat.le_of_ble_eq_true y))
    · exact Or.inr (Or.inr (Or.inl (Nat.eq_of_beq_eq_true y)))
    · exact Or.inr (Or.inr (Or.inr (Nat.eq_of_beq_eq_true y)))
theorem vkept {h hK : XH} (hg : sgood vT vR vE 153 6051 h) (H : vLn h) (sK : sinv vT hK) (hN : xN hK = 153 ∧ xU hK = 6051) (k12 : xI hK 104 12 = xI h 104 17) (k15 : xI hK 104 15 = xI h 104 20) (ko : ∀ j, (j < 12 ∨ 16 < j) → xI hK 104 j = xI h 104 j) (kc : ∀ c, c ≠ 104 → (c < 108 ∨ 128 < c) → ∀ k, xI hK c k = xI h c k) (k110 : ∀ k, xI hK 110 k = if k < 6 then xI h 110 (6 + k) else xI h 110 k) (k117 : ∀ k, xI hK 117 k = if k < 8 then xI h 117 (8 + k) else xI h 117 k) (k123 : ∀ k, xI hK 123 k = if k < 3 then xI h 123 (3 + k) else xI h 123 k) (k124 : ∀ k, xI hK 124 k = if k < 3 then xI h 124 (3 + k) else xI h 124 k) (k125 : ∀ k, xI hK 125 k = if k < 3 then xI h 125 (3 + k) else xI h 125 k) (k126 : ∀ k, xI hK 126 k = if k < 64 then xI h 126 (64 + k) else xI h 126 k) (k127 : ∀ k, xI hK 127 k = if k < 64 then xI h 127 (64 + k) else xI h 127 k) (k128 : ∀ k, xI hK 128 k = if k < 64 then xI h 128 (64 + k) else xI h 128 k) : sgood vT vR vE 153 6051 hK ∧ ∀ p, p < 8 → vz hK (xI hK 117 p) := by
  have v110 : ∀ v, v < 6 → xI hK 110 v = xI h 110 (6 + v) := fun v hv => by rw [k110, if_pos hv]
  have s5 : ∀ v, v < 6 → 1 ≤ (xI h 110 v).toInt → 1 ≤ (xI h 110 (6 + v)).toInt := fun v hv hz => by
    have b := vbnd hg.1 110 v
    rw [vI_u rfl (rfl : vRow 110 = (0, 9))] at b
    have b : (xI h 110 v).toInt ≤ 9 := b.2
    have i : ∀ v, v < 6 → srin [(110, v, (1, 9))] (110, 6 + v, (1, 9)) = true := by decide +kernel
    exact (srin_ok hg.2.1 (i v hv) (fun g hg' => by rw [List.mem_singleton.mp hg']; exact ⟨hz, b⟩)).1
  have vzK : ∀ x, vz h x → vz hK x := fun x hx v v1 v2 e => by
    rw [v110 v v1]
    exact s5 v v1 (hx v v1 v2 e)
  refine ⟨⟨sK, srw_kept hg.2.1 (fun c k hck => ?_), ⟨?_, ?_, ?_, ?_⟩, hN⟩, fun p hp => ?_⟩
  · obtain ⟨c1, c2, c3⟩ := vRC_s hck
    by_cases e4 : c = 104
    · subst e4
      obtain ⟨d1, d2, d3⟩ := c1 rfl
      by_cases f1 : k = 12
      · subst f1
        exact k12
      by_cases f2 : k = 15
      · subst f2
        exact k15
      rw [ko k (by omega)]
      have : vrs 104 k = k := by
        unfold vrs
        rw [show Nat.beq 104 104 = true from rfl]
        show (bif Nat.beq k 12 then 17 else bif Nat.beq k 15 then 20 else k) = k
        rw [show Nat.beq k 12 = false from by cases hb : Nat.beq k 12 with | false => rfl | true => exact absurd (Nat.eq_of_beq_eq_true hb) f1, show Nat.beq k 15 = false from by cases hb : Nat.beq k 15 with | false => rfl | true => exact absurd (Nat.eq_of_beq_eq_true hb) f2]
        rfl
      rw [this]
    by_cases e0 : c = 110
    · subst e0
      have : vrs 110 k = if k < 6 then 6 + k else k := by
        unfold vrs
        rw [show Nat.beq 110 104 = false from rfl, show Nat.beq 110 110 = true from rfl]
        show (bif true && Nat.blt k 6 then 6 + k else k) = _
        by_cases f : k < 6
        · rw [if_pos f, show Nat.blt k 6 = true from Nat.ble_eq_true_of_le f]
          rfl
        · rw [if_neg f, show Nat.blt k 6 = false from by cases hb : Nat.blt k 6 with | false => rfl | true => exact absurd (Nat.le_of_ble_eq_true hb) f]
          rfl
      rw [this, k110]
      split <;> rfl
    have e5 : vrs c k = k := by
      unfold vrs
      rw [show Nat.beq c 104 = false from by cases hb : Nat.beq c 104 with | false => rfl | true => exact absurd (Nat.eq_of_beq_eq_true hb) e4, show Nat.beq c 110 = false from by cases hb : Nat.beq c 110 with | false => rfl | true => exact absurd (Nat.eq_of_beq_eq_true hb) e0]
      rfl
    rw [e5]
    by_cases e7 : c = 117
    · subst e7
      rw [k117, if_neg (by have := c2 rfl; omega)]
    · exact kc c e4 (by omega) k
  · exact vEp_of (kc _ (by decide) (by decide)) (kc _ (by decide) (by decide)) (kc _ (by decide) (by decide)) hg.2.2.1.1
  · refine ⟨fun k => ?_, fun p hp => ?_⟩
    · rw [kc 149 (by decide) (by decide)]
      exact (hg.2.2.1.2.1.1 k).imp (vzK _) id
    · rw [kc 150 (by decide) (by decide)]
      exact vzK _ (hg.2.2.1.2.1.2 p hp)
  · intro w hw
    rw [k123, if_pos hw, k124, if_pos hw, k125, if_pos hw]
    intro e
    obtain ⟨⟨a1, a2, a3⟩, -⟩ := H.1 (3 + w) (by omega) (by omega) e
    refine ⟨a1, a2, fun k y1 y2 => ?_⟩
    rw [Nat.zero_add, k126, if_pos (by omega), k127, if_pos (by omega), k128, if_pos (by omega)]
    exact a3 k y1 y2
  · exact vEj_of (kc _ (by decide) (by decide) _) (kc _ (by decide) (by decide) _) (fun c hc k => kc c (by omega) (by omega) k) hg.2.2.1.2.2.2
  · rw [k117, if_pos hp]
    intro v v1 v2 e
    rw [v110 v v1]
    have i : ∀ p : Nat, p < 8 → ∀ v : Nat, v < 6 → 1 ≤ v → srin [(117, 8 + p, ((v : Int), (v : Int)))] (110, 6 + v, (1, 9)) = true := by decide +kernel
    exact (srin_ok hg.2.1 (i p hp v v1 v2) (fun g hg' => by rw [List.mem_singleton.mp hg']; exact ⟨Int.le_of_eq e.symm, Int.le_of_eq e⟩)).1
set_option maxRecDepth 100000 in
set_option maxHeartbeats 2000000 in
theorem vh_keep (l : Launch) (h : XH) (hg : sgood vT vR vE 153 6051 h) (H : vLn h) : ∃ h', CX l 3 100 false 173 [xf 13 104] h [] h' ∧ vG ([(104, 12, false), (104, 13, false), (104, 14, false), (104, 15, false), (104, 16, false), (104, 63, false), (104, 64, false), (104, 72, false), (104, 73, false), (104, 76, false), (104, 78, false), (108, 0, true), (109, 0, true), (110, 0, true), (111, 0, true), (112, 0, true), (113, 0, true), (114, 0, true), (115, 0, true), (116, 0, true), (117, 0, true), (118, 0, true), (119, 0, true), (120, 0, true), (121, 0, true), (122, 0, true), (123, 0, true), (124, 0, true), (125, 0, true), (126, 0, true), (127, 0, true), (128, 0, true), (133, 0, true), (134, 0, true), (135, 0, true), (136, 0, true), (137, 0, true), (138, 0, true)], []) h h' := by
  have t1 : XT l 3 100 false 173 153 6051 0 [xf 13 104, xun] [] h 45 [xf 13 104, xun] [xi (Int32.ofInt (1)), xf 10002 (xR h 104 23)] (xsetI (xsetI (xsetI (xsetI (xsetI h 104 12 (xI h 104 17)) 104 13 (xI h 104 18)) 104 14 (xI h 104 19)) 104 15 (xI h 104 20)) 104 16 (xI h 104 21)) := XT_path (l := l) (fr := 3) (lo := 100) (full := false) (M := 173) (n := 153) (u := 6051) (pc := 0) (L := [xf 13 104, xun]) (st := []) (h := h) (inl := []) (n' := 120) (sp := [45]) (o := []) rfl rfl ⟨rfl, rfl, rfl⟩ rfl ⟨Nat.le_of_eq hg.2.2.2.1, Nat.le_of_eq hg.2.2.2.2⟩ ⟨trivial, (vnn hg.1 (rfl : vRf 104 23 = [108]) (by decide))⟩
  rw [vref hg.1 (rfl : vRf 104 23 = [108])] at t1
  have t2 : XT l 3 100 false 173 153 6051 45 [xf 13 104, xun] [xi (Int32.ofInt (1)), xf 10002 108] (xsetI (xsetI (xsetI (xsetI (xsetI h 104 12 (xI h 104 17)) 104 13 (xI h 104 18)) 104 14 (xI h 104 19)) 104 15 (xI h 104 20)) 104 16 (xI h 104 21)) 48 [xf 13 104, xun] [] (vcq (xsetI (xsetI (xsetI (xsetI (xsetI h 104 12 (xI h 104 17)) 104 13 (xI h 104 18)) 104 14 (xI h 104 19)) 104 15 (xI h 104 20)) 104 16 (xI h 104 21)) 108 1 1) := XT_call (l := l) (fr := 3) (lo := 100) (full := false) (M := 173) (n := 153) (u := 6051) (pc := 45) (L := [xf 13 104, xun]) (st := [xi (Int32.ofInt (1)), xf 10002 108]) (h := (xsetI (xsetI (xsetI (xsetI (xsetI h 104 12 (xI h 104 17)) 104 13 (xI h 104 18)) 104 14 (xI h 104 19)) 104 15 (xI h 104 20)) 104 16 (xI h 104 21))) (i := .invokestatic 174) (aux := 2) (nx := 48) (K := 174) (vs := [xf 10002 108, xi (Int32.ofInt (1))]) (rs := []) (rest := []) rfl rfl rfl rfl rfl rfl (vh_cp1 l 108 (xsetI (xsetI (xsetI (xsetI (xsetI h 104 12 (xI h 104 17)) 104 13 (xI h 104 18)) 104 14 (xI h 104 19)) 104 15 (xI h 104 20)) 104 16 (xI h 104 21)) ⟨trivial, trivial, trivial, hg.2.2.2.1, hg.2.2.2.2⟩) (by decide) (by decide) (Nat.le_of_ble_eq_true rfl) ⟨Nat.le_of_eq hg.2.2.2.1, Nat.le_of_eq hg.2.2.2.2⟩
  have t3 := t1.tr t2
  have t4 : XT l 3 100 false 173 153 6051 48 [xf 13 104, xun] [] (vcq (xsetI (xsetI (xsetI (xsetI (xsetI h 104 12 (xI h 104 17)) 104 13 (xI h 104 18)) 104 14 (xI h 104 19)) 104 15 (xI h 104 20)) 104 16 (xI h 104 21)) 108 1 1) 54 [xf 13 104, xun] [xi (Int32.ofInt (6)), xf 10012 (xR h 104 24)] (vcq (xsetI (xsetI (xsetI (xsetI (xsetI h 104 12 (xI h 104 17)) 104 13 (xI h 104 18)) 104 14 (xI h 104 19)) 104 15 (xI h 104 20)) 104 16 (xI h 104 21)) 108 1 1) := XT_path (l := l) (fr := 3) (lo := 100) (full := false) (M := 173) (n := 153) (u := 6051) (pc := 48) (L := [xf 13 104, xun]) (st := []) (h := (vcq (xsetI (xsetI (xsetI (xsetI (xsetI h 104 12 (xI h 104 17)) 104 13 (xI h 104 18)) 104 14 (xI h 104 19)) 104 15 (xI h 104 20)) 104 16 (xI h 104 21)) 108 1 1)) (inl := []) (n' := 120) (sp := [54]) (o := []) rfl rfl ⟨rfl, rfl, rfl⟩ rfl ⟨Nat.le_of_eq hg.2.2.2.1, Nat.le_of_eq hg.2.2.2.2⟩ ⟨trivial, (vnn hg.1 (rfl : vRf 104 24 = [109]) (by decide))⟩
  rw [vref hg.1 (rfl : vRf 104 24 = [109])] at t4
  have t5 := t3.tr t4
  have t6 : XT l 3 100 false 173 153 6051 54 [xf 13 104, xun] [xi (Int32.ofInt (6)), xf 10012 109] (vcq (xsetI (xsetI (xsetI (xsetI (xsetI h 104 12 (xI h 104 17)) 104 13 (xI h 104 18)) 104 14 (xI h 104 19)) 104 15 (xI h 104 20)) 104 16 (xI h 104 21)) 108 1 1) 57 [xf 13 104, xun] [] (vcq (vcq (xsetI (xsetI (xsetI (xsetI (xsetI h 104 12 (xI h 104 17)) 104 13 (xI h 104 18)) 104 14 (xI h 104 19)) 104 15 (xI h 104 20)) 104 16 (xI h 104 21)) 108 1 1) 109 6 6) := XT_call (l := l) (fr := 3) (lo := 100) (full := false) (M := 173) (n := 153) (u := 6051) (pc := 54) (L := [xf 13 104, xun]) (st := [xi (Int32.ofInt (6)), xf 10012 109]) (h := (vcq (xsetI (xsetI (xsetI (xsetI (xsetI h 104 12 (xI h 104 17)) 104 13 (xI h 104 18)) 104 14 (xI h 104 19)) 104 15 (xI h 104 20)) 104 16 (xI h 104 21)) 108 1 1)) (i := .invokestatic 174) (aux := 2) (nx := 57) (K := 174) (vs := [xf 10012 109, xi (Int32.ofInt (6))]) (rs := []) (rest := []) rfl rfl rfl rfl rfl rfl (vh_cp6 l 109 (vcq (xsetI (xsetI (xsetI (xsetI (xsetI h 104 12 (xI h 104 17)) 104 13 (xI h 104 18)) 104 14 (xI h 104 19)) 104 15 (xI h 104 20)) 104 16 (xI h 104 21)) 108 1 1) ⟨trivial, trivial, trivial, hg.2.2.2.1, hg.2.2.2.2⟩) (by decide) (by decide) (Nat.le_of_ble_eq_true rfl) ⟨Nat.le_of_eq hg.2.2.2.1, Nat.le_of_eq hg.2.2.2.2⟩
  have t7 := t5.tr t6
  have t8 : XT l 3 100 false 173 153 6051 57 [xf 13 104, xun] [] (vcq (vcq (xsetI (xsetI (xsetI (xsetI (xsetI h 104 12 (xI h 104 17)) 104 13 (xI h 104 18)) 104 14 (xI h 104 19)) 104 15 (xI h 104 20)) 104 16 (xI h 104 21)) 108 1 1) 109 6 6) 63 [xf 13 104, xun] [xi (Int32.ofInt (6)), xf 10012 (xR h 104 25)] (vcq (vcq (xsetI (xsetI (xsetI (xsetI (xsetI h 104 12 (xI h 104 17)) 104 13 (xI h 104 18)) 104 14 (xI h 104 19)) 104 15 (xI h 104 20)) 104 16 (xI h 104 21)) 108 1 1) 109 6 6) := XT_path (l := l) (fr := 3) (lo := 100) (full := false) (M := 173) (n := 153) (u := 6051) (pc := 57) (L := [xf 13 104, xun]) (st := []) (h := (vcq (vcq (xsetI (xsetI (xsetI (xsetI (xsetI h 104 12 (xI h 104 17)) 104 13 (xI h 104 18)) 104 14 (xI h 104 19)) 104 15 (xI h 104 20)) 104 16 (xI h 104 21)) 108 1 1) 109 6 6)) (inl := []) (n' := 120) (sp := [63]) (o := []) rfl rfl ⟨rfl, rfl, rfl⟩ rfl ⟨Nat.le_of_eq hg.2.2.2.1, Nat.le_of_eq hg.2.2.2.2⟩ ⟨trivial, (vnn hg.1 (rfl : vRf 104 25 = [110]) (by decide))⟩
  rw [vref hg.1 (rfl : vRf 104 25 = [110])] at t8
  have t9 := t7.tr t8
  have t10 : XT l 3 100 false 173 153 6051 63 [xf 13 104, xun] [xi (Int32.ofInt (6)), xf 10012 110] (vcq (vcq (xsetI (xsetI (xsetI (xsetI (xsetI h 104 12 (xI h 104 17)) 104 13 (xI h 104 18)) 104 14 (xI h 104 19)) 104 15 (xI h 104 20)) 104 16 (xI h 104 21)) 108 1 1) 109 6 6) 66 [xf 13 104, xun] [] (vcq (vcq (vcq (xsetI (xsetI (xsetI (xsetI (xsetI h 104 12 (xI h 104 17)) 104 13 (xI h 104 18)) 104 14 (xI h 104 19)) 104 15 (xI h 104 20)) 104 16 (xI h 104 21)) 108 1 1) 109 6 6) 110 6 6) := XT_call (l := l) (fr := 3) (lo := 100) (full := false) (M := 173) (n := 153) (u := 6051) (pc := 63) (L := [xf 13 104, xun]) (st := [xi (Int32.ofInt (6)), xf 10012 110]) (h := (vcq (vcq (xsetI (xsetI (xsetI (xsetI (xsetI h 104 12 (xI h 104 17)) 104 13 (xI h 104 18)) 104 14 (xI h 104 19)) 104 15 (xI h 104 20)) 104 16 (xI h 104 21)) 108 1 1) 109 6 6)) (i := .invokestatic 174) (aux := 2) (nx := 66) (K := 174) (vs := [xf 10012 110, xi (Int32.ofInt (6))]) (rs := []) (rest := []) rfl rfl rfl rfl rfl rfl (vh_cp6 l 110 (vcq (vcq (xsetI (xsetI (xsetI (xsetI (xsetI h 104 12 (xI h 104 17)) 104 13 (xI h 104 18)) 104 14 (xI h 104 19)) 104 15 (xI h 104 20)) 104 16 (xI h 104 21)) 108 1 1) 109 6 6) ⟨trivial, trivial, trivial, hg.2.2.2.1, hg.2.2.2.2⟩) (by decide) (by decide) (Nat.le_of_ble_eq_true rfl) ⟨Nat.le_of_eq hg.2.2.2.1, Nat.le_of_eq hg.2.2.2.2⟩
  have t11 := t9.tr t10
  have t12 : XT l 3 100 false 173 153 6051 66 [xf 13 104, xun] [] (vcq (vcq (vcq (xsetI (xsetI (xsetI (xsetI (xsetI h 104 12 (xI h 104 17)) 104 13 (xI h 104 18)) 104 14 (xI h 104 19)) 104 15 (xI h 104 20)) 104 16 (xI h 104 21)) 108 1 1) 109 6 6) 110 6 6) 72 [xf 13 104, xun] [xi (Int32.ofInt (6)), xf 10012 (xR h 104 26)] (vcq (vcq (vcq (xsetI (xsetI (xsetI (xsetI (xsetI h 104 12 (xI h 104 17)) 104 13 (xI h 104 18)) 104 14 (xI h 104 19)) 104 15 (xI h 104 20)) 104 16 (xI h 104 21)) 108 1 1) 109 6 6) 110 6 6) := XT_path (l := l) (fr := 3) (lo := 100) (full := false) (M := 173) (n := 153) (u := 6051) (pc := 66) (L := [xf 13 104, xun]) (st := []) (h := (vcq (vcq (vcq (xsetI (xsetI (xsetI (xsetI (xsetI h 104 12 (xI h 104 17)) 104 13 (xI h 104 18)) 104 14 (xI h 104 19)) 104 15 (xI h 104 20)) 104 16 (xI h 104 21)) 108 1 1) 109 6 6) 110 6 6)) (inl := []) (n' := 120) (sp := [72]) (o := []) rfl rfl ⟨rfl, rfl, rfl⟩ rfl ⟨Nat.le_of_eq hg.2.2.2.1, Nat.le_of_eq hg.2.2.2.2⟩ ⟨trivial, (vnn hg.1 (rfl : vRf 104 26 = [111]) (by decide))⟩
  rw [vref hg.1 (rfl : vRf 104 26 = [111])] at t12
  have t13 := t11.tr t12
  have t14 : XT l 3 100 false 173 153 6051 72 [xf 13 104, xun] [xi (Int32.ofInt (6)), xf 10012 111] (vcq (vcq (vcq (xsetI (xsetI (xsetI (xsetI (xsetI h 104 12 (xI h 104 17)) 104 13 (xI h 104 18)) 104 14 (xI h 104 19)) 104 15 (xI h 104 20)) 104 16 (xI h 104 21)) 108 1 1) 109 6 6) 110 6 6) 75 [xf 13 104, xun] [] (vcq (vcq (vcq (vcq (xsetI (xsetI (xsetI (xsetI (xsetI h 104 12 (xI h 104 17)) 104 13 (xI h 104 18)) 104 14 (xI h 104 19)) 104 15 (xI h 104 20)) 104 16 (xI h 104 21)) 108 1 1) 109 6 6) 110 6 6) 111 6 6) := XT_call (l := l) (fr := 3) (lo := 100) (full := false) (M := 173) (n := 153) (u := 6051) (pc := 72) (L := [xf 13 104, xun]) (st := [xi (Int32.ofInt (6)), xf 10012 111]) (h := (vcq (vcq (vcq (xsetI (xsetI (xsetI (xsetI (xsetI h 104 12 (xI h 104 17)) 104 13 (xI h 104 18)) 104 14 (xI h 104 19)) 104 15 (xI h 104 20)) 104 16 (xI h 104 21)) 108 1 1) 109 6 6) 110 6 6)) (i := .invokestatic 174) (aux := 2) (nx := 75) (K := 174) (vs := [xf 10012 111, xi (Int32.ofInt (6))]) (rs := []) (rest := []) rfl rfl rfl rfl rfl rfl (vh_cp6 l 111 (vcq (vcq (vcq (xsetI (xsetI (xsetI (xsetI (xsetI h 104 12 (xI h 104 17)) 104 13 (xI h 104 18)) 104 14 (xI h 104 19)) 104 15 (xI h 104 20)) 104 16 (xI h 104 21)) 108 1 1) 109 6 6) 110 6 6) ⟨trivial, trivial, trivial, hg.2.2.2.1, hg.2.2.2.2⟩) (by decide) (by decide) (Nat.le_of_ble_eq_true rfl) ⟨Nat.le_of_eq hg.2.2.2.1, Nat.le_of_eq hg.2.2.2.2⟩
  have t15 := t13.tr t14
  have t16 : XT l 3 100 false 173 153 6051 75 [xf 13 104, xun] [] (vcq (vcq (vcq (vcq (xsetI (xsetI (xsetI (xsetI (xsetI h 104 12 (xI h 104 17)) 104 13 (xI h 104 18)) 104 14 (xI h 104 19)) 104 15 (xI h 104 20)) 104 16 (xI h 104 21)) 108 1 1) 109 6 6) 110 6 6) 111 6 6) 81 [xf 13 104, xun] [xi (Int32.ofInt (6)), xf 10012 (xR h 104 27)] (vcq (vcq (vcq (vcq (xsetI (xsetI (xsetI (xsetI (xsetI h 104 12 (xI h 104 17)) 104 13 (xI h 104 18)) 104 14 (xI h 104 19)) 104 15 (xI h 104 20)) 104 16 (xI h 104 21)) 108 1 1) 109 6 6) 110 6 6) 111 6 6) := XT_path (l := l) (fr := 3) (lo := 100) (full := false) (M := 173) (n := 153) (u := 6051) (pc := 75) (L := [xf 13 104, xun]) (st := []) (h := (vcq (vcq (vcq (vcq (xsetI (xsetI (xsetI (xsetI (xsetI h 104 12 (xI h 104 17)) 104 13 (xI h 104 18)) 104 14 (xI h 104 19)) 104 15 (xI h 104 20)) 104 16 (xI h 104 21)) 108 1 1) 109 6 6) 110 6 6) 111 6 6)) (inl := []) (n' := 120) (sp := [81]) (o := []) rfl rfl ⟨rfl, rfl, rfl⟩ rfl ⟨Nat.le_of_eq hg.2.2.2.1, Nat.le_of_eq hg.2.2.2.2⟩ ⟨trivial, (vnn hg.1 (rfl : vRf 104 27 = [112]) (by decide))⟩
  rw [vref hg.1 (rfl : vRf 104 27 = [112])] at t16
  have t17 := t15.tr t16
  have t18 : XT l 3 100 false 173 153 6051 81 [xf 13 104, xun] [xi (Int32.ofInt (6)), xf 10012 112] (vcq (vcq (vcq (vcq (xsetI (xsetI (xsetI (xsetI (xsetI h 104 12 (xI h 104 17)) 104 13 (xI h 104 18)) 104 14 (xI h 104 19)) 104 15 (xI h 104 20)) 104 16 (xI h 104 21)) 108 1 1) 109 6 6) 110 6 6) 111 6 6) 84 [xf 13 104, xun] [] (vcq (vcq (vcq (vcq (vcq (xsetI (xsetI (xsetI (xsetI (xsetI h 104 12 (xI h 104 17)) 104 13 (xI h 104 18)) 104 14 (xI h 104 19)) 104 15 (xI h 104 20)) 104 16 (xI h 104 21)) 108 1 1) 109 6 6) 110 6 6) 111 6 6) 112 6 6) := XT_call (l := l) (fr := 3) (lo := 100) (full := false) (M := 173) (n := 153) (u := 6051) (pc := 81) (L := [xf 13 104, xun]) (st := [xi (Int32.ofInt (6)), xf 10012 112]) (h := (vcq (vcq (vcq (vcq (xsetI (xsetI (xsetI (xsetI (xsetI h 104 12 (xI h 104 17)) 104 13 (xI h 104 18)) 104 14 (xI h 104 19)) 104 15 (xI h 104 20)) 104 16 (xI h 104 21)) 108 1 1) 109 6 6) 110 6 6) 111 6 6)) (i := .invokestatic 174) (aux := 2) (nx := 84) (K := 174) (vs := [xf 10012 112, xi (Int32.ofInt (6))]) (rs := []) (rest := []) rfl rfl rfl rfl rfl rfl (vh_cp6 l 112 (vcq (vcq (vcq (vcq (xsetI (xsetI (xsetI (xsetI (xsetI h 104 12 (xI h 104 17)) 104 13 (xI h 104 18)) 104 14 (xI h 104 19)) 104 15 (xI h 104 20)) 104 16 (xI h 104 21)) 108 1 1) 109 6 6) 110 6 6) 111 6 6) ⟨trivial, trivial, trivial, hg.2.2.2.1, hg.2.2.2.2⟩) (by decide) (by decide) (Nat.le_of_ble_eq_true rfl) ⟨Nat.le_of_eq hg.2.2.2.1, Nat.le_of_eq hg.2.2.2.2⟩
  have t19 := t17.tr t18
  have t20 : XT l 3 100 false 173 153 6051 84 [xf 13 104, xun] [] (vcq (vcq (vcq (vcq (vcq (xsetI (xsetI (xsetI (xsetI (xsetI h 104 12 (xI h 104 17)) 104 13 (xI h 104 18)) 104 14 (xI h 104 19)) 104 15 (xI h 104 20)) 104 16 (xI h 104 21)) 108 1 1) 109 6 6) 110 6 6) 111 6 6) 112 6 6) 90 [xf 13 104, xun] [xi (Int32.ofInt (9)), xf 10018 (xR h 104 28)] (vcq (vcq (vcq (vcq (vcq (xsetI (xsetI (xsetI (xsetI (xsetI h 104 12 (xI h 104 17)) 104 13 (xI h 104 18)) 104 14 (xI h 104 19)) 104 15 (xI h 104 20)) 104 16 (xI h 104 21)) 108 1 1) 109 6 6) 110 6 6) 111 6 6) 112 6 6) := XT_path (l := l) (fr := 3) (lo := 100) (full := false) (M := 173) (n := 153) (u := 6051) (pc := 84) (L := [xf 13 104, xun]) (st := []) (h := (vcq (vcq (vcq (vcq (vcq (xsetI (xsetI (xsetI (xsetI (xsetI h 104 12 (xI h 104 17)) 104 13 (xI h 104 18)) 104 14 (xI h 104 19)) 104 15 (xI h 104 20)) 104 16 (xI h 104 21)) 108 1 1) 109 6 6) 110 6 6) 111 6 6) 112 6 6)) (inl := []) (n' := 120) (sp := [90]) (o := []) rfl rfl ⟨rfl, rfl, rfl⟩ rfl ⟨Nat.le_of_eq hg.2.2.2.1, Nat.le_of_eq hg.2.2.2.2⟩ ⟨trivial, (vnn hg.1 (rfl : vRf 104 28 = [113]) (by decide))⟩
  rw [vref hg.1 (rfl : vRf 104 28 = [113])] at t20
  have t21 := t19.tr t20
  have t22 : XT l 3 100 false 173 153 6051 90 [xf 13 104, xun] [xi (Int32.ofInt (9)), xf 10018 113] (vcq (vcq (vcq (vcq (vcq (xsetI (xsetI (xsetI (xsetI (xsetI h 104 12 (xI h 104 17)) 104 13 (xI h 104 18)) 104 14 (xI h 104 19)) 104 15 (xI h 104 20)) 104 16 (xI h 104 21)) 108 1 1) 109 6 6) 110 6 6) 111 6 6) 112 6 6) 93 [xf 13 104, xun] [] (vcq (vcq (vcq (vcq (vcq (vcq (xsetI (xsetI (xsetI (xsetI (xsetI h 104 12 (xI h 104 17)) 104 13 (xI h 104 18)) 104 14 (xI h 104 19)) 104 15 (xI h 104 20)) 104 16 (xI h 104 21)) 108 1 1) 109 6 6) 110 6 6) 111 6 6) 112 6 6) 113 9 9) := XT_call (l := l) (fr := 3) (lo := 100) (full := false) (M := 173) (n := 153) (u := 6051) (pc := 90) (L := [xf 13 104, xun]) (st := [xi (Int32.ofInt (9)), xf 10018 113]) (h := (vcq (vcq (vcq (vcq (vcq (xsetI (xsetI (xsetI (xsetI (xsetI h 104 12 (xI h 104 17)) 104 13 (xI h 104 18)) 104 14 (xI h 104 19)) 104 15 (xI h 104 20)) 104 16 (xI h 104 21)) 108 1 1) 109 6 6) 110 6 6) 111 6 6) 112 6 6)) (i := .invokestatic 174) (aux := 2) (nx := 93) (K := 174) (vs := [xf 10018 113, xi (Int32.ofInt (9))]) (rs := []) (rest := []) rfl rfl rfl rfl rfl rfl (vh_cp9 l 113 (vcq (vcq (vcq (vcq (vcq (xsetI (xsetI (xsetI (xsetI (xsetI h 104 12 (xI h 104 17)) 104 13 (xI h 104 18)) 104 14 (xI h 104 19)) 104 15 (xI h 104 20)) 104 16 (xI h 104 21)) 108 1 1) 109 6 6) 110 6 6) 111 6 6) 112 6 6) ⟨trivial, trivial, trivial, hg.2.2.2.1, hg.2.2.2.2⟩) (by decide) (by decide) (Nat.le_of_ble_eq_true rfl) ⟨Nat.le_of_eq hg.2.2.2.1, Nat.le_of_eq hg.2.2.2.2⟩
  have t23 := t21.tr t22
  have t24 : XT l 3 100 false 173 153 6051 93 [xf 13 104, xun] [] (vcq (vcq (vcq (vcq (vcq (vcq (xsetI (xsetI (xsetI (xsetI (xsetI h 104 12 (xI h 104 17)) 104 13 (xI h 104 18)) 104 14 (xI h 104 19)) 104 15 (xI h 104 20)) 104 16 (xI h 104 21)) 108 1 1) 109 6 6) 110 6 6) 111 6 6) 112 6 6) 113 9 9) 99 [xf 13 104, xun] [xi (Int32.ofInt (9)), xf 10018 (xR h 104 29)] (vcq (vcq (vcq (vcq (vcq (vcq (xsetI (xsetI (xsetI (xsetI (xsetI h 104 12 (xI h 104 17)) 104 13 (xI h 104 18)) 104 14 (xI h 104 19)) 104 15 (xI h 104 20)) 104 16 (xI h 104 21)) 108 1 1) 109 6 6) 110 6 6) 111 6 6) 112 6 6) 113 9 9) := XT_path (l := l) (fr := 3) (lo := 100) (full := false) (M := 173) (n := 153) (u := 6051) (pc := 93) (L := [xf 13 104, xun]) (st := []) (h := (vcq (vcq (vcq (vcq (vcq (vcq (xsetI (xsetI (xsetI (xsetI (xsetI h 104 12 (xI h 104 17)) 104 13 (xI h 104 18)) 104 14 (xI h 104 19)) 104 15 (xI h 104 20)) 104 16 (xI h 104 21)) 108 1 1) 109 6 6) 110 6 6) 111 6 6) 112 6 6) 113 9 9)) (inl := []) (n' := 120) (sp := [99]) (o := []) rfl rfl ⟨rfl, rfl, rfl⟩ rfl ⟨Nat.le_of_eq hg.2.2.2.1, Nat.le_of_eq hg.2.2.2.2⟩ ⟨trivial, (vnn hg.1 (rfl : vRf 104 29 = [114]) (by decide))⟩
  rw [vref hg.1 (rfl : vRf 104 29 = [114])] at t24
  have t25 := t23.tr t24
  have t26 : XT l 3 100 false 173 153 6051 99 [xf 13 104, xun] [xi (Int32.ofInt (9)), xf 10018 114] (vcq (vcq (vcq (vcq (vcq (vcq (xsetI (xsetI (xsetI (xsetI (xsetI h 104 12 (xI h 104 17)) 104 13 (xI h 104 18)) 104 14 (xI h 104 19)) 104 15 (xI h 104 20)) 104 16 (xI h 104 21)) 108 1 1) 109 6 6) 110 6 6) 111 6 6) 112 6 6) 113 9 9) 102 [xf 13 104, xun] [] (vcq (vcq (vcq (vcq (vcq (vcq (vcq (xsetI (xsetI (xsetI (xsetI (xsetI h 104 12 (xI h 104 17)) 104 13 (xI h 104 18)) 104 14 (xI h 104 19)) 104 15 (xI h 104 20)) 104 16 (xI h 104 21)) 108 1 1) 109 6 6) 110 6 6) 111 6 6) 112 6 6) 113 9 9) 114 9 9) := XT_call (l := l) (fr := 3) (lo := 100) (full := false) (M := 173) (n := 153) (u := 6051) (pc := 99) (L := [xf 13 104, xun]) (st := [xi (Int32.ofInt (9)), xf 10018 114]) (h := (vcq (vcq (vcq (vcq (vcq (vcq (xsetI (xsetI (xsetI (xsetI (xsetI h 104 12 (xI h 104 17)) 104 13 (xI h 104 18)) 104 14 (xI h 104 19)) 104 15 (xI h 104 20)) 104 16 (xI h 104 21)) 108 1 1) 109 6 6) 110 6 6) 111 6 6) 112 6 6) 113 9 9)) (i := .invokestatic 174) (aux := 2) (nx := 102) (K := 174) (vs := [xf 10018 114, xi (Int32.ofInt (9))]) (rs := []) (rest := []) rfl rfl rfl rfl rfl rfl (vh_cp9 l 114 (vcq (vcq (vcq (vcq (vcq (vcq (xsetI (xsetI (xsetI (xsetI (xsetI h 104 12 (xI h 104 17)) 104 13 (xI h 104 18)) 104 14 (xI h 104 19)) 104 15 (xI h 104 20)) 104 16 (xI h 104 21)) 108 1 1) 109 6 6) 110 6 6) 111 6 6) 112 6 6) 113 9 9) ⟨trivial, trivial, trivial, hg.2.2.2.1, hg.2.2.2.2⟩) (by decide) (by decide) (Nat.le_of_ble_eq_true rfl) ⟨Nat.le_of_eq hg.2.2.2.1, Nat.le_of_eq hg.2.2.2.2⟩
  have t27 := t25.tr t26
  have t28 : XT l 3 100 false 173 153 6051 102 [xf 13 104, xun] [] (vcq (vcq (vcq (vcq (vcq (vcq (vcq (xsetI (xsetI (xsetI (xsetI (xsetI h 104 12 (xI h 104 17)) 104 13 (xI h 104 18)) 104 14 (xI h 104 19)) 104 15 (xI h 104 20)) 104 16 (xI h 104 21)) 108 1 1) 109 6 6) 110 6 6) 111 6 6) 112 6 6) 113 9 9) 114 9 9) 108 [xf 13 104, xun] [xi (Int32.ofInt (9)), xf 10018 (xR h 104 30)] (vcq (vcq (vcq (vcq (vcq (vcq (vcq (xsetI (xsetI (xsetI (xsetI (xsetI h 104 12 (xI h 104 17)) 104 13 (xI h 104 18)) 104 14 (xI h 104 19)) 104 15 (xI h 104 20)) 104 16 (xI h 104 21)) 108 1 1) 109 6 6) 110 6 6) 111 6 6) 112 6 6) 113 9 9) 114 9 9) := XT_path (l := l) (fr := 3) (lo := 100) (full := false) (M := 173) (n := 153) (u := 6051) (pc := 102) (L := [xf 13 104, xun]) (st := []) (h := (vcq (vcq (vcq (vcq (vcq (vcq (vcq (xsetI (xsetI (xsetI (xsetI (xsetI h 104 12 (xI h 104 17)) 104 13 (xI h 104 18)) 104 14 (xI h 104 19)) 104 15 (xI h 104 20)) 104 16 (xI h 104 21)) 108 1 1) 109 6 6) 110 6 6) 111 6 6) 112 6 6) 113 9 9) 114 9 9)) (inl := []) (n' := 120) (sp := [108]) (o := []) rfl rfl ⟨rfl, rfl, rfl⟩ rfl ⟨Nat.le_of_eq hg.2.2.2.1, Nat.le_of_eq hg.2.2.2.2⟩ ⟨trivial, (vnn hg.1 (rfl : vRf 104 30 = [115]) (by decide))⟩
  rw [vref hg.1 (rfl : vRf 104 30 = [115])] at t28
  have t29 := t27.tr t28
  have t30 : XT l 3 100 false 173 153 6051 108 [xf 13 104, xun] [xi (Int32.ofInt (9)), xf 10018 115] (vcq (vcq (vcq (vcq (vcq (vcq (vcq (xsetI (xsetI (xsetI (xsetI (xsetI h 104 12 (xI h 104 17)) 104 13 (xI h 104 18)) 104 14 (xI h 104 19)) 104 15 (xI h 104 20)) 104 16 (xI h 104 21)) 108 1 1) 109 6 6) 110 6 6) 111 6 6) 112 6 6) 113 9 9) 114 9 9) 111 [xf 13 104, xun] [] (vcq (vcq (vcq (vcq (vcq (vcq (vcq (vcq (xsetI (xsetI (xsetI (xsetI (xsetI h 104 12 (xI h 104 17)) 104 13 (xI h 104 18)) 104 14 (xI h 104 19)) 104 15 (xI h 104 20)) 104 16 (xI h 104 21)) 108 1 1) 109 6 6) 110 6 6) 111 6 6) 112 6 6) 113 9 9) 114 9 9) 115 9 9) := XT_call (l := l) (fr := 3) (lo := 100) (full := false) (M := 173) (n := 153) (u := 6051) (pc := 108) (L := [xf 13 104, xun]) (st := [xi (Int32.ofInt (9)), xf 10018 115]) (h := (vcq (vcq (vcq (vcq (vcq (vcq (vcq (xsetI (xsetI (xsetI (xsetI (xsetI h 104 12 (xI h 104 17)) 104 13 (xI h 104 18)) 104 14 (xI h 104 19)) 104 15 (xI h 104 20)) 104 16 (xI h 104 21)) 108 1 1) 109 6 6) 110 6 6) 111 6 6) 112 6 6) 113 9 9) 114 9 9)) (i := .invokestatic 174) (aux := 2) (nx := 111) (K := 174) (vs := [xf 10018 115, xi (Int32.ofInt (9))]) (rs := []) (rest := []) rfl rfl rfl rfl rfl rfl (vh_cp9 l 115 (vcq (vcq (vcq (vcq (vcq (vcq (vcq (xsetI (xsetI (xsetI (xsetI (xsetI h 104 12 (xI h 104 17)) 104 13 (xI h 104 18)) 104 14 (xI h 104 19)) 104 15 (xI h 104 20)) 104 16 (xI h 104 21)) 108 1 1) 109 6 6) 110 6 6) 111 6 6) 112 6 6) 113 9 9) 114 9 9) ⟨trivial, trivial, trivial, hg.2.2.2.1, hg.2.2.2.2⟩) (by decide) (by decide) (Nat.le_of_ble_eq_true rfl) ⟨Nat.le_of_eq hg.2.2.2.1, Nat.le_of_eq hg.2.2.2.2⟩
  have t31 := t29.tr t30
  have t32 : XT l 3 100 false 173 153 6051 111 [xf 13 104, xun] [] (vcq (vcq (vcq (vcq (vcq (vcq (vcq (vcq (xsetI (xsetI (xsetI (xsetI (xsetI h 104 12 (xI h 104 17)) 104 13 (xI h 104 18)) 104 14 (xI h 104 19)) 104 15 (xI h 104 20)) 104 16 (xI h 104 21)) 108 1 1) 109 6 6) 110 6 6) 111 6 6) 112 6 6) 113 9 9) 114 9 9) 115 9 9) 117 [xf 13 104, xun] [xi (Int32.ofInt (8)), xf 10016 (xR h 104 31)] (vcq (vcq (vcq (vcq (vcq (vcq (vcq (vcq (xsetI (xsetI (xsetI (xsetI (xsetI h 104 12 (xI h 104 17)) 104 13 (xI h 104 18)) 104 14 (xI h 104 19)) 104 15 (xI h 104 20)) 104 16 (xI h 104 21)) 108 1 1) 109 6 6) 110 6 6) 111 6 6) 112 6 6) 113 9 9) 114 9 9) 115 9 9) := XT_path (l := l) (fr := 3) (lo := 100) (full := false) (M := 173) (n := 153) (u := 6051) (pc := 111) (L := [xf 13 104, xun]) (st := []) (h := (vcq (vcq (vcq (vcq (vcq (vcq (vcq (vcq (xsetI (xsetI (xsetI (xsetI (xsetI h 104 12 (xI h 104 17)) 104 13 (xI h 104 18)) 104 14 (xI h 104 19)) 104 15 (xI h 104 20)) 104 16 (xI h 104 21)) 108 1 1) 109 6 6) 110 6 6) 111 6 6) 112 6 6) 113 9 9) 114 9 9) 115 9 9)) (inl := []) (n' := 120) (sp := [117]) (o := []) rfl rfl ⟨rfl, rfl, rfl⟩ rfl ⟨Nat.le_of_eq hg.2.2.2.1, Nat.le_of_eq hg.2.2.2.2⟩ ⟨trivial, (vnn hg.1 (rfl : vRf 104 31 = [116]) (by decide))⟩
  rw [vref hg.1 (rfl : vRf 104 31 = [116])] at t32
  have t33 := t31.tr t32
  have t34 : XT l 3 100 false 173 153 6051 117 [xf 13 104, xun] [xi (Int32.ofInt (8)), xf 10016 116] (vcq (vcq (vcq (vcq (vcq (vcq (vcq (vcq (xsetI (xsetI (xsetI (xsetI (xsetI h 104 12 (xI h 104 17)) 104 13 (xI h 104 18)) 104 14 (xI h 104 19)) 104 15 (xI h 104 20)) 104 16 (xI h 104 21)) 108 1 1) 109 6 6) 110 6 6) 111 6 6) 112 6 6) 113 9 9) 114 9 9) 115 9 9) 120 [xf 13 104, xun] [] (vcq (vcq (vcq (vcq (vcq (vcq (vcq (vcq (vcq (xsetI (xsetI (xsetI (xsetI (xsetI h 104 12 (xI h 104 17)) 104 13 (xI h 104 18)) 104 14 (xI h 104 19)) 104 15 (xI h 104 20)) 104 16 (xI h 104 21)) 108 1 1) 109 6 6) 110 6 6) 111 6 6) 112 6 6) 113 9 9) 114 9 9) 115 9 9) 116 8 8) := XT_call (l := l) (fr := 3) (lo := 100) (full := false) (M := 173) (n := 153) (u := 6051) (pc := 117) (L := [xf 13 104, xun]) (st := [xi (Int32.ofInt (8)), xf 10016 116]) (h := (vcq (vcq (vcq (vcq (vcq (vcq (vcq (vcq (xsetI (xsetI (xsetI (xsetI (xsetI h 104 12 (xI h 104 17)) 104 13 (xI h 104 18)) 104 14 (xI h 104 19)) 104 15 (xI h 104 20)) 104 16 (xI h 104 21)) 108 1 1) 109 6 6) 110 6 6) 111 6 6) 112 6 6) 113 9 9) 114 9 9) 115 9 9)) (i := .invokestatic 174) (aux := 2) (nx := 120) (K := 174) (vs := [xf 10016 116, xi (Int32.ofInt (8))]) (rs := []) (rest := []) rfl rfl rfl rfl rfl rfl (vh_cp8 l 116 (vcq (vcq (vcq (vcq (vcq (vcq (vcq (vcq (xsetI (xsetI (xsetI (xsetI (xsetI h 104 12 (xI h 104 17)) 104 13 (xI h 104 18)) 104 14 (xI h 104 19)) 104 15 (xI h 104 20)) 104 16 (xI h 104 21)) 108 1 1) 109 6 6) 110 6 6) 111 6 6) 112 6 6) 113 9 9) 114 9 9) 115 9 9) ⟨trivial, trivial, trivial, hg.2.2.2.1, hg.2.2.2.2⟩) (by decide) (by decide) (Nat.le_of_ble_eq_true rfl) ⟨Nat.le_of_eq hg.2.2.2.1, Nat.le_of_eq hg.2.2.2.2⟩
  have t35 := t33.tr t34
  have t36 : XT l 3 100 false 173 153 6051 120 [xf 13 104, xun] [] (vcq (vcq (vcq (vcq (vcq (vcq (vcq (vcq (vcq (xsetI (xsetI (xsetI (xsetI (xsetI h 104 12 (xI h 104 17)) 104 13 (xI h 104 18)) 104 14 (xI h 104 19)) 104 15 (xI h 104 20)) 104 16 (xI h 104 21)) 108 1 1) 109 6 6) 110 6 6) 111 6 6) 112 6 6) 113 9 9) 114 9 9) 115 9 9) 116 8 8) 126 [xf 13 104, xun] [xi (Int32.ofInt (8)), xf 10016 (xR h 104 32)] (vcq (vcq (vcq (vcq (vcq (vcq (vcq (vcq (vcq (xsetI (xsetI (xsetI (xsetI (xsetI h 104 12 (xI h 104 17)) 104 13 (xI h 104 18)) 104 14 (xI h 104 19)) 104 15 (xI h 104 20)) 104 16 (xI h 104 21)) 108 1 1) 109 6 6) 110 6 6) 111 6 6) 112 6 6) 113 9 9) 114 9 9) 115 9 9) 116 8 8) := XT_path (l := l) (fr := 3) (lo := 100) (full := false) (M := 173) (n := 153) (u := 6051) (pc := 120) (L := [xf 13 104, xun]) (st := []) (h := (vcq (vcq (vcq (vcq (vcq (vcq (vcq (vcq (vcq (xsetI (xsetI (xsetI (xsetI (xsetI h 104 12 (xI h 104 17)) 104 13 (xI h 104 18)) 104 14 (xI h 104 19)) 104 15 (xI h 104 20)) 104 16 (xI h 104 21)) 108 1 1) 109 6 6) 110 6 6) 111 6 6) 112 6 6) 113 9 9) 114 9 9) 115 9 9) 116 8 8)) (inl := []) (n' := 120) (sp := [126]) (o := []) rfl rfl ⟨rfl, rfl, rfl⟩ rfl ⟨Nat.le_of_eq hg.2.2.2.1, Nat.le_of_eq hg.2.2.2.2⟩ ⟨trivial, (vnn hg.1 (rfl : vRf 104 32 = [117]) (by decide))⟩
  rw [vref hg.1 (rfl : vRf 104 32 = [117])] at t36
  have t37 := t35.tr t36
  have t38 : XT l 3 100 false 173 153 6051 126 [xf 13 104, xun] [xi (Int32.ofInt (8)), xf 10016 117] (vcq (vcq (vcq (vcq (vcq (vcq (vcq (vcq (vcq (xsetI (xsetI (xsetI (xsetI (xsetI h 104 12 (xI h 104 17)) 104 13 (xI h 104 18)) 104 14 (xI h 104 19)) 104 15 (xI h 104 20)) 104 16 (xI h 104 21)) 108 1 1) 109 6 6) 110 6 6) 111 6 6) 112 6 6) 113 9 9) 114 9 9) 115 9 9) 116 8 8) 129 [xf 13 104, xun] [] (vcq (vcq (vcq (vcq (vcq (vcq (vcq (vcq (vcq (vcq (xsetI (xsetI (xsetI (xsetI (xsetI h 104 12 (xI h 104 17)) 104 13 (xI h 104 18)) 104 14 (xI h 104 19)) 104 15 (xI h 104 20)) 104 16 (xI h 104 21)) 108 1 1) 109 6 6) 110 6 6) 111 6 6) 112 6 6) 113 9 9) 114 9 9) 115 9 9) 116 8 8) 117 8 8) := XT_call (l := l) (fr := 3) (lo := 100) (full := false) (M := 173) (n := 153) (u := 6051) (pc := 126) (L := [xf 13 104, xun]) (st := [xi (Int32.ofInt (8)), xf 10016 117]) (h := (vcq (vcq (vcq (vcq (vcq (vcq (vcq (vcq (vcq (xsetI (xsetI (xsetI (xsetI (xsetI h 104 12 (xI h 104 17)) 104 13 (xI h 104 18)) 104 14 (xI h 104 19)) 104 15 (xI h 104 20)) 104 16 (xI h 104 21)) 108 1 1) 109 6 6) 110 6 6) 111 6 6) 112 6 6) 113 9 9) 114 9 9) 115 9 9) 116 8 8)) (i := .invokestatic 174) (aux := 2) (nx := 129) (K := 174) (vs := [xf 10016 117, xi (Int32.ofInt (8))]) (rs := []) (rest := []) rfl rfl rfl rfl rfl rfl (vh_cp8 l 117 (vcq (vcq (vcq (vcq (vcq (vcq (vcq (vcq (vcq (xsetI (xsetI (xsetI (xsetI (xsetI h 104 12 (xI h 104 17)) 104 13 (xI h 104 18)) 104 14 (xI h 104 19)) 104 15 (xI h 104 20)) 104 16 (xI h 104 21)) 108 1 1) 109 6 6) 110 6 6) 111 6 6) 112 6 6) 113 9 9) 114 9 9) 115 9 9) 116 8 8) ⟨trivial, trivial, trivial, hg.2.2.2.1, hg.2.2.2.2⟩) (by decide) (by decide) (Nat.le_of_ble_eq_true rfl) ⟨Nat.le_of_eq hg.2.2.2.1, Nat.le_of_eq hg.2.2.2.2⟩
  have t39 := t37.tr t38
  have t40 : XT l 3 100 false 173 153 6051 129 [xf 13 104, xun] [] (vcq (vcq (vcq (vcq (vcq (vcq (vcq (vcq (vcq (vcq (xsetI (xsetI (xsetI (xsetI (xsetI h 104 12 (xI h 104 17)) 104 13 (xI h 104 18)) 104 14 (xI h 104 19)) 104 15 (xI h 104 20)) 104 16 (xI h 104 21)) 108 1 1) 109 6 6) 110 6 6) 111 6 6) 112 6 6) 113 9 9) 114 9 9) 115 9 9) 116 8 8) 117 8 8) 135 [xf 13 104, xun] [xi (Int32.ofInt (8)), xf 10016 (xR h 104 33)] (vcq (vcq (vcq (vcq (vcq (vcq (vcq (vcq (vcq (vcq (xsetI (xsetI (xsetI (xsetI (xsetI h 104 12 (xI h 104 17)) 104 13 (xI h 104 18)) 104 14 (xI h 104 19)) 104 15 (xI h 104 20)) 104 16 (xI h 104 21)) 108 1 1) 109 6 6) 110 6 6) 111 6 6) 112 6 6) 113 9 9) 114 9 9) 115 9 9) 116 8 8) 117 8 8) := XT_path (l := l) (fr := 3) (lo := 100) (full := false) (M := 173) (n := 153) (u := 6051) (pc := 129) (L := [xf 13 104, xun]) (st := []) (h := (vcq (vcq (vcq (vcq (vcq (vcq (vcq (vcq (vcq (vcq (xsetI (xsetI (xsetI (xsetI (xsetI h 104 12 (xI h 104 17)) 104 13 (xI h 104 18)) 104 14 (xI h 104 19)) 104 15 (xI h 104 20)) 104 16 (xI h 104 21)) 108 1 1) 109 6 6) 110 6 6) 111 6 6) 112 6 6) 113 9 9) 114 9 9) 115 9 9) 116 8 8) 117 8 8)) (inl := []) (n' := 120) (sp := [135]) (o := []) rfl rfl ⟨rfl, rfl, rfl⟩ rfl ⟨Nat.le_of_eq hg.2.2.2.1, Nat.le_of_eq hg.2.2.2.2⟩ ⟨trivial, (vnn hg.1 (rfl : vRf 104 33 = [118]) (by decide))⟩
  rw [vref hg.1 (rfl : vRf 104 33 = [118])] at t40
  have t41 := t39.tr t40
  have t42 : XT l 3 100 false 173 153 6051 135 [xf 13 104, xun] [xi (Int32.ofInt (8)), xf 10016 118] (vcq (vcq (vcq (vcq (vcq (vcq (vcq (vcq (vcq (vcq (xsetI (xsetI (xsetI (xsetI (xsetI h 104 12 (xI h 104 17)) 104 13 (xI h 104 18)) 104 14 (xI h 104 19)) 104 15 (xI h 104 20)) 104 16 (xI h 104 21)) 108 1 1) 109 6 6) 110 6 6) 111 6 6) 112 6 6) 113 9 9) 114 9 9) 115 9 9) 116 8 8) 117 8 8) 138 [xf 13 104, xun] [] (vcq (vcq (vcq (vcq (vcq (vcq (vcq (vcq (vcq (vcq (vcq (xsetI (xsetI (xsetI (xsetI (xsetI h 104 12 (xI h 104 17)) 104 13 (xI h 104 18)) 104 14 (xI h 104 19)) 104 15 (xI h 104 20)) 104 16 (xI h 104 21)) 108 1 1) 109 6 6) 110 6 6) 111 6 6) 112 6 6) 113 9 9) 114 9 9) 115 9 9) 116 8 8) 117 8 8) 118 8 8) := XT_call (l := l) (fr := 3) (lo := 100) (full := false) (M := 173) (n := 153) (u := 6051) (pc := 135) (L := [xf 13 104, xun]) (st := [xi (Int32.ofInt (8)), xf 10016 118]) (h := (vcq (vcq (vcq (vcq (vcq (vcq (vcq (vcq (vcq (vcq (xsetI (xsetI (xsetI (xsetI (xsetI h 104 12 (xI h 104 17)) 104 13 (xI h 104 18)) 104 14 (xI h 104 19)) 104 15 (xI h 104 20)) 104 16 (xI h 104 21)) 108 1 1) 109 6 6) 110 6 6) 111 6 6) 112 6 6) 113 9 9) 114 9 9) 115 9 9) 116 8 8) 117 8 8)) (i := .invokestatic 174) (aux := 2) (nx := 138) (K := 174) (vs := [xf 10016 118, xi (Int32.ofInt (8))]) (rs := []) (rest := []) rfl rfl rfl rfl rfl rfl (vh_cp8 l 118 (vcq (vcq (vcq (vcq (vcq (vcq (vcq (vcq (vcq (vcq (xsetI (xsetI (xsetI (xsetI (xsetI h 104 12 (xI h 104 17)) 104 13 (xI h 104 18)) 104 14 (xI h 104 19)) 104 15 (xI h 104 20)) 104 16 (xI h 104 21)) 108 1 1) 109 6 6) 110 6 6) 111 6 6) 112 6 6) 113 9 9) 114 9 9) 115 9 9) 116 8 8) 117 8 8) ⟨trivial, trivial, trivial, hg.2.2.2.1, hg.2.2.2.2⟩) (by decide) (by decide) (Nat.le_of_ble_eq_true rfl) ⟨Nat.le_of_eq hg.2.2.2.1, Nat.le_of_eq hg.2.2.2.2⟩
  have t43 := t41.tr t42
  have t44 : XT l 3 100 false 173 153 6051 138 [xf 13 104, xun] [] (vcq (vcq (vcq (vcq (vcq (vcq (vcq (vcq (vcq (vcq (vcq (xsetI (xsetI (xsetI (xsetI (xsetI h 104 12 (xI h 104 17)) 104 13 (xI h 104 18)) 104 14 (xI h 104 19)) 104 15 (xI h 104 20)) 104 16 (xI h 104 21)) 108 1 1) 109 6 6) 110 6 6) 111 6 6) 112 6 6) 113 9 9) 114 9 9) 115 9 9) 116 8 8) 117 8 8) 118 8 8) 144 [xf 13 104, xun] [xi (Int32.ofInt (8)), xf 10016 (xR h 104 34)] (vcq (vcq (vcq (vcq (vcq (vcq (vcq (vcq (vcq (vcq (vcq (xsetI (xsetI (xsetI (xsetI (xsetI h 104 12 (xI h 104 17)) 104 13 (xI h 104 18)) 104 14 (xI h 104 19)) 104 15 (xI h 104 20)) 104 16 (xI h 104 21)) 108 1 1) 109 6 6) 110 6 6) 111 6 6) 112 6 6) 113 9 9) 114 9 9) 115 9 9) 116 8 8) 117 8 8) 118 8 8) := XT_path (l := l) (fr := 3) (lo := 100) (full := false) (M := 173) (n := 153) (u := 6051) (pc := 138) (L := [xf 13 104, xun]) (st := []) (h := (vcq (vcq (vcq (vcq (vcq (vcq (vcq (vcq (vcq (vcq (vcq (xsetI (xsetI (xsetI (xsetI (xsetI h 104 12 (xI h 104 17)) 104 13 (xI h 104 18)) 104 14 (xI h 104 19)) 104 15 (xI h 104 20)) 104 16 (xI h 104 21)) 108 1 1) 109 6 6) 110 6 6) 111 6 6) 112 6 6) 113 9 9) 114 9 9) 115 9 9) 116 8 8) 117 8 8) 118 8 8)) (inl := []) (n' := 120) (sp := [144]) (o := []) rfl rfl ⟨rfl, rfl, rfl⟩ rfl ⟨Nat.le_of_eq hg.2.2.2.1, Nat.le_of_eq hg.2.2.2.2⟩ ⟨trivial, (vnn hg.1 (rfl : vRf 104 34 = [119]) (by decide))⟩
  rw [vref hg.1 (rfl : vRf 104 34 = [119])] at t44
  have t45 := t43.tr t44
  have t46 : XT l 3 100 false 173 153 6051 144 [xf 13 104, xun] [xi (Int32.ofInt (8)), xf 10016 119] (vcq (vcq (vcq (vcq (vcq (vcq (vcq (vcq (vcq (vcq (vcq (xsetI (xsetI (xsetI (xsetI (xsetI h 104 12 (xI h 104 17)) 104 13 (xI h 104 18)) 104 14 (xI h 104 19)) 104 15 (xI h 104 20)) 104 16 (xI h 104 21)) 108 1 1) 109 6 6) 110 6 6) 111 6 6) 112 6 6) 113 9 9) 114 9 9) 115 9 9) 116 8 8) 117 8 8) 118 8 8) 147 [xf 13 104, xun] [] (vcq (vcq (vcq (vcq (vcq (vcq (vcq (vcq (vcq (vcq (vcq (vcq (xsetI (xsetI (xsetI (xsetI (xsetI h 104 12 (xI h 104 17)) 104 13 (xI h 104 18)) 104 14 (xI h 104 19)) 104 15 (xI h 104 20)) 104 16 (xI h 104 21)) 108 1 1) 109 6 6) 110 6 6) 111 6 6) 112 6 6) 113 9 9) 114 9 9) 115 9 9) 116 8 8) 117 8 8) 118 8 8) 119 8 8) := XT_call (l := l) (fr := 3) (lo := 100) (full := false) (M := 173) (n := 153) (u := 6051) (pc := 144) (L := [xf 13 104, xun]) (st := [xi (Int32.ofInt (8)), xf 10016 119]) (h := (vcq (vcq (vcq (vcq (vcq (vcq (vcq (vcq (vcq (vcq (vcq (xsetI (xsetI (xsetI (xsetI (xsetI h 104 12 (xI h 104 17)) 104 13 (xI h 104 18)) 104 14 (xI h 104 19)) 104 15 (xI h 104 20)) 104 16 (xI h 104 21)) 108 1 1) 109 6 6) 110 6 6) 111 6 6) 112 6 6) 113 9 9) 114 9 9) 115 9 9) 116 8 8) 117 8 8) 118 8 8)) (i := .invokestatic 174) (aux := 2) (nx := 147) (K := 174) (vs := [xf 10016 119, xi (Int32.ofInt (8))]) (rs := []) (rest := []) rfl rfl rfl rfl rfl rfl (vh_cp8 l 119 (vcq (vcq (vcq (vcq (vcq (vcq (vcq (vcq (vcq (vcq (vcq (xsetI (xsetI (xsetI (xsetI (xsetI h 104 12 (xI h 104 17)) 104 13 (xI h 104 18)) 104 14 (xI h 104 19)) 104 15 (xI h 104 20)) 104 16 (xI h 104 21)) 108 1 1) 109 6 6) 110 6 6) 111 6 6) 112 6 6) 113 9 9) 114 9 9) 115 9 9) 116 8 8) 117 8 8) 118 8 8) ⟨trivial, trivial, trivial, hg.2.2.2.1, hg.2.2.2.2⟩) (by decide) (by decide) (Nat.le_of_ble_eq_true rfl) ⟨Nat.le_of_eq hg.2.2.2.1, Nat.le_of_eq hg.2.2.2.2⟩
  have t47 := t45.tr t46
  have t48 : XT l 3 100 false 173 153 6051 147 [xf 13 104, xun] [] (vcq (vcq (vcq (vcq (vcq (vcq (vcq (vcq (vcq (vcq (vcq (vcq (xsetI (xsetI (xsetI (xsetI (xsetI h 104 12 (xI h 104 17)) 104 13 (xI h 104 18)) 104 14 (xI h 104 19)) 104 15 (xI h 104 20)) 104 16 (xI h 104 21)) 108 1 1) 109 6 6) 110 6 6) 111 6 6) 112 6 6) 113 9 9) 114 9 9) 115 9 9) 116 8 8) 117 8 8) 118 8 8) 119 8 8) 153 [xf 13 104, xun] [xi (Int32.ofInt (6)), xf 10012 (xR h 104 35)] (vcq (vcq (vcq (vcq (vcq (vcq (vcq (vcq (vcq (vcq (vcq (vcq (xsetI (xsetI (xsetI (xsetI (xsetI h 104 12 (xI h 104 17)) 104 13 (xI h 104 18)) 104 14 (xI h 104 19)) 104 15 (xI h 104 20)) 104 16 (xI h 104 21)) 108 1 1) 109 6 6) 110 6 6) 111 6 6) 112 6 6) 113 9 9) 114 9 9) 115 9 9) 116 8 8) 117 8 8) 118 8 8) 119 8 8) := XT_path (l := l) (fr := 3) (lo := 100) (full := false) (M := 173) (n := 153) (u := 6051) (pc := 147) (L := [xf 13 104, xun]) (st := []) (h := (vcq (vcq (vcq (vcq (vcq (vcq (vcq (vcq (vcq (vcq (vcq (vcq (xsetI (xsetI (xsetI (xsetI (xsetI h 104 12 (xI h 104 17)) 104 13 (xI h 104 18)) 104 14 (xI h 104 19)) 104 15 (xI h 104 20)) 104 16 (xI h 104 21)) 108 1 1) 109 6 6) 110 6 6) 111 6 6) 112 6 6) 113 9 9) 114 9 9) 115 9 9) 116 8 8) 117 8 8) 118 8 8) 119 8 8)) (inl := []) (n' := 120) (sp := [153]) (o := []) rfl rfl ⟨rfl, rfl, rfl⟩ rfl ⟨Nat.le_of_eq hg.2.2.2.1, Nat.le_of_eq hg.2.2.2.2⟩ ⟨trivial, (vnn hg.1 (rfl : vRf 104 35 = [120]) (by decide))⟩
  rw [vref hg.1 (rfl : vRf 104 35 = [120])] at t48
  have t49 := t47.tr t48
  have t50 : XT l 3 100 false 173 153 6051 153 [xf 13 104, xun] [xi (Int32.ofInt (6)), xf 10012 120] (vcq (vcq (vcq (vcq (vcq (vcq (vcq (vcq (vcq (vcq (vcq (vcq (xsetI (xsetI (xsetI (xsetI (xsetI h 104 12 (xI h 104 17)) 104 13 (xI h 104 18)) 104 14 (xI h 104 19)) 104 15 (xI h 104 20)) 104 16 (xI h 104 21)) 108 1 1) 109 6 6) 110 6 6) 111 6 6) 112 6 6) 113 9 9) 114 9 9) 115 9 9) 116 8 8) 117 8 8) 118 8 8) 119 8 8) 156 [xf 13 104, xun] [] (vcq (vcq (vcq (vcq (vcq (vcq (vcq (vcq (vcq (vcq (vcq (vcq (vcq (xsetI (xsetI (xsetI (xsetI (xsetI h 104 12 (xI h 104 17)) 104 13 (xI h 104 18)) 104 14 (xI h 104 19)) 104 15 (xI h 104 20)) 104 16 (xI h 104 21)) 108 1 1) 109 6 6) 110 6 6) 111 6 6) 112 6 6) 113 9 9) 114 9 9) 115 9 9) 116 8 8) 117 8 8) 118 8 8) 119 8 8) 120 6 6) := XT_call (l := l) (fr := 3) (lo := 100) (full := false) (M := 173) (n := 153) (u := 6051) (pc := 153) (L := [xf 13 104, xun]) (st := [xi (Int32.ofInt (6)), xf 10012 120]) (h := (vcq (vcq (vcq (vcq (vcq (vcq (vcq (vcq (vcq (vcq (vcq (vcq (xsetI (xsetI (xsetI (xsetI (xsetI h 104 12 (xI h 104 17)) 104 13 (xI h 104 18)) 104 14 (xI h 104 19)) 104 15 (xI h 104 20)) 104 16 (xI h 104 21)) 108 1 1) 109 6 6) 110 6 6) 111 6 6) 112 6 6) 113 9 9) 114 9 9) 115 9 9) 116 8 8) 117 8 8) 118 8 8) 119 8 8)) (i := .invokestatic 174) (aux := 2) (nx := 156) (K := 174) (vs := [xf 10012 120, xi (Int32.ofInt (6))]) (rs := []) (rest := []) rfl rfl rfl rfl rfl rfl (vh_cp6 l 120 (vcq (vcq (vcq (vcq (vcq (vcq (vcq (vcq (vcq (vcq (vcq (vcq (xsetI (xsetI (xsetI (xsetI (xsetI h 104 12 (xI h 104 17)) 104 13 (xI h 104 18)) 104 14 (xI h 104 19)) 104 15 (xI h 104 20)) 104 16 (xI h 104 21)) 108 1 1) 109 6 6) 110 6 6) 111 6 6) 112 6 6) 113 9 9) 114 9 9) 115 9 9) 116 8 8) 117 8 8) 118 8 8) 119 8 8) ⟨trivial, trivial, trivial, hg.2.2.2.1, hg.2.2.2.2⟩) (by decide) (by decide) (Nat.le_of_ble_eq_true rfl) ⟨Nat.le_of_eq hg.2.2.2.1, Nat.le_of_eq hg.2.2.2.2⟩
  have t51 := t49.tr t50
  have t52 : XT l 3 100 false 173 153 6051 156 [xf 13 104, xun] [] (vcq (vcq (vcq (vcq (vcq (vcq (vcq (vcq (vcq (vcq (vcq (vcq (vcq (xsetI (xsetI (xsetI (xsetI (xsetI h 104 12 (xI h 104 17)) 104 13 (xI h 104 18)) 104 14 (xI h 104 19)) 104 15 (xI h 104 20)) 104 16 (xI h 104 21)) 108 1 1) 109 6 6) 110 6 6) 111 6 6) 112 6 6) 113 9 9) 114 9 9) 115 9 9) 116 8 8) 117 8 8) 118 8 8) 119 8 8) 120 6 6) 162 [xf 13 104, xun] [xi (Int32.ofInt (6)), xf 10012 (xR h 104 36)] (vcq (vcq (vcq (vcq (vcq (vcq (vcq (vcq (vcq (vcq (vcq (vcq (vcq (xsetI (xsetI (xsetI (xsetI (xsetI h 104 12 (xI h 104 17)) 104 13 (xI h 104 18)) 104 14 (xI h 104 19)) 104 15 (xI h 104 20)) 104 16 (xI h 104 21)) 108 1 1) 109 6 6) 110 6 6) 111 6 6) 112 6 6) 113 9 9) 114 9 9) 115 9 9) 116 8 8) 117 8 8) 118 8 8) 119 8 8) 120 6 6) := XT_path (l := l) (fr := 3) (lo := 100) (full := false) (M := 173) (n := 153) (u := 6051) (pc := 156) (L := [xf 13 104, xun]) (st := []) (h := (vcq (vcq (vcq (vcq (vcq (vcq (vcq (vcq (vcq (vcq (vcq (vcq (vcq (xsetI (xsetI (xsetI (xsetI (xsetI h 104 12 (xI h 104 17)) 104 13 (xI h 104 18)) 104 14 (xI h 104 19)) 104 15 (xI h 104 20)) 104 16 (xI h 104 21)) 108 1 1) 109 6 6) 110 6 6) 111 6 6) 112 6 6) 113 9 9) 114 9 9) 115 9 9) 116 8 8) 117 8 8) 118 8 8) 119 8 8) 120 6 6)) (inl := []) (n' := 120) (sp := [162]) (o := []) rfl rfl ⟨rfl, rfl, rfl⟩ rfl ⟨Nat.le_of_eq hg.2.2.2.1, Nat.le_of_eq hg.2.2.2.2⟩ ⟨trivial, (vnn hg.1 (rfl : vRf 104 36 = [121]) (by decide))⟩
  rw [vref hg.1 (rfl : vRf 104 36 = [121])] at t52
  have t53 := t51.tr t52
  have t54 : XT l 3 100 false 173 153 6051 162 [xf 13 104, xun] [xi (Int32.ofInt (6)), xf 10012 121] (vcq (vcq (vcq (vcq (vcq (vcq (vcq (vcq (vcq (vcq (vcq (vcq (vcq (xsetI (xsetI (xsetI (xsetI (xsetI h 104 12 (xI h 104 17)) 104 13 (xI h 104 18)) 104 14 (xI h 104 19)) 104 15 (xI h 104 20)) 104 16 (xI h 104 21)) 108 1 1) 109 6 6) 110 6 6) 111 6 6) 112 6 6) 113 9 9) 114 9 9) 115 9 9) 116 8 8) 117 8 8) 118 8 8) 119 8 8) 120 6 6) 165 [xf 13 104, xun] [] (vcq (vcq (vcq (vcq (vcq (vcq (vcq (vcq (vcq (vcq (vcq (vcq (vcq (vcq (xsetI (xsetI (xsetI (xsetI (xsetI h 104 12 (xI h 104 17)) 104 13 (xI h 104 18)) 104 14 (xI h 104 19)) 104 15 (xI h 104 20)) 104 16 (xI h 104 21)) 108 1 1) 109 6 6) 110 6 6) 111 6 6) 112 6 6) 113 9 9) 114 9 9) 115 9 9) 116 8 8) 117 8 8) 118 8 8) 119 8 8) 120 6 6) 121 6 6) := XT_call (l := l) (fr := 3) (lo := 100) (full := false) (M := 173) (n := 153) (u := 6051) (pc := 162) (L := [xf 13 104, xun]) (st := [xi (Int32.ofInt (6)), xf 10012 121]) (h := (vcq (vcq (vcq (vcq (vcq (vcq (vcq (vcq (vcq (vcq (vcq (vcq (vcq (xsetI (xsetI (xsetI (xsetI (xsetI h 104 12 (xI h 104 17)) 104 13 (xI h 104 18)) 104 14 (xI h 104 19)) 104 15 (xI h 104 20)) 104 16 (xI h 104 21)) 108 1 1) 109 6 6) 110 6 6) 111 6 6) 112 6 6) 113 9 9) 114 9 9) 115 9 9) 116 8 8) 117 8 8) 118 8 8) 119 8 8) 120 6 6)) (i := .invokestatic 174) (aux := 2) (nx := 165) (K := 174) (vs := [xf 10012 121, xi (Int32.ofInt (6))]) (rs := []) (rest := []) rfl rfl rfl rfl rfl rfl (vh_cp6 l 121 (vcq (vcq (vcq (vcq (vcq (vcq (vcq (vcq (vcq (vcq (vcq (vcq (vcq (xsetI (xsetI (xsetI (xsetI (xsetI h 104 12 (xI h 104 17)) 104 13 (xI h 104 18)) 104 14 (xI h 104 19)) 104 15 (xI h 104 20)) 104 16 (xI h 104 21)) 108 1 1) 109 6 6) 110 6 6) 111 6 6) 112 6 6) 113 9 9) 114 9 9) 115 9 9) 116 8 8) 117 8 8) 118 8 8) 119 8 8) 120 6 6) ⟨trivial, trivial, trivial, hg.2.2.2.1, hg.2.2.2.2⟩) (by decide) (by decide) (Nat.le_of_ble_eq_true rfl) ⟨Nat.le_of_eq hg.2.2.2.1, Nat.le_of_eq hg.2.2.2.2⟩
  have t55 := t53.tr t54
  have t56 : XT l 3 100 false 173 153 6051 165 [xf 13 104, xun] [] (vcq (vcq (vcq (vcq (vcq (vcq (vcq (vcq (vcq (vcq (vcq (vcq (vcq (vcq (xsetI (xsetI (xsetI (xsetI (xsetI h 104 12 (xI h 104 17)) 104 13 (xI h 104 18)) 104 14 (xI h 104 19)) 104 15 (xI h 104 20)) 104 16 (xI h 104 21)) 108 1 1) 109 6 6) 110 6 6) 111 6 6) 112 6 6) 113 9 9) 114 9 9) 115 9 9) 116 8 8) 117 8 8) 118 8 8) 119 8 8) 120 6 6) 121 6 6) 171 [xf 13 104, xun] [xi (Int32.ofInt (6)), xf 10012 (xR h 104 37)] (vcq (vcq (vcq (vcq (vcq (vcq (vcq (vcq (vcq (vcq (vcq (vcq (vcq (vcq (xsetI (xsetI (xsetI (xsetI (xsetI h 104 12 (xI h 104 17)) 104 13 (xI h 104 18)) 104 14 (xI h 104 19)) 104 15 (xI h 104 20)) 104 16 (xI h 104 21)) 108 1 1) 109 6 6) 110 6 6) 111 6 6) 112 6 6) 113 9 9) 114 9 9) 115 9 9) 116 8 8) 117 8 8) 118 8 8) 119 8 8) 120 6 6) 121 6 6) := XT_path (l := l) (fr := 3) (lo := 100) (full := false) (M := 173) (n := 153) (u := 6051) (pc := 165) (L := [xf 13 104, xun]) (st := []) (h := (vcq (vcq (vcq (vcq (vcq (vcq (vcq (vcq (vcq (vcq (vcq (vcq (vcq (vcq (xsetI (xsetI (xsetI (xsetI (xsetI h 104 12 (xI h 104 17)) 104 13 (xI h 104 18)) 104 14 (xI h 104 19)) 104 15 (xI h 104 20)) 104 16 (xI h 104 21)) 108 1 1) 109 6 6) 110 6 6) 111 6 6) 112 6 6) 113 9 9) 114 9 9) 115 9 9) 116 8 8) 117 8 8) 118 8 8) 119 8 8) 120 6 6) 121 6 6)) (inl := []) (n' := 120) (sp := [171]) (o := []) rfl rfl ⟨rfl, rfl, rfl⟩ rfl ⟨Nat.le_of_eq hg.2.2.2.1, Nat.le_of_eq hg.2.2.2.2⟩ ⟨trivial, (vnn hg.1 (rfl : vRf 104 37 = [122]) (by decide))⟩
  rw [vref hg.1 (rfl : vRf 104 37 = [122])] at t56
  have t57 := t55.tr t56
  have t58 : XT l 3 100 false 173 153 6051 171 [xf 13 104, xun] [xi (Int32.ofInt (6)), xf 10012 122] (vcq (vcq (vcq (vcq (vcq (vcq (vcq (vcq (vcq (vcq (vcq (vcq (vcq (vcq (xsetI (xsetI (xsetI (xsetI (xsetI h 104 12 (xI h 104 17)) 104 13 (xI h 104 18)) 104 14 (xI h 104 19)) 104 15 (xI h 104 20)) 104 16 (xI h 104 21)) 108 1 1) 109 6 6) 110 6 6) 111 6 6) 112 6 6) 113 9 9) 114 9 9) 115 9 9) 116 8 8) 117 8 8) 118 8 8) 119 8 8) 120 6 6) 121 6 6) 174 [xf 13 104, xun] [] (vcq (vcq (vcq (vcq (vcq (vcq (vcq (vcq (vcq (vcq (vcq (vcq (vcq (vcq (vcq (xsetI (xsetI (xsetI (xsetI (xsetI h 104 12 (xI h 104 17)) 104 13 (xI h 104 18)) 104 14 (xI h 104 19)) 104 15 (xI h 104 20)) 104 16 (xI h 104 21)) 108 1 1) 109 6 6) 110 6 6) 111 6 6) 112 6 6) 113 9 9) 114 9 9) 115 9 9) 116 8 8) 117 8 8) 118 8 8) 119 8 8) 120 6 6) 121 6 6) 122 6 6) := XT_call (l := l) (fr := 3) (lo := 100) (full := false) (M := 173) (n := 153) (u := 6051) (pc := 171) (L := [xf 13 104, xun]) (st := [xi (Int32.ofInt (6)), xf 10012 122]) (h := (vcq (vcq (vcq (vcq (vcq (vcq (vcq (vcq (vcq (vcq (vcq (vcq (vcq (vcq (xsetI (xsetI (xsetI (xsetI (xsetI h 104 12 (xI h 104 17)) 104 13 (xI h 104 18)) 104 14 (xI h 104 19)) 104 15 (xI h 104 20)) 104 16 (xI h 104 21)) 108 1 1) 109 6 6) 110 6 6) 111 6 6) 112 6 6) 113 9 9) 114 9 9) 115 9 9) 116 8 8) 117 8 8) 118 8 8) 119 8 8) 120 6 6) 121 6 6)) (i := .invokestatic 174) (aux := 2) (nx := 174) (K := 174) (vs := [xf 10012 122, xi (Int32.ofInt (6))]) (rs := []) (rest := []) rfl rfl rfl rfl rfl rfl (vh_cp6 l 122 (vcq (vcq (vcq (vcq (vcq (vcq (vcq (vcq (vcq (vcq (vcq (vcq (vcq (vcq (xsetI (xsetI (xsetI (xsetI (xsetI h 104 12 (xI h 104 17)) 104 13 (xI h 104 18)) 104 14 (xI h 104 19)) 104 15 (xI h 104 20)) 104 16 (xI h 104 21)) 108 1 1) 109 6 6) 110 6 6) 111 6 6) 112 6 6) 113 9 9) 114 9 9) 115 9 9) 116 8 8) 117 8 8) 118 8 8) 119 8 8) 120 6 6) 121 6 6) ⟨trivial, trivial, trivial, hg.2.2.2.1, hg.2.2.2.2⟩) (by decide) (by decide) (Nat.le_of_ble_eq_true rfl) ⟨Nat.le_of_eq hg.2.2.2.1, Nat.le_of_eq hg.2.2.2.2⟩
  have t59 := t57.tr t58
  have t60 : XT l 3 100 false 173 153 6051 174 [xf 13 104, xun] [] (vcq (vcq (vcq (vcq (vcq (vcq (vcq (vcq (vcq (vcq (vcq (vcq (vcq (vcq (vcq (xsetI (xsetI (xsetI (xsetI (xsetI h 104 12 (xI h 104 17)) 104 13 (xI h 104 18)) 104 14 (xI h 104 19)) 104 15 (xI h 104 20)) 104 16 (xI h 104 21)) 108 1 1) 109 6 6) 110 6 6) 111 6 6) 112 6 6) 113 9 9) 114 9 9) 115 9 9) 116 8 8) 117 8 8) 118 8 8) 119 8 8) 120 6 6) 121 6 6) 122 6 6) 176 [xf 13 104, xi (Int32.ofInt (0))] [] (vcq (vcq (vcq (vcq (vcq (vcq (vcq (vcq (vcq (vcq (vcq (vcq (vcq (vcq (vcq (xsetI (xsetI (xsetI (xsetI (xsetI h 104 12 (xI h 104 17)) 104 13 (xI h 104 18)) 104 14 (xI h 104 19)) 104 15 (xI h 104 20)) 104 16 (xI h 104 21)) 108 1 1) 109 6 6) 110 6 6) 111 6 6) 112 6 6) 113 9 9) 114 9 9) 115 9 9) 116 8 8) 117 8 8) 118 8 8) 119 8 8) 120 6 6) 121 6 6) 122 6 6) := XT_path (l := l) (fr := 3) (lo := 100) (full := false) (M := 173) (n := 153) (u := 6051) (pc := 174) (L := [xf 13 104, xun]) (st := []) (h := (vcq (vcq (vcq (vcq (vcq (vcq (vcq (vcq (vcq (vcq (vcq (vcq (vcq (vcq (vcq (xsetI (xsetI (xsetI (xsetI (xsetI h 104 12 (xI h 104 17)) 104 13 (xI h 104 18)) 104 14 (xI h 104 19)) 104 15 (xI h 104 20)) 104 16 (xI h 104 21)) 108 1 1) 109 6 6) 110 6 6) 111 6 6) 112 6 6) 113 9 9) 114 9 9) 115 9 9) 116 8 8) 117 8 8) 118 8 8) 119 8 8) 120 6 6) 121 6 6) 122 6 6)) (inl := []) (n' := 120) (sp := [176]) (o := []) rfl rfl ⟨rfl, rfl, rfl⟩ rfl ⟨Nat.le_of_eq hg.2.2.2.1, Nat.le_of_eq hg.2.2.2.2⟩ trivial
  have t61 := t59.tr t60
  obtain ⟨hA, eA⟩ : ∃ x, x = (vcq (vcq (vcq (vcq (vcq (vcq (vcq (vcq (vcq (vcq (vcq (vcq (vcq (vcq (vcq (xsetI (xsetI (xsetI (xsetI (xsetI h 104 12 (xI h 104 17)) 104 13 (xI h 104 18)) 104 14 (xI h 104 19)) 104 15 (xI h 104 20)) 104 16 (xI h 104 21)) 108 1 1) 109 6 6) 110 6 6) 111 6 6) 112 6 6) 113 9 9) 114 9 9) 115 9 9) 116 8 8) 117 8 8) 118 8 8) 119 8 8) 120 6 6) 121 6 6) 122 6 6) := ⟨_, rfl⟩
  rw [← eA] at t61
  have gA : sinv vT hA ∧ True ∧ True ∧ xN hA = 153 ∧ xU hA = 6051 := by rw [eA]; exact ⟨(sinv_cq (sinv_cq (sinv_cq (sinv_cq (sinv_cq (sinv_cq (sinv_cq (sinv_cq (sinv_cq (sinv_cq (sinv_cq (sinv_cq (sinv_cq (sinv_cq (sinv_cq (sinv_setI (sinv_setI (sinv_setI (sinv_setI (sinv_setI hg.1 (c := 104) (k := 12) (v := (xI h 104 17)) (vbnd hg.1 104 17)) (c := 104) (k := 13) (v := (xI h 104 18)) (vbnd hg.1 104 18)) (c := 104) (k := 14) (v := (xI h 104 19)) (vbnd hg.1 104 19)) (c := 104) (k := 15) (v := (xI h 104 20)) (vbnd hg.1 104 20)) (c := 104) (k := 16) (v := (xI h 104 21)) (vbnd hg.1 104 21)) (c := 108) (n := 1) (i := 1) rfl) (c := 109) (n := 6) (i := 6) rfl) (c := 110) (n := 6) (i := 6) rfl) (c := 111) (n := 6) (i := 6) rfl) (c := 112) (n := 6) (i := 6) rfl) (c := 113) (n := 9) (i := 9) rfl) (c := 114) (n := 9) (i := 9) rfl) (c := 115) (n := 9) (i := 9) rfl) (c := 116) (n := 8) (i := 8) rfl) (c := 117) (n := 8) (i := 8) rfl) (c := 118) (n := 8) (i := 8) rfl) (c := 119) (n := 8) (i := 8) rfl) (c := 120) (n := 6) (i := 6) rfl) (c := 121) (n := 6) (i := 6) rfl) (c := 122) (n := 6) (i := 6) rfl), trivial, trivial, hg.2.2.2.1, hg.2.2.2.2⟩
  have RA : ∀ c k, xR hA c k = xR h c k := fun c k => by rw [eA]; rfl
  have A108 : ∀ k, xI hA 108 k = if k < 1 then xI h 108 (1 + k) else xI h 108 k := fun k => by rw [eA, vcq_ne (by decide), vcq_ne (by decide), vcq_ne (by decide), vcq_ne (by decide), vcq_ne (by decide), vcq_ne (by decide), vcq_ne (by decide), vcq_ne (by decide), vcq_ne (by decide), vcq_ne (by decide), vcq_ne (by decide), vcq_ne (by decide), vcq_ne (by decide), vcq_ne (by decide), vcq_same, yI_cF (by decide), yI_cF (by decide), yI_cF (by decide), yI_cF (by decide), yI_cF (by decide)]
  have A109 : ∀ k, xI hA 109 k = if k < 6 then xI h 109 (6 + k) else xI h 109 k := fun k => by rw [eA, vcq_ne (by decide), vcq_ne (by decide), vcq_ne (by decide), vcq_ne (by decide), vcq_ne (by decide), vcq_ne (by decide), vcq_ne (by decide), vcq_ne (by decide), vcq_ne (by decide), vcq_ne (by decide), vcq_ne (by decide), vcq_ne (by decide), vcq_ne (by decide), vcq_same, vcq_ne (by decide), yI_cF (by decide), yI_cF (by decide), yI_cF (by decide), yI_cF (by decide), yI_cF (by decide)]
  have A110 : ∀ k, xI hA 110 k = if k < 6 then xI h 110 (6 + k) else xI h 110 k := fun k => by rw [eA, vcq_ne (by decide), vcq_ne (by decide), vcq_ne (by decide), vcq_ne (by decide), vcq_ne (by decide), vcq_ne (by decide), vcq_ne (by decide), vcq_ne (by decide), vcq_ne (by decide), vcq_ne (by decide), vcq_ne (by decide), vcq_ne (by decide), vcq_same, vcq_ne (by decide), vcq_ne (by decide), yI_cF (by decide), yI_cF (by decide), yI_cF (by decide), yI_cF (by decide), yI_cF (by decide)]
  have A111 : ∀ k, xI hA 111 k = if k < 6 then xI h 111 (6 + k) else xI h 111 k := fun k => by rw [eA, vcq_ne (by decide), vcq_ne (by decide), vcq_ne (by decide), vcq_ne (by decide), vcq_ne (by decide), vcq_ne (by decide), vcq_ne (by decide), vcq_ne (by decide), vcq_ne (by decide), vcq_ne (by decide), vcq_ne (by decide), vcq_same, vcq_ne (by decide), vcq_ne (by decide), vcq_ne (by decide), yI_cF (by decide), yI_cF (by decide), yI_cF (by decide), yI_cF (by decide), yI_cF (by decide)]
  have A112 : ∀ k, xI hA 112 k = if k < 6 then xI h 112 (6 + k) else xI h 112 k := fun k => by rw [eA, vcq_ne (by decide), vcq_ne (by decide), vcq_ne (by decide), vcq_ne (by decide), vcq_ne (by decide), vcq_ne (by decide), vcq_ne (by decide), vcq_ne (by decide), vcq_ne (by decide), vcq_ne (by decide), vcq_same, vcq_ne (by decide), vcq_ne (by decide), vcq_ne (by decide), vcq_ne (by decide), yI_cF (by decide), yI_cF (by decide), yI_cF (by decide), yI_cF (by decide), yI_cF (by decide)]
  have A113 : ∀ k, xI hA 113 k = if k < 9 then xI h 113 (9 + k) else xI h 113 k := fun k => by rw [eA, vcq_ne (by decide), vcq_ne (by decide), vcq_ne (by decide), vcq_ne (by decide), vcq_ne (by decide), vcq_ne (by decide), vcq_ne (by decide), vcq_ne (by decide), vcq_ne (by decide), vcq_same, vcq_ne (by decide), vcq_ne (by decide), vcq_ne (by decide), vcq_ne (by decide), vcq_ne (by decide), yI_cF (by decide), yI_cF (by decide), yI_cF (by decide), yI_cF (by decide), yI_cF (by decide)]
  have A114 : ∀ k, xI hA 114 k = if k < 9 then xI h 114 (9 + k) else xI h 114 k := fun k => by rw [eA, vcq_ne (by decide), vcq_ne (by decide), vcq_ne (by decide), vcq_ne (by decide), vcq_ne (by decide), vcq_ne (by decide), vcq_ne (by decide), vcq_ne (by decide), vcq_same, vcq_ne (by decide), vcq_ne (by decide), vcq_ne (by decide), vcq_ne (by decide), vcq_ne (by decide), vcq_ne (by decide), yI_cF (by decide), yI_cF (by decide), yI_cF (by decide), yI_cF (by decide), yI_cF (by decide)]
  have A115 : ∀ k, xI hA 115 k = if k < 9 then xI h 115 (9 + k) else xI h 115 k := fun k => by rw [eA, vcq_ne (by decide), vcq_ne (by decide), vcq_ne (by decide), vcq_ne (by decide), vcq_ne (by decide), vcq_ne (by decide), vcq_ne (by decide), vcq_same, vcq_ne (by decide), vcq_ne (by decide), vcq_ne (by decide), vcq_ne (by decide), vcq_ne (by decide), vcq_ne (by decide), vcq_ne (by decide), yI_cF (by decide), yI_cF (by decide), yI_cF (by decide), yI_cF (by decide), yI_cF (by decide)]
  have A116 : ∀ k, xI hA 116 k = if k < 8 then xI h 116 (8 + k) else xI h 116 k := fun k => by rw [eA, vcq_ne (by decide), vcq_ne (by decide), vcq_ne (by decide), vcq_ne (by decide), vcq_ne (by decide), vcq_ne (by decide), vcq_same, vcq_ne (by decide), vcq_ne (by decide), vcq_ne (by decide), vcq_ne (by decide), vcq_ne (by decide), vcq_ne (by decide), vcq_ne (by decide), vcq_ne (by decide), yI_cF (by decide), yI_cF (by decide), yI_cF (by decide), yI_cF (by decide), yI_cF (by decide)]
  have A117 : ∀ k, xI hA 117 k = if k < 8 then xI h 117 (8 + k) else xI h 117 k := fun k => by rw [eA, vcq_ne (by decide), vcq_ne (by decide), vcq_ne (by decide), vcq_ne (by decide), vcq_ne (by decide), vcq_same, vcq_ne (by decide), vcq_ne (by decide), vcq_ne (by decide), vcq_ne (by decide), vcq_ne (by decide), vcq_ne (by decide), vcq_ne (by decide), vcq_ne (by decide), vcq_ne (by decide), yI_cF (by decide), yI_cF (by decide), yI_cF (by decide), yI_cF (by decide), yI_cF (by decide)]
  have A118 : ∀ k, xI hA 118 k = if k < 8 then xI h 118 (8 + k) else xI h 118 k := fun k => by rw [eA, vcq_ne (by decide), vcq_ne (by decide), vcq_ne (by decide), vcq_ne (by decide), vcq_same, vcq_ne (by decide), vcq_ne (by decide), vcq_ne (by decide), vcq_ne (by decide), vcq_ne (by decide), vcq_ne (by decide), vcq_ne (by decide), vcq_ne (by decide), vcq_ne (by decide), vcq_ne (by decide), yI_cF (by decide), yI_cF (by decide), yI_cF (by decide), yI_cF (by decide), yI_cF (by decide)]
  have A119 : ∀ k, xI hA 119 k = if k < 8 then xI h 119 (8 + k) else xI h 119 k := fun k => by rw [eA, vcq_ne (by decide), vcq_ne (by decide), vcq_ne (by decide), vcq_same, vcq_ne (by decide), vcq_ne (by decide), vcq_ne (by decide), vcq_ne (by decide), vcq_ne (by decide), vcq_ne (by decide), vcq_ne (by decide), vcq_ne (by decide), vcq_ne (by decide), vcq_ne (by decide), vcq_ne (by decide), yI_cF (by decide), yI_cF (by decide), yI_cF (by decide), yI_cF (by decide), yI_cF (by decide)]
  have A120 : ∀ k, xI hA 120 k = if k < 6 then xI h 120 (6 + k) else xI h 120 k := fun k => by rw [eA, vcq_ne (by decide), vcq_ne (by decide), vcq_same, vcq_ne (by decide), vcq_ne (by decide), vcq_ne (by decide), vcq_ne (by decide), vcq_ne (by decide), vcq_ne (by decide), vcq_ne (by decide), vcq_ne (by decide), vcq_ne (by decide), vcq_ne (by decide), vcq_ne (by decide), vcq_ne (by decide), yI_cF (by decide), yI_cF (by decide), yI_cF (by decide), yI_cF (by decide), yI_cF (by decide)]
  have A121 : ∀ k, xI hA 121 k = if k < 6 then xI h 121 (6 + k) else xI h 121 k := fun k => by rw [eA, vcq_ne (by decide), vcq_same, vcq_ne (by decide), vcq_ne (by decide), vcq_ne (by decide), vcq_ne (by decide), vcq_ne (by decide), vcq_ne (by decide), vcq_ne (by decide), vcq_ne (by decide), vcq_ne (by decide), vcq_ne (by decide), vcq_ne (by decide), vcq_ne (by decide), vcq_ne (by decide), yI_cF (by decide), yI_cF (by decide), yI_cF (by decide), yI_cF (by decide), yI_cF (by decide)]
  have A122 : ∀ k, xI hA 122 k = if k < 6 then xI h 122 (6 + k) else xI h 122 k := fun k => by rw [eA, vcq_same, vcq_ne (by decide), vcq_ne (by decide), vcq_ne (by decide), vcq_ne (by decide), vcq_ne (by decide), vcq_ne (by decide), vcq_ne (by decide), vcq_ne (by decide), vcq_ne (by decide), vcq_ne (by decide), vcq_ne (by decide), vcq_ne (by decide), vcq_ne (by decide), vcq_ne (by decide), yI_cF (by decide), yI_cF (by decide), yI_cF (by decide), yI_cF (by decide), yI_cF (by decide)]
  have AO : ∀ c, c ≠ 104 → (c < 108 ∨ 122 < c) → xI hA c = xI h c := fun c c1 c2 => by rw [eA, vcq_ne (by omega), vcq_ne (by omega), vcq_ne (by omega), vcq_ne (by omega), vcq_ne (by omega), vcq_ne (by omega), vcq_ne (by omega), vcq_ne (by omega), vcq_ne (by omega), vcq_ne (by omega), vcq_ne (by omega), vcq_ne (by omega), vcq_ne (by omega), vcq_ne (by omega), vcq_ne (by omega), yI_cF c1, yI_cF c1, yI_cF c1, yI_cF c1, yI_cF c1]
  have A4 : ∀ j, (j < 12 ∨ 16 < j) → xI hA 104 j = xI h 104 j := fun j hj => by rw [eA, vcq_ne (by decide), vcq_ne (by decide), vcq_ne (by decide), vcq_ne (by decide), vcq_ne (by decide), vcq_ne (by decide), vcq_ne (by decide), vcq_ne (by decide), vcq_ne (by decide), vcq_ne (by decide), vcq_ne (by decide), vcq_ne (by decide), vcq_ne (by decide), vcq_ne (by decide), vcq_ne (by decide), yI_ne (eq_false (by omega)), yI_ne (eq_false (by omega)), yI_ne (eq_false (by omega)), yI_ne (eq_false (by omega)), yI_ne (eq_false (by omega))]
  have A12 : xI hA 104 12 = xI h 104 17 := by rw [eA, vcq_ne (by decide), vcq_ne (by decide), vcq_ne (by decide), vcq_ne (by decide), vcq_ne (by decide), vcq_ne (by decide), vcq_ne (by decide), vcq_ne (by decide), vcq_ne (by decide), vcq_ne (by decide), vcq_ne (by decide), vcq_ne (by decide), vcq_ne (by decide), vcq_ne (by decide), vcq_ne (by decide), yI_ne (by decide), yI_ne (by decide), yI_ne (by decide), yI_ne (by decide), yI_same]
  have A15 : xI hA 104 15 = xI h 104 20 := by rw [eA, vcq_ne (by decide), vcq_ne (by decide), vcq_ne (by decide), vcq_ne (by decide), vcq_ne (by decide), vcq_ne (by decide), vcq_ne (by decide), vcq_ne (by decide), vcq_ne (by decide), vcq_ne (by decide), vcq_ne (by decide), vcq_ne (by decide), vcq_ne (by decide), vcq_ne (by decide), vcq_ne (by decide), yI_ne (by decide), yI_same]
  have t62 : XT l 3 100 false 173 153 6051 176 [xf 13 104, xi (Int32.ofInt (0))] [] hA 195 [xf 13 104, xi (Int32.ofInt (0))] [] (xsetI hA (xR hA 104 38) ((Int32.ofInt (0))).toNatClampNeg (vp_nar .boolean (xI hA (xR hA 104 38) (((Int32.ofInt (3)) + (Int32.ofInt (0)))).toNatClampNeg))) := XT_path (l := l) (fr := 3) (lo := 100) (full := false) (M := 173) (n := 153) (u := 6051) (pc := 176) (L := [xf 13 104, xi (Int32.ofInt (0))]) (st := []) (h := hA) (inl := []) (n' := 120) (sp := [195]) (o := [0]) rfl rfl ⟨rfl, rfl, rfl⟩ rfl ⟨Nat.le_of_eq gA.2.2.2.1, Nat.le_of_eq gA.2.2.2.2⟩ ⟨⟨⟨⟨⟨trivial, (by decide)⟩, (vnn gA.1 (rfl : vRf 104 38 = [123]) (by decide))⟩, (vnn gA.1 (rfl : vRf 104 38 = [123]) (by decide))⟩, (vp_of (i := ((Int32.ofInt (3)) + (Int32.ofInt (0)))) (n := 6) (by decide) (by decide))⟩, (vp_of (i := (Int32.ofInt (0))) (n := 6) (by decide) (by decide))⟩
  rw [vref gA.1 (rfl : vRf 104 38 = [123])] at t62
  have t63 := t61.tr t62
  have t64 : XT l 3 100 false 173 153 6051 195 [xf 13 104, xi (Int32.ofInt (0))] [] (xsetI hA 123 ((Int32.ofInt (0))).toNatClampNeg (vp_nar .boolean (xI hA 123 (((Int32.ofInt (3)) + (Int32.ofInt (0)))).toNatClampNeg))) 195 [xf 13 104, xi ((Int32.ofInt (0)) + Int32.ofInt (1))] [] (xsetI (xsetI hA 123 ((Int32.ofInt (0))).toNatClampNeg (vp_nar .boolean (xI hA 123 (((Int32.ofInt (3)) + (Int32.ofInt (0)))).toNatClampNeg))) (xR hA 104 38) (((Int32.ofInt (0)) + Int32.ofInt (1))).toNatClampNeg (vp_nar .boolean (xI (xsetI hA 123 ((Int32.ofInt (0))).toNatClampNeg (vp_nar .boolean (xI hA 123 (((Int32.ofInt (3)) + (Int32.ofInt (0)))).toNatClampNeg))) (xR hA 104 38) (((Int32.ofInt (3)) + ((Int32.ofInt (0)) + Int32.ofInt (1)))).toNatClampNeg))) := XT_path (l := l) (fr := 3) (lo := 100) (full := false) (M := 173) (n := 153) (u := 6051) (pc := 195) (L := [xf 13 104, xi (Int32.ofInt (0))]) (st := []) (h := (xsetI hA 123 ((Int32.ofInt (0))).toNatClampNeg (vp_nar .boolean (xI hA 123 (((Int32.ofInt (3)) + (Int32.ofInt (0)))).toNatClampNeg)))) (inl := []) (n' := 120) (sp := [195]) (o := [0]) rfl rfl ⟨rfl, rfl, rfl⟩ rfl ⟨Nat.le_of_eq gA.2.2.2.1, Nat.le_of_eq gA.2.2.2.2⟩ ⟨⟨⟨⟨⟨trivial, (by decide)⟩, (vnn gA.1 (rfl : vRf 104 38 = [123]) (by decide))⟩, (vnn gA.1 (rfl : vRf 104 38 = [123]) (by decide))⟩, (vp_of (i := ((Int32.ofInt (3)) + ((Int32.ofInt (0)) + Int32.ofInt (1)))) (n := 6) (by decide) (by decide))⟩, (vp_of (i := ((Int32.ofInt (0)) + Int32.ofInt (1))) (n := 6) (by decide) (by decide))⟩
  rw [vref gA.1 (rfl : vRf 104 38 = [123])] at t64
  have t65 := t63.tr t64
  have t66 : XT l 3 100 false 173 153 6051 195 [xf 13 104, xi ((Int32.ofInt (0)) + Int32.ofInt (1))] [] (xsetI (xsetI hA 123 ((Int32.ofInt (0))).toNatClampNeg (vp_nar .boolean (xI hA 123 (((Int32.ofInt (3)) + (Int32.ofInt (0)))).toNatClampNeg))) 123 (((Int32.ofInt (0)) + Int32.ofInt (1))).toNatClampNeg (vp_nar .boolean (xI (xsetI hA 123 ((Int32.ofInt (0))).toNatClampNeg (vp_nar .boolean (xI hA 123 (((Int32.ofInt (3)) + (Int32.ofInt (0)))).toNatClampNeg))) 123 (((Int32.ofInt (3)) + ((Int32.ofInt (0)) + Int32.ofInt (1)))).toNatClampNeg))) 195 [xf 13 104, xi (((Int32.ofInt (0)) + Int32.ofInt (1)) + Int32.ofInt (1))] [] (xsetI (xsetI (xsetI hA 123 ((Int32.ofInt (0))).toNatClampNeg (vp_nar .boolean (xI hA 123 (((Int32.ofInt (3)) + (Int32.ofInt (0)))).toNatClampNeg))) 123 (((Int32.ofInt (0)) + Int32.ofInt (1))).toNatClampNeg (vp_nar .boolean (xI (xsetI hA 123 ((Int32.ofInt (0))).toNatClampNeg (vp_nar .boolean (xI hA 123 (((Int32.ofInt (3)) + (Int32.ofInt (0)))).toNatClampNeg))) 123 (((Int32.ofInt (3)) + ((Int32.ofInt (0)) + Int32.ofInt (1)))).toNatClampNeg))) (xR hA 104 38) ((((Int32.ofInt (0)) + Int32.ofInt (1)) + Int32.ofInt (1))).toNatClampNeg (vp_nar .boolean (xI (xsetI (xsetI hA 123 ((Int32.ofInt (0))).toNatClampNeg (vp_nar .boolean (xI hA 123 (((Int32.ofInt (3)) + (Int32.ofInt (0)))).toNatClampNeg))) 123 (((Int32.ofInt (0)) + Int32.ofInt (1))).toNatClampNeg (vp_nar .boolean (xI (xsetI hA 123 ((Int32.ofInt (0))).toNatClampNeg (vp_nar .boolean (xI hA 123 (((Int32.ofInt (3)) + (Int32.ofInt (0)))).toNatClampNeg))) 123 (((Int32.ofInt (3)) + ((Int32.ofInt (0)) + Int32.ofInt (1)))).toNatClampNeg))) (xR hA 104 38) (((Int32.ofInt (3)) + (((Int32.ofInt (0)) + Int32.ofInt (1)) + Int32.ofInt (1)))).toNatClampNeg))) := XT_path (l := l) (fr := 3) (lo := 100) (full := false) (M := 173) (n := 153) (u := 6051) (pc := 195) (L := [xf 13 104, xi ((Int32.ofInt (0)) + Int32.ofInt (1))]) (st := []) (h := (xsetI (xsetI hA 123 ((Int32.ofInt (0))).toNatClampNeg (vp_nar .boolean (xI hA 123 (((Int32.ofInt (3)) + (Int32.ofInt (0)))).toNatClampNeg))) 123 (((Int32.ofInt (0)) + Int32.ofInt (1))).toNatClampNeg (vp_nar .boolean (xI (xsetI hA 123 ((Int32.ofInt (0))).toNatClampNeg (vp_nar .boolean (xI hA 123 (((Int32.ofInt (3)) + (Int32.ofInt (0)))).toNatClampNeg))) 123 (((Int32.ofInt (3)) + ((Int32.ofInt (0)) + Int32.ofInt (1)))).toNatClampNeg)))) (inl := []) (n' := 120) (sp := [195]) (o := [0]) rfl rfl ⟨rfl, rfl, rfl⟩ rfl ⟨Nat.le_of_eq gA.2.2.2.1, Nat.le_of_eq gA.2.2.2.2⟩ ⟨⟨⟨⟨⟨trivial, (by decide)⟩, (vnn gA.1 (rfl : vRf 104 38 = [123]) (by decide))⟩, (vnn gA.1 (rfl : vRf 104 38 = [123]) (by decide))⟩, (vp_of (i := ((Int32.ofInt (3)) + (((Int32.ofInt (0)) + Int32.ofInt (1)) + Int32.ofInt (1)))) (n := 6) (by decide) (by decide))⟩, (vp_of (i := (((Int32.ofInt (0)) + Int32.ofInt (1)) + Int32.ofInt (1))) (n := 6) (by decide) (by decide))⟩
  rw [vref gA.1 (rfl : vRf 104 38 = [123])] at t66
  have t67 := t65.tr t66
  have t68 : XT l 3 100 false 173 153 6051 195 [xf 13 104, xi (((Int32.ofInt (0)) + Int32.ofInt (1)) + Int32.ofInt (1))] [] (xsetI (xsetI (xsetI hA 123 ((Int32.ofInt (0))).toNatClampNeg (vp_nar .boolean (xI hA 123 (((Int32.ofInt (3)) + (Int32.ofInt (0)))).toNatClampNeg))) 123 (((Int32.ofInt (0)) + Int32.ofInt (1))).toNatClampNeg (vp_nar .boolean (xI (xsetI hA 123 ((Int32.ofInt (0))).toNatClampNeg (vp_nar .boolean (xI hA 123 (((Int32.ofInt (3)) + (Int32.ofInt (0)))).toNatClampNeg))) 123 (((Int32.ofInt (3)) + ((Int32.ofInt (0)) + Int32.ofInt (1)))).toNatClampNeg))) 123 ((((Int32.ofInt (0)) + Int32.ofInt (1)) + Int32.ofInt (1))).toNatClampNeg (vp_nar .boolean (xI (xsetI (xsetI hA 123 ((Int32.ofInt (0))).toNatClampNeg (vp_nar .boolean (xI hA 123 (((Int32.ofInt (3)) + (Int32.ofInt (0)))).toNatClampNeg))) 123 (((Int32.ofInt (0)) + Int32.ofInt (1))).toNatClampNeg (vp_nar .boolean (xI (xsetI hA 123 ((Int32.ofInt (0))).toNatClampNeg (vp_nar .boolean (xI hA 123 (((Int32.ofInt (3)) + (Int32.ofInt (0)))).toNatClampNeg))) 123 (((Int32.ofInt (3)) + ((Int32.ofInt (0)) + Int32.ofInt (1)))).toNatClampNeg))) 123 (((Int32.ofInt (3)) + (((Int32.ofInt (0)) + Int32.ofInt (1)) + Int32.ofInt (1)))).toNatClampNeg))) 206 [xf 13 104, xi ((((Int32.ofInt (0)) + Int32.ofInt (1)) + Int32.ofInt (1)) + Int32.ofInt (1))] [xi (Int32.ofInt (3)), xf 10006 (xR hA 104 39)] (xsetI (xsetI (xsetI hA 123 ((Int32.ofInt (0))).toNatClampNeg (vp_nar .boolean (xI hA 123 (((Int32.ofInt (3)) + (Int32.ofInt (0)))).toNatClampNeg))) 123 (((Int32.ofInt (0)) + Int32.ofInt (1))).toNatClampNeg (vp_nar .boolean (xI (xsetI hA 123 ((Int32.ofInt (0))).toNatClampNeg (vp_nar .boolean (xI hA 123 (((Int32.ofInt (3)) + (Int32.ofInt (0)))).toNatClampNeg))) 123 (((Int32.ofInt (3)) + ((Int32.ofInt (0)) + Int32.ofInt (1)))).toNatClampNeg))) 123 ((((Int32.ofInt (0)) + Int32.ofInt (1)) + Int32.ofInt (1))).toNatClampNeg (vp_nar .boolean (xI (xsetI (xsetI hA 123 ((Int32.ofInt (0))).toNatClampNeg (vp_nar .boolean (xI hA 123 (((Int32.ofInt (3)) + (Int32.ofInt (0)))).toNatClampNeg))) 123 (((Int32.ofInt (0)) + Int32.ofInt (1))).toNatClampNeg (vp_nar .boolean (xI (xsetI hA 123 ((Int32.ofInt (0))).toNatClampNeg (vp_nar .boolean (xI hA 123 (((Int32.ofInt (3)) + (Int32.ofInt (0)))).toNatClampNeg))) 123 (((Int32.ofInt (3)) + ((Int32.ofInt (0)) + Int32.ofInt (1)))).toNatClampNeg))) 123 (((Int32.ofInt (3)) + (((Int32.ofInt (0)) + Int32.ofInt (1)) + Int32.ofInt (1)))).toNatClampNeg))) := XT_path (l := l) (fr := 3) (lo := 100) (full := false) (M := 173) (n := 153) (u := 6051) (pc := 195) (L := [xf 13 104, xi (((Int32.ofInt (0)) + Int32.ofInt (1)) + Int32.ofInt (1))]) (st := []) (h := (xsetI (xsetI (xsetI hA 123 ((Int32.ofInt (0))).toNatClampNeg (vp_nar .boolean (xI hA 123 (((Int32.ofInt (3)) + (Int32.ofInt (0)))).toNatClampNeg))) 123 (((Int32.ofInt (0)) + Int32.ofInt (1))).toNatClampNeg (vp_nar .boolean (xI (xsetI hA 123 ((Int32.ofInt (0))).toNatClampNeg (vp_nar .boolean (xI hA 123 (((Int32.ofInt (3)) + (Int32.ofInt (0)))).toNatClampNeg))) 123 (((Int32.ofInt (3)) + ((Int32.ofInt (0)) + Int32.ofInt (1)))).toNatClampNeg))) 123 ((((Int32.ofInt (0)) + Int32.ofInt (1)) + Int32.ofInt (1))).toNatClampNeg (vp_nar .boolean (xI (xsetI (xsetI hA 123 ((Int32.ofInt (0))).toNatClampNeg (vp_nar .boolean (xI hA 123 (((Int32.ofInt (3)) + (Int32.ofInt (0)))).toNatClampNeg))) 123 (((Int32.ofInt (0)) + Int32.ofInt (1))).toNatClampNeg (vp_nar .boolean (xI (xsetI hA 123 ((Int32.ofInt (0))).toNatClampNeg (vp_nar .boolean (xI hA 123 (((Int32.ofInt (3)) + (Int32.ofInt (0)))).toNatClampNeg))) 123 (((Int32.ofInt (3)) + ((Int32.ofInt (0)) + Int32.ofInt (1)))).toNatClampNeg))) 123 (((Int32.ofInt (3)) + (((Int32.ofInt (0)) + Int32.ofInt (1)) + Int32.ofInt (1)))).toNatClampNeg)))) (inl := []) (n' := 120) (sp := [206]) (o := [1]) rfl rfl ⟨rfl, rfl, rfl⟩ rfl ⟨Nat.le_of_eq gA.2.2.2.1, Nat.le_of_eq gA.2.2.2.2⟩ ⟨⟨trivial, (by decide)⟩, (vnn gA.1 (rfl : vRf 104 39 = [124]) (by decide))⟩
  rw [vref gA.1 (rfl : vRf 104 39 = [124])] at t68
  have t69 := t67.tr t68
  obtain ⟨hB, eB⟩ : ∃ x, x = (xsetI (xsetI (xsetI hA 123 ((Int32.ofInt (0))).toNatClampNeg (vp_nar .boolean (xI hA 123 (((Int32.ofInt (3)) + (Int32.ofInt (0)))).toNatClampNeg))) 123 (((Int32.ofInt (0)) + Int32.ofInt (1))).toNatClampNeg (vp_nar .boolean (xI (xsetI hA 123 ((Int32.ofInt (0))).toNatClampNeg (vp_nar .boolean (xI hA 123 (((Int32.ofInt (3)) + (Int32.ofInt (0)))).toNatClampNeg))) 123 (((Int32.ofInt (3)) + ((Int32.ofInt (0)) + Int32.ofInt (1)))).toNatClampNeg))) 123 ((((Int32.ofInt (0)) + Int32.ofInt (1)) + Int32.ofInt (1))).toNatClampNeg (vp_nar .boolean (xI (xsetI (xsetI hA 123 ((Int32.ofInt (0))).toNatClampNeg (vp_nar .boolean (xI hA 123 (((Int32.ofInt (3)) + (Int32.ofInt (0)))).toNatClampNeg))) 123 (((Int32.ofInt (0)) + Int32.ofInt (1))).toNatClampNeg (vp_nar .boolean (xI (xsetI hA 123 ((Int32.ofInt (0))).toNatClampNeg (vp_nar .boolean (xI hA 123 (((Int32.ofInt (3)) + (Int32.ofInt (0)))).toNatClampNeg))) 123 (((Int32.ofInt (3)) + ((Int32.ofInt (0)) + Int32.ofInt (1)))).toNatClampNeg))) 123 (((Int32.ofInt (3)) + (((Int32.ofInt (0)) + Int32.ofInt (1)) + Int32.ofInt (1)))).toNatClampNeg))) := ⟨_, rfl⟩
  rw [← eB] at t69
  have bA : ∀ k, 0 ≤ (xI hA 123 k).toInt ∧ (xI hA 123 k).toInt ≤ 1 := fun k => by have z := vbnd gA.1 123 k; rw [vI_u rfl (rfl : vRow 123 = (0, 1))] at z; exact z
  have B3 : ∀ k, xI hB 123 k = if k < 3 then xI hA 123 (3 + k) else xI hA 123 k := by
    intro k
    rw [eB]
    rcases (by omega : k = 0 ∨ k = 1 ∨ k = 2 ∨ 3 ≤ k) with rfl | rfl | rfl | z
    · show vp_nar .boolean (xI hA 123 (3 + 0)) = xI hA 123 (3 + 0)
      exact vnar (bA _)
    · show vp_nar .boolean (xI hA 123 (3 + 1)) = xI hA 123 (3 + 1)
      exact vnar (bA _)
    · show vp_nar .boolean (xI hA 123 (3 + 2)) = xI hA 123 (3 + 2)
      exact vnar (bA _)
    · rw [if_neg (by omega), yI_ne (eq_false (fun y => by have := y.2; have e : ((((Int32.ofInt (0)) + Int32.ofInt (1)) + Int32.ofInt (1))).toNatClampNeg = 2 := rfl; omega)), yI_ne (eq_false (fun y => by have := y.2; have e : (((Int32.ofInt (0)) + Int32.ofInt (1))).toNatClampNeg = 1 := rfl; omega)), yI_ne (eq_false (fun y => by have := y.2; have e : ((Int32.ofInt (0))).toNatClampNeg = 0 := rfl; omega))]
  have BO : ∀ c, ¬ c = 123 → xI hB c = xI hA c := fun c hc => by rw [eB, yI_cF hc, yI_cF hc, yI_cF hc]
  have gB : sinv vT hB ∧ True ∧ True ∧ xN hB = 153 ∧ xU hB = 6051 := by
    refine ⟨⟨fun c k => ?_, fun c k => ?_⟩, trivial, trivial, ?_, ?_⟩
    · by_cases e : c = 123
      · subst e
        show (vI 123 k).1 ≤ _ ∧ _ ≤ (vI 123 k).2
        rw [vI_u rfl (rfl : vRow 123 = (0, 1)), B3]
        split
        · exact bA _
        · exact bA _
      · rw [BO c e]
        exact gA.1.1 c k
    · rw [eB]
      exact gA.1.2 c k
    · rw [eB]
      exact gA.2.2.2.1
    · rw [eB]
      exact gA.2.2.2.2
  have RB : ∀ c k, xR hB c k = xR h c k := fun c k => by rw [eB]; exact RA c k
  have t70 : XT l 3 100 false 173 153 6051 206 [xf 13 104, xi ((((Int32.ofInt (0)) + Int32.ofInt (1)) + Int32.ofInt (1)) + Int32.ofInt (1))] [xi (Int32.ofInt (3)), xf 10006 124] hB 209 [xf 13 104, xi ((((Int32.ofInt (0)) + Int32.ofInt (1)) + Int32.ofInt (1)) + Int32.ofInt (1))] [] (vcq hB 124 3 3) := XT_call (l := l) (fr := 3) (lo := 100) (full := false) (M := 173) (n := 153) (u := 6051) (pc := 206) (L := [xf 13 104, xi ((((Int32.ofInt (0)) + Int32.ofInt (1)) + Int32.ofInt (1)) + Int32.ofInt (1))]) (st := [xi (Int32.ofInt (3)), xf 10006 124]) (h := hB) (i := .invokestatic 174) (aux := 2) (nx := 209) (K := 174) (vs := [xf 10006 124, xi (Int32.ofInt (3))]) (rs := []) (rest := []) rfl rfl rfl rfl rfl rfl (vh_cp3 l 124 hB ⟨trivial, trivial, trivial, gB.2.2.2.1, gB.2.2.2.2⟩) (by decide) (by decide) (Nat.le_of_ble_eq_true rfl) ⟨Nat.le_of_eq gB.2.2.2.1, Nat.le_of_eq gB.2.2.2.2⟩
  have t71 := t69.tr t70
  have t72 : XT l 3 100 false 173 153 6051 209 [xf 13 104, xi ((((Int32.ofInt (0)) + Int32.ofInt (1)) + Int32.ofInt (1)) + Int32.ofInt (1))] [] (vcq hB 124 3 3) 214 [xf 13 104, xi ((((Int32.ofInt (0)) + Int32.ofInt (1)) + Int32.ofInt (1)) + Int32.ofInt (1))] [xi (Int32.ofInt (3)), xf 10006 (xR hB 104 40)] (vcq hB 124 3 3) := XT_path (l := l) (fr := 3) (lo := 100) (full := false) (M := 173) (n := 153) (u := 6051) (pc := 209) (L := [xf 13 104, xi ((((Int32.ofInt (0)) + Int32.ofInt (1)) + Int32.ofInt (1)) + Int32.ofInt (1))]) (st := []) (h := (vcq hB 124 3 3)) (inl := []) (n' := 120) (sp := [214]) (o := []) rfl rfl ⟨rfl, rfl, rfl⟩ rfl ⟨Nat.le_of_eq gB.2.2.2.1, Nat.le_of_eq gB.2.2.2.2⟩ ⟨trivial, (vnn gB.1 (rfl : vRf 104 40 = [125]) (by decide))⟩
  rw [vref gB.1 (rfl : vRf 104 40 = [125])] at t72
  have t73 := t71.tr t72
  have t74 : XT l 3 100 false 173 153 6051 214 [xf 13 104, xi ((((Int32.ofInt (0)) + Int32.ofInt (1)) + Int32.ofInt (1)) + Int32.ofInt (1))] [xi (Int32.ofInt (3)), xf 10006 125] (vcq hB 124 3 3) 217 [xf 13 104, xi ((((Int32.ofInt (0)) + Int32.ofInt (1)) + Int32.ofInt (1)) + Int32.ofInt (1))] [] (vcq (vcq hB 124 3 3) 125 3 3) := XT_call (l := l) (fr := 3) (lo := 100) (full := false) (M := 173) (n := 153) (u := 6051) (pc := 214) (L := [xf 13 104, xi ((((Int32.ofInt (0)) + Int32.ofInt (1)) + Int32.ofInt (1)) + Int32.ofInt (1))]) (st := [xi (Int32.ofInt (3)), xf 10006 125]) (h := (vcq hB 124 3 3)) (i := .invokestatic 174) (aux := 2) (nx := 217) (K := 174) (vs := [xf 10006 125, xi (Int32.ofInt (3))]) (rs := []) (rest := []) rfl rfl rfl rfl rfl rfl (vh_cp3 l 125 (vcq hB 124 3 3) ⟨trivial, trivial, trivial, gB.2.2.2.1, gB.2.2.2.2⟩) (by decide) (by decide) (Nat.le_of_ble_eq_true rfl) ⟨Nat.le_of_eq gB.2.2.2.1, Nat.le_of_eq gB.2.2.2.2⟩
  have t75 := t73.tr t74
  have t76 : XT l 3 100 false 173 153 6051 217 [xf 13 104, xi ((((Int32.ofInt (0)) + Int32.ofInt (1)) + Int32.ofInt (1)) + Int32.ofInt (1))] [] (vcq (vcq hB 124 3 3) 125 3 3) 223 [xf 13 104, xi ((((Int32.ofInt (0)) + Int32.ofInt (1)) + Int32.ofInt (1)) + Int32.ofInt (1))] [xi (Int32.ofInt (64)), xf 10128 (xR hB 104 41)] (vcq (vcq hB 124 3 3) 125 3 3) := XT_path (l := l) (fr := 3) (lo := 100) (full := false) (M := 173) (n := 153) (u := 6051) (pc := 217) (L := [xf 13 104, xi ((((Int32.ofInt (0)) + Int32.ofInt (1)) + Int32.ofInt (1)) + Int32.ofInt (1))]) (st := []) (h := (vcq (vcq hB 124 3 3) 125 3 3)) (inl := []) (n' := 120) (sp := [223]) (o := []) rfl rfl ⟨rfl, rfl, rfl⟩ rfl ⟨Nat.le_of_eq gB.2.2.2.1, Nat.le_of_eq gB.2.2.2.2⟩ ⟨trivial, (vnn gB.1 (rfl : vRf 104 41 = [126]) (by decide))⟩
  rw [vref gB.1 (rfl : vRf 104 41 = [126])] at t76
  have t77 := t75.tr t76
  have t78 : XT l 3 100 false 173 153 6051 223 [xf 13 104, xi ((((Int32.ofInt (0)) + Int32.ofInt (1)) + Int32.ofInt (1)) + Int32.ofInt (1))] [xi (Int32.ofInt (64)), xf 10128 126] (vcq (vcq hB 124 3 3) 125 3 3) 226 [xf 13 104, xi ((((Int32.ofInt (0)) + Int32.ofInt (1)) + Int32.ofInt (1)) + Int32.ofInt (1))] [] (vcq (vcq (vcq hB 124 3 3) 125 3 3) 126 64 64) := XT_call (l := l) (fr := 3) (lo := 100) (full := false) (M := 173) (n := 153) (u := 6051) (pc := 223) (L := [xf 13 104, xi ((((Int32.ofInt (0)) + Int32.ofInt (1)) + Int32.ofInt (1)) + Int32.ofInt (1))]) (st := [xi (Int32.ofInt (64)), xf 10128 126]) (h := (vcq (vcq hB 124 3 3) 125 3 3)) (i := .invokestatic 174) (aux := 2) (nx := 226) (K := 174) (vs := [xf 10128 126, xi (Int32.ofInt (64))]) (rs := []) (rest := []) rfl rfl rfl rfl rfl rfl (vh_cp64 l 126 (vcq (vcq hB 124 3 3) 125 3 3) ⟨trivial, trivial, trivial, gB.2.2.2.1, gB.2.2.2.2⟩) (by decide) (by decide) (Nat.le_of_ble_eq_true rfl) ⟨Nat.le_of_eq gB.2.2.2.1, Nat.le_of_eq gB.2.2.2.2⟩
  have t79 := t77.tr t78
  have t80 : XT l 3 100 false 173 153 6051 226 [xf 13 104, xi ((((Int32.ofInt (0)) + Int32.ofInt (1)) + Int32.ofInt (1)) + Int32.ofInt (1))] [] (vcq (vcq (vcq hB 124 3 3) 125 3 3) 126 64 64) 232 [xf 13 104, xi ((((Int32.ofInt (0)) + Int32.ofInt (1)) + Int32.ofInt (1)) + Int32.ofInt (1))] [xi (Int32.ofInt (64)), xf 10128 (xR hB 104 42)] (vcq (vcq (vcq hB 124 3 3) 125 3 3) 126 64 64) := XT_path (l := l) (fr := 3) (lo := 100) (full := false) (M := 173) (n := 153) (u := 6051) (pc := 226) (L := [xf 13 104, xi ((((Int32.ofInt (0)) + Int32.ofInt (1)) + Int32.ofInt (1)) + Int32.ofInt (1))]) (st := []) (h := (vcq (vcq (vcq hB 124 3 3) 125 3 3) 126 64 64)) (inl := []) (n' := 120) (sp := [232]) (o := []) rfl rfl ⟨rfl, rfl, rfl⟩ rfl ⟨Nat.le_of_eq gB.2.2.2.1, Nat.le_of_eq gB.2.2.2.2⟩ ⟨trivial, (vnn gB.1 (rfl : vRf 104 42 = [127]) (by decide))⟩
  rw [vref gB.1 (rfl : vRf 104 42 = [127])] at t80
  have t81 := t79.tr t80
  have t82 : XT l 3 100 false 173 153 6051 232 [xf 13 104, xi ((((Int32.ofInt (0)) + Int32.ofInt (1)) + Int32.ofInt (1)) + Int32.ofInt (1))] [xi (Int32.ofInt (64)), xf 10128 127] (vcq (vcq (vcq hB 124 3 3) 125 3 3) 126 64 64) 235 [xf 13 104, xi ((((Int32.ofInt (0)) + Int32.ofInt (1)) + Int32.ofInt (1)) + Int32.ofInt (1))] [] (vcq (vcq (vcq (vcq hB 124 3 3) 125 3 3) 126 64 64) 127 64 64) := XT_call (l := l) (fr := 3) (lo := 100) (full := false) (M := 173) (n := 153) (u := 6051) (pc := 232) (L := [xf 13 104, xi ((((Int32.ofInt (0)) + Int32.ofInt (1)) + Int32.ofInt (1)) + Int32.ofInt (1))]) (st := [xi (Int32.ofInt (64)), xf 10128 127]) (h := (vcq (vcq (vcq hB 124 3 3) 125 3 3) 126 64 64)) (i := .invokestatic 174) (aux := 2) (nx := 235) (K := 174) (vs := [xf 10128 127, xi (Int32.ofInt (64))]) (rs := []) (rest := []) rfl rfl rfl rfl rfl rfl (vh_cp64 l 127 (vcq (vcq (vcq hB 124 3 3) 125 3 3) 126 64 64) ⟨trivial, trivial, trivial, gB.2.2.2.1, gB.2.2.2.2⟩) (by decide) (by decide) (Nat.le_of_ble_eq_true rfl) ⟨Nat.le_of_eq gB.2.2.2.1, Nat.le_of_eq gB.2.2.2.2⟩
  have t83 := t81.tr t82
  have t84 : XT l 3 100 false 173 153 6051 235 [xf 13 104, xi ((((Int32.ofInt (0)) + Int32.ofInt (1)) + Int32.ofInt (1)) + Int32.ofInt (1))] [] (vcq (vcq (vcq (vcq hB 124 3 3) 125 3 3) 126 64 64) 127 64 64) 241 [xf 13 104, xi ((((Int32.ofInt (0)) + Int32.ofInt (1)) + Int32.ofInt (1)) + Int32.ofInt (1))] [xi (Int32.ofInt (64)), xf 10128 (xR hB 104 43)] (vcq (vcq (vcq (vcq hB 124 3 3) 125 3 3) 126 64 64) 127 64 64) := XT_path (l := l) (fr := 3) (lo := 100) (full := false) (M := 173) (n := 153) (u := 6051) (pc := 235) (L := [xf 13 104, xi ((((Int32.ofInt (0)) + Int32.ofInt (1)) + Int32.ofInt (1)) + Int32.ofInt (1))]) (st := []) (h := (vcq (vcq (vcq (vcq hB 124 3 3) 125 3 3) 126 64 64) 127 64 64)) (inl := []) (n' := 120) (sp := [241]) (o := []) rfl rfl ⟨rfl, rfl, rfl⟩ rfl ⟨Nat.le_of_eq gB.2.2.2.1, Nat.le_of_eq gB.2.2.2.2⟩ ⟨trivial, (vnn gB.1 (rfl : vRf 104 43 = [128]) (by decide))⟩
  rw [vref gB.1 (rfl : vRf 104 43 = [128])] at t84
  have t85 := t83.tr t84
  have t86 : XT l 3 100 false 173 153 6051 241 [xf 13 104, xi ((((Int32.ofInt (0)) + Int32.ofInt (1)) + Int32.ofInt (1)) + Int32.ofInt (1))] [xi (Int32.ofInt (64)), xf 10128 128] (vcq (vcq (vcq (vcq hB 124 3 3) 125 3 3) 126 64 64) 127 64 64) 244 [xf 13 104, xi ((((Int32.ofInt (0)) + Int32.ofInt (1)) + Int32.ofInt (1)) + Int32.ofInt (1))] [] (vcq (vcq (vcq (vcq (vcq hB 124 3 3) 125 3 3) 126 64 64) 127 64 64) 128 64 64) := XT_call (l := l) (fr := 3) (lo := 100) (full := false) (M := 173) (n := 153) (u := 6051) (pc := 241) (L := [xf 13 104, xi ((((Int32.ofInt (0)) + Int32.ofInt (1)) + Int32.ofInt (1)) + Int32.ofInt (1))]) (st := [xi (Int32.ofInt (64)), xf 10128 128]) (h := (vcq (vcq (vcq (vcq hB 124 3 3) 125 3 3) 126 64 64) 127 64 64)) (i := .invokestatic 174) (aux := 2) (nx := 244) (K := 174) (vs := [xf 10128 128, xi (Int32.ofInt (64))]) (rs := []) (rest := []) rfl rfl rfl rfl rfl rfl (vh_cp64 l 128 (vcq (vcq (vcq (vcq hB 124 3 3) 125 3 3) 126 64 64) 127 64 64) ⟨trivial, trivial, trivial, gB.2.2.2.1, gB.2.2.2.2⟩) (by decide) (by decide) (Nat.le_of_ble_eq_true rfl) ⟨Nat.le_of_eq gB.2.2.2.1, Nat.le_of_eq gB.2.2.2.2⟩
  have t87 := t85.tr t86
  have t88 : XT l 3 100 false 173 153 6051 244 [xf 13 104, xi ((((Int32.ofInt (0)) + Int32.ofInt (1)) + Int32.ofInt (1)) + Int32.ofInt (1))] [] (vcq (vcq (vcq (vcq (vcq hB 124 3 3) 125 3 3) 126 64 64) 127 64 64) 128 64 64) 245 [xf 13 104, xi ((((Int32.ofInt (0)) + Int32.ofInt (1)) + Int32.ofInt (1)) + Int32.ofInt (1))] [xf 13 104] (vcq (vcq (vcq (vcq (vcq hB 124 3 3) 125 3 3) 126 64 64) 127 64 64) 128 64 64) := XT_path (l := l) (fr := 3) (lo := 100) (full := false) (M := 173) (n := 153) (u := 6051) (pc := 244) (L := [xf 13 104, xi ((((Int32.ofInt (0)) + Int32.ofInt (1)) + Int32.ofInt (1)) + Int32.ofInt (1))]) (st := []) (h := (vcq (vcq (vcq (vcq (vcq hB 124 3 3) 125 3 3) 126 64 64) 127 64 64) 128 64 64)) (inl := []) (n' := 120) (sp := [245]) (o := []) rfl rfl ⟨rfl, rfl, rfl⟩ rfl ⟨Nat.le_of_eq gB.2.2.2.1, Nat.le_of_eq gB.2.2.2.2⟩ trivial
  have t89 := t87.tr t88
  obtain ⟨hK, eK⟩ : ∃ x, x = (vcq (vcq (vcq (vcq (vcq hB 124 3 3) 125 3 3) 126 64 64) 127 64 64) 128 64 64) := ⟨_, rfl⟩
  rw [← eK] at t89
  have sK : sinv vT hK := by rw [eK]; exact (sinv_cq (sinv_cq (sinv_cq (sinv_cq (sinv_cq gB.1 (c := 124) (n := 3) (i := 3) rfl) (c := 125) (n := 3) (i := 3) rfl) (c := 126) (n := 64) (i := 64) rfl) (c := 127) (n := 64) (i := 64) rfl) (c := 128) (n := 64) (i := 64) rfl)
  have nK : xN hK = 153 ∧ xU hK = 6051 := by rw [eK]; exact ⟨gB.2.2.2.1, gB.2.2.2.2⟩
  have RK : ∀ c k, xR hK c k = xR h c k := fun c k => by rw [eK]; exact RB c k
  have KO : ∀ c, ¬ c = 124 → ¬ c = 125 → ¬ c = 126 → ¬ c = 127 → ¬ c = 128 → xI hK c = xI hB c := fun c z1 z2 z3 z4 z5 => by rw [eK, vcq_ne z5, vcq_ne z4, vcq_ne z3, vcq_ne z2, vcq_ne z1]
  have k124 : ∀ k, xI hK 124 k = if k < 3 then xI h 124 (3 + k) else xI h 124 k := fun k => by rw [eK, vcq_ne (by decide), vcq_ne (by decide), vcq_ne (by decide), vcq_ne (by decide), vcq_same, BO 124 (by decide), AO 124 (by decide) (by decide)]
  have k125 : ∀ k, xI hK 125 k = if k < 3 then xI h 125 (3 + k) else xI h 125 k := fun k => by rw [eK, vcq_ne (by decide), vcq_ne (by decide), vcq_ne (by decide), vcq_same, vcq_ne (by decide), BO 125 (by decide), AO 125 (by decide) (by decide)]
  have k126 : ∀ k, xI hK 126 k = if k < 64 then xI h 126 (64 + k) else xI h 126 k := fun k => by rw [eK, vcq_ne (by decide), vcq_ne (by decide), vcq_same, vcq_ne (by decide), vcq_ne (by decide), BO 126 (by decide), AO 126 (by decide) (by decide)]
  have k127 : ∀ k, xI hK 127 k = if k < 64 then xI h 127 (64 + k) else xI h 127 k := fun k => by rw [eK, vcq_ne (by decide), vcq_same, vcq_ne (by decide), vcq_ne (by decide), vcq_ne (by decide), BO 127 (by decide), AO 127 (by decide) (by decide)]
  have k128 : ∀ k, xI hK 128 k = if k < 64 then xI h 128 (64 + k) else xI h 128 k := fun k => by rw [eK, vcq_same, vcq_ne (by decide), vcq_ne (by decide), vcq_ne (by decide), vcq_ne (by decide), BO 128 (by decide), AO 128 (by decide) (by decide)]
  have k123 : ∀ k, xI hK 123 k = if k < 3 then xI h 123 (3 + k) else xI h 123 k := fun k => by rw [KO 123 (by decide) (by decide) (by decide) (by decide) (by decide), B3, AO 123 (by decide) (by decide)]
  have k108 : ∀ k, xI hK 108 k = if k < 1 then xI h 108 (1 + k) else xI h 108 k := fun k => by rw [KO 108 (by decide) (by decide) (by decide) (by decide) (by decide), BO 108 (by decide)]; exact A108 k
  have k109 : ∀ k, xI hK 109 k = if k < 6 then xI h 109 (6 + k) else xI h 109 k := fun k => by rw [KO 109 (by decide) (by decide) (by decide) (by decide) (by decide), BO 109 (by decide)]; exact A109 k
  have k110 : ∀ k, xI hK 110 k = if k < 6 then xI h 110 (6 + k) else xI h 110 k := fun k => by rw [KO 110 (by decide) (by decide) (by decide) (by decide) (by decide), BO 110 (by decide)]; exact A110 k
  have k111 : ∀ k, xI hK 111 k = if k < 6 then xI h 111 (6 + k) else xI h 111 k := fun k => by rw [KO 111 (by decide) (by decide) (by decide) (by decide) (by decide), BO 111 (by decide)]; exact A111 k
  have k112 : ∀ k, xI hK 112 k = if k < 6 then xI h 112 (6 + k) else xI h 112 k := fun k => by rw [KO 112 (by decide) (by decide) (by decide) (by decide) (by decide), BO 112 (by decide)]; exact A112 k
  have k113 : ∀ k, xI hK 113 k = if k < 9 then xI h 113 (9 + k) else xI h 113 k := fun k => by rw [KO 113 (by decide) (by decide) (by decide) (by decide) (by decide), BO 113 (by decide)]; exact A113 k
  have k114 : ∀ k, xI hK 114 k = if k < 9 then xI h 114 (9 + k) else xI h 114 k := fun k => by rw [KO 114 (by decide) (by decide) (by decide) (by decide) (by decide), BO 114 (by decide)]; exact A114 k
  have k115 : ∀ k, xI hK 115 k = if k < 9 then xI h 115 (9 + k) else xI h 115 k := fun k => by rw [KO 115 (by decide) (by decide) (by decide) (by decide) (by decide), BO 115 (by decide)]; exact A115 k
  have k116 : ∀ k, xI hK 116 k = if k < 8 then xI h 116 (8 + k) else xI h 116 k := fun k => by rw [KO 116 (by decide) (by decide) (by decide) (by decide) (by decide), BO 116 (by decide)]; exact A116 k
  have k117 : ∀ k, xI hK 117 k = if k < 8 then xI h 117 (8 + k) else xI h 117 k := fun k => by rw [KO 117 (by decide) (by decide) (by decide) (by decide) (by decide), BO 117 (by decide)]; exact A117 k
  have k118 : ∀ k, xI hK 118 k = if k < 8 then xI h 118 (8 + k) else xI h 118 k := fun k => by rw [KO 118 (by decide) (by decide) (by decide) (by decide) (by decide), BO 118 (by decide)]; exact A118 k
  have k119 : ∀ k, xI hK 119 k = if k < 8 then xI h 119 (8 + k) else xI h 119 k := fun k => by rw [KO 119 (by decide) (by decide) (by decide) (by decide) (by decide), BO 119 (by decide)]; exact A119 k
  have k120 : ∀ k, xI hK 120 k = if k < 6 then xI h 120 (6 + k) else xI h 120 k := fun k => by rw [KO 120 (by decide) (by decide) (by decide) (by decide) (by decide), BO 120 (by decide)]; exact A120 k
  have k121 : ∀ k, xI hK 121 k = if k < 6 then xI h 121 (6 + k) else xI h 121 k := fun k => by rw [KO 121 (by decide) (by decide) (by decide) (by decide) (by decide), BO 121 (by decide)]; exact A121 k
  have k122 : ∀ k, xI hK 122 k = if k < 6 then xI h 122 (6 + k) else xI h 122 k := fun k => by rw [KO 122 (by decide) (by decide) (by decide) (by decide) (by decide), BO 122 (by decide)]; exact A122 k
  have kc : ∀ c, c ≠ 104 → (c < 108 ∨ 128 < c) → ∀ k, xI hK c k = xI h c k := fun c c1 c2 k => by rw [KO c (by omega) (by omega) (by omega) (by omega) (by omega), BO c (by omega), AO c c1 (by omega)]
  have k4 : ∀ j, xI hK 104 j = xI hA 104 j := fun j => by rw [KO 104 (by decide) (by decide) (by decide) (by decide) (by decide), BO 104 (by decide)]
  obtain ⟨gK, zK⟩ := vkept hg H sK nK ((k4 12).trans A12) ((k4 15).trans A15) (fun j hj => (k4 j).trans (A4 j hj)) kc k110 k117 k123 k124 k125 k126 k127 k128
  have FK : sframe ([(104, 12, false), (104, 13, false), (104, 14, false), (104, 15, false), (104, 16, false), (104, 63, false), (104, 64, false), (104, 72, false), (104, 73, false), (104, 76, false), (104, 78, false), (108, 0, true), (109, 0, true), (110, 0, true), (111, 0, true), (112, 0, true), (113, 0, true), (114, 0, true), (115, 0, true), (116, 0, true), (117, 0, true), (118, 0, true), (119, 0, true), (120, 0, true), (121, 0, true), (122, 0, true), (123, 0, true), (124, 0, true), (125, 0, true), (126, 0, true), (127, 0, true), (128, 0, true), (133, 0, true), (134, 0, true), (135, 0, true), (136, 0, true), (137, 0, true), (138, 0, true)], []) h hK := by
    refine ⟨fun c k hck => ?_, fun c k _ => RK c k⟩
    by_cases e : c = 104
    · subst e
      refine (k4 k).trans (A4 k ?_)
      rcases (by omega : (k < 12 ∨ 16 < k) ∨ k = 12 ∨ k = 13 ∨ k = 14 ∨ k = 15 ∨ k = 16) with z | rfl | rfl | rfl | rfl | rfl
      · exact z
      · cases hck
      · cases hck
      · cases hck
      · cases hck
      · cases hck
    · refine kc c e ?_ k
      rcases (by omega : (c < 108 ∨ 128 < c) ∨ c = 108 ∨ c = 109 ∨ c = 110 ∨ c = 111 ∨ c = 112 ∨ c = 113 ∨ c = 114 ∨ c = 115 ∨ c = 116 ∨ c = 117 ∨ c = 118 ∨ c = 119 ∨ c = 120 ∨ c = 121 ∨ c = 122 ∨ c = 123 ∨ c = 124 ∨ c = 125 ∨ c = 126 ∨ c = 127 ∨ c = 128) with z | rfl | rfl | rfl | rfl | rfl | rfl | rfl | rfl | rfl | rfl | rfl | rfl | rfl | rfl | rfl | rfl | rfl | rfl | rfl | rfl | rfl
      · exact z
      · cases hck
      · cases hck
      · cases hck
      · cases hck
      · cases hck
      · cases hck
      · cases hck
      · cases hck
      · cases hck
      · cases hck
      · cases hck
      · cases hck
      · cases hck
      · cases hck
      · cases hck
      · cases hck
      · cases hck
      · cases hck
      · cases hck
      · cases hck
      · cases hck
  obtain ⟨hE, cE, GE⟩ := vh_begin l hK gK zK
  have t90 : XT l 3 100 false 173 153 6051 245 [xf 13 104, xi ((((Int32.ofInt (0)) + Int32.ofInt (1)) + Int32.ofInt (1)) + Int32.ofInt (1))] [xf 13 104] hK 248 [xf 13 104, xi ((((Int32.ofInt (0)) + Int32.ofInt (1)) + Int32.ofInt (1)) + Int32.ofInt (1))] [] hE := XT_call (l := l) (fr := 3) (lo := 100) (full := false) (M := 173) (n := 153) (u := 6051) (pc := 245) (L := [xf 13 104, xi ((((Int32.ofInt (0)) + Int32.ofInt (1)) + Int32.ofInt (1)) + Int32.ofInt (1))]) (st := [xf 13 104]) (h := hK) (i := .invokevirtual 175) (aux := 1) (nx := 248) (K := 175) (vs := [xf 13 104]) (rs := []) (rest := []) rfl rfl rfl rfl rfl rfl cE (by decide) (by decide) (Nat.le_of_ble_eq_true rfl) ⟨Nat.le_of_eq GE.1.2.2.2.1, Nat.le_of_eq GE.1.2.2.2.2⟩
  have t91 := t89.tr t90
  exact ⟨hE, CX_ofT (h' := hE) (by decide) rfl rfl trivial ⟨_, _, _, rfl, rfl, rfl⟩ rfl ⟨Nat.le_of_eq GE.1.2.2.2.1.symm, Nat.le_of_eq GE.1.2.2.2.2.symm⟩ t91, ⟨GE.1, FK.tr (GE.2.mono rfl rfl)⟩⟩
set_option maxRecDepth 100000 in
set_option maxHeartbeats 2000000 in
theorem vh_textL (l : Launch) (n : Int32) : ∀ (m : Nat) (b : Int32) (h : XH), sgood vT vR vE 153 6051 h → vLn h → 700 - (xI h 104 7).toInt ≤ m → ∃ v pc L' h', XT l 7 260 false 179 153 6051 55 [xf 13 104, xi n, xi b] [] h pc L' [xi v] h' ∧ XE 179 pc [xi v] ∧ L'.length = 3 ∧ vG ([(104, 4, false), (104, 5, false), (104, 7, false), (104, 8, false), (104, 9, false), (104, 10, false), (104, 11, false), (104, 12, false), (104, 13, false), (104, 14, false), (104, 15, false), (104, 16, false), (104, 17, false), (104, 18, false), (104, 19, false), (104, 20, false), (104, 21, false), (104, 46, false), (104, 47, false), (104, 48, false), (104, 49, false), (104, 50, false), (104, 51, false), (104, 63, false), (104, 64, false), (104, 72, false), (104, 73, false), (104, 76, false), (104, 78, false), (107, 0, true), (108, 0, true), (109, 0, true), (110, 0, true), (111, 0, true), (112, 0, true), (113, 0, true), (114, 0, true), (115, 0, true), (116, 0, true), (117, 0, true), (118, 0, true), (119, 0, true), (120, 0, true), (121, 0, true), (122, 0, true), (123, 0, true), (124, 0, true), (125, 0, true), (126, 0, true), (127, 0, true), (128, 0, true), (129, 0, true), (130, 0, true), (133, 0, true), (134, 0, true), (135, 0, true), (136, 0, true), (137, 0, true), (138, 0, true)], []) h h'
  | m, b, h, hg, H, hm => by
    have b7 : 0 ≤ (xI h 104 7).toInt ∧ (xI h 104 7).toInt ≤ 700 := vbnd hg.1 104 7
    by_cases c1 : (xI h 104 8) = 0
    · have t2 : XT l 7 260 false 179 153 6051 55 [xf 13 104, xi n, xi b] [] h 78 [xf 13 104, xi n, xi b] [xf 13 104] h := XT_path (l := l) (fr := 7) (lo := 260) (full := false) (M := 179) (n := 153) (u := 6051) (pc := 55) (L := [xf 13 104, xi n, xi b]) (st := []) (h := h) (inl := []) (n' := 120) (sp := [78]) (o := [1]) rfl rfl ⟨rfl, rfl, rfl⟩ rfl ⟨Nat.le_of_eq hg.2.2.2.1, Nat.le_of_eq hg.2.2.2.2⟩ ⟨trivial, c1⟩
      obtain ⟨h1, c1, g1⟩ := vh_keep l h hg H
      have t3 : XT l 7 260 false 179 153 6051 78 [xf 13 104, xi n, xi b] [xf 13 104] h 81 [xf 13 104, xi n, xi b] [] h1 := XT_call (l := l) (fr := 7) (lo := 260) (full := false) (M := 179) (n := 153) (u := 6051) (pc := 78) (L := [xf 13 104, xi n, xi b]) (st := [xf 13 104]) (h := h) (i := .invokevirtual 173) (aux := 1) (nx := 81) (K := 173) (vs := [xf 13 104]) (rs := []) (rest := []) rfl rfl rfl rfl rfl rfl c1 (by decide) (by decide) (Nat.le_of_ble_eq_true rfl) ⟨Nat.le_of_eq g1.1.2.2.2.1, Nat.le_of_eq g1.1.2.2.2.2⟩
      have t4 := t2.tr t3
      have t5 : XT l 7 260 false 179 153 6051 81 [xf 13 104, xi n, xi b] [] h1 82 [xf 13 104, xi n, xi b] [xi b] h1 := XT_path (l := l) (fr := 7) (lo := 260) (full := false) (M := 179) (n := 153) (u := 6051) (pc := 81) (L := [xf 13 104, xi n, xi b]) (st := []) (h := h1) (inl := []) (n' := 120) (sp := [82]) (o := []) rfl rfl ⟨rfl, rfl, rfl⟩ rfl ⟨Nat.le_of_eq g1.1.2.2.2.1, Nat.le_of_eq g1.1.2.2.2.2⟩ trivial
      have t6 := t4.tr t5
      exact ⟨_, _, _, h1, t6, ⟨_, _, _, rfl, rfl, rfl⟩, rfl, ⟨g1.1, g1.2.mono rfl rfl⟩⟩
    · have t7 : XT l 7 260 false 179 153 6051 55 [xf 13 104, xi n, xi b] [] h 63 [xf 13 104, xi n, xi b] [xf 13 104] h := XT_path (l := l) (fr := 7) (lo := 260) (full := false) (M := 179) (n := 153) (u := 6051) (pc := 55) (L := [xf 13 104, xi n, xi b]) (st := []) (h := h) (inl := []) (n' := 120) (sp := [63]) (o := [0]) rfl rfl ⟨rfl, rfl, rfl⟩ rfl ⟨Nat.le_of_eq hg.2.2.2.1, Nat.le_of_eq hg.2.2.2.2⟩ ⟨trivial, c1⟩
      obtain ⟨v, h1, c1, g1, v01, st⟩ := vh_line l h hg H
      have t8 : XT l 7 260 false 179 153 6051 63 [xf 13 104, xi n, xi b] [xf 13 104] h 66 [xf 13 104, xi n, xi b] [xi v] h1 := XT_call (l := l) (fr := 7) (lo := 260) (full := false) (M := 179) (n := 153) (u := 6051) (pc := 63) (L := [xf 13 104, xi n, xi b]) (st := [xf 13 104]) (h := h) (i := .invokevirtual 186) (aux := 1) (nx := 66) (K := 186) (vs := [xf 13 104]) (rs := [xi v]) (rest := []) rfl rfl rfl rfl rfl rfl c1 (by decide) (by decide) (Nat.le_of_ble_eq_true rfl) ⟨Nat.le_of_eq g1.1.2.2.2.1, Nat.le_of_eq g1.1.2.2.2.2⟩
      have t9 := t7.tr t8
      by_cases c10 : v = 0
      · have t11 : XT l 7 260 false 179 153 6051 66 [xf 13 104, xi n, xi b] [xi v] h1 70 [xf 13 104, xi n, xi b] [xi (Int32.ofInt (-1))] h1 := XT_path (l := l) (fr := 7) (lo := 260) (full := false) (M := 179) (n := 153) (u := 6051) (pc := 66) (L := [xf 13 104, xi n, xi b]) (st := [xi v]) (h := h1) (inl := []) (n' := 120) (sp := [70]) (o := [0]) rfl rfl ⟨rfl, rfl, rfl⟩ rfl ⟨Nat.le_of_eq g1.1.2.2.2.1, Nat.le_of_eq g1.1.2.2.2.2⟩ ⟨trivial, c10⟩
        have t12 := t9.tr t11
        exact ⟨_, _, _, h1, t12, ⟨_, _, _, rfl, rfl, rfl⟩, rfl, ⟨g1.1, g1.2.mono rfl rfl⟩⟩
      · have t13 : XT l 7 260 false 179 153 6051 66 [xf 13 104, xi n, xi b] [xi v] h1 55 [xf 13 104, xi n, xi (b + Int32.ofInt (1))] [] h1 := XT_path (l := l) (fr := 7) (lo := 260) (full := false) (M := 179) (n := 153) (u := 6051) (pc := 66) (L := [xf 13 104, xi n, xi b]) (st := [xi v]) (h := h1) (inl := []) (n' := 120) (sp := [55]) (o := [1]) rfl rfl ⟨rfl, rfl, rfl⟩ rfl ⟨Nat.le_of_eq g1.1.2.2.2.1, Nat.le_of_eq g1.1.2.2.2.2⟩ ⟨trivial, c10⟩
        have t14 := t9.tr t13
        obtain ⟨s1, s2⟩ := st c10
        have b1 : 0 ≤ (xI h1 104 7).toInt ∧ (xI h1 104 7).toInt ≤ 700 := vbnd g1.1.1 104 7
        have m1 : 1 ≤ m := by omega
        obtain ⟨v', pc, L', h2, y1, y2, y3, y4⟩ := vh_textL l n (m - 1) (b + Int32.ofInt (1)) h1 g1.1 s1 (by omega)
        exact ⟨v', pc, L', h2, t14.tr y1, y2, y3, ⟨y4.1, (g1.2.mono rfl rfl).tr y4.2⟩⟩
termination_by m => m
decreasing_by all_goals omega
def sns : SRl → Bool
  | .inl r => !stch [(104, 6, false), (104, 7, false)] (.inl r)
  | .inr r => !stch [(104, 6, false), (104, 7, false)] (.inr r) || ((Nat.beq r.1.1 104 && Nat.beq r.1.2 7) && (Nat.beq r.2.1 104 && Nat.beq r.2.2 6))
theorem sns_all : vR.all sns = true := by decide +kernel
theorem srw_ns {h h' : XH} (hr : srw vR [] h) (he : ∀ c k, ¬ (c = 104 ∧ k = 6) → ¬ (c = 104 ∧ k = 7) → swin vRC c k = true → xI h' c k = xI h c k) (hl : (xI h' 104 7).toInt ≤ (xI h' 104 6).toInt) : srw vR [] h' := by
  intro r hm _
  have y := List.all_eq_true.mp sns_all r hm
  have z := vRC_in (vR_c r hm)
  have emp : ∀ r : SRl, stch [] r = false := fun r => by
    cases r with
    | inl r =>
      show (r.1.any (fun q => swin [] q.1 q.2.1) || swin [] r.2.1 r.2.2.1) = false
      rw [show (fun q : SQ => swin [] q.1 q.2.1) = (fun _ => false) from rfl, List.any_eq_false.mpr (fun _ _ => by simp)]
      rfl
    | inr r => rfl
  have nt : ∀ c k, swin [(104, 6, false), (104, 7, false)] c k = false → ¬ (c = 104 ∧ k = 6) ∧ ¬ (c = 104 ∧ k = 7) := fun c k e => by
    refine ⟨fun w => ?_, fun w => ?_⟩
    · rw [w.1, w.2] at e
      exact absurd e (by decide)
    · rw [w.1, w.2] at e
      exact absurd e (by decide)
  cases r with
  | inl r =>
    have y : (!stch [(104, 6, false), (104, 7, false)] (.inl r)) = true := y
    have y : (r.1.any (fun q => swin [(104, 6, false), (104, 7, false)] q.1 q.2.1) || swin [(104, 6, false), (104, 7, false)] r.2.1 r.2.2.1) = false := by
      rw [Bool.not_eq_true'] at y
      exact y
    rw [Bool.or_eq_false_iff] at y
    intro hall
    have e2 := nt _ _ y.2
    have : sqin h r.2 := hr (.inl r) hm (emp _) (fun q hq => by
      have e1 := nt q.1 q.2.1 (by
        have := List.any_eq_false.mp y.1 q hq
        simpa using this)
      have := hall q hq
      unfold sqin at this ⊢
      rw [he _ _ e1.1 e1.2 (z.1 q hq)] at this
      exact this)
    unfold sqin at this ⊢
    rw [he _ _ e2.1 e2.2 z.2]
    exact this
  | inr r =>
    have y : (!stch [(104, 6, false), (104, 7, false)] (.inr r) || ((Nat.beq r.1.1 104 && Nat.beq r.1.2 7) && (Nat.beq r.2.1 104 && Nat.beq r.2.2 6))) = true := y
    show (xI h' r.1.1 r.1.2).toInt ≤ (xI h' r.2.1 r.2.2).toInt
    rw [Bool.or_eq_true] at y
    rcases y with y | y
    · rw [Bool.not_eq_true'] at y
      have y : (swin [(104, 6, false), (104, 7, false)] r.1.1 r.1.2 || swin [(104, 6, false), (104, 7, false)] r.2.1 r.2.2) = false := y
      rw [Bool.or_eq_false_iff] at y
      have e1 := nt _ _ y.1
      have e2 := nt _ _ y.2
      rw [he _ _ e1.1 e1.2 z.1, he _ _ e2.1 e2.2 z.2]
      exact hr (.inr r) hm (emp _)
    · rw [Bool.and_eq_true, Bool.and_eq_true, Bool.and_eq_true] at y
      rw [Nat.eq_of_beq_eq_true y.1.1, Nat.eq_of_beq_eq_true y.1.2, Nat.eq_of_beq_eq_true y.2.1, Nat.eq_of_beq_eq_true y.2.2]
      exact hl
set_option maxRecDepth 100000 in
set_option maxHeartbeats 2000000 in
theorem vh_text (l : Launch) (n : Int32) (h : XH) (hg : sgood vT vR vE 153 6051 h) : ∃ v h', CX l 7 260 false 179 [xf 13 104, xi n] h [xi v] h' ∧ vG ([(104, 1, false), (104, 2, false), (104, 4, false), (104, 5, false), (104, 6, false), (104, 7, false), (104, 8, false), (104, 9, false), (104, 10, false), (104, 11, false), (104, 12, false), (104, 13, false), (104, 14, false), (104, 15, false), (104, 16, false), (104, 17, false), (104, 18, false), (104, 19, false), (104, 20, false), (104, 21, false), (104, 46, false), (104, 47, false), (104, 48, false), (104, 49, false), (104, 50, false), (104, 51, false), (104, 63, false), (104, 64, false), (104, 72, false), (104, 73, false), (104, 76, false), (104, 78, false), (107, 0, true), (108, 0, true), (109, 0, true), (110, 0, true), (111, 0, true), (112, 0, true), (113, 0, true), (114, 0, true), (115, 0, true), (116, 0, true), (117, 0, true), (118, 0, true), (119, 0, true), (120, 0, true), (121, 0, true), (122, 0, true), (123, 0, true), (124, 0, true), (125, 0, true), (126, 0, true), (127, 0, true), (128, 0, true), (129, 0, true), (130, 0, true), (133, 0, true), (134, 0, true), (135, 0, true), (136, 0, true), (137, 0, true), (138, 0, true)], []) h h' ∧ ((n.toInt < 0 ∨ (xI h 104 1).toInt < n.toInt) → xI h' 104 1 = xI h 104 1) ∧ (0 ≤ n.toInt → n.toInt ≤ (xI h 104 1).toInt → xI h' 104 1 = Int32.ofInt (0)) := by
  have e0 : (0 : Int32).toInt = 0 := rfl
  have b1 : 0 ≤ (xI h 104 1).toInt ∧ (xI h 104 1).toInt ≤ 700 := vbnd hg.1 104 1
  by_cases c15 : n < 0
  · have d6 : n.toInt < (0 : Int32).toInt := Int32.lt_iff_toInt_lt.mp c15
    have t16 : XT l 7 260 false 179 153 6051 0 [xf 13 104, xi n, xun] [] h 19 [xf 13 104, xi n, xun] [xi (Int32.ofInt (-2))] (xsetI h 104 2 (Int32.ofInt (0))) := XT_path (l := l) (fr := 7) (lo := 260) (full := false) (M := 179) (n := 153) (u := 6051) (pc := 0) (L := [xf 13 104, xi n, xun]) (st := []) (h := h) (inl := []) (n' := 120) (sp := [19]) (o := [1]) rfl rfl ⟨rfl, rfl, rfl⟩ rfl ⟨Nat.le_of_eq hg.2.2.2.1, Nat.le_of_eq hg.2.2.2.2⟩ ⟨trivial, c15⟩
    have G1 : vG ([(104, 1, false), (104, 2, false), (104, 4, false), (104, 5, false), (104, 6, false), (104, 7, false), (104, 8, false), (104, 9, false), (104, 10, false), (104, 11, false), (104, 12, false), (104, 13, false), (104, 14, false), (104, 15, false), (104, 16, false), (104, 17, false), (104, 18, false), (104, 19, false), (104, 20, false), (104, 21, false), (104, 46, false), (104, 47, false), (104, 48, false), (104, 49, false), (104, 50, false), (104, 51, false), (104, 63, false), (104, 64, false), (104, 72, false), (104, 73, false), (104, 76, false), (104, 78, false), (107, 0, true), (108, 0, true), (109, 0, true), (110, 0, true), (111, 0, true), (112, 0, true), (113, 0, true), (114, 0, true), (115, 0, true), (116, 0, true), (117, 0, true), (118, 0, true), (119, 0, true), (120, 0, true), (121, 0, true), (122, 0, true), (123, 0, true), (124, 0, true), (125, 0, true), (126, 0, true), (127, 0, true), (128, 0, true), (129, 0, true), (130, 0, true), (133, 0, true), (134, 0, true), (135, 0, true), (136, 0, true), (137, 0, true), (138, 0, true)], []) h (xsetI h 104 2 (Int32.ofInt (0))) := (vG.rf hg).set (by decide) (by decide +kernel) vEC104 rfl
    exact ⟨_, _, CX_ofT (h' := (xsetI h 104 2 (Int32.ofInt (0)))) (by decide) rfl rfl trivial ⟨_, _, _, rfl, rfl, rfl⟩ rfl ⟨Nat.le_of_eq hg.2.2.2.1.symm, Nat.le_of_eq hg.2.2.2.2.symm⟩ t16, G1, fun _ => yI_ne (by decide), fun z1 z2 => by omega⟩
  · have d6 : ¬ n.toInt < (0 : Int32).toInt := fun z => c15 (Int32.lt_iff_toInt_lt.mpr z)
    by_cases c17 : n ≤ (xI h 104 1)
    · have d14 : n.toInt ≤ (xI h 104 1).toInt := Int32.le_iff_toInt_le.mp c17
      have t18 : XT l 7 260 false 179 153 6051 0 [xf 13 104, xi n, xun] [] h 46 [xf 13 104, xi n, xun] [xf 13 104] (xsetI (xsetI (xsetI (xsetI (xsetI (xsetI h 104 2 (Int32.ofInt (0))) 104 6 n) 104 1 (Int32.ofInt (0))) 104 4 (Int32.ofInt (0))) 104 5 (Int32.ofInt (-1))) 104 7 (Int32.ofInt (0))) := XT_path (l := l) (fr := 7) (lo := 260) (full := false) (M := 179) (n := 153) (u := 6051) (pc := 0) (L := [xf 13 104, xi n, xun]) (st := []) (h := h) (inl := []) (n' := 120) (sp := [46]) (o := [0, 1]) rfl rfl ⟨rfl, rfl, rfl⟩ rfl ⟨Nat.le_of_eq hg.2.2.2.1, Nat.le_of_eq hg.2.2.2.2⟩ ⟨⟨trivial, c15⟩, c17⟩
      obtain ⟨h1, e1⟩ : ∃ x, x = (xsetI (xsetI (xsetI (xsetI (xsetI (xsetI h 104 2 (Int32.ofInt (0))) 104 6 n) 104 1 (Int32.ofInt (0))) 104 4 (Int32.ofInt (0))) 104 5 (Int32.ofInt (-1))) 104 7 (Int32.ofInt (0))) := ⟨_, rfl⟩
      rw [← e1] at t18
      have s1 : sinv vT h1 := by rw [e1]; exact (sinv_setI (sinv_setI (sinv_setI (sinv_setI (sinv_setI (sinv_setI hg.1 (c := 104) (k := 2) (v := (Int32.ofInt (0))) (by decide)) (c := 104) (k := 6) (v := n) (by show (0 : Int) ≤ n.toInt ∧ n.toInt ≤ 700; omega)) (c := 104) (k := 1) (v := (Int32.ofInt (0))) (by decide)) (c := 104) (k := 4) (v := (Int32.ofInt (0))) (by decide)) (c := 104) (k := 5) (v := (Int32.ofInt (-1))) (by decide)) (c := 104) (k := 7) (v := (Int32.ofInt (0))) (by decide))
      have o1 : ∀ c j, ¬ (c = 104 ∧ (j = 2 ∨ j = 6 ∨ j = 1 ∨ j = 4 ∨ j = 5 ∨ j = 7)) → xI h1 c j = xI h c j := fun c j z => by rw [e1, yI_ne (eq_false (by omega)), yI_ne (eq_false (by omega)), yI_ne (eq_false (by omega)), yI_ne (eq_false (by omega)), yI_ne (eq_false (by omega)), yI_ne (eq_false (by omega))]
      have w1 : xI h1 104 1 = (Int32.ofInt (0)) := by rw [e1]; exact (yI_ne (by decide)).trans ((yI_ne (by decide)).trans ((yI_ne (by decide)).trans (yI_same)))
      have w6 : xI h1 104 6 = n := by rw [e1]; exact (yI_ne (by decide)).trans ((yI_ne (by decide)).trans ((yI_ne (by decide)).trans ((yI_ne (by decide)).trans (yI_same))))
      have w7 : xI h1 104 7 = (Int32.ofInt (0)) := by rw [e1]; exact yI_same
      have rk : vRC.all (fun q => !Nat.beq q.1 104 || (!Nat.beq q.2.1 1 && (!Nat.beq q.2.1 2 && (!Nat.beq q.2.1 4 && (!Nat.beq q.2.1 5 && !q.2.2))))) = true := by decide +kernel
      have g1 : sgood vT vR vE 153 6051 h1 := by
        refine ⟨s1, srw_ns hg.2.1 (fun c k z1 z2 z3 => o1 c k (fun z => ?_)) (by rw [w6, w7]; show (0 : Int) ≤ n.toInt; omega), vE_fr h _ (fun c k hck => o1 c k (fun z => ?_)) hg.2.2.1, by rw [e1]; exact hg.2.2.2⟩
        · unfold swin at z3
          obtain ⟨q, hq, hz⟩ := List.any_eq_true.mp z3
          have y := List.all_eq_true.mp rk q hq
          obtain ⟨q1, q2, q3⟩ := q
          simp only [Bool.and_eq_true, Bool.or_eq_true, Bool.not_eq_true'] at y hz
          obtain ⟨hz1, hz2⟩ := hz
          have hz1 := Nat.eq_of_beq_eq_true hz1
          have hz3 : q1 = 104 := hz1.trans z.1
          rcases y with y | ⟨y1, y2, y4, y5, y6⟩
          · rw [hz3] at y; exact absurd y (by decide)
          · rw [y6] at hz2
            rcases hz2 with hz2 | hz2
            · cases hz2
            · have hk := Nat.eq_of_beq_eq_true hz2
              rw [hk] at y1 y2 y4 y5
              have no : ∀ j, Nat.beq k j = false → k ≠ j := fun j hb e => by rw [e, Nat.beq_refl] at hb; cases hb
              have := no _ y1; have := no _ y2; have := no _ y4; have := no _ y5
              omega
        · rw [z.1, vEC_no vEC104] at hck
          cases hck
      have F1 : sframe ([(104, 1, false), (104, 2, false), (104, 4, false), (104, 5, false), (104, 6, false), (104, 7, false), (104, 8, false), (104, 9, false), (104, 10, false), (104, 11, false), (104, 12, false), (104, 13, false), (104, 14, false), (104, 15, false), (104, 16, false), (104, 17, false), (104, 18, false), (104, 19, false), (104, 20, false), (104, 21, false), (104, 46, false), (104, 47, false), (104, 48, false), (104, 49, false), (104, 50, false), (104, 51, false), (104, 63, false), (104, 64, false), (104, 72, false), (104, 73, false), (104, 76, false), (104, 78, false), (107, 0, true), (108, 0, true), (109, 0, true), (110, 0, true), (111, 0, true), (112, 0, true), (113, 0, true), (114, 0, true), (115, 0, true), (116, 0, true), (117, 0, true), (118, 0, true), (119, 0, true), (120, 0, true), (121, 0, true), (122, 0, true), (123, 0, true), (124, 0, true), (125, 0, true), (126, 0, true), (127, 0, true), (128, 0, true), (129, 0, true), (130, 0, true), (133, 0, true), (134, 0, true), (135, 0, true), (136, 0, true), (137, 0, true), (138, 0, true)], []) h h1 := by
        rw [e1]
        exact ((((((sframe_set rfl).tr (sframe_set rfl)).tr (sframe_set rfl)).tr (sframe_set rfl)).tr (sframe_set rfl)).tr (sframe_set rfl))
      obtain ⟨h2, c2, G2, L2⟩ := vh_plain l h1 g1
      have t19 : XT l 7 260 false 179 153 6051 46 [xf 13 104, xi n, xun] [xf 13 104] h1 49 [xf 13 104, xi n, xun] [] h2 := XT_call (l := l) (fr := 7) (lo := 260) (full := false) (M := 179) (n := 153) (u := 6051) (pc := 46) (L := [xf 13 104, xi n, xun]) (st := [xf 13 104]) (h := h1) (i := .invokevirtual 172) (aux := 1) (nx := 49) (K := 172) (vs := [xf 13 104]) (rs := []) (rest := []) rfl rfl rfl rfl rfl rfl c2 (by decide) (by decide) (Nat.le_of_ble_eq_true rfl) ⟨Nat.le_of_eq G2.1.2.2.2.1, Nat.le_of_eq G2.1.2.2.2.2⟩
      have t20 := t18.tr t19
      have t21 : XT l 7 260 false 179 153 6051 49 [xf 13 104, xi n, xun] [] h2 50 [xf 13 104, xi n, xun] [xf 13 104] h2 := XT_path (l := l) (fr := 7) (lo := 260) (full := false) (M := 179) (n := 153) (u := 6051) (pc := 49) (L := [xf 13 104, xi n, xun]) (st := []) (h := h2) (inl := []) (n' := 120) (sp := [50]) (o := []) rfl rfl ⟨rfl, rfl, rfl⟩ rfl ⟨Nat.le_of_eq G2.1.2.2.2.1, Nat.le_of_eq G2.1.2.2.2.2⟩ trivial
      have t22 := t20.tr t21
      obtain ⟨h3, c3, g3, f3, -, -⟩ := vh_token l h2 G2.1
      have L3 : vLn h3 := vLn_fr L2 (f3.1 _ _ rfl) (f3.1 _ _ rfl) (fun c c1 c2 k => f3.1 c k (by rcases (by omega : c = 123 ∨ c = 124 ∨ c = 125 ∨ c = 126 ∨ c = 127 ∨ c = 128) with rfl | rfl | rfl | rfl | rfl | rfl <;> rfl))
      have t23 : XT l 7 260 false 179 153 6051 50 [xf 13 104, xi n, xun] [xf 13 104] h2 53 [xf 13 104, xi n, xun] [] h3 := XT_call (l := l) (fr := 7) (lo := 260) (full := false) (M := 179) (n := 153) (u := 6051) (pc := 50) (L := [xf 13 104, xi n, xun]) (st := [xf 13 104]) (h := h2) (i := .invokevirtual 180) (aux := 1) (nx := 53) (K := 180) (vs := [xf 13 104]) (rs := []) (rest := []) rfl rfl rfl rfl rfl rfl c3 (by decide) (by decide) (Nat.le_of_ble_eq_true rfl) ⟨Nat.le_of_eq g3.2.2.2.1, Nat.le_of_eq g3.2.2.2.2⟩
      have t24 := t22.tr t23
      have t25 : XT l 7 260 false 179 153 6051 53 [xf 13 104, xi n, xun] [] h3 55 [xf 13 104, xi n, xi (Int32.ofInt (0))] [] h3 := XT_path (l := l) (fr := 7) (lo := 260) (full := false) (M := 179) (n := 153) (u := 6051) (pc := 53) (L := [xf 13 104, xi n, xun]) (st := []) (h := h3) (inl := []) (n' := 120) (sp := [55]) (o := []) rfl rfl ⟨rfl, rfl, rfl⟩ rfl ⟨Nat.le_of_eq g3.2.2.2.1, Nat.le_of_eq g3.2.2.2.2⟩ trivial
      have t26 := t24.tr t25
      have b3 : 0 ≤ (xI h3 104 7).toInt ∧ (xI h3 104 7).toInt ≤ 700 := vbnd g3.1 104 7
      obtain ⟨v, pc, L', h4, y1, y2, y3, y4⟩ := vh_textL l n 700 (Int32.ofInt (0)) h3 g3 L3 (by omega)
      refine ⟨v, h4, CX_ofT (by decide) rfl rfl trivial y2 y3 ⟨Nat.le_of_eq y4.1.2.2.2.1.symm, Nat.le_of_eq y4.1.2.2.2.2.symm⟩ (t26.tr y1), ⟨y4.1, ((F1.tr (G2.2.mono rfl rfl)).tr (f3.mono rfl rfl)).tr (y4.2.mono rfl rfl)⟩, fun z => by omega, fun _ _ => ?_⟩
      rw [y4.2.1 104 1 rfl, f3.1 104 1 rfl, G2.2.1 104 1 rfl, w1]
    · have d14 : ¬ n.toInt ≤ (xI h 104 1).toInt := fun z => c17 (Int32.le_iff_toInt_le.mpr z)
      have t27 : XT l 7 260 false 179 153 6051 0 [xf 13 104, xi n, xun] [] h 19 [xf 13 104, xi n, xun] [xi (Int32.ofInt (-2))] (xsetI h 104 2 (Int32.ofInt (0))) := XT_path (l := l) (fr := 7) (lo := 260) (full := false) (M := 179) (n := 153) (u := 6051) (pc := 0) (L := [xf 13 104, xi n, xun]) (st := []) (h := h) (inl := []) (n' := 120) (sp := [19]) (o := [0, 0]) rfl rfl ⟨rfl, rfl, rfl⟩ rfl ⟨Nat.le_of_eq hg.2.2.2.1, Nat.le_of_eq hg.2.2.2.2⟩ ⟨⟨trivial, c15⟩, c17⟩
      have G1 : vG ([(104, 1, false), (104, 2, false), (104, 4, false), (104, 5, false), (104, 6, false), (104, 7, false), (104, 8, false), (104, 9, false), (104, 10, false), (104, 11, false), (104, 12, false), (104, 13, false), (104, 14, false), (104, 15, false), (104, 16, false), (104, 17, false), (104, 18, false), (104, 19, false), (104, 20, false), (104, 21, false), (104, 46, false), (104, 47, false), (104, 48, false), (104, 49, false), (104, 50, false), (104, 51, false), (104, 63, false), (104, 64, false), (104, 72, false), (104, 73, false), (104, 76, false), (104, 78, false), (107, 0, true), (108, 0, true), (109, 0, true), (110, 0, true), (111, 0, true), (112, 0, true), (113, 0, true), (114, 0, true), (115, 0, true), (116, 0, true), (117, 0, true), (118, 0, true), (119, 0, true), (120, 0, true), (121, 0, true), (122, 0, true), (123, 0, true), (124, 0, true), (125, 0, true), (126, 0, true), (127, 0, true), (128, 0, true), (129, 0, true), (130, 0, true), (133, 0, true), (134, 0, true), (135, 0, true), (136, 0, true), (137, 0, true), (138, 0, true)], []) h (xsetI h 104 2 (Int32.ofInt (0))) := (vG.rf hg).set (by decide) (by decide +kernel) vEC104 rfl
      exact ⟨_, _, CX_ofT (h' := (xsetI h 104 2 (Int32.ofInt (0)))) (by decide) rfl rfl trivial ⟨_, _, _, rfl, rfl, rfl⟩ rfl ⟨Nat.le_of_eq hg.2.2.2.1.symm, Nat.le_of_eq hg.2.2.2.2.symm⟩ t27, G1, fun _ => yI_ne (by decide), fun z1 z2 => by omega⟩
