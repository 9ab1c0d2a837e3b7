/-! THE START: what the constructors leave is within the tables: every int written is looked at as it is written. -/
def zin (q : SI) (v : Int32) : Bool := decide (q.1 ≤ v.toInt) && decide (v.toInt ≤ q.2)
theorem zin_ok {q : SI} {v : Int32} (h : zin q v = true) : q.1 ≤ v.toInt ∧ v.toInt ≤ q.2 := by
  unfold zin at h
  rw [Bool.and_eq_true] at h
  exact ⟨of_decide_eq_true h.1, of_decide_eq_true h.2⟩
noncomputable def zpw (T : Nat → Nat → SI) (i : Instr) (st : List XV) : Bool := match i, st with
  | .putfield k, .inl (.inl v) :: .inr (_, e) :: _ => zin (T e k) v
  | .iastore, .inl (.inl v) :: .inl (.inl j) :: .inr (_, e) :: _ => zin (T e j.toNatClampNeg) v
  | .bastore, .inl (.inl v) :: .inl (.inl j) :: .inr (kd, e) :: _ => zin (T e j.toNatClampNeg) (vp_nar .byte v) && zin (T e j.toNatClampNeg) (vp_nar .boolean v)
  | .monitorexit, _ => false
  | _, _ => true
def zP (T : Nat → Nat → SI) (h : XH) : Prop := ∀ c k, (T c k).1 ≤ (xI h c k).toInt ∧ (xI h c k).toInt ≤ (T c k).2
theorem zP.set {T : Nat → Nat → SI} {h : XH} (hp : zP T h) {c k : Nat} {v : Int32} (hv : zin (T c k) v = true) : zP T (xsetI h c k v) := fun c' k' => by
  by_cases hc : c' = c ∧ k' = k
  · obtain ⟨rfl, rfl⟩ := hc
    rw [yI_same]
    exact zin_ok hv
  · rw [yI_ne (eq_false hc)]
    exact hp c' k'
section ZStep
variable {T : Nat → Nat → SI} {aux nx fr lo : Nat} {sc : XSc} {full : Bool} {L st : List XV} {h : XH} {o : List Nat} {acc : Prop} {r : XP}
theorem zst_put {k : Nat} (hs : xd_putI k aux nx L st h o acc = some r) (hz : zpw T (.putfield k) st = true) (hp : zP T h) : zP T r.2.2.2.1 := by
  unfold xd_putI at hs
  split at hs
  · rename_i v kd e st0
    have hz : zin (T e k) v = true := hz
    have key := hp.set hz
    exact xcb (P := fun r => zP T r.2.2.2.1) hs (fun hs => xc (P := fun r => zP T r.2.2.2.1) hs key (fun hs => xcn1 (P := fun r => zP T r.2.2.2.1) hs key)) (fun hs => xcno hs)
  · cases hs
theorem zst_ia (hs : xd_iastore nx L st h o acc = some r) (hz : zpw T .iastore st = true) (hp : zP T h) : zP T r.2.2.2.1 := by
  unfold xd_iastore at hs
  split at hs
  · rename_i v i kd e st0
    have hz : zin (T e i.toNatClampNeg) v = true := hz
    exact xc (P := fun r => zP T r.2.2.2.1) hs (hp.set hz) (fun hs => xcno hs)
  · cases hs
theorem zst_ba (hs : xd_bastore nx L st h o acc = some r) (hz : zpw T .bastore st = true) (hp : zP T h) : zP T r.2.2.2.1 := by
  unfold xd_bastore at hs
  split at hs
  · rename_i v i kd e st0
    have hz : (zin (T e i.toNatClampNeg) (vp_nar .byte v) && zin (T e i.toNatClampNeg) (vp_nar .boolean v)) = true := hz
    rw [Bool.and_eq_true] at hz
    exact xc (P := fun r => zP T r.2.2.2.1) hs (hp.set hz.1) (fun hs => xc (P := fun r => zP T r.2.2.2.1) hs (hp.set hz.2) (fun hs => xcno hs))
  · cases hs
theorem zst_na {t : ArrayType} (hs : xd_newa t aux nx L st h o acc = some r) (hp : zP T h) : zP T r.2.2.2.1 := by
  unfold xd_newa at hs
  split at hs
  · exact xcb (P := fun r => zP T r.2.2.2.1) hs (fun hs => xcno hs) (fun hs => xcn1 (P := fun r => zP T r.2.2.2.1) hs hp)
  · cases hs
theorem zst_nw {ci : Nat} (hs : (bif full then none else xd_new ci nx L st h o acc) = some r) (hp : zP T h) : zP T r.2.2.2.1 := by
  refine xcb (P := fun r => zP T r.2.2.2.1) hs (fun hs => xcno hs) (fun hs => ?_)
  unfold xd_new at hs
  exact xcn1 (P := fun r => zP T r.2.2.2.1) hs hp
theorem zst {i : Instr} (hs : xstep sc full fr lo i aux nx L st h o acc = some r) (hz : zpw T i st = true) (hp : zP T h) : zP T r.2.2.2.1 := by
  cases i with
  | putfield k => exact zst_put hs hz hp
  | iastore => exact zst_ia hs hz hp
  | bastore => exact zst_ba hs hz hp
  | monitorexit => cases hz
  | newarray t => exact zst_na hs hp
  | new ci => exact zst_nw hs hp
  | _ =>
    have f := xstep_fr (fun t z => by cases z) (fun t z => by cases z) hs
    intro c k
    rw [f.1 c k (fun z => z)]
    exact hp c k
end ZStep
noncomputable def zev (T : Nat → Nat → SI) (full : Bool) : Nat → Nat → Nat → List Nat → Bool → Nat → Nat → List XV → List XV → XH → Bool
  | 0, _, _, _, _, _, _, _, _, _ => false
  | n + 1, fr, lo, sp, fresh, M, pc, L, st, h =>
    bif (!fresh && sp.elem pc) then true else
    match xins M pc with
    | none => false
    | some (i, aux, nx) => match xcal i with
      | some K =>
          bif zev T full n (fr - 1) (lo - (xmx K + 19)) [] false K 0 (xent (xmx K) (xtake aux st []).1) [] h then
          (match xev full n (fr - 1) (lo - (xmx K + 19)) [] false K 0 (xent (xmx K) (xtake aux st []).1) [] h with
          | some (_, _, v, h') => zev T full n fr lo sp false M nx L (v ++ (xtake aux st []).2) h'
          | none => false) else false
      | none => bif xisr i then true else
        bif zpw T i st then
        (match xstep none full fr lo i aux nx L st h (xorc i st) True with
        | some (pc', L', st', h', _, _) => zev T full n fr lo sp false M pc' L' st' h'
        | none => false) else false
theorem zev_ok {T : Nat → Nat → SI} {full : Bool} : ∀ (n fr lo : Nat) (sp : List Nat) (fresh : Bool) (M pc : Nat) (L st : List XV) (h : XH) (r : Nat × List XV × List XV × XH),
    xev full n fr lo sp fresh M pc L st h = some r → zev T full n fr lo sp fresh M pc L st h = true → zP T h → zP T r.2.2.2
  | 0, _, _, _, _, _, _, _, _, _, _, hs, _, _ => by cases hs
  | n + 1, fr, lo, sp, fresh, M, pc, L, st, h, r, hs, hz, hp => by
    unfold xev at hs
    unfold zev at hz
    cases hst : (!fresh && sp.elem pc) with
    | true =>
      rw [hst] at hs
      obtain rfl := Option.some.inj hs
      exact hp
    | false =>
      rw [hst] at hs hz
      dsimp only [cond] at hs hz
      split at hs
      · cases hs
      · rename_i i aux nx hi
        rw [hi] at hz
        dsimp only at hz
        split at hs
        · rename_i K hK
          rw [hK] at hz
          dsimp only at hz
          split at hs
          · split at hs
            · rename_i a1 a2 v h1 hc
              cases hzc : zev T full n (fr - 1) (lo - (xmx K + 19)) [] false K 0 (xent (xmx K) (xtake aux st []).1) [] h with
              | false =>
                rw [hzc] at hz
                cases hz
              | true =>
                rw [hzc, hc] at hz
                dsimp only [cond] at hz
                exact zev_ok n _ _ _ _ _ _ _ _ _ _ hs hz (zev_ok n _ _ _ _ _ _ _ _ _ _ hc hzc hp)
            · cases hs
          · cases hs
        · rename_i hK
          rw [hK] at hz
          dsimp only at hz
          split at hs
          · rename_i hr
            split at hs
            · obtain rfl := Option.some.inj hs
              exact hp
            · cases hs
          · rename_i hr
            rw [hr] at hz
            dsimp only [cond] at hz
            split at hs
            · rename_i p1 p2 p3 p4 p5 p6 hx
              split at hs
              · cases hzw : zpw T i st with
                | false =>
                  rw [hzw] at hz
                  cases hz
                | true =>
                  rw [hzw, hx] at hz
                  dsimp only [cond] at hz
                  exact zev_ok n _ _ _ _ _ _ _ _ _ _ hs hz (zst hx hzw hp)
              · cases hs
            · cases hs
/-- the tables with 0 in every bound; what isn't written -/
def zT1 (c k : Nat) : SI := (bif decide (0 < (vI c k).1) then 0 else (vI c k).1, bif decide ((vI c k).2 < 0) then 0 else (vI c k).2)
def zT2 (c k : Nat) : SI := bif (Nat.beq c 149 || (Nat.beq c 150 || (Nat.beq c 82 || (Nat.beq c 84 || Nat.beq c 123)))) then (0, 0) else (-2147483648, 2147483647)
theorem zT1_0 (c k : Nat) : (zT1 c k).1 ≤ 0 ∧ 0 ≤ (zT1 c k).2 := by
  unfold zT1
  refine ⟨?_, ?_⟩
  · show (bif decide (0 < (vI c k).1) then 0 else (vI c k).1) ≤ 0
    by_cases z : 0 < (vI c k).1
    · rw [decide_eq_true z]
      exact Int.le_refl _
    · rw [decide_eq_false z]
      exact Int.not_lt.mp z
  · show 0 ≤ (bif decide ((vI c k).2 < 0) then 0 else (vI c k).2)
    by_cases z : (vI c k).2 < 0
    · rw [decide_eq_true z]
      exact Int.le_refl _
    · rw [decide_eq_false z]
      exact Int.not_lt.mp z
theorem zT1_in {c k : Nat} (h : (vI c k).1 ≤ 0 ∧ 0 ≤ (vI c k).2) : zT1 c k = vI c k := by
  unfold zT1
  rw [decide_eq_false (Int.not_lt.mpr h.1), decide_eq_false (Int.not_lt.mpr h.2)]
  rfl
theorem zT2_0 (c k : Nat) : (zT2 c k).1 ≤ 0 ∧ 0 ≤ (zT2 c k).2 := by
  unfold zT2
  cases (Nat.beq c 149 || (Nat.beq c 150 || (Nat.beq c 82 || (Nat.beq c 84 || Nat.beq c 123)))) with
  | true => exact ⟨Int.le_refl _, Int.le_refl _⟩
  | false => exact ⟨by decide, by decide⟩
theorem zP_0 {T : Nat → Nat → SI} (h : ∀ c k, (T c k).1 ≤ 0 ∧ 0 ≤ (T c k).2) : zP T xh0 := fun c k => h c k
noncomputable def zrun (T : Nat → Nat → SI) : Bool := zev T false 2000 14 538 [23] true 288 0 [xf 50 1, xun, xun, xun, xun, xun, xun] [] xh0
set_option maxRecDepth 100000 in
theorem zrun1 : zrun zT1 = true := by decide +kernel
set_option maxRecDepth 100000 in
theorem zrun2 : zrun zT2 = true := by decide +kernel
/-- where 0 is not within the bounds: the constant of words -/
theorem vT_z : ∀ c, c < 153 → ∀ k, k < vN c → (vlt (0, 0) (vSl c k) || Nat.beq c 106) = true := by decide +kernel
theorem vI_z (c k : Nat) : ((vI c k).1 ≤ 0 ∧ 0 ≤ (vI c k).2) ∨ (c = 106 ∧ k < 105) := by
  have hl : ∀ {q : SI}, vlt (0, 0) q = true → q.1 ≤ 0 ∧ 0 ≤ q.2 := fun {q} h => by
    unfold vlt at h
    rw [Bool.and_eq_true] at h
    exact ⟨of_decide_eq_true h.1, of_decide_eq_true h.2⟩
  by_cases hc : c < 153
  · unfold vI
    cases hw : vWr c with
    | true => exact Or.inl (hl (vT_zero c hc))
    | false =>
      by_cases hk : k < vN c
      · have e : Nat.blt k (vN c) = true := Nat.ble_eq_true_of_le hk
        rw [e]
        have z := vT_z c hc k hk
        rw [Bool.or_eq_true] at z
        rcases z with z | z
        · exact Or.inl (hl z)
        · have z := Nat.eq_of_beq_eq_true z
          subst z
          exact Or.inr ⟨rfl, by
            have e : vN 106 = 105 := by decide +kernel
            omega⟩
      · have e : Nat.blt k (vN c) = false := by
          cases hb : Nat.blt k (vN c) with
          | false => rfl
          | true => exact absurd (Nat.le_of_ble_eq_true hb) hk
        rw [e]
        exact Or.inl ⟨Int.le_refl _, Int.le_refl _⟩
  · have hb : Nat.blt c 153 = false := by
      cases hb : Nat.blt c 153 with
      | false => rfl
      | true => exact absurd (Nat.le_of_ble_eq_true hb) hc
    have e1 : vWr c = false := by
      unfold vWr
      rw [hb]
      rfl
    have e2 : vN c = 0 := by
      unfold vN
      rw [hb]
      rfl
    unfold vI
    rw [e1, e2]
    exact Or.inl ⟨Int.le_refl _, Int.le_refl _⟩
set_option maxRecDepth 1000000 in
set_option maxHeartbeats 4000000 in
theorem vRf_big (j : Nat) : (List.range 153).all (fun c => (vRf c (j + 100)).isEmpty) = true := rfl
theorem vRf_dom {c k : Nat} (h : vRf c k ≠ []) : c < 153 ∧ k < 100 := by
  by_cases hc : c < 153
  · refine ⟨hc, ?_⟩
    by_cases hk : k < 100
    · exact hk
    · exfalso
      have z := List.all_eq_true.mp (vRf_big (k - 100)) c (List.mem_range.mpr hc)
      rw [show k - 100 + 100 = k by omega] at z
      exact h (List.isEmpty_iff.mp z)
  · exfalso
    have hb : Nat.blt c 153 = false := by
      cases hb : Nat.blt c 153 with
      | false => rfl
      | true => exact absurd (Nat.le_of_ble_eq_true hb) hc
    refine h ?_
    unfold vRf
    rw [hb]
    rfl
def zqb (h : XH) (q : SQ) : Bool := zin q.2.2 (xI h q.1 q.2.1)
def zrb (h : XH) : SRl → Bool
  | .inl r => r.1.any (fun q => !zqb h q) || zqb h r.2
  | .inr r => decide ((xI h r.1.1 r.1.2).toInt ≤ (xI h r.2.1 r.2.2).toInt)
theorem zqb_no {h : XH} {q : SQ} (z : sqin h q) : zqb h q = true := by
  unfold zqb zin
  rw [decide_eq_true z.1, decide_eq_true z.2]
  rfl
theorem zrb_ok {h : XH} {r : SRl} (z : zrb h r = true) : srlh h r := by
  cases r with
  | inl r =>
    have z : (r.1.any (fun q => !zqb h q) || zqb h r.2) = true := z
    rw [Bool.or_eq_true] at z
    intro hg
    rcases z with z | z
    · obtain ⟨q, hq, hz⟩ := List.any_eq_true.mp z
      rw [zqb_no (hg q hq)] at hz
      cases hz
    · exact zin_ok z
  | inr r =>
    have z : decide ((xI h r.1.1 r.1.2).toInt ≤ (xI h r.2.1 r.2.2).toInt) = true := z
    exact (of_decide_eq_true z : (xI h r.1.1 r.1.2).toInt ≤ (xI h r.2.1 r.2.2).toInt)
def zcL : List (Nat × Nat × Int) := [(45, 1, 0), (104, 1, 0), (45, 2, 0), (104, 4, 0), (45, 3, (-1)), (104, 5, (-1)), (48, 7, 0), (138, 0, 0), (2, 6, 0), (104, 78, 0), (48, 10, (-1)), (81, 0, 0), (104, 76, 0), (3, 0, 0), (3, 5, 0), (3, 9, 0), (3, 14, 0), (3, 18, 2), (18, 5, 0), (18, 6, 0), (21, 0, 0), (21, 1, 0), (21, 2, 0), (22, 0, 0), (22, 1, 0), (22, 2, 0), (123, 0, 0), (123, 1, 0), (123, 2, 0), (104, 12, 0), (104, 13, 0), (104, 14, 0), (104, 15, 0), (104, 16, 0), (108, 0, 2)]
def zck2 (h : XH) : Bool := zcL.all (fun q => decide (xI h q.1 q.2.1 = Int32.ofInt q.2.2)) && (Nat.beq (xR h 2 1) 3 && (Nat.beq (xR h 2 2) 24 && Nat.beq (xR h 48 0) 3))
theorem zZ0_0 {i : Nat} (h : i ≠ 5) : zZ0 i = 0 := if_neg h
theorem vRl_0 {h : XH} (z : zck2 h = true) : vRl h := by
  unfold zck2 at z
  simp only [Bool.and_eq_true] at z
  obtain ⟨z1, z3, z4, z5⟩ := z
  have E : ∀ q ∈ zcL, xI h q.1 q.2.1 = Int32.ofInt q.2.2 := fun q hq => of_decide_eq_true (List.all_eq_true.mp z1 q hq)
  have V := zVd_0 zAll_0
  have e2 : zZ0 2 = 0 := zZ0_0 (by decide)
  have e1 : zZ0 1 = 0 := zZ0_0 (by decide)
  have e0 : zZ0 0 = 0 := zZ0_0 (by decide)
  have n0 : ∀ r : Nat, ¬ (r : Int) < zZ0 0 := fun r => by omega
  have n1 : ∀ r : Nat, ¬ (r : Int) < zZ0 1 := fun r => by omega
  have n2 : ∀ r : Nat, ¬ (r : Int) < zZ0 2 := fun r => by omega
  have w48 : vWo48 3 zZ0 (zY0 zZ0) h := ⟨⟨fun r hr => absurd hr (n0 r), fun r hr => absurd hr (n2 r), E (48, 7, 0) (by decide), E (48, 10, (-1)) (by decide), fun z => absurd z (by decide), Nat.eq_of_beq_eq_true z5⟩, ⟨fun r hr => absurd hr (n1 r), fun r hr => absurd hr (n0 r)⟩, fun r hr => absurd hr (n0 r), ⟨fun r hr => absurd hr (n0 r), fun r hr => absurd hr (n2 r)⟩⟩
  have j0 : jHf 0 zZ0 (zY0 zZ0) h ∧ jY 0 zZ0 (zY0 zZ0) h := ⟨⟨fun r hr => absurd hr (n0 r), fun r hr => absurd hr (n2 r), E (138, 0, 0) (by decide)⟩, ⟨fun r hr => absurd hr (n0 r), fun r hr => absurd hr (n2 r)⟩⟩
  have tx : kTx 3 zZ0 h ∧ jK zZ0 h := by
    refine ⟨⟨⟨fun i hi => ?_, (congrArg Int32.toInt (E (3, 18, 2) (by decide))), fun j k hj hk => ?_⟩, fun w hw => ?_, (congrArg Int32.toInt (E (18, 5, 0) (by decide))), (congrArg Int32.toInt (E (18, 6, 0) (by decide))), fun k hk => ?_⟩, fun i hi => ?_, (congrArg Int32.toInt (E (108, 0, 2) (by decide))), fun j k hj hk => ?_, fun w hw => ?_, (congrArg Int32.toInt (E (104, 16, 0) (by decide))), fun k hk => ?_⟩
    · rcases (by omega : i = 0 ∨ i = 1 ∨ i = 2 ∨ i = 3) with rfl | rfl | rfl | rfl
      · exact (congrArg Int32.toInt (E (3, 0, 0) (by decide)))
      · exact (congrArg Int32.toInt (E (3, 5, 0) (by decide)))
      · exact (congrArg Int32.toInt (E (3, 9, 0) (by decide)))
      · exact (congrArg Int32.toInt (E (3, 14, 0) (by decide)))
    · have := zkn_lt j
      rw [zZ0_0 (by omega)] at hk
      omega
    · rcases (by omega : w = 0 ∨ w = 1 ∨ w = 2) with rfl | rfl | rfl
      · exact ⟨(congrArg Int32.toInt (E (21, 0, 0) (by decide))), (congrArg Int32.toInt (E (22, 0, 0) (by decide)))⟩
      · exact ⟨(congrArg Int32.toInt (E (21, 1, 0) (by decide))), (congrArg Int32.toInt (E (22, 1, 0) (by decide)))⟩
      · exact ⟨(congrArg Int32.toInt (E (21, 2, 0) (by decide))), (congrArg Int32.toInt (E (22, 2, 0) (by decide)))⟩
    · rw [zZ0_0 (by decide)] at hk
      omega
    · rcases (by omega : i = 0 ∨ i = 1 ∨ i = 2 ∨ i = 3) with rfl | rfl | rfl | rfl
      · exact (congrArg Int32.toInt (E (104, 12, 0) (by decide)))
      · exact (congrArg Int32.toInt (E (104, 13, 0) (by decide)))
      · exact (congrArg Int32.toInt (E (104, 14, 0) (by decide)))
      · exact (congrArg Int32.toInt (E (104, 15, 0) (by decide)))
    · have := zkn_lt j
      rw [zZ0_0 (by omega)] at hk
      omega
    · have y1 : zZ0 (240 + w) = 0 := zZ0_0 (by omega)
      have y2 : zZ0 (250 + w) = 0 := zZ0_0 (by omega)
      refine ⟨?_, fun y => by omega⟩
      rw [y1, y2, if_neg (by decide)]
      rcases (by omega : w = 0 ∨ w = 1 ∨ w = 2) with rfl | rfl | rfl
      · exact (congrArg Int32.toInt (E (123, 0, 0) (by decide)))
      · exact (congrArg Int32.toInt (E (123, 1, 0) (by decide)))
      · exact (congrArg Int32.toInt (E (123, 2, 0) (by decide)))
    · rw [zZ0_0 (by decide)] at hk
      omega
  exact ⟨vR1_0 (E (45, 1, 0) (by decide)) (E (104, 1, 0) (by decide)), 3, zZ0, zY0 zZ0, 0, fun _ => zY0 zZ0, fun _ => (0, 0, 0), Or.inl ⟨rfl, Nat.eq_of_beq_eq_true z3, Nat.eq_of_beq_eq_true z4⟩, vPst.nil zAll_0 V rfl _, ⟨tx.1, w48, ⟨(congrArg Int32.toInt (E (81, 0, 0) (by decide))), fun k hk => absurd hk (Nat.not_lt_zero k)⟩⟩, ⟨tx.2, j0.1, j0.2, ⟨(congrArg Int32.toInt (E (104, 76, 0) (by decide))), fun k hk => absurd hk (Nat.not_lt_zero k)⟩⟩, ⟨(E (2, 6, 0) (by decide)).trans (E (104, 78, 0) (by decide)).symm, fun y => absurd (E (2, 6, 0) (by decide)) y⟩⟩
def zck (h : XH) : Bool :=
  ((List.range 153).all (fun c => (List.range 100).all (fun k => (vRf c k).isEmpty || (vRf c k).elem (xR h c k)))) &&
  (vR.all (zrb h) && ((List.range 105).all (fun k => zin (vI 106 k) (xI h 106 k)) &&
  ((decide (xI h 3 5 = 0) && decide (xI h 24 5 = 0)) && (((decide (xI h 45 1 = 0) && decide (xI h 104 1 = 0)) && zck2 h) && (Nat.beq (xN h) 153 && Nat.beq (xU h) 6051)))))
abbrev xlh : List XV := [xf 50 1, xf 12 2, xf 13 104, xf 40001 152, xi 0, xun, xun]
noncomputable def zpre : Option (Nat × List XV × List XV × XH) := xev false 2000 14 538 [23] true 288 0 [xf 50 1, xun, xun, xun, xun, xun, xun] [] xh0
noncomputable def zfirst : Bool := match zpre with
  | some r => decide (r.1 = 23) && (decide (r.2.1 = xlh) && (decide (r.2.2.1 = []) && zck r.2.2.2))
  | none => false
set_option maxRecDepth 100000 in
theorem zfirst_ok : zfirst = true := by decide +kernel
theorem zero_good {h : XH} (p1 : zP zT1 h) (p2 : zP zT2 h) (z : zck h = true) : vLw h := by
  unfold zck at z
  simp only [Bool.and_eq_true] at z
  obtain ⟨z1, z2, z3, ⟨z4, z5⟩, ⟨⟨z6, z7⟩, z10⟩, z8, z9⟩ := z
  have z4 := of_decide_eq_true z4
  have z5 := of_decide_eq_true z5
  have row : ∀ c, c = 149 ∨ c = 150 ∨ c = 82 ∨ c = 84 ∨ c = 123 → ∀ k, xI h c k = 0 := fun c hc k => by
    have w := p2 c k
    have e : zT2 c k = (0, 0) := by rcases hc with rfl | rfl | rfl | rfl | rfl <;> rfl
    rw [e] at w
    exact Int32.toInt_inj.mp (by show _ = (0 : Int); have w1 : (0 : Int) ≤ _ := w.1; have w2 : _ ≤ (0 : Int) := w.2; omega)
  have vz0 : ∀ v : Nat, v < 6 → 1 ≤ v → (0 : Int32).toInt = v → 1 ≤ (xI h 110 v).toInt := fun v _ h1 e => by
    have e0 : (0 : Int32).toInt = 0 := rfl
    omega
  refine ⟨⟨⟨fun c k => ?_, fun c k hc => ?_⟩, fun r hr _ => zrb_ok (List.all_eq_true.mp z2 r hr), ⟨fun k _ => ?_, ⟨fun k => Or.inl ?_, fun p _ => ?_⟩, fun w _ e => ?_, ⟨fun k hk => ?_, fun k hk => ?_⟩⟩, Nat.eq_of_beq_eq_true z8, Nat.eq_of_beq_eq_true z9⟩, vRl_0 z10⟩
  · rcases vI_z c k with hv | ⟨rfl, hk⟩
    · have w := p1 c k
      rw [zT1_in hv] at w
      exact w
    · exact zin_ok (List.all_eq_true.mp z3 k (List.mem_range.mpr hk))
  · obtain ⟨d1, d2⟩ := vRf_dom hc
    have w := List.all_eq_true.mp (List.all_eq_true.mp z1 c (List.mem_range.mpr d1)) k (List.mem_range.mpr d2)
    rw [Bool.or_eq_true] at w
    rcases w with w | w
    · exact absurd (List.isEmpty_iff.mp w) hc
    · exact List.elem_iff.mp w
  · rw [row 82 (by decide) k, row 84 (by decide) k]
    exact ⟨fun _ => by decide, fun e => absurd e (by decide), fun e => absurd e (by decide)⟩
  · rw [row 149 (by decide) k]
    exact vz0
  · rw [row 150 (by decide) _]
    exact vz0
  · rw [row 123 (by decide) w] at e
    exact absurd e (by decide)
  · rw [z4] at hk
    have e0 : (0 : Int32).toInt = 0 := rfl
    omega
  · rw [z5] at hk
    have e0 : (0 : Int32).toInt = 0 := rfl
    omega
/-- the course of the law's body, from its entry -/
theorem law_start (l : Launch) {L : Nat} {xs : Nat → Int32} (hL : L ≤ 3072) : XB l L xs 14 538 false 288 1179 14255 (fun rs _ => rs = [xi 1]) 0 [xf 50 1, xun, xun, xun, xun, xun, xun] [] xh0 := by
  have hc := zfirst_ok
  unfold zfirst at hc
  split at hc
  · rename_i r hr
    simp only [Bool.and_eq_true] at hc
    obtain ⟨e1, e2, e3, hc⟩ := hc
    have H := zero_good (zev_ok _ _ _ _ _ _ _ _ _ _ _ hr zrun1 (zP_0 zT1_0)) (zev_ok _ _ _ _ _ _ _ _ _ _ _ hr zrun2 (zP_0 zT2_0)) hc
    refine XB_ev (r := r) hr rfl (by rw [H.1.2.2.2.1]; decide) (by rw [H.1.2.2.2.2]; decide) ?_
    rw [of_decide_eq_true e1, of_decide_eq_true e2, of_decide_eq_true e3]
    have eL : (Int32.ofNat L - Int32.ofInt (6)).toInt = L - 6 := by
      rw [Int32.toInt_sub, show (Int32.ofInt (6)).toInt = 6 from rfl, Int32.toInt_ofNat_of_lt (by omega)]
      exact Int.bmod_eq_of_le (by omega) (by omega)
    have e0 : (0 : Int32).toInt = 0 := rfl
    exact XB_mono (N' := 153 + 512) (U' := 6051 + 6 * 512) (by decide) (by decide) (lw_loop l L xs hL eL 512 0 xun xun _ H (by decide) (by decide) (by omega))
  · cases hc
