/-! THE RUN'S LAW; items: states that are cut points, loops by a counter. -/
def slev (e : SEn) : Nat := match e.2.2.2.2.2.1 with
  | 0 => e.2.2.1
  | _ => e.2.2.1 + 1
def sdc (d gh : Nat) (ρ0 ρ : Nat → Int) : Prop := match d with
  | 0 => True
  | 1 => ρ0 gh < ρ gh
  | _ => ρ gh < ρ0 gh
/-- a relation's slots are among these -/
def srcin (RC : SWl) : SRl → Bool
  | .inl r => r.1.all (fun q => swin RC q.1 q.2.1) && swin RC r.2.1 r.2.2.1
  | .inr r => swin RC r.1.1 r.1.2 && swin RC r.2.1 r.2.2
/-- what holds of the tables once and for all -/
def stab (T : ST) (R : List SRl) (E : XH → Prop) (RC EC : SWl) : Prop := stok T ∧ stow T ∧ (∀ r ∈ R, srcin RC r = true) ∧ (∀ h h' : XH, (∀ c k, swin EC c k = true → xI h' c k = xI h c k) → E h → E h')
section SItems
variable {l : Launch} {T : ST} {R : List SRl} {E : XH → Prop} {RC EC : SWl} {nn uu fr lo M : Nat} {CS : List SCt} {C : SCt} {ρa : Nat → Int} {h0 : XH} {HN : List (Nat × List SHn)}
/-- what an entry says, by the values of its ghosts -/
noncomputable def scla (l : Launch) (T : ST) (R : List SRl) (E : XH → Prop) (nn uu fr lo M : Nat) (C : SCt) (ρa : Nat → Int) (h0 : XH) (e : SEn) (ρ0 : Nat → Int) : Prop :=
  ∀ (ρ : Nat → Int) (τ : Nat → Int64) (L st : List XV) (h : XH), sagree ρ0 ρ e.2.2.1 → sagree ρa ρ (sna C) → sdc e.2.2.2.2.2.1 e.2.2.1 ρ0 ρ → L.length = xmx M → sframe (cww C) h0 h → srw R [] h → E h → sst T nn uu ρ τ e.2.1 L st h → sgok ρ e.2.1.1.length e.2.2.2.2.2.2 → sXG l T R E nn uu fr lo M C ρa h0 e.1 L st h
theorem sagree.tr {a b c : Nat → Int} {n m : Nat} (h1 : sagree a b n) (h2 : sagree b c m) (hm : n ≤ m) : sagree a c n := fun s hs => (h2 s (Nat.lt_of_lt_of_le hs hm)).trans (h1 s hs)
theorem scla.mv {e : SEn} {a b : Nat → Int} {n : Nat} (hc : scla l T R E nn uu fr lo M C ρa h0 e a) (hg : sagree a b n) (hl : slev e ≤ n) : scla l T R E nn uu fr lo M C ρa h0 e b := by
  intro ρ τ L st h k1 ka k2 k3 k4 k5 k6 k7 k8
  have hle : e.2.2.1 ≤ n := by
    refine Nat.le_trans ?_ hl
    unfold slev
    split <;> omega
  refine hc ρ τ L st h (fun s hs => (k1 s hs).trans (hg s (Nat.lt_of_lt_of_le hs hle))) ka ?_ k3 k4 k5 k6 k7 k8
  revert k2
  unfold sdc
  unfold slev at hl
  split
  · exact id
  · rename_i hd
    rw [hd] at hl
    intro z
    rw [hg _ hl] at z
    exact z
  · rename_i hd0 hd1
    have hl' : e.2.2.1 + 1 ≤ n := by
      revert hl
      split
      · rename_i hd
        exact absurd hd hd0
      · exact id
    intro z
    rw [hg _ hl'] at z
    exact z
theorem sdec_ok {d gh : Nat} {A : SS} {G : SGs} {σ : List SE} {ρ0 ρ : Nat → Int} (hA : syok ρ A.1) (hG : sgok ρ A.1.length G) (hg : d ≠ 0 → ρ gh = ρ0 gh) (h : sdec d gh A G σ = true) : sdc d gh ρ0 (fun s => sev ρ (σ.getD s (0, 0))) := by
  unfold sdec at h
  unfold sdc
  split
  · trivial
  · have h : (sdcu gh A (σ.getD gh (0, 0)) || ((Nat.beq (σ.getD gh (0, 0)).1 (gh + 1) && decide (1 ≤ (σ.getD gh (0, 0)).2)) || G.any (fun z => (Nat.beq (z.1 + 1) (σ.getD gh (0, 0)).1 && Nat.beq z.2.1 gh) && decide (1 ≤ z.2.2 + (σ.getD gh (0, 0)).2)))) = true := h
    rw [Bool.or_eq_true] at h
    have hg := hg (by decide)
    dsimp only
    rcases h with h | h
    · unfold sdcu at h
      rw [Bool.and_eq_true, Bool.and_eq_true] at h
      have h1 : gh < A.1.length := Nat.le_of_ble_eq_true h.1.1
      have z1 := siv_ok hA (e := (gh + 1, 0)) h1
      have z2 := siv_ok hA (e := σ.getD gh (0, 0)) (Nat.le_of_ble_eq_true h.1.2)
      have z3 := of_decide_eq_true h.2
      have z4 : sev ρ (gh + 1, 0) = ρ gh + 0 := rfl
      omega
    rw [Bool.or_eq_true] at h
    cases hq : σ.getD gh (0, 0) with
    | mk t c =>
      rw [hq] at h
      dsimp only at h
      rcases h with h | h
      · rw [Bool.and_eq_true] at h
        have e1 := Nat.eq_of_beq_eq_true h.1
        have e2 := of_decide_eq_true h.2
        subst e1
        show ρ0 gh < ρ gh + c
        omega
      · obtain ⟨z, hz, hy⟩ := List.any_eq_true.mp h
        rw [Bool.and_eq_true, Bool.and_eq_true] at hy
        have e1 := Nat.eq_of_beq_eq_true hy.1.1
        have e2 := Nat.eq_of_beq_eq_true hy.1.2
        have e3 := of_decide_eq_true hy.2
        have k := (hG z hz).2.2
        subst e1
        rw [e2] at k
        show ρ0 gh < ρ z.1 + c
        omega
  · rename_i hd0 hd1
    have hg := hg hd0
    split at h
    · exact absurd rfl hd0
    · exact absurd rfl hd1
    rw [Bool.or_eq_true] at h
    dsimp only
    rcases h with h | h
    · unfold sdcd at h
      rw [Bool.and_eq_true, Bool.and_eq_true] at h
      have h1 : gh < A.1.length := Nat.le_of_ble_eq_true h.1.1
      have z1 := siv_ok hA (e := (gh + 1, 0)) h1
      have z2 := siv_ok hA (e := σ.getD gh (0, 0)) (Nat.le_of_ble_eq_true h.1.2)
      have z3 := of_decide_eq_true h.2
      have z4 : sev ρ (gh + 1, 0) = ρ gh + 0 := rfl
      omega
    rw [Bool.or_eq_true] at h
    cases hq : σ.getD gh (0, 0) with
    | mk t c =>
      rw [hq] at h
      dsimp only at h
      rcases h with h | h
      · rw [Bool.and_eq_true] at h
        have e1 := Nat.eq_of_beq_eq_true h.1
        have e2 := of_decide_eq_true h.2
        subst e1
        show ρ gh + c < ρ0 gh
        omega
      · cases hY : A.1[t - 1]? with
        | none => rw [hY] at h; cases h
        | some q =>
          rw [hY] at h
          have h : (Nat.blt 0 t && (Nat.beq q.2.1 (gh + 1) && decide (q.2.2 + c ≤ -1))) = true := h
          simp only [Bool.and_eq_true] at h
          obtain ⟨h1, h2, h3⟩ := h
          have h1 : 0 < t := Nat.le_of_ble_eq_true h1
          have h2 := Nat.eq_of_beq_eq_true h2
          have h3 := of_decide_eq_true h3
          obtain ⟨t, rfl⟩ : ∃ k, t = k + 1 := ⟨t - 1, by omega⟩
          have k := ((hA t q hY).2 gh h2).2
          show ρ t + c < ρ0 gh
          omega
theorem sent_ok {e : SEn} {n0 pc : Nat} {A : SS} {G : SGs} {ρ0 ρ : Nat → Int} {τ : Nat → Int64} {L st : List XV} {h : XH} (hc : scla l T R E nn uu fr lo M C ρa h0 e ρ0) (hl : slev e ≤ n0) (hna : sna C ≤ e.2.2.1) (hg : sagree ρ0 ρ n0) (hga : sagree ρa ρ (sna C)) (hL : L.length = xmx M) (hf : sframe (cww C) h0 h) (hR : srw R [] h) (hE : E h) (hs : sst T nn uu ρ τ A L st h) (hG : sgok ρ A.1.length G) (hd : sent e pc A G = true) : sXG l T R E nn uu fr lo M C ρa h0 pc L st h := by
  unfold sent at hd
  rw [Bool.and_eq_true] at hd
  obtain ⟨d1, d2⟩ := hd
  have d1 := Nat.eq_of_beq_eq_true d1
  subst d1
  have hle : e.2.2.1 ≤ n0 := by
    refine Nat.le_trans ?_ hl
    unfold slev
    split <;> omega
  split at d2
  · rename_i m la hm hla
    rw [Bool.and_eq_true, Bool.and_eq_true] at d2
    obtain ⟨⟨d2, d3⟩, d9⟩ := d2
    have idn : ∀ s, s < e.2.2.1 → sev ρ ((sgho e.2.2.1 ++ m).getD s (0, 0)) = ρ s := fun s hs => by
      rw [sgho_get hs]
      show ρ s + 0 = ρ s
      omega
    refine hc _ _ L st h (fun s hs => ?_) (fun s hs => ?_) (sdec_ok hs.1 hG (fun hd => ?_) d3) hL hf hR hE (smt_ok hs d2) (sfct_ok hs.1 hG d9)
    · show sev ρ ((sgho e.2.2.1 ++ m).getD s (0, 0)) = ρ0 s
      rw [idn s hs, hg s (Nat.lt_of_lt_of_le hs hle)]
    · show sev ρ ((sgho e.2.2.1 ++ m).getD s (0, 0)) = ρa s
      rw [idn s (Nat.lt_of_lt_of_le hs hna), hga s hs]
    · refine hg _ ?_
      revert hl
      unfold slev
      split
      · rename_i z
        exact absurd z hd
      · exact id
  · cases d2
theorem srw_rel {v w : SWl} {h : XH} (hRC : ∀ r ∈ R, srcin RC r = true) (hr : srw R (v ++ w) h) : srw R (v.filter (stou RC) ++ w) h := by
  have key : ∀ c k, swin RC c k = true → swin (v ++ w) c k = swin (v.filter (stou RC) ++ w) c k := fun c k hc => by
    unfold swin
    rw [List.any_append, List.any_append]
    congr 1
    rw [Bool.eq_iff_iff, List.any_eq_true, List.any_eq_true]
    constructor
    · rintro ⟨q, hq, hz⟩
      exact ⟨q, List.mem_filter.mpr ⟨hq, stou_in hz hc⟩, hz⟩
    · rintro ⟨q, hq, hz⟩
      exact ⟨q, (List.mem_filter.mp hq).1, hz⟩
  intro r hr' ht
  refine hr r hr' ?_
  have hin := hRC r hr'
  match r, hin, ht with
  | .inl r, hin, ht =>
    have hin : (r.1.all (fun q => swin RC q.1 q.2.1) && swin RC r.2.1 r.2.2.1) = true := hin
    have ht : (r.1.any (fun q => swin (v.filter (stou RC) ++ w) q.1 q.2.1) || swin (v.filter (stou RC) ++ w) r.2.1 r.2.2.1) = false := ht
    show (r.1.any (fun q => swin (v ++ w) q.1 q.2.1) || swin (v ++ w) r.2.1 r.2.2.1) = false
    rw [Bool.and_eq_true] at hin
    rw [Bool.or_eq_false_iff] at ht ⊢
    refine ⟨List.any_eq_false.mpr fun q hq => ?_, ?_⟩
    · rw [key _ _ (List.all_eq_true.mp hin.1 q hq)]
      exact List.any_eq_false.mp ht.1 q hq
    · rw [key _ _ hin.2]
      exact ht.2
  | .inr r, hin, ht =>
    have hin : (swin RC r.1.1 r.1.2 && swin RC r.2.1 r.2.2) = true := hin
    have ht : (swin (v.filter (stou RC) ++ w) r.1.1 r.1.2 || swin (v.filter (stou RC) ++ w) r.2.1 r.2.2) = false := ht
    show (swin (v ++ w) r.1.1 r.1.2 || swin (v ++ w) r.2.1 r.2.2) = false
    rw [Bool.and_eq_true] at hin
    rw [key _ _ hin.1, key _ _ hin.2]
    exact ht
theorem srn_ok (hT : stab T R E RC EC) (hCS : ∀ D ∈ CS, scm l T R E nn uu D) (hWS : ∀ D ∈ CS, swsub (cww D).1 (cww C).1 = true ∧ ∀ c k, swiR (cww C).2 c k = false → swiR (cww D).2 c k = false) (hcl : (ccs C).all (fun cs => Nat.ble cs.1.length (sarn (cap C)) && Nat.ble cs.2.1.length (cwt C).length) = true) {env : List SEn} {n0 : Nat} {ρ0 : Nat → Int} (hl : ∀ e ∈ env, slev e ≤ n0 ∧ sna C ≤ e.2.2.1) (hc : ∀ e ∈ env, scla l T R E nn uu fr lo M C ρa h0 e ρ0) : ∀ (n pc : Nat) (fresh : Bool) (A : SS) (G : SGs) (w : SWl) (ρ : Nat → Int) (τ : Nat → Int64) (L st : List XV) (h : XH),
    srn T R RC EC CS fr lo M C HN env n pc fresh A G w = true → n0 ≤ A.1.length → sna C ≤ A.1.length → sagree ρ0 ρ n0 → sagree ρa ρ (sna C) → L.length = xmx M → sframe (cww C) h0 h → srw R w h → E h → sst T nn uu ρ τ A L st h → sgok ρ A.1.length G → sXG l T R E nn uu fr lo M C ρa h0 pc L st h
  | 0, _, _, _, _, _, _, _, _, _, _, hd, _, _, _, _, _, _, _, _, _, _ => by cases hd
  | n + 1, pc, fresh, A, G, w, ρ, τ, L, st, h, hd, hn, hna, hg, hga, hL, hf, hR, hE, hs, hG => by
    unfold srn at hd
    cases he : (!fresh && (w.isEmpty && env.any (fun e => sent e pc A G))) with
    | true =>
      rw [Bool.and_eq_true, Bool.and_eq_true] at he
      obtain ⟨e, he1, he2⟩ := List.any_eq_true.mp he.2.2
      have hw0 := List.isEmpty_iff.mp he.2.1
      subst hw0
      exact sent_ok (hc e he1) (hl e he1).1 (hl e he1).2 hg hga hL hf hR hE hs hG he2
    | false =>
      rw [he] at hd
      dsimp only [cond] at hd
      cases hi : xins M pc with
      | none => rw [hi] at hd; cases hd
      | some y =>
        obtain ⟨i, aux, nx⟩ := y
        rw [hi] at hd
        dsimp only at hd
        refine shs_ok hs hG hR (fun B G w' ρ1 b1 b2 b3 bG b4 hd => ?_) hd
        have hn := Nat.le_trans hn b2
        have hg := hg.tr b1 (Nat.le_trans (Nat.le_refl _) (by omega : n0 ≤ A.1.length))
        have hga := hga.tr b1 hna
        have hna := Nat.le_trans hna b2
        have hG := bG
        clear hs b1 b2 bG
        cases hk : xcal i with
        | some K =>
          rw [hk] at hd
          dsimp only at hd
          cases hw : w'.isEmpty with
          | false => rw [hw] at hd; cases hd
          | true =>
            rw [hw] at hd
            dsimp only [cond] at hd
            have hw0 := List.isEmpty_iff.mp hw
            subst hw0
            obtain ⟨D, hD, hz⟩ := List.any_eq_true.mp hd
            rw [Bool.and_eq_true] at hz
            obtain ⟨z1, z4⟩ := hz
            have z1 := Nat.eq_of_beq_eq_true z1
            cases hA : scl T D fr lo aux i B G with
            | none => rw [hA] at z4; cases z4
            | some S =>
              rw [hA] at z4
              dsimp only at z4
              obtain ⟨q, hq, st', h', ρ', τ', t1, t2, t3, t4, t5, t6, t7, t8⟩ := scl_ok (hCS D hD) hi (z1 ▸ hk) hL b3 hG b4 hE hA
              have hfr : sframe (cww C) h h' := ⟨fun c k hck => t6.1 c k (swsub_in (hWS D hD).1 hck), fun c k hck => t6.2 c k ((hWS D hD).2 c k hck)⟩
              exact sXG.of t1 (srn_ok hT hCS hWS hcl hl hc n nx false q.1 q.2 [] ρ' τ' L st' h' (List.all_eq_true.mp z4 q hq) (Nat.le_trans hn t3) (Nat.le_trans hna t3) (hg.tr t2 hn) (hga.tr t2 hna) hL (hf.tr hfr) t7 t8 t4 t5)
        | none =>
          rw [hk] at hd
          dsimp only at hd
          cases hr : xisr i with
          | true =>
            rw [hr] at hd
            dsimp only [cond] at hd
            cases hw : w'.isEmpty with
            | false => rw [hw] at hd; cases hd
            | true =>
              rw [hw] at hd
              have hw0 := List.isEmpty_iff.mp hw
              subst hw0
              exact sret_ok hcl hi hr hL b3 hG hga hf b4 hE hd
          | false =>
            rw [hr] at hd
            dsimp only [cond] at hd
            cases hi2 : sic2 i with
            | some ct =>
              obtain ⟨c2, t2⟩ := ct
              rw [hi2] at hd
              dsimp only at hd
              cases hS : sbg c2 t2.toNat nx B G with
              | none => rw [hS] at hd; cases hd
              | some S =>
                rw [hS] at hd
                dsimp only at hd
                obtain ⟨o, r, r1, r2, r3, r4, q, hq, q1, q2, q3, q4⟩ := sbg_ok b3 hG hS
                have hall := List.all_eq_true.mp hd q hq
                have hie := sic2_eq hi2
                subst hie
                have r1 : xstep none false fr lo (.if_icmp c2 t2) aux nx L st h o True = some r := r1
                have gN : xN h = nn ∧ xU h = uu := b3.2.2.2.2.2.2.2.2.2
                have t1 : XT l fr lo false M nn uu pc L st h r.1 r.2.1 r.2.2.1 r.2.2.2.1 := XT_step hi hk hr hL r1 ⟨Nat.le_of_eq (by rw [r4]; exact gN.1), Nat.le_of_eq (by rw [r4]; exact gN.2)⟩ r2
                rw [r3, r4, ← q1] at t1
                exact sXG.of t1 (srn_ok hT hCS hWS hcl hl hc n q.1 false q.2.1 q.2.2 w' ρ1 τ L r.2.2.1 h hall (by rw [q2]; exact hn) (by rw [q2]; exact hna) hg hga hL hf b4 hE q3 q4)
            | none =>
            rw [hi2] at hd
            dsimp only at hd
            cases hv : swl i B.2.2.2.1 with
            | none => rw [hv] at hd; cases hd
            | some v =>
              rw [hv] at hd
              dsimp only at hd
              cases hwo : ((swsub v (cww C).1 && swoR (cww C) i B.2.2.2.1) && v.all (fun q => !stou EC q)) with
              | false => rw [hwo] at hd; cases hd
              | true =>
                rw [hwo] at hd
                dsimp only at hd
                rw [Bool.and_eq_true, Bool.and_eq_true] at hwo
                obtain ⟨⟨w1, w2⟩, w3⟩ := hwo
                cases hS : sstep T fr lo i aux nx B with
                | none => rw [hS] at hd; cases hd
                | some S =>
                  rw [hS] at hd
                  dsimp only at hd
                  obtain ⟨o, r, r1, r2, q, hq, q1, ρ', τ', q2, q3, q4, q5⟩ := sstep_ok hT.1 hT.2.1 ρ1 τ B L st h S b3 hS
                  have r1 : xstep none false fr lo i aux nx L st h o True = some r := r1
                  obtain ⟨n1, n2⟩ := swl_nn hv
                  have hfw := xstep_fr n1 n2 r1
                  have hkp := xstep_kp r1
                  have hst := b3.2.2.2.2.1
                  have hsl := swl_ok hst b3.2.2.2.2.2.1 hv r1 hfw
                  have hfr : sframe (cww C) h r.2.2.2.1 := ⟨fun c k hck => hsl c k (swsub_in w1 hck), swoR_ok hst w2 hfw⟩
                  have gN : xN h = nn ∧ xU h = uu := b3.2.2.2.2.2.2.2.2.2
                  have t1 : XT l fr lo false M nn uu pc L st h r.1 r.2.1 r.2.2.1 r.2.2.2.1 := XT_step hi hk hr hL r1 ⟨Nat.le_of_eq (hfw.2.2.1.trans gN.1), Nat.le_of_eq (hfw.2.2.2.trans gN.2)⟩ r2
                  have hall := List.all_eq_true.mp hd q hq
                  rw [← q1] at t1
                  have hE' : E r.2.2.2.1 := hT.2.2.2 h _ (fun c k hcE => hsl c k (by
                    cases hx : swin v c k with
                    | false => rfl
                    | true =>
                      unfold swin at hx
                      obtain ⟨y, hy, hz⟩ := List.any_eq_true.mp hx
                      have := List.all_eq_true.mp w3 y hy
                      rw [stou_in hz hcE] at this
                      cases this)) hE
                  have hR' := srw_rel hT.2.2.1 (srw_frame b4 hsl)
                  exact sXG.of t1 (srn_ok hT hCS hWS hcl hl hc n q.1 false q.2 G _ ρ' τ' _ _ _ hall (Nat.le_trans hn q4) (Nat.le_trans hna q4) (hg.tr q2 hn) (hga.tr q2 hna) (hkp.1.trans hL) (hf.tr hfr) hR' hE' q5 (hG.mv q2 q4))
/-! items -/
abbrev SIt : Type := SEn × List Nat
def sit0 : SIt := ((0, ([], [], [], [], [], []), 0, [], [], 0, []), [])
def spl (e : SEn) : SEn := (e.1, e.2.1, e.2.2.1, e.2.2.2.1, e.2.2.2.2.1, 0, e.2.2.2.2.2.2)
def ssc (IT : List SIt) (j : Nat) : List Nat := bif Nat.beq (IT.getD j sit0).1.2.2.2.2.2.1 0 then (IT.getD j sit0).2 else j :: (IT.getD j sit0).2
def senv (IT : List SIt) (j : Nat) (sc : List Nat) : List SEn := sc.map (fun k => (IT.getD k sit0).1) ++ ((List.range j).filter (fun i => (IT.getD i sit0).2.all (fun k => sc.elem k))).map (fun i => spl (IT.getD i sit0).1)
noncomputable def sck (T : ST) (R : List SRl) (RC EC : SWl) (CS : List SCt) (fr lo M : Nat) (C : SCt) (HN : List (Nat × List SHn)) (IT : List SIt) (fu j : Nat) : Bool :=
  (((IT.getD j sit0).2.all (fun k => Nat.ble (slev (IT.getD k sit0).1) (IT.getD j sit0).1.2.2.1)) && Nat.ble (slev (IT.getD j sit0).1) (IT.getD j sit0).1.2.1.1.length) && ((senv IT j (ssc IT j)).all (fun e => Nat.ble (slev e) (IT.getD j sit0).1.2.1.1.length && Nat.ble (sna C) e.2.2.1) && (Nat.ble (sna C) (IT.getD j sit0).1.2.2.1 && srn T R RC EC CS fr lo M C HN (senv IT j (ssc IT j)) fu (IT.getD j sit0).1.1 true (IT.getD j sit0).1.2.1 (IT.getD j sit0).1.2.2.2.2.2.2 []))
/-- what item j says -/
noncomputable def sic (l : Launch) (T : ST) (R : List SRl) (E : XH → Prop) (nn uu fr lo M : Nat) (C : SCt) (ρa : Nat → Int) (h0 : XH) (IT : List SIt) (j : Nat) : Prop := ∀ ρ0 : Nat → Int, (∀ k ∈ (IT.getD j sit0).2, scla l T R E nn uu fr lo M C ρa h0 (IT.getD k sit0).1 ρ0) → scla l T R E nn uu fr lo M C ρa h0 (spl (IT.getD j sit0).1) ρ0
theorem spl_lev (e : SEn) : slev (spl e) ≤ slev e := by
  show e.2.2.1 ≤ slev e
  unfold slev
  split <;> omega
theorem senv_ok {IT : List SIt} {j : Nat} {sc : List Nat} {ρ : Nat → Int} (hi : ∀ i, i < j → sic l T R E nn uu fr lo M C ρa h0 IT i) (hs : ∀ k ∈ sc, scla l T R E nn uu fr lo M C ρa h0 (IT.getD k sit0).1 ρ) : ∀ e ∈ senv IT j sc, scla l T R E nn uu fr lo M C ρa h0 e ρ := by
  intro e he
  rcases List.mem_append.mp he with he | he
  · obtain ⟨k, hk, rfl⟩ := List.mem_map.mp he
    exact hs k hk
  · obtain ⟨i, hk, rfl⟩ := List.mem_map.mp he
    obtain ⟨h1, h2⟩ := List.mem_filter.mp hk
    exact hi i (List.mem_range.mp h1) ρ (fun k hk' => hs k (List.elem_iff.mp (List.all_eq_true.mp h2 k hk')))
/-- how far a counter is from its end -/
def smea (d gh : Nat) (q : SI) (ρ : Nat → Int) : Nat := match d with
  | 1 => (q.2 - ρ gh).toNat
  | _ => (ρ gh - q.1).toNat
theorem smea_lt {d gh : Nat} {q : SI} {a b : Nat → Int} (hd : d ≠ 0) (h : sdc d gh a b) (hb : q.1 ≤ b gh ∧ b gh ≤ q.2) : smea d gh q b < smea d gh q a := by
  unfold sdc at h
  unfold smea
  split at h
  · exact absurd rfl hd
  · show (q.2 - b gh).toNat < (q.2 - a gh).toNat
    omega
  · rename_i h1
    split
    · exact absurd rfl h1
    · omega
theorem sck_ok (hT : stab T R E RC EC) (hCS : ∀ D ∈ CS, scm l T R E nn uu D) (hWS : ∀ D ∈ CS, swsub (cww D).1 (cww C).1 = true ∧ ∀ c k, swiR (cww C).2 c k = false → swiR (cww D).2 c k = false) (hcl : (ccs C).all (fun cs => Nat.ble cs.1.length (sarn (cap C)) && Nat.ble cs.2.1.length (cwt C).length) = true) {IT : List SIt} {fu j : Nat} (hi : ∀ i, i < j → sic l T R E nn uu fr lo M C ρa h0 IT i) (hd : sck T R RC EC CS fr lo M C HN IT fu j = true) : sic l T R E nn uu fr lo M C ρa h0 IT j := by
  unfold sck at hd
  rw [Bool.and_eq_true, Bool.and_eq_true, Bool.and_eq_true, Bool.and_eq_true] at hd
  obtain ⟨⟨d1, d2⟩, d3, dn, d4⟩ := hd
  have d1 : ∀ k ∈ (IT.getD j sit0).2, slev (IT.getD k sit0).1 ≤ (IT.getD j sit0).1.2.2.1 := fun k hk => Nat.le_of_ble_eq_true (List.all_eq_true.mp d1 k hk)
  have d2 := Nat.le_of_ble_eq_true d2
  have dn : sna C ≤ (IT.getD j sit0).1.2.2.1 := Nat.le_of_ble_eq_true dn
  have d3 : ∀ e ∈ senv IT j (ssc IT j), slev e ≤ (IT.getD j sit0).1.2.1.1.length ∧ sna C ≤ e.2.2.1 := fun e he => by
    have := List.all_eq_true.mp d3 e he
    rw [Bool.and_eq_true] at this
    exact ⟨Nat.le_of_ble_eq_true this.1, Nat.le_of_ble_eq_true this.2⟩
  have hgY : (IT.getD j sit0).1.2.2.1 ≤ (IT.getD j sit0).1.2.1.1.length := by
    refine Nat.le_trans ?_ d2
    unfold slev
    split <;> omega
  intro ρ0 hs
  cases hdz : (IT.getD j sit0).1.2.2.2.2.2.1 with
  | zero =>
    have esc : ssc IT j = (IT.getD j sit0).2 := by
      unfold ssc
      rw [hdz]
      rfl
    have elv : slev (IT.getD j sit0).1 = (IT.getD j sit0).1.2.2.1 := by
      unfold slev
      rw [hdz]
      rfl
    rw [esc] at d3
    rw [esc] at d4
    intro ρ τ L st h k1 ka _ k3 k4 k5 k6 k7 k8
    exact srn_ok hT hCS hWS hcl (ρ0 := ρ) (n0 := (IT.getD j sit0).1.2.1.1.length) d3 (senv_ok hi fun k hk => (hs k hk).mv k1 (d1 k hk)) fu _ true _ _ [] ρ τ L st h d4 (Nat.le_refl _) (Nat.le_trans dn hgY) (fun _ _ => rfl) ka k3 k4 k5 k6 k7 k8
  | succ d =>
    have esc : ssc IT j = j :: (IT.getD j sit0).2 := by
      unfold ssc
      rw [hdz]
      rfl
    have elv : slev (IT.getD j sit0).1 = (IT.getD j sit0).1.2.2.1 + 1 := by
      unfold slev
      rw [hdz]
      rfl
    have hgl : (IT.getD j sit0).1.2.2.1 < (IT.getD j sit0).1.2.1.1.length := by
      rw [elv] at d2
      exact d2
    have hY := List.getElem?_eq_getElem hgl
    have main : ∀ (m : Nat) (ρ : Nat → Int) (τ : Nat → Int64) (L st : List XV) (h : XH), smea (d + 1) (IT.getD j sit0).1.2.2.1 ((IT.getD j sit0).1.2.1.1[(IT.getD j sit0).1.2.2.1]).1 ρ < m → sagree ρ0 ρ (IT.getD j sit0).1.2.2.1 → sagree ρa ρ (sna C) → L.length = xmx M → sframe (cww C) h0 h → srw R [] h → E h → sst T nn uu ρ τ (IT.getD j sit0).1.2.1 L st h → sgok ρ (IT.getD j sit0).1.2.1.1.length (IT.getD j sit0).1.2.2.2.2.2.2 → sXG l T R E nn uu fr lo M C ρa h0 (IT.getD j sit0).1.1 L st h := by
      intro m
      induction m with
      | zero => intro ρ τ L st h hm; exact absurd hm (Nat.not_lt_zero _)
      | succ m ih =>
        intro ρ τ L st h hm k1 ka k3 k4 k5 k6 k7 k8
        refine srn_ok hT hCS hWS hcl (ρ0 := ρ) (n0 := (IT.getD j sit0).1.2.1.1.length) d3 (senv_ok hi fun k hk => ?_) fu _ true _ _ [] ρ τ L st h d4 (Nat.le_refl _) (Nat.le_trans dn hgY) (fun _ _ => rfl) ka k3 k4 k5 k6 k7 k8
        rw [esc] at hk
        rcases List.mem_cons.mp hk with rfl | hk
        · intro ρ1 τ1 L1 st1 h1 g1 ga g2 g3 g4 g5 g6 g7 g8
          rw [hdz] at g2
          have hb := (g7.1 _ _ hY).1
          exact ih ρ1 τ1 L1 st1 h1 (Nat.lt_of_lt_of_le (smea_lt (Nat.succ_ne_zero d) g2 hb) (Nat.le_of_lt_succ hm)) (k1.tr g1 (Nat.le_refl _)) ga g3 g4 g5 g6 g7 g8
        · exact (hs k hk).mv k1 (d1 k hk)
    intro ρ τ L st h k1 ka _ k3 k4 k5 k6 k7 k8
    exact main _ ρ τ L st h (Nat.lt_succ_self _) k1 ka k3 k4 k5 k6 k7 k8
theorem sck_all (hT : stab T R E RC EC) (hCS : ∀ D ∈ CS, scm l T R E nn uu D) (hWS : ∀ D ∈ CS, swsub (cww D).1 (cww C).1 = true ∧ ∀ c k, swiR (cww C).2 c k = false → swiR (cww D).2 c k = false) (hcl : (ccs C).all (fun cs => Nat.ble cs.1.length (sarn (cap C)) && Nat.ble cs.2.1.length (cwt C).length) = true) {IT : List SIt} {fu n : Nat} (hd : (List.range n).all (fun j => sck T R RC EC CS fr lo M C HN IT fu j) = true) : ∀ j, j < n → sic l T R E nn uu fr lo M C ρa h0 IT j := by
  intro j
  induction j using Nat.strongRecOn with
  | ind j ih => exact fun hj => sck_ok hT hCS hWS hcl (fun i hi => ih i hi (Nat.lt_trans hi hj)) (List.all_eq_true.mp hd j (List.mem_range.mpr hj))
end SItems
