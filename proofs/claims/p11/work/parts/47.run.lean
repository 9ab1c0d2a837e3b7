/-! THE RUN of a method, for all values: from a state on until what is shown already, or a return. -/
/-- an entry: place, state, how many ghosts, where its own symbols stand, where its longs stand, how its counter moves, what is known of its symbols' order -/
abbrev SEn : Type := Nat × SS × Nat × List SLc × List Nat × Nat × SGs
def slats (A : SS) : List SLc → Option (List SE)
  | [] => some []
  | p :: l => match sat A p with
    | some e => (slats A l).map (fun m => e :: m)
    | none => none
def sll (A : SS) : List Nat → Option (List Nat)
  | [] => some []
  | i :: l => match sgetL A.2.2.1 i with
    | .inr (.inl j) => (sll A l).map (fun m => j :: m)
    | _ => none
def sgho (gh : Nat) : List SE := (List.range gh).map (fun s => (s + 1, 0))
def sdcu (gh : Nat) (A : SS) (e : SE) : Bool := (Nat.blt gh A.1.length && Nat.ble e.1 A.1.length) && decide ((siv A.1 (gh + 1, 0)).2 + 1 ≤ (siv A.1 e).1)
def sdcd (gh : Nat) (A : SS) (e : SE) : Bool := (Nat.blt gh A.1.length && Nat.ble e.1 A.1.length) && decide ((siv A.1 e).2 + 1 ≤ (siv A.1 (gh + 1, 0)).1)
def sdec (d gh : Nat) (A : SS) (G : SGs) (σ : List SE) : Bool := match d with
  | 0 => true
  | 1 => sdcu gh A (σ.getD gh (0, 0)) || ((Nat.beq (σ.getD gh (0, 0)).1 (gh + 1) && decide (1 ≤ (σ.getD gh (0, 0)).2)) || G.any (fun z => (Nat.beq (z.1 + 1) (σ.getD gh (0, 0)).1 && Nat.beq z.2.1 gh) && decide (1 ≤ z.2.2 + (σ.getD gh (0, 0)).2)))
  | _ => sdcd gh A (σ.getD gh (0, 0)) || ((Nat.beq (σ.getD gh (0, 0)).1 (gh + 1) && decide ((σ.getD gh (0, 0)).2 ≤ -1)) || (match A.1[(σ.getD gh (0, 0)).1 - 1]? with
    | some q => Nat.blt 0 (σ.getD gh (0, 0)).1 && (Nat.beq q.2.1 (gh + 1) && decide (q.2.2 + (σ.getD gh (0, 0)).2 ≤ -1))
    | none => false))
/-- an order that an entry asks for is known -/
def sfct (A : SS) (G : SGs) (n : Nat) (σ : List SE) (z : Nat × Nat × Int) : Bool := ((Nat.blt z.1 n && Nat.blt z.2.1 n) && (Nat.ble (σ.getD z.1 (0, 0)).1 A.1.length && Nat.ble (σ.getD z.2.1 (0, 0)).1 A.1.length)) && sle A.1 G ((σ.getD z.2.1 (0, 0)).1, (σ.getD z.2.1 (0, 0)).2 + z.2.2) (σ.getD z.1 (0, 0))
theorem sfct_ok {ρ : Nat → Int} {A : SS} {G : SGs} {n : Nat} {σ : List SE} {l : SGs} (hA : syok ρ A.1) (hG : sgok ρ A.1.length G) (h : l.all (sfct A G n σ) = true) : sgok (fun s => sev ρ (σ.getD s (0, 0))) n l := by
  intro z hz
  have k := List.all_eq_true.mp h z hz
  unfold sfct at k
  rw [Bool.and_eq_true, Bool.and_eq_true, Bool.and_eq_true, Bool.and_eq_true] at k
  obtain ⟨⟨⟨k1, k2⟩, k3, k4⟩, k5⟩ := k
  refine ⟨Nat.le_of_ble_eq_true k1, Nat.le_of_ble_eq_true k2, ?_⟩
  have := sle_ok hA hG (a := ((σ.getD z.2.1 (0, 0)).1, (σ.getD z.2.1 (0, 0)).2 + z.2.2)) (Nat.le_of_ble_eq_true k4) (Nat.le_of_ble_eq_true k3) k5
  rw [sev_off] at this
  exact this
noncomputable def sent (e : SEn) (pc : Nat) (A : SS) (G : SGs) : Bool := Nat.beq e.1 pc && (match slats A e.2.2.2.1, sll A e.2.2.2.2.1 with
  | some m, some la => (smt A e.2.1 (sgho e.2.2.1 ++ m) la && sdec e.2.2.2.2.2.1 e.2.2.1 A G (sgho e.2.2.1 ++ m)) && e.2.2.2.2.2.2.all (sfct A G e.2.1.1.length (sgho e.2.2.1 ++ m))
  | _, _ => false)
theorem sgho_get {gh s : Nat} {m : List SE} (h : s < gh) : (sgho gh ++ m).getD s (0, 0) = (s + 1, 0) := by
  unfold sgho
  rw [List.getD_eq_getElem?_getD, List.getElem?_append_left (by simpa using h), List.getElem?_map, List.getElem?_range h]
  rfl
/-- the int slots that a step may write; none: not to be done here -/
def swl (i : Instr) (st : List SV) : Option SWl := match i with
  | .putfield k => (match st with
    | .inl _ :: .inr (.inr (_, e)) :: _ => some [(e, k, false)]
    | _ => none)
  | .iastore => (match st with
    | .inl _ :: .inl (.inl x) :: .inr (.inr (_, e)) :: _ => some [bif Nat.beq x.1 0 && decide (0 ≤ x.2) then (e, x.2.toNat, false) else (e, 0, true)]
    | _ => none)
  | .bastore => (match st with
    | .inl _ :: .inl (.inl x) :: .inr (.inr (_, e)) :: _ => some [bif Nat.beq x.1 0 && decide (0 ≤ x.2) then (e, x.2.toNat, false) else (e, 0, true)]
    | _ => none)
  | .monitorexit => (match st with
    | .inl _ :: .inl _ :: .inr (.inr (_, e)) :: _ => some [(e, 0, true)]
    | _ => none)
  | .newarray _ => none
  | .new _ => none
  | _ => some []
def swoR (W : SW) (i : Instr) (st : List SV) : Bool := match i with
  | .putstatic k => (match st with
    | .inr (.inr _) :: .inr (.inr (_, e)) :: _ => swiR W.2 e k
    | _ => false)
  | _ => true
def scell (W : SWl) (e : Nat) : Bool := W.any (fun q => Nat.beq q.1 e && q.2.2)
/-- all of V is allowed by W -/
def swsub (V W : SWl) : Bool := V.all (fun q => bif q.2.2 then scell W q.1 else swin W q.1 q.2.1)
theorem scell_in {W : SWl} {e k : Nat} (h : scell W e = true) : swin W e k = true := by
  unfold scell at h
  unfold swin
  obtain ⟨q, hq, hz⟩ := List.any_eq_true.mp h
  rw [Bool.and_eq_true] at hz
  refine List.any_eq_true.mpr ⟨q, hq, ?_⟩
  rw [hz.1, hz.2]
  rfl
theorem swsub_in {V W : SWl} (h : swsub V W = true) {c k : Nat} (hc : swin W c k = false) : swin V c k = false := by
  cases hv : swin V c k with
  | false => rfl
  | true =>
    unfold swin at hv
    obtain ⟨q, hq, hz⟩ := List.any_eq_true.mp hv
    rw [Bool.and_eq_true, Bool.or_eq_true] at hz
    obtain ⟨z1, z2⟩ := hz
    have z1 := Nat.eq_of_beq_eq_true z1
    have y := List.all_eq_true.mp h q hq
    cases hb : q.2.2 with
    | true =>
      rw [hb] at y
      have y : scell W q.1 = true := y
      rw [z1] at y
      rw [scell_in y] at hc
      cases hc
    | false =>
      rw [hb] at y z2
      have y : swin W q.1 q.2.1 = true := y
      rcases z2 with z2 | z2
      · cases z2
      · rw [z1, Nat.eq_of_beq_eq_true z2, hc] at y
        cases y
theorem swin1 {e k' c k : Nat} (h : swin [(e, k', false)] c k = false) : ¬ (c = e ∧ k = k') := fun z => by
  rw [z.1, z.2] at h
  unfold swin at h
  rw [List.any_cons, Nat.beq_refl, Nat.beq_refl] at h
  cases h
theorem swin2 {e k' c k : Nat} (h : swin [(e, k', true)] c k = false) : ¬ c = e := fun z => by
  rw [z] at h
  unfold swin at h
  rw [List.any_cons, Nat.beq_refl] at h
  cases h
theorem swl_ok {ρ : Nat → Int} {τ : Nat → Int64} {i : Instr} {sA : List SV} {st L : List XV} {h : XH} {r : XP} {fr lo aux nx n m : Nat} {o : List Nat} {w : SWl} (hst : st = sA.map (scz ρ τ)) (hok : ∀ v ∈ sA, sok ρ n m v) (hw : swl i sA = some w) (hr : xstep none false fr lo i aux nx L st h o True = some r) (hf : XFw i st h r) : ∀ c k, swin w c k = false → xI r.2.2.2.1 c k = xI h c k := by
  intro c k hc
  subst hst
  unfold swl at hw
  split at hw
  · split at hw
    · rename_i k' a kd e tl
      obtain rfl := Option.some.inj hw
      refine hf.1 c k fun hx => swin1 hc ?_
      cases a with
      | inl a => exact hx
      | inr a => exact hx
    · cases hw
  · split at hw
    · rename_i a x kd e tl
      obtain rfl := Option.some.inj hw
      cases hx : (Nat.beq x.1 0 && decide (0 ≤ x.2)) with
      | false =>
        rw [hx] at hc
        refine hf.1 c k fun hx => swin2 hc ?_
        cases a with
        | inl a => exact hx
        | inr a => exact hx
      | true =>
        rw [hx] at hc
        have hne := swin1 hc
        rw [Bool.and_eq_true] at hx
        have h0 := of_decide_eq_true hx.2
        have ox := hok _ (List.mem_cons_of_mem _ List.mem_cons_self)
        have ex : sev ρ x = x.2 := sev0 hx.1
        have ec : (Int32.ofInt (sev ρ x)).toNatClampNeg = x.2.toNat := by
          rw [i32_clamp ox.2 (by rw [ex]; exact h0), ex]
        have hr : xd_iastore nx L (scz ρ τ (.inl a) :: xi (Int32.ofInt (sev ρ x)) :: .inr (kd, e) :: tl.map (scz ρ τ)) h o True = some r := hr
        have key : ∀ v : Int32, xd_iastore nx L (xi v :: xi (Int32.ofInt (sev ρ x)) :: .inr (kd, e) :: tl.map (scz ρ τ)) h o True = some r → xI r.2.2.2.1 c k = xI h c k := fun v hr => by
          have hr : (bif xin 10000 kd then some (nx, L, tl.map (scz ρ τ), xsetI h e (Int32.ofInt (sev ρ x)).toNatClampNeg v, o, True ∧ vp_in (Int32.ofInt (sev ρ x)) (kd - 10000)) else none) = some r := hr
          cases hk : xin 10000 kd with
          | false => rw [hk] at hr; cases hr
          | true =>
            rw [hk] at hr
            obtain rfl := Option.some.inj hr
            show xI (xsetI h e (Int32.ofInt (sev ρ x)).toNatClampNeg v) c k = _
            rw [ec]
            exact yI_ne (eq_false hne)
        cases a with
        | inl a => exact key _ hr
        | inr a => exact key _ hr
    · cases hw
  · split at hw
    · rename_i a x kd e tl
      obtain rfl := Option.some.inj hw
      cases hx : (Nat.beq x.1 0 && decide (0 ≤ x.2)) with
      | false =>
        rw [hx] at hc
        refine hf.1 c k fun hx => swin2 hc ?_
        cases a with
        | inl a => exact hx
        | inr a => exact hx
      | true =>
        rw [hx] at hc
        have hne := swin1 hc
        rw [Bool.and_eq_true] at hx
        have h0 := of_decide_eq_true hx.2
        have ox := hok _ (List.mem_cons_of_mem _ List.mem_cons_self)
        have ex : sev ρ x = x.2 := sev0 hx.1
        have ec : (Int32.ofInt (sev ρ x)).toNatClampNeg = x.2.toNat := by
          rw [i32_clamp ox.2 (by rw [ex]; exact h0), ex]
        have hr : xd_bastore nx L (scz ρ τ (.inl a) :: xi (Int32.ofInt (sev ρ x)) :: .inr (kd, e) :: tl.map (scz ρ τ)) h o True = some r := hr
        have key : ∀ v : Int32, xd_bastore nx L (xi v :: xi (Int32.ofInt (sev ρ x)) :: .inr (kd, e) :: tl.map (scz ρ τ)) h o True = some r → xI r.2.2.2.1 c k = xI h c k := fun v hr => by
          have hr : (bif xin 20000 kd then some (nx, L, tl.map (scz ρ τ), xsetI h e (Int32.ofInt (sev ρ x)).toNatClampNeg (vp_nar .byte v), o, True ∧ vp_in (Int32.ofInt (sev ρ x)) (kd - 20000)) else bif xin 30000 kd then some (nx, L, tl.map (scz ρ τ), xsetI h e (Int32.ofInt (sev ρ x)).toNatClampNeg (vp_nar .boolean v), o, True ∧ vp_in (Int32.ofInt (sev ρ x)) (kd - 30000)) else none) = some r := hr
          cases hk : xin 20000 kd with
          | true =>
            rw [hk] at hr
            obtain rfl := Option.some.inj hr
            show xI (xsetI h e (Int32.ofInt (sev ρ x)).toNatClampNeg _) c k = _
            rw [ec]
            exact yI_ne (eq_false hne)
          | false =>
            rw [hk] at hr
            dsimp only [cond] at hr
            cases hk3 : xin 30000 kd with
            | false => rw [hk3] at hr; cases hr
            | true =>
              rw [hk3] at hr
              obtain rfl := Option.some.inj hr
              show xI (xsetI h e (Int32.ofInt (sev ρ x)).toNatClampNeg _) c k = _
              rw [ec]
              exact yI_ne (eq_false hne)
        cases a with
        | inl a => exact key _ hr
        | inr a => exact key _ hr
    · cases hw
  · split at hw
    · rename_i a b kd e tl
      obtain rfl := Option.some.inj hw
      refine hf.1 c k fun hx => swin2 hc ?_
      cases a <;> cases b <;> exact hx
    · cases hw
  · cases hw
  · cases hw
  · rename_i n1 n2 n3 n4 n5 n6
    refine hf.1 c k fun hx => ?_
    unfold xwr at hx
    split at hx
    · exact n1 _ rfl
    · exact n2 rfl
    · exact n3 rfl
    · exact n4 rfl
    · exact hx
theorem swoR_ok {ρ : Nat → Int} {τ : Nat → Int64} {i : Instr} {sA : List SV} {st : List XV} {h : XH} {r : XP} {W : SW} (hst : st = sA.map (scz ρ τ)) (hw : swoR W i sA = true) (hf : XFw i st h r) : ∀ c k, swiR W.2 c k = false → xR r.2.2.2.1 c k = xR h c k := by
  intro c k hc
  refine hf.2.1 c k fun hx => ?_
  unfold xwrR at hx
  split at hx
  · rename_i k' a kd e tl
    unfold swoR at hw
    dsimp only at hw
    split at hw
    · rename_i q kd' e' tl'
      have e3 := (List.cons.inj (List.cons.inj hst).2).1
      have e4 : (kd, e) = (kd', e') := Sum.inr.inj e3
      obtain ⟨rfl, rfl⟩ := Prod.mk.inj e4
      rw [hx.1, hx.2, hw] at hc
      cases hc
    · cases hw
  · exact hx
theorem swl_nn {i : Instr} {st : List SV} {w : SWl} (h : swl i st = some w) : (∀ t, i ≠ .newarray t) ∧ (∀ t, i ≠ .new t) := by
  refine ⟨fun t e => ?_, fun t e => ?_⟩ <;> (subst e; cases h)
def sna (C : SCt) : Nat := sarn (cap C) + (cwt C).length
section SRun
variable {l : Launch} {T : ST} {R : List SRl} {E : XH → Prop} {RC EC : SWl} {nn uu fr lo M : Nat} {CS : List SCt} {C : SCt} {ρa : Nat → Int} {h0 : XH}
/-- from here the method comes to its contract's end -/
noncomputable def sXG (l : Launch) (T : ST) (R : List SRl) (E : XH → Prop) (nn uu fr lo M : Nat) (C : SCt) (ρa : Nat → Int) (h0 : XH) (pc : Nat) (L st : List XV) (h : XH) : Prop :=
  ∃ pcR L' rs h', XT l fr lo false M nn uu pc L st h pcR L' rs h' ∧ XE M pcR rs ∧ L'.length = xmx M ∧ xrac M rs True ∧ spost T R E nn uu C ρa h0 rs h'
theorem sXG.of {pc pc' : Nat} {L L' st st' : List XV} {h h' : XH} (t : XT l fr lo false M nn uu pc L st h pc' L' st' h') (g : sXG l T R E nn uu fr lo M C ρa h0 pc' L' st' h') : sXG l T R E nn uu fr lo M C ρa h0 pc L st h := by
  obtain ⟨a, b, c, d, e, f⟩ := g
  exact ⟨a, b, c, d, t.tr e, f⟩
theorem XT_step {pc aux nx : Nat} {i : Instr} {L st : List XV} {h : XH} {o : List Nat} {r : XP} (hi : xins M pc = some (i, aux, nx)) (hc : xcal i = none) (hr : xisr i = false) (hL : L.length = xmx M) (hs : xstep none false fr lo i aux nx L st h o True = some r) (hn : xN r.2.2.2.1 ≤ nn ∧ xU r.2.2.2.1 ≤ uu) (ha : r.2.2.2.2.2) : XT l fr lo false M nn uu pc L st h r.1 r.2.1 r.2.2.1 r.2.2.2.1 := by
  refine XT_path (inl := []) (n' := 2) (sp := [r.1]) (o := o) rfl (r := r) ?_ ⟨rfl, rfl, rfl⟩ hL hn ha
  show xrun false [] none (1 + 1) fr lo [r.1] true M pc L st h o True = some r
  unfold xrun
  rw [hi]
  dsimp only [Bool.not_true, Bool.false_and, cond]
  rw [hc]
  dsimp only
  rw [hr]
  dsimp only [cond]
  rw [hs]
  dsimp only
  unfold xrun
  have e : (!false && ([r.1] : List Nat).elem r.1) = true := by simp
  rw [e]
  rfl
/-- at a return -/
def sbl (Y : SY) : Nat → List SI → Bool
  | _, [] => true
  | k, q :: l => (Nat.blt k Y.length && swi Y (k + 1, 0) q) && sbl Y (k + 1) l
def sgw (C : SCt) (A : SS) (G : SGs) (g : Nat × Int) : Bool := match (cwt C)[g.1]? with
  | some q => (match slk A.2.2.2.2.1 q.1 q.2.1 with
    | some (t + 1, c1) => (Nat.beq t (sarn (cap C) + g.1) && decide (g.2 ≤ c1)) || G.any (fun z => (Nat.beq z.1 t && Nat.beq z.2.1 (sarn (cap C) + g.1)) && decide (g.2 ≤ z.2.2 + c1))
    | _ => false)
  | none => true
def sgr (C : SCt) (G : SGs) (g : Nat × Nat × Int) : Bool := (Nat.blt g.1 (sna C) && Nat.blt g.2.1 (sna C)) && G.any (fun z => (Nat.beq z.1 g.2.1 && Nat.beq z.2.1 g.1) && decide (g.2.2 ≤ z.2.2))
noncomputable def srq (M : Nat) (i : Instr) (Y : SY) (st : List SV) (r : SRs) : Bool := match i, st, r with
  | .ireturn, [.inl (.inl e)], some (.inl q) => swi Y e q && (!xrb M || swi Y e (0, 1))
  | .lreturn, [.inr (.inl _)], some (.inr _) => true
  | .return_, [], none => true
  | _, _, _ => false
noncomputable def sret (T : ST) (M : Nat) (C : SCt) (i : Instr) (A : SS) (G : SGs) : Bool :=
  (ccs C).any (fun cs => srq M i A.1 A.2.2.2.1 cs.2.2.1 && ((sbl A.1 0 cs.1 && sbl A.1 (sarn (cap C)) cs.2.1) && (cs.2.2.2.1.all (sgd T A) && (cs.2.2.2.2.1.all (sgw C A G) && cs.2.2.2.2.2.all (sgr C G)))))
theorem sbl_ok {ρ : Nat → Int} {Y : SY} (hY : syok ρ Y) : ∀ {b : List SI} {k : Nat}, sbl Y k b = true → ∀ i q, b[i]? = some q → q.1 ≤ ρ (k + i) ∧ ρ (k + i) ≤ q.2 ∧ k + i < Y.length
  | [], _, _, i, q, hq => by cases hq
  | x :: b, k, h, i, q, hq => by
    have h : ((Nat.blt k Y.length && swi Y (k + 1, 0) x) && sbl Y (k + 1) b) = true := h
    rw [Bool.and_eq_true, Bool.and_eq_true] at h
    cases i with
    | zero =>
      obtain rfl := Option.some.inj hq
      have hk : k < Y.length := Nat.le_of_ble_eq_true h.1.1
      have z := swi_ok hY (v := (k + 1, 0)) hk h.1.2
      have e : sev ρ (k + 1, 0) = ρ k + 0 := rfl
      rw [e] at z
      exact ⟨by have := z.1; show _ ≤ ρ k; omega, by have := z.2; show ρ k ≤ _; omega, hk⟩
    | succ i =>
      have := sbl_ok hY h.2 i q hq
      rw [show k + (i + 1) = k + 1 + i by omega]
      exact this
theorem sret_ok {ρ : Nat → Int} {τ : Nat → Int64} {A : SS} {G : SGs} {pc aux nx : Nat} {i : Instr} {L st : List XV} {h : XH} (hcl : (ccs C).all (fun cs => Nat.ble cs.1.length (sarn (cap C)) && Nat.ble cs.2.1.length (cwt C).length) = true) (hi : xins M pc = some (i, aux, nx)) (hr : xisr i = true) (hL : L.length = xmx M) (hs : sst T nn uu ρ τ A L st h) (hG : sgok ρ A.1.length G) (hga : sagree ρa ρ (sna C)) (hf : sframe (cww C) h0 h) (hR : srw R [] h) (hE : E h) (hd : sret T M C i A G = true) : sXG l T R E nn uu fr lo M C ρa h0 pc L st h := by
  obtain ⟨cs, hcs, hd⟩ := List.any_eq_true.mp hd
  rw [Bool.and_eq_true, Bool.and_eq_true, Bool.and_eq_true, Bool.and_eq_true, Bool.and_eq_true] at hd
  obtain ⟨hq, ⟨d1, d2⟩, d3, d4, d5⟩ := hd
  have hlen := List.all_eq_true.mp hcl cs hcs
  rw [Bool.and_eq_true] at hlen
  have len1 : cs.1.length ≤ sarn (cap C) := Nat.le_of_ble_eq_true hlen.1
  have len2 : cs.2.1.length ≤ (cwt C).length := Nat.le_of_ble_eq_true hlen.2
  have hgood : sgood T R E nn uu h := ⟨hs.2.2.2.2.2.2.1, hR, hE, hs.2.2.2.2.2.2.2.2.2⟩
  have rest : ∀ rs, sres cs.2.2.1 rs → spost T R E nn uu C ρa h0 rs h := fun rs hrs => by
    refine ⟨hgood, hf, cs, hcs, fun i q hiq => ?_, fun i q hiq => ?_, hrs, fun q hq => sgd_ok hs (List.all_eq_true.mp d3 q hq), fun g hg q hgq => ?_, fun g hg => ?_⟩
    · have z := sbl_ok hs.1 d1 i q hiq
      have hlt : i < cs.1.length := (List.getElem?_eq_some_iff.mp hiq).1
      rw [Nat.zero_add] at z
      rw [← hga i (by unfold sna; omega)]
      exact ⟨z.1, z.2.1⟩
    · have z := sbl_ok hs.1 d2 i q hiq
      have hlt : i < cs.2.1.length := (List.getElem?_eq_some_iff.mp hiq).1
      rw [← hga _ (show sarn (cap C) + i < sna C by unfold sna; omega)]
      exact ⟨z.1, z.2.1⟩
    · have z := List.all_eq_true.mp d4 g hg
      have hlt : g.1 < (cwt C).length := (List.getElem?_eq_some_iff.mp hgq).1
      rw [← hga _ (show sarn (cap C) + g.1 < sna C by unfold sna; omega)]
      unfold sgw at z
      rw [hgq] at z
      dsimp only at z
      split at z
      · rename_i t c1 hk
        have y := (hs.2.2.2.2.2.2.2.1 _ (slk_mem hk)).1
        have y : (xI h q.1 q.2.1).toInt = ρ t + c1 := y
        rw [y]
        rw [Bool.or_eq_true] at z
        rcases z with z | z
        · rw [Bool.and_eq_true] at z
          have z1 := Nat.eq_of_beq_eq_true z.1
          have z2 := of_decide_eq_true z.2
          rw [z1]
          omega
        · obtain ⟨u, hu, hz⟩ := List.any_eq_true.mp z
          rw [Bool.and_eq_true, Bool.and_eq_true] at hz
          have z1 := Nat.eq_of_beq_eq_true hz.1.1
          have z2 := Nat.eq_of_beq_eq_true hz.1.2
          have z3 := of_decide_eq_true hz.2
          have := (hG u hu).2.2
          rw [z1, z2] at this
          omega
      · cases z
    · have z := List.all_eq_true.mp d5 g hg
      unfold sgr at z
      rw [Bool.and_eq_true, Bool.and_eq_true] at z
      have l1 : g.1 < sna C := Nat.le_of_ble_eq_true z.1.1
      have l2 : g.2.1 < sna C := Nat.le_of_ble_eq_true z.1.2
      obtain ⟨u, hu, hz⟩ := List.any_eq_true.mp z.2
      rw [Bool.and_eq_true, Bool.and_eq_true] at hz
      have z1 := Nat.eq_of_beq_eq_true hz.1.1
      have z2 := Nat.eq_of_beq_eq_true hz.1.2
      have z3 := of_decide_eq_true hz.2
      have := (hG u hu).2.2
      rw [z1, z2] at this
      rw [← hga _ l1, ← hga _ l2]
      omega
  have rfT : XT l fr lo false M nn uu pc L st h pc L st h := ⟨XM.rf, fun _ _ _ _ _ _ _ k => k⟩
  obtain ⟨a1, a2, a3, a4, a5, a6, a7⟩ := hs
  unfold srq at hq
  split at hq
  · rename_i e q hst hres
    rw [hst] at a5 a6
    have est : st = [xi (Int32.ofInt (sev ρ e))] := a5
    rw [Bool.and_eq_true] at hq
    have oe := a6 _ List.mem_cons_self
    have hb := swi_ok a1 oe.1 hq.1
    have ev := i32r_to oe.2
    subst est
    refine ⟨pc, L, _, h, rfT, ⟨_, aux, nx, hi, rfl, rfl⟩, hL, ?_, rest _ ?_⟩
    · unfold xrac
      cases hb2 : xrb M with
      | false => trivial
      | true =>
        rw [hb2] at hq
        have h01 : swi A.1 e (0, 1) = true := hq.2
        have hz := swi_ok a1 oe.1 h01
        have hz1 : (0 : Int) ≤ sev ρ e := hz.1
        have hz2 : sev ρ e ≤ 1 := hz.2
        refine ⟨trivial, ?_⟩
        rcases (show sev ρ e = 0 ∨ sev ρ e = 1 by omega) with z | z
        · rw [z]; exact Or.inl rfl
        · rw [z]; exact Or.inr rfl
    · rw [hres]
      show q.1 ≤ (Int32.ofInt (sev ρ e)).toInt ∧ (Int32.ofInt (sev ρ e)).toInt ≤ q.2
      rw [ev]
      exact hb
  · rename_i j b hst hres
    rw [hst] at a5
    have est : st = [xl (τ j)] := a5
    subst est
    refine ⟨pc, L, _, h, rfT, ⟨_, aux, nx, hi, rfl, rfl⟩, hL, ?_, rest _ ?_⟩
    · unfold xrac
      cases xrb M with
      | false => trivial
      | true => trivial
    · rw [hres]
      trivial
  · rename_i hst hres
    rw [hst] at a5
    have est : st = [] := a5
    subst est
    refine ⟨pc, L, _, h, rfT, ⟨_, aux, nx, hi, rfl, rfl⟩, hL, ?_, rest _ ?_⟩
    · unfold xrac
      cases xrb M with
      | false => trivial
      | true => trivial
    · rw [hres]
      trivial
  · cases hq
/-! a comparison of two ints, with what it tells of their order -/
def sleG (G : SGs) (a b : SE) (d : Int) : Bool := match a.1, b.1 with
  | s + 1, t + 1 => G.any (fun z => (Nat.beq z.1 t && Nat.beq z.2.1 s) && decide (a.2 + d ≤ z.2.2 + b.2))
  | _, _ => false
/-- the facts rule it out -/
def sgn (G : SGs) (c : ClassFile.Cond) (a b : SE) : Bool := match c with
  | .lt => sleG G b a 0
  | .le => sleG G b a 1
  | .gt => sleG G a b 0
  | .ge => sleG G a b 1
  | _ => false
def sgc (c : ClassFile.Cond) (a b : SE) : SGs := match c with
  | .lt => sgf a b 1
  | .le => sgf a b 0
  | .gt => sgf b a 1
  | .ge => sgf b a 0
  | .eq => sgf a b 0 ++ sgf b a 0
  | .ne => []
def sbg1 (c : ClassFile.Cond) (Y : SY) (G : SGs) (a b : SE) (F : List Nat) (L st : List SV) (H : SH) (t : Nat) : List (Nat × SS × SGs) := bif sgn G c a b then [] else (match srf2 c Y a b with
  | some Y1 => [(t, (Y1, F, L, st, H), sgc c a b ++ G)]
  | none => [])
def sbg (c : ClassFile.Cond) (t nx : Nat) (A : SS) (G : SGs) : Option (List (Nat × SS × SGs)) := match A with
  | (Y, F, L, .inl (.inl b) :: .inl (.inl a) :: st, H) => some (sbg1 c Y G a b F L st H t ++ sbg1 (sneg c) Y G a b F L st H nx)
  | _ => none
def sic2 (i : Instr) : Option (ClassFile.Cond × Int) := match i with
  | .if_icmp c t => some (c, t)
  | _ => none
theorem sic2_eq {i : Instr} {c : ClassFile.Cond} {t : Int} (h : sic2 i = some (c, t)) : i = .if_icmp c t := by
  unfold sic2 at h
  split at h
  · obtain ⟨rfl, rfl⟩ := Prod.mk.inj (Option.some.inj h)
    rfl
  · cases h
theorem sleG_ok {ρ : Nat → Int} {n : Nat} {G : SGs} {a b : SE} {d : Int} (hG : sgok ρ n G) (h : sleG G a b d = true) : sev ρ a + d ≤ sev ρ b := by
  obtain ⟨s, x⟩ := a
  obtain ⟨t, y⟩ := b
  unfold sleG at h
  dsimp only at h
  split at h
  · rename_i s t
    obtain ⟨z, hz, hy⟩ := List.any_eq_true.mp h
    rw [Bool.and_eq_true, Bool.and_eq_true] at hy
    have e1 := Nat.eq_of_beq_eq_true hy.1.1
    have e2 := Nat.eq_of_beq_eq_true hy.1.2
    have e3 := of_decide_eq_true hy.2
    have k := (hG z hz).2.2
    rw [e1, e2] at k
    show ρ s + x + d ≤ ρ t + y
    omega
  · cases h
theorem sgn_ok {ρ : Nat → Int} {n : Nat} {G : SGs} {c : ClassFile.Cond} {a b : SE} (hG : sgok ρ n G) (hc : scnd c (sev ρ a) (sev ρ b)) : sgn G c a b = false := by
  cases hg : sgn G c a b with
  | false => rfl
  | true =>
    exfalso
    cases c with
    | eq => cases hg
    | ne => cases hg
    | lt =>
      have := sleG_ok hG (show sleG G b a 0 = true from hg)
      have hc : sev ρ a < sev ρ b := hc
      omega
    | le =>
      have := sleG_ok hG (show sleG G b a 1 = true from hg)
      have hc : sev ρ a ≤ sev ρ b := hc
      omega
    | gt =>
      have := sleG_ok hG (show sleG G a b 0 = true from hg)
      have hc : sev ρ b < sev ρ a := hc
      omega
    | ge =>
      have := sleG_ok hG (show sleG G a b 1 = true from hg)
      have hc : sev ρ b ≤ sev ρ a := hc
      omega
theorem sgc_ok {ρ : Nat → Int} {n : Nat} {c : ClassFile.Cond} {a b : SE} (ha : a.1 ≤ n) (hb : b.1 ≤ n) (hc : scnd c (sev ρ a) (sev ρ b)) : sgok ρ n (sgc c a b) := by
  cases c with
  | ne => exact fun z hz => absurd hz List.not_mem_nil
  | lt => exact sgf_ok ha hb (by have hc : sev ρ a < sev ρ b := hc; omega)
  | le => exact sgf_ok ha hb (by have hc : sev ρ a ≤ sev ρ b := hc; omega)
  | gt => exact sgf_ok hb ha (by have hc : sev ρ b < sev ρ a := hc; omega)
  | ge => exact sgf_ok hb ha (by have hc : sev ρ b ≤ sev ρ a := hc; omega)
  | eq =>
    have hc : sev ρ a = sev ρ b := hc
    intro z hz
    rcases List.mem_append.mp hz with hz | hz
    · exact sgf_ok ha hb (d := 0) (by omega) z hz
    · exact sgf_ok hb ha (d := 0) (by omega) z hz
theorem sbg1_ok {ρ : Nat → Int} {τ : Nat → Int64} {Y : SY} {G : SGs} {F : List Nat} {LA sA : List SV} {H : SH} {L st : List XV} {h : XH} {c : ClassFile.Cond} {a b : SE} {t : Nat} (hs : sst T nn uu ρ τ (Y, F, LA, sA, H) L st h) (hG : sgok ρ Y.length G) (ha : a.1 ≤ Y.length) (hb : b.1 ≤ Y.length) (ra : i32r (sev ρ a)) (rb : i32r (sev ρ b)) (hc : scnd c (sev ρ a) (sev ρ b)) : ∃ q ∈ sbg1 c Y G a b F LA sA H t, q.1 = t ∧ q.2.1.1.length = Y.length ∧ sst T nn uu ρ τ q.2.1 L st h ∧ sgok ρ q.2.1.1.length q.2.2 := by
  obtain ⟨Y1, e1, k1⟩ := srf2_ok hs.1 ha hb ra rb hc
  unfold sbg1
  rw [sgn_ok hG hc, e1]
  refine ⟨_, List.mem_singleton.mpr rfl, rfl, srf2_len e1, sst_nar hs k1 (srf2_len e1), ?_⟩
  show sgok ρ Y1.length _
  rw [srf2_len e1]
  intro z hz
  rcases List.mem_append.mp hz with hz | hz
  · exact sgc_ok ha hb hc z hz
  · exact hG z hz
theorem sbg_ok {ρ : Nat → Int} {τ : Nat → Int64} {A : SS} {G : SGs} {L st : List XV} {h : XH} {c : ClassFile.Cond} {t : Int} {nx : Nat} {S : List (Nat × SS × SGs)} (hs : sst T nn uu ρ τ A L st h) (hG : sgok ρ A.1.length G) (hd : sbg c t.toNat nx A G = some S) : ∃ (o : List Nat) (r : XP), xd_icmp c t nx L st h o True = some r ∧ r.2.2.2.2.2 ∧ r.2.1 = L ∧ r.2.2.2.1 = h ∧ ∃ q ∈ S, q.1 = r.1 ∧ q.2.1.1.length = A.1.length ∧ sst T nn uu ρ τ q.2.1 L r.2.2.1 h ∧ sgok ρ q.2.1.1.length q.2.2 := by
  match A, hs, hG, hd with
  | (Y, F, LA, .inl (.inl b) :: .inl (.inl a) :: sA, H), hs, hG, hd =>
    obtain rfl := Option.some.inj hd
    obtain ⟨s1, rfl, ob, h1⟩ := sst_pop hs
    obtain ⟨s2, rfl, oa, h2⟩ := sst_pop h1
    have ex := xif_scnd (c := c) (nx := nx) (t := t) (L := L) (st := s2) (h := h) oa.2 ob.2
    by_cases hc : scnd c (sev ρ a) (sev ρ b)
    · obtain ⟨acc, hacc, he⟩ := ex.1 hc
      obtain ⟨q, q1, q2, q3, q4, q5⟩ := sbg1_ok (t := t.toNat) h2 hG oa.1 ob.1 oa.2 ob.2 hc
      exact ⟨[1], _, he, hacc, rfl, rfl, q, List.mem_append_left _ q1, q2, q3, q4, q5⟩
    · obtain ⟨acc, hacc, he⟩ := ex.2 hc
      obtain ⟨q, q1, q2, q3, q4, q5⟩ := sbg1_ok (t := nx) h2 hG oa.1 ob.1 oa.2 ob.2 (scnd_neg.mpr hc)
      exact ⟨[0], _, he, hacc, rfl, rfl, q, List.mem_append_right _ q1, q2, q3, q4, q5⟩
def shl (HN : List (Nat × List SHn)) (pc : Nat) : List SHn := match HN with
  | [] => []
  | x :: l => bif Nat.beq x.1 pc then x.2 else shl l pc
/-- whether a write may touch one of these slots -/
def stou (W : SWl) (q : Nat × Nat × Bool) : Bool := bif q.2.2 then W.any (fun z => Nat.beq z.1 q.1) else swin W q.1 q.2.1
theorem stou_in {W : SWl} {q : Nat × Nat × Bool} {c k : Nat} (hq : (Nat.beq q.1 c && (q.2.2 || Nat.beq q.2.1 k)) = true) (hw : swin W c k = true) : stou W q = true := by
  obtain ⟨a, b, d⟩ := q
  rw [Bool.and_eq_true] at hq
  have e1 : a = c := Nat.eq_of_beq_eq_true hq.1
  subst e1
  unfold stou
  cases d with
  | true =>
    unfold swin at hw
    obtain ⟨z, hz, hy⟩ := List.any_eq_true.mp hw
    rw [Bool.and_eq_true] at hy
    exact List.any_eq_true.mpr ⟨z, hz, hy.1⟩
  | false =>
    have e2 : b = k := Nat.eq_of_beq_eq_true hq.2
    subst e2
    exact hw
noncomputable def srn (T : ST) (R : List SRl) (RC EC : SWl) (CS : List SCt) (fr lo M : Nat) (C : SCt) (HN : List (Nat × List SHn)) (env : List SEn) : Nat → Nat → Bool → SS → SGs → SWl → Bool
  | 0, _, _, _, _, _ => false
  | n + 1, pc, fresh, A, G, w => bif !fresh && (w.isEmpty && env.any (fun e => sent e pc A G)) then true else
    match xins M pc with
    | none => false
    | some (i, aux, nx) => shs T R (fun A G w => match xcal i with
      | some K => bif w.isEmpty then CS.any (fun D => Nat.beq D.1 K && (match scl T D fr lo aux i A G with
        | some S => S.all (fun q => srn T R RC EC CS fr lo M C HN env n nx false q.1 q.2 [])
        | none => false)) else false
      | none => bif xisr i then (bif w.isEmpty then sret T M C i A G else false) else
        match sic2 i with
        | some (c, t) => (match sbg c t.toNat nx A G with
          | some S => S.all (fun q => srn T R RC EC CS fr lo M C HN env n q.1 false q.2.1 q.2.2 w)
          | none => false)
        | none =>
        match swl i A.2.2.2.1 with
        | some v => bif (swsub v (cww C).1 && swoR (cww C) i A.2.2.2.1) && v.all (fun q => !stou EC q) then (match sstep T fr lo i aux nx A with
          | some S => S.all (fun q => srn T R RC EC CS fr lo M C HN env n q.1 false q.2 G (v.filter (stou RC) ++ w))
          | none => false) else false
        | none => false) (shl HN pc) A G w
end SRun
