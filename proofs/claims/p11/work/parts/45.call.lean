/-! CONTRACTS as data: the method, its room (frames, words), its arguments, reference slots that it rests on, int slots that are watched (their values ahead), the cases of its end, what it may write. A case: bounds of the int arguments, of the watched slots ahead, the answer, bounds of slots behind, watched slots that grew (by how much at least), what isn't above another one of arguments and watched slots. -/
abbrev SAp : Type := SI ⊕ (Bool ⊕ (Nat × Nat))
abbrev SRs : Type := Option (SI ⊕ Bool)
abbrev SWl : Type := List (Nat × Nat × Bool)
abbrev SW : Type := SWl × List (Nat × Nat)
abbrev SQ : Type := Nat × Nat × SI
abbrev SCs : Type := List SI × List SI × SRs × List SQ × List (Nat × Int) × List (Nat × Nat × Int)
abbrev SCt : Type := Nat × Nat × Nat × List SAp × List (Nat × Nat × Nat) × List SQ × List SCs × SW × List (Nat × Nat × Int)
abbrev cap (C : SCt) : List SAp := C.2.2.2.1
abbrev crf (C : SCt) : List (Nat × Nat × Nat) := C.2.2.2.2.1
abbrev cwt (C : SCt) : List SQ := C.2.2.2.2.2.1
abbrev ccs (C : SCt) : List SCs := C.2.2.2.2.2.2.1
abbrev cww (C : SCt) : SW := C.2.2.2.2.2.2.2.1
/-- what isn't above another at the beginning -/
abbrev cpr (C : SCt) : List (Nat × Nat × Int) := C.2.2.2.2.2.2.2.2
/-- lower bounds of a symbol by another one -/
abbrev SGs : Type := List (Nat × Nat × Int)
/-- a relation: where slots are within bounds, a slot is; or: a slot isn't above another -/
abbrev SRl : Type := (List SQ × SQ) ⊕ ((Nat × Nat) × (Nat × Nat))
def sqin (h : XH) (q : SQ) : Prop := q.2.2.1 ≤ (xI h q.1 q.2.1).toInt ∧ (xI h q.1 q.2.1).toInt ≤ q.2.2.2
def srlh (h : XH) : SRl → Prop
  | .inl r => (∀ q ∈ r.1, sqin h q) → sqin h r.2
  | .inr r => (xI h r.1.1 r.1.2).toInt ≤ (xI h r.2.1 r.2.2).toInt
def swin (w : SWl) (c k : Nat) : Bool := w.any (fun q => Nat.beq q.1 c && (q.2.2 || Nat.beq q.2.1 k))
def swiR (w : List (Nat × Nat)) (c k : Nat) : Bool := w.any (fun q => Nat.beq q.1 c && Nat.beq q.2 k)
def stch (w : SWl) : SRl → Bool
  | .inl r => r.1.any (fun q => swin w q.1 q.2.1) || swin w r.2.1 r.2.2.1
  | .inr r => swin w r.1.1 r.1.2 || swin w r.2.1 r.2.2
/-- the relations hold that touch none of the slots w -/
def srw (R : List SRl) (w : SWl) (h : XH) : Prop := ∀ r ∈ R, stch w r = false → srlh h r
def sframe (W : SW) (h h' : XH) : Prop := (∀ c k, swin W.1 c k = false → xI h' c k = xI h c k) ∧ (∀ c k, swiR W.2 c k = false → xR h' c k = xR h c k)
theorem sframe.rf {W : SW} {h : XH} : sframe W h h := ⟨fun _ _ _ => rfl, fun _ _ _ => rfl⟩
theorem sframe.tr {W : SW} {a b c : XH} (h1 : sframe W a b) (h2 : sframe W b c) : sframe W a c := ⟨fun x k hx => (h2.1 x k hx).trans (h1.1 x k hx), fun x k hx => (h2.2 x k hx).trans (h1.2 x k hx)⟩
theorem srw_frame {R : List SRl} {w w' : SWl} {h h' : XH} (hr : srw R w h) (hf : ∀ c k, swin w' c k = false → xI h' c k = xI h c k) : srw R (w' ++ w) h' := by
  intro r hr' ht
  have hsp : ∀ c k, swin (w' ++ w) c k = (swin w' c k || swin w c k) := fun c k => by
    unfold swin
    exact List.any_append
  match r, hr', ht with
  | .inr r, hr', ht =>
    have ht : (swin (w' ++ w) r.1.1 r.1.2 || swin (w' ++ w) r.2.1 r.2.2) = false := ht
    rw [Bool.or_eq_false_iff, hsp, hsp, Bool.or_eq_false_iff, Bool.or_eq_false_iff] at ht
    have base : (xI h r.1.1 r.1.2).toInt ≤ (xI h r.2.1 r.2.2).toInt := hr (.inr r) hr' (by
      show (swin w r.1.1 r.1.2 || swin w r.2.1 r.2.2) = false
      rw [Bool.or_eq_false_iff]
      exact ⟨ht.1.2, ht.2.2⟩)
    show (xI h' r.1.1 r.1.2).toInt ≤ (xI h' r.2.1 r.2.2).toInt
    rw [hf _ _ ht.1.1, hf _ _ ht.2.1]
    exact base
  | .inl r, hr', ht =>
    have ht : (r.1.any (fun q => swin (w' ++ w) q.1 q.2.1) || swin (w' ++ w) r.2.1 r.2.2.1) = false := ht
    have key : stch w (.inl r) = false ∧ (∀ q ∈ r.1, swin w' q.1 q.2.1 = false) ∧ swin w' r.2.1 r.2.2.1 = false := by
      show (r.1.any (fun q => swin w q.1 q.2.1) || swin w r.2.1 r.2.2.1) = false ∧ _
      rw [Bool.or_eq_false_iff] at ht
      have h2 := ht.2
      rw [hsp, Bool.or_eq_false_iff] at h2
      have h1 : ∀ q ∈ r.1, swin (w' ++ w) q.1 q.2.1 = false := fun q hq => by
        have := List.any_eq_false.mp ht.1 q hq
        simpa using this
      refine ⟨?_, fun q hq => ?_, h2.1⟩
      · rw [Bool.or_eq_false_iff]
        refine ⟨List.any_eq_false.mpr fun q hq => ?_, h2.2⟩
        have := h1 q hq
        rw [hsp, Bool.or_eq_false_iff] at this
        rw [this.2]
        simp
      · have := h1 q hq
        rw [hsp, Bool.or_eq_false_iff] at this
        exact this.1
    have base : (∀ q ∈ r.1, sqin h q) → sqin h r.2 := hr (.inl r) hr' key.1
    show (∀ q ∈ r.1, sqin h' q) → sqin h' r.2
    intro hg
    unfold sqin
    rw [hf _ _ key.2.2]
    refine base fun q hq => ?_
    have := hg q hq
    unfold sqin at this
    rw [hf _ _ (key.2.1 q hq)] at this
    exact this
def sarg : SAp → XV → Prop
  | .inl q, .inl (.inl a) => q.1 ≤ a.toInt ∧ a.toInt ≤ q.2
  | .inr (.inl b), .inl (.inr x) => b = true → x ≠ 0
  | .inr (.inr q), .inr w => w = q
  | _, _ => False
def sargs : List SAp → List XV → Prop
  | [], [] => True
  | p :: l, v :: m => sarg p v ∧ sargs l m
  | _, _ => False
/-- the int arguments' values -/
def sargv (ρ : Nat → Int) : Nat → List XV → Prop
  | _, [] => True
  | n, .inl (.inl a) :: m => ρ n = a.toInt ∧ sargv ρ (n + 1) m
  | n, _ :: m => sargv ρ n m
def sarn : List SAp → Nat
  | [] => 0
  | .inl _ :: l => sarn l + 1
  | _ :: l => sarn l
def sres : SRs → List XV → Prop
  | none, [] => True
  | some (.inl q), [.inl (.inl a)] => q.1 ≤ a.toInt ∧ a.toInt ≤ q.2
  | some (.inr _), [.inl (.inr _)] => True
  | _, _ => False
/-- what a heap is, and what a contract's end is -/
def sgood (T : ST) (R : List SRl) (E : XH → Prop) (nn uu : Nat) (h : XH) : Prop := sinv T h ∧ srw R [] h ∧ E h ∧ xN h = nn ∧ xU h = uu
def scas (C : SCt) (ρ : Nat → Int) (cs : SCs) (rs : List XV) (h' : XH) : Prop :=
  (∀ i q, cs.1[i]? = some q → q.1 ≤ ρ i ∧ ρ i ≤ q.2) ∧ (∀ i q, cs.2.1[i]? = some q → q.1 ≤ ρ (sarn (cap C) + i) ∧ ρ (sarn (cap C) + i) ≤ q.2) ∧ sres cs.2.2.1 rs ∧ (∀ q ∈ cs.2.2.2.1, sqin h' q) ∧ (∀ g ∈ cs.2.2.2.2.1, ∀ q, (cwt C)[g.1]? = some q → ρ (sarn (cap C) + g.1) + g.2 ≤ (xI h' q.1 q.2.1).toInt) ∧ (∀ g ∈ cs.2.2.2.2.2, ρ g.1 + g.2.2 ≤ ρ g.2.1)
def spost (T : ST) (R : List SRl) (E : XH → Prop) (nn uu : Nat) (C : SCt) (ρ : Nat → Int) (h : XH) (rs : List XV) (h' : XH) : Prop := sgood T R E nn uu h' ∧ sframe (cww C) h h' ∧ ∃ cs ∈ ccs C, scas C ρ cs rs h'
def svals (C : SCt) (vs : List XV) (h : XH) (ρ : Nat → Int) : Prop := sargv ρ 0 vs ∧ ∀ i q, (cwt C)[i]? = some q → ρ (sarn (cap C) + i) = (xI h q.1 q.2.1).toInt
noncomputable def scm (l : Launch) (T : ST) (R : List SRl) (E : XH → Prop) (nn uu : Nat) (C : SCt) : Prop := ∀ (vs : List XV) (h : XH), sargs (cap C) vs → sgood T R E nn uu h → (∀ q ∈ crf C, xR h q.1 q.2.1 = q.2.2) → (∀ q ∈ cwt C, sqin h q) → (∀ ρ, svals C vs h ρ → ∀ g ∈ cpr C, ρ g.1 + g.2.2 ≤ ρ g.2.1) → ∃ ρ rs h', svals C vs h ρ ∧ CX l C.2.1 C.2.2.1 false C.1 vs h rs h' ∧ spost T R E nn uu C ρ h rs h'
/-! a call -/
def stake : Nat → List SV → List SV → List SV × List SV
  | 0, st, acc => (acc, st)
  | n + 1, a :: st, acc => stake n st (a :: acc)
  | _ + 1, [], acc => (acc, [])
theorem stake_map {ρ : Nat → Int} {τ : Nat → Int64} : ∀ (n : Nat) (st acc : List SV), xtake n (st.map (scz ρ τ)) (acc.map (scz ρ τ)) = (((stake n st acc).1).map (scz ρ τ), ((stake n st acc).2).map (scz ρ τ))
  | 0, _, _ => rfl
  | n + 1, a :: st, acc => stake_map n st (a :: acc)
  | _ + 1, [], _ => rfl
theorem stake_mem {P : SV → Prop} : ∀ (n : Nat) (st acc : List SV), (∀ v ∈ st, P v) → (∀ v ∈ acc, P v) → (∀ v ∈ (stake n st acc).1, P v) ∧ (∀ v ∈ (stake n st acc).2, P v)
  | 0, _, _, h1, h2 => ⟨h2, h1⟩
  | n + 1, a :: st, acc, h1, h2 => stake_mem n st (a :: acc) (fun v hv => h1 v (List.mem_cons_of_mem _ hv)) (fun v hv => by
    rcases List.mem_cons.mp hv with rfl | hv
    · exact h1 _ List.mem_cons_self
    · exact h2 v hv)
  | _ + 1, [], _, h1, h2 => ⟨h2, h1⟩
def sargB (Y : SY) (F : List Nat) : List SAp → List SV → Bool
  | [], [] => true
  | .inl q :: l, .inl (.inl e) :: m => swi Y e q && sargB Y F l m
  | .inr (.inl b) :: l, .inr (.inl j) :: m => (!b || Nat.beq (F.getD j 0) 1) && sargB Y F l m
  | .inr (.inr q) :: l, .inr (.inr w) :: m => (Nat.beq w.1 q.1 && Nat.beq w.2 q.2) && sargB Y F l m
  | _, _ => false
theorem sflag1 {τ : Nat → Int64} {F : List Nat} (hF : slok τ F) {j : Nat} (hj : j < F.length) (h : Nat.beq (F.getD j 0) 1 = true) : τ j ≠ 0 := by
  have e1 := Nat.eq_of_beq_eq_true h
  rw [List.getD_eq_getElem?_getD, List.getElem?_eq_getElem hj] at e1
  have e2 : F[j]? = some 1 := by
    rw [List.getElem?_eq_getElem hj]
    exact congrArg some e1
  exact (hF j 1 e2).1 rfl
theorem sargB_ok {ρ : Nat → Int} {τ : Nat → Int64} {Y : SY} {F : List Nat} (hY : syok ρ Y) (hF : slok τ F) : ∀ {p : List SAp} {vs : List SV}, (∀ v ∈ vs, sok ρ Y.length F.length v) → sargB Y F p vs = true → sargs p (vs.map (scz ρ τ))
  | [], [], _, _ => trivial
  | .inl q :: l, .inl (.inl e) :: m', hv, h => by
    have h : (swi Y e q && sargB Y F l m') = true := h
    rw [Bool.and_eq_true] at h
    have oe := hv _ List.mem_cons_self
    have hb := swi_ok hY oe.1 h.1
    refine ⟨?_, sargB_ok hY hF (fun v hv' => hv v (List.mem_cons_of_mem _ hv')) h.2⟩
    show q.1 ≤ (Int32.ofInt (sev ρ e)).toInt ∧ (Int32.ofInt (sev ρ e)).toInt ≤ q.2
    rw [i32r_to oe.2]
    exact hb
  | .inr (.inl b) :: l, .inr (.inl j) :: m', hv, h => by
    have h : ((!b || Nat.beq (F.getD j 0) 1) && sargB Y F l m') = true := h
    rw [Bool.and_eq_true] at h
    refine ⟨fun hb => ?_, sargB_ok hY hF (fun v hv' => hv v (List.mem_cons_of_mem _ hv')) h.2⟩
    have h1 := h.1
    rw [hb] at h1
    exact sflag1 hF (hv _ List.mem_cons_self) h1
  | .inr (.inr q) :: l, .inr (.inr w) :: m', hv, h => by
    have h : ((Nat.beq w.1 q.1 && Nat.beq w.2 q.2) && sargB Y F l m') = true := h
    rw [Bool.and_eq_true, Bool.and_eq_true] at h
    have hwq : w = q := Prod.ext (Nat.eq_of_beq_eq_true h.1.1) (Nat.eq_of_beq_eq_true h.1.2)
    exact ⟨hwq, sargB_ok hY hF (fun v hv' => hv v (List.mem_cons_of_mem _ hv')) h.2⟩
  | [], _ :: _, _, h => by cases h
  | .inl _ :: _, [], _, h => by cases h
  | .inr (.inl _) :: _, [], _, h => by cases h
  | .inr (.inr _) :: _, [], _, h => by cases h
  | .inl _ :: _, .inl (.inr _) :: _, _, h => by cases h
  | .inl _ :: _, .inr (.inl _) :: _, _, h => by cases h
  | .inl _ :: _, .inr (.inr _) :: _, _, h => by cases h
  | .inr (.inl _) :: _, .inl (.inl _) :: _, _, h => by cases h
  | .inr (.inl _) :: _, .inl (.inr _) :: _, _, h => by cases h
  | .inr (.inl _) :: _, .inr (.inr _) :: _, _, h => by cases h
  | .inr (.inr _) :: _, .inl (.inl _) :: _, _, h => by cases h
  | .inr (.inr _) :: _, .inl (.inr _) :: _, _, h => by cases h
  | .inr (.inr _) :: _, .inr (.inl _) :: _, _, h => by cases h
noncomputable def srcv (i : Instr) (K : Nat) (as : List SV) : Bool := match i with
  | .invokestatic _ => true
  | _ => match as with
    | .inr (.inr (kd, _)) :: _ => Nat.beq kd (xcn K)
    | _ => false
theorem srcv_ok {ρ : Nat → Int} {τ : Nat → Int64} {i : Instr} {K : Nat} {as : List SV} (h : srcv i K as = true) : xrcv i K (as.map (scz ρ τ)) = true := by
  unfold srcv at h
  split at h
  · rfl
  · rename_i hn
    split at h
    · rename_i kd e l
      unfold xrcv
      split
      · rfl
      · exact h
    · cases h
def shw (W : SW) (H : SH) : SH := (H.1.filter (fun q => !swin W.1 q.1 q.2.1), H.2.filter (fun q => !swiR W.2 q.1 q.2.1))
/-- several values narrowed -/
def srfl (Y : SY) : List (SE × SI) → Option SY
  | [] => some Y
  | p :: l => match srf Y p.1 p.2 with
    | some Y1 => srfl Y1 l
    | none => none
theorem srfl_ok {ρ : Nat → Int} : ∀ {l : List (SE × SI)} {Y : SY}, syok ρ Y → (∀ p ∈ l, p.2.1 ≤ sev ρ p.1 ∧ sev ρ p.1 ≤ p.2.2) → ∃ Y', srfl Y l = some Y' ∧ syok ρ Y' ∧ Y'.length = Y.length
  | [], Y, hY, _ => ⟨Y, rfl, hY, rfl⟩
  | p :: l, Y, hY, h => by
    obtain ⟨Y1, e1, k1⟩ := srf_ok hY (h p List.mem_cons_self)
    obtain ⟨Y2, e2, k2, k3⟩ := srfl_ok (l := l) k1 (fun p hp => h p (List.mem_cons_of_mem _ hp))
    refine ⟨Y2, ?_, k2, k3.trans (srf_len e1)⟩
    unfold srfl
    rw [e1]
    exact e2
/-- the int arguments -/
def sargE : List SV → List SE
  | [] => []
  | .inl (.inl e) :: l => e :: sargE l
  | _ :: l => sargE l
theorem sargE_ok {ρ ρ' : Nat → Int} {τ : Nat → Int64} {n m : Nat} : ∀ {vs : List SV} {k : Nat}, (∀ v ∈ vs, sok ρ n m v) → (∀ v ∈ vs, ∀ j, v ≠ .inl (.inr j)) → sargv ρ' k (vs.map (scz ρ τ)) → ∀ (i : Nat) (e : SE), (sargE vs)[i]? = some e → ρ' (k + i) = sev ρ e
  | [], _, _, _, _, i, e, he => by cases he
  | .inl (.inl a) :: l, k, hv, hn, hs, i, e, he => by
    have hs : ρ' k = (Int32.ofInt (sev ρ a)).toInt ∧ sargv ρ' (k + 1) (l.map (scz ρ τ)) := hs
    have oa := hv _ List.mem_cons_self
    cases i with
    | zero =>
      obtain rfl := Option.some.inj he
      exact hs.1.trans (i32r_to oa.2)
    | succ i =>
      have := sargE_ok (fun v hv' => hv v (List.mem_cons_of_mem _ hv')) (fun v hv' => hn v (List.mem_cons_of_mem _ hv')) hs.2 i e he
      rw [show k + (i + 1) = k + 1 + i by omega]
      exact this
  | .inl (.inr j) :: l, k, hv, hn, hs, i, e, he => absurd rfl (hn _ List.mem_cons_self j)
  | .inr (.inl j) :: l, k, hv, hn, hs, i, e, he => sargE_ok (vs := l) (fun v hv' => hv v (List.mem_cons_of_mem _ hv')) (fun v hv' => hn v (List.mem_cons_of_mem _ hv')) hs i e he
  | .inr (.inr q) :: l, k, hv, hn, hs, i, e, he => sargE_ok (vs := l) (fun v hv' => hv v (List.mem_cons_of_mem _ hv')) (fun v hv' => hn v (List.mem_cons_of_mem _ hv')) hs i e he
theorem sargE_le {ρ : Nat → Int} {n m : Nat} : ∀ {vs : List SV} {i : Nat} {e : SE}, (∀ v ∈ vs, sok ρ n m v) → (sargE vs)[i]? = some e → e.1 ≤ n
  | .inl (.inl a) :: l, 0, e, hv, he => by
    obtain rfl := Option.some.inj he
    exact (hv _ List.mem_cons_self).1
  | .inl (.inl a) :: l, i + 1, e, hv, he => sargE_le (vs := l) (i := i) (fun v hv' => hv v (List.mem_cons_of_mem _ hv')) he
  | .inl (.inr j) :: l, i, e, hv, he => sargE_le (vs := l) (i := i) (fun v hv' => hv v (List.mem_cons_of_mem _ hv')) he
  | .inr (.inl j) :: l, i, e, hv, he => sargE_le (vs := l) (i := i) (fun v hv' => hv v (List.mem_cons_of_mem _ hv')) he
  | .inr (.inr q) :: l, i, e, hv, he => sargE_le (vs := l) (i := i) (fun v hv' => hv v (List.mem_cons_of_mem _ hv')) he
theorem sargB_nc {Y : SY} {F : List Nat} : ∀ {p : List SAp} {vs : List SV}, sargB Y F p vs = true → (∀ v ∈ vs, ∀ j, v ≠ .inl (.inr j)) ∧ (sargE vs).length = sarn p
  | [], [], _ => ⟨fun v hv => absurd hv List.not_mem_nil, rfl⟩
  | .inl q :: l, .inl (.inl e) :: m', h => by
    have h : (swi Y e q && sargB Y F l m') = true := h
    rw [Bool.and_eq_true] at h
    obtain ⟨k1, k2⟩ := sargB_nc h.2
    refine ⟨fun v hv j => ?_, congrArg (· + 1) k2⟩
    rcases List.mem_cons.mp hv with rfl | hv
    · intro z; cases z
    · exact k1 v hv j
  | .inr (.inl b) :: l, .inr (.inl j') :: m', h => by
    have h : ((!b || Nat.beq (F.getD j' 0) 1) && sargB Y F l m') = true := h
    rw [Bool.and_eq_true] at h
    obtain ⟨k1, k2⟩ := sargB_nc h.2
    refine ⟨fun v hv j => ?_, k2⟩
    rcases List.mem_cons.mp hv with rfl | hv
    · intro z; cases z
    · exact k1 v hv j
  | .inr (.inr q) :: l, .inr (.inr w) :: m', h => by
    have h : ((Nat.beq w.1 q.1 && Nat.beq w.2 q.2) && sargB Y F l m') = true := h
    rw [Bool.and_eq_true] at h
    obtain ⟨k1, k2⟩ := sargB_nc h.2
    refine ⟨fun v hv j => ?_, k2⟩
    rcases List.mem_cons.mp hv with rfl | hv
    · intro z; cases z
    · exact k1 v hv j
  | [], _ :: _, h => by cases h
  | .inl _ :: _, [], h => by cases h
  | .inr (.inl _) :: _, [], h => by cases h
  | .inr (.inr _) :: _, [], h => by cases h
  | .inl _ :: _, .inl (.inr _) :: _, h => by cases h
  | .inl _ :: _, .inr (.inl _) :: _, h => by cases h
  | .inl _ :: _, .inr (.inr _) :: _, h => by cases h
  | .inr (.inl _) :: _, .inl (.inl _) :: _, h => by cases h
  | .inr (.inl _) :: _, .inl (.inr _) :: _, h => by cases h
  | .inr (.inl _) :: _, .inr (.inr _) :: _, h => by cases h
  | .inr (.inr _) :: _, .inl (.inl _) :: _, h => by cases h
  | .inr (.inr _) :: _, .inl (.inr _) :: _, h => by cases h
  | .inr (.inr _) :: _, .inr (.inl _) :: _, h => by cases h
/-- watched slots that are known, with the case's bounds -/
def swtE (H : List (Nat × Nat × SE)) : List SQ → List SI → List (SE × SI)
  | w :: l, q :: m => match slk H w.1 w.2.1 with
    | some e => (e, q) :: swtE H l m
    | none => swtE H l m
  | _, _ => []
/-- slots behind a call -/
def spos (A : SS) : List SQ → SS
  | [] => A
  | q :: l => spos (A.1 ++ [(q.2.2, 0, 0)], A.2.1, A.2.2.1, A.2.2.2.1, ((q.1, q.2.1, (A.1.length + 1, 0)) :: A.2.2.2.2.1, A.2.2.2.2.2)) l
def sgrw (w : List SQ) (H0 H1 : List (Nat × Nat × SE)) (G : SGs) (g : Nat × Int) : SGs := match w[g.1]? with
  | some q => (match slk H0 q.1 q.2.1, slk H1 q.1 q.2.1 with
    | some (s + 1, c0), some (t + 1, c1) => (t, s, c0 + g.2 - c1) :: ((G.filter (fun z => Nat.beq z.1 s)).map (fun z => (t, z.2.1, c0 + g.2 - c1 + z.2.2)))
    | _, _ => [])
  | none => []
/-- an argument, or a watched slot, as it is in the caller -/
def sexp (ae : List SE) (w : List SQ) (H : List (Nat × Nat × SE)) (i : Nat) : Option SE := match ae[i]? with
  | some e => some e
  | none => (match w[i - ae.length]? with
    | some q => slk H q.1 q.2.1
    | none => none)
def srlg (ae : List SE) (w : List SQ) (H : List (Nat × Nat × SE)) (g : Nat × Nat × Int) : SGs := match sexp ae w H g.1, sexp ae w H g.2.1 with
  | some (s + 1, c0), some (t + 1, c1) => [(t, s, c0 + g.2.2 - c1)]
  | _, _ => []
def spsh (A : SS) (r : SRs) : SS := match r with
  | none => A
  | some (.inl q) => bif decide (q.1 = q.2) then (A.1, A.2.1, A.2.2.1, sint (0, q.1) :: A.2.2.2.1, A.2.2.2.2) else (A.1 ++ [(q, 0, 0)], A.2.1, A.2.2.1, sint (A.1.length + 1, 0) :: A.2.2.2.1, A.2.2.2.2)
  | some (.inr _) => (A.1, A.2.1 ++ [0], A.2.2.1, slong A.2.1.length :: A.2.2.2.1, A.2.2.2.2)
/-- the state behind a call that ends by the case cs; none: it can't -/
def scs1 (C : SCt) (ae : List SE) (st' : List SV) (A : SS) (G : SGs) (cs : SCs) : Option (SS × SGs) := match srfl A.1 (ae.zip cs.1 ++ swtE A.2.2.2.2.1 (cwt C) cs.2.1) with
  | some Y1 => some (spos (spsh (Y1, A.2.1, A.2.2.1, st', shw (cww C) A.2.2.2.2) cs.2.2.1) cs.2.2.2.1, (cs.2.2.2.2.1.flatMap (sgrw (cwt C) A.2.2.2.2.1 (spos (spsh (Y1, A.2.1, A.2.2.1, st', shw (cww C) A.2.2.2.2) cs.2.2.1) cs.2.2.2.1).2.2.2.2.1 G)) ++ (cs.2.2.2.2.2.flatMap (srlg ae (cwt C) A.2.2.2.2.1) ++ G))
  | none => none
/-- an order asked for at the beginning is known -/
def sprB (Y : SY) (G : SGs) (ae : List SE) (w : List SQ) (H : List (Nat × Nat × SE)) (g : Nat × Nat × Int) : Bool := match sexp ae w H g.1, sexp ae w H g.2.1 with
  | some (s, c0), some (t, c1) => decide ((siv Y (s, c0)).2 + g.2.2 ≤ (siv Y (t, c1)).1) || ((Nat.beq s t && decide (c0 + g.2.2 ≤ c1)) || G.any (fun z => (Nat.beq (z.1 + 1) t && Nat.beq (z.2.1 + 1) s) && decide (c0 + g.2.2 ≤ z.2.2 + c1)))
  | _, _ => false
noncomputable def scl (T : ST) (C : SCt) (fr lo aux : Nat) (i : Instr) (A : SS) (G : SGs) : Option (List (SS × SGs)) :=
  bif ((Nat.ble (C.2.1 + 1) fr && Nat.ble (C.2.2.1 + (xmx C.1 + 19)) lo) && (Nat.ble (sxw (stake aux A.2.2.2.1 []).2) 8 && Nat.beq (stake aux A.2.2.2.1 []).1.length aux)) && ((srcv i C.1 (stake aux A.2.2.2.1 []).1 && sargB A.1 A.2.1 (cap C) (stake aux A.2.2.2.1 []).1) && ((crf C).all (fun q => decide (slkR A.2.2.2.2.2 q.1 q.2.1 = some q.2.2)) && (cwt C).all (fun q => match slk A.2.2.2.2.1 q.1 q.2.1 with
    | some e => swi A.1 e q.2.2
    | none => decide (q.2.2.1 ≤ (T.1 q.1 q.2.1).1) && decide ((T.1 q.1 q.2.1).2 ≤ q.2.2.2)))) && (cpr C).all (sprB A.1 G (sargE (stake aux A.2.2.2.1 []).1) (cwt C) A.2.2.2.2.1) then some ((ccs C).filterMap (scs1 C (sargE (stake aux A.2.2.2.1 []).1) (stake aux A.2.2.2.1 []).2 A G)) else none
def sgok (ρ : Nat → Int) (n : Nat) (G : SGs) : Prop := ∀ g ∈ G, g.1 < n ∧ g.2.1 < n ∧ ρ g.2.1 + g.2.2 ≤ ρ g.1
theorem sgok.mv {ρ ρ' : Nat → Int} {n n' : Nat} {G : SGs} (h : sgok ρ n G) (ha : sagree ρ ρ' n) (hn : n ≤ n') : sgok ρ' n' G := fun g hg => by
  obtain ⟨h1, h2, h3⟩ := h g hg
  refine ⟨Nat.lt_of_lt_of_le h1 hn, Nat.lt_of_lt_of_le h2 hn, ?_⟩
  rw [ha _ h1, ha _ h2]
  exact h3
section SCall
variable {l : Launch} {T : ST} {R : List SRl} {E : XH → Prop} {nn uu : Nat} {ρ : Nat → Int} {τ : Nat → Int64}
theorem spos_ok {L st : List XV} {h : XH} : ∀ {ps : List SQ} {A : SS} {ρ : Nat → Int}, sst T nn uu ρ τ A L st h → (∀ q ∈ ps, sqin h q) → ∃ ρ', sagree ρ ρ' A.1.length ∧ A.1.length ≤ (spos A ps).1.length ∧ sst T nn uu ρ' τ (spos A ps) L st h
  | [], A, ρ, hs, _ => ⟨ρ, fun _ _ => rfl, Nat.le_refl _, hs⟩
  | q :: l, A, ρ, hs, hq => by
    obtain ⟨Y, F, LA, sA, H⟩ := A
    have hb := hq q List.mem_cons_self
    obtain ⟨ρ1, k1, k2, k3⟩ := sst_new hs (q := q.2.2) (b := 0) (c := 0) (z := (xI h q.1 q.2.1).toInt) hb (fun s z => by cases z)
    have e2 : sev ρ1 (Y.length + 1, 0) = (xI h q.1 q.2.1).toInt := by
      show ρ1 Y.length + 0 = _
      rw [k2]
      omega
    have hlen : (Y ++ [(q.2.2, 0, 0)] : SY).length = Y.length + 1 := by simp
    have hh := k3.2.2.2.2.2.2
    have k4 := sst_heap (H' := ((q.1, q.2.1, (Y.length + 1, 0)) :: H.1, H.2)) k3 ⟨hh.1, fun w hw => by
      rcases List.mem_cons.mp hw with rfl | hw
      · exact ⟨e2.symm, by rw [hlen]; exact Nat.le_refl _⟩
      · exact hh.2.1 w hw, hh.2.2⟩
    obtain ⟨ρ', m1, m2, m3⟩ := spos_ok (ps := l) k4 (fun q' hq' => hq q' (List.mem_cons_of_mem _ hq'))
    have m1 : sagree ρ1 ρ' (Y ++ [(q.2.2, 0, 0)] : SY).length := m1
    rw [hlen] at m1
    refine ⟨ρ', fun s hs => (m1 s (Nat.lt_succ_of_lt hs)).trans (k1 s hs), ?_, m3⟩
    have m2 : (Y ++ [(q.2.2, 0, 0)] : SY).length ≤ _ := m2
    rw [hlen] at m2
    exact Nat.le_of_succ_le m2
theorem spsh_ok {L : List XV} {stx : List XV} {h : XH} {A : SS} {r : SRs} {rs : List XV} (hs : sst T nn uu ρ τ A L stx h) (hr : sres r rs) : ∃ ρ' τ', sagree ρ ρ' A.1.length ∧ A.1.length ≤ (spsh A r).1.length ∧ sst T nn uu ρ' τ' (spsh A r) L (rs ++ stx) h := by
  obtain ⟨Y, F, LA, sA, H⟩ := A
  match r, rs, hr with
  | none, [], _ => exact ⟨ρ, τ, fun _ _ => rfl, Nat.le_refl _, hs⟩
  | some (.inl q), [.inl (.inl a)], hr =>
    have hr : q.1 ≤ a.toInt ∧ a.toInt ≤ q.2 := hr
    unfold spsh
    dsimp only
    by_cases hq : q.1 = q.2
    · rw [decide_eq_true hq]
      dsimp only [cond]
      have ea : q.1 = a.toInt := by omega
      have k4 := sst_push hs (v := sint (0, q.1)) ⟨Nat.zero_le _, by show i32r q.1; rw [ea]; exact i32r_of a⟩
      have e1 : scz ρ τ (sint (0, q.1)) = xi a := by
        show xi (Int32.ofInt q.1) = _
        rw [ea, i32_of]
      rw [e1] at k4
      exact ⟨ρ, τ, fun _ _ => rfl, Nat.le_refl _, k4⟩
    · rw [decide_eq_false hq]
      dsimp only [cond]
      obtain ⟨ρ', k1, k2, k3⟩ := sst_new hs (q := q) (b := 0) (c := 0) (z := a.toInt) hr (fun s z => by cases z)
      have e2 : sev ρ' (Y.length + 1, 0) = a.toInt := by
        show ρ' Y.length + 0 = _
        rw [k2]
        omega
      have k4 := sst_push k3 (v := sint (Y.length + 1, 0)) ⟨by show Y.length + 1 ≤ (Y ++ _).length; simp, by rw [e2]; exact i32r_of a⟩
      have e1 : scz ρ' τ (sint (Y.length + 1, 0)) = xi a := by
        show xi (Int32.ofInt (sev ρ' (Y.length + 1, 0))) = _
        rw [e2, i32_of]
      rw [e1] at k4
      exact ⟨ρ', τ, k1, by show Y.length ≤ (Y ++ _).length; simp, k4⟩
  | some (.inr b), [.inl (.inr x)], _ =>
    obtain ⟨τ', k1, k2, k3⟩ := sst_newL hs (f := 0) (x := x) ⟨(fun z => by cases z), (fun z => by cases z)⟩
    have k4 := sst_push k3 (v := slong F.length) (by show F.length < (F ++ [0]).length; simp)
    have e1 : scz ρ τ' (slong F.length) = xl x := congrArg xl k2
    rw [e1] at k4
    exact ⟨ρ, τ', fun _ _ => rfl, Nat.le_refl _, k4⟩
theorem sgrw_ok {w : List SQ} {H0 H1 : List (Nat × Nat × SE)} {G : SGs} {g : Nat × Int} {h h' : XH} {n : Nat} {ρ' : Nat → Int} (h0 : ∀ q ∈ H0, (xI h q.1 q.2.1).toInt = sev ρ' q.2.2 ∧ q.2.2.1 ≤ n) (h1 : ∀ q ∈ H1, (xI h' q.1 q.2.1).toInt = sev ρ' q.2.2 ∧ q.2.2.1 ≤ n) (hG : sgok ρ' n G) (hg : ∀ q, w[g.1]? = some q → (xI h q.1 q.2.1).toInt + g.2 ≤ (xI h' q.1 q.2.1).toInt) : sgok ρ' n (sgrw w H0 H1 G g) := by
  unfold sgrw
  split
  · rename_i q hq
    split
    · rename_i s c0 t c1 e0 e1
      have a := h0 _ (slk_mem e0)
      have b := h1 _ (slk_mem e1)
      have k := hg q hq
      have a1 : (xI h q.1 q.2.1).toInt = ρ' s + c0 := a.1
      have b1 : (xI h' q.1 q.2.1).toInt = ρ' t + c1 := b.1
      have a2 : s < n := a.2
      have b2 : t < n := b.2
      intro z hz
      rcases List.mem_cons.mp hz with rfl | hz
      · refine ⟨b2, a2, ?_⟩
        show ρ' s + (c0 + g.2 - c1) ≤ ρ' t
        omega
      · obtain ⟨y, hy, rfl⟩ := List.mem_map.mp hz
        obtain ⟨y1, y2⟩ := List.mem_filter.mp hy
        obtain ⟨g1, g2, g3⟩ := hG y y1
        rw [Nat.eq_of_beq_eq_true y2] at g3
        refine ⟨b2, g2, ?_⟩
        show ρ' y.2.1 + (c0 + g.2 - c1 + y.2.2) ≤ ρ' t
        omega
    · exact fun z hz => absurd hz List.not_mem_nil
  · exact fun z hz => absurd hz List.not_mem_nil
theorem swtE_ok {H : List (Nat × Nat × SE)} {h : XH} {n : Nat} {ρ' : Nat → Int} {m : Nat} (hH : ∀ q ∈ H, (xI h q.1 q.2.1).toInt = sev ρ q.2.2 ∧ q.2.2.1 ≤ n) : ∀ {w : List SQ} {b : List SI} {k : Nat}, (∀ i q, w[i]? = some q → ρ' (m + k + i) = (xI h q.1 q.2.1).toInt) → (∀ i q, b[i]? = some q → q.1 ≤ ρ' (m + k + i) ∧ ρ' (m + k + i) ≤ q.2) → ∀ p ∈ swtE H w b, p.2.1 ≤ sev ρ p.1 ∧ sev ρ p.1 ≤ p.2.2
  | [], _, _, _, _, p, hp => by
    unfold swtE at hp
    exact absurd hp List.not_mem_nil
  | _ :: _, [], _, _, _, p, hp => by
    unfold swtE at hp
    exact absurd hp List.not_mem_nil
  | x :: w, q :: b, k, h1, h2, p, hp => by
    have rest : ∀ p ∈ swtE H w b, p.2.1 ≤ sev ρ p.1 ∧ sev ρ p.1 ≤ p.2.2 := swtE_ok hH (k := k + 1) (fun i q' hi => by
      have := h1 (i + 1) q' hi
      rw [show m + (k + 1) + i = m + k + (i + 1) by omega]
      exact this) (fun i q' hi => by
      have := h2 (i + 1) q' hi
      rw [show m + (k + 1) + i = m + k + (i + 1) by omega]
      exact this)
    unfold swtE at hp
    split at hp
    · rename_i e he
      rcases List.mem_cons.mp hp with rfl | hp
      · have a := h1 0 x rfl
        have b' := h2 0 q rfl
        have c := (hH _ (slk_mem he)).1
        have c : (xI h x.1 x.2.1).toInt = sev ρ e := c
        dsimp only
        rw [← c, ← a]
        exact b'
      · exact rest p hp
    · exact rest p hp
theorem szip_ok {ρ' : Nat → Int} : ∀ {ae : List SE} {b : List SI} {k : Nat}, (∀ i e, ae[i]? = some e → ρ' (k + i) = sev ρ e) → (∀ i q, b[i]? = some q → q.1 ≤ ρ' (k + i) ∧ ρ' (k + i) ≤ q.2) → ∀ p ∈ ae.zip b, p.2.1 ≤ sev ρ p.1 ∧ sev ρ p.1 ≤ p.2.2
  | [], _, _, _, _, p, hp => absurd hp List.not_mem_nil
  | _ :: _, [], _, _, _, p, hp => absurd hp List.not_mem_nil
  | e :: ae, q :: b, k, h1, h2, p, hp => by
    rcases List.mem_cons.mp hp with rfl | hp
    · have a := h1 0 e rfl
      have b' := h2 0 q rfl
      dsimp only
      rw [← a]
      exact b'
    · exact szip_ok (k := k + 1) (fun i e' hi => by
        have := h1 (i + 1) e' hi
        rw [show k + 1 + i = k + (i + 1) by omega]
        exact this) (fun i q' hi => by
        have := h2 (i + 1) q' hi
        rw [show k + 1 + i = k + (i + 1) by omega]
        exact this) p hp
theorem scl_ok {M pc fr lo aux nx : Nat} {i : Instr} {C : SCt} {A : SS} {G : SGs} {S : List (SS × SGs)} {L st : List XV} {h : XH} (hC : scm l T R E nn uu C) (hi : xins M pc = some (i, aux, nx)) (hK : xcal i = some C.1) (hL : L.length = xmx M) (hs : sst T nn uu ρ τ A L st h) (hG : sgok ρ A.1.length G) (hR : srw R [] h) (hE : E h) (hd : scl T C fr lo aux i A G = some S) :
    ∃ q ∈ S, ∃ st' h' ρ' τ', XT l fr lo false M nn uu pc L st h nx L st' h' ∧ sagree ρ ρ' A.1.length ∧ A.1.length ≤ q.1.1.length ∧ sst T nn uu ρ' τ' q.1 L st' h' ∧ sgok ρ' q.1.1.length q.2 ∧ sframe (cww C) h h' ∧ srw R [] h' ∧ E h' := by
  unfold scl at hd
  cases hg : (((Nat.ble (C.2.1 + 1) fr && Nat.ble (C.2.2.1 + (xmx C.1 + 19)) lo) && (Nat.ble (sxw (stake aux A.2.2.2.1 []).2) 8 && Nat.beq (stake aux A.2.2.2.1 []).1.length aux)) && ((srcv i C.1 (stake aux A.2.2.2.1 []).1 && sargB A.1 A.2.1 (cap C) (stake aux A.2.2.2.1 []).1) && ((crf C).all (fun q => decide (slkR A.2.2.2.2.2 q.1 q.2.1 = some q.2.2)) && (cwt C).all (fun q => match slk A.2.2.2.2.1 q.1 q.2.1 with
    | some e => swi A.1 e q.2.2
    | none => decide (q.2.2.1 ≤ (T.1 q.1 q.2.1).1) && decide ((T.1 q.1 q.2.1).2 ≤ q.2.2.2)))) && (cpr C).all (sprB A.1 G (sargE (stake aux A.2.2.2.1 []).1) (cwt C) A.2.2.2.2.1)) with
  | false => rw [hg] at hd; cases hd
  | true =>
    rw [hg] at hd
    obtain rfl := Option.some.inj hd
    rw [Bool.and_eq_true] at hg
    obtain ⟨hg, g9⟩ := hg
    rw [Bool.and_eq_true, Bool.and_eq_true, Bool.and_eq_true, Bool.and_eq_true, Bool.and_eq_true, Bool.and_eq_true, Bool.and_eq_true] at hg
    obtain ⟨⟨⟨g1, g2⟩, g3, g4⟩, ⟨g5, g6⟩, g7, g8⟩ := hg
    obtain ⟨a1, a2, a3, a4, a5, a6, a7⟩ := hs
    obtain ⟨o1, o2⟩ := stake_mem aux A.2.2.2.1 [] a6 (fun v hv => absurd hv List.not_mem_nil)
    have etk := stake_map (ρ := ρ) (τ := τ) aux A.2.2.2.1 []
    obtain ⟨nc, ncl⟩ := sargB_nc g6
    have hex : ∀ ρc, svals C (((stake aux A.2.2.2.1 []).1).map (scz ρ τ)) h ρc → ∀ i e, sexp (sargE (stake aux A.2.2.2.1 []).1) (cwt C) A.2.2.2.2.1 i = some e → ρc i = sev ρ e ∧ e.1 ≤ A.1.length := fun ρc hv i e he => by
      unfold sexp at he
      split at he
      · rename_i e' hi'
        obtain rfl := Option.some.inj he
        have := sargE_ok o1 nc hv.1 i e' hi'
        rw [Nat.zero_add] at this
        exact ⟨this, sargE_le o1 hi'⟩
      · rename_i hi'
        split at he
        · rename_i q hq
          have y := a7.2.1 _ (slk_mem he)
          refine ⟨?_, y.2⟩
          have k := hv.2 _ q hq
          have hlen : sarn (cap C) ≤ i := by
            rw [← ncl]
            exact Nat.not_lt.mp fun z => by
              rw [List.getElem?_eq_getElem z] at hi'
              cases hi'
          rw [ncl, show sarn (cap C) + (i - sarn (cap C)) = i by omega] at k
          rw [k]
          exact y.1
        · cases he
    have hpre : ∀ ρc, svals C (((stake aux A.2.2.2.1 []).1).map (scz ρ τ)) h ρc → ∀ g ∈ cpr C, ρc g.1 + g.2.2 ≤ ρc g.2.1 := fun ρc hv g hg => by
      have z := List.all_eq_true.mp g9 g hg
      unfold sprB at z
      split at z
      · rename_i s c0 t c1 e0 e1
        obtain ⟨k1', k2'⟩ := hex ρc hv _ _ e0
        obtain ⟨m1', m2'⟩ := hex ρc hv _ _ e1
        rw [k1', m1']
        rw [Bool.or_eq_true, Bool.or_eq_true] at z
        rcases z with z | z | z
        · have := of_decide_eq_true z
          have x1 := siv_ok a1 k2'
          have x2 := siv_ok a1 m2'
          omega
        · rw [Bool.and_eq_true] at z
          have y1 := Nat.eq_of_beq_eq_true z.1
          have y2 := of_decide_eq_true z.2
          subst y1
          cases s with
          | zero => exact y2
          | succ s => show ρ s + c0 + g.2.2 ≤ ρ s + c1; omega
        · obtain ⟨u, hu, hz⟩ := List.any_eq_true.mp z
          rw [Bool.and_eq_true, Bool.and_eq_true] at hz
          have y1 := Nat.eq_of_beq_eq_true hz.1.1
          have y2 := Nat.eq_of_beq_eq_true hz.1.2
          have y3 := of_decide_eq_true hz.2
          have y4 := (hG u hu).2.2
          subst y1
          subst y2
          show ρ u.2.1 + c0 + g.2.2 ≤ ρ u.1 + c1
          omega
      · cases z
    obtain ⟨ρc, rs, h', hv, hX, hgd, hfr, cs, hcs, hca⟩ := hC (((stake aux A.2.2.2.1 []).1).map (scz ρ τ)) h (sargB_ok a1 a2 o1 g6) ⟨a7.1, hR, hE, a7.2.2.2.1, a7.2.2.2.2⟩ (fun q hq => by
      have z := of_decide_eq_true (List.all_eq_true.mp g7 q hq)
      exact a7.2.2.1 _ (slkR_mem z)) (fun q hq => by
      have z := List.all_eq_true.mp g8 q hq
      unfold sqin
      cases hk : slk A.2.2.2.2.1 q.1 q.2.1 with
      | some e =>
        rw [hk] at z
        have y := a7.2.1 _ (slk_mem hk)
        have y1 : (xI h q.1 q.2.1).toInt = sev ρ e := y.1
        rw [y1]
        exact swi_ok a1 y.2 z
      | none =>
        rw [hk] at z
        have z : (decide (q.2.2.1 ≤ (T.1 q.1 q.2.1).1) && decide ((T.1 q.1 q.2.1).2 ≤ q.2.2.2)) = true := z
        rw [Bool.and_eq_true] at z
        have z1 := of_decide_eq_true z.1
        have z2 := of_decide_eq_true z.2
        have y := a7.1.1 q.1 q.2.1
        omega) hpre
    obtain ⟨hr2, hrR, hrE, hr3, hr4⟩ := hgd
    obtain ⟨b1, b2, b3, b4, b5, b6⟩ := hca
    have hT : XT l fr lo false M nn uu pc L st h nx L (rs ++ ((stake aux A.2.2.2.1 []).2).map (scz ρ τ)) h' := by
      rw [a5]
      refine XT_call hi hK hL etk ?_ (srcv_ok g5) hX (Nat.le_of_ble_eq_true g1) (Nat.le_of_ble_eq_true g2) ?_ ⟨Nat.le_of_eq hr3, Nat.le_of_eq hr4⟩
      · rw [List.length_map]
        exact Nat.eq_of_beq_eq_true g4
      · rw [sxw_ok]
        exact Nat.le_of_ble_eq_true g3
    have hz : ∀ p ∈ (sargE (stake aux A.2.2.2.1 []).1).zip cs.1 ++ swtE A.2.2.2.2.1 (cwt C) cs.2.1, p.2.1 ≤ sev ρ p.1 ∧ sev ρ p.1 ≤ p.2.2 := fun p hp => by
      rcases List.mem_append.mp hp with hp | hp
      · refine szip_ok (ρ' := ρc) (k := 0) (fun i e he => ?_) (fun i q hq => ?_) p hp
        · exact sargE_ok o1 nc hv.1 i e he
        · rw [Nat.zero_add]
          exact b1 i q hq
      · refine swtE_ok (ρ' := ρc) (m := sarn (cap C)) (k := 0) a7.2.1 (fun i q hq => ?_) (fun i q hq => ?_) p hp
        · exact hv.2 i q hq
        · exact b2 i q hq
    obtain ⟨Y1, e1, k1, k2⟩ := srfl_ok a1 hz
    have hsh : shok T ρ Y1.length (shw (cww C) A.2.2.2.2) nn uu h' := by
      refine ⟨hr2, fun q hq => ?_, fun q hq => ?_, hr3, hr4⟩
      · obtain ⟨k1', k2'⟩ := List.mem_filter.mp hq
        have k2' : swin (cww C).1 q.1 q.2.1 = false := by simpa using k2'
        rw [hfr.1 _ _ k2', k2]
        exact a7.2.1 q k1'
      · obtain ⟨k1', k2'⟩ := List.mem_filter.mp hq
        have k2' : swiR (cww C).2 q.1 q.2.1 = false := by simpa using k2'
        rw [hfr.2 _ _ k2']
        exact a7.2.2.1 q k1'
    have base : sst T nn uu ρ τ (Y1, A.2.1, A.2.2.1, (stake aux A.2.2.2.1 []).2, shw (cww C) A.2.2.2.2) L (((stake aux A.2.2.2.1 []).2).map (scz ρ τ)) h' := by
      refine ⟨k1, a2, a3, fun v hv => ?_, rfl, fun v hv => ?_, hsh⟩
      · show sok ρ Y1.length _ v
        rw [k2]
        exact a4 v hv
      · show sok ρ Y1.length _ v
        rw [k2]
        exact o2 v hv
    obtain ⟨ρ1, τ1, m1, m2, m3⟩ := spsh_ok base b3
    obtain ⟨ρ2, n1, n2, n3⟩ := spos_ok m3 b4
    have m1 : sagree ρ ρ1 Y1.length := m1
    have m2 : Y1.length ≤ _ := m2
    rw [k2] at m1 m2
    have hag : sagree ρ ρ2 A.1.length := fun s hs => (n1 s (Nat.lt_of_lt_of_le hs m2)).trans (m1 s hs)
    have hle : A.1.length ≤ (spos (spsh (Y1, A.2.1, A.2.2.1, (stake aux A.2.2.2.1 []).2, shw (cww C) A.2.2.2.2) cs.2.2.1) cs.2.2.2.1).1.length := Nat.le_trans m2 n2
    refine ⟨(spos (spsh (Y1, A.2.1, A.2.2.1, (stake aux A.2.2.2.1 []).2, shw (cww C) A.2.2.2.2) cs.2.2.1) cs.2.2.2.1, (cs.2.2.2.2.1.flatMap (sgrw (cwt C) A.2.2.2.2.1 (spos (spsh (Y1, A.2.1, A.2.2.1, (stake aux A.2.2.2.1 []).2, shw (cww C) A.2.2.2.2) cs.2.2.1) cs.2.2.2.1).2.2.2.2.1 G)) ++ (cs.2.2.2.2.2.flatMap (srlg (sargE (stake aux A.2.2.2.1 []).1) (cwt C) A.2.2.2.2.1) ++ G)), List.mem_filterMap.mpr ⟨cs, hcs, ?_⟩, _, h', ρ2, τ1, hT, hag, hle, n3, ?_, hfr, hrR, hrE⟩
    · unfold scs1
      rw [e1]
    · have hH0 : ∀ q ∈ A.2.2.2.2.1, (xI h q.1 q.2.1).toInt = sev ρ2 q.2.2 ∧ q.2.2.1 ≤ (spos (spsh (Y1, A.2.1, A.2.2.1, (stake aux A.2.2.2.1 []).2, shw (cww C) A.2.2.2.2) cs.2.2.1) cs.2.2.2.1).1.length := fun q hq => by
        obtain ⟨z1, z2⟩ := a7.2.1 q hq
        exact ⟨z1.trans (sev_agree hag z2).symm, Nat.le_trans z2 hle⟩
      have hG' := hG.mv hag hle
      intro z hz
      rcases List.mem_append.mp hz with hz | hz
      · obtain ⟨g, hg, hz⟩ := List.mem_flatMap.mp hz
        exact sgrw_ok hH0 n3.2.2.2.2.2.2.2.1 hG' (fun q hq => by
          rw [← hv.2 _ q hq]
          exact b5 g hg q hq) z hz
      · rcases List.mem_append.mp hz with hz | hz
        · obtain ⟨g, hg, hz⟩ := List.mem_flatMap.mp hz
          have hrel := b6 g hg
          unfold srlg at hz
          split at hz
          · rename_i s c0 t c1 e0 e1
            obtain ⟨k1', k2'⟩ := hex ρc hv _ _ e0
            obtain ⟨m1', m2'⟩ := hex ρc hv _ _ e1
            rw [List.mem_singleton.mp hz]
            have f1 : sev ρ2 (s + 1, c0) = sev ρ (s + 1, c0) := sev_agree hag k2'
            have f2 : sev ρ2 (t + 1, c1) = sev ρ (t + 1, c1) := sev_agree hag m2'
            rw [k1', m1', ← f1, ← f2] at hrel
            have hrel : ρ2 s + c0 + g.2.2 ≤ ρ2 t + c1 := hrel
            refine ⟨Nat.lt_of_lt_of_le m2' hle, Nat.lt_of_lt_of_le k2' hle, ?_⟩
            show ρ2 s + (c0 + g.2.2 - c1) ≤ ρ2 t
            omega
          · exact absurd hz List.not_mem_nil
        · exact hG' z hz
end SCall
