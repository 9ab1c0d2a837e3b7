/-! A STATE WITHIN ANOTHER: B's symbols are told by what stands in A. -/
def sub1 (σ : List SE) (e : SE) : SE := match e with
  | (0, c) => (0, c)
  | (s + 1, c) => ((σ.getD s (0, 0)).1, (σ.getD s (0, 0)).2 + c)
def subV (σ : List SE) (la : List Nat) : SV → SV
  | .inl (.inl e) => .inl (.inl (sub1 σ e))
  | .inl (.inr j) => .inl (.inr (la.getD j 0))
  | .inr (.inl j) => .inr (.inl (la.getD j 0))
  | .inr (.inr q) => .inr (.inr q)
def swf (n m : Nat) : SV → Bool
  | .inl (.inl e) => Nat.ble e.1 n
  | .inl (.inr j) => Nat.blt j m
  | .inr (.inl j) => Nat.blt j m
  | .inr (.inr _) => true
def isany (v : SV) : Bool := match v with
  | .inr (.inr (0, 1)) => true
  | _ => false
theorem isany_eq {v : SV} (h : isany v = true) : v = sany := by
  unfold isany at h
  split at h
  · rfl
  · cases h
def sml (σ : List SE) (la : List Nat) : List SV → List SV → Bool
  | [], [] => true
  | b :: l, a :: m => (isany b || decide (subV σ la b = a)) && sml σ la l m
  | _, _ => false
def sbs (Y : SY) : List SE → SY → Bool
  | [], [] => true
  | e :: l, q :: m => (Nat.ble e.1 Y.length && (swi Y e q.1 && Nat.beq q.2.1 0)) && sbs Y l m
  | _, _ => false
def sfs (F : List Nat) : List Nat → List Nat → Bool
  | [], [] => true
  | j :: l, f :: m => (Nat.blt j F.length && (Nat.beq f 0 || Nat.beq (F.getD j 0) f)) && sfs F l m
  | _, _ => false
noncomputable def smt (A B : SS) (σ : List SE) (la : List Nat) : Bool :=
  ((sbs A.1 σ B.1 && sfs A.2.1 la B.2.1) && (sml σ la B.2.2.1 A.2.2.1 && decide (A.2.2.2.1 = B.2.2.2.1.map (subV σ la)))) && ((B.2.2.1.all (swf B.1.length B.2.1.length) && B.2.2.2.1.all (swf B.1.length B.2.1.length)) && (B.2.2.2.2.1.all (fun q => decide (slk A.2.2.2.2.1 q.1 q.2.1 = some (sub1 σ q.2.2)) && Nat.ble q.2.2.1 B.1.length) && B.2.2.2.2.2.all (fun q => decide (slkR A.2.2.2.2.2 q.1 q.2.1 = some q.2.2))))
section SMatch
variable {T : ST} {nn uu : Nat} {ρ : Nat → Int} {τ : Nat → Int64} {σ : List SE} {la : List Nat}
theorem sev_sub (e : SE) : sev ρ (sub1 σ e) = sev (fun s => sev ρ (σ.getD s (0, 0))) e := by
  obtain ⟨s, c⟩ := e
  cases s with
  | zero => rfl
  | succ s => exact sev_off
theorem scz_sub (v : SV) : scz ρ τ (subV σ la v) = scz (fun s => sev ρ (σ.getD s (0, 0))) (fun j => τ (la.getD j 0)) v := by
  match v with
  | .inl (.inl e) =>
    show xi (Int32.ofInt (sev ρ (sub1 σ e))) = xi (Int32.ofInt _)
    rw [sev_sub]
  | .inl (.inr j) => rfl
  | .inr (.inl j) => rfl
  | .inr (.inr q) => rfl
theorem sok_sub {n m n' m' : Nat} {v : SV} (h : sok ρ n m (subV σ la v)) (hw : swf n' m' v = true) : sok (fun s => sev ρ (σ.getD s (0, 0))) n' m' v := by
  match v, h, hw with
  | .inl (.inl e), h, hw => exact ⟨Nat.le_of_ble_eq_true hw, by rw [← sev_sub]; exact h.2⟩
  | .inl (.inr j), h, hw => exact Nat.le_of_ble_eq_true hw
  | .inr (.inl j), h, hw => exact Nat.le_of_ble_eq_true hw
  | .inr (.inr q), h, hw => trivial
theorem sml_ok : ∀ {B A : List SV}, sml σ la B A = true → B.length = A.length ∧ (∀ i, sgetL B i = sany ∨ subV σ la (sgetL B i) = sgetL A i) ∧ ∀ b ∈ B, b = sany ∨ subV σ la b ∈ A
  | [], [], _ => ⟨rfl, fun _ => Or.inr rfl, fun b hb => absurd hb List.not_mem_nil⟩
  | b :: l, a :: m, h => by
    have h : ((isany b || decide (subV σ la b = a)) && sml σ la l m) = true := h
    rw [Bool.and_eq_true, Bool.or_eq_true] at h
    obtain ⟨h1, h2⟩ := h
    obtain ⟨k1, k2, k3⟩ := sml_ok h2
    have hb : b = sany ∨ subV σ la b = a := h1.imp isany_eq of_decide_eq_true
    refine ⟨congrArg (· + 1) k1, fun i => ?_, fun x hx => ?_⟩
    · cases i with
      | zero => exact hb
      | succ i => exact k2 i
    · rcases List.mem_cons.mp hx with rfl | hx
      · rcases hb with hb | hb
        · exact Or.inl hb
        · exact Or.inr (by rw [hb]; exact List.mem_cons_self)
      · exact (k3 x hx).imp id (fun z => List.mem_cons_of_mem _ z)
theorem sbs_ok {Y : SY} (hY : syok ρ Y) : ∀ {l : List SE} {m : SY}, sbs Y l m = true → ∀ (s : Nat) (q : SI × Nat × Int), m[s]? = some q → (q.1.1 ≤ sev ρ (l.getD s (0, 0)) ∧ sev ρ (l.getD s (0, 0)) ≤ q.1.2) ∧ q.2.1 = 0
  | [], [], _, s, q, hq => by cases hq
  | e :: l, w :: m, h, s, q, hq => by
    have h : ((Nat.ble e.1 Y.length && (swi Y e w.1 && Nat.beq w.2.1 0)) && sbs Y l m) = true := h
    simp only [Bool.and_eq_true] at h
    obtain ⟨⟨h1, h2, h3⟩, h4⟩ := h
    cases s with
    | zero =>
      obtain rfl := Option.some.inj hq
      exact ⟨swi_ok hY (Nat.le_of_ble_eq_true h1) h2, Nat.eq_of_beq_eq_true h3⟩
    | succ s => exact sbs_ok hY h4 s q hq
theorem sfs_ok {F : List Nat} (hF : slok τ F) : ∀ {l m : List Nat}, sfs F l m = true → ∀ (j f : Nat), m[j]? = some f → (f = 1 → τ (l.getD j 0) ≠ 0) ∧ (f = 2 → τ (l.getD j 0) = 0)
  | [], [], _, s, q, hq => by cases hq
  | e :: l, w :: m, h, s, q, hq => by
    have h : ((Nat.blt e F.length && (Nat.beq w 0 || Nat.beq (F.getD e 0) w)) && sfs F l m) = true := h
    simp only [Bool.and_eq_true, Bool.or_eq_true] at h
    obtain ⟨⟨h1, h2⟩, h3⟩ := h
    cases s with
    | zero =>
      obtain rfl := Option.some.inj hq
      rcases h2 with h2 | h2
      · have := Nat.eq_of_beq_eq_true h2
        subst this
        exact ⟨(fun z => by cases z), (fun z => by cases z)⟩
      · have e1 := Nat.eq_of_beq_eq_true h2
        have hl : e < F.length := Nat.le_of_ble_eq_true h1
        rw [List.getD_eq_getElem?_getD, List.getElem?_eq_getElem hl] at e1
        have e2 : F[e]? = some w := by
          rw [List.getElem?_eq_getElem hl]
          exact congrArg some e1
        exact hF e w e2
    | succ s => exact sfs_ok hF h3 s q hq
theorem smt_ok {A B : SS} {L st : List XV} {h : XH} (hs : sst T nn uu ρ τ A L st h) (hm : smt A B σ la = true) : sst T nn uu (fun s => sev ρ (σ.getD s (0, 0))) (fun j => τ (la.getD j 0)) B L st h := by
  unfold smt at hm
  simp only [Bool.and_eq_true] at hm
  obtain ⟨⟨⟨m1, m2⟩, m3, m4⟩, ⟨m5, m6⟩, m7, m8⟩ := hm
  obtain ⟨a1, a2, a3, a4, a5, a6, a7⟩ := hs
  obtain ⟨k1, k2, k3⟩ := sml_ok m3
  have m4 := of_decide_eq_true m4
  refine ⟨fun s q hq => ?_, fun j f hf => sfs_ok a2 m2 j f hf, ⟨a3.1.trans k1.symm, fun i => ?_⟩, fun b hb => ?_, ?_, fun b hb => ?_, ?_⟩
  · obtain ⟨g1, g2⟩ := sbs_ok a1 m1 s q hq
    exact ⟨g1, fun b hb => by rw [g2] at hb; cases hb⟩
  · rcases k2 i with z | z
    · exact Or.inl z
    · rcases a3.2 i with w | w
      · rw [w] at z
        refine Or.inl ?_
        revert z
        cases sgetL B.2.2.1 i with
        | inl x => cases x <;> (intro z; cases z)
        | inr x => cases x with
          | inl j => intro z; cases z
          | inr q => intro z; exact z
      · refine Or.inr (w.trans ?_)
        rw [← z]
        exact scz_sub _
  · rcases k3 b hb with z | z
    · rw [z]; trivial
    · exact sok_sub (a4 _ z) (List.all_eq_true.mp m5 b hb)
  · rw [a5, m4, List.map_map]
    exact List.map_congr_left fun v _ => scz_sub v
  · have : subV σ la b ∈ A.2.2.2.1 := by
      rw [m4]
      exact List.mem_map.mpr ⟨b, hb, rfl⟩
    exact sok_sub (a6 _ this) (List.all_eq_true.mp m6 b hb)
  · refine ⟨a7.1, fun q hq => ?_, fun q hq => ?_, a7.2.2.2⟩
    · have z := List.all_eq_true.mp m7 q hq
      rw [Bool.and_eq_true] at z
      have z1 := of_decide_eq_true z.1
      refine ⟨?_, Nat.le_of_ble_eq_true z.2⟩
      rw [← sev_sub]
      exact (a7.2.1 _ (slk_mem z1)).1
    · have z := of_decide_eq_true (List.all_eq_true.mp m8 q hq)
      exact a7.2.2.1 _ (slkR_mem z)
end SMatch
