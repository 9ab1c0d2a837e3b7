/-! HINTS: what is done with a state ahead of an instruction: a value split into its constants, relations used, constants written as such, relations checked, a slot looked at. -/
abbrev SLc : Type := Nat × Nat × Nat
def sat (A : SS) : SLc → Option SE
  | (0, i, _) => match sgetL A.2.2.1 i with
    | .inl (.inl e) => some e
    | _ => none
  | (1, i, _) => match sgetL A.2.2.2.1 i with
    | .inl (.inl e) => some e
    | _ => none
  | (_, c, k) => slk A.2.2.2.2.1 c k
def snrm (Y : SY) (e : SE) : SE := match e with
  | (0, c) => (0, c)
  | (s + 1, c) => match Y[s]? with
    | some q => bif decide (q.1.1 = q.1.2) then (0, q.1.1 + c) else (s + 1, c)
    | none => (s + 1, c)
def snv (Y : SY) : SV → SV
  | .inl (.inl e) => .inl (.inl (snrm Y e))
  | .inl (.inr j) => .inl (.inr j)
  | .inr w => .inr w
def snrA (A : SS) : SS := (A.1, A.2.1, A.2.2.1.map (snv A.1), A.2.2.2.1.map (snv A.1), (A.2.2.2.2.1.map (fun q => (q.1, q.2.1, snrm A.1 q.2.2)), A.2.2.2.2.2))
abbrev SHn : Type := Nat × SLc × List Nat
def sgd (T : ST) (A : SS) (q : SQ) : Bool := match slk A.2.2.2.2.1 q.1 q.2.1 with
  | some e => swi A.1 e q.2.2
  | none => decide (q.2.2.1 ≤ (T.1 q.1 q.2.1).1) && decide ((T.1 q.1 q.2.1).2 ≤ q.2.2.2)
def sapp (T : ST) (R : List SRl) (w : SWl) (A : SS) (j : Nat) : List SS := match R[j]? with
  | some (.inr _) => [A]
  | some (.inl r) => bif !stch w (.inl r) && r.1.all (sgd T A) then (match slk A.2.2.2.2.1 r.2.1 r.2.2.1 with
    | some e => (match srf A.1 e r.2.2.2 with
      | some Y => [(Y, A.2)]
      | none => [])
    | none => [A]) else [A]
  | none => [A]
def sapps (T : ST) (R : List SRl) (w : SWl) : List Nat → SS → List SS
  | [], A => [A]
  | j :: l, A => (sapp T R w A j).flatMap (sapps T R w l)
def sgrf (A : SS) : List SQ → Option SS
  | [] => some A
  | q :: l => match slk A.2.2.2.2.1 q.1 q.2.1 with
    | some e => (match srf A.1 e q.2.2 with
      | some Y => sgrf (Y, A.2) l
      | none => none)
    | none => sgrf A l
/-- a value isn't above another -/
def sle (Y : SY) (G : SGs) (a b : SE) : Bool := decide ((siv Y a).2 ≤ (siv Y b).1) || ((Nat.beq a.1 b.1 && decide (a.2 ≤ b.2)) || (match a.1, b.1 with
  | s + 1, t + 1 => G.any (fun z => (Nat.beq z.1 t && Nat.beq z.2.1 s) && decide (a.2 ≤ z.2.2 + b.2))
  | _, _ => false))
def schk (T : ST) (R : List SRl) (w : SWl) (js : List Nat) (A : SS) (G : SGs) : SRl → Bool
  | .inl r => (match sgrf A r.1 with
    | none => true
    | some A1 => (sapps T R w js A1).all (fun A2 => sgd T A2 r.2))
  | .inr r => (match slk A.2.2.2.2.1 r.1.1 r.1.2, slk A.2.2.2.2.1 r.2.1 r.2.2 with
    | some a, some b => sle A.1 G a b
    | _, _ => false)
def sgf (a b : SE) (d : Int) : SGs := match a.1, b.1 with
  | s + 1, t + 1 => [(t, s, a.2 + d - b.2)]
  | _, _ => []
theorem sgf_ok {ρ : Nat → Int} {n : Nat} {a b : SE} {d : Int} (ha : a.1 ≤ n) (hb : b.1 ≤ n) (h : sev ρ a + d ≤ sev ρ b) : sgok ρ n (sgf a b d) := by
  obtain ⟨s, x⟩ := a
  obtain ⟨t, y⟩ := b
  unfold sgf
  dsimp only
  split
  · rename_i s t
    intro z hz
    rw [List.mem_singleton.mp hz]
    have h : ρ s + x + d ≤ ρ t + y := h
    refine ⟨hb, ha, ?_⟩
    show ρ s + (x + d - y) ≤ ρ t
    omega
  · exact fun z hz => absurd hz List.not_mem_nil
/-- facts, and what they give with those that are known -/
def sgx (G l : SGs) : SGs := l ++ l.flatMap (fun f => (G.filter (fun z => Nat.beq z.1 f.2.1)).map (fun z => (f.1, z.2.1, f.2.2 + z.2.2)))
theorem sgx_ok {ρ : Nat → Int} {n : Nat} {G l : SGs} (hG : sgok ρ n G) (hl : sgok ρ n l) : sgok ρ n (sgx G l) := by
  intro z hz
  rcases List.mem_append.mp hz with hz | hz
  · exact hl z hz
  · obtain ⟨f, hf, hz⟩ := List.mem_flatMap.mp hz
    obtain ⟨y, hy, rfl⟩ := List.mem_map.mp hz
    obtain ⟨y1, y2⟩ := List.mem_filter.mp hy
    obtain ⟨a1, a2, a3⟩ := hl f hf
    obtain ⟨b1, b2, b3⟩ := hG y y1
    rw [Nat.eq_of_beq_eq_true y2] at b3
    refine ⟨a1, b2, ?_⟩
    show ρ y.2.1 + (f.2.2 + y.2.2) ≤ ρ f.1
    omega
/-- below, or the same -/
def sord (A : SS) (G : SGs) (c k : Nat) (a b : SE) : List (SS × SGs) :=
  (match srf2 .lt A.1 a b with
    | some Y => [((Y, A.2), (match a.1, b.1 with
      | s + 1, t + 1 => (t, s, 1 + a.2 - b.2) :: G
      | _, _ => G))]
    | none => []) ++ (match srf2 .eq A.1 a b with
    | some Y => [((Y, A.2.1, A.2.2.1, A.2.2.2.1, ((c, k, b) :: sdel A.2.2.2.2.1 c k, A.2.2.2.2.2)), sgx G (sgf a b 0) ++ G)]
    | none => [])
def spk (T : ST) (A : SS) (c k : Nat) : SS := match slk A.2.2.2.2.1 c k with
  | some _ => A
  | none => (A.1 ++ [(T.1 c k, 0, 0)], A.2.1, A.2.2.1, A.2.2.2.1, ((c, k, (A.1.length + 1, 0)) :: A.2.2.2.2.1, A.2.2.2.2.2))
def spli (A : SS) (e : SE) : List SS := (List.range ((siv A.1 e).2 - (siv A.1 e).1 + 1).toNat).filterMap (fun (i : Nat) => (srf A.1 e ((siv A.1 e).1 + (i : Int), (siv A.1 e).1 + (i : Int))).map (fun Y => snrA (Y, A.2)))
/-- a value below, between and from on the thresholds -/
def spth (A : SS) (e : SE) : Int → List Nat → List SS
  | a, [] => (match srf A.1 e (a, sinf) with
    | some Y => [(Y, A.2)]
    | none => [])
  | a, v :: l => (match srf A.1 e (a, (v : Int) - 1) with
    | some Y => [(Y, A.2)]
    | none => []) ++ spth A e (v : Int) l
def shn (T : ST) (R : List SRl) (x : SHn) (A : SS) (G : SGs) (w : SWl) : Option (List (SS × SGs × SWl)) := match x.1 with
  | 0 => match sat A x.2.1 with
    | some e => bif decide ((siv A.1 e).2 - (siv A.1 e).1 ≤ 1000) then some ((spli A e).map (fun B => (B, G, w))) else none
    | none => none
  | 1 => some ((sapps T R w x.2.2 A).map (fun B => (B, G, w)))
  | 2 => some [(snrA A, G, w)]
  | 3 => bif R.all (fun r => !stch w r || schk T R w x.2.2 A G r) then some [(A, G, [])] else none
  | 4 => match sat A x.2.1 with
    | some e => some ((spth A e (-sinf) x.2.2).map (fun B => (B, G, w)))
    | none => none
  | 5 => some [(spk T A x.2.1.2.1 x.2.1.2.2, G, w)]
  | _ => match R[x.2.1.2.1]? with
    | some (.inr r) => (match slk A.2.2.2.2.1 r.1.1 r.1.2, slk A.2.2.2.2.1 r.2.1 r.2.2 with
      | some a, some b => bif !stch w (.inr r) || sle A.1 G a b then some ((sord A G r.1.1 r.1.2 a b).map (fun B => (B.1, B.2, w))) else none
      | _, _ => none)
    | _ => none
/-- all hints of a place, then k -/
def shs (T : ST) (R : List SRl) (k : SS → SGs → SWl → Bool) : List SHn → SS → SGs → SWl → Bool
  | [], A, G, w => k A G w
  | x :: l, A, G, w => match shn T R x A G w with
    | none => false
    | some S => S.all (fun q => shs T R k l q.1 q.2.1 q.2.2)
section SHints
variable {T : ST} {R : List SRl} {nn uu : Nat} {ρ : Nat → Int} {τ : Nat → Int64} {L st : List XV} {h : XH}
theorem snrm_ok {Y : SY} (hY : syok ρ Y) (e : SE) : sev ρ (snrm Y e) = sev ρ e ∧ (snrm Y e).1 ≤ e.1 := by
  obtain ⟨s, c⟩ := e
  cases s with
  | zero => exact ⟨rfl, Nat.le_refl _⟩
  | succ s =>
    unfold snrm
    dsimp only
    cases hq : Y[s]? with
    | none => exact ⟨rfl, Nat.le_refl _⟩
    | some q =>
      dsimp only
      by_cases hb : q.1.1 = q.1.2
      · rw [decide_eq_true hb]
        have := (hY s q hq).1
        refine ⟨?_, Nat.zero_le _⟩
        show q.1.1 + c = ρ s + c
        omega
      · rw [decide_eq_false hb]
        exact ⟨rfl, Nat.le_refl _⟩
theorem snv_z {Y : SY} (hY : syok ρ Y) (v : SV) : scz ρ τ (snv Y v) = scz ρ τ v := by
  match v with
  | .inl (.inl e) =>
    show xi (Int32.ofInt (sev ρ (snrm Y e))) = xi (Int32.ofInt (sev ρ e))
    rw [(snrm_ok hY e).1]
  | .inl (.inr j) => rfl
  | .inr w => rfl
theorem snv_sok {Y : SY} (hY : syok ρ Y) {n m : Nat} {v : SV} (h : sok ρ n m v) : sok ρ n m (snv Y v) := by
  match v, h with
  | .inl (.inl e), h =>
    obtain ⟨k1, k2⟩ := snrm_ok hY e
    exact ⟨Nat.le_trans k2 h.1, by rw [k1]; exact h.2⟩
  | .inl (.inr j), h => exact h
  | .inr w, h => exact h
theorem sgetL_map {f : SV → SV} (hf : f sun = sun) : ∀ (l : List SV) (i : Nat), sgetL (l.map f) i = f (sgetL l i)
  | [], _ => hf.symm
  | _ :: _, 0 => rfl
  | _ :: l, k + 1 => sgetL_map hf l k
theorem snrA_ok {A : SS} (hs : sst T nn uu ρ τ A L st h) : sst T nn uu ρ τ (snrA A) L st h := by
  obtain ⟨a1, a2, a3, a4, a5, a6, a7⟩ := hs
  refine ⟨a1, a2, ⟨a3.1.trans (List.length_map _).symm, fun i => ?_⟩, fun v hv => ?_, ?_, fun v hv => ?_, a7.1, fun q hq => ?_, a7.2.2⟩
  · show sgetL (A.2.2.1.map (snv A.1)) i = sany ∨ _
    rcases a3.2 i with z | z
    · rw [sgetL_map rfl, z]
      exact Or.inl rfl
    · refine Or.inr (z.trans ?_)
      show _ = scz ρ τ (sgetL (A.2.2.1.map (snv A.1)) i)
      rw [sgetL_map rfl, snv_z a1]
  · obtain ⟨u, hu, rfl⟩ := List.mem_map.mp hv
    exact snv_sok a1 (a4 u hu)
  · rw [a5]
    show _ = List.map (scz ρ τ) (A.2.2.2.1.map (snv A.1))
    rw [List.map_map]
    exact List.map_congr_left fun v _ => (snv_z a1 v).symm
  · obtain ⟨u, hu, rfl⟩ := List.mem_map.mp hv
    exact snv_sok a1 (a6 u hu)
  · obtain ⟨u, hu, rfl⟩ := List.mem_map.mp hq
    obtain ⟨k1, k2⟩ := a7.2.1 u hu
    obtain ⟨m1, m2⟩ := snrm_ok a1 u.2.2
    exact ⟨k1.trans m1.symm, Nat.le_trans m2 k2⟩
theorem sgd_ok {A : SS} (hs : sst T nn uu ρ τ A L st h) {q : SQ} (hd : sgd T A q = true) : sqin h q := by
  unfold sgd at hd
  unfold sqin
  cases hk : slk A.2.2.2.2.1 q.1 q.2.1 with
  | some e =>
    rw [hk] at hd
    have y := hs.2.2.2.2.2.2.2.1 _ (slk_mem hk)
    have y1 : (xI h q.1 q.2.1).toInt = sev ρ e := y.1
    rw [y1]
    exact swi_ok hs.1 y.2 hd
  | none =>
    rw [hk] at hd
    have z : (decide (q.2.2.1 ≤ (T.1 q.1 q.2.1).1) && decide ((T.1 q.1 q.2.1).2 ≤ q.2.2.2)) = true := hd
    rw [Bool.and_eq_true] at z
    have z1 := of_decide_eq_true z.1
    have z2 := of_decide_eq_true z.2
    have y := hs.2.2.2.2.2.2.1.1 q.1 q.2.1
    omega
theorem sst_rf {A : SS} {e : SE} {q : SI} (hs : sst T nn uu ρ τ A L st h) (hq : q.1 ≤ sev ρ e ∧ sev ρ e ≤ q.2) : ∃ Y, srf A.1 e q = some Y ∧ Y.length = A.1.length ∧ sst T nn uu ρ τ (Y, A.2) L st h := by
  obtain ⟨Y, e1, k1⟩ := srf_ok hs.1 hq
  obtain ⟨Y0, F, LA, sA, H⟩ := A
  exact ⟨Y, e1, srf_len e1, sst_nar hs k1 (srf_len e1)⟩
theorem sapp_ok {A : SS} {w : SWl} {j : Nat} (hs : sst T nn uu ρ τ A L st h) (hr : srw R w h) : ∃ B ∈ sapp T R w A j, B.1.length = A.1.length ∧ sst T nn uu ρ τ B L st h := by
  unfold sapp
  cases hj : R[j]? with
  | none => exact ⟨A, List.mem_singleton.mpr rfl, rfl, hs⟩
  | some r =>
  cases r with
  | inr r => exact ⟨A, List.mem_singleton.mpr rfl, rfl, hs⟩
  | inl r =>
    dsimp only
    cases hg : (!stch w (.inl r) && r.1.all (sgd T A)) with
    | false => exact ⟨A, List.mem_singleton.mpr rfl, rfl, hs⟩
    | true =>
      dsimp only [cond]
      rw [Bool.and_eq_true] at hg
      cases hk : slk A.2.2.2.2.1 r.2.1 r.2.2.1 with
      | none => exact ⟨A, List.mem_singleton.mpr rfl, rfl, hs⟩
      | some e =>
        dsimp only
        have hin := hr (.inl r) (List.mem_of_getElem? hj) (by simpa using hg.1) (fun q hq => sgd_ok hs (List.all_eq_true.mp hg.2 q hq))
        unfold sqin at hin
        have y := hs.2.2.2.2.2.2.2.1 _ (slk_mem hk)
        have y1 : (xI h r.2.1 r.2.2.1).toInt = sev ρ e := y.1
        rw [y1] at hin
        obtain ⟨Y, e1, e2, e3⟩ := sst_rf hs hin
        rw [e1]
        exact ⟨_, List.mem_singleton.mpr rfl, e2, e3⟩
theorem sapps_ok {w : SWl} (hr : srw R w h) : ∀ {js : List Nat} {A : SS}, sst T nn uu ρ τ A L st h → ∃ B ∈ sapps T R w js A, B.1.length = A.1.length ∧ sst T nn uu ρ τ B L st h
  | [], A, hs => ⟨A, List.mem_singleton.mpr rfl, rfl, hs⟩
  | j :: l, A, hs => by
    obtain ⟨B, b1, b2, b3⟩ := sapp_ok (j := j) hs hr
    obtain ⟨D, d1, d2, d3⟩ := sapps_ok hr (js := l) b3
    exact ⟨D, List.mem_flatMap.mpr ⟨B, b1, d1⟩, d2.trans b2, d3⟩
theorem sgrf_ok : ∀ {l : List SQ} {A : SS}, sst T nn uu ρ τ A L st h → (∀ q ∈ l, sqin h q) → ∃ B, sgrf A l = some B ∧ sst T nn uu ρ τ B L st h
  | [], A, hs, _ => ⟨A, rfl, hs⟩
  | q :: l, A, hs, hq => by
    have hq' := fun q' (hq' : q' ∈ l) => hq q' (List.mem_cons_of_mem _ hq')
    unfold sgrf
    cases hk : slk A.2.2.2.2.1 q.1 q.2.1 with
    | none => exact sgrf_ok hs hq'
    | some e =>
      dsimp only
      have hin := hq q List.mem_cons_self
      unfold sqin at hin
      have y := hs.2.2.2.2.2.2.2.1 _ (slk_mem hk)
      have y1 : (xI h q.1 q.2.1).toInt = sev ρ e := y.1
      rw [y1] at hin
      obtain ⟨Y, e1, e2, e3⟩ := sst_rf hs hin
      rw [e1]
      exact sgrf_ok e3 hq'
theorem sle_ok {Y : SY} {G : SGs} {a b : SE} (hY : syok ρ Y) (hG : sgok ρ Y.length G) (ha : a.1 ≤ Y.length) (hb : b.1 ≤ Y.length) (hd : sle Y G a b = true) : sev ρ a ≤ sev ρ b := by
  unfold sle at hd
  rw [Bool.or_eq_true, Bool.or_eq_true] at hd
  rcases hd with hd | hd | hd
  · have := of_decide_eq_true hd
    have h1 := siv_ok hY ha
    have h2 := siv_ok hY hb
    omega
  · rw [Bool.and_eq_true] at hd
    have e1 := Nat.eq_of_beq_eq_true hd.1
    have e2 := of_decide_eq_true hd.2
    obtain ⟨s, x⟩ := a
    obtain ⟨t, y⟩ := b
    obtain rfl : s = t := e1
    have e2 : x ≤ y := e2
    cases s with
    | zero => exact e2
    | succ s => show ρ s + x ≤ ρ s + y; omega
  · obtain ⟨s, x⟩ := a
    obtain ⟨t, y⟩ := b
    dsimp only at hd
    split at hd
    · rename_i s t
      obtain ⟨z, hz, hy⟩ := List.any_eq_true.mp hd
      rw [Bool.and_eq_true, Bool.and_eq_true] at hy
      have e1 := Nat.eq_of_beq_eq_true hy.1.1
      have e2 := Nat.eq_of_beq_eq_true hy.1.2
      have e3 := of_decide_eq_true hy.2
      have k := (hG z hz).2.2
      rw [e1, e2] at k
      show ρ s + x ≤ ρ t + y
      omega
    · cases hd
theorem schk_ok {A : SS} {G : SGs} {w : SWl} {js : List Nat} {r : SRl} (hs : sst T nn uu ρ τ A L st h) (hG : sgok ρ A.1.length G) (hr : srw R w h) (hd : schk T R w js A G r = true) : srlh h r := by
  match r, hd with
  | .inl r, hd =>
    intro hg
    obtain ⟨B, b1, b2⟩ := sgrf_ok hs hg
    have hd : (match sgrf A r.1 with
      | none => true
      | some A1 => (sapps T R w js A1).all (fun A2 => sgd T A2 r.2)) = true := hd
    rw [b1] at hd
    obtain ⟨D, d1, d2, d3⟩ := sapps_ok hr (js := js) b2
    exact sgd_ok d3 (List.all_eq_true.mp hd D d1)
  | .inr r, hd =>
    have hd : (match slk A.2.2.2.2.1 r.1.1 r.1.2, slk A.2.2.2.2.1 r.2.1 r.2.2 with
      | some a, some b => sle A.1 G a b
      | _, _ => false) = true := hd
    split at hd
    · rename_i a b ea eb
      have ya := hs.2.2.2.2.2.2.2.1 _ (slk_mem ea)
      have yb := hs.2.2.2.2.2.2.2.1 _ (slk_mem eb)
      show (xI h r.1.1 r.1.2).toInt ≤ (xI h r.2.1 r.2.2).toInt
      rw [ya.1, yb.1]
      exact sle_ok hs.1 hG ya.2 yb.2 hd
    · cases hd
theorem sord_ok {A : SS} {G : SGs} {c k : Nat} {a b : SE} (hs : sst T nn uu ρ τ A L st h) (hG : sgok ρ A.1.length G) (ka : (xI h c k).toInt = sev ρ a) (ha : a.1 ≤ A.1.length) (hb : b.1 ≤ A.1.length) (rb : i32r (sev ρ b)) (hle : sev ρ a ≤ sev ρ b) : ∃ q ∈ sord A G c k a b, q.1.1.length = A.1.length ∧ sst T nn uu ρ τ q.1 L st h ∧ sgok ρ q.1.1.length q.2 := by
  have ra : i32r (sev ρ a) := by rw [← ka]; exact i32r_of _
  unfold sord
  by_cases hlt : sev ρ a < sev ρ b
  · obtain ⟨Y, e1, k1⟩ := srf2_ok (c := .lt) hs.1 ha hb ra rb hlt
    rw [e1]
    refine ⟨_, List.mem_append_left _ (List.mem_singleton.mpr rfl), srf2_len e1, ?_, ?_⟩
    · obtain ⟨Y0, F, LA, sA, H⟩ := A
      exact sst_nar hs k1 (srf2_len e1)
    · show sgok ρ Y.length _
      rw [srf2_len e1]
      split
      · rename_i s t hsa htb
        obtain ⟨s', x⟩ := a
        obtain ⟨t', y⟩ := b
        obtain rfl : s' = s + 1 := hsa
        obtain rfl : t' = t + 1 := htb
        intro z hz
        rcases List.mem_cons.mp hz with rfl | hz
        · refine ⟨hb, ha, ?_⟩
          have hlt : ρ s + x < ρ t + y := hlt
          show ρ s + (1 + x - y) ≤ ρ t
          omega
        · exact hG z hz
      · exact hG
  · have heq : sev ρ a = sev ρ b := by omega
    obtain ⟨Y, e1, k1⟩ := srf2_ok (c := .eq) hs.1 ha hb ra rb heq
    rw [e1]
    refine ⟨_, List.mem_append_right _ (List.mem_singleton.mpr rfl), srf2_len e1, ?_, ?_⟩
    · obtain ⟨Y0, F, LA, sA, H⟩ := A
      have k2 := sst_nar hs k1 (srf2_len e1)
      have hh := k2.2.2.2.2.2.2
      refine sst_heap (H' := ((c, k, b) :: sdel H.1 c k, H.2)) k2 ⟨hh.1, fun w hw => ?_, hh.2.2⟩
      rcases List.mem_cons.mp hw with rfl | hw
      · refine ⟨ka.trans heq, ?_⟩
        have := srf2_len e1
        show b.1 ≤ Y.length
        rw [this]
        exact hb
      · exact hh.2.1 w (List.mem_filter.mp hw).1
    · show sgok ρ Y.length (sgx G (sgf a b 0) ++ G)
      rw [srf2_len e1]
      intro z hz
      rcases List.mem_append.mp hz with hz | hz
      · exact sgx_ok hG (sgf_ok ha hb (by omega)) z hz
      · exact hG z hz
theorem spk_ok {A : SS} {c k : Nat} (hs : sst T nn uu ρ τ A L st h) : ∃ ρ', sagree ρ ρ' A.1.length ∧ A.1.length ≤ (spk T A c k).1.length ∧ sst T nn uu ρ' τ (spk T A c k) L st h := by
  unfold spk
  cases hk : slk A.2.2.2.2.1 c k with
  | some e => exact ⟨ρ, fun _ _ => rfl, Nat.le_refl _, hs⟩
  | none =>
    exact spos_ok (ps := [(c, k, T.1 c k)]) hs (fun q hq => by
      rw [List.mem_singleton.mp hq]
      exact hs.2.2.2.2.2.2.1.1 c k)
theorem spli_ok {A : SS} {e : SE} (hs : sst T nn uu ρ τ A L st h) (he : e.1 ≤ A.1.length) : ∃ B ∈ spli A e, B.1.length = A.1.length ∧ sst T nn uu ρ τ B L st h := by
  have hb := siv_ok hs.1 he
  have hi : ((sev ρ e - (siv A.1 e).1).toNat : Int) = sev ρ e - (siv A.1 e).1 := Int.toNat_of_nonneg (by omega)
  obtain ⟨Y, e1, e2, e3⟩ := sst_rf (e := e) (q := ((siv A.1 e).1 + ((sev ρ e - (siv A.1 e).1).toNat : Int), (siv A.1 e).1 + ((sev ρ e - (siv A.1 e).1).toNat : Int))) hs ⟨by show _ + _ ≤ _; omega, by show _ ≤ _ + _; omega⟩
  refine ⟨snrA (Y, A.2), List.mem_filterMap.mpr ⟨(sev ρ e - (siv A.1 e).1).toNat, List.mem_range.mpr (by omega), ?_⟩, e2, snrA_ok e3⟩
  rw [e1]
  rfl
theorem spth_ok {A : SS} {e : SE} (hs : sst T nn uu ρ τ A L st h) (hr : i32r (sev ρ e)) : ∀ {l : List Nat} {a : Int}, a ≤ sev ρ e → ∃ B ∈ spth A e a l, B.1.length = A.1.length ∧ sst T nn uu ρ τ B L st h
  | [], a, ha => by
    have h2 := hr.2
    have hi : sinf = 1099511627776 := rfl
    obtain ⟨Y, e1, e2, e3⟩ := sst_rf (e := e) (q := (a, sinf)) hs ⟨ha, by show _ ≤ sinf; omega⟩
    refine ⟨(Y, A.2), ?_, e2, e3⟩
    unfold spth
    rw [e1]
    exact List.mem_singleton.mpr rfl
  | v :: l, a, ha => by
    unfold spth
    by_cases hv : sev ρ e ≤ (v : Int) - 1
    · obtain ⟨Y, e1, e2, e3⟩ := sst_rf (e := e) (q := (a, (v : Int) - 1)) hs ⟨ha, hv⟩
      refine ⟨(Y, A.2), List.mem_append_left _ ?_, e2, e3⟩
      rw [e1]
      exact List.mem_singleton.mpr rfl
    · obtain ⟨B, b1, b2, b3⟩ := spth_ok hs hr (l := l) (a := (v : Int)) (by omega)
      exact ⟨B, List.mem_append_right _ b1, b2, b3⟩
theorem sat_ok {A : SS} {p : SLc} {e : SE} (hs : sst T nn uu ρ τ A L st h) (hp : sat A p = some e) : e.1 ≤ A.1.length ∧ i32r (sev ρ e) := by
  unfold sat at hp
  split at hp
  · split at hp
    · rename_i i _ _ e' hg
      obtain rfl := Option.some.inj hp
      have := sgetL_ok (i := i) hs.2.2.2.1
      rw [hg] at this
      exact this
    · cases hp
  · split at hp
    · rename_i i _ _ e' hg
      obtain rfl := Option.some.inj hp
      have := sgetL_ok (i := i) hs.2.2.2.2.2.1
      rw [hg] at this
      exact this
    · cases hp
  · have y := hs.2.2.2.2.2.2.2.1 _ (slk_mem hp)
    refine ⟨y.2, ?_⟩
    rw [← y.1]
    exact i32r_of _
theorem shn_ok {A : SS} {G : SGs} {w : SWl} {x : SHn} {S : List (SS × SGs × SWl)} (hs : sst T nn uu ρ τ A L st h) (hG : sgok ρ A.1.length G) (hr : srw R w h) (hd : shn T R x A G w = some S) : ∃ q ∈ S, ∃ ρ', sagree ρ ρ' A.1.length ∧ A.1.length ≤ q.1.1.length ∧ sst T nn uu ρ' τ q.1 L st h ∧ sgok ρ' q.1.1.length q.2.1 ∧ srw R q.2.2 h := by
  have same : ∀ {B : SS}, B.1.length = A.1.length → sgok ρ B.1.length G := fun {B} e => by rw [e]; exact hG
  unfold shn at hd
  split at hd
  · cases hp : sat A x.2.1 with
    | none => rw [hp] at hd; cases hd
    | some e =>
      rw [hp] at hd
      dsimp only at hd
      cases hc : decide ((siv A.1 e).2 - (siv A.1 e).1 ≤ 1000) with
      | false => rw [hc] at hd; cases hd
      | true =>
        rw [hc] at hd
        obtain rfl := Option.some.inj hd
        obtain ⟨B, b1, b2, b3⟩ := spli_ok hs (sat_ok hs hp).1
        exact ⟨(B, G, w), List.mem_map.mpr ⟨B, b1, rfl⟩, ρ, fun _ _ => rfl, Nat.le_of_eq b2.symm, b3, same b2, hr⟩
  · obtain rfl := Option.some.inj hd
    obtain ⟨B, b1, b2, b3⟩ := sapps_ok hr (js := x.2.2) hs
    exact ⟨(B, G, w), List.mem_map.mpr ⟨B, b1, rfl⟩, ρ, fun _ _ => rfl, Nat.le_of_eq b2.symm, b3, same b2, hr⟩
  · obtain rfl := Option.some.inj hd
    exact ⟨_, List.mem_singleton.mpr rfl, ρ, fun _ _ => rfl, Nat.le_refl _, snrA_ok hs, hG, hr⟩
  · cases hc : R.all (fun r => !stch w r || schk T R w x.2.2 A G r) with
    | false => rw [hc] at hd; cases hd
    | true =>
      rw [hc] at hd
      obtain rfl := Option.some.inj hd
      refine ⟨_, List.mem_singleton.mpr rfl, ρ, fun _ _ => rfl, Nat.le_refl _, hs, hG, fun r hr' _ => ?_⟩
      have z := List.all_eq_true.mp hc r hr'
      rw [Bool.or_eq_true] at z
      rcases z with z | z
      · exact hr r hr' (by simpa using z)
      · exact schk_ok hs hG hr z
  · cases hp : sat A x.2.1 with
    | none => rw [hp] at hd; cases hd
    | some e =>
      rw [hp] at hd
      obtain rfl := Option.some.inj hd
      have hr' := (sat_ok hs hp).2
      have h1 := hr'.1
      have hi : sinf = 1099511627776 := rfl
      obtain ⟨B, b1, b2, b3⟩ := spth_ok hs hr' (l := x.2.2) (a := -sinf) (by omega)
      exact ⟨(B, G, w), List.mem_map.mpr ⟨B, b1, rfl⟩, ρ, fun _ _ => rfl, Nat.le_of_eq b2.symm, b3, same b2, hr⟩
  · obtain rfl := Option.some.inj hd
    obtain ⟨ρ', k1, k2, k3⟩ := spk_ok (c := x.2.1.2.1) (k := x.2.1.2.2) hs
    exact ⟨_, List.mem_singleton.mpr rfl, ρ', k1, k2, k3, hG.mv k1 k2, hr⟩
  · split at hd
    · rename_i r hj
      split at hd
      · rename_i a b ea eb
        have ya := hs.2.2.2.2.2.2.2.1 _ (slk_mem ea)
        have yb := hs.2.2.2.2.2.2.2.1 _ (slk_mem eb)
        cases hc : (!stch w (.inr r) || sle A.1 G a b) with
        | false => rw [hc] at hd; cases hd
        | true =>
          rw [hc] at hd
          obtain rfl := Option.some.inj hd
          have ya1 : (xI h r.1.1 r.1.2).toInt = sev ρ a := ya.1
          have yb1 : (xI h r.2.1 r.2.2).toInt = sev ρ b := yb.1
          have hle : sev ρ a ≤ sev ρ b := by
            rw [Bool.or_eq_true] at hc
            rcases hc with hc | hc
            · have : (xI h r.1.1 r.1.2).toInt ≤ (xI h r.2.1 r.2.2).toInt := hr (.inr r) (List.mem_of_getElem? hj) (by simpa using hc)
              rw [ya1, yb1] at this
              exact this
            · exact sle_ok hs.1 hG ya.2 yb.2 hc
          obtain ⟨q, q1, q2, q3, q4⟩ := sord_ok (c := r.1.1) (k := r.1.2) hs hG ya1 ya.2 yb.2 (by rw [← yb1]; exact i32r_of _) hle
          exact ⟨(q.1, q.2, w), List.mem_map.mpr ⟨q, q1, rfl⟩, ρ, fun _ _ => rfl, Nat.le_of_eq q2.symm, q3, q4, hr⟩
      · cases hd
    · cases hd
theorem shs_ok {k : SS → SGs → SWl → Bool} {Q : Prop} : ∀ {hn : List SHn} {A : SS} {G : SGs} {w : SWl} {ρ : Nat → Int}, sst T nn uu ρ τ A L st h → sgok ρ A.1.length G → srw R w h → (∀ (B : SS) (G' : SGs) (w' : SWl) (ρ' : Nat → Int), sagree ρ ρ' A.1.length → A.1.length ≤ B.1.length → sst T nn uu ρ' τ B L st h → sgok ρ' B.1.length G' → srw R w' h → k B G' w' = true → Q) → shs T R k hn A G w = true → Q
  | [], A, G, w, ρ, hs, hG, hr, hq, hd => hq A G w ρ (fun _ _ => rfl) (Nat.le_refl _) hs hG hr hd
  | x :: l, A, G, w, ρ, hs, hG, hr, hq, hd => by
    unfold shs at hd
    cases hx : shn T R x A G w with
    | none => rw [hx] at hd; cases hd
    | some S =>
      rw [hx] at hd
      dsimp only at hd
      obtain ⟨q, q1, ρ', q2, q3, q4, q5, q6⟩ := shn_ok hs hG hr hx
      exact shs_ok (hn := l) q4 q5 q6 (fun B G' w' ρ'' k1 k2 k3 k4 k5 k6 => hq B G' w' ρ'' (fun s hs => (k1 s (Nat.lt_of_lt_of_le hs q3)).trans (q2 s hs)) (Nat.le_trans q3 k2) k3 k4 k5 k6) (List.all_eq_true.mp hd q q1)
end SHints
