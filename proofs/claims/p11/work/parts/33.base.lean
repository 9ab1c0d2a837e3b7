/-! BUILDING BLOCKS: values pushed and popped, new symbols. -/
section SBlocks
variable {T : ST} {nn uu : Nat} {ρ : Nat → Int} {τ : Nat → Int64} {Y : SY} {F : List Nat} {L st : List SV} {H : SH} {Lx stx : List XV} {h : XH}
theorem sst_push (hs : sst T nn uu ρ τ (Y, F, L, st, H) Lx stx h) {v : SV} (hv : sok ρ Y.length F.length v) : sst T nn uu ρ τ (Y, F, L, v :: st, H) Lx (scz ρ τ v :: stx) h := by
  obtain ⟨a1, a2, a3, a4, a5, a6, a7⟩ := hs
  refine ⟨a1, a2, a3, a4, ?_, ?_, a7⟩
  · show _ = scz ρ τ v :: _
    exact congrArg _ a5
  · intro w hw
    rcases List.mem_cons.mp hw with rfl | hw
    · exact hv
    · exact a6 w hw
theorem sst_pop {v : SV} (hs : sst T nn uu ρ τ (Y, F, L, v :: st, H) Lx stx h) : ∃ stx', stx = scz ρ τ v :: stx' ∧ sok ρ Y.length F.length v ∧ sst T nn uu ρ τ (Y, F, L, st, H) Lx stx' h := by
  obtain ⟨a1, a2, a3, a4, a5, a6, a7⟩ := hs
  exact ⟨st.map (scz ρ τ), a5, a6 v List.mem_cons_self, a1, a2, a3, a4, rfl, fun w hw => a6 w (List.mem_cons_of_mem _ hw), a7⟩
/-- a new int symbol -/
theorem sst_new (hs : sst T nn uu ρ τ (Y, F, L, st, H) Lx stx h) {q : SI} {b : Nat} {c z : Int} (hz : q.1 ≤ z ∧ z ≤ q.2) (hb : ∀ s, b = s + 1 → s < Y.length ∧ z ≤ ρ s + c) :
    ∃ ρ', sagree ρ ρ' Y.length ∧ ρ' Y.length = z ∧ sst T nn uu ρ' τ (Y ++ [(q, b, c)], F, L, st, H) Lx stx h := by
  obtain ⟨a1, a2, a3, a4, a5, a6, a7⟩ := hs
  have hag : sagree ρ (fun s => if s = Y.length then z else ρ s) Y.length := fun s hs => if_neg (by omega)
  have hgl : sagreeL τ τ F.length := fun _ _ => rfl
  have hlen : (Y ++ [(q, b, c)]).length = Y.length + 1 := by simp
  refine ⟨_, hag, if_pos rfl, ?_, a2, srelL_agree hag hgl a4 a3, ?_, ?_, ?_, ?_⟩
  · intro s w hw
    by_cases hlt : s < Y.length
    · rw [List.getElem?_append_left hlt] at hw
      have k := a1 s w hw
      show (w.1.1 ≤ (if s = Y.length then z else ρ s) ∧ (if s = Y.length then z else ρ s) ≤ w.1.2) ∧ _
      rw [if_neg (by omega)]
      refine ⟨k.1, fun b' hb' => ?_⟩
      obtain ⟨k1, k2⟩ := k.2 b' hb'
      refine ⟨k1, ?_⟩
      show (if s = Y.length then z else ρ s) ≤ (if b' = Y.length then z else ρ b') + w.2.2
      rw [if_neg (by omega), if_neg (by omega)]
      exact k2
    · have hle : Y.length ≤ s := Nat.not_lt.mp hlt
      rw [List.getElem?_append_right hle] at hw
      obtain rfl : s = Y.length := by
        by_cases h0 : s - Y.length = 0
        · omega
        · rw [List.getElem?_eq_none (by simp; omega)] at hw
          cases hw
      rw [Nat.sub_self] at hw
      obtain rfl := Option.some.inj hw
      show (q.1 ≤ (if Y.length = Y.length then z else ρ Y.length) ∧ (if Y.length = Y.length then z else ρ Y.length) ≤ q.2) ∧ _
      rw [if_pos rfl]
      refine ⟨hz, fun b' hb' => ?_⟩
      obtain ⟨k1, k2⟩ := hb b' hb'
      refine ⟨k1, ?_⟩
      show (if Y.length = Y.length then z else ρ Y.length) ≤ (if b' = Y.length then z else ρ b') + c
      rw [if_pos rfl, if_neg (by omega)]
      exact k2
  · intro v hv
    show sok _ (Y ++ [(q, b, c)]).length F.length v
    rw [hlen]
    exact sok_agree hag (Nat.le_succ _) (Nat.le_refl _) (a4 v hv)
  · exact a5.trans (smap_agree hag hgl a6).symm
  · intro v hv
    show sok _ (Y ++ [(q, b, c)]).length F.length v
    rw [hlen]
    exact sok_agree hag (Nat.le_succ _) (Nat.le_refl _) (a6 v hv)
  · refine ⟨a7.1, fun w hw => ?_, a7.2.2⟩
    obtain ⟨k1, k2⟩ := a7.2.1 w hw
    refine ⟨k1.trans (sev_agree hag k2).symm, ?_⟩
    show _ ≤ (Y ++ [(q, b, c)]).length
    rw [hlen]
    exact Nat.le_succ_of_le k2
/-- a new long symbol -/
theorem sst_newL (hs : sst T nn uu ρ τ (Y, F, L, st, H) Lx stx h) {f : Nat} {x : Int64} (hf : (f = 1 → x ≠ 0) ∧ (f = 2 → x = 0)) :
    ∃ τ', sagreeL τ τ' F.length ∧ τ' F.length = x ∧ sst T nn uu ρ τ' (Y, F ++ [f], L, st, H) Lx stx h := by
  obtain ⟨a1, a2, a3, a4, a5, a6, a7⟩ := hs
  have hag : sagreeL τ (fun s => if s = F.length then x else τ s) F.length := fun s hs => if_neg (by omega)
  have hg0 : sagree ρ ρ Y.length := fun _ _ => rfl
  have hlen : (F ++ [f]).length = F.length + 1 := by simp
  refine ⟨_, hag, if_pos rfl, a1, ?_, srelL_agree hg0 hag a4 a3, ?_, ?_, ?_, a7⟩
  · intro s w hw
    by_cases hlt : s < F.length
    · rw [List.getElem?_append_left hlt] at hw
      show (w = 1 → (if s = F.length then x else τ s) ≠ 0) ∧ (w = 2 → (if s = F.length then x else τ s) = 0)
      rw [if_neg (by omega)]
      exact a2 s w hw
    · have hle : F.length ≤ s := Nat.not_lt.mp hlt
      rw [List.getElem?_append_right hle] at hw
      obtain rfl : s = F.length := by
        by_cases h0 : s - F.length = 0
        · omega
        · rw [List.getElem?_eq_none (by simp; omega)] at hw
          cases hw
      rw [Nat.sub_self] at hw
      obtain rfl := Option.some.inj hw
      show (f = 1 → (if F.length = F.length then x else τ F.length) ≠ 0) ∧ (f = 2 → (if F.length = F.length then x else τ F.length) = 0)
      rw [if_pos rfl]
      exact hf
  · intro v hv
    show sok _ Y.length (F ++ [f]).length v
    rw [hlen]
    exact sok_agree hg0 (Nat.le_refl _) (Nat.le_succ _) (a4 v hv)
  · exact a5.trans (smap_agree hg0 hag a6).symm
  · intro v hv
    show sok _ Y.length (F ++ [f]).length v
    rw [hlen]
    exact sok_agree hg0 (Nat.le_refl _) (Nat.le_succ _) (a6 v hv)
/-- bounds narrowed -/
theorem sst_nar (hs : sst T nn uu ρ τ (Y, F, L, st, H) Lx stx h) {Y' : SY} (hY : syok ρ Y') (hl : Y'.length = Y.length) : sst T nn uu ρ τ (Y', F, L, st, H) Lx stx h := by
  obtain ⟨a1, a2, a3, a4, a5, a6, a7⟩ := hs
  refine ⟨hY, a2, a3, ?_, a5, ?_, a7.1, ?_, a7.2.2⟩
  · intro v hv
    show sok ρ Y'.length F.length v
    rw [hl]
    exact a4 v hv
  · intro v hv
    show sok ρ Y'.length F.length v
    rw [hl]
    exact a6 v hv
  · intro w hw
    show _ ∧ _ ≤ Y'.length
    rw [hl]
    exact a7.2.1 w hw
def spush (Y : SY) (F : List Nat) (L st : List SV) (H : SH) (nx : Nat) (r : SR) : Nat × SS := match r with
  | .inl e => (nx, (Y, F, L, sint e :: st, H))
  | .inr w => (nx, (Y ++ [w], F, L, sint (Y.length + 1, 0) :: st, H))
theorem spush_ok {nx : Nat} {r : SR} {v : Int32} {A : SS} (hA : A.1 = Y ∧ A.2.1 = F) (hs : sst T nn uu ρ τ (Y, F, L, st, H) Lx stx h) (hr : srok ρ Y.length v r) {o : List Nat} {acc : Prop} :
    sto T nn uu ρ τ A [spush Y F L st H nx r] (nx, Lx, xi v :: stx, h, o, acc) := by
  obtain ⟨rfl, rfl⟩ := hA
  match r, hr with
  | .inl e, hr =>
    refine ⟨_, List.mem_singleton.mpr rfl, rfl, ρ, τ, fun _ _ => rfl, fun _ _ => rfl, Nat.le_refl _, ?_⟩
    have k := sst_push hs (v := sint e) ⟨hr.1, by rw [hr.2]; exact i32r_of v⟩
    have e1 : scz ρ τ (sint e) = xi v := by
      show xi (Int32.ofInt (sev ρ e)) = xi v
      rw [hr.2, i32_of]
    rw [e1] at k
    exact k
  | .inr (q, b, c), hr =>
    obtain ⟨ρ', g1, g2, g3⟩ := sst_new hs (q := q) (b := b) (c := c) (z := v.toInt) hr.1 hr.2
    refine ⟨_, List.mem_singleton.mpr rfl, rfl, ρ', τ, g1, fun _ _ => rfl, by show A.1.length ≤ (A.1 ++ _).length; simp, ?_⟩
    have e2 : sev ρ' (A.1.length + 1, 0) = v.toInt := by
      show ρ' A.1.length + 0 = v.toInt
      rw [g2]
      omega
    have k := sst_push g3 (v := sint (A.1.length + 1, 0)) ⟨by show A.1.length + 1 ≤ (A.1 ++ _).length; simp, by rw [e2]; exact i32r_of v⟩
    have e1 : scz ρ' τ (sint (A.1.length + 1, 0)) = xi v := by
      show xi (Int32.ofInt (sev ρ' (A.1.length + 1, 0))) = xi v
      rw [e2, i32_of]
    rw [e1] at k
    exact k
theorem sto_same {A A' : SS} {pc : Nat} {o : List Nat} {acc : Prop} {L' st' : List XV} {h' : XH} (hl : A.1.length ≤ A'.1.length) (hs : sst T nn uu ρ τ A' L' st' h') : sto T nn uu ρ τ A [(pc, A')] (pc, L', st', h', o, acc) :=
  ⟨_, List.mem_singleton.mpr rfl, rfl, ρ, τ, fun _ _ => rfl, fun _ _ => rfl, hl, hs⟩
end SBlocks
