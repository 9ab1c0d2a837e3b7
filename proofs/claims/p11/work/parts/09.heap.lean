/-! THE ROWS that read, write and make cells. -/
theorem xcl_spec {ci : Nat} {q : vw_C} (h : xcl[ci]? = some q) : xcrk ci = true := by
  have hl : ci < 13 := (List.getElem?_eq_some_iff.mp h).1
  rcases (show ci = 0 ∨ ci = 1 ∨ ci = 2 ∨ ci = 3 ∨ ci = 4 ∨ ci = 5 ∨ ci = 6 ∨ ci = 7 ∨ ci = 8 ∨ ci = 9 ∨ ci = 10 ∨ ci = 11 ∨ ci = 12 by omega) with rfl | rfl | rfl | rfl | rfl | rfl | rfl | rfl | rfl | rfl | rfl | rfl | rfl
  · exact xcr_0
  · exact xcr_1
  · exact xcr_2
  · exact xcr_3
  · exact xcr_4
  · exact xcr_5
  · exact xcr_6
  · exact xcr_7
  · exact xcr_8
  · exact xcr_9
  · exact xcr_10
  · exact xcr_11
  · exact xcr_12
theorem xcl_facts {ci : Nat} {q : vw_C} (h : xcl[ci]? = some q) : (Cond.instantiable q.1 q.2.2 ∈ xT ∧ Cond.initialized q.1 ∈ xT) ∧ q.2.2 = xnf ci ∧ (∀ w ∈ u_ws q.1 q.2.1 q.2.2, w ∈ xT) ∧ (∀ k, k < q.2.2 → parseFieldDescriptor (q.2.1 k).2.2.1 = some (xty ci k)) ∧ (∀ k, k < q.2.2 → xft ci k ≤ 2) ∧ (∀ k, k < q.2.2 → xbo (ci + 1) k = decide (xty ci k = .boolean)) ∧ (∀ a, a < q.2.2 → ∀ b, b < q.2.2 → a ≠ b → (q.2.1 a).2.1 ≠ (q.2.1 b).2.1) := by
  have hk := xcl_spec h
  unfold xcrk at hk
  rw [h] at hk
  split at hk
  · rename_i q' r hq hr
    obtain rfl := Option.some.inj hq
    simp only [Bool.and_eq_true] at hk
    obtain ⟨k1, k2, ⟨k3, k4⟩, k5⟩ := hk
    have k4 := List.all_eq_true.mp k4
    have k5 := List.all_eq_true.mp k5
    have key : ∀ k, k < q.2.2 → _ := fun k hk => k4 k (List.mem_range.mpr hk)
    simp only [Bool.and_eq_true] at key
    refine ⟨⟨xgood_spec k1, xgood_spec k2⟩, Nat.eq_of_beq_eq_true k3, fun w hw => ?_, fun k hk => of_decide_eq_true (key k hk).1.2, fun k hk => Nat.le_of_ble_eq_true (key k hk).2.1, fun k hk => of_decide_eq_true (key k hk).2.2.1, fun a ha b hb hne => ?_⟩
    · obtain ⟨k, hk, rfl⟩ := List.mem_map.mp hw
      exact xgood_spec (key k (List.mem_range.mp hk)).1.1
    · have h5 := List.all_eq_true.mp (k5 a (List.mem_range.mpr ha)) b (List.mem_range.mpr hb)
      rw [Bool.or_eq_true] at h5
      rcases h5 with h5 | h5
      · exact absurd (Nat.eq_of_beq_eq_true h5) hne
      · rw [Bool.not_eq_true'] at h5
        exact of_decide_eq_false h5
  · cases hk
/-- a field link of method M's class: the class, the field, the word -/
theorem xfl_spec {x : Nat × Nat × Nat × Nat × Nat} (hx : x ∈ xfl) : ∃ q : vw_C, xcl[x.2.2.1]? = some q ∧ x.2.2.2.1 < q.2.2 ∧ (q.2.1 x.2.2.2.1).1 = q.1 ∧ Cond.fieldLink (xos x.1) x.2.1 q.1 (q.2.1 x.2.2.2.1).2.1 (q.2.1 x.2.2.2.1).2.2.1 ∈ xT := by
  have hk := List.all_eq_true.mp xfl_ok x hx
  unfold xfw at hk
  split at hk
  · rename_i q hq
    cases hd : (Nat.blt x.2.2.2.1 q.2.2 && decide ((q.2.1 x.2.2.2.1).1 = q.1)) with
    | false => rw [hd] at hk; cases hk
    | true =>
      rw [hd] at hk
      rw [Bool.and_eq_true] at hd
      exact ⟨q, hq, Nat.le_of_ble_eq_true hd.1, of_decide_eq_true hd.2, xgood_spec hk⟩
  · cases hk
theorem xvo_mono {h h' : XH} (hm : ∀ k e, xok h k e → xok h' k e) : ∀ {v : XV}, xvo h v → xvo h' v
  | .inl _, _ => trivial
  | .inr (_, _), Or.inl q => Or.inl q
  | .inr (_, _), Or.inr q => Or.inr ⟨q.1, hm _ _ q.2⟩
theorem xvs_mono {h h' : XH} (hm : ∀ k e, xok h k e → xok h' k e) : ∀ {l : List XV}, xvs h l → xvs h' l
  | [], _ => trivial
  | _ :: _, q => ⟨xvo_mono hm q.1, xvs_mono hm q.2⟩
theorem xvl_mono {h h' : XH} (hm : ∀ k e, xok h k e → xok h' k e) : ∀ {l : List XV}, xvl h l → xvl h' l
  | [], _ => trivial
  | _ :: _, q => ⟨q.1.imp id (xvo_mono hm), xvl_mono hm q.2⟩
theorem xu_ne {α : Type} {f : Nat → Nat → α} {c k c' : Nat} {v : α} (h : c' ≠ c) : xu f c k v c' = f c' := by
  funext k'
  unfold xu
  rw [if_neg (fun z => h z.1)]
theorem xu_self {α : Type} {f : Nat → Nat → α} {c k : Nat} {v : α} : xu f c k v c k = v := by
  unfold xu
  rw [if_pos ⟨rfl, rfl⟩]
theorem xu_nk {α : Type} {f : Nat → Nat → α} {c k c' k' : Nat} {v : α} (h : k' ≠ k) : xu f c k v c' k' = f c' k' := by
  unfold xu
  rw [if_neg (fun z => h z.2)]
theorem xr_ne {α : Type} {f : Nat → Nat → α} {c c' : Nat} {g : Nat → α} (h : c' ≠ c) : xr f c g c' = f c' := by
  unfold xr
  rw [if_neg h]
theorem xr_self {α : Type} {f : Nat → Nat → α} {c : Nat} {g : Nat → α} : xr f c g c = g := by
  unfold xr
  rw [if_pos rfl]
theorem xfv_congr {ads : List Nat} {b : Nat} {h h' : XH} {c ci k : Nat} (h2 : xI h' c k = xI h c k) (h3 : xL h' c k = xL h c k) (h4 : xR h' c k = xR h c k) : xfv ads b h' c ci k = xfv ads b h c ci k := by
  unfold xfv
  rw [h2, h3, h4]
theorem xce_congr {cA : Nat → ClassId} {ads : List Nat} {b : Nat} {h h' : XH} {c : Nat} (h1 : xS h' c = xS h c) (h2 : xI h' c = xI h c) (h3 : xL h' c = xL h c) (h4 : xR h' c = xR h c) : xce cA ads b h' c = xce cA ads b h c := by
  have hf : xfv ads b h' c (xS h c - 1) = xfv ads b h c (xS h c - 1) := by
    funext k
    exact xfv_congr (congrFun h2 k) (congrFun h3 k) (congrFun h4 k)
  unfold xce
  rw [h1, h2, h3, hf]
theorem xce_obj {cA : Nat → ClassId} {ads : List Nat} {b : Nat} {h : XH} {e ci : Nat} (h1 : xS h e = ci + 1) (h2 : ci < 13) : xce cA ads b h e = .inr (ci, (List.range (xnf ci)).map (xfv ads b h e ci)) := by
  unfold xce
  rw [h1, if_pos (by omega), Nat.add_sub_cancel]
theorem xin_spec {lo kd : Nat} (h : xin lo kd = true) : lo < kd ∧ kd < lo + 10000 := by
  unfold xin at h
  rw [Bool.and_eq_true] at h
  exact ⟨Nat.le_of_ble_eq_true h.1, Nat.le_of_ble_eq_true h.2⟩
theorem xce_i {cA : Nat → ClassId} {ads : List Nat} {b : Nat} {h : XH} {e kd : Nat} (h1 : xS h e = kd) (h2 : xin 10000 kd = true) : xce cA ads b h e = .inl (cA 0, kd - 10000, .inl (xI h e)) := by
  obtain ⟨g1, g2⟩ := xin_spec h2
  unfold xce
  rw [h1, if_neg (by omega), if_pos (by omega)]
theorem xce_b {cA : Nat → ClassId} {ads : List Nat} {b : Nat} {h : XH} {e kd : Nat} (h1 : xS h e = kd) (h2 : xin 20000 kd = true) : xce cA ads b h e = .inl (cA 1, kd - 20000, .inl (xI h e)) := by
  obtain ⟨g1, g2⟩ := xin_spec h2
  unfold xce
  rw [h1, if_neg (by omega), if_neg (by omega), if_pos (by omega)]
theorem xce_z {cA : Nat → ClassId} {ads : List Nat} {b : Nat} {h : XH} {e kd : Nat} (h1 : xS h e = kd) (h2 : xin 30000 kd = true) : xce cA ads b h e = .inl (cA 2, kd - 30000, .inl (xI h e)) := by
  obtain ⟨g1, g2⟩ := xin_spec h2
  unfold xce
  rw [h1, if_neg (by omega), if_neg (by omega), if_neg (by omega), if_pos (by omega)]
theorem xce_l {cA : Nat → ClassId} {ads : List Nat} {b : Nat} {h : XH} {e kd : Nat} (h1 : xS h e = kd) (h2 : xin 40000 kd = true) : xce cA ads b h e = .inl (cA 3, kd - 40000, .inr (.inl (xL h e))) := by
  obtain ⟨g1, g2⟩ := xin_spec h2
  unfold xce
  rw [h1, if_neg (by omega), if_neg (by omega), if_neg (by omega), if_neg (by omega)]
theorem lmap_at {α : Type} {n k : Nat} {f : Nat → α} (h : k < n) : ((List.range n).map f)[k]? = some (f k) := by
  rw [List.getElem?_map, List.getElem?_range h, Option.map_some]
/-- a write into the int slot k of cell e keeps the relation -/
theorem xrel_wI {D : va_G} {cA : Nat → ClassId} {base b Ls : Nat} {xs : Nat → Int32} {full : Bool} {ads : List Nat} {h : XH} {H H1 : Heap} {e : Nat} {g : Nat → Nat → Int32} (q : xrel D cA base b Ls xs full ads h H) (h1 : 2 ≤ e) (h2 : e < xN h) (hg : ∀ c, c ≠ e → g c = xI h c)
    (hP : va_P D xcl (xws cA ads b ((g, h.2) : XH)) H1) (hD : va_D (fun q : Nat => base ≤ q) (xws cA ads b ((g, h.2) : XH))) : xrel D cA base b Ls xs full ads ((g, h.2) : XH) H1 := by
  obtain ⟨r1, r2, r3, r4, r5, r6⟩ := q
  refine ⟨r1, hP, hD, r4, r5, fun c k hc => ?_⟩
  have hc : xN h ≤ c := hc
  refine ⟨?_, (r6 c k hc).2⟩
  show g c k = 0
  rw [hg c (by omega)]
  exact (r6 c k hc).1
theorem xrel_wL {D : va_G} {cA : Nat → ClassId} {base b Ls : Nat} {xs : Nat → Int32} {full : Bool} {ads : List Nat} {h : XH} {H H1 : Heap} {e : Nat} {g : Nat → Nat → Int64} (q : xrel D cA base b Ls xs full ads h H) (h1 : 2 ≤ e) (h2 : e < xN h) (hg : ∀ c, c ≠ e → g c = xL h c)
    (hP : va_P D xcl (xws cA ads b ((h.1, g, h.2.2) : XH)) H1) (hD : va_D (fun q : Nat => base ≤ q) (xws cA ads b ((h.1, g, h.2.2) : XH))) : xrel D cA base b Ls xs full ads ((h.1, g, h.2.2) : XH) H1 := by
  obtain ⟨r1, r2, r3, r4, r5, r6⟩ := q
  refine ⟨r1, hP, hD, r4, r5, fun c k hc => ?_⟩
  have hc : xN h ≤ c := hc
  refine ⟨(r6 c k hc).1, ?_, (r6 c k hc).2.2⟩
  show g c k = 0
  rw [hg c (by omega)]
  exact (r6 c k hc).2.1
theorem xrel_wR {D : va_G} {cA : Nat → ClassId} {base b Ls : Nat} {xs : Nat → Int32} {full : Bool} {ads : List Nat} {h : XH} {H H1 : Heap} {e k v : Nat} (q : xrel D cA base b Ls xs full ads h H) (h1 : 2 ≤ e) (h2 : e < xN h) (hv : xok h (xfk (xS h e) k) v)
    (hP : va_P D xcl (xws cA ads b (xsetR h e k v)) H1) (hD : va_D (fun q : Nat => base ≤ q) (xws cA ads b (xsetR h e k v))) : xrel D cA base b Ls xs full ads (xsetR h e k v) H1 := by
  obtain ⟨r1, r2, r3, r4, r5, r6⟩ := q
  refine ⟨r1, hP, hD, r4, fun c k' c1 c2 c3 c4 c5 => ?_, fun c k' hc => ?_⟩
  · show (xu h.2.2.1 e k v c k' = 0 ∧ _) ∨ xok h _ (xu h.2.2.1 e k v c k')
    by_cases hce : c = e ∧ k' = k
    · obtain ⟨rfl, rfl⟩ := hce
      rw [xu_self]
      exact Or.inr hv
    · unfold xu
      rw [if_neg hce]
      exact r5 c k' c1 c2 c3 c4 c5
  · have hc : xN h ≤ c := hc
    refine ⟨(r6 c k' hc).1, (r6 c k' hc).2.1, ?_⟩
    show xu h.2.2.1 e k v c k' = 0
    rw [xu_ne (by omega)]
    exact (r6 c k' hc).2.2
theorem xtc_0 {t : FieldType} (h : xtc t = 0) : t = .int ∨ t = .boolean := by
  unfold xtc at h
  split at h <;> first | exact Or.inl rfl | exact Or.inr rfl | omega
theorem xtc_1 {t : FieldType} (h : xtc t = 1) : t = .long := by
  unfold xtc at h
  split at h <;> first | rfl | omega
theorem xtc_2 {t : FieldType} (h : xtc t = 2) : (∃ a, t = .array a) ∨ ∃ a, t = .object a := by
  unfold xtc at h
  split at h <;> first | exact Or.inl ⟨_, rfl⟩ | exact Or.inr ⟨_, rfl⟩ | omega

section XHeap
variable {p : Program} {l : Launch} {e : Env} {R : Room} {s : State} {m : MethodId} {args : Array Value} {below : List Frame} {meth : Method} {c : Code} {Q : State → Prop}
variable {D : va_G} {cA : Nat → ClassId} {base b Ls : Nat} {xs : Nat → Int32} {full : Bool} {ads0 : List Nat} {gz : Nat × Nat} {u0 N U fr lo M pc aux nx : Nat} {L st : List XV} {h : XH} {o : List Nat} {acc : Prop} {r : XP} {sc : XSc}

theorem xo_getI {i : Nat} (C : XC M N U Ls fr lo p l e R s m args below meth c D cA base b xs ads0 u0 gz) (hi : xins M pc = some (.getfield i, aux, nx)) (hs : xd_getI i aux nx L st h o acc = some r) (ha : r.2.2.2.2.2) (k : WX p l e R s m args below meth c Q D cA base b Ls xs full ads0 u0 gz r.1 r.2.1 r.2.2.1 r.2.2.2.1) : acc ∧ WX p l e R s m args below meth c Q D cA base b Ls xs full ads0 u0 gz pc L st h := by
  obtain ⟨q, hq, hn, hd⟩ := xdecode hi
  subst hn
  obtain ⟨x, hx, hf, rfl⟩ := xfilt hq
  simp only [Bool.and_eq_true] at hf
  obtain ⟨f1, f2, f3, f4⟩ := hf
  have f1 : x.1 = xow M := Nat.eq_of_beq_eq_true f1
  have f2 : x.2.2.1 + 1 = aux := Nat.eq_of_beq_eq_true f2
  have f3 : x.2.2.2.1 = i := Nat.eq_of_beq_eq_true f3
  have f4 : xft x.2.2.1 i = 0 := Nat.eq_of_beq_eq_true f4
  obtain ⟨w, w1, w2, w3, w4⟩ := xfl_spec hx
  obtain ⟨-, n1, n2, -⟩ := xcl_facts w1
  have hl13 : x.2.2.1 < 13 := (List.getElem?_eq_some_iff.mp w1).1
  unfold xd_getI at hs
  split at hs
  · rename_i kd e0 st0
    cases hk : Nat.beq kd aux with
    | false => rw [hk] at hs; cases hs
    | true =>
      rw [hk] at hs
      have hk : kd = aux := Nat.eq_of_beq_eq_true hk
      obtain rfl := Option.some.inj hs
      refine ⟨ha, fun t H locs ls h1 h2 h3 h4 h5 h6 => ?_⟩
      rcases h5.1 with ⟨z, -⟩ | ⟨-, o1, o2, o3⟩
      · omega
      have he := xws_at (cA := cA) (ads := ads0 ++ t) (b := b) o1 o2
      rw [xce_obj (ci := x.2.2.1) (by omega) hl13] at he
      have ea : xcv (ads0 ++ t) b (.inr (kd, e0)) = .ref ((ads0 ++ t).getD (e0 - 2) 0) := congrArg Value.ref (xad_at o1)
      rw [List.map_cons, ea]
      have hkn : i < xnf x.2.2.1 := by rw [← n1, ← f3]; exact w2
      refine va_get (ref := w.1) (v := xfv (ads0 ++ t) b h e0 x.2.2.1 i) C.2.1 C.2.2.1 C.2.2.2.2.2.1 n2 C.2.2.2.2.1 C.2.2.2.2.2.2.2.1 h1.2.1 (e0 - 2) he w1 i (by rw [← f3]; exact w2) ?_ (fun y hy => ?_) (lmap_at hkn) hd ?_
      · have w5 := C.2.2.2.2.2.1 _ w4
        rw [f1, f3] at w5
        exact w5
      · rw [← f3, ← w3]; rw [← f3] at hy; exact hy
      · have ev : xfv (ads0 ++ t) b h e0 x.2.2.1 i = .int (xI h e0 i) := by unfold xfv; rw [f4]; rfl
        rw [ev]
        exact k t H locs ls h1 h2 h3 h4 ⟨trivial, h5.2⟩ h6
  · cases hs

theorem xo_getL {i : Nat} (C : XC M N U Ls fr lo p l e R s m args below meth c D cA base b xs ads0 u0 gz) (hi : xins M pc = some (.checkcast i, aux, nx)) (hs : xd_getL i aux nx L st h o acc = some r) (ha : r.2.2.2.2.2) (k : WX p l e R s m args below meth c Q D cA base b Ls xs full ads0 u0 gz r.1 r.2.1 r.2.2.1 r.2.2.2.1) : acc ∧ WX p l e R s m args below meth c Q D cA base b Ls xs full ads0 u0 gz pc L st h := by
  obtain ⟨q, hq, hn, hd⟩ := xdecode hi
  subst hn
  obtain ⟨x, hx, hf, rfl⟩ := xfilt hq
  simp only [Bool.and_eq_true] at hf
  obtain ⟨f1, f2, f3, f4⟩ := hf
  have f1 : x.1 = xow M := Nat.eq_of_beq_eq_true f1
  have f2 : x.2.2.1 + 1 = aux := Nat.eq_of_beq_eq_true f2
  have f3 : x.2.2.2.1 = i := Nat.eq_of_beq_eq_true f3
  have f4 : xft x.2.2.1 i = 1 := Nat.eq_of_beq_eq_true f4
  obtain ⟨w, w1, w2, w3, w4⟩ := xfl_spec hx
  obtain ⟨-, n1, n2, -⟩ := xcl_facts w1
  have hl13 : x.2.2.1 < 13 := (List.getElem?_eq_some_iff.mp w1).1
  unfold xd_getL at hs
  split at hs
  · rename_i kd e0 st0
    cases hk : Nat.beq kd aux with
    | false => rw [hk] at hs; cases hs
    | true =>
      rw [hk] at hs
      have hk : kd = aux := Nat.eq_of_beq_eq_true hk
      obtain rfl := Option.some.inj hs
      refine ⟨ha, fun t H locs ls h1 h2 h3 h4 h5 h6 => ?_⟩
      rcases h5.1 with ⟨z, -⟩ | ⟨-, o1, o2, o3⟩
      · omega
      have he := xws_at (cA := cA) (ads := ads0 ++ t) (b := b) o1 o2
      rw [xce_obj (ci := x.2.2.1) (by omega) hl13] at he
      have ea : xcv (ads0 ++ t) b (.inr (kd, e0)) = .ref ((ads0 ++ t).getD (e0 - 2) 0) := congrArg Value.ref (xad_at o1)
      rw [List.map_cons, ea]
      have hkn : i < xnf x.2.2.1 := by rw [← n1, ← f3]; exact w2
      refine va_get (ref := w.1) (v := xfv (ads0 ++ t) b h e0 x.2.2.1 i) C.2.1 C.2.2.1 C.2.2.2.2.2.1 n2 C.2.2.2.2.1 C.2.2.2.2.2.2.2.1 h1.2.1 (e0 - 2) he w1 i (by rw [← f3]; exact w2) ?_ (fun y hy => ?_) (lmap_at hkn) hd ?_
      · have w5 := C.2.2.2.2.2.1 _ w4
        rw [f1, f3] at w5
        exact w5
      · rw [← f3, ← w3]; rw [← f3] at hy; exact hy
      · have ev : xfv (ads0 ++ t) b h e0 x.2.2.1 i = .long (xL h e0 i) := by unfold xfv; rw [f4]; rfl
        rw [ev]
        exact k t H locs ls h1 h2 h3 h4 ⟨trivial, h5.2⟩ h6
  · cases hs

theorem xo_getR {i : Nat} (C : XC M N U Ls fr lo p l e R s m args below meth c D cA base b xs ads0 u0 gz) (hi : xins M pc = some (.getstatic i, aux, nx)) (hs : xd_getR full i aux nx L st h o acc = some r) (ha : r.2.2.2.2.2) (k : WX p l e R s m args below meth c Q D cA base b Ls xs full ads0 u0 gz r.1 r.2.1 r.2.2.1 r.2.2.2.1) : acc ∧ WX p l e R s m args below meth c Q D cA base b Ls xs full ads0 u0 gz pc L st h := by
  obtain ⟨q, hq, hn, hd⟩ := xdecode hi
  subst hn
  obtain ⟨x, hx, hf, rfl⟩ := xfilt hq
  simp only [Bool.and_eq_true] at hf
  obtain ⟨f1, f2, f3, f4⟩ := hf
  have f1 : x.1 = xow M := Nat.eq_of_beq_eq_true f1
  have f2 : x.2.2.1 + 1 = aux := Nat.eq_of_beq_eq_true f2
  have f3 : x.2.2.2.1 = i := Nat.eq_of_beq_eq_true f3
  have f4 : xft x.2.2.1 i = 2 := Nat.eq_of_beq_eq_true f4
  obtain ⟨w, w1, w2, w3, w4⟩ := xfl_spec hx
  obtain ⟨-, n1, n2, -⟩ := xcl_facts w1
  have hl13 : x.2.2.1 < 13 := (List.getElem?_eq_some_iff.mp w1).1
  unfold xd_getR at hs
  split at hs
  · rename_i kd e0 st0
    cases hk : Nat.beq kd aux with
    | false => rw [hk] at hs; cases hs
    | true =>
      rw [hk] at hs
      have hk : kd = aux := Nat.eq_of_beq_eq_true hk
      have tail : (full = false → ¬ xR h e0 i = 0) → WX p l e R s m args below meth c Q D cA base b Ls xs full ads0 u0 gz (pc + 3) L (.inr (xfk kd i, xR h e0 i) :: st0) h → WX p l e R s m args below meth c Q D cA base b Ls xs full ads0 u0 gz pc L (.inr (kd, e0) :: st0) h := by
       intro hac k t H locs ls h1 h2 h3 h4 h5 h6
       rcases h5.1 with ⟨z, -⟩ | ⟨-, o1, o2, o3⟩
       · omega
       have he := xws_at (cA := cA) (ads := ads0 ++ t) (b := b) o1 o2
       rw [xce_obj (ci := x.2.2.1) (by omega) hl13] at he
       have ea : xcv (ads0 ++ t) b (.inr (kd, e0)) = .ref ((ads0 ++ t).getD (e0 - 2) 0) := congrArg Value.ref (xad_at o1)
       rw [List.map_cons, ea]
       have hkn : i < xnf x.2.2.1 := by rw [← n1, ← f3]; exact w2
       refine va_get (ref := w.1) (v := xfv (ads0 ++ t) b h e0 x.2.2.1 i) C.2.1 C.2.2.1 C.2.2.2.2.2.1 n2 C.2.2.2.2.1 C.2.2.2.2.2.2.2.1 h1.2.1 (e0 - 2) he w1 i (by rw [← f3]; exact w2) ?_ (fun y hy => ?_) (lmap_at hkn) hd ?_
       · have w5 := C.2.2.2.2.2.1 _ w4
         rw [f1, f3] at w5
         exact w5
       · rw [← f3, ← w3]; rw [← f3] at hy; exact hy
       · have hz := h1.2.2.2.2.1 e0 i o1 o2 (by omega) (by rw [o3, ← f2] at *; rw [hk]; exact hkn) (by rw [o3, hk, ← f2]; exact f4)
         have hok : xok h (xfk kd i) (xR h e0 i) := by
           rcases hz with ⟨z1, z2⟩ | hz
           · exact absurd z1 (hac z2)
           · rw [o3] at hz; exact hz
         have ev : xfv (ads0 ++ t) b h e0 x.2.2.1 i = .ref (xad (ads0 ++ t) b (xR h e0 i)) := by
           unfold xfv
           rw [f4]
           show (if _ then _ else _) = _
           rw [if_neg (by have := hok.1; omega)]
         rw [ev]
         refine k t H locs ls h1 h2 h3 h4 ⟨Or.inr ⟨?_, hok⟩, h5.2⟩ h6
         have h50 := h1.2.2.2.1 _ hok.1 hok.2.1
         rw [hok.2.2] at h50
         rcases h50 with z | z <;> omega
      cases full with
      | true =>
        obtain rfl := Option.some.inj hs
        exact ⟨ha, tail (fun z => by cases z) k⟩
      | false =>
        obtain rfl := Option.some.inj hs
        exact ⟨ha.1, tail (fun _ => ha.2) k⟩
  · cases hs

theorem xos_cl {ci : Nat} {q : vw_C} (h : xcl[ci]? = some q) : q.1 = xos ci := by
  have hl : ci < 13 := (List.getElem?_eq_some_iff.mp h).1
  rcases (show ci = 0 ∨ ci = 1 ∨ ci = 2 ∨ ci = 3 ∨ ci = 4 ∨ ci = 5 ∨ ci = 6 ∨ ci = 7 ∨ ci = 8 ∨ ci = 9 ∨ ci = 10 ∨ ci = 11 ∨ ci = 12 by omega) with rfl | rfl | rfl | rfl | rfl | rfl | rfl | rfl | rfl | rfl | rfl | rfl | rfl <;> (cases h; rfl)
theorem xo_putI {i : Nat} (C : XC M N U Ls fr lo p l e R s m args below meth c D cA base b xs ads0 u0 gz) (hi : xins M pc = some (.putfield i, aux, nx)) (hs : xd_putI i aux nx L st h o acc = some r) (ha : r.2.2.2.2.2) (k : WX p l e R s m args below meth c Q D cA base b Ls xs full ads0 u0 gz r.1 r.2.1 r.2.2.1 r.2.2.2.1) : acc ∧ WX p l e R s m args below meth c Q D cA base b Ls xs full ads0 u0 gz pc L st h := by
  obtain ⟨q, hq, hn, hd⟩ := xdecode hi
  subst hn
  obtain ⟨x, hx, hf, rfl⟩ := xfilt hq
  simp only [Bool.and_eq_true] at hf
  obtain ⟨f1, f2, f3, f4, f5⟩ := hf
  have f1 : x.1 = xow M := Nat.eq_of_beq_eq_true f1
  have f2 : x.2.2.1 + 1 = aux := Nat.eq_of_beq_eq_true f2
  have f3 : x.2.2.2.1 = i := Nat.eq_of_beq_eq_true f3
  have f4 : xft x.2.2.1 i = 0 := Nat.eq_of_beq_eq_true f4
  obtain ⟨w, w1, w2, w3, w4⟩ := xfl_spec hx
  obtain ⟨-, n1, n2, n3, n4, n5, n6⟩ := xcl_facts w1
  have hl13 : x.2.2.1 < 13 := (List.getElem?_eq_some_iff.mp w1).1
  have hkn : i < xnf x.2.2.1 := by rw [← n1, ← f3]; exact w2
  have hkw : i < w.2.2 := by rw [← f3]; exact w2
  have w5 := C.2.2.2.2.2.1 _ w4
  rw [f1, f3] at w5
  have w3 : (w.2.1 i).1 = w.1 := by rw [← f3]; exact w3
  unfold xd_putI at hs
  split at hs
  · rename_i v0 kd e0 st0
    cases hk : (Nat.beq kd aux) with
    | false => rw [hk] at hs; cases hs
    | true =>
      rw [hk] at hs
      have hk : kd = aux := Nat.eq_of_beq_eq_true hk
      have hs2 : ∃ acc2 : Prop, some ((pc + 3, L, st0, xsetI h e0 i v0, o, acc2) : XP) = some r ∧ (acc2 → acc ∧ (xbo kd i = true → v0 = 0 ∨ v0 = 1)) := by
        cases hb : xbo kd i with
        | true => rw [hb] at hs; exact ⟨_, hs, fun z => ⟨z.1, fun _ => z.2⟩⟩
        | false => rw [hb] at hs; exact ⟨_, hs, fun z => ⟨z, fun y => by cases y⟩⟩
      obtain ⟨acc2, hs, hacc⟩ := hs2
      obtain rfl := Option.some.inj hs
      obtain ⟨hac, hbo⟩ := hacc ha
      refine ⟨hac, fun t H locs ls h1 h2 h3 h4 h5 h6 => ?_⟩
      rcases h5.2.1 with ⟨z, -⟩ | ⟨-, o1, o2, o3⟩
      · omega
      have hS : xS h e0 = x.2.2.1 + 1 := by omega
      have he := xws_at (cA := cA) (ads := ads0 ++ t) (b := b) o1 o2
      rw [xce_obj (ci := x.2.2.1) hS hl13] at he
      have ea : xcv (ads0 ++ t) b (.inr (kd, e0)) = .ref ((ads0 ++ t).getD (e0 - 2) 0) := congrArg Value.ref (xad_at o1)
      rw [List.map_cons, List.map_cons, ea]
      have hty : xty x.2.2.1 i = .int ∨ (xty x.2.2.1 i = .boolean ∧ (v0 = 0 ∨ v0 = 1)) := by
        rcases xtc_0 f4 with z | z
        · exact Or.inl z
        · refine Or.inr ⟨z, hbo ?_⟩
          rw [hk, ← f2, n5 i hkw, z]
          rfl
      have hnar : narrow (xty x.2.2.1 i) (.int v0) = .int v0 := by
        rcases hty with z | ⟨z, rfl | rfl⟩ <;> rw [z] <;> rfl
      have hfit : fits (xty x.2.2.1 i) (.int v0) = true := by
        rcases hty with z | ⟨z, rfl | rfl⟩ <;> rw [z] <;> rfl
      have key : ∀ (H1 : Heap) (locs1 : List Loc), va_P D xcl ((xws cA (ads0 ++ t) b h).set (e0 - 2) ((ads0 ++ t).getD (e0 - 2) 0, .inr (x.2.2.1, ((List.range (xnf x.2.2.1)).map (xfv (ads0 ++ t) b h e0 x.2.2.1)).set i ((.int v0))))) H1 → va_D (fun q : Nat => base ≤ q) ((xws cA (ads0 ++ t) b h).set (e0 - 2) ((ads0 ++ t).getD (e0 - 2) 0, .inr (x.2.2.1, ((List.range (xnf x.2.2.1)).map (xfv (ads0 ++ t) b h e0 x.2.2.1)).set i ((.int v0))))) → va_S (fun q : Nat => base ≤ q) s.heap H1 locs1 → W p l e R s m args below meth c H1 locs1 (xN h + gz.1 - (ads0.length + 2)) (xU h + gz.2 - u0) Q (F0 m (pc + 3) ls (st0.map (xcv (ads0 ++ t) b))) := by
        intro H1 locs1 hP hD hS1
        have e1 : (xws cA (ads0 ++ t) b h).set (e0 - 2) ((ads0 ++ t).getD (e0 - 2) 0, .inr (x.2.2.1, ((List.range (xnf x.2.2.1)).map (xfv (ads0 ++ t) b h e0 x.2.2.1)).set i ((.int v0)))) = xws cA (ads0 ++ t) b (xsetI h e0 i v0) := by
          refine xws_set o1 o2 rfl ?_ (fun c' hc' _ => ?_)
          · rw [xce_obj (h := xsetI h e0 i v0) (ci := x.2.2.1) hS hl13]
            refine congrArg Sum.inr (congrArg (Prod.mk x.2.2.1) (lset_map hkn ?_ (fun j hj => ?_)).symm)
            · show xfv (ads0 ++ t) b (xsetI h e0 i v0) e0 x.2.2.1 i = .int v0
              unfold xfv
              rw [f4]
              exact congrArg Value.int xu_self
            · exact xfv_congr (xu_nk hj) rfl rfl
          · exact xce_congr rfl (xu_ne hc') rfl rfl
        rw [e1] at hP hD
        exact k t H1 locs1 ls (xrel_wI h1 o1 o2 (fun c' hc' => xu_ne hc') hP hD) hS1 h3 (xvl_mono (h := h) (h' := xsetI h e0 i v0) (fun _ _ z => z) h4) (xvs_mono (h := h) (h' := xsetI h e0 i v0) (fun _ _ z => z) h5.2.2) h6
      have hput : xput M x.2.2.1 i = true := f5
      unfold xput at hput
      rw [w1] at hput
      dsimp only at hput
      cases hfin : (w.2.1 i).2.2.2 with
      | false => exact va_put (ref := w.1) (v := (.int v0)) (ty := xty x.2.2.1 i) C.2.1 C.2.2.1 C.2.2.2.2.2.1 n2 (xty x.2.2.1) n3 n6 C.2.2.2.2.1 C.2.2.2.2.2.2.2.1 h1.2.1 h1.2.2.1 h2 (e0 - 2) he w1 i hkw w5 (fun y hy => by rw [w3] at hy; exact hy) hfin (n3 i hkw) hnar hfit (by simpa using hkn) hd key
      | true =>
        have hput : (Nat.beq (xow M) x.2.2.1 && decide ((xnm M).name = "<init>")) = true := by rw [hfin] at hput; exact hput
        rw [Bool.and_eq_true] at hput
        have p1 : xow M = x.2.2.1 := Nat.eq_of_beq_eq_true hput.1
        exact va_putF (ref := w.1) (v := (.int v0)) (ty := xty x.2.2.1 i) C.2.1 C.2.2.1 C.2.2.2.2.2.1 n2 (xty x.2.2.1) n3 n6 C.2.2.2.2.1 C.2.2.2.2.2.2.2.1 h1.2.1 h1.2.2.1 h2 (e0 - 2) he w1 i hkw w5 (fun y hy => by rw [w3] at hy; exact hy) hfin (C.2.2.2.2.2.2.1 (of_decide_eq_true hput.2)) (by rw [w3, p1]; exact xos_cl w1) (n3 i hkw) hnar hfit (by simpa using hkn) hd key
  · cases hs

theorem xo_putL {i : Nat} (C : XC M N U Ls fr lo p l e R s m args below meth c D cA base b xs ads0 u0 gz) (hi : xins M pc = some (.instanceof i, aux, nx)) (hs : xd_putL i aux nx L st h o acc = some r) (ha : r.2.2.2.2.2) (k : WX p l e R s m args below meth c Q D cA base b Ls xs full ads0 u0 gz r.1 r.2.1 r.2.2.1 r.2.2.2.1) : acc ∧ WX p l e R s m args below meth c Q D cA base b Ls xs full ads0 u0 gz pc L st h := by
  obtain ⟨q, hq, hn, hd⟩ := xdecode hi
  subst hn
  obtain ⟨x, hx, hf, rfl⟩ := xfilt hq
  simp only [Bool.and_eq_true] at hf
  obtain ⟨f1, f2, f3, f4, f5⟩ := hf
  have f1 : x.1 = xow M := Nat.eq_of_beq_eq_true f1
  have f2 : x.2.2.1 + 1 = aux := Nat.eq_of_beq_eq_true f2
  have f3 : x.2.2.2.1 = i := Nat.eq_of_beq_eq_true f3
  have f4 : xft x.2.2.1 i = 1 := Nat.eq_of_beq_eq_true f4
  obtain ⟨w, w1, w2, w3, w4⟩ := xfl_spec hx
  obtain ⟨-, n1, n2, n3, n4, n5, n6⟩ := xcl_facts w1
  have hl13 : x.2.2.1 < 13 := (List.getElem?_eq_some_iff.mp w1).1
  have hkn : i < xnf x.2.2.1 := by rw [← n1, ← f3]; exact w2
  have hkw : i < w.2.2 := by rw [← f3]; exact w2
  have w5 := C.2.2.2.2.2.1 _ w4
  rw [f1, f3] at w5
  have w3 : (w.2.1 i).1 = w.1 := by rw [← f3]; exact w3
  unfold xd_putL at hs
  split at hs
  · rename_i v0 kd e0 st0
    cases hk : (Nat.beq kd aux) with
    | false => rw [hk] at hs; cases hs
    | true =>
      rw [hk] at hs
      have hk : kd = aux := Nat.eq_of_beq_eq_true hk
      obtain rfl := Option.some.inj hs
      have hac : acc := ha
      refine ⟨hac, fun t H locs ls h1 h2 h3 h4 h5 h6 => ?_⟩
      rcases h5.2.1 with ⟨z, -⟩ | ⟨-, o1, o2, o3⟩
      · omega
      have hS : xS h e0 = x.2.2.1 + 1 := by omega
      have he := xws_at (cA := cA) (ads := ads0 ++ t) (b := b) o1 o2
      rw [xce_obj (ci := x.2.2.1) hS hl13] at he
      have ea : xcv (ads0 ++ t) b (.inr (kd, e0)) = .ref ((ads0 ++ t).getD (e0 - 2) 0) := congrArg Value.ref (xad_at o1)
      rw [List.map_cons, List.map_cons, ea]
      have hnar : narrow (xty x.2.2.1 i) (.long v0) = .long v0 := by rw [xtc_1 f4]; rfl
      have hfit : fits (xty x.2.2.1 i) (.long v0) = true := by rw [xtc_1 f4]; rfl
      have key : ∀ (H1 : Heap) (locs1 : List Loc), va_P D xcl ((xws cA (ads0 ++ t) b h).set (e0 - 2) ((ads0 ++ t).getD (e0 - 2) 0, .inr (x.2.2.1, ((List.range (xnf x.2.2.1)).map (xfv (ads0 ++ t) b h e0 x.2.2.1)).set i ((.long v0))))) H1 → va_D (fun q : Nat => base ≤ q) ((xws cA (ads0 ++ t) b h).set (e0 - 2) ((ads0 ++ t).getD (e0 - 2) 0, .inr (x.2.2.1, ((List.range (xnf x.2.2.1)).map (xfv (ads0 ++ t) b h e0 x.2.2.1)).set i ((.long v0))))) → va_S (fun q : Nat => base ≤ q) s.heap H1 locs1 → W p l e R s m args below meth c H1 locs1 (xN h + gz.1 - (ads0.length + 2)) (xU h + gz.2 - u0) Q (F0 m (pc + 3) ls (st0.map (xcv (ads0 ++ t) b))) := by
        intro H1 locs1 hP hD hS1
        have e1 : (xws cA (ads0 ++ t) b h).set (e0 - 2) ((ads0 ++ t).getD (e0 - 2) 0, .inr (x.2.2.1, ((List.range (xnf x.2.2.1)).map (xfv (ads0 ++ t) b h e0 x.2.2.1)).set i ((.long v0)))) = xws cA (ads0 ++ t) b (xsetL h e0 i v0) := by
          refine xws_set o1 o2 rfl ?_ (fun c' hc' _ => ?_)
          · rw [xce_obj (h := xsetL h e0 i v0) (ci := x.2.2.1) hS hl13]
            refine congrArg Sum.inr (congrArg (Prod.mk x.2.2.1) (lset_map hkn ?_ (fun j hj => ?_)).symm)
            · show xfv (ads0 ++ t) b (xsetL h e0 i v0) e0 x.2.2.1 i = .long v0
              unfold xfv
              rw [f4]
              exact congrArg Value.long xu_self
            · exact xfv_congr rfl (xu_nk hj) rfl
          · exact xce_congr rfl rfl (xu_ne hc') rfl
        rw [e1] at hP hD
        exact k t H1 locs1 ls (xrel_wL h1 o1 o2 (fun c' hc' => xu_ne hc') hP hD) hS1 h3 (xvl_mono (h := h) (h' := xsetL h e0 i v0) (fun _ _ z => z) h4) (xvs_mono (h := h) (h' := xsetL h e0 i v0) (fun _ _ z => z) h5.2.2) h6
      have hput : xput M x.2.2.1 i = true := f5
      unfold xput at hput
      rw [w1] at hput
      dsimp only at hput
      cases hfin : (w.2.1 i).2.2.2 with
      | false => exact va_put (ref := w.1) (v := (.long v0)) (ty := xty x.2.2.1 i) C.2.1 C.2.2.1 C.2.2.2.2.2.1 n2 (xty x.2.2.1) n3 n6 C.2.2.2.2.1 C.2.2.2.2.2.2.2.1 h1.2.1 h1.2.2.1 h2 (e0 - 2) he w1 i hkw w5 (fun y hy => by rw [w3] at hy; exact hy) hfin (n3 i hkw) hnar hfit (by simpa using hkn) hd key
      | true =>
        have hput : (Nat.beq (xow M) x.2.2.1 && decide ((xnm M).name = "<init>")) = true := by rw [hfin] at hput; exact hput
        rw [Bool.and_eq_true] at hput
        have p1 : xow M = x.2.2.1 := Nat.eq_of_beq_eq_true hput.1
        exact va_putF (ref := w.1) (v := (.long v0)) (ty := xty x.2.2.1 i) C.2.1 C.2.2.1 C.2.2.2.2.2.1 n2 (xty x.2.2.1) n3 n6 C.2.2.2.2.1 C.2.2.2.2.2.2.2.1 h1.2.1 h1.2.2.1 h2 (e0 - 2) he w1 i hkw w5 (fun y hy => by rw [w3] at hy; exact hy) hfin (C.2.2.2.2.2.2.1 (of_decide_eq_true hput.2)) (by rw [w3, p1]; exact xos_cl w1) (n3 i hkw) hnar hfit (by simpa using hkn) hd key
  · cases hs

theorem xo_putR {i : Nat} (C : XC M N U Ls fr lo p l e R s m args below meth c D cA base b xs ads0 u0 gz) (hi : xins M pc = some (.putstatic i, aux, nx)) (hs : xd_putR i aux nx L st h o acc = some r) (ha : r.2.2.2.2.2) (k : WX p l e R s m args below meth c Q D cA base b Ls xs full ads0 u0 gz r.1 r.2.1 r.2.2.1 r.2.2.2.1) : acc ∧ WX p l e R s m args below meth c Q D cA base b Ls xs full ads0 u0 gz pc L st h := by
  obtain ⟨q, hq, hn, hd⟩ := xdecode hi
  subst hn
  obtain ⟨x, hx, hf, rfl⟩ := xfilt hq
  simp only [Bool.and_eq_true] at hf
  obtain ⟨f1, f2, f3, f4, f5⟩ := hf
  have f1 : x.1 = xow M := Nat.eq_of_beq_eq_true f1
  have f2 : x.2.2.1 + 1 = aux := Nat.eq_of_beq_eq_true f2
  have f3 : x.2.2.2.1 = i := Nat.eq_of_beq_eq_true f3
  have f4 : xft x.2.2.1 i = 2 := Nat.eq_of_beq_eq_true f4
  obtain ⟨w, w1, w2, w3, w4⟩ := xfl_spec hx
  obtain ⟨-, n1, n2, n3, n4, n5, n6⟩ := xcl_facts w1
  have hl13 : x.2.2.1 < 13 := (List.getElem?_eq_some_iff.mp w1).1
  have hkn : i < xnf x.2.2.1 := by rw [← n1, ← f3]; exact w2
  have hkw : i < w.2.2 := by rw [← f3]; exact w2
  have w5 := C.2.2.2.2.2.1 _ w4
  rw [f1, f3] at w5
  have w3 : (w.2.1 i).1 = w.1 := by rw [← f3]; exact w3
  unfold xd_putR at hs
  split at hs
  · rename_i kv v0 kd e0 st0
    cases hk : (Nat.beq kd aux && (Nat.beq kv (xfk kd i) && !Nat.beq kv 50)) with
    | false => rw [hk] at hs; cases hs
    | true =>
      rw [hk] at hs
      rw [Bool.and_eq_true, Bool.and_eq_true] at hk
      have hk2 : kv = xfk kd i := Nat.eq_of_beq_eq_true hk.2.1
      have hk3 : (!Nat.beq kv 50) = true := hk.2.2
      have hk : kd = aux := Nat.eq_of_beq_eq_true hk.1
      obtain rfl := Option.some.inj hs
      have hac : acc := ha
      refine ⟨hac, fun t H locs ls h1 h2 h3 h4 h5 h6 => ?_⟩
      rcases h5.2.1 with ⟨z, -⟩ | ⟨-, o1, o2, o3⟩
      · omega
      have hS : xS h e0 = x.2.2.1 + 1 := by omega
      have he := xws_at (cA := cA) (ads := ads0 ++ t) (b := b) o1 o2
      rw [xce_obj (ci := x.2.2.1) hS hl13] at he
      have ea : xcv (ads0 ++ t) b (.inr (kd, e0)) = .ref ((ads0 ++ t).getD (e0 - 2) 0) := congrArg Value.ref (xad_at o1)
      rw [List.map_cons, List.map_cons, ea]
      have hok : xok h (xfk (xS h e0) i) v0 := by
        rcases h5.1 with ⟨z, -⟩ | ⟨-, z⟩
        · rw [z] at hk3; cases hk3
        · rw [o3, ← hk2]; exact z
      have hnar : narrow (xty x.2.2.1 i) (.ref (xad (ads0 ++ t) b v0)) = .ref (xad (ads0 ++ t) b v0) := by
        rcases xtc_2 f4 with ⟨a, z⟩ | ⟨a, z⟩ <;> rw [z] <;> rfl
      have hfit : fits (xty x.2.2.1 i) (.ref (xad (ads0 ++ t) b v0)) = true := by
        rcases xtc_2 f4 with ⟨a, z⟩ | ⟨a, z⟩ <;> rw [z] <;> rfl
      have key : ∀ (H1 : Heap) (locs1 : List Loc), va_P D xcl ((xws cA (ads0 ++ t) b h).set (e0 - 2) ((ads0 ++ t).getD (e0 - 2) 0, .inr (x.2.2.1, ((List.range (xnf x.2.2.1)).map (xfv (ads0 ++ t) b h e0 x.2.2.1)).set i ((.ref (xad (ads0 ++ t) b v0)))))) H1 → va_D (fun q : Nat => base ≤ q) ((xws cA (ads0 ++ t) b h).set (e0 - 2) ((ads0 ++ t).getD (e0 - 2) 0, .inr (x.2.2.1, ((List.range (xnf x.2.2.1)).map (xfv (ads0 ++ t) b h e0 x.2.2.1)).set i ((.ref (xad (ads0 ++ t) b v0)))))) → va_S (fun q : Nat => base ≤ q) s.heap H1 locs1 → W p l e R s m args below meth c H1 locs1 (xN h + gz.1 - (ads0.length + 2)) (xU h + gz.2 - u0) Q (F0 m (pc + 3) ls (st0.map (xcv (ads0 ++ t) b))) := by
        intro H1 locs1 hP hD hS1
        have e1 : (xws cA (ads0 ++ t) b h).set (e0 - 2) ((ads0 ++ t).getD (e0 - 2) 0, .inr (x.2.2.1, ((List.range (xnf x.2.2.1)).map (xfv (ads0 ++ t) b h e0 x.2.2.1)).set i ((.ref (xad (ads0 ++ t) b v0))))) = xws cA (ads0 ++ t) b (xsetR h e0 i v0) := by
          refine xws_set o1 o2 rfl ?_ (fun c' hc' _ => ?_)
          · rw [xce_obj (h := xsetR h e0 i v0) (ci := x.2.2.1) hS hl13]
            refine congrArg Sum.inr (congrArg (Prod.mk x.2.2.1) (lset_map hkn ?_ (fun j hj => ?_)).symm)
            · show xfv (ads0 ++ t) b (xsetR h e0 i v0) e0 x.2.2.1 i = .ref (xad (ads0 ++ t) b v0)
              unfold xfv
              rw [f4]
              show (if xu h.2.2.1 e0 i v0 e0 i = 0 then Value.null else Value.ref (xad (ads0 ++ t) b (xu h.2.2.1 e0 i v0 e0 i))) = _
              rw [xu_self, if_neg (by have := hok.1; omega)]
            · exact xfv_congr rfl rfl (xu_nk hj)
          · exact xce_congr rfl rfl rfl (xu_ne hc')
        rw [e1] at hP hD
        exact k t H1 locs1 ls (xrel_wR h1 o1 o2 hok hP hD) hS1 h3 (xvl_mono (h := h) (h' := xsetR h e0 i v0) (fun _ _ z => z) h4) (xvs_mono (h := h) (h' := xsetR h e0 i v0) (fun _ _ z => z) h5.2.2) h6
      have hput : xput M x.2.2.1 i = true := f5
      unfold xput at hput
      rw [w1] at hput
      dsimp only at hput
      cases hfin : (w.2.1 i).2.2.2 with
      | false => exact va_put (ref := w.1) (v := (.ref (xad (ads0 ++ t) b v0))) (ty := xty x.2.2.1 i) C.2.1 C.2.2.1 C.2.2.2.2.2.1 n2 (xty x.2.2.1) n3 n6 C.2.2.2.2.1 C.2.2.2.2.2.2.2.1 h1.2.1 h1.2.2.1 h2 (e0 - 2) he w1 i hkw w5 (fun y hy => by rw [w3] at hy; exact hy) hfin (n3 i hkw) hnar hfit (by simpa using hkn) hd key
      | true =>
        have hput : (Nat.beq (xow M) x.2.2.1 && decide ((xnm M).name = "<init>")) = true := by rw [hfin] at hput; exact hput
        rw [Bool.and_eq_true] at hput
        have p1 : xow M = x.2.2.1 := Nat.eq_of_beq_eq_true hput.1
        exact va_putF (ref := w.1) (v := (.ref (xad (ads0 ++ t) b v0))) (ty := xty x.2.2.1 i) C.2.1 C.2.2.1 C.2.2.2.2.2.1 n2 (xty x.2.2.1) n3 n6 C.2.2.2.2.1 C.2.2.2.2.2.2.2.1 h1.2.1 h1.2.2.1 h2 (e0 - 2) he w1 i hkw w5 (fun y hy => by rw [w3] at hy; exact hy) hfin (C.2.2.2.2.2.2.1 (of_decide_eq_true hput.2)) (by rw [w3, p1]; exact xos_cl w1) (n3 i hkw) hnar hfit (by simpa using hkn) hd key
  · cases hs

theorem xo_iaload (hsc : sc = none ∨ sc = some (Ls, xs)) (C : XC M N U Ls fr lo p l e R s m args below meth c D cA base b xs ads0 u0 gz) (hi : xins M pc = some (.iaload, aux, nx)) (hs : xd_iaload sc nx L st h o acc = some r) (ha : r.2.2.2.2.2) (k : WX p l e R s m args below meth c Q D cA base b Ls xs full ads0 u0 gz r.1 r.2.1 r.2.2.1 r.2.2.2.1) : acc ∧ WX p l e R s m args below meth c Q D cA base b Ls xs full ads0 u0 gz pc L st h := by
  obtain ⟨q, hq, hn, hd⟩ := xdecode hi
  have hq : q ∈ [(.iaload, 1)] := hq
  obtain rfl := List.mem_singleton.mp hq
  subst hn
  unfold xd_iaload at hs
  split at hs
  · rename_i i0 kd e0 st0
    cases hk : Nat.beq kd 50 with
    | true =>
      rw [hk] at hs
      have hk : kd = 50 := Nat.eq_of_beq_eq_true hk
      rcases hsc with rfl | rfl
      · cases hs
      obtain rfl := Option.some.inj hs
      refine ⟨ha.1, fun t H locs ls h1 h2 h3 h4 h5 h6 => ?_⟩
      rcases h5.2.1 with ⟨-, z⟩ | ⟨z, -⟩
      · subst z
        have ea : xcv (ads0 ++ t) b (.inr (kd, 1)) = .ref b := congrArg Value.ref xad_1
        rw [List.map_cons, List.map_cons, ea]
        exact va_sld C.2.1 C.2.2.1 C.2.2.2.2.2.2.2.2.2.1.1 (Nat.lt_of_lt_of_le C.2.2.2.2.2.2.2.2.2.1.2.1 C.2.2.2.2.2.2.2.2.2.1.2.2) (Nat.not_le.mpr C.2.2.2.2.2.2.2.2.2.1.2.1) h2 ha.2 hd (k t H locs ls h1 h2 h3 h4 ⟨trivial, h5.2.2⟩ h6)
      · exact absurd hk z
    | false =>
      rw [hk] at hs
      cases hk : xin 10000 kd with
      | true =>
        rw [hk] at hs
        obtain rfl := Option.some.inj hs
        refine ⟨ha.1, fun t H locs ls h1 h2 h3 h4 h5 h6 => ?_⟩
        rcases h5.2.1 with ⟨z, -⟩ | ⟨-, o1, o2, o3⟩
        · have := xin_spec hk; omega
        have he := xws_at (cA := cA) (ads := ads0 ++ t) (b := b) o1 o2
        rw [xce_i o3 hk] at he
        have ea : xcv (ads0 ++ t) b (.inr (kd, e0)) = .ref ((ads0 ++ t).getD (e0 - 2) 0) := congrArg Value.ref (xad_at o1)
        rw [List.map_cons, List.map_cons, ea]
        exact va_iald C.2.1 C.2.2.1 C.2.2.2.2.2.2.2.1 h1.2.1 (e0 - 2) 0 he rfl ha.2 hd (k t H locs ls h1 h2 h3 h4 ⟨trivial, h5.2.2⟩ h6)
      | false =>
        rw [hk] at hs
        cases hs
  · cases hs

theorem xo_baload (C : XC M N U Ls fr lo p l e R s m args below meth c D cA base b xs ads0 u0 gz) (hi : xins M pc = some (.baload, aux, nx)) (hs : xd_baload nx L st h o acc = some r) (ha : r.2.2.2.2.2) (k : WX p l e R s m args below meth c Q D cA base b Ls xs full ads0 u0 gz r.1 r.2.1 r.2.2.1 r.2.2.2.1) : acc ∧ WX p l e R s m args below meth c Q D cA base b Ls xs full ads0 u0 gz pc L st h := by
  obtain ⟨q, hq, hn, hd⟩ := xdecode hi
  have hq : q ∈ [(.baload, 1)] := hq
  obtain rfl := List.mem_singleton.mp hq
  subst hn
  unfold xd_baload at hs
  split at hs
  · rename_i i0 kd e0 st0
    cases hk : xin 20000 kd with
    | true =>
      rw [hk] at hs
      obtain rfl := Option.some.inj hs
      refine ⟨ha.1, fun t H locs ls h1 h2 h3 h4 h5 h6 => ?_⟩
      rcases h5.2.1 with ⟨z, -⟩ | ⟨-, o1, o2, o3⟩
      · have := xin_spec hk; omega
      have he := xws_at (cA := cA) (ads := ads0 ++ t) (b := b) o1 o2
      rw [xce_b o3 hk] at he
      have ea : xcv (ads0 ++ t) b (.inr (kd, e0)) = .ref ((ads0 ++ t).getD (e0 - 2) 0) := congrArg Value.ref (xad_at o1)
      rw [List.map_cons, List.map_cons, ea]
      exact va_bald C.2.1 C.2.2.1 C.2.2.2.2.2.2.2.1 h1.2.1 (e0 - 2) 1 he rfl ha.2 hd (k t H locs ls h1 h2 h3 h4 ⟨trivial, h5.2.2⟩ h6)
    | false =>
      rw [hk] at hs
      cases hk : xin 30000 kd with
      | true =>
        rw [hk] at hs
        obtain rfl := Option.some.inj hs
        refine ⟨ha.1, fun t H locs ls h1 h2 h3 h4 h5 h6 => ?_⟩
        rcases h5.2.1 with ⟨z, -⟩ | ⟨-, o1, o2, o3⟩
        · have := xin_spec hk; omega
        have he := xws_at (cA := cA) (ads := ads0 ++ t) (b := b) o1 o2
        rw [xce_z o3 hk] at he
        have ea : xcv (ads0 ++ t) b (.inr (kd, e0)) = .ref ((ads0 ++ t).getD (e0 - 2) 0) := congrArg Value.ref (xad_at o1)
        rw [List.map_cons, List.map_cons, ea]
        exact va_zald C.2.1 C.2.2.1 C.2.2.2.2.2.2.2.1 h1.2.1 (e0 - 2) 2 he rfl ha.2 hd (k t H locs ls h1 h2 h3 h4 ⟨trivial, h5.2.2⟩ h6)
      | false =>
        rw [hk] at hs
        cases hs
  · cases hs

theorem xo_laload (C : XC M N U Ls fr lo p l e R s m args below meth c D cA base b xs ads0 u0 gz) (hi : xins M pc = some (.laload, aux, nx)) (hs : xd_laload nx L st h o acc = some r) (ha : r.2.2.2.2.2) (k : WX p l e R s m args below meth c Q D cA base b Ls xs full ads0 u0 gz r.1 r.2.1 r.2.2.1 r.2.2.2.1) : acc ∧ WX p l e R s m args below meth c Q D cA base b Ls xs full ads0 u0 gz pc L st h := by
  obtain ⟨q, hq, hn, hd⟩ := xdecode hi
  have hq : q ∈ [(.laload, 1)] := hq
  obtain rfl := List.mem_singleton.mp hq
  subst hn
  unfold xd_laload at hs
  split at hs
  · rename_i i0 kd e0 st0
    cases hk : xin 40000 kd with
    | true =>
      rw [hk] at hs
      obtain rfl := Option.some.inj hs
      refine ⟨ha.1, fun t H locs ls h1 h2 h3 h4 h5 h6 => ?_⟩
      rcases h5.2.1 with ⟨z, -⟩ | ⟨-, o1, o2, o3⟩
      · have := xin_spec hk; omega
      have he := xws_at (cA := cA) (ads := ads0 ++ t) (b := b) o1 o2
      rw [xce_l o3 hk] at he
      have ea : xcv (ads0 ++ t) b (.inr (kd, e0)) = .ref ((ads0 ++ t).getD (e0 - 2) 0) := congrArg Value.ref (xad_at o1)
      rw [List.map_cons, List.map_cons, ea]
      exact va_lald C.2.1 C.2.2.1 C.2.2.2.2.2.2.2.1 h1.2.1 (e0 - 2) 3 he rfl ha.2 hd (k t H locs ls h1 h2 h3 h4 ⟨trivial, h5.2.2⟩ h6)
    | false =>
      rw [hk] at hs
      cases hs
  · cases hs

theorem xo_iastore (C : XC M N U Ls fr lo p l e R s m args below meth c D cA base b xs ads0 u0 gz) (hi : xins M pc = some (.iastore, aux, nx)) (hs : xd_iastore nx L st h o acc = some r) (ha : r.2.2.2.2.2) (k : WX p l e R s m args below meth c Q D cA base b Ls xs full ads0 u0 gz r.1 r.2.1 r.2.2.1 r.2.2.2.1) : acc ∧ WX p l e R s m args below meth c Q D cA base b Ls xs full ads0 u0 gz pc L st h := by
  obtain ⟨q, hq, hn, hd⟩ := xdecode hi
  have hq : q ∈ [(.iastore, 1)] := hq
  obtain rfl := List.mem_singleton.mp hq
  subst hn
  unfold xd_iastore at hs
  split at hs
  · rename_i v0 i0 kd e0 st0
    cases hk : xin 10000 kd with
    | true =>
      rw [hk] at hs
      obtain rfl := Option.some.inj hs
      refine ⟨ha.1, fun t H locs ls h1 h2 h3 h4 h5 h6 => ?_⟩
      rcases h5.2.2.1 with ⟨z, -⟩ | ⟨-, o1, o2, o3⟩
      · have := xin_spec hk; omega
      have he := xws_at (cA := cA) (ads := ads0 ++ t) (b := b) o1 o2
      rw [xce_i o3 hk] at he
      have ea : xcv (ads0 ++ t) b (.inr (kd, e0)) = .ref ((ads0 ++ t).getD (e0 - 2) 0) := congrArg Value.ref (xad_at o1)
      rw [List.map_cons, List.map_cons, List.map_cons, ea]
      refine va_iast C.2.1 C.2.2.1 C.2.2.2.2.2.2.2.1 h1.2.1 h1.2.2.1 h2 (e0 - 2) 0 he rfl ha.2 hd (fun H1 locs1 hP hD hS1 => ?_)
      have e1 := xws_set (cA := cA) (ads := ads0 ++ t) (b := b) (h := h) (h' := xsetI h e0 i0.toNatClampNeg v0) o1 o2 rfl (x := .inl (cA 0, kd - 10000, .inl (upd (xI h e0) i0.toNatClampNeg v0))) ?_ (fun c' hc' _ => ?_)
      · rw [e1] at hP hD
        exact k t H1 locs1 ls (xrel_wI h1 o1 o2 (fun c' hc' => xu_ne hc') hP hD) hS1 h3 (xvl_mono (h := h) (h' := xsetI h e0 i0.toNatClampNeg v0) (fun _ _ z => z) h4) (xvs_mono (h := h) (h' := xsetI h e0 i0.toNatClampNeg v0) (fun _ _ z => z) h5.2.2.2) h6
      · rw [xce_i (h := xsetI h e0 i0.toNatClampNeg v0) o3 hk]
        refine congrArg Sum.inl (congrArg (Prod.mk _) (congrArg (Prod.mk _) (congrArg Sum.inl ?_)))
        funext j
        show xu _ e0 i0.toNatClampNeg _ e0 j = upd _ _ _ j
        by_cases hj : j = i0.toNatClampNeg
        · subst hj
          rw [xu_self]
          simp [upd]
        · rw [xu_nk hj]
          simp [upd, hj]
      · exact xce_congr rfl (xu_ne hc') rfl rfl
    | false =>
      rw [hk] at hs
      cases hs
  · cases hs

theorem xo_bastore (C : XC M N U Ls fr lo p l e R s m args below meth c D cA base b xs ads0 u0 gz) (hi : xins M pc = some (.bastore, aux, nx)) (hs : xd_bastore nx L st h o acc = some r) (ha : r.2.2.2.2.2) (k : WX p l e R s m args below meth c Q D cA base b Ls xs full ads0 u0 gz r.1 r.2.1 r.2.2.1 r.2.2.2.1) : acc ∧ WX p l e R s m args below meth c Q D cA base b Ls xs full ads0 u0 gz pc L st h := by
  obtain ⟨q, hq, hn, hd⟩ := xdecode hi
  have hq : q ∈ [(.bastore, 1)] := hq
  obtain rfl := List.mem_singleton.mp hq
  subst hn
  unfold xd_bastore at hs
  split at hs
  · rename_i v0 i0 kd e0 st0
    cases hk : xin 20000 kd with
    | true =>
      rw [hk] at hs
      obtain rfl := Option.some.inj hs
      refine ⟨ha.1, fun t H locs ls h1 h2 h3 h4 h5 h6 => ?_⟩
      rcases h5.2.2.1 with ⟨z, -⟩ | ⟨-, o1, o2, o3⟩
      · have := xin_spec hk; omega
      have he := xws_at (cA := cA) (ads := ads0 ++ t) (b := b) o1 o2
      rw [xce_b o3 hk] at he
      have ea : xcv (ads0 ++ t) b (.inr (kd, e0)) = .ref ((ads0 ++ t).getD (e0 - 2) 0) := congrArg Value.ref (xad_at o1)
      rw [List.map_cons, List.map_cons, List.map_cons, ea]
      refine va_bast C.2.1 C.2.2.1 C.2.2.2.2.2.2.2.1 h1.2.1 h1.2.2.1 h2 (e0 - 2) 1 he rfl ha.2 hd (fun H1 locs1 hP hD hS1 => ?_)
      have e1 := xws_set (cA := cA) (ads := ads0 ++ t) (b := b) (h := h) (h' := xsetI h e0 i0.toNatClampNeg (vp_nar .byte v0)) o1 o2 rfl (x := .inl (cA 1, kd - 20000, .inl (upd (xI h e0) i0.toNatClampNeg (vp_nar .byte v0)))) ?_ (fun c' hc' _ => ?_)
      · rw [e1] at hP hD
        exact k t H1 locs1 ls (xrel_wI h1 o1 o2 (fun c' hc' => xu_ne hc') hP hD) hS1 h3 (xvl_mono (h := h) (h' := xsetI h e0 i0.toNatClampNeg (vp_nar .byte v0)) (fun _ _ z => z) h4) (xvs_mono (h := h) (h' := xsetI h e0 i0.toNatClampNeg (vp_nar .byte v0)) (fun _ _ z => z) h5.2.2.2) h6
      · rw [xce_b (h := xsetI h e0 i0.toNatClampNeg (vp_nar .byte v0)) o3 hk]
        refine congrArg Sum.inl (congrArg (Prod.mk _) (congrArg (Prod.mk _) (congrArg Sum.inl ?_)))
        funext j
        show xu _ e0 i0.toNatClampNeg _ e0 j = upd _ _ _ j
        by_cases hj : j = i0.toNatClampNeg
        · subst hj
          rw [xu_self]
          simp [upd]
        · rw [xu_nk hj]
          simp [upd, hj]
      · exact xce_congr rfl (xu_ne hc') rfl rfl
    | false =>
      rw [hk] at hs
      cases hk : xin 30000 kd with
      | true =>
        rw [hk] at hs
        obtain rfl := Option.some.inj hs
        refine ⟨ha.1, fun t H locs ls h1 h2 h3 h4 h5 h6 => ?_⟩
        rcases h5.2.2.1 with ⟨z, -⟩ | ⟨-, o1, o2, o3⟩
        · have := xin_spec hk; omega
        have he := xws_at (cA := cA) (ads := ads0 ++ t) (b := b) o1 o2
        rw [xce_z o3 hk] at he
        have ea : xcv (ads0 ++ t) b (.inr (kd, e0)) = .ref ((ads0 ++ t).getD (e0 - 2) 0) := congrArg Value.ref (xad_at o1)
        rw [List.map_cons, List.map_cons, List.map_cons, ea]
        refine va_zast C.2.1 C.2.2.1 C.2.2.2.2.2.2.2.1 h1.2.1 h1.2.2.1 h2 (e0 - 2) 2 he rfl ha.2 hd (fun H1 locs1 hP hD hS1 => ?_)
        have e1 := xws_set (cA := cA) (ads := ads0 ++ t) (b := b) (h := h) (h' := xsetI h e0 i0.toNatClampNeg (vp_nar .boolean v0)) o1 o2 rfl (x := .inl (cA 2, kd - 30000, .inl (upd (xI h e0) i0.toNatClampNeg (vp_nar .boolean v0)))) ?_ (fun c' hc' _ => ?_)
        · rw [e1] at hP hD
          exact k t H1 locs1 ls (xrel_wI h1 o1 o2 (fun c' hc' => xu_ne hc') hP hD) hS1 h3 (xvl_mono (h := h) (h' := xsetI h e0 i0.toNatClampNeg (vp_nar .boolean v0)) (fun _ _ z => z) h4) (xvs_mono (h := h) (h' := xsetI h e0 i0.toNatClampNeg (vp_nar .boolean v0)) (fun _ _ z => z) h5.2.2.2) h6
        · rw [xce_z (h := xsetI h e0 i0.toNatClampNeg (vp_nar .boolean v0)) o3 hk]
          refine congrArg Sum.inl (congrArg (Prod.mk _) (congrArg (Prod.mk _) (congrArg Sum.inl ?_)))
          funext j
          show xu _ e0 i0.toNatClampNeg _ e0 j = upd _ _ _ j
          by_cases hj : j = i0.toNatClampNeg
          · subst hj
            rw [xu_self]
            simp [upd]
          · rw [xu_nk hj]
            simp [upd, hj]
        · exact xce_congr rfl (xu_ne hc') rfl rfl
      | false =>
        rw [hk] at hs
        cases hs
  · cases hs

theorem xo_lastore (C : XC M N U Ls fr lo p l e R s m args below meth c D cA base b xs ads0 u0 gz) (hi : xins M pc = some (.lastore, aux, nx)) (hs : xd_lastore nx L st h o acc = some r) (ha : r.2.2.2.2.2) (k : WX p l e R s m args below meth c Q D cA base b Ls xs full ads0 u0 gz r.1 r.2.1 r.2.2.1 r.2.2.2.1) : acc ∧ WX p l e R s m args below meth c Q D cA base b Ls xs full ads0 u0 gz pc L st h := by
  obtain ⟨q, hq, hn, hd⟩ := xdecode hi
  have hq : q ∈ [(.lastore, 1)] := hq
  obtain rfl := List.mem_singleton.mp hq
  subst hn
  unfold xd_lastore at hs
  split at hs
  · rename_i v0 i0 kd e0 st0
    cases hk : xin 40000 kd with
    | true =>
      rw [hk] at hs
      obtain rfl := Option.some.inj hs
      refine ⟨ha.1, fun t H locs ls h1 h2 h3 h4 h5 h6 => ?_⟩
      rcases h5.2.2.1 with ⟨z, -⟩ | ⟨-, o1, o2, o3⟩
      · have := xin_spec hk; omega
      have he := xws_at (cA := cA) (ads := ads0 ++ t) (b := b) o1 o2
      rw [xce_l o3 hk] at he
      have ea : xcv (ads0 ++ t) b (.inr (kd, e0)) = .ref ((ads0 ++ t).getD (e0 - 2) 0) := congrArg Value.ref (xad_at o1)
      rw [List.map_cons, List.map_cons, List.map_cons, ea]
      refine va_last C.2.1 C.2.2.1 C.2.2.2.2.2.2.2.1 h1.2.1 h1.2.2.1 h2 (e0 - 2) 3 he rfl ha.2 hd (fun H1 locs1 hP hD hS1 => ?_)
      have e1 := xws_set (cA := cA) (ads := ads0 ++ t) (b := b) (h := h) (h' := xsetL h e0 i0.toNatClampNeg v0) o1 o2 rfl (x := .inl (cA 3, kd - 40000, .inr (.inl (vp_updL (xL h e0) i0.toNatClampNeg v0)))) ?_ (fun c' hc' _ => ?_)
      · rw [e1] at hP hD
        exact k t H1 locs1 ls (xrel_wL h1 o1 o2 (fun c' hc' => xu_ne hc') hP hD) hS1 h3 (xvl_mono (h := h) (h' := xsetL h e0 i0.toNatClampNeg v0) (fun _ _ z => z) h4) (xvs_mono (h := h) (h' := xsetL h e0 i0.toNatClampNeg v0) (fun _ _ z => z) h5.2.2.2) h6
      · rw [xce_l (h := xsetL h e0 i0.toNatClampNeg v0) o3 hk]
        refine congrArg Sum.inl (congrArg (Prod.mk _) (congrArg (Prod.mk _) (congrArg Sum.inr (congrArg Sum.inl ?_))))
        funext j
        show xu _ e0 i0.toNatClampNeg _ e0 j = vp_updL _ _ _ j
        by_cases hj : j = i0.toNatClampNeg
        · subst hj
          rw [xu_self]
          simp [vp_updL]
        · rw [xu_nk hj]
          simp [vp_updL, hj]
      · exact xce_congr rfl rfl (xu_ne hc') rfl
    | false =>
      rw [hk] at hs
      cases hs
  · cases hs

end XHeap
